theorem dX10_init_0 : decode cX10_init 0 = .ok (.aload_n 0, 1) := by decide +kernel
theorem dX10_init_1 : decode cX10_init 1 = .ok (.invokespecial 1, 3) := by decide +kernel
theorem dX10_init_4 : decode cX10_init 4 = .ok (.aload_n 0, 1) := by decide +kernel
theorem dX10_init_5 : decode cX10_init 5 = .ok (.iconst 0, 1) := by decide +kernel
theorem dX10_init_6 : decode cX10_init 6 = .ok (.putfield 7, 3) := by decide +kernel
theorem dX10_init_9 : decode cX10_init 9 = .ok (.aload_n 0, 1) := by decide +kernel
theorem dX10_init_10 : decode cX10_init 10 = .ok (.new 13, 3) := by decide +kernel
theorem dX10_init_13 : decode cX10_init 13 = .ok (.dup, 1) := by decide +kernel
theorem dX10_init_14 : decode cX10_init 14 = .ok (.invokespecial 15, 3) := by decide +kernel
theorem dX10_init_17 : decode cX10_init 17 = .ok (.putfield 16, 3) := by decide +kernel
theorem dX10_init_20 : decode cX10_init 20 = .ok (.aload_n 0, 1) := by decide +kernel
theorem dX10_init_21 : decode cX10_init 21 = .ok (.new 20, 3) := by decide +kernel
theorem dX10_init_24 : decode cX10_init 24 = .ok (.dup, 1) := by decide +kernel
theorem dX10_init_25 : decode cX10_init 25 = .ok (.invokespecial 22, 3) := by decide +kernel
theorem dX10_init_28 : decode cX10_init 28 = .ok (.putfield 23, 3) := by decide +kernel
theorem dX10_init_31 : decode cX10_init 31 = .ok (.aload_n 0, 1) := by decide +kernel
theorem dX10_init_32 : decode cX10_init 32 = .ok (.bipush 10, 2) := by decide +kernel
theorem dX10_init_34 : decode cX10_init 34 = .ok (.newarray .int, 2) := by decide +kernel
theorem dX10_init_36 : decode cX10_init 36 = .ok (.putfield 27, 3) := by decide +kernel
theorem dX10_init_39 : decode cX10_init 39 = .ok (.aload_n 0, 1) := by decide +kernel
theorem dX10_init_40 : decode cX10_init 40 = .ok (.bipush 9, 2) := by decide +kernel
theorem dX10_init_42 : decode cX10_init 42 = .ok (.newarray .int, 2) := by decide +kernel
theorem dX10_init_44 : decode cX10_init 44 = .ok (.putfield 31, 3) := by decide +kernel
theorem dX10_init_47 : decode cX10_init 47 = .ok (.aload_n 0, 1) := by decide +kernel
theorem dX10_init_48 : decode cX10_init 48 = .ok (.iconst (-1), 1) := by decide +kernel
theorem dX10_init_49 : decode cX10_init 49 = .ok (.putfield 34, 3) := by decide +kernel
theorem dX10_init_52 : decode cX10_init 52 = .ok (.new 38, 3) := by decide +kernel
theorem dX10_init_55 : decode cX10_init 55 = .ok (.dup, 1) := by decide +kernel
theorem dX10_init_56 : decode cX10_init 56 = .ok (.iconst 0, 1) := by decide +kernel
theorem dX10_init_57 : decode cX10_init 57 = .ok (.iconst 0, 1) := by decide +kernel
theorem dX10_init_58 : decode cX10_init 58 = .ok (.iconst 0, 1) := by decide +kernel
theorem dX10_init_59 : decode cX10_init 59 = .ok (.newarray .int, 2) := by decide +kernel
theorem dX10_init_61 : decode cX10_init 61 = .ok (.iconst 0, 1) := by decide +kernel
theorem dX10_init_62 : decode cX10_init 62 = .ok (.newarray .int, 2) := by decide +kernel
theorem dX10_init_64 : decode cX10_init 64 = .ok (.iconst 1, 1) := by decide +kernel
theorem dX10_init_65 : decode cX10_init 65 = .ok (.newarray .int, 2) := by decide +kernel
theorem dX10_init_67 : decode cX10_init 67 = .ok (.iconst 0, 1) := by decide +kernel
theorem dX10_init_68 : decode cX10_init 68 = .ok (.newarray .int, 2) := by decide +kernel
theorem dX10_init_70 : decode cX10_init 70 = .ok (.invokespecial 40, 3) := by decide +kernel
theorem dX10_init_73 : decode cX10_init 73 = .ok (.astore_n 1, 1) := by decide +kernel
theorem dX10_init_74 : decode cX10_init 74 = .ok (.aload_n 0, 1) := by decide +kernel
theorem dX10_init_75 : decode cX10_init 75 = .ok (.new 43, 3) := by decide +kernel
theorem dX10_init_78 : decode cX10_init 78 = .ok (.dup, 1) := by decide +kernel
theorem dX10_init_79 : decode cX10_init 79 = .ok (.aload_n 1, 1) := by decide +kernel
theorem dX10_init_80 : decode cX10_init 80 = .ok (.invokespecial 45, 3) := by decide +kernel
theorem dX10_init_83 : decode cX10_init 83 = .ok (.putfield 48, 3) := by decide +kernel
theorem dX10_init_86 : decode cX10_init 86 = .ok (.aload_n 0, 1) := by decide +kernel
theorem dX10_init_87 : decode cX10_init 87 = .ok (.new 43, 3) := by decide +kernel
theorem dX10_init_90 : decode cX10_init 90 = .ok (.dup, 1) := by decide +kernel
theorem dX10_init_91 : decode cX10_init 91 = .ok (.aload_n 1, 1) := by decide +kernel
theorem dX10_init_92 : decode cX10_init 92 = .ok (.invokespecial 45, 3) := by decide +kernel
theorem dX10_init_95 : decode cX10_init 95 = .ok (.putfield 52, 3) := by decide +kernel
theorem dX10_init_98 : decode cX10_init 98 = .ok (.aload_n 0, 1) := by decide +kernel
theorem dX10_init_99 : decode cX10_init 99 = .ok (.new 43, 3) := by decide +kernel
theorem dX10_init_102 : decode cX10_init 102 = .ok (.dup, 1) := by decide +kernel
theorem dX10_init_103 : decode cX10_init 103 = .ok (.aload_n 1, 1) := by decide +kernel
theorem dX10_init_104 : decode cX10_init 104 = .ok (.invokespecial 45, 3) := by decide +kernel
theorem dX10_init_107 : decode cX10_init 107 = .ok (.putfield 55, 3) := by decide +kernel
theorem dX10_init_110 : decode cX10_init 110 = .ok (.aload_n 0, 1) := by decide +kernel
theorem dX10_init_111 : decode cX10_init 111 = .ok (.new 58, 3) := by decide +kernel
theorem dX10_init_114 : decode cX10_init 114 = .ok (.dup, 1) := by decide +kernel
theorem dX10_init_115 : decode cX10_init 115 = .ok (.aload_n 1, 1) := by decide +kernel
theorem dX10_init_116 : decode cX10_init 116 = .ok (.invokespecial 60, 3) := by decide +kernel
theorem dX10_init_119 : decode cX10_init 119 = .ok (.putfield 61, 3) := by decide +kernel
theorem dX10_init_122 : decode cX10_init 122 = .ok (.aload_n 0, 1) := by decide +kernel
theorem dX10_init_123 : decode cX10_init 123 = .ok (.new 65, 3) := by decide +kernel
theorem dX10_init_126 : decode cX10_init 126 = .ok (.dup, 1) := by decide +kernel
theorem dX10_init_127 : decode cX10_init 127 = .ok (.aload_n 0, 1) := by decide +kernel
theorem dX10_init_128 : decode cX10_init 128 = .ok (.getfield 16, 3) := by decide +kernel
theorem dX10_init_131 : decode cX10_init 131 = .ok (.aload_n 0, 1) := by decide +kernel
theorem dX10_init_132 : decode cX10_init 132 = .ok (.getfield 52, 3) := by decide +kernel
theorem dX10_init_135 : decode cX10_init 135 = .ok (.invokespecial 67, 3) := by decide +kernel
theorem dX10_init_138 : decode cX10_init 138 = .ok (.putfield 70, 3) := by decide +kernel
theorem dX10_init_141 : decode cX10_init 141 = .ok (.aload_n 0, 1) := by decide +kernel
theorem dX10_init_142 : decode cX10_init 142 = .ok (.new 74, 3) := by decide +kernel
theorem dX10_init_145 : decode cX10_init 145 = .ok (.dup, 1) := by decide +kernel
theorem dX10_init_146 : decode cX10_init 146 = .ok (.aload_n 0, 1) := by decide +kernel
theorem dX10_init_147 : decode cX10_init 147 = .ok (.getfield 16, 3) := by decide +kernel
theorem dX10_init_150 : decode cX10_init 150 = .ok (.invokespecial 76, 3) := by decide +kernel
theorem dX10_init_153 : decode cX10_init 153 = .ok (.putfield 79, 3) := by decide +kernel
theorem dX10_init_156 : decode cX10_init 156 = .ok (.aload_n 0, 1) := by decide +kernel
theorem dX10_init_157 : decode cX10_init 157 = .ok (.new 83, 3) := by decide +kernel
theorem dX10_init_160 : decode cX10_init 160 = .ok (.dup, 1) := by decide +kernel
theorem dX10_init_161 : decode cX10_init 161 = .ok (.aload_n 0, 1) := by decide +kernel
theorem dX10_init_162 : decode cX10_init 162 = .ok (.getfield 48, 3) := by decide +kernel
theorem dX10_init_165 : decode cX10_init 165 = .ok (.invokespecial 85, 3) := by decide +kernel
theorem dX10_init_168 : decode cX10_init 168 = .ok (.putfield 88, 3) := by decide +kernel
theorem dX10_init_171 : decode cX10_init 171 = .ok (.aload_n 0, 1) := by decide +kernel
theorem dX10_init_172 : decode cX10_init 172 = .ok (.new 83, 3) := by decide +kernel
theorem dX10_init_175 : decode cX10_init 175 = .ok (.dup, 1) := by decide +kernel
theorem dX10_init_176 : decode cX10_init 176 = .ok (.aload_n 0, 1) := by decide +kernel
theorem dX10_init_177 : decode cX10_init 177 = .ok (.getfield 48, 3) := by decide +kernel
theorem dX10_init_180 : decode cX10_init 180 = .ok (.invokespecial 85, 3) := by decide +kernel
theorem dX10_init_183 : decode cX10_init 183 = .ok (.putfield 92, 3) := by decide +kernel
theorem dX10_init_186 : decode cX10_init 186 = .ok (.aload_n 0, 1) := by decide +kernel
theorem dX10_init_187 : decode cX10_init 187 = .ok (.new 95, 3) := by decide +kernel
theorem dX10_init_190 : decode cX10_init 190 = .ok (.dup, 1) := by decide +kernel
theorem dX10_init_191 : decode cX10_init 191 = .ok (.aload_n 0, 1) := by decide +kernel
theorem dX10_init_192 : decode cX10_init 192 = .ok (.getfield 48, 3) := by decide +kernel
theorem dX10_init_195 : decode cX10_init 195 = .ok (.aload_n 0, 1) := by decide +kernel
theorem dX10_init_196 : decode cX10_init 196 = .ok (.getfield 88, 3) := by decide +kernel
theorem dX10_init_199 : decode cX10_init 199 = .ok (.invokespecial 97, 3) := by decide +kernel
theorem dX10_init_202 : decode cX10_init 202 = .ok (.putfield 100, 3) := by decide +kernel
theorem dX10_init_205 : decode cX10_init 205 = .ok (.return_, 1) := by decide +kernel
theorem dX10_feed_0 : decode cX10_feed 0 = .ok (.aload_n 0, 1) := by decide +kernel
theorem dX10_feed_1 : decode cX10_feed 1 = .ok (.getfield 16, 3) := by decide +kernel
theorem dX10_feed_4 : decode cX10_feed 4 = .ok (.bipush 20, 2) := by decide +kernel
theorem dX10_feed_6 : decode cX10_feed 6 = .ok (.invokevirtual 104, 3) := by decide +kernel
theorem dX10_feed_9 : decode cX10_feed 9 = .ok (.ifCond .ne 5, 3) := by decide +kernel
theorem dX10_feed_12 : decode cX10_feed 12 = .ok (.iconst (-1), 1) := by decide +kernel
theorem dX10_feed_13 : decode cX10_feed 13 = .ok (.ireturn, 1) := by decide +kernel
theorem dX10_feed_14 : decode cX10_feed 14 = .ok (.aload_n 0, 1) := by decide +kernel
theorem dX10_feed_15 : decode cX10_feed 15 = .ok (.getfield 16, 3) := by decide +kernel
theorem dX10_feed_18 : decode cX10_feed 18 = .ok (.iload_n 1, 1) := by decide +kernel
theorem dX10_feed_19 : decode cX10_feed 19 = .ok (.invokevirtual 108, 3) := by decide +kernel
theorem dX10_feed_22 : decode cX10_feed 22 = .ok (.aload_n 0, 1) := by decide +kernel
theorem dX10_feed_23 : decode cX10_feed 23 = .ok (.getfield 16, 3) := by decide +kernel
theorem dX10_feed_26 : decode cX10_feed 26 = .ok (.iload_n 2, 1) := by decide +kernel
theorem dX10_feed_27 : decode cX10_feed 27 = .ok (.invokevirtual 108, 3) := by decide +kernel
theorem dX10_feed_30 : decode cX10_feed 30 = .ok (.aload_n 0, 1) := by decide +kernel
theorem dX10_feed_31 : decode cX10_feed 31 = .ok (.getfield 16, 3) := by decide +kernel
theorem dX10_feed_34 : decode cX10_feed 34 = .ok (.iload_n 3, 1) := by decide +kernel
theorem dX10_feed_35 : decode cX10_feed 35 = .ok (.invokevirtual 108, 3) := by decide +kernel
theorem dX10_feed_38 : decode cX10_feed 38 = .ok (.aload_n 0, 1) := by decide +kernel
theorem dX10_feed_39 : decode cX10_feed 39 = .ok (.getfield 16, 3) := by decide +kernel
theorem dX10_feed_42 : decode cX10_feed 42 = .ok (.iload 4, 2) := by decide +kernel
theorem dX10_feed_44 : decode cX10_feed 44 = .ok (.invokevirtual 108, 3) := by decide +kernel
theorem dX10_feed_47 : decode cX10_feed 47 = .ok (.aload_n 0, 1) := by decide +kernel
theorem dX10_feed_48 : decode cX10_feed 48 = .ok (.getfield 16, 3) := by decide +kernel
theorem dX10_feed_51 : decode cX10_feed 51 = .ok (.iload 5, 2) := by decide +kernel
theorem dX10_feed_53 : decode cX10_feed 53 = .ok (.invokevirtual 108, 3) := by decide +kernel
theorem dX10_feed_56 : decode cX10_feed 56 = .ok (.aload_n 0, 1) := by decide +kernel
theorem dX10_feed_57 : decode cX10_feed 57 = .ok (.getfield 16, 3) := by decide +kernel
theorem dX10_feed_60 : decode cX10_feed 60 = .ok (.getfield 112, 3) := by decide +kernel
theorem dX10_feed_63 : decode cX10_feed 63 = .ok (.ireturn, 1) := by decide +kernel
theorem dX10_end_0 : decode cX10_end 0 = .ok (.iload_n 1, 1) := by decide +kernel
theorem dX10_end_1 : decode cX10_end 1 = .ok (.ifCond .lt 14, 3) := by decide +kernel
theorem dX10_end_4 : decode cX10_end 4 = .ok (.iload_n 1, 1) := by decide +kernel
theorem dX10_end_5 : decode cX10_end 5 = .ok (.aload_n 0, 1) := by decide +kernel
theorem dX10_end_6 : decode cX10_end 6 = .ok (.getfield 16, 3) := by decide +kernel
theorem dX10_end_9 : decode cX10_end 9 = .ok (.getfield 112, 3) := by decide +kernel
theorem dX10_end_12 : decode cX10_end 12 = .ok (.if_icmp .le 5, 3) := by decide +kernel
theorem dX10_end_15 : decode cX10_end 15 = .ok (.iconst 0, 1) := by decide +kernel
theorem dX10_end_16 : decode cX10_end 16 = .ok (.ireturn, 1) := by decide +kernel
theorem dX10_end_17 : decode cX10_end 17 = .ok (.aload_n 0, 1) := by decide +kernel
theorem dX10_end_18 : decode cX10_end 18 = .ok (.getfield 16, 3) := by decide +kernel
theorem dX10_end_21 : decode cX10_end 21 = .ok (.iload_n 1, 1) := by decide +kernel
theorem dX10_end_22 : decode cX10_end 22 = .ok (.putfield 112, 3) := by decide +kernel
theorem dX10_end_25 : decode cX10_end 25 = .ok (.iconst 1, 1) := by decide +kernel
theorem dX10_end_26 : decode cX10_end 26 = .ok (.ireturn, 1) := by decide +kernel
theorem dX10_court_0 : decode cX10_court 0 = .ok (.aload_n 0, 1) := by decide +kernel
theorem dX10_court_1 : decode cX10_court 1 = .ok (.getfield 52, 3) := by decide +kernel
theorem dX10_court_4 : decode cX10_court 4 = .ok (.aload_n 0, 1) := by decide +kernel
theorem dX10_court_5 : decode cX10_court 5 = .ok (.getfield 48, 3) := by decide +kernel
theorem dX10_court_8 : decode cX10_court 8 = .ok (.invokevirtual 115, 3) := by decide +kernel
theorem dX10_court_11 : decode cX10_court 11 = .ok (.aload_n 0, 1) := by decide +kernel
theorem dX10_court_12 : decode cX10_court 12 = .ok (.getfield 70, 3) := by decide +kernel
theorem dX10_court_15 : decode cX10_court 15 = .ok (.invokevirtual 118, 3) := by decide +kernel
theorem dX10_court_18 : decode cX10_court 18 = .ok (.istore_n 1, 1) := by decide +kernel
theorem dX10_court_19 : decode cX10_court 19 = .ok (.aload_n 0, 1) := by decide +kernel
theorem dX10_court_20 : decode cX10_court 20 = .ok (.iload_n 1, 1) := by decide +kernel
theorem dX10_court_21 : decode cX10_court 21 = .ok (.ifCond .eq 7, 3) := by decide +kernel
theorem dX10_court_24 : decode cX10_court 24 = .ok (.iconst (-1), 1) := by decide +kernel
theorem dX10_court_25 : decode cX10_court 25 = .ok (.goto 10, 3) := by decide +kernel
theorem dX10_court_28 : decode cX10_court 28 = .ok (.aload_n 0, 1) := by decide +kernel
theorem dX10_court_29 : decode cX10_court 29 = .ok (.getfield 16, 3) := by decide +kernel
theorem dX10_court_32 : decode cX10_court 32 = .ok (.getfield 122, 3) := by decide +kernel
theorem dX10_court_35 : decode cX10_court 35 = .ok (.putfield 34, 3) := by decide +kernel
theorem dX10_court_38 : decode cX10_court 38 = .ok (.aload_n 0, 1) := by decide +kernel
theorem dX10_court_39 : decode cX10_court 39 = .ok (.getfield 16, 3) := by decide +kernel
theorem dX10_court_42 : decode cX10_court 42 = .ok (.iconst 0, 1) := by decide +kernel
theorem dX10_court_43 : decode cX10_court 43 = .ok (.putfield 112, 3) := by decide +kernel
theorem dX10_court_46 : decode cX10_court 46 = .ok (.iload_n 1, 1) := by decide +kernel
theorem dX10_court_47 : decode cX10_court 47 = .ok (.ifCond .ne 13, 3) := by decide +kernel
theorem dX10_court_50 : decode cX10_court 50 = .ok (.new 125, 3) := by decide +kernel
theorem dX10_court_53 : decode cX10_court 53 = .ok (.dup, 1) := by decide +kernel
theorem dX10_court_54 : decode cX10_court 54 = .ok (.ldc 127, 2) := by decide +kernel
theorem dX10_court_56 : decode cX10_court 56 = .ok (.invokespecial 129, 3) := by decide +kernel
theorem dX10_court_59 : decode cX10_court 59 = .ok (.athrow, 1) := by decide +kernel
theorem dX10_court_60 : decode cX10_court 60 = .ok (.aload_n 0, 1) := by decide +kernel
theorem dX10_court_61 : decode cX10_court 61 = .ok (.getfield 48, 3) := by decide +kernel
theorem dX10_court_64 : decode cX10_court 64 = .ok (.getfield 132, 3) := by decide +kernel
theorem dX10_court_67 : decode cX10_court 67 = .ok (.bipush 12, 2) := by decide +kernel
theorem dX10_court_69 : decode cX10_court 69 = .ok (.if_icmp .lt 13, 3) := by decide +kernel
theorem dX10_court_72 : decode cX10_court 72 = .ok (.new 135, 3) := by decide +kernel
theorem dX10_court_75 : decode cX10_court 75 = .ok (.dup, 1) := by decide +kernel
theorem dX10_court_76 : decode cX10_court 76 = .ok (.ldc 137, 2) := by decide +kernel
theorem dX10_court_78 : decode cX10_court 78 = .ok (.invokespecial 139, 3) := by decide +kernel
theorem dX10_court_81 : decode cX10_court 81 = .ok (.athrow, 1) := by decide +kernel
theorem dX10_court_82 : decode cX10_court 82 = .ok (.aload_n 0, 1) := by decide +kernel
theorem dX10_court_83 : decode cX10_court 83 = .ok (.getfield 48, 3) := by decide +kernel
theorem dX10_court_86 : decode cX10_court 86 = .ok (.aload_n 0, 1) := by decide +kernel
theorem dX10_court_87 : decode cX10_court 87 = .ok (.getfield 52, 3) := by decide +kernel
theorem dX10_court_90 : decode cX10_court 90 = .ok (.invokevirtual 115, 3) := by decide +kernel
theorem dX10_court_93 : decode cX10_court 93 = .ok (.aload_n 0, 1) := by decide +kernel
theorem dX10_court_94 : decode cX10_court 94 = .ok (.getfield 48, 3) := by decide +kernel
theorem dX10_court_97 : decode cX10_court 97 = .ok (.dup, 1) := by decide +kernel
theorem dX10_court_98 : decode cX10_court 98 = .ok (.getfield 132, 3) := by decide +kernel
theorem dX10_court_101 : decode cX10_court 101 = .ok (.iconst 1, 1) := by decide +kernel
theorem dX10_court_102 : decode cX10_court 102 = .ok (.iadd, 1) := by decide +kernel
theorem dX10_court_103 : decode cX10_court 103 = .ok (.putfield 132, 3) := by decide +kernel
theorem dX10_court_106 : decode cX10_court 106 = .ok (.aload_n 0, 1) := by decide +kernel
theorem dX10_court_107 : decode cX10_court 107 = .ok (.getfield 61, 3) := by decide +kernel
theorem dX10_court_110 : decode cX10_court 110 = .ok (.invokevirtual 140, 3) := by decide +kernel
theorem dX10_court_113 : decode cX10_court 113 = .ok (.aload_n 0, 1) := by decide +kernel
theorem dX10_court_114 : decode cX10_court 114 = .ok (.getfield 48, 3) := by decide +kernel
theorem dX10_court_117 : decode cX10_court 117 = .ok (.getfield 132, 3) := by decide +kernel
theorem dX10_court_120 : decode cX10_court 120 = .ok (.ireturn, 1) := by decide +kernel
theorem dX10_law_0 : decode cX10_law 0 = .ok (.aload_n 0, 1) := by decide +kernel
theorem dX10_law_1 : decode cX10_law 1 = .ok (.getfield 79, 3) := by decide +kernel
theorem dX10_law_4 : decode cX10_law 4 = .ok (.invokevirtual 143, 3) := by decide +kernel
theorem dX10_law_7 : decode cX10_law 7 = .ok (.astore_n 1, 1) := by decide +kernel
theorem dX10_law_8 : decode cX10_law 8 = .ok (.aload_n 0, 1) := by decide +kernel
theorem dX10_law_9 : decode cX10_law 9 = .ok (.aload_n 1, 1) := by decide +kernel
theorem dX10_law_10 : decode cX10_law 10 = .ok (.ifnull 7, 3) := by decide +kernel
theorem dX10_law_13 : decode cX10_law 13 = .ok (.iconst (-1), 1) := by decide +kernel
theorem dX10_law_14 : decode cX10_law 14 = .ok (.goto 10, 3) := by decide +kernel
theorem dX10_law_17 : decode cX10_law 17 = .ok (.aload_n 0, 1) := by decide +kernel
theorem dX10_law_18 : decode cX10_law 18 = .ok (.getfield 16, 3) := by decide +kernel
theorem dX10_law_21 : decode cX10_law 21 = .ok (.getfield 122, 3) := by decide +kernel
theorem dX10_law_24 : decode cX10_law 24 = .ok (.putfield 34, 3) := by decide +kernel
theorem dX10_law_27 : decode cX10_law 27 = .ok (.aload_n 0, 1) := by decide +kernel
theorem dX10_law_28 : decode cX10_law 28 = .ok (.getfield 16, 3) := by decide +kernel
theorem dX10_law_31 : decode cX10_law 31 = .ok (.iconst 0, 1) := by decide +kernel
theorem dX10_law_32 : decode cX10_law 32 = .ok (.putfield 112, 3) := by decide +kernel
theorem dX10_law_35 : decode cX10_law 35 = .ok (.aload_n 1, 1) := by decide +kernel
theorem dX10_law_36 : decode cX10_law 36 = .ok (.ifnonnull 13, 3) := by decide +kernel
theorem dX10_law_39 : decode cX10_law 39 = .ok (.new 125, 3) := by decide +kernel
theorem dX10_law_42 : decode cX10_law 42 = .ok (.dup, 1) := by decide +kernel
theorem dX10_law_43 : decode cX10_law 43 = .ok (.ldc 146, 2) := by decide +kernel
theorem dX10_law_45 : decode cX10_law 45 = .ok (.invokespecial 129, 3) := by decide +kernel
theorem dX10_law_48 : decode cX10_law 48 = .ok (.athrow, 1) := by decide +kernel
theorem dX10_law_49 : decode cX10_law 49 = .ok (.aload_n 0, 1) := by decide +kernel
theorem dX10_law_50 : decode cX10_law 50 = .ok (.getfield 48, 3) := by decide +kernel
theorem dX10_law_53 : decode cX10_law 53 = .ok (.aload_n 1, 1) := by decide +kernel
theorem dX10_law_54 : decode cX10_law 54 = .ok (.putfield 148, 3) := by decide +kernel
theorem dX10_law_57 : decode cX10_law 57 = .ok (.aload_n 0, 1) := by decide +kernel
theorem dX10_law_58 : decode cX10_law 58 = .ok (.getfield 61, 3) := by decide +kernel
theorem dX10_law_61 : decode cX10_law 61 = .ok (.invokevirtual 140, 3) := by decide +kernel
theorem dX10_law_64 : decode cX10_law 64 = .ok (.aload_n 1, 1) := by decide +kernel
theorem dX10_law_65 : decode cX10_law 65 = .ok (.getfield 152, 3) := by decide +kernel
theorem dX10_law_68 : decode cX10_law 68 = .ok (.ireturn, 1) := by decide +kernel
theorem dX10_fault_0 : decode cX10_fault 0 = .ok (.aload_n 0, 1) := by decide +kernel
theorem dX10_fault_1 : decode cX10_fault 1 = .ok (.getfield 34, 3) := by decide +kernel
theorem dX10_fault_4 : decode cX10_fault 4 = .ok (.ireturn, 1) := by decide +kernel
theorem dX10_prop_0 : decode cX10_prop 0 = .ok (.aload_n 0, 1) := by decide +kernel
theorem dX10_prop_1 : decode cX10_prop 1 = .ok (.iload_n 1, 1) := by decide +kernel
theorem dX10_prop_2 : decode cX10_prop 2 = .ok (.invokevirtual 155, 3) := by decide +kernel
theorem dX10_prop_5 : decode cX10_prop 5 = .ok (.iload_n 2, 1) := by decide +kernel
theorem dX10_prop_6 : decode cX10_prop 6 = .ok (.tableswitch 70 0 3 #[30, 40, 50, 60], 30) := by decide +kernel
theorem dX10_prop_36 : decode cX10_prop 36 = .ok (.aload_n 0, 1) := by decide +kernel
theorem dX10_prop_37 : decode cX10_prop 37 = .ok (.getfield 48, 3) := by decide +kernel
theorem dX10_prop_40 : decode cX10_prop 40 = .ok (.getfield 158, 3) := by decide +kernel
theorem dX10_prop_43 : decode cX10_prop 43 = .ok (.iload_n 1, 1) := by decide +kernel
theorem dX10_prop_44 : decode cX10_prop 44 = .ok (.iaload, 1) := by decide +kernel
theorem dX10_prop_45 : decode cX10_prop 45 = .ok (.ireturn, 1) := by decide +kernel
theorem dX10_prop_46 : decode cX10_prop 46 = .ok (.aload_n 0, 1) := by decide +kernel
theorem dX10_prop_47 : decode cX10_prop 47 = .ok (.getfield 48, 3) := by decide +kernel
theorem dX10_prop_50 : decode cX10_prop 50 = .ok (.getfield 161, 3) := by decide +kernel
theorem dX10_prop_53 : decode cX10_prop 53 = .ok (.iload_n 1, 1) := by decide +kernel
theorem dX10_prop_54 : decode cX10_prop 54 = .ok (.iaload, 1) := by decide +kernel
theorem dX10_prop_55 : decode cX10_prop 55 = .ok (.ireturn, 1) := by decide +kernel
theorem dX10_prop_56 : decode cX10_prop 56 = .ok (.aload_n 0, 1) := by decide +kernel
theorem dX10_prop_57 : decode cX10_prop 57 = .ok (.getfield 48, 3) := by decide +kernel
theorem dX10_prop_60 : decode cX10_prop 60 = .ok (.getfield 164, 3) := by decide +kernel
theorem dX10_prop_63 : decode cX10_prop 63 = .ok (.iload_n 1, 1) := by decide +kernel
theorem dX10_prop_64 : decode cX10_prop 64 = .ok (.iaload, 1) := by decide +kernel
theorem dX10_prop_65 : decode cX10_prop 65 = .ok (.ireturn, 1) := by decide +kernel
theorem dX10_prop_66 : decode cX10_prop 66 = .ok (.aload_n 0, 1) := by decide +kernel
theorem dX10_prop_67 : decode cX10_prop 67 = .ok (.getfield 48, 3) := by decide +kernel
theorem dX10_prop_70 : decode cX10_prop 70 = .ok (.getfield 167, 3) := by decide +kernel
theorem dX10_prop_73 : decode cX10_prop 73 = .ok (.iload_n 1, 1) := by decide +kernel
theorem dX10_prop_74 : decode cX10_prop 74 = .ok (.iaload, 1) := by decide +kernel
theorem dX10_prop_75 : decode cX10_prop 75 = .ok (.ireturn, 1) := by decide +kernel
theorem dX10_prop_76 : decode cX10_prop 76 = .ok (.new 170, 3) := by decide +kernel
theorem dX10_prop_79 : decode cX10_prop 79 = .ok (.dup, 1) := by decide +kernel
theorem dX10_prop_80 : decode cX10_prop 80 = .ok (.ldc 172, 2) := by decide +kernel
theorem dX10_prop_82 : decode cX10_prop 82 = .ok (.invokespecial 174, 3) := by decide +kernel
theorem dX10_prop_85 : decode cX10_prop 85 = .ok (.athrow, 1) := by decide +kernel
theorem dX10_slot_0 : decode cX10_slot 0 = .ok (.aload_n 0, 1) := by decide +kernel
theorem dX10_slot_1 : decode cX10_slot 1 = .ok (.iload_n 1, 1) := by decide +kernel
theorem dX10_slot_2 : decode cX10_slot 2 = .ok (.invokevirtual 175, 3) := by decide +kernel
theorem dX10_slot_5 : decode cX10_slot 5 = .ok (.aload_n 0, 1) := by decide +kernel
theorem dX10_slot_6 : decode cX10_slot 6 = .ok (.getfield 48, 3) := by decide +kernel
theorem dX10_slot_9 : decode cX10_slot 9 = .ok (.getfield 178, 3) := by decide +kernel
theorem dX10_slot_12 : decode cX10_slot 12 = .ok (.iload_n 1, 1) := by decide +kernel
theorem dX10_slot_13 : decode cX10_slot 13 = .ok (.iaload, 1) := by decide +kernel
theorem dX10_slot_14 : decode cX10_slot 14 = .ok (.ireturn, 1) := by decide +kernel
theorem dX10_accused_0 : decode cX10_accused 0 = .ok (.aload_n 0, 1) := by decide +kernel
theorem dX10_accused_1 : decode cX10_accused 1 = .ok (.iload_n 1, 1) := by decide +kernel
theorem dX10_accused_2 : decode cX10_accused 2 = .ok (.invokevirtual 181, 3) := by decide +kernel
theorem dX10_accused_5 : decode cX10_accused 5 = .ok (.iload_n 2, 1) := by decide +kernel
theorem dX10_accused_6 : decode cX10_accused 6 = .ok (.tableswitch 70 0 3 #[30, 40, 50, 60], 30) := by decide +kernel
theorem dX10_accused_36 : decode cX10_accused 36 = .ok (.aload_n 0, 1) := by decide +kernel
theorem dX10_accused_37 : decode cX10_accused 37 = .ok (.getfield 48, 3) := by decide +kernel
theorem dX10_accused_40 : decode cX10_accused 40 = .ok (.getfield 184, 3) := by decide +kernel
theorem dX10_accused_43 : decode cX10_accused 43 = .ok (.iload_n 1, 1) := by decide +kernel
theorem dX10_accused_44 : decode cX10_accused 44 = .ok (.iaload, 1) := by decide +kernel
theorem dX10_accused_45 : decode cX10_accused 45 = .ok (.ireturn, 1) := by decide +kernel
theorem dX10_accused_46 : decode cX10_accused 46 = .ok (.aload_n 0, 1) := by decide +kernel
theorem dX10_accused_47 : decode cX10_accused 47 = .ok (.getfield 48, 3) := by decide +kernel
theorem dX10_accused_50 : decode cX10_accused 50 = .ok (.getfield 187, 3) := by decide +kernel
theorem dX10_accused_53 : decode cX10_accused 53 = .ok (.iload_n 1, 1) := by decide +kernel
theorem dX10_accused_54 : decode cX10_accused 54 = .ok (.iaload, 1) := by decide +kernel
theorem dX10_accused_55 : decode cX10_accused 55 = .ok (.ireturn, 1) := by decide +kernel
theorem dX10_accused_56 : decode cX10_accused 56 = .ok (.aload_n 0, 1) := by decide +kernel
theorem dX10_accused_57 : decode cX10_accused 57 = .ok (.getfield 48, 3) := by decide +kernel
theorem dX10_accused_60 : decode cX10_accused 60 = .ok (.getfield 190, 3) := by decide +kernel
theorem dX10_accused_63 : decode cX10_accused 63 = .ok (.iload_n 1, 1) := by decide +kernel
theorem dX10_accused_64 : decode cX10_accused 64 = .ok (.iaload, 1) := by decide +kernel
theorem dX10_accused_65 : decode cX10_accused 65 = .ok (.ireturn, 1) := by decide +kernel
theorem dX10_accused_66 : decode cX10_accused 66 = .ok (.aload_n 0, 1) := by decide +kernel
theorem dX10_accused_67 : decode cX10_accused 67 = .ok (.getfield 48, 3) := by decide +kernel
theorem dX10_accused_70 : decode cX10_accused 70 = .ok (.getfield 193, 3) := by decide +kernel
theorem dX10_accused_73 : decode cX10_accused 73 = .ok (.iload_n 1, 1) := by decide +kernel
theorem dX10_accused_74 : decode cX10_accused 74 = .ok (.iaload, 1) := by decide +kernel
theorem dX10_accused_75 : decode cX10_accused 75 = .ok (.ireturn, 1) := by decide +kernel
theorem dX10_accused_76 : decode cX10_accused 76 = .ok (.new 170, 3) := by decide +kernel
theorem dX10_accused_79 : decode cX10_accused 79 = .ok (.dup, 1) := by decide +kernel
theorem dX10_accused_80 : decode cX10_accused 80 = .ok (.ldc 196, 2) := by decide +kernel
theorem dX10_accused_82 : decode cX10_accused 82 = .ok (.invokespecial 174, 3) := by decide +kernel
theorem dX10_accused_85 : decode cX10_accused 85 = .ok (.athrow, 1) := by decide +kernel
theorem dX10_fright_0 : decode cX10_fright 0 = .ok (.aload_n 0, 1) := by decide +kernel
theorem dX10_fright_1 : decode cX10_fright 1 = .ok (.iload_n 1, 1) := by decide +kernel
theorem dX10_fright_2 : decode cX10_fright 2 = .ok (.invokevirtual 181, 3) := by decide +kernel
theorem dX10_fright_5 : decode cX10_fright 5 = .ok (.aload_n 0, 1) := by decide +kernel
theorem dX10_fright_6 : decode cX10_fright 6 = .ok (.iload_n 2, 1) := by decide +kernel
theorem dX10_fright_7 : decode cX10_fright 7 = .ok (.invokevirtual 175, 3) := by decide +kernel
theorem dX10_fright_10 : decode cX10_fright 10 = .ok (.iload_n 3, 1) := by decide +kernel
theorem dX10_fright_11 : decode cX10_fright 11 = .ok (.ifCond .lt 9, 3) := by decide +kernel
theorem dX10_fright_14 : decode cX10_fright 14 = .ok (.iload_n 3, 1) := by decide +kernel
theorem dX10_fright_15 : decode cX10_fright 15 = .ok (.bipush 99, 2) := by decide +kernel
theorem dX10_fright_17 : decode cX10_fright 17 = .ok (.if_icmp .le 13, 3) := by decide +kernel
theorem dX10_fright_20 : decode cX10_fright 20 = .ok (.new 125, 3) := by decide +kernel
theorem dX10_fright_23 : decode cX10_fright 23 = .ok (.dup, 1) := by decide +kernel
theorem dX10_fright_24 : decode cX10_fright 24 = .ok (.ldc 198, 2) := by decide +kernel
theorem dX10_fright_26 : decode cX10_fright 26 = .ok (.invokespecial 129, 3) := by decide +kernel
theorem dX10_fright_29 : decode cX10_fright 29 = .ok (.athrow, 1) := by decide +kernel
theorem dX10_fright_30 : decode cX10_fright 30 = .ok (.aload_n 0, 1) := by decide +kernel
theorem dX10_fright_31 : decode cX10_fright 31 = .ok (.getfield 48, 3) := by decide +kernel
theorem dX10_fright_34 : decode cX10_fright 34 = .ok (.getfield 178, 3) := by decide +kernel
theorem dX10_fright_37 : decode cX10_fright 37 = .ok (.iload_n 2, 1) := by decide +kernel
theorem dX10_fright_38 : decode cX10_fright 38 = .ok (.iaload, 1) := by decide +kernel
theorem dX10_fright_39 : decode cX10_fright 39 = .ok (.ifCond .ge 5, 3) := by decide +kernel
theorem dX10_fright_42 : decode cX10_fright 42 = .ok (.iconst 0, 1) := by decide +kernel
theorem dX10_fright_43 : decode cX10_fright 43 = .ok (.ireturn, 1) := by decide +kernel
theorem dX10_fright_44 : decode cX10_fright 44 = .ok (.aload_n 0, 1) := by decide +kernel
theorem dX10_fright_45 : decode cX10_fright 45 = .ok (.getfield 88, 3) := by decide +kernel
theorem dX10_fright_48 : decode cX10_fright 48 = .ok (.invokevirtual 200, 3) := by decide +kernel
theorem dX10_fright_51 : decode cX10_fright 51 = .ok (.aload_n 0, 1) := by decide +kernel
theorem dX10_fright_52 : decode cX10_fright 52 = .ok (.getfield 88, 3) := by decide +kernel
theorem dX10_fright_55 : decode cX10_fright 55 = .ok (.iload_n 1, 1) := by decide +kernel
theorem dX10_fright_56 : decode cX10_fright 56 = .ok (.invokevirtual 203, 3) := by decide +kernel
theorem dX10_fright_59 : decode cX10_fright 59 = .ok (.aload_n 0, 1) := by decide +kernel
theorem dX10_fright_60 : decode cX10_fright 60 = .ok (.getfield 88, 3) := by decide +kernel
theorem dX10_fright_63 : decode cX10_fright 63 = .ok (.iload_n 2, 1) := by decide +kernel
theorem dX10_fright_64 : decode cX10_fright 64 = .ok (.iload_n 3, 1) := by decide +kernel
theorem dX10_fright_65 : decode cX10_fright 65 = .ok (.invokevirtual 206, 3) := by decide +kernel
theorem dX10_fright_68 : decode cX10_fright 68 = .ok (.astore 5, 2) := by decide +kernel
theorem dX10_fright_70 : decode cX10_fright 70 = .ok (.iload 4, 2) := by decide +kernel
theorem dX10_fright_72 : decode cX10_fright 72 = .ok (.ifCond .eq 18, 3) := by decide +kernel
theorem dX10_fright_75 : decode cX10_fright 75 = .ok (.aload_n 0, 1) := by decide +kernel
theorem dX10_fright_76 : decode cX10_fright 76 = .ok (.getfield 48, 3) := by decide +kernel
theorem dX10_fright_79 : decode cX10_fright 79 = .ok (.getfield 148, 3) := by decide +kernel
theorem dX10_fright_82 : decode cX10_fright 82 = .ok (.aload 5, 2) := by decide +kernel
theorem dX10_fright_84 : decode cX10_fright 84 = .ok (.invokevirtual 210, 3) := by decide +kernel
theorem dX10_fright_87 : decode cX10_fright 87 = .ok (.goto 15, 3) := by decide +kernel
theorem dX10_fright_90 : decode cX10_fright 90 = .ok (.aload_n 0, 1) := by decide +kernel
theorem dX10_fright_91 : decode cX10_fright 91 = .ok (.getfield 48, 3) := by decide +kernel
theorem dX10_fright_94 : decode cX10_fright 94 = .ok (.getfield 148, 3) := by decide +kernel
theorem dX10_fright_97 : decode cX10_fright 97 = .ok (.aload 5, 2) := by decide +kernel
theorem dX10_fright_99 : decode cX10_fright 99 = .ok (.invokevirtual 214, 3) := by decide +kernel
theorem dX10_fright_102 : decode cX10_fright 102 = .ok (.ireturn, 1) := by decide +kernel
theorem dX10_send_0 : decode cX10_send 0 = .ok (.aload_n 0, 1) := by decide +kernel
theorem dX10_send_1 : decode cX10_send 1 = .ok (.iload_n 1, 1) := by decide +kernel
theorem dX10_send_2 : decode cX10_send 2 = .ok (.invokevirtual 181, 3) := by decide +kernel
theorem dX10_send_5 : decode cX10_send 5 = .ok (.aload_n 0, 1) := by decide +kernel
theorem dX10_send_6 : decode cX10_send 6 = .ok (.iload_n 1, 1) := by decide +kernel
theorem dX10_send_7 : decode cX10_send 7 = .ok (.iconst 0, 1) := by decide +kernel
theorem dX10_send_8 : decode cX10_send 8 = .ok (.invokevirtual 217, 3) := by decide +kernel
theorem dX10_send_11 : decode cX10_send 11 = .ok (.aload_n 0, 1) := by decide +kernel
theorem dX10_send_12 : decode cX10_send 12 = .ok (.getfield 61, 3) := by decide +kernel
theorem dX10_send_15 : decode cX10_send 15 = .ok (.aload_n 0, 1) := by decide +kernel
theorem dX10_send_16 : decode cX10_send 16 = .ok (.getfield 48, 3) := by decide +kernel
theorem dX10_send_19 : decode cX10_send 19 = .ok (.invokevirtual 221, 3) := by decide +kernel
theorem dX10_send_22 : decode cX10_send 22 = .ok (.aload_n 0, 1) := by decide +kernel
theorem dX10_send_23 : decode cX10_send 23 = .ok (.getfield 88, 3) := by decide +kernel
theorem dX10_send_26 : decode cX10_send 26 = .ok (.invokevirtual 200, 3) := by decide +kernel
theorem dX10_send_29 : decode cX10_send 29 = .ok (.aload_n 0, 1) := by decide +kernel
theorem dX10_send_30 : decode cX10_send 30 = .ok (.getfield 88, 3) := by decide +kernel
theorem dX10_send_33 : decode cX10_send 33 = .ok (.iload_n 1, 1) := by decide +kernel
theorem dX10_send_34 : decode cX10_send 34 = .ok (.invokevirtual 203, 3) := by decide +kernel
theorem dX10_send_37 : decode cX10_send 37 = .ok (.aload_n 0, 1) := by decide +kernel
theorem dX10_send_38 : decode cX10_send 38 = .ok (.getfield 88, 3) := by decide +kernel
theorem dX10_send_41 : decode cX10_send 41 = .ok (.aload_n 0, 1) := by decide +kernel
theorem dX10_send_42 : decode cX10_send 42 = .ok (.getfield 48, 3) := by decide +kernel
theorem dX10_send_45 : decode cX10_send 45 = .ok (.getfield 224, 3) := by decide +kernel
theorem dX10_send_48 : decode cX10_send 48 = .ok (.putfield 227, 3) := by decide +kernel
theorem dX10_send_51 : decode cX10_send 51 = .ok (.aload_n 0, 1) := by decide +kernel
theorem dX10_send_52 : decode cX10_send 52 = .ok (.getfield 88, 3) := by decide +kernel
theorem dX10_send_55 : decode cX10_send 55 = .ok (.invokevirtual 228, 3) := by decide +kernel
theorem dX10_send_58 : decode cX10_send 58 = .ok (.aload_n 0, 1) := by decide +kernel
theorem dX10_send_59 : decode cX10_send 59 = .ok (.getfield 88, 3) := by decide +kernel
theorem dX10_send_62 : decode cX10_send 62 = .ok (.invokevirtual 231, 3) := by decide +kernel
theorem dX10_send_65 : decode cX10_send 65 = .ok (.aload_n 0, 1) := by decide +kernel
theorem dX10_send_66 : decode cX10_send 66 = .ok (.getfield 88, 3) := by decide +kernel
theorem dX10_send_69 : decode cX10_send 69 = .ok (.getfield 234, 3) := by decide +kernel
theorem dX10_send_72 : decode cX10_send 72 = .ok (.iconst 0, 1) := by decide +kernel
theorem dX10_send_73 : decode cX10_send 73 = .ok (.aload_n 0, 1) := by decide +kernel
theorem dX10_send_74 : decode cX10_send 74 = .ok (.getfield 48, 3) := by decide +kernel
theorem dX10_send_77 : decode cX10_send 77 = .ok (.getfield 164, 3) := by decide +kernel
theorem dX10_send_80 : decode cX10_send 80 = .ok (.iconst 0, 1) := by decide +kernel
theorem dX10_send_81 : decode cX10_send 81 = .ok (.bipush 8, 2) := by decide +kernel
theorem dX10_send_83 : decode cX10_send 83 = .ok (.invokestatic 235, 3) := by decide +kernel
theorem dX10_send_86 : decode cX10_send 86 = .ok (.aload_n 0, 1) := by decide +kernel
theorem dX10_send_87 : decode cX10_send 87 = .ok (.getfield 48, 3) := by decide +kernel
theorem dX10_send_90 : decode cX10_send 90 = .ok (.aload_n 0, 1) := by decide +kernel
theorem dX10_send_91 : decode cX10_send 91 = .ok (.getfield 88, 3) := by decide +kernel
theorem dX10_send_94 : decode cX10_send 94 = .ok (.getfield 227, 3) := by decide +kernel
theorem dX10_send_97 : decode cX10_send 97 = .ok (.putfield 224, 3) := by decide +kernel
theorem dX10_send_100 : decode cX10_send 100 = .ok (.aload_n 0, 1) := by decide +kernel
theorem dX10_send_101 : decode cX10_send 101 = .ok (.getfield 48, 3) := by decide +kernel
theorem dX10_send_104 : decode cX10_send 104 = .ok (.getfield 190, 3) := by decide +kernel
theorem dX10_send_107 : decode cX10_send 107 = .ok (.iload_n 1, 1) := by decide +kernel
theorem dX10_send_108 : decode cX10_send 108 = .ok (.aload_n 0, 1) := by decide +kernel
theorem dX10_send_109 : decode cX10_send 109 = .ok (.getfield 88, 3) := by decide +kernel
theorem dX10_send_112 : decode cX10_send 112 = .ok (.getfield 241, 3) := by decide +kernel
theorem dX10_send_115 : decode cX10_send 115 = .ok (.iastore, 1) := by decide +kernel
theorem dX10_send_116 : decode cX10_send 116 = .ok (.aload_n 0, 1) := by decide +kernel
theorem dX10_send_117 : decode cX10_send 117 = .ok (.getfield 48, 3) := by decide +kernel
theorem dX10_send_120 : decode cX10_send 120 = .ok (.getfield 193, 3) := by decide +kernel
theorem dX10_send_123 : decode cX10_send 123 = .ok (.iload_n 1, 1) := by decide +kernel
theorem dX10_send_124 : decode cX10_send 124 = .ok (.aload_n 0, 1) := by decide +kernel
theorem dX10_send_125 : decode cX10_send 125 = .ok (.getfield 88, 3) := by decide +kernel
theorem dX10_send_128 : decode cX10_send 128 = .ok (.getfield 243, 3) := by decide +kernel
theorem dX10_send_131 : decode cX10_send 131 = .ok (.iconst (-1), 1) := by decide +kernel
theorem dX10_send_132 : decode cX10_send 132 = .ok (.if_icmp .eq 7, 3) := by decide +kernel
theorem dX10_send_135 : decode cX10_send 135 = .ok (.iconst 1, 1) := by decide +kernel
theorem dX10_send_136 : decode cX10_send 136 = .ok (.goto 4, 3) := by decide +kernel
theorem dX10_send_139 : decode cX10_send 139 = .ok (.iconst 2, 1) := by decide +kernel
theorem dX10_send_140 : decode cX10_send 140 = .ok (.iastore, 1) := by decide +kernel
theorem dX10_send_141 : decode cX10_send 141 = .ok (.aload_n 0, 1) := by decide +kernel
theorem dX10_send_142 : decode cX10_send 142 = .ok (.getfield 48, 3) := by decide +kernel
theorem dX10_send_145 : decode cX10_send 145 = .ok (.getfield 246, 3) := by decide +kernel
theorem dX10_send_148 : decode cX10_send 148 = .ok (.aload_n 0, 1) := by decide +kernel
theorem dX10_send_149 : decode cX10_send 149 = .ok (.getfield 48, 3) := by decide +kernel
theorem dX10_send_152 : decode cX10_send 152 = .ok (.getfield 250, 3) := by decide +kernel
theorem dX10_send_155 : decode cX10_send 155 = .ok (.iload_n 1, 1) := by decide +kernel
theorem dX10_send_156 : decode cX10_send 156 = .ok (.aload_n 0, 1) := by decide +kernel
theorem dX10_send_157 : decode cX10_send 157 = .ok (.getfield 88, 3) := by decide +kernel
theorem dX10_send_160 : decode cX10_send 160 = .ok (.getfield 243, 3) := by decide +kernel
theorem dX10_send_163 : decode cX10_send 163 = .ok (.iconst (-1), 1) := by decide +kernel
theorem dX10_send_164 : decode cX10_send 164 = .ok (.if_icmp .eq 13, 3) := by decide +kernel
theorem dX10_send_167 : decode cX10_send 167 = .ok (.aload_n 0, 1) := by decide +kernel
theorem dX10_send_168 : decode cX10_send 168 = .ok (.getfield 88, 3) := by decide +kernel
theorem dX10_send_171 : decode cX10_send 171 = .ok (.getfield 243, 3) := by decide +kernel
theorem dX10_send_174 : decode cX10_send 174 = .ok (.goto 5, 3) := by decide +kernel
theorem dX10_send_177 : decode cX10_send 177 = .ok (.bipush 10, 2) := by decide +kernel
theorem dX10_send_179 : decode cX10_send 179 = .ok (.aload_n 0, 1) := by decide +kernel
theorem dX10_send_180 : decode cX10_send 180 = .ok (.getfield 88, 3) := by decide +kernel
theorem dX10_send_183 : decode cX10_send 183 = .ok (.getfield 253, 3) := by decide +kernel
theorem dX10_send_186 : decode cX10_send 186 = .ok (.invokevirtual 256, 3) := by decide +kernel
theorem dX10_send_189 : decode cX10_send 189 = .ok (.aload_n 0, 1) := by decide +kernel
theorem dX10_send_190 : decode cX10_send 190 = .ok (.getfield 88, 3) := by decide +kernel
theorem dX10_send_193 : decode cX10_send 193 = .ok (.getfield 243, 3) := by decide +kernel
theorem dX10_send_196 : decode cX10_send 196 = .ok (.ireturn, 1) := by decide +kernel
theorem dX10_nail_0 : decode cX10_nail 0 = .ok (.aload_n 0, 1) := by decide +kernel
theorem dX10_nail_1 : decode cX10_nail 1 = .ok (.iload_n 1, 1) := by decide +kernel
theorem dX10_nail_2 : decode cX10_nail 2 = .ok (.invokevirtual 155, 3) := by decide +kernel
theorem dX10_nail_5 : decode cX10_nail 5 = .ok (.aload_n 0, 1) := by decide +kernel
theorem dX10_nail_6 : decode cX10_nail 6 = .ok (.iload_n 2, 1) := by decide +kernel
theorem dX10_nail_7 : decode cX10_nail 7 = .ok (.invokevirtual 175, 3) := by decide +kernel
theorem dX10_nail_10 : decode cX10_nail 10 = .ok (.aload_n 0, 1) := by decide +kernel
theorem dX10_nail_11 : decode cX10_nail 11 = .ok (.getfield 48, 3) := by decide +kernel
theorem dX10_nail_14 : decode cX10_nail 14 = .ok (.getfield 167, 3) := by decide +kernel
theorem dX10_nail_17 : decode cX10_nail 17 = .ok (.iload_n 1, 1) := by decide +kernel
theorem dX10_nail_18 : decode cX10_nail 18 = .ok (.iaload, 1) := by decide +kernel
theorem dX10_nail_19 : decode cX10_nail 19 = .ok (.ifCond .ge 15, 3) := by decide +kernel
theorem dX10_nail_22 : decode cX10_nail 22 = .ok (.aload_n 0, 1) := by decide +kernel
theorem dX10_nail_23 : decode cX10_nail 23 = .ok (.getfield 48, 3) := by decide +kernel
theorem dX10_nail_26 : decode cX10_nail 26 = .ok (.getfield 178, 3) := by decide +kernel
theorem dX10_nail_29 : decode cX10_nail 29 = .ok (.iload_n 2, 1) := by decide +kernel
theorem dX10_nail_30 : decode cX10_nail 30 = .ok (.iaload, 1) := by decide +kernel
theorem dX10_nail_31 : decode cX10_nail 31 = .ok (.ifCond .lt 14, 3) := by decide +kernel
theorem dX10_nail_34 : decode cX10_nail 34 = .ok (.new 262, 3) := by decide +kernel
theorem dX10_nail_37 : decode cX10_nail 37 = .ok (.dup, 1) := by decide +kernel
theorem dX10_nail_38 : decode cX10_nail 38 = .ok (.ldc_w 264, 3) := by decide +kernel
theorem dX10_nail_41 : decode cX10_nail 41 = .ok (.invokespecial 266, 3) := by decide +kernel
theorem dX10_nail_44 : decode cX10_nail 44 = .ok (.athrow, 1) := by decide +kernel
theorem dX10_nail_45 : decode cX10_nail 45 = .ok (.aload_n 0, 1) := by decide +kernel
theorem dX10_nail_46 : decode cX10_nail 46 = .ok (.getfield 61, 3) := by decide +kernel
theorem dX10_nail_49 : decode cX10_nail 49 = .ok (.aload_n 0, 1) := by decide +kernel
theorem dX10_nail_50 : decode cX10_nail 50 = .ok (.getfield 48, 3) := by decide +kernel
theorem dX10_nail_53 : decode cX10_nail 53 = .ok (.invokevirtual 221, 3) := by decide +kernel
theorem dX10_nail_56 : decode cX10_nail 56 = .ok (.aload_n 0, 1) := by decide +kernel
theorem dX10_nail_57 : decode cX10_nail 57 = .ok (.getfield 48, 3) := by decide +kernel
theorem dX10_nail_60 : decode cX10_nail 60 = .ok (.iload_n 1, 1) := by decide +kernel
theorem dX10_nail_61 : decode cX10_nail 61 = .ok (.iload_n 2, 1) := by decide +kernel
theorem dX10_nail_62 : decode cX10_nail 62 = .ok (.invokevirtual 267, 3) := by decide +kernel
theorem dX10_nail_65 : decode cX10_nail 65 = .ok (.return_, 1) := by decide +kernel
theorem dX10_down_0 : decode cX10_down 0 = .ok (.aload_n 0, 1) := by decide +kernel
theorem dX10_down_1 : decode cX10_down 1 = .ok (.iload_n 1, 1) := by decide +kernel
theorem dX10_down_2 : decode cX10_down 2 = .ok (.invokevirtual 175, 3) := by decide +kernel
theorem dX10_down_5 : decode cX10_down 5 = .ok (.aload_n 0, 1) := by decide +kernel
theorem dX10_down_6 : decode cX10_down 6 = .ok (.getfield 48, 3) := by decide +kernel
theorem dX10_down_9 : decode cX10_down 9 = .ok (.getfield 178, 3) := by decide +kernel
theorem dX10_down_12 : decode cX10_down 12 = .ok (.iload_n 1, 1) := by decide +kernel
theorem dX10_down_13 : decode cX10_down 13 = .ok (.iaload, 1) := by decide +kernel
theorem dX10_down_14 : decode cX10_down 14 = .ok (.istore_n 2, 1) := by decide +kernel
theorem dX10_down_15 : decode cX10_down 15 = .ok (.iload_n 2, 1) := by decide +kernel
theorem dX10_down_16 : decode cX10_down 16 = .ok (.ifCond .ge 14, 3) := by decide +kernel
theorem dX10_down_19 : decode cX10_down 19 = .ok (.new 262, 3) := by decide +kernel
theorem dX10_down_22 : decode cX10_down 22 = .ok (.dup, 1) := by decide +kernel
theorem dX10_down_23 : decode cX10_down 23 = .ok (.ldc_w 270, 3) := by decide +kernel
theorem dX10_down_26 : decode cX10_down 26 = .ok (.invokespecial 266, 3) := by decide +kernel
theorem dX10_down_29 : decode cX10_down 29 = .ok (.athrow, 1) := by decide +kernel
theorem dX10_down_30 : decode cX10_down 30 = .ok (.aload_n 0, 1) := by decide +kernel
theorem dX10_down_31 : decode cX10_down 31 = .ok (.getfield 61, 3) := by decide +kernel
theorem dX10_down_34 : decode cX10_down 34 = .ok (.aload_n 0, 1) := by decide +kernel
theorem dX10_down_35 : decode cX10_down 35 = .ok (.getfield 48, 3) := by decide +kernel
theorem dX10_down_38 : decode cX10_down 38 = .ok (.invokevirtual 221, 3) := by decide +kernel
theorem dX10_down_41 : decode cX10_down 41 = .ok (.aload_n 0, 1) := by decide +kernel
theorem dX10_down_42 : decode cX10_down 42 = .ok (.getfield 48, 3) := by decide +kernel
theorem dX10_down_45 : decode cX10_down 45 = .ok (.getfield 178, 3) := by decide +kernel
theorem dX10_down_48 : decode cX10_down 48 = .ok (.iload_n 1, 1) := by decide +kernel
theorem dX10_down_49 : decode cX10_down 49 = .ok (.iconst (-1), 1) := by decide +kernel
theorem dX10_down_50 : decode cX10_down 50 = .ok (.iastore, 1) := by decide +kernel
theorem dX10_down_51 : decode cX10_down 51 = .ok (.aload_n 0, 1) := by decide +kernel
theorem dX10_down_52 : decode cX10_down 52 = .ok (.getfield 48, 3) := by decide +kernel
theorem dX10_down_55 : decode cX10_down 55 = .ok (.getfield 167, 3) := by decide +kernel
theorem dX10_down_58 : decode cX10_down 58 = .ok (.iload_n 2, 1) := by decide +kernel
theorem dX10_down_59 : decode cX10_down 59 = .ok (.iconst (-1), 1) := by decide +kernel
theorem dX10_down_60 : decode cX10_down 60 = .ok (.iastore, 1) := by decide +kernel
theorem dX10_down_61 : decode cX10_down 61 = .ok (.iload_n 2, 1) := by decide +kernel
theorem dX10_down_62 : decode cX10_down 62 = .ok (.ireturn, 1) := by decide +kernel
theorem dX10_mend_0 : decode cX10_mend 0 = .ok (.aload_n 0, 1) := by decide +kernel
theorem dX10_mend_1 : decode cX10_mend 1 = .ok (.iload_n 1, 1) := by decide +kernel
theorem dX10_mend_2 : decode cX10_mend 2 = .ok (.invokevirtual 155, 3) := by decide +kernel
theorem dX10_mend_5 : decode cX10_mend 5 = .ok (.aload_n 0, 1) := by decide +kernel
theorem dX10_mend_6 : decode cX10_mend 6 = .ok (.getfield 61, 3) := by decide +kernel
theorem dX10_mend_9 : decode cX10_mend 9 = .ok (.aload_n 0, 1) := by decide +kernel
theorem dX10_mend_10 : decode cX10_mend 10 = .ok (.getfield 48, 3) := by decide +kernel
theorem dX10_mend_13 : decode cX10_mend 13 = .ok (.invokevirtual 221, 3) := by decide +kernel
theorem dX10_mend_16 : decode cX10_mend 16 = .ok (.aload_n 0, 1) := by decide +kernel
theorem dX10_mend_17 : decode cX10_mend 17 = .ok (.getfield 48, 3) := by decide +kernel
theorem dX10_mend_20 : decode cX10_mend 20 = .ok (.getfield 164, 3) := by decide +kernel
theorem dX10_mend_23 : decode cX10_mend 23 = .ok (.iload_n 1, 1) := by decide +kernel
theorem dX10_mend_24 : decode cX10_mend 24 = .ok (.iaload, 1) := by decide +kernel
theorem dX10_mend_25 : decode cX10_mend 25 = .ok (.istore_n 2, 1) := by decide +kernel
theorem dX10_mend_26 : decode cX10_mend 26 = .ok (.aload_n 0, 1) := by decide +kernel
theorem dX10_mend_27 : decode cX10_mend 27 = .ok (.getfield 48, 3) := by decide +kernel
theorem dX10_mend_30 : decode cX10_mend 30 = .ok (.getfield 164, 3) := by decide +kernel
theorem dX10_mend_33 : decode cX10_mend 33 = .ok (.iload_n 1, 1) := by decide +kernel
theorem dX10_mend_34 : decode cX10_mend 34 = .ok (.iconst 0, 1) := by decide +kernel
theorem dX10_mend_35 : decode cX10_mend 35 = .ok (.iastore, 1) := by decide +kernel
theorem dX10_mend_36 : decode cX10_mend 36 = .ok (.iload_n 2, 1) := by decide +kernel
theorem dX10_mend_37 : decode cX10_mend 37 = .ok (.ireturn, 1) := by decide +kernel
theorem dX10_recall_0 : decode cX10_recall 0 = .ok (.aload_n 0, 1) := by decide +kernel
theorem dX10_recall_1 : decode cX10_recall 1 = .ok (.iload_n 1, 1) := by decide +kernel
theorem dX10_recall_2 : decode cX10_recall 2 = .ok (.invokevirtual 181, 3) := by decide +kernel
theorem dX10_recall_5 : decode cX10_recall 5 = .ok (.aload_n 0, 1) := by decide +kernel
theorem dX10_recall_6 : decode cX10_recall 6 = .ok (.iload_n 1, 1) := by decide +kernel
theorem dX10_recall_7 : decode cX10_recall 7 = .ok (.iconst 2, 1) := by decide +kernel
theorem dX10_recall_8 : decode cX10_recall 8 = .ok (.invokevirtual 217, 3) := by decide +kernel
theorem dX10_recall_11 : decode cX10_recall 11 = .ok (.aload_n 0, 1) := by decide +kernel
theorem dX10_recall_12 : decode cX10_recall 12 = .ok (.getfield 61, 3) := by decide +kernel
theorem dX10_recall_15 : decode cX10_recall 15 = .ok (.aload_n 0, 1) := by decide +kernel
theorem dX10_recall_16 : decode cX10_recall 16 = .ok (.getfield 48, 3) := by decide +kernel
theorem dX10_recall_19 : decode cX10_recall 19 = .ok (.invokevirtual 221, 3) := by decide +kernel
theorem dX10_recall_22 : decode cX10_recall 22 = .ok (.aload_n 0, 1) := by decide +kernel
theorem dX10_recall_23 : decode cX10_recall 23 = .ok (.getfield 48, 3) := by decide +kernel
theorem dX10_recall_26 : decode cX10_recall 26 = .ok (.getfield 193, 3) := by decide +kernel
theorem dX10_recall_29 : decode cX10_recall 29 = .ok (.iload_n 1, 1) := by decide +kernel
theorem dX10_recall_30 : decode cX10_recall 30 = .ok (.iconst 0, 1) := by decide +kernel
theorem dX10_recall_31 : decode cX10_recall 31 = .ok (.iastore, 1) := by decide +kernel
theorem dX10_recall_32 : decode cX10_recall 32 = .ok (.return_, 1) := by decide +kernel
theorem dX10_inside_0 : decode cX10_inside 0 = .ok (.aload_n 0, 1) := by decide +kernel
theorem dX10_inside_1 : decode cX10_inside 1 = .ok (.iload_n 1, 1) := by decide +kernel
theorem dX10_inside_2 : decode cX10_inside 2 = .ok (.invokevirtual 181, 3) := by decide +kernel
theorem dX10_inside_5 : decode cX10_inside 5 = .ok (.aload_n 0, 1) := by decide +kernel
theorem dX10_inside_6 : decode cX10_inside 6 = .ok (.iload_n 1, 1) := by decide +kernel
theorem dX10_inside_7 : decode cX10_inside 7 = .ok (.iconst 0, 1) := by decide +kernel
theorem dX10_inside_8 : decode cX10_inside 8 = .ok (.invokevirtual 217, 3) := by decide +kernel
theorem dX10_inside_11 : decode cX10_inside 11 = .ok (.aload_n 0, 1) := by decide +kernel
theorem dX10_inside_12 : decode cX10_inside 12 = .ok (.getfield 61, 3) := by decide +kernel
theorem dX10_inside_15 : decode cX10_inside 15 = .ok (.aload_n 0, 1) := by decide +kernel
theorem dX10_inside_16 : decode cX10_inside 16 = .ok (.getfield 48, 3) := by decide +kernel
theorem dX10_inside_19 : decode cX10_inside 19 = .ok (.invokevirtual 221, 3) := by decide +kernel
theorem dX10_inside_22 : decode cX10_inside 22 = .ok (.aload_n 0, 1) := by decide +kernel
theorem dX10_inside_23 : decode cX10_inside 23 = .ok (.getfield 48, 3) := by decide +kernel
theorem dX10_inside_26 : decode cX10_inside 26 = .ok (.getfield 193, 3) := by decide +kernel
theorem dX10_inside_29 : decode cX10_inside 29 = .ok (.iload_n 1, 1) := by decide +kernel
theorem dX10_inside_30 : decode cX10_inside 30 = .ok (.iconst 3, 1) := by decide +kernel
theorem dX10_inside_31 : decode cX10_inside 31 = .ok (.iastore, 1) := by decide +kernel
theorem dX10_inside_32 : decode cX10_inside 32 = .ok (.aload_n 0, 1) := by decide +kernel
theorem dX10_inside_33 : decode cX10_inside 33 = .ok (.getfield 48, 3) := by decide +kernel
theorem dX10_inside_36 : decode cX10_inside 36 = .ok (.iconst 3, 1) := by decide +kernel
theorem dX10_inside_37 : decode cX10_inside 37 = .ok (.invokevirtual 272, 3) := by decide +kernel
theorem dX10_inside_40 : decode cX10_inside 40 = .ok (.invokestatic 276, 3) := by decide +kernel
theorem dX10_inside_43 : decode cX10_inside 43 = .ok (.ireturn, 1) := by decide +kernel
theorem dX10_calm_0 : decode cX10_calm 0 = .ok (.iload_n 1, 1) := by decide +kernel
theorem dX10_calm_1 : decode cX10_calm 1 = .ok (.ifCond .lt 9, 3) := by decide +kernel
theorem dX10_calm_4 : decode cX10_calm 4 = .ok (.iload_n 1, 1) := by decide +kernel
theorem dX10_calm_5 : decode cX10_calm 5 = .ok (.bipush 9, 2) := by decide +kernel
theorem dX10_calm_7 : decode cX10_calm 7 = .ok (.if_icmp .le 14, 3) := by decide +kernel
theorem dX10_calm_10 : decode cX10_calm 10 = .ok (.new 125, 3) := by decide +kernel
theorem dX10_calm_13 : decode cX10_calm 13 = .ok (.dup, 1) := by decide +kernel
theorem dX10_calm_14 : decode cX10_calm 14 = .ok (.ldc_w 281, 3) := by decide +kernel
theorem dX10_calm_17 : decode cX10_calm 17 = .ok (.invokespecial 129, 3) := by decide +kernel
theorem dX10_calm_20 : decode cX10_calm 20 = .ok (.athrow, 1) := by decide +kernel
theorem dX10_calm_21 : decode cX10_calm 21 = .ok (.aload_n 0, 1) := by decide +kernel
theorem dX10_calm_22 : decode cX10_calm 22 = .ok (.getfield 61, 3) := by decide +kernel
theorem dX10_calm_25 : decode cX10_calm 25 = .ok (.aload_n 0, 1) := by decide +kernel
theorem dX10_calm_26 : decode cX10_calm 26 = .ok (.getfield 48, 3) := by decide +kernel
theorem dX10_calm_29 : decode cX10_calm 29 = .ok (.invokevirtual 221, 3) := by decide +kernel
theorem dX10_calm_32 : decode cX10_calm 32 = .ok (.aload_n 0, 1) := by decide +kernel
theorem dX10_calm_33 : decode cX10_calm 33 = .ok (.getfield 48, 3) := by decide +kernel
theorem dX10_calm_36 : decode cX10_calm 36 = .ok (.getfield 283, 3) := by decide +kernel
theorem dX10_calm_39 : decode cX10_calm 39 = .ok (.istore_n 2, 1) := by decide +kernel
theorem dX10_calm_40 : decode cX10_calm 40 = .ok (.aload_n 0, 1) := by decide +kernel
theorem dX10_calm_41 : decode cX10_calm 41 = .ok (.getfield 48, 3) := by decide +kernel
theorem dX10_calm_44 : decode cX10_calm 44 = .ok (.iload_n 1, 1) := by decide +kernel
theorem dX10_calm_45 : decode cX10_calm 45 = .ok (.putfield 283, 3) := by decide +kernel
theorem dX10_calm_48 : decode cX10_calm 48 = .ok (.iload_n 2, 1) := by decide +kernel
theorem dX10_calm_49 : decode cX10_calm 49 = .ok (.ireturn, 1) := by decide +kernel
theorem dX10_mornings_0 : decode cX10_mornings 0 = .ok (.iload_n 1, 1) := by decide +kernel
theorem dX10_mornings_1 : decode cX10_mornings 1 = .ok (.iconst 1, 1) := by decide +kernel
theorem dX10_mornings_2 : decode cX10_mornings 2 = .ok (.if_icmp .lt 9, 3) := by decide +kernel
theorem dX10_mornings_5 : decode cX10_mornings 5 = .ok (.iload_n 1, 1) := by decide +kernel
theorem dX10_mornings_6 : decode cX10_mornings 6 = .ok (.bipush 60, 2) := by decide +kernel
theorem dX10_mornings_8 : decode cX10_mornings 8 = .ok (.if_icmp .le 14, 3) := by decide +kernel
theorem dX10_mornings_11 : decode cX10_mornings 11 = .ok (.new 125, 3) := by decide +kernel
theorem dX10_mornings_14 : decode cX10_mornings 14 = .ok (.dup, 1) := by decide +kernel
theorem dX10_mornings_15 : decode cX10_mornings 15 = .ok (.ldc_w 286, 3) := by decide +kernel
theorem dX10_mornings_18 : decode cX10_mornings 18 = .ok (.invokespecial 129, 3) := by decide +kernel
theorem dX10_mornings_21 : decode cX10_mornings 21 = .ok (.athrow, 1) := by decide +kernel
theorem dX10_mornings_22 : decode cX10_mornings 22 = .ok (.aload_n 0, 1) := by decide +kernel
theorem dX10_mornings_23 : decode cX10_mornings 23 = .ok (.getfield 61, 3) := by decide +kernel
theorem dX10_mornings_26 : decode cX10_mornings 26 = .ok (.aload_n 0, 1) := by decide +kernel
theorem dX10_mornings_27 : decode cX10_mornings 27 = .ok (.getfield 48, 3) := by decide +kernel
theorem dX10_mornings_30 : decode cX10_mornings 30 = .ok (.invokevirtual 221, 3) := by decide +kernel
theorem dX10_mornings_33 : decode cX10_mornings 33 = .ok (.aload_n 0, 1) := by decide +kernel
theorem dX10_mornings_34 : decode cX10_mornings 34 = .ok (.getfield 48, 3) := by decide +kernel
theorem dX10_mornings_37 : decode cX10_mornings 37 = .ok (.sipush 9999, 3) := by decide +kernel
theorem dX10_mornings_40 : decode cX10_mornings 40 = .ok (.aload_n 0, 1) := by decide +kernel
theorem dX10_mornings_41 : decode cX10_mornings 41 = .ok (.getfield 48, 3) := by decide +kernel
theorem dX10_mornings_44 : decode cX10_mornings 44 = .ok (.getfield 250, 3) := by decide +kernel
theorem dX10_mornings_47 : decode cX10_mornings 47 = .ok (.iload_n 1, 1) := by decide +kernel
theorem dX10_mornings_48 : decode cX10_mornings 48 = .ok (.iadd, 1) := by decide +kernel
theorem dX10_mornings_49 : decode cX10_mornings 49 = .ok (.invokestatic 288, 3) := by decide +kernel
theorem dX10_mornings_52 : decode cX10_mornings 52 = .ok (.putfield 250, 3) := by decide +kernel
theorem dX10_mornings_55 : decode cX10_mornings 55 = .ok (.iconst 0, 1) := by decide +kernel
theorem dX10_mornings_56 : decode cX10_mornings 56 = .ok (.istore_n 2, 1) := by decide +kernel
theorem dX10_mornings_57 : decode cX10_mornings 57 = .ok (.iconst 0, 1) := by decide +kernel
theorem dX10_mornings_58 : decode cX10_mornings 58 = .ok (.istore_n 3, 1) := by decide +kernel
theorem dX10_mornings_59 : decode cX10_mornings 59 = .ok (.iload_n 3, 1) := by decide +kernel
theorem dX10_mornings_60 : decode cX10_mornings 60 = .ok (.aload_n 0, 1) := by decide +kernel
theorem dX10_mornings_61 : decode cX10_mornings 61 = .ok (.getfield 48, 3) := by decide +kernel
theorem dX10_mornings_64 : decode cX10_mornings 64 = .ok (.getfield 294, 3) := by decide +kernel
theorem dX10_mornings_67 : decode cX10_mornings 67 = .ok (.if_icmp .ge 57, 3) := by decide +kernel
theorem dX10_mornings_70 : decode cX10_mornings 70 = .ok (.aload_n 0, 1) := by decide +kernel
theorem dX10_mornings_71 : decode cX10_mornings 71 = .ok (.getfield 48, 3) := by decide +kernel
theorem dX10_mornings_74 : decode cX10_mornings 74 = .ok (.getfield 167, 3) := by decide +kernel
theorem dX10_mornings_77 : decode cX10_mornings 77 = .ok (.iload_n 3, 1) := by decide +kernel
theorem dX10_mornings_78 : decode cX10_mornings 78 = .ok (.iaload, 1) := by decide +kernel
theorem dX10_mornings_79 : decode cX10_mornings 79 = .ok (.ifCond .lt 39, 3) := by decide +kernel
theorem dX10_mornings_82 : decode cX10_mornings 82 = .ok (.aload_n 0, 1) := by decide +kernel
theorem dX10_mornings_83 : decode cX10_mornings 83 = .ok (.getfield 48, 3) := by decide +kernel
theorem dX10_mornings_86 : decode cX10_mornings 86 = .ok (.getfield 164, 3) := by decide +kernel
theorem dX10_mornings_89 : decode cX10_mornings 89 = .ok (.iload_n 3, 1) := by decide +kernel
theorem dX10_mornings_90 : decode cX10_mornings 90 = .ok (.iconst 0, 1) := by decide +kernel
theorem dX10_mornings_91 : decode cX10_mornings 91 = .ok (.aload_n 0, 1) := by decide +kernel
theorem dX10_mornings_92 : decode cX10_mornings 92 = .ok (.getfield 48, 3) := by decide +kernel
theorem dX10_mornings_95 : decode cX10_mornings 95 = .ok (.getfield 164, 3) := by decide +kernel
theorem dX10_mornings_98 : decode cX10_mornings 98 = .ok (.iload_n 3, 1) := by decide +kernel
theorem dX10_mornings_99 : decode cX10_mornings 99 = .ok (.iaload, 1) := by decide +kernel
theorem dX10_mornings_100 : decode cX10_mornings 100 = .ok (.iload_n 1, 1) := by decide +kernel
theorem dX10_mornings_101 : decode cX10_mornings 101 = .ok (.isub, 1) := by decide +kernel
theorem dX10_mornings_102 : decode cX10_mornings 102 = .ok (.invokestatic 297, 3) := by decide +kernel
theorem dX10_mornings_105 : decode cX10_mornings 105 = .ok (.iastore, 1) := by decide +kernel
theorem dX10_mornings_106 : decode cX10_mornings 106 = .ok (.iload_n 2, 1) := by decide +kernel
theorem dX10_mornings_107 : decode cX10_mornings 107 = .ok (.aload_n 0, 1) := by decide +kernel
theorem dX10_mornings_108 : decode cX10_mornings 108 = .ok (.getfield 48, 3) := by decide +kernel
theorem dX10_mornings_111 : decode cX10_mornings 111 = .ok (.getfield 164, 3) := by decide +kernel
theorem dX10_mornings_114 : decode cX10_mornings 114 = .ok (.iload_n 3, 1) := by decide +kernel
theorem dX10_mornings_115 : decode cX10_mornings 115 = .ok (.iaload, 1) := by decide +kernel
theorem dX10_mornings_116 : decode cX10_mornings 116 = .ok (.iadd, 1) := by decide +kernel
theorem dX10_mornings_117 : decode cX10_mornings 117 = .ok (.istore_n 2, 1) := by decide +kernel
theorem dX10_mornings_118 : decode cX10_mornings 118 = .ok (.iinc 3 1, 3) := by decide +kernel
theorem dX10_mornings_121 : decode cX10_mornings 121 = .ok (.goto (-62), 3) := by decide +kernel
theorem dX10_mornings_124 : decode cX10_mornings 124 = .ok (.iload_n 2, 1) := by decide +kernel
theorem dX10_mornings_125 : decode cX10_mornings 125 = .ok (.ireturn, 1) := by decide +kernel
theorem dX10_straight_0 : decode cX10_straight 0 = .ok (.aload_n 0, 1) := by decide +kernel
theorem dX10_straight_1 : decode cX10_straight 1 = .ok (.iload_n 1, 1) := by decide +kernel
theorem dX10_straight_2 : decode cX10_straight 2 = .ok (.invokevirtual 181, 3) := by decide +kernel
theorem dX10_straight_5 : decode cX10_straight 5 = .ok (.aload_n 0, 1) := by decide +kernel
theorem dX10_straight_6 : decode cX10_straight 6 = .ok (.iload_n 1, 1) := by decide +kernel
theorem dX10_straight_7 : decode cX10_straight 7 = .ok (.invokevirtual 300, 3) := by decide +kernel
theorem dX10_straight_10 : decode cX10_straight 10 = .ok (.aload_n 0, 1) := by decide +kernel
theorem dX10_straight_11 : decode cX10_straight 11 = .ok (.getfield 88, 3) := by decide +kernel
theorem dX10_straight_14 : decode cX10_straight 14 = .ok (.getfield 243, 3) := by decide +kernel
theorem dX10_straight_17 : decode cX10_straight 17 = .ok (.ireturn, 1) := by decide +kernel
theorem dX10_tense_0 : decode cX10_tense 0 = .ok (.aload_n 0, 1) := by decide +kernel
theorem dX10_tense_1 : decode cX10_tense 1 = .ok (.iload_n 1, 1) := by decide +kernel
theorem dX10_tense_2 : decode cX10_tense 2 = .ok (.invokevirtual 181, 3) := by decide +kernel
theorem dX10_tense_5 : decode cX10_tense 5 = .ok (.aload_n 0, 1) := by decide +kernel
theorem dX10_tense_6 : decode cX10_tense 6 = .ok (.iload_n 2, 1) := by decide +kernel
theorem dX10_tense_7 : decode cX10_tense 7 = .ok (.invokevirtual 175, 3) := by decide +kernel
theorem dX10_tense_10 : decode cX10_tense 10 = .ok (.aload_n 0, 1) := by decide +kernel
theorem dX10_tense_11 : decode cX10_tense 11 = .ok (.iload_n 1, 1) := by decide +kernel
theorem dX10_tense_12 : decode cX10_tense 12 = .ok (.invokevirtual 300, 3) := by decide +kernel
theorem dX10_tense_15 : decode cX10_tense 15 = .ok (.aload_n 0, 1) := by decide +kernel
theorem dX10_tense_16 : decode cX10_tense 16 = .ok (.getfield 88, 3) := by decide +kernel
theorem dX10_tense_19 : decode cX10_tense 19 = .ok (.getfield 303, 3) := by decide +kernel
theorem dX10_tense_22 : decode cX10_tense 22 = .ok (.iload_n 2, 1) := by decide +kernel
theorem dX10_tense_23 : decode cX10_tense 23 = .ok (.iaload, 1) := by decide +kernel
theorem dX10_tense_24 : decode cX10_tense 24 = .ok (.ireturn, 1) := by decide +kernel
theorem dX10_ways_0 : decode cX10_ways 0 = .ok (.aload_n 0, 1) := by decide +kernel
theorem dX10_ways_1 : decode cX10_ways 1 = .ok (.iload_n 1, 1) := by decide +kernel
theorem dX10_ways_2 : decode cX10_ways 2 = .ok (.invokevirtual 181, 3) := by decide +kernel
theorem dX10_ways_5 : decode cX10_ways 5 = .ok (.aload_n 0, 1) := by decide +kernel
theorem dX10_ways_6 : decode cX10_ways 6 = .ok (.getfield 88, 3) := by decide +kernel
theorem dX10_ways_9 : decode cX10_ways 9 = .ok (.invokevirtual 200, 3) := by decide +kernel
theorem dX10_ways_12 : decode cX10_ways 12 = .ok (.aload_n 0, 1) := by decide +kernel
theorem dX10_ways_13 : decode cX10_ways 13 = .ok (.getfield 100, 3) := by decide +kernel
theorem dX10_ways_16 : decode cX10_ways 16 = .ok (.iload_n 1, 1) := by decide +kernel
theorem dX10_ways_17 : decode cX10_ways 17 = .ok (.invokevirtual 306, 3) := by decide +kernel
theorem dX10_ways_20 : decode cX10_ways 20 = .ok (.aload_n 0, 1) := by decide +kernel
theorem dX10_ways_21 : decode cX10_ways 21 = .ok (.getfield 100, 3) := by decide +kernel
theorem dX10_ways_24 : decode cX10_ways 24 = .ok (.getfield 309, 3) := by decide +kernel
theorem dX10_ways_27 : decode cX10_ways 27 = .ok (.ireturn, 1) := by decide +kernel
theorem dX10_at_0 : decode cX10_at 0 = .ok (.aload_n 0, 1) := by decide +kernel
theorem dX10_at_1 : decode cX10_at 1 = .ok (.iload_n 1, 1) := by decide +kernel
theorem dX10_at_2 : decode cX10_at 2 = .ok (.invokevirtual 181, 3) := by decide +kernel
theorem dX10_at_5 : decode cX10_at 5 = .ok (.aload_n 0, 1) := by decide +kernel
theorem dX10_at_6 : decode cX10_at 6 = .ok (.iload_n 2, 1) := by decide +kernel
theorem dX10_at_7 : decode cX10_at 7 = .ok (.invokevirtual 175, 3) := by decide +kernel
theorem dX10_at_10 : decode cX10_at 10 = .ok (.aload_n 0, 1) := by decide +kernel
theorem dX10_at_11 : decode cX10_at 11 = .ok (.getfield 88, 3) := by decide +kernel
theorem dX10_at_14 : decode cX10_at 14 = .ok (.invokevirtual 200, 3) := by decide +kernel
theorem dX10_at_17 : decode cX10_at 17 = .ok (.aload_n 0, 1) := by decide +kernel
theorem dX10_at_18 : decode cX10_at 18 = .ok (.getfield 100, 3) := by decide +kernel
theorem dX10_at_21 : decode cX10_at 21 = .ok (.iload_n 1, 1) := by decide +kernel
theorem dX10_at_22 : decode cX10_at 22 = .ok (.invokevirtual 306, 3) := by decide +kernel
theorem dX10_at_25 : decode cX10_at 25 = .ok (.aload_n 0, 1) := by decide +kernel
theorem dX10_at_26 : decode cX10_at 26 = .ok (.getfield 100, 3) := by decide +kernel
theorem dX10_at_29 : decode cX10_at 29 = .ok (.getfield 312, 3) := by decide +kernel
theorem dX10_at_32 : decode cX10_at 32 = .ok (.iload_n 2, 1) := by decide +kernel
theorem dX10_at_33 : decode cX10_at 33 = .ok (.iaload, 1) := by decide +kernel
theorem dX10_at_34 : decode cX10_at 34 = .ok (.ireturn, 1) := by decide +kernel
theorem dX10_odds_0 : decode cX10_odds 0 = .ok (.aload_n 0, 1) := by decide +kernel
theorem dX10_odds_1 : decode cX10_odds 1 = .ok (.iload_n 1, 1) := by decide +kernel
theorem dX10_odds_2 : decode cX10_odds 2 = .ok (.invokevirtual 181, 3) := by decide +kernel
theorem dX10_odds_5 : decode cX10_odds 5 = .ok (.aload_n 0, 1) := by decide +kernel
theorem dX10_odds_6 : decode cX10_odds 6 = .ok (.getfield 88, 3) := by decide +kernel
theorem dX10_odds_9 : decode cX10_odds 9 = .ok (.invokevirtual 200, 3) := by decide +kernel
theorem dX10_odds_12 : decode cX10_odds 12 = .ok (.aload_n 0, 1) := by decide +kernel
theorem dX10_odds_13 : decode cX10_odds 13 = .ok (.getfield 100, 3) := by decide +kernel
theorem dX10_odds_16 : decode cX10_odds 16 = .ok (.iload_n 1, 1) := by decide +kernel
theorem dX10_odds_17 : decode cX10_odds 17 = .ok (.invokevirtual 315, 3) := by decide +kernel
theorem dX10_odds_20 : decode cX10_odds 20 = .ok (.ireturn, 1) := by decide +kernel
theorem dX10_gap_0 : decode cX10_gap 0 = .ok (.aload_n 0, 1) := by decide +kernel
theorem dX10_gap_1 : decode cX10_gap 1 = .ok (.getfield 88, 3) := by decide +kernel
theorem dX10_gap_4 : decode cX10_gap 4 = .ok (.invokevirtual 200, 3) := by decide +kernel
theorem dX10_gap_7 : decode cX10_gap 7 = .ok (.aload_n 0, 1) := by decide +kernel
theorem dX10_gap_8 : decode cX10_gap 8 = .ok (.invokevirtual 318, 3) := by decide +kernel
theorem dX10_gap_11 : decode cX10_gap 11 = .ok (.ireturn, 1) := by decide +kernel
theorem dX10_errors_0 : decode cX10_errors 0 = .ok (.aload_n 0, 1) := by decide +kernel
theorem dX10_errors_1 : decode cX10_errors 1 = .ok (.getfield 88, 3) := by decide +kernel
theorem dX10_errors_4 : decode cX10_errors 4 = .ok (.invokevirtual 200, 3) := by decide +kernel
theorem dX10_errors_7 : decode cX10_errors 7 = .ok (.iconst 0, 1) := by decide +kernel
theorem dX10_errors_8 : decode cX10_errors 8 = .ok (.istore_n 2, 1) := by decide +kernel
theorem dX10_errors_9 : decode cX10_errors 9 = .ok (.iconst 0, 1) := by decide +kernel
theorem dX10_errors_10 : decode cX10_errors 10 = .ok (.istore_n 3, 1) := by decide +kernel
theorem dX10_errors_11 : decode cX10_errors 11 = .ok (.iload_n 3, 1) := by decide +kernel
theorem dX10_errors_12 : decode cX10_errors 12 = .ok (.aload_n 0, 1) := by decide +kernel
theorem dX10_errors_13 : decode cX10_errors 13 = .ok (.getfield 48, 3) := by decide +kernel
theorem dX10_errors_16 : decode cX10_errors 16 = .ok (.getfield 322, 3) := by decide +kernel
theorem dX10_errors_19 : decode cX10_errors 19 = .ok (.if_icmp .ge 67, 3) := by decide +kernel
theorem dX10_errors_22 : decode cX10_errors 22 = .ok (.aload_n 0, 1) := by decide +kernel
theorem dX10_errors_23 : decode cX10_errors 23 = .ok (.getfield 48, 3) := by decide +kernel
theorem dX10_errors_26 : decode cX10_errors 26 = .ok (.iload_n 3, 1) := by decide +kernel
theorem dX10_errors_27 : decode cX10_errors 27 = .ok (.invokevirtual 325, 3) := by decide +kernel
theorem dX10_errors_30 : decode cX10_errors 30 = .ok (.ifCond .eq 50, 3) := by decide +kernel
theorem dX10_errors_33 : decode cX10_errors 33 = .ok (.aload_n 0, 1) := by decide +kernel
theorem dX10_errors_34 : decode cX10_errors 34 = .ok (.getfield 48, 3) := by decide +kernel
theorem dX10_errors_37 : decode cX10_errors 37 = .ok (.iload_n 3, 1) := by decide +kernel
theorem dX10_errors_38 : decode cX10_errors 38 = .ok (.invokevirtual 328, 3) := by decide +kernel
theorem dX10_errors_41 : decode cX10_errors 41 = .ok (.iload_n 1, 1) := by decide +kernel
theorem dX10_errors_42 : decode cX10_errors 42 = .ok (.if_icmp .ne 38, 3) := by decide +kernel
theorem dX10_errors_45 : decode cX10_errors 45 = .ok (.aload_n 0, 1) := by decide +kernel
theorem dX10_errors_46 : decode cX10_errors 46 = .ok (.getfield 100, 3) := by decide +kernel
theorem dX10_errors_49 : decode cX10_errors 49 = .ok (.iload_n 3, 1) := by decide +kernel
theorem dX10_errors_50 : decode cX10_errors 50 = .ok (.invokevirtual 315, 3) := by decide +kernel
theorem dX10_errors_53 : decode cX10_errors 53 = .ok (.sipush 5000, 3) := by decide +kernel
theorem dX10_errors_56 : decode cX10_errors 56 = .ok (.if_icmp .lt 7, 3) := by decide +kernel
theorem dX10_errors_59 : decode cX10_errors 59 = .ok (.iconst 1, 1) := by decide +kernel
theorem dX10_errors_60 : decode cX10_errors 60 = .ok (.goto 4, 3) := by decide +kernel
theorem dX10_errors_63 : decode cX10_errors 63 = .ok (.iconst 0, 1) := by decide +kernel
theorem dX10_errors_64 : decode cX10_errors 64 = .ok (.istore 4, 2) := by decide +kernel
theorem dX10_errors_66 : decode cX10_errors 66 = .ok (.iload_n 2, 1) := by decide +kernel
theorem dX10_errors_67 : decode cX10_errors 67 = .ok (.iload 4, 2) := by decide +kernel
theorem dX10_errors_69 : decode cX10_errors 69 = .ok (.iload_n 1, 1) := by decide +kernel
theorem dX10_errors_70 : decode cX10_errors 70 = .ok (.if_icmp .eq 7, 3) := by decide +kernel
theorem dX10_errors_73 : decode cX10_errors 73 = .ok (.iconst 1, 1) := by decide +kernel
theorem dX10_errors_74 : decode cX10_errors 74 = .ok (.goto 4, 3) := by decide +kernel
theorem dX10_errors_77 : decode cX10_errors 77 = .ok (.iconst 0, 1) := by decide +kernel
theorem dX10_errors_78 : decode cX10_errors 78 = .ok (.iadd, 1) := by decide +kernel
theorem dX10_errors_79 : decode cX10_errors 79 = .ok (.istore_n 2, 1) := by decide +kernel
theorem dX10_errors_80 : decode cX10_errors 80 = .ok (.iinc 3 1, 3) := by decide +kernel
theorem dX10_errors_83 : decode cX10_errors 83 = .ok (.goto (-72), 3) := by decide +kernel
theorem dX10_errors_86 : decode cX10_errors 86 = .ok (.iload_n 2, 1) := by decide +kernel
theorem dX10_errors_87 : decode cX10_errors 87 = .ok (.ireturn, 1) := by decide +kernel
theorem dX10_swap_0 : decode cX10_swap 0 = .ok (.aload_n 0, 1) := by decide +kernel
theorem dX10_swap_1 : decode cX10_swap 1 = .ok (.getfield 88, 3) := by decide +kernel
theorem dX10_swap_4 : decode cX10_swap 4 = .ok (.invokevirtual 200, 3) := by decide +kernel
theorem dX10_swap_7 : decode cX10_swap 7 = .ok (.iconst (-1), 1) := by decide +kernel
theorem dX10_swap_8 : decode cX10_swap 8 = .ok (.istore_n 1, 1) := by decide +kernel
theorem dX10_swap_9 : decode cX10_swap 9 = .ok (.aload_n 0, 1) := by decide +kernel
theorem dX10_swap_10 : decode cX10_swap 10 = .ok (.invokevirtual 318, 3) := by decide +kernel
theorem dX10_swap_13 : decode cX10_swap 13 = .ok (.istore_n 2, 1) := by decide +kernel
theorem dX10_swap_14 : decode cX10_swap 14 = .ok (.iconst 0, 1) := by decide +kernel
theorem dX10_swap_15 : decode cX10_swap 15 = .ok (.istore_n 3, 1) := by decide +kernel
theorem dX10_swap_16 : decode cX10_swap 16 = .ok (.iload_n 3, 1) := by decide +kernel
theorem dX10_swap_17 : decode cX10_swap 17 = .ok (.bipush 10, 2) := by decide +kernel
theorem dX10_swap_19 : decode cX10_swap 19 = .ok (.if_icmp .ge 95, 3) := by decide +kernel
theorem dX10_swap_22 : decode cX10_swap 22 = .ok (.iload_n 3, 1) := by decide +kernel
theorem dX10_swap_23 : decode cX10_swap 23 = .ok (.iconst 1, 1) := by decide +kernel
theorem dX10_swap_24 : decode cX10_swap 24 = .ok (.iadd, 1) := by decide +kernel
theorem dX10_swap_25 : decode cX10_swap 25 = .ok (.istore 4, 2) := by decide +kernel
theorem dX10_swap_27 : decode cX10_swap 27 = .ok (.iload 4, 2) := by decide +kernel
theorem dX10_swap_29 : decode cX10_swap 29 = .ok (.bipush 10, 2) := by decide +kernel
theorem dX10_swap_31 : decode cX10_swap 31 = .ok (.if_icmp .ge 77, 3) := by decide +kernel
theorem dX10_swap_34 : decode cX10_swap 34 = .ok (.aload_n 0, 1) := by decide +kernel
theorem dX10_swap_35 : decode cX10_swap 35 = .ok (.getfield 88, 3) := by decide +kernel
theorem dX10_swap_38 : decode cX10_swap 38 = .ok (.getfield 331, 3) := by decide +kernel
theorem dX10_swap_41 : decode cX10_swap 41 = .ok (.iload_n 3, 1) := by decide +kernel
theorem dX10_swap_42 : decode cX10_swap 42 = .ok (.iaload, 1) := by decide +kernel
theorem dX10_swap_43 : decode cX10_swap 43 = .ok (.aload_n 0, 1) := by decide +kernel
theorem dX10_swap_44 : decode cX10_swap 44 = .ok (.getfield 88, 3) := by decide +kernel
theorem dX10_swap_47 : decode cX10_swap 47 = .ok (.getfield 331, 3) := by decide +kernel
theorem dX10_swap_50 : decode cX10_swap 50 = .ok (.iload 4, 2) := by decide +kernel
theorem dX10_swap_52 : decode cX10_swap 52 = .ok (.iaload, 1) := by decide +kernel
theorem dX10_swap_53 : decode cX10_swap 53 = .ok (.if_icmp .ne 6, 3) := by decide +kernel
theorem dX10_swap_56 : decode cX10_swap 56 = .ok (.goto 46, 3) := by decide +kernel
theorem dX10_swap_59 : decode cX10_swap 59 = .ok (.aload_n 0, 1) := by decide +kernel
theorem dX10_swap_60 : decode cX10_swap 60 = .ok (.getfield 88, 3) := by decide +kernel
theorem dX10_swap_63 : decode cX10_swap 63 = .ok (.iload_n 3, 1) := by decide +kernel
theorem dX10_swap_64 : decode cX10_swap 64 = .ok (.iload 4, 2) := by decide +kernel
theorem dX10_swap_66 : decode cX10_swap 66 = .ok (.invokevirtual 332, 3) := by decide +kernel
theorem dX10_swap_69 : decode cX10_swap 69 = .ok (.aload_n 0, 1) := by decide +kernel
theorem dX10_swap_70 : decode cX10_swap 70 = .ok (.invokevirtual 318, 3) := by decide +kernel
theorem dX10_swap_73 : decode cX10_swap 73 = .ok (.istore 5, 2) := by decide +kernel
theorem dX10_swap_75 : decode cX10_swap 75 = .ok (.aload_n 0, 1) := by decide +kernel
theorem dX10_swap_76 : decode cX10_swap 76 = .ok (.getfield 88, 3) := by decide +kernel
theorem dX10_swap_79 : decode cX10_swap 79 = .ok (.iload_n 3, 1) := by decide +kernel
theorem dX10_swap_80 : decode cX10_swap 80 = .ok (.iload 4, 2) := by decide +kernel
theorem dX10_swap_82 : decode cX10_swap 82 = .ok (.invokevirtual 332, 3) := by decide +kernel
theorem dX10_swap_85 : decode cX10_swap 85 = .ok (.iload 5, 2) := by decide +kernel
theorem dX10_swap_87 : decode cX10_swap 87 = .ok (.iload_n 2, 1) := by decide +kernel
theorem dX10_swap_88 : decode cX10_swap 88 = .ok (.if_icmp .le 14, 3) := by decide +kernel
theorem dX10_swap_91 : decode cX10_swap 91 = .ok (.iload 5, 2) := by decide +kernel
theorem dX10_swap_93 : decode cX10_swap 93 = .ok (.istore_n 2, 1) := by decide +kernel
theorem dX10_swap_94 : decode cX10_swap 94 = .ok (.bipush 10, 2) := by decide +kernel
theorem dX10_swap_96 : decode cX10_swap 96 = .ok (.iload_n 3, 1) := by decide +kernel
theorem dX10_swap_97 : decode cX10_swap 97 = .ok (.imul, 1) := by decide +kernel
theorem dX10_swap_98 : decode cX10_swap 98 = .ok (.iload 4, 2) := by decide +kernel
theorem dX10_swap_100 : decode cX10_swap 100 = .ok (.iadd, 1) := by decide +kernel
theorem dX10_swap_101 : decode cX10_swap 101 = .ok (.istore_n 1, 1) := by decide +kernel
theorem dX10_swap_102 : decode cX10_swap 102 = .ok (.iinc 4 1, 3) := by decide +kernel
theorem dX10_swap_105 : decode cX10_swap 105 = .ok (.goto (-78), 3) := by decide +kernel
theorem dX10_swap_108 : decode cX10_swap 108 = .ok (.iinc 3 1, 3) := by decide +kernel
theorem dX10_swap_111 : decode cX10_swap 111 = .ok (.goto (-95), 3) := by decide +kernel
theorem dX10_swap_114 : decode cX10_swap 114 = .ok (.iload_n 1, 1) := by decide +kernel
theorem dX10_swap_115 : decode cX10_swap 115 = .ok (.ireturn, 1) := by decide +kernel
theorem dX10_next_0 : decode cX10_next 0 = .ok (.aload_n 0, 1) := by decide +kernel
theorem dX10_next_1 : decode cX10_next 1 = .ok (.getfield 88, 3) := by decide +kernel
theorem dX10_next_4 : decode cX10_next 4 = .ok (.invokevirtual 200, 3) := by decide +kernel
theorem dX10_next_7 : decode cX10_next 7 = .ok (.iconst (-1), 1) := by decide +kernel
theorem dX10_next_8 : decode cX10_next 8 = .ok (.istore_n 1, 1) := by decide +kernel
theorem dX10_next_9 : decode cX10_next 9 = .ok (.iconst 0, 1) := by decide +kernel
theorem dX10_next_10 : decode cX10_next 10 = .ok (.istore_n 2, 1) := by decide +kernel
theorem dX10_next_11 : decode cX10_next 11 = .ok (.iconst 0, 1) := by decide +kernel
theorem dX10_next_12 : decode cX10_next 12 = .ok (.istore_n 3, 1) := by decide +kernel
theorem dX10_next_13 : decode cX10_next 13 = .ok (.iload_n 3, 1) := by decide +kernel
theorem dX10_next_14 : decode cX10_next 14 = .ok (.aload_n 0, 1) := by decide +kernel
theorem dX10_next_15 : decode cX10_next 15 = .ok (.getfield 48, 3) := by decide +kernel
theorem dX10_next_18 : decode cX10_next 18 = .ok (.getfield 294, 3) := by decide +kernel
theorem dX10_next_21 : decode cX10_next 21 = .ok (.if_icmp .ge 103, 3) := by decide +kernel
theorem dX10_next_24 : decode cX10_next 24 = .ok (.iconst 0, 1) := by decide +kernel
theorem dX10_next_25 : decode cX10_next 25 = .ok (.istore 4, 2) := by decide +kernel
theorem dX10_next_27 : decode cX10_next 27 = .ok (.iload 4, 2) := by decide +kernel
theorem dX10_next_29 : decode cX10_next 29 = .ok (.bipush 10, 2) := by decide +kernel
theorem dX10_next_31 : decode cX10_next 31 = .ok (.if_icmp .ge 87, 3) := by decide +kernel
theorem dX10_next_34 : decode cX10_next 34 = .ok (.aload_n 0, 1) := by decide +kernel
theorem dX10_next_35 : decode cX10_next 35 = .ok (.getfield 48, 3) := by decide +kernel
theorem dX10_next_38 : decode cX10_next 38 = .ok (.getfield 167, 3) := by decide +kernel
theorem dX10_next_41 : decode cX10_next 41 = .ok (.iload_n 3, 1) := by decide +kernel
theorem dX10_next_42 : decode cX10_next 42 = .ok (.iaload, 1) := by decide +kernel
theorem dX10_next_43 : decode cX10_next 43 = .ok (.ifCond .ge 69, 3) := by decide +kernel
theorem dX10_next_46 : decode cX10_next 46 = .ok (.aload_n 0, 1) := by decide +kernel
theorem dX10_next_47 : decode cX10_next 47 = .ok (.getfield 48, 3) := by decide +kernel
theorem dX10_next_50 : decode cX10_next 50 = .ok (.getfield 178, 3) := by decide +kernel
theorem dX10_next_53 : decode cX10_next 53 = .ok (.iload 4, 2) := by decide +kernel
theorem dX10_next_55 : decode cX10_next 55 = .ok (.iaload, 1) := by decide +kernel
theorem dX10_next_56 : decode cX10_next 56 = .ok (.ifCond .lt 6, 3) := by decide +kernel
theorem dX10_next_59 : decode cX10_next 59 = .ok (.goto 53, 3) := by decide +kernel
theorem dX10_next_62 : decode cX10_next 62 = .ok (.aload_n 0, 1) := by decide +kernel
theorem dX10_next_63 : decode cX10_next 63 = .ok (.getfield 88, 3) := by decide +kernel
theorem dX10_next_66 : decode cX10_next 66 = .ok (.getfield 331, 3) := by decide +kernel
theorem dX10_next_69 : decode cX10_next 69 = .ok (.iload 4, 2) := by decide +kernel
theorem dX10_next_71 : decode cX10_next 71 = .ok (.iload_n 3, 1) := by decide +kernel
theorem dX10_next_72 : decode cX10_next 72 = .ok (.iastore, 1) := by decide +kernel
theorem dX10_next_73 : decode cX10_next 73 = .ok (.aload_n 0, 1) := by decide +kernel
theorem dX10_next_74 : decode cX10_next 74 = .ok (.invokevirtual 318, 3) := by decide +kernel
theorem dX10_next_77 : decode cX10_next 77 = .ok (.istore 5, 2) := by decide +kernel
theorem dX10_next_79 : decode cX10_next 79 = .ok (.aload_n 0, 1) := by decide +kernel
theorem dX10_next_80 : decode cX10_next 80 = .ok (.getfield 88, 3) := by decide +kernel
theorem dX10_next_83 : decode cX10_next 83 = .ok (.getfield 331, 3) := by decide +kernel
theorem dX10_next_86 : decode cX10_next 86 = .ok (.iload 4, 2) := by decide +kernel
theorem dX10_next_88 : decode cX10_next 88 = .ok (.iconst (-1), 1) := by decide +kernel
theorem dX10_next_89 : decode cX10_next 89 = .ok (.iastore, 1) := by decide +kernel
theorem dX10_next_90 : decode cX10_next 90 = .ok (.iload_n 1, 1) := by decide +kernel
theorem dX10_next_91 : decode cX10_next 91 = .ok (.iconst (-1), 1) := by decide +kernel
theorem dX10_next_92 : decode cX10_next 92 = .ok (.if_icmp .eq 9, 3) := by decide +kernel
theorem dX10_next_95 : decode cX10_next 95 = .ok (.iload 5, 2) := by decide +kernel
theorem dX10_next_97 : decode cX10_next 97 = .ok (.iload_n 2, 1) := by decide +kernel
theorem dX10_next_98 : decode cX10_next 98 = .ok (.if_icmp .le 14, 3) := by decide +kernel
theorem dX10_next_101 : decode cX10_next 101 = .ok (.iload 5, 2) := by decide +kernel
theorem dX10_next_103 : decode cX10_next 103 = .ok (.istore_n 2, 1) := by decide +kernel
theorem dX10_next_104 : decode cX10_next 104 = .ok (.bipush 10, 2) := by decide +kernel
theorem dX10_next_106 : decode cX10_next 106 = .ok (.iload_n 3, 1) := by decide +kernel
theorem dX10_next_107 : decode cX10_next 107 = .ok (.imul, 1) := by decide +kernel
theorem dX10_next_108 : decode cX10_next 108 = .ok (.iload 4, 2) := by decide +kernel
theorem dX10_next_110 : decode cX10_next 110 = .ok (.iadd, 1) := by decide +kernel
theorem dX10_next_111 : decode cX10_next 111 = .ok (.istore_n 1, 1) := by decide +kernel
theorem dX10_next_112 : decode cX10_next 112 = .ok (.iinc 4 1, 3) := by decide +kernel
theorem dX10_next_115 : decode cX10_next 115 = .ok (.goto (-88), 3) := by decide +kernel
theorem dX10_next_118 : decode cX10_next 118 = .ok (.iinc 3 1, 3) := by decide +kernel
theorem dX10_next_121 : decode cX10_next 121 = .ok (.goto (-108), 3) := by decide +kernel
theorem dX10_next_124 : decode cX10_next 124 = .ok (.iload_n 1, 1) := by decide +kernel
theorem dX10_next_125 : decode cX10_next 125 = .ok (.ireturn, 1) := by decide +kernel
theorem dX10_found_0 : decode cX10_found 0 = .ok (.aload_n 0, 1) := by decide +kernel
theorem dX10_found_1 : decode cX10_found 1 = .ok (.iload_n 1, 1) := by decide +kernel
theorem dX10_found_2 : decode cX10_found 2 = .ok (.invokevirtual 335, 3) := by decide +kernel
theorem dX10_found_5 : decode cX10_found 5 = .ok (.ifCond .ne 14, 3) := by decide +kernel
theorem dX10_found_8 : decode cX10_found 8 = .ok (.new 125, 3) := by decide +kernel
theorem dX10_found_11 : decode cX10_found 11 = .ok (.dup, 1) := by decide +kernel
theorem dX10_found_12 : decode cX10_found 12 = .ok (.ldc_w 338, 3) := by decide +kernel
theorem dX10_found_15 : decode cX10_found 15 = .ok (.invokespecial 129, 3) := by decide +kernel
theorem dX10_found_18 : decode cX10_found 18 = .ok (.athrow, 1) := by decide +kernel
theorem dX10_found_19 : decode cX10_found 19 = .ok (.iload_n 2, 1) := by decide +kernel
theorem dX10_found_20 : decode cX10_found 20 = .ok (.ifCond .eq 13, 3) := by decide +kernel
theorem dX10_found_23 : decode cX10_found 23 = .ok (.aload_n 0, 1) := by decide +kernel
theorem dX10_found_24 : decode cX10_found 24 = .ok (.getfield 23, 3) := by decide +kernel
theorem dX10_found_27 : decode cX10_found 27 = .ok (.invokevirtual 340, 3) := by decide +kernel
theorem dX10_found_30 : decode cX10_found 30 = .ok (.goto 10, 3) := by decide +kernel
theorem dX10_found_33 : decode cX10_found 33 = .ok (.aload_n 0, 1) := by decide +kernel
theorem dX10_found_34 : decode cX10_found 34 = .ok (.getfield 23, 3) := by decide +kernel
theorem dX10_found_37 : decode cX10_found 37 = .ok (.invokevirtual 343, 3) := by decide +kernel
theorem dX10_found_40 : decode cX10_found 40 = .ok (.ireturn, 1) := by decide +kernel
theorem dX10_ask_0 : decode cX10_ask 0 = .ok (.aload_n 0, 1) := by decide +kernel
theorem dX10_ask_1 : decode cX10_ask 1 = .ok (.iload_n 1, 1) := by decide +kernel
theorem dX10_ask_2 : decode cX10_ask 2 = .ok (.invokevirtual 335, 3) := by decide +kernel
theorem dX10_ask_5 : decode cX10_ask 5 = .ok (.ifCond .ne 14, 3) := by decide +kernel
theorem dX10_ask_8 : decode cX10_ask 8 = .ok (.new 125, 3) := by decide +kernel
theorem dX10_ask_11 : decode cX10_ask 11 = .ok (.dup, 1) := by decide +kernel
theorem dX10_ask_12 : decode cX10_ask 12 = .ok (.ldc_w 338, 3) := by decide +kernel
theorem dX10_ask_15 : decode cX10_ask 15 = .ok (.invokespecial 129, 3) := by decide +kernel
theorem dX10_ask_18 : decode cX10_ask 18 = .ok (.athrow, 1) := by decide +kernel
theorem dX10_ask_19 : decode cX10_ask 19 = .ok (.aload_n 0, 1) := by decide +kernel
theorem dX10_ask_20 : decode cX10_ask 20 = .ok (.getfield 23, 3) := by decide +kernel
theorem dX10_ask_23 : decode cX10_ask 23 = .ok (.aload_n 0, 1) := by decide +kernel
theorem dX10_ask_24 : decode cX10_ask 24 = .ok (.getfield 48, 3) := by decide +kernel
theorem dX10_ask_27 : decode cX10_ask 27 = .ok (.getfield 178, 3) := by decide +kernel
theorem dX10_ask_30 : decode cX10_ask 30 = .ok (.invokevirtual 346, 3) := by decide +kernel
theorem dX10_ask_33 : decode cX10_ask 33 = .ok (.ireturn, 1) := by decide +kernel
theorem dX10_car_0 : decode cX10_car 0 = .ok (.aload_n 0, 1) := by decide +kernel
theorem dX10_car_1 : decode cX10_car 1 = .ok (.iload_n 1, 1) := by decide +kernel
theorem dX10_car_2 : decode cX10_car 2 = .ok (.invokevirtual 181, 3) := by decide +kernel
theorem dX10_car_5 : decode cX10_car 5 = .ok (.aload_n 0, 1) := by decide +kernel
theorem dX10_car_6 : decode cX10_car 6 = .ok (.iload_n 2, 1) := by decide +kernel
theorem dX10_car_7 : decode cX10_car 7 = .ok (.invokevirtual 181, 3) := by decide +kernel
theorem dX10_car_10 : decode cX10_car 10 = .ok (.iload_n 1, 1) := by decide +kernel
theorem dX10_car_11 : decode cX10_car 11 = .ok (.iload_n 2, 1) := by decide +kernel
theorem dX10_car_12 : decode cX10_car 12 = .ok (.if_icmp .ne 14, 3) := by decide +kernel
theorem dX10_car_15 : decode cX10_car 15 = .ok (.new 125, 3) := by decide +kernel
theorem dX10_car_18 : decode cX10_car 18 = .ok (.dup, 1) := by decide +kernel
theorem dX10_car_19 : decode cX10_car 19 = .ok (.ldc_w 349, 3) := by decide +kernel
theorem dX10_car_22 : decode cX10_car 22 = .ok (.invokespecial 129, 3) := by decide +kernel
theorem dX10_car_25 : decode cX10_car 25 = .ok (.athrow, 1) := by decide +kernel
theorem dX10_car_26 : decode cX10_car 26 = .ok (.aload_n 0, 1) := by decide +kernel
theorem dX10_car_27 : decode cX10_car 27 = .ok (.getfield 88, 3) := by decide +kernel
theorem dX10_car_30 : decode cX10_car 30 = .ok (.invokevirtual 200, 3) := by decide +kernel
theorem dX10_car_33 : decode cX10_car 33 = .ok (.aload_n 0, 1) := by decide +kernel
theorem dX10_car_34 : decode cX10_car 34 = .ok (.getfield 88, 3) := by decide +kernel
theorem dX10_car_37 : decode cX10_car 37 = .ok (.iload_n 1, 1) := by decide +kernel
theorem dX10_car_38 : decode cX10_car 38 = .ok (.invokevirtual 203, 3) := by decide +kernel
theorem dX10_car_41 : decode cX10_car 41 = .ok (.aload_n 0, 1) := by decide +kernel
theorem dX10_car_42 : decode cX10_car 42 = .ok (.getfield 88, 3) := by decide +kernel
theorem dX10_car_45 : decode cX10_car 45 = .ok (.invokevirtual 351, 3) := by decide +kernel
theorem dX10_car_48 : decode cX10_car 48 = .ok (.aload_n 0, 1) := by decide +kernel
theorem dX10_car_49 : decode cX10_car 49 = .ok (.getfield 92, 3) := by decide +kernel
theorem dX10_car_52 : decode cX10_car 52 = .ok (.invokevirtual 200, 3) := by decide +kernel
theorem dX10_car_55 : decode cX10_car 55 = .ok (.aload_n 0, 1) := by decide +kernel
theorem dX10_car_56 : decode cX10_car 56 = .ok (.getfield 92, 3) := by decide +kernel
theorem dX10_car_59 : decode cX10_car 59 = .ok (.iload_n 2, 1) := by decide +kernel
theorem dX10_car_60 : decode cX10_car 60 = .ok (.invokevirtual 203, 3) := by decide +kernel
theorem dX10_car_63 : decode cX10_car 63 = .ok (.aload_n 0, 1) := by decide +kernel
theorem dX10_car_64 : decode cX10_car 64 = .ok (.getfield 92, 3) := by decide +kernel
theorem dX10_car_67 : decode cX10_car 67 = .ok (.invokevirtual 351, 3) := by decide +kernel
theorem dX10_car_70 : decode cX10_car 70 = .ok (.iconst 0, 1) := by decide +kernel
theorem dX10_car_71 : decode cX10_car 71 = .ok (.istore_n 3, 1) := by decide +kernel
theorem dX10_car_72 : decode cX10_car 72 = .ok (.iload_n 3, 1) := by decide +kernel
theorem dX10_car_73 : decode cX10_car 73 = .ok (.bipush 10, 2) := by decide +kernel
theorem dX10_car_75 : decode cX10_car 75 = .ok (.if_icmp .ge 79, 3) := by decide +kernel
theorem dX10_car_78 : decode cX10_car 78 = .ok (.aload_n 0, 1) := by decide +kernel
theorem dX10_car_79 : decode cX10_car 79 = .ok (.getfield 88, 3) := by decide +kernel
theorem dX10_car_82 : decode cX10_car 82 = .ok (.iload_n 3, 1) := by decide +kernel
theorem dX10_car_83 : decode cX10_car 83 = .ok (.invokevirtual 354, 3) := by decide +kernel
theorem dX10_car_86 : decode cX10_car 86 = .ok (.istore 4, 2) := by decide +kernel
theorem dX10_car_88 : decode cX10_car 88 = .ok (.aload_n 0, 1) := by decide +kernel
theorem dX10_car_89 : decode cX10_car 89 = .ok (.getfield 92, 3) := by decide +kernel
theorem dX10_car_92 : decode cX10_car 92 = .ok (.iload_n 3, 1) := by decide +kernel
theorem dX10_car_93 : decode cX10_car 93 = .ok (.invokevirtual 354, 3) := by decide +kernel
theorem dX10_car_96 : decode cX10_car 96 = .ok (.istore 5, 2) := by decide +kernel
theorem dX10_car_98 : decode cX10_car 98 = .ok (.iload 4, 2) := by decide +kernel
theorem dX10_car_100 : decode cX10_car 100 = .ok (.ifCond .eq 23, 3) := by decide +kernel
theorem dX10_car_103 : decode cX10_car 103 = .ok (.iload 5, 2) := by decide +kernel
theorem dX10_car_105 : decode cX10_car 105 = .ok (.ifCond .ne 18, 3) := by decide +kernel
theorem dX10_car_108 : decode cX10_car 108 = .ok (.aload_n 0, 1) := by decide +kernel
theorem dX10_car_109 : decode cX10_car 109 = .ok (.getfield 92, 3) := by decide +kernel
theorem dX10_car_112 : decode cX10_car 112 = .ok (.iload_n 3, 1) := by decide +kernel
theorem dX10_car_113 : decode cX10_car 113 = .ok (.aload_n 0, 1) := by decide +kernel
theorem dX10_car_114 : decode cX10_car 114 = .ok (.getfield 48, 3) := by decide +kernel
theorem dX10_car_117 : decode cX10_car 117 = .ok (.getfield 357, 3) := by decide +kernel
theorem dX10_car_120 : decode cX10_car 120 = .ok (.invokevirtual 360, 3) := by decide +kernel
theorem dX10_car_123 : decode cX10_car 123 = .ok (.iload 5, 2) := by decide +kernel
theorem dX10_car_125 : decode cX10_car 125 = .ok (.ifCond .eq 23, 3) := by decide +kernel
theorem dX10_car_128 : decode cX10_car 128 = .ok (.iload 4, 2) := by decide +kernel
theorem dX10_car_130 : decode cX10_car 130 = .ok (.ifCond .ne 18, 3) := by decide +kernel
theorem dX10_car_133 : decode cX10_car 133 = .ok (.aload_n 0, 1) := by decide +kernel
theorem dX10_car_134 : decode cX10_car 134 = .ok (.getfield 88, 3) := by decide +kernel
theorem dX10_car_137 : decode cX10_car 137 = .ok (.iload_n 3, 1) := by decide +kernel
theorem dX10_car_138 : decode cX10_car 138 = .ok (.aload_n 0, 1) := by decide +kernel
theorem dX10_car_139 : decode cX10_car 139 = .ok (.getfield 48, 3) := by decide +kernel
theorem dX10_car_142 : decode cX10_car 142 = .ok (.getfield 357, 3) := by decide +kernel
theorem dX10_car_145 : decode cX10_car 145 = .ok (.invokevirtual 360, 3) := by decide +kernel
theorem dX10_car_148 : decode cX10_car 148 = .ok (.iinc 3 1, 3) := by decide +kernel
theorem dX10_car_151 : decode cX10_car 151 = .ok (.goto (-79), 3) := by decide +kernel
theorem dX10_car_154 : decode cX10_car 154 = .ok (.aload_n 0, 1) := by decide +kernel
theorem dX10_car_155 : decode cX10_car 155 = .ok (.getfield 88, 3) := by decide +kernel
theorem dX10_car_158 : decode cX10_car 158 = .ok (.getfield 243, 3) := by decide +kernel
theorem dX10_car_161 : decode cX10_car 161 = .ok (.iconst (-1), 1) := by decide +kernel
theorem dX10_car_162 : decode cX10_car 162 = .ok (.if_icmp .eq 7, 3) := by decide +kernel
theorem dX10_car_165 : decode cX10_car 165 = .ok (.iconst 1, 1) := by decide +kernel
theorem dX10_car_166 : decode cX10_car 166 = .ok (.goto 4, 3) := by decide +kernel
theorem dX10_car_169 : decode cX10_car 169 = .ok (.iconst 0, 1) := by decide +kernel
theorem dX10_car_170 : decode cX10_car 170 = .ok (.aload_n 0, 1) := by decide +kernel
theorem dX10_car_171 : decode cX10_car 171 = .ok (.getfield 92, 3) := by decide +kernel
theorem dX10_car_174 : decode cX10_car 174 = .ok (.getfield 243, 3) := by decide +kernel
theorem dX10_car_177 : decode cX10_car 177 = .ok (.iconst (-1), 1) := by decide +kernel
theorem dX10_car_178 : decode cX10_car 178 = .ok (.if_icmp .eq 7, 3) := by decide +kernel
theorem dX10_car_181 : decode cX10_car 181 = .ok (.iconst 2, 1) := by decide +kernel
theorem dX10_car_182 : decode cX10_car 182 = .ok (.goto 4, 3) := by decide +kernel
theorem dX10_car_185 : decode cX10_car 185 = .ok (.iconst 0, 1) := by decide +kernel
theorem dX10_car_186 : decode cX10_car 186 = .ok (.ior, 1) := by decide +kernel
theorem dX10_car_187 : decode cX10_car 187 = .ok (.ireturn, 1) := by decide +kernel
theorem dX10_corners_0 : decode cX10_corners 0 = .ok (.aload_n 0, 1) := by decide +kernel
theorem dX10_corners_1 : decode cX10_corners 1 = .ok (.iload_n 1, 1) := by decide +kernel
theorem dX10_corners_2 : decode cX10_corners 2 = .ok (.invokevirtual 181, 3) := by decide +kernel
theorem dX10_corners_5 : decode cX10_corners 5 = .ok (.aload_n 0, 1) := by decide +kernel
theorem dX10_corners_6 : decode cX10_corners 6 = .ok (.iload_n 1, 1) := by decide +kernel
theorem dX10_corners_7 : decode cX10_corners 7 = .ok (.invokevirtual 300, 3) := by decide +kernel
theorem dX10_corners_10 : decode cX10_corners 10 = .ok (.iconst 0, 1) := by decide +kernel
theorem dX10_corners_11 : decode cX10_corners 11 = .ok (.istore_n 2, 1) := by decide +kernel
theorem dX10_corners_12 : decode cX10_corners 12 = .ok (.iconst 0, 1) := by decide +kernel
theorem dX10_corners_13 : decode cX10_corners 13 = .ok (.istore_n 3, 1) := by decide +kernel
theorem dX10_corners_14 : decode cX10_corners 14 = .ok (.iload_n 3, 1) := by decide +kernel
theorem dX10_corners_15 : decode cX10_corners 15 = .ok (.bipush 10, 2) := by decide +kernel
theorem dX10_corners_17 : decode cX10_corners 17 = .ok (.if_icmp .ge 73, 3) := by decide +kernel
theorem dX10_corners_20 : decode cX10_corners 20 = .ok (.aload_n 0, 1) := by decide +kernel
theorem dX10_corners_21 : decode cX10_corners 21 = .ok (.getfield 88, 3) := by decide +kernel
theorem dX10_corners_24 : decode cX10_corners 24 = .ok (.getfield 303, 3) := by decide +kernel
theorem dX10_corners_27 : decode cX10_corners 27 = .ok (.iload_n 3, 1) := by decide +kernel
theorem dX10_corners_28 : decode cX10_corners 28 = .ok (.iaload, 1) := by decide +kernel
theorem dX10_corners_29 : decode cX10_corners 29 = .ok (.iconst (-1), 1) := by decide +kernel
theorem dX10_corners_30 : decode cX10_corners 30 = .ok (.if_icmp .eq 7, 3) := by decide +kernel
theorem dX10_corners_33 : decode cX10_corners 33 = .ok (.iconst 1, 1) := by decide +kernel
theorem dX10_corners_34 : decode cX10_corners 34 = .ok (.goto 4, 3) := by decide +kernel
theorem dX10_corners_37 : decode cX10_corners 37 = .ok (.iconst 0, 1) := by decide +kernel
theorem dX10_corners_38 : decode cX10_corners 38 = .ok (.istore 4, 2) := by decide +kernel
theorem dX10_corners_40 : decode cX10_corners 40 = .ok (.iload 4, 2) := by decide +kernel
theorem dX10_corners_42 : decode cX10_corners 42 = .ok (.ifCond .eq 42, 3) := by decide +kernel
theorem dX10_corners_45 : decode cX10_corners 45 = .ok (.aload_n 0, 1) := by decide +kernel
theorem dX10_corners_46 : decode cX10_corners 46 = .ok (.getfield 88, 3) := by decide +kernel
theorem dX10_corners_49 : decode cX10_corners 49 = .ok (.getfield 331, 3) := by decide +kernel
theorem dX10_corners_52 : decode cX10_corners 52 = .ok (.iload_n 3, 1) := by decide +kernel
theorem dX10_corners_53 : decode cX10_corners 53 = .ok (.iaload, 1) := by decide +kernel
theorem dX10_corners_54 : decode cX10_corners 54 = .ok (.ifCond .ge 30, 3) := by decide +kernel
theorem dX10_corners_57 : decode cX10_corners 57 = .ok (.aload_n 0, 1) := by decide +kernel
theorem dX10_corners_58 : decode cX10_corners 58 = .ok (.getfield 88, 3) := by decide +kernel
theorem dX10_corners_61 : decode cX10_corners 61 = .ok (.getfield 303, 3) := by decide +kernel
theorem dX10_corners_64 : decode cX10_corners 64 = .ok (.iload_n 3, 1) := by decide +kernel
theorem dX10_corners_65 : decode cX10_corners 65 = .ok (.iaload, 1) := by decide +kernel
theorem dX10_corners_66 : decode cX10_corners 66 = .ok (.aload_n 0, 1) := by decide +kernel
theorem dX10_corners_67 : decode cX10_corners 67 = .ok (.getfield 88, 3) := by decide +kernel
theorem dX10_corners_70 : decode cX10_corners 70 = .ok (.getfield 363, 3) := by decide +kernel
theorem dX10_corners_73 : decode cX10_corners 73 = .ok (.iconst 2, 1) := by decide +kernel
theorem dX10_corners_74 : decode cX10_corners 74 = .ok (.idiv, 1) := by decide +kernel
theorem dX10_corners_75 : decode cX10_corners 75 = .ok (.if_icmp .lt 9, 3) := by decide +kernel
theorem dX10_corners_78 : decode cX10_corners 78 = .ok (.iload_n 2, 1) := by decide +kernel
theorem dX10_corners_79 : decode cX10_corners 79 = .ok (.iconst 1, 1) := by decide +kernel
theorem dX10_corners_80 : decode cX10_corners 80 = .ok (.iload_n 3, 1) := by decide +kernel
theorem dX10_corners_81 : decode cX10_corners 81 = .ok (.ishl, 1) := by decide +kernel
theorem dX10_corners_82 : decode cX10_corners 82 = .ok (.ior, 1) := by decide +kernel
theorem dX10_corners_83 : decode cX10_corners 83 = .ok (.istore_n 2, 1) := by decide +kernel
theorem dX10_corners_84 : decode cX10_corners 84 = .ok (.iinc 3 1, 3) := by decide +kernel
theorem dX10_corners_87 : decode cX10_corners 87 = .ok (.goto (-73), 3) := by decide +kernel
theorem dX10_corners_90 : decode cX10_corners 90 = .ok (.iload_n 2, 1) := by decide +kernel
theorem dX10_corners_91 : decode cX10_corners 91 = .ok (.ireturn, 1) := by decide +kernel
theorem dX10_cover_0 : decode cX10_cover 0 = .ok (.iconst 0, 1) := by decide +kernel
theorem dX10_cover_1 : decode cX10_cover 1 = .ok (.istore_n 1, 1) := by decide +kernel
theorem dX10_cover_2 : decode cX10_cover 2 = .ok (.iconst 0, 1) := by decide +kernel
theorem dX10_cover_3 : decode cX10_cover 3 = .ok (.istore_n 2, 1) := by decide +kernel
theorem dX10_cover_4 : decode cX10_cover 4 = .ok (.iload_n 2, 1) := by decide +kernel
theorem dX10_cover_5 : decode cX10_cover 5 = .ok (.aload_n 0, 1) := by decide +kernel
theorem dX10_cover_6 : decode cX10_cover 6 = .ok (.getfield 48, 3) := by decide +kernel
theorem dX10_cover_9 : decode cX10_cover 9 = .ok (.getfield 322, 3) := by decide +kernel
theorem dX10_cover_12 : decode cX10_cover 12 = .ok (.if_icmp .ge 36, 3) := by decide +kernel
theorem dX10_cover_15 : decode cX10_cover 15 = .ok (.iload_n 1, 1) := by decide +kernel
theorem dX10_cover_16 : decode cX10_cover 16 = .ok (.aload_n 0, 1) := by decide +kernel
theorem dX10_cover_17 : decode cX10_cover 17 = .ok (.getfield 48, 3) := by decide +kernel
theorem dX10_cover_20 : decode cX10_cover 20 = .ok (.iload_n 2, 1) := by decide +kernel
theorem dX10_cover_21 : decode cX10_cover 21 = .ok (.invokevirtual 325, 3) := by decide +kernel
theorem dX10_cover_24 : decode cX10_cover 24 = .ok (.ifCond .eq 15, 3) := by decide +kernel
theorem dX10_cover_27 : decode cX10_cover 27 = .ok (.aload_n 0, 1) := by decide +kernel
theorem dX10_cover_28 : decode cX10_cover 28 = .ok (.getfield 48, 3) := by decide +kernel
theorem dX10_cover_31 : decode cX10_cover 31 = .ok (.getfield 184, 3) := by decide +kernel
theorem dX10_cover_34 : decode cX10_cover 34 = .ok (.iload_n 2, 1) := by decide +kernel
theorem dX10_cover_35 : decode cX10_cover 35 = .ok (.iaload, 1) := by decide +kernel
theorem dX10_cover_36 : decode cX10_cover 36 = .ok (.goto 4, 3) := by decide +kernel
theorem dX10_cover_39 : decode cX10_cover 39 = .ok (.iconst 0, 1) := by decide +kernel
theorem dX10_cover_40 : decode cX10_cover 40 = .ok (.ior, 1) := by decide +kernel
theorem dX10_cover_41 : decode cX10_cover 41 = .ok (.istore_n 1, 1) := by decide +kernel
theorem dX10_cover_42 : decode cX10_cover 42 = .ok (.iinc 2 1, 3) := by decide +kernel
theorem dX10_cover_45 : decode cX10_cover 45 = .ok (.goto (-41), 3) := by decide +kernel
theorem dX10_cover_48 : decode cX10_cover 48 = .ok (.iconst 0, 1) := by decide +kernel
theorem dX10_cover_49 : decode cX10_cover 49 = .ok (.istore_n 2, 1) := by decide +kernel
theorem dX10_cover_50 : decode cX10_cover 50 = .ok (.iconst 0, 1) := by decide +kernel
theorem dX10_cover_51 : decode cX10_cover 51 = .ok (.istore_n 3, 1) := by decide +kernel
theorem dX10_cover_52 : decode cX10_cover 52 = .ok (.iload_n 3, 1) := by decide +kernel
theorem dX10_cover_53 : decode cX10_cover 53 = .ok (.aload_n 0, 1) := by decide +kernel
theorem dX10_cover_54 : decode cX10_cover 54 = .ok (.getfield 48, 3) := by decide +kernel
theorem dX10_cover_57 : decode cX10_cover 57 = .ok (.getfield 294, 3) := by decide +kernel
theorem dX10_cover_60 : decode cX10_cover 60 = .ok (.if_icmp .ge 42, 3) := by decide +kernel
theorem dX10_cover_63 : decode cX10_cover 63 = .ok (.iconst 1, 1) := by decide +kernel
theorem dX10_cover_64 : decode cX10_cover 64 = .ok (.aload_n 0, 1) := by decide +kernel
theorem dX10_cover_65 : decode cX10_cover 65 = .ok (.getfield 48, 3) := by decide +kernel
theorem dX10_cover_68 : decode cX10_cover 68 = .ok (.getfield 158, 3) := by decide +kernel
theorem dX10_cover_71 : decode cX10_cover 71 = .ok (.iload_n 3, 1) := by decide +kernel
theorem dX10_cover_72 : decode cX10_cover 72 = .ok (.iaload, 1) := by decide +kernel
theorem dX10_cover_73 : decode cX10_cover 73 = .ok (.ishl, 1) := by decide +kernel
theorem dX10_cover_74 : decode cX10_cover 74 = .ok (.istore 4, 2) := by decide +kernel
theorem dX10_cover_76 : decode cX10_cover 76 = .ok (.iload_n 1, 1) := by decide +kernel
theorem dX10_cover_77 : decode cX10_cover 77 = .ok (.iload 4, 2) := by decide +kernel
theorem dX10_cover_79 : decode cX10_cover 79 = .ok (.iand, 1) := by decide +kernel
theorem dX10_cover_80 : decode cX10_cover 80 = .ok (.ifCond .eq 16, 3) := by decide +kernel
theorem dX10_cover_83 : decode cX10_cover 83 = .ok (.iload_n 2, 1) := by decide +kernel
theorem dX10_cover_84 : decode cX10_cover 84 = .ok (.iconst 1, 1) := by decide +kernel
theorem dX10_cover_85 : decode cX10_cover 85 = .ok (.iload_n 3, 1) := by decide +kernel
theorem dX10_cover_86 : decode cX10_cover 86 = .ok (.ishl, 1) := by decide +kernel
theorem dX10_cover_87 : decode cX10_cover 87 = .ok (.ior, 1) := by decide +kernel
theorem dX10_cover_88 : decode cX10_cover 88 = .ok (.istore_n 2, 1) := by decide +kernel
theorem dX10_cover_89 : decode cX10_cover 89 = .ok (.iload_n 1, 1) := by decide +kernel
theorem dX10_cover_90 : decode cX10_cover 90 = .ok (.iload 4, 2) := by decide +kernel
theorem dX10_cover_92 : decode cX10_cover 92 = .ok (.iconst (-1), 1) := by decide +kernel
theorem dX10_cover_93 : decode cX10_cover 93 = .ok (.ixor, 1) := by decide +kernel
theorem dX10_cover_94 : decode cX10_cover 94 = .ok (.iand, 1) := by decide +kernel
theorem dX10_cover_95 : decode cX10_cover 95 = .ok (.istore_n 1, 1) := by decide +kernel
theorem dX10_cover_96 : decode cX10_cover 96 = .ok (.iinc 3 1, 3) := by decide +kernel
theorem dX10_cover_99 : decode cX10_cover 99 = .ok (.goto (-47), 3) := by decide +kernel
theorem dX10_cover_102 : decode cX10_cover 102 = .ok (.iload_n 2, 1) := by decide +kernel
theorem dX10_cover_103 : decode cX10_cover 103 = .ok (.ireturn, 1) := by decide +kernel
theorem dX10_leave_0 : decode cX10_leave 0 = .ok (.aload_n 0, 1) := by decide +kernel
theorem dX10_leave_1 : decode cX10_leave 1 = .ok (.invokevirtual 365, 3) := by decide +kernel
theorem dX10_leave_4 : decode cX10_leave 4 = .ok (.istore_n 1, 1) := by decide +kernel
theorem dX10_leave_5 : decode cX10_leave 5 = .ok (.iload_n 1, 1) := by decide +kernel
theorem dX10_leave_6 : decode cX10_leave 6 = .ok (.istore_n 2, 1) := by decide +kernel
theorem dX10_leave_7 : decode cX10_leave 7 = .ok (.iload_n 1, 1) := by decide +kernel
theorem dX10_leave_8 : decode cX10_leave 8 = .ok (.invokestatic 276, 3) := by decide +kernel
theorem dX10_leave_11 : decode cX10_leave 11 = .ok (.istore_n 3, 1) := by decide +kernel
theorem dX10_leave_12 : decode cX10_leave 12 = .ok (.iconst 0, 1) := by decide +kernel
theorem dX10_leave_13 : decode cX10_leave 13 = .ok (.istore 4, 2) := by decide +kernel
theorem dX10_leave_15 : decode cX10_leave 15 = .ok (.iload 4, 2) := by decide +kernel
theorem dX10_leave_17 : decode cX10_leave 17 = .ok (.sipush 256, 3) := by decide +kernel
theorem dX10_leave_20 : decode cX10_leave 20 = .ok (.if_icmp .ge 57, 3) := by decide +kernel
theorem dX10_leave_23 : decode cX10_leave 23 = .ok (.iload 4, 2) := by decide +kernel
theorem dX10_leave_25 : decode cX10_leave 25 = .ok (.iload_n 1, 1) := by decide +kernel
theorem dX10_leave_26 : decode cX10_leave 26 = .ok (.iconst (-1), 1) := by decide +kernel
theorem dX10_leave_27 : decode cX10_leave 27 = .ok (.ixor, 1) := by decide +kernel
theorem dX10_leave_28 : decode cX10_leave 28 = .ok (.iand, 1) := by decide +kernel
theorem dX10_leave_29 : decode cX10_leave 29 = .ok (.ifCond .ne 16, 3) := by decide +kernel
theorem dX10_leave_32 : decode cX10_leave 32 = .ok (.iload 4, 2) := by decide +kernel
theorem dX10_leave_34 : decode cX10_leave 34 = .ok (.invokestatic 276, 3) := by decide +kernel
theorem dX10_leave_37 : decode cX10_leave 37 = .ok (.iload_n 3, 1) := by decide +kernel
theorem dX10_leave_38 : decode cX10_leave 38 = .ok (.if_icmp .ge 7, 3) := by decide +kernel
theorem dX10_leave_41 : decode cX10_leave 41 = .ok (.iconst 1, 1) := by decide +kernel
theorem dX10_leave_42 : decode cX10_leave 42 = .ok (.goto 4, 3) := by decide +kernel
theorem dX10_leave_45 : decode cX10_leave 45 = .ok (.iconst 0, 1) := by decide +kernel
theorem dX10_leave_46 : decode cX10_leave 46 = .ok (.istore 5, 2) := by decide +kernel
theorem dX10_leave_48 : decode cX10_leave 48 = .ok (.iload 5, 2) := by decide +kernel
theorem dX10_leave_50 : decode cX10_leave 50 = .ok (.ifCond .eq 21, 3) := by decide +kernel
theorem dX10_leave_53 : decode cX10_leave 53 = .ok (.aload_n 0, 1) := by decide +kernel
theorem dX10_leave_54 : decode cX10_leave 54 = .ok (.iload 4, 2) := by decide +kernel
theorem dX10_leave_56 : decode cX10_leave 56 = .ok (.invokevirtual 368, 3) := by decide +kernel
theorem dX10_leave_59 : decode cX10_leave 59 = .ok (.ifCond .eq 12, 3) := by decide +kernel
theorem dX10_leave_62 : decode cX10_leave 62 = .ok (.iload 4, 2) := by decide +kernel
theorem dX10_leave_64 : decode cX10_leave 64 = .ok (.istore_n 2, 1) := by decide +kernel
theorem dX10_leave_65 : decode cX10_leave 65 = .ok (.iload 4, 2) := by decide +kernel
theorem dX10_leave_67 : decode cX10_leave 67 = .ok (.invokestatic 276, 3) := by decide +kernel
theorem dX10_leave_70 : decode cX10_leave 70 = .ok (.istore_n 3, 1) := by decide +kernel
theorem dX10_leave_71 : decode cX10_leave 71 = .ok (.iinc 4 1, 3) := by decide +kernel
theorem dX10_leave_74 : decode cX10_leave 74 = .ok (.goto (-59), 3) := by decide +kernel
theorem dX10_leave_77 : decode cX10_leave 77 = .ok (.iload_n 2, 1) := by decide +kernel
theorem dX10_leave_78 : decode cX10_leave 78 = .ok (.ireturn, 1) := by decide +kernel
theorem dX10_bravest_0 : decode cX10_bravest 0 = .ok (.aload_n 0, 1) := by decide +kernel
theorem dX10_bravest_1 : decode cX10_bravest 1 = .ok (.getfield 88, 3) := by decide +kernel
theorem dX10_bravest_4 : decode cX10_bravest 4 = .ok (.invokevirtual 200, 3) := by decide +kernel
theorem dX10_bravest_7 : decode cX10_bravest 7 = .ok (.iconst (-1), 1) := by decide +kernel
theorem dX10_bravest_8 : decode cX10_bravest 8 = .ok (.istore_n 1, 1) := by decide +kernel
theorem dX10_bravest_9 : decode cX10_bravest 9 = .ok (.iconst 0, 1) := by decide +kernel
theorem dX10_bravest_10 : decode cX10_bravest 10 = .ok (.istore_n 2, 1) := by decide +kernel
theorem dX10_bravest_11 : decode cX10_bravest 11 = .ok (.iconst 0, 1) := by decide +kernel
theorem dX10_bravest_12 : decode cX10_bravest 12 = .ok (.istore_n 3, 1) := by decide +kernel
theorem dX10_bravest_13 : decode cX10_bravest 13 = .ok (.iload_n 3, 1) := by decide +kernel
theorem dX10_bravest_14 : decode cX10_bravest 14 = .ok (.aload_n 0, 1) := by decide +kernel
theorem dX10_bravest_15 : decode cX10_bravest 15 = .ok (.getfield 48, 3) := by decide +kernel
theorem dX10_bravest_18 : decode cX10_bravest 18 = .ok (.getfield 322, 3) := by decide +kernel
theorem dX10_bravest_21 : decode cX10_bravest 21 = .ok (.if_icmp .ge 46, 3) := by decide +kernel
theorem dX10_bravest_24 : decode cX10_bravest 24 = .ok (.aload_n 0, 1) := by decide +kernel
theorem dX10_bravest_25 : decode cX10_bravest 25 = .ok (.getfield 48, 3) := by decide +kernel
theorem dX10_bravest_28 : decode cX10_bravest 28 = .ok (.iload_n 3, 1) := by decide +kernel
theorem dX10_bravest_29 : decode cX10_bravest 29 = .ok (.invokevirtual 325, 3) := by decide +kernel
theorem dX10_bravest_32 : decode cX10_bravest 32 = .ok (.ifCond .eq 29, 3) := by decide +kernel
theorem dX10_bravest_35 : decode cX10_bravest 35 = .ok (.aload_n 0, 1) := by decide +kernel
theorem dX10_bravest_36 : decode cX10_bravest 36 = .ok (.getfield 100, 3) := by decide +kernel
theorem dX10_bravest_39 : decode cX10_bravest 39 = .ok (.iload_n 3, 1) := by decide +kernel
theorem dX10_bravest_40 : decode cX10_bravest 40 = .ok (.invokevirtual 315, 3) := by decide +kernel
theorem dX10_bravest_43 : decode cX10_bravest 43 = .ok (.istore 4, 2) := by decide +kernel
theorem dX10_bravest_45 : decode cX10_bravest 45 = .ok (.iload_n 1, 1) := by decide +kernel
theorem dX10_bravest_46 : decode cX10_bravest 46 = .ok (.iconst (-1), 1) := by decide +kernel
theorem dX10_bravest_47 : decode cX10_bravest 47 = .ok (.if_icmp .eq 9, 3) := by decide +kernel
theorem dX10_bravest_50 : decode cX10_bravest 50 = .ok (.iload 4, 2) := by decide +kernel
theorem dX10_bravest_52 : decode cX10_bravest 52 = .ok (.iload_n 2, 1) := by decide +kernel
theorem dX10_bravest_53 : decode cX10_bravest 53 = .ok (.if_icmp .ge 8, 3) := by decide +kernel
theorem dX10_bravest_56 : decode cX10_bravest 56 = .ok (.iload 4, 2) := by decide +kernel
theorem dX10_bravest_58 : decode cX10_bravest 58 = .ok (.istore_n 2, 1) := by decide +kernel
theorem dX10_bravest_59 : decode cX10_bravest 59 = .ok (.iload_n 3, 1) := by decide +kernel
theorem dX10_bravest_60 : decode cX10_bravest 60 = .ok (.istore_n 1, 1) := by decide +kernel
theorem dX10_bravest_61 : decode cX10_bravest 61 = .ok (.iinc 3 1, 3) := by decide +kernel
theorem dX10_bravest_64 : decode cX10_bravest 64 = .ok (.goto (-51), 3) := by decide +kernel
theorem dX10_bravest_67 : decode cX10_bravest 67 = .ok (.iload_n 1, 1) := by decide +kernel
theorem dX10_bravest_68 : decode cX10_bravest 68 = .ok (.ireturn, 1) := by decide +kernel
theorem dX10_alike_0 : decode cX10_alike 0 = .ok (.iconst 0, 1) := by decide +kernel
theorem dX10_alike_1 : decode cX10_alike 1 = .ok (.istore_n 1, 1) := by decide +kernel
theorem dX10_alike_2 : decode cX10_alike 2 = .ok (.iconst 0, 1) := by decide +kernel
theorem dX10_alike_3 : decode cX10_alike 3 = .ok (.istore_n 2, 1) := by decide +kernel
theorem dX10_alike_4 : decode cX10_alike 4 = .ok (.iload_n 2, 1) := by decide +kernel
theorem dX10_alike_5 : decode cX10_alike 5 = .ok (.aload_n 0, 1) := by decide +kernel
theorem dX10_alike_6 : decode cX10_alike 6 = .ok (.getfield 48, 3) := by decide +kernel
theorem dX10_alike_9 : decode cX10_alike 9 = .ok (.getfield 322, 3) := by decide +kernel
theorem dX10_alike_12 : decode cX10_alike 12 = .ok (.if_icmp .ge 75, 3) := by decide +kernel
theorem dX10_alike_15 : decode cX10_alike 15 = .ok (.iload_n 2, 1) := by decide +kernel
theorem dX10_alike_16 : decode cX10_alike 16 = .ok (.iconst 1, 1) := by decide +kernel
theorem dX10_alike_17 : decode cX10_alike 17 = .ok (.iadd, 1) := by decide +kernel
theorem dX10_alike_18 : decode cX10_alike 18 = .ok (.istore_n 3, 1) := by decide +kernel
theorem dX10_alike_19 : decode cX10_alike 19 = .ok (.iload_n 3, 1) := by decide +kernel
theorem dX10_alike_20 : decode cX10_alike 20 = .ok (.aload_n 0, 1) := by decide +kernel
theorem dX10_alike_21 : decode cX10_alike 21 = .ok (.getfield 48, 3) := by decide +kernel
theorem dX10_alike_24 : decode cX10_alike 24 = .ok (.getfield 322, 3) := by decide +kernel
theorem dX10_alike_27 : decode cX10_alike 27 = .ok (.if_icmp .ge 54, 3) := by decide +kernel
theorem dX10_alike_30 : decode cX10_alike 30 = .ok (.aload_n 0, 1) := by decide +kernel
theorem dX10_alike_31 : decode cX10_alike 31 = .ok (.getfield 48, 3) := by decide +kernel
theorem dX10_alike_34 : decode cX10_alike 34 = .ok (.getfield 184, 3) := by decide +kernel
theorem dX10_alike_37 : decode cX10_alike 37 = .ok (.iload_n 2, 1) := by decide +kernel
theorem dX10_alike_38 : decode cX10_alike 38 = .ok (.iaload, 1) := by decide +kernel
theorem dX10_alike_39 : decode cX10_alike 39 = .ok (.aload_n 0, 1) := by decide +kernel
theorem dX10_alike_40 : decode cX10_alike 40 = .ok (.getfield 48, 3) := by decide +kernel
theorem dX10_alike_43 : decode cX10_alike 43 = .ok (.getfield 184, 3) := by decide +kernel
theorem dX10_alike_46 : decode cX10_alike 46 = .ok (.iload_n 3, 1) := by decide +kernel
theorem dX10_alike_47 : decode cX10_alike 47 = .ok (.iaload, 1) := by decide +kernel
theorem dX10_alike_48 : decode cX10_alike 48 = .ok (.if_icmp .ne 27, 3) := by decide +kernel
theorem dX10_alike_51 : decode cX10_alike 51 = .ok (.aload_n 0, 1) := by decide +kernel
theorem dX10_alike_52 : decode cX10_alike 52 = .ok (.getfield 48, 3) := by decide +kernel
theorem dX10_alike_55 : decode cX10_alike 55 = .ok (.getfield 187, 3) := by decide +kernel
theorem dX10_alike_58 : decode cX10_alike 58 = .ok (.iload_n 2, 1) := by decide +kernel
theorem dX10_alike_59 : decode cX10_alike 59 = .ok (.iaload, 1) := by decide +kernel
theorem dX10_alike_60 : decode cX10_alike 60 = .ok (.aload_n 0, 1) := by decide +kernel
theorem dX10_alike_61 : decode cX10_alike 61 = .ok (.getfield 48, 3) := by decide +kernel
theorem dX10_alike_64 : decode cX10_alike 64 = .ok (.getfield 187, 3) := by decide +kernel
theorem dX10_alike_67 : decode cX10_alike 67 = .ok (.iload_n 3, 1) := by decide +kernel
theorem dX10_alike_68 : decode cX10_alike 68 = .ok (.iaload, 1) := by decide +kernel
theorem dX10_alike_69 : decode cX10_alike 69 = .ok (.if_icmp .ne 6, 3) := by decide +kernel
theorem dX10_alike_72 : decode cX10_alike 72 = .ok (.iinc 1 1, 3) := by decide +kernel
theorem dX10_alike_75 : decode cX10_alike 75 = .ok (.iinc 3 1, 3) := by decide +kernel
theorem dX10_alike_78 : decode cX10_alike 78 = .ok (.goto (-59), 3) := by decide +kernel
theorem dX10_alike_81 : decode cX10_alike 81 = .ok (.iinc 2 1, 3) := by decide +kernel
theorem dX10_alike_84 : decode cX10_alike 84 = .ok (.goto (-80), 3) := by decide +kernel
theorem dX10_alike_87 : decode cX10_alike 87 = .ok (.iload_n 1, 1) := by decide +kernel
theorem dX10_alike_88 : decode cX10_alike 88 = .ok (.ireturn, 1) := by decide +kernel
theorem dX10_usher_0 : decode cX10_usher 0 = .ok (.aload_n 0, 1) := by decide +kernel
theorem dX10_usher_1 : decode cX10_usher 1 = .ok (.iload_n 1, 1) := by decide +kernel
theorem dX10_usher_2 : decode cX10_usher 2 = .ok (.invokevirtual 181, 3) := by decide +kernel
theorem dX10_usher_5 : decode cX10_usher 5 = .ok (.aload_n 0, 1) := by decide +kernel
theorem dX10_usher_6 : decode cX10_usher 6 = .ok (.invokevirtual 365, 3) := by decide +kernel
theorem dX10_usher_9 : decode cX10_usher 9 = .ok (.iconst 1, 1) := by decide +kernel
theorem dX10_usher_10 : decode cX10_usher 10 = .ok (.ishl, 1) := by decide +kernel
theorem dX10_usher_11 : decode cX10_usher 11 = .ok (.iconst 1, 1) := by decide +kernel
theorem dX10_usher_12 : decode cX10_usher 12 = .ok (.ior, 1) := by decide +kernel
theorem dX10_usher_13 : decode cX10_usher 13 = .ok (.istore_n 2, 1) := by decide +kernel
theorem dX10_usher_14 : decode cX10_usher 14 = .ok (.aload_n 0, 1) := by decide +kernel
theorem dX10_usher_15 : decode cX10_usher 15 = .ok (.iload_n 1, 1) := by decide +kernel
theorem dX10_usher_16 : decode cX10_usher 16 = .ok (.iload_n 2, 1) := by decide +kernel
theorem dX10_usher_17 : decode cX10_usher 17 = .ok (.invokevirtual 371, 3) := by decide +kernel
theorem dX10_usher_20 : decode cX10_usher 20 = .ok (.iconst 0, 1) := by decide +kernel
theorem dX10_usher_21 : decode cX10_usher 21 = .ok (.istore_n 3, 1) := by decide +kernel
theorem dX10_usher_22 : decode cX10_usher 22 = .ok (.iconst 0, 1) := by decide +kernel
theorem dX10_usher_23 : decode cX10_usher 23 = .ok (.istore 4, 2) := by decide +kernel
theorem dX10_usher_25 : decode cX10_usher 25 = .ok (.iload 4, 2) := by decide +kernel
theorem dX10_usher_27 : decode cX10_usher 27 = .ok (.bipush 8, 2) := by decide +kernel
theorem dX10_usher_29 : decode cX10_usher 29 = .ok (.if_icmp .gt 19, 3) := by decide +kernel
theorem dX10_usher_32 : decode cX10_usher 32 = .ok (.iload_n 3, 1) := by decide +kernel
theorem dX10_usher_33 : decode cX10_usher 33 = .ok (.aload_n 0, 1) := by decide +kernel
theorem dX10_usher_34 : decode cX10_usher 34 = .ok (.getfield 31, 3) := by decide +kernel
theorem dX10_usher_37 : decode cX10_usher 37 = .ok (.iload 4, 2) := by decide +kernel
theorem dX10_usher_39 : decode cX10_usher 39 = .ok (.iaload, 1) := by decide +kernel
theorem dX10_usher_40 : decode cX10_usher 40 = .ok (.ior, 1) := by decide +kernel
theorem dX10_usher_41 : decode cX10_usher 41 = .ok (.istore_n 3, 1) := by decide +kernel
theorem dX10_usher_42 : decode cX10_usher 42 = .ok (.iinc 4 1, 3) := by decide +kernel
theorem dX10_usher_45 : decode cX10_usher 45 = .ok (.goto (-20), 3) := by decide +kernel
theorem dX10_usher_48 : decode cX10_usher 48 = .ok (.iconst 0, 1) := by decide +kernel
theorem dX10_usher_49 : decode cX10_usher 49 = .ok (.istore 4, 2) := by decide +kernel
theorem dX10_usher_51 : decode cX10_usher 51 = .ok (.iconst 0, 1) := by decide +kernel
theorem dX10_usher_52 : decode cX10_usher 52 = .ok (.istore 5, 2) := by decide +kernel
theorem dX10_usher_54 : decode cX10_usher 54 = .ok (.iload 5, 2) := by decide +kernel
theorem dX10_usher_56 : decode cX10_usher 56 = .ok (.bipush 8, 2) := by decide +kernel
theorem dX10_usher_58 : decode cX10_usher 58 = .ok (.if_icmp .gt 64, 3) := by decide +kernel
theorem dX10_usher_61 : decode cX10_usher 61 = .ok (.iload_n 2, 1) := by decide +kernel
theorem dX10_usher_62 : decode cX10_usher 62 = .ok (.iload 5, 2) := by decide +kernel
theorem dX10_usher_64 : decode cX10_usher 64 = .ok (.ishr, 1) := by decide +kernel
theorem dX10_usher_65 : decode cX10_usher 65 = .ok (.iconst 1, 1) := by decide +kernel
theorem dX10_usher_66 : decode cX10_usher 66 = .ok (.iand, 1) := by decide +kernel
theorem dX10_usher_67 : decode cX10_usher 67 = .ok (.ifCond .ne 6, 3) := by decide +kernel
theorem dX10_usher_70 : decode cX10_usher 70 = .ok (.goto 46, 3) := by decide +kernel
theorem dX10_usher_73 : decode cX10_usher 73 = .ok (.aload_n 0, 1) := by decide +kernel
theorem dX10_usher_74 : decode cX10_usher 74 = .ok (.getfield 31, 3) := by decide +kernel
theorem dX10_usher_77 : decode cX10_usher 77 = .ok (.iload 5, 2) := by decide +kernel
theorem dX10_usher_79 : decode cX10_usher 79 = .ok (.iaload, 1) := by decide +kernel
theorem dX10_usher_80 : decode cX10_usher 80 = .ok (.iload_n 2, 1) := by decide +kernel
theorem dX10_usher_81 : decode cX10_usher 81 = .ok (.if_icmp .ne 12, 3) := by decide +kernel
theorem dX10_usher_84 : decode cX10_usher 84 = .ok (.iload 4, 2) := by decide +kernel
theorem dX10_usher_86 : decode cX10_usher 86 = .ok (.iload_n 2, 1) := by decide +kernel
theorem dX10_usher_87 : decode cX10_usher 87 = .ok (.invokestatic 276, 3) := by decide +kernel
theorem dX10_usher_90 : decode cX10_usher 90 = .ok (.iadd, 1) := by decide +kernel
theorem dX10_usher_91 : decode cX10_usher 91 = .ok (.istore 4, 2) := by decide +kernel
theorem dX10_usher_93 : decode cX10_usher 93 = .ok (.iload 4, 2) := by decide +kernel
theorem dX10_usher_95 : decode cX10_usher 95 = .ok (.iload_n 2, 1) := by decide +kernel
theorem dX10_usher_96 : decode cX10_usher 96 = .ok (.aload_n 0, 1) := by decide +kernel
theorem dX10_usher_97 : decode cX10_usher 97 = .ok (.getfield 31, 3) := by decide +kernel
theorem dX10_usher_100 : decode cX10_usher 100 = .ok (.iload 5, 2) := by decide +kernel
theorem dX10_usher_102 : decode cX10_usher 102 = .ok (.iaload, 1) := by decide +kernel
theorem dX10_usher_103 : decode cX10_usher 103 = .ok (.iconst (-1), 1) := by decide +kernel
theorem dX10_usher_104 : decode cX10_usher 104 = .ok (.ixor, 1) := by decide +kernel
theorem dX10_usher_105 : decode cX10_usher 105 = .ok (.iand, 1) := by decide +kernel
theorem dX10_usher_106 : decode cX10_usher 106 = .ok (.iload_n 3, 1) := by decide +kernel
theorem dX10_usher_107 : decode cX10_usher 107 = .ok (.iconst (-1), 1) := by decide +kernel
theorem dX10_usher_108 : decode cX10_usher 108 = .ok (.ixor, 1) := by decide +kernel
theorem dX10_usher_109 : decode cX10_usher 109 = .ok (.iand, 1) := by decide +kernel
theorem dX10_usher_110 : decode cX10_usher 110 = .ok (.invokestatic 276, 3) := by decide +kernel
theorem dX10_usher_113 : decode cX10_usher 113 = .ok (.iadd, 1) := by decide +kernel
theorem dX10_usher_114 : decode cX10_usher 114 = .ok (.istore 4, 2) := by decide +kernel
theorem dX10_usher_116 : decode cX10_usher 116 = .ok (.iinc 5 1, 3) := by decide +kernel
theorem dX10_usher_119 : decode cX10_usher 119 = .ok (.goto (-65), 3) := by decide +kernel
theorem dX10_usher_122 : decode cX10_usher 122 = .ok (.iload 4, 2) := by decide +kernel
theorem dX10_usher_124 : decode cX10_usher 124 = .ok (.ireturn, 1) := by decide +kernel
theorem dX10_lasts_0 : decode cX10_lasts 0 = .ok (.aload_n 0, 1) := by decide +kernel
theorem dX10_lasts_1 : decode cX10_lasts 1 = .ok (.iload_n 1, 1) := by decide +kernel
theorem dX10_lasts_2 : decode cX10_lasts 2 = .ok (.invokevirtual 155, 3) := by decide +kernel
theorem dX10_lasts_5 : decode cX10_lasts 5 = .ok (.aload_n 0, 1) := by decide +kernel
theorem dX10_lasts_6 : decode cX10_lasts 6 = .ok (.iload_n 2, 1) := by decide +kernel
theorem dX10_lasts_7 : decode cX10_lasts 7 = .ok (.invokevirtual 181, 3) := by decide +kernel
theorem dX10_lasts_10 : decode cX10_lasts 10 = .ok (.aload_n 0, 1) := by decide +kernel
theorem dX10_lasts_11 : decode cX10_lasts 11 = .ok (.getfield 88, 3) := by decide +kernel
theorem dX10_lasts_14 : decode cX10_lasts 14 = .ok (.invokevirtual 200, 3) := by decide +kernel
theorem dX10_lasts_17 : decode cX10_lasts 17 = .ok (.aload_n 0, 1) := by decide +kernel
theorem dX10_lasts_18 : decode cX10_lasts 18 = .ok (.getfield 88, 3) := by decide +kernel
theorem dX10_lasts_21 : decode cX10_lasts 21 = .ok (.iload_n 2, 1) := by decide +kernel
theorem dX10_lasts_22 : decode cX10_lasts 22 = .ok (.invokevirtual 203, 3) := by decide +kernel
theorem dX10_lasts_25 : decode cX10_lasts 25 = .ok (.iconst 0, 1) := by decide +kernel
theorem dX10_lasts_26 : decode cX10_lasts 26 = .ok (.istore_n 3, 1) := by decide +kernel
theorem dX10_lasts_27 : decode cX10_lasts 27 = .ok (.iload_n 3, 1) := by decide +kernel
theorem dX10_lasts_28 : decode cX10_lasts 28 = .ok (.bipush 60, 2) := by decide +kernel
theorem dX10_lasts_30 : decode cX10_lasts 30 = .ok (.if_icmp .gt 39, 3) := by decide +kernel
theorem dX10_lasts_33 : decode cX10_lasts 33 = .ok (.aload_n 0, 1) := by decide +kernel
theorem dX10_lasts_34 : decode cX10_lasts 34 = .ok (.getfield 88, 3) := by decide +kernel
theorem dX10_lasts_37 : decode cX10_lasts 37 = .ok (.getfield 234, 3) := by decide +kernel
theorem dX10_lasts_40 : decode cX10_lasts 40 = .ok (.iload_n 1, 1) := by decide +kernel
theorem dX10_lasts_41 : decode cX10_lasts 41 = .ok (.iaload, 1) := by decide +kernel
theorem dX10_lasts_42 : decode cX10_lasts 42 = .ok (.bipush 50, 2) := by decide +kernel
theorem dX10_lasts_44 : decode cX10_lasts 44 = .ok (.if_icmp .lt 5, 3) := by decide +kernel
theorem dX10_lasts_47 : decode cX10_lasts 47 = .ok (.iload_n 3, 1) := by decide +kernel
theorem dX10_lasts_48 : decode cX10_lasts 48 = .ok (.ireturn, 1) := by decide +kernel
theorem dX10_lasts_49 : decode cX10_lasts 49 = .ok (.aload_n 0, 1) := by decide +kernel
theorem dX10_lasts_50 : decode cX10_lasts 50 = .ok (.getfield 88, 3) := by decide +kernel
theorem dX10_lasts_53 : decode cX10_lasts 53 = .ok (.invokevirtual 374, 3) := by decide +kernel
theorem dX10_lasts_56 : decode cX10_lasts 56 = .ok (.aload_n 0, 1) := by decide +kernel
theorem dX10_lasts_57 : decode cX10_lasts 57 = .ok (.getfield 88, 3) := by decide +kernel
theorem dX10_lasts_60 : decode cX10_lasts 60 = .ok (.invokevirtual 231, 3) := by decide +kernel
theorem dX10_lasts_63 : decode cX10_lasts 63 = .ok (.iinc 3 1, 3) := by decide +kernel
theorem dX10_lasts_66 : decode cX10_lasts 66 = .ok (.goto (-39), 3) := by decide +kernel
theorem dX10_lasts_69 : decode cX10_lasts 69 = .ok (.iconst (-1), 1) := by decide +kernel
theorem dX10_lasts_70 : decode cX10_lasts 70 = .ok (.ireturn, 1) := by decide +kernel
theorem dX10_all_0 : decode cX10_all 0 = .ok (.aload_n 0, 1) := by decide +kernel
theorem dX10_all_1 : decode cX10_all 1 = .ok (.getfield 88, 3) := by decide +kernel
theorem dX10_all_4 : decode cX10_all 4 = .ok (.invokevirtual 200, 3) := by decide +kernel
theorem dX10_all_7 : decode cX10_all 7 = .ok (.iconst 0, 1) := by decide +kernel
theorem dX10_all_8 : decode cX10_all 8 = .ok (.istore_n 2, 1) := by decide +kernel
theorem dX10_all_9 : decode cX10_all 9 = .ok (.iconst 0, 1) := by decide +kernel
theorem dX10_all_10 : decode cX10_all 10 = .ok (.istore_n 3, 1) := by decide +kernel
theorem dX10_all_11 : decode cX10_all 11 = .ok (.iload_n 3, 1) := by decide +kernel
theorem dX10_all_12 : decode cX10_all 12 = .ok (.aload_n 0, 1) := by decide +kernel
theorem dX10_all_13 : decode cX10_all 13 = .ok (.getfield 48, 3) := by decide +kernel
theorem dX10_all_16 : decode cX10_all 16 = .ok (.getfield 322, 3) := by decide +kernel
theorem dX10_all_19 : decode cX10_all 19 = .ok (.if_icmp .ge 67, 3) := by decide +kernel
theorem dX10_all_22 : decode cX10_all 22 = .ok (.aload_n 0, 1) := by decide +kernel
theorem dX10_all_23 : decode cX10_all 23 = .ok (.getfield 48, 3) := by decide +kernel
theorem dX10_all_26 : decode cX10_all 26 = .ok (.iload_n 3, 1) := by decide +kernel
theorem dX10_all_27 : decode cX10_all 27 = .ok (.invokevirtual 325, 3) := by decide +kernel
theorem dX10_all_30 : decode cX10_all 30 = .ok (.ifCond .eq 50, 3) := by decide +kernel
theorem dX10_all_33 : decode cX10_all 33 = .ok (.aload_n 0, 1) := by decide +kernel
theorem dX10_all_34 : decode cX10_all 34 = .ok (.getfield 88, 3) := by decide +kernel
theorem dX10_all_37 : decode cX10_all 37 = .ok (.iload_n 3, 1) := by decide +kernel
theorem dX10_all_38 : decode cX10_all 38 = .ok (.invokevirtual 203, 3) := by decide +kernel
theorem dX10_all_41 : decode cX10_all 41 = .ok (.aload_n 0, 1) := by decide +kernel
theorem dX10_all_42 : decode cX10_all 42 = .ok (.getfield 88, 3) := by decide +kernel
theorem dX10_all_45 : decode cX10_all 45 = .ok (.invokevirtual 374, 3) := by decide +kernel
theorem dX10_all_48 : decode cX10_all 48 = .ok (.iload_n 2, 1) := by decide +kernel
theorem dX10_all_49 : decode cX10_all 49 = .ok (.aload_n 0, 1) := by decide +kernel
theorem dX10_all_50 : decode cX10_all 50 = .ok (.getfield 88, 3) := by decide +kernel
theorem dX10_all_53 : decode cX10_all 53 = .ok (.getfield 243, 3) := by decide +kernel
theorem dX10_all_56 : decode cX10_all 56 = .ok (.iconst (-1), 1) := by decide +kernel
theorem dX10_all_57 : decode cX10_all 57 = .ok (.if_icmp .eq 9, 3) := by decide +kernel
theorem dX10_all_60 : decode cX10_all 60 = .ok (.iconst 1, 1) := by decide +kernel
theorem dX10_all_61 : decode cX10_all 61 = .ok (.iload_n 3, 1) := by decide +kernel
theorem dX10_all_62 : decode cX10_all 62 = .ok (.ishl, 1) := by decide +kernel
theorem dX10_all_63 : decode cX10_all 63 = .ok (.goto 4, 3) := by decide +kernel
theorem dX10_all_66 : decode cX10_all 66 = .ok (.iconst 0, 1) := by decide +kernel
theorem dX10_all_67 : decode cX10_all 67 = .ok (.ior, 1) := by decide +kernel
theorem dX10_all_68 : decode cX10_all 68 = .ok (.istore_n 2, 1) := by decide +kernel
theorem dX10_all_69 : decode cX10_all 69 = .ok (.iload_n 1, 1) := by decide +kernel
theorem dX10_all_70 : decode cX10_all 70 = .ok (.ifCond .eq 10, 3) := by decide +kernel
theorem dX10_all_73 : decode cX10_all 73 = .ok (.aload_n 0, 1) := by decide +kernel
theorem dX10_all_74 : decode cX10_all 74 = .ok (.getfield 88, 3) := by decide +kernel
theorem dX10_all_77 : decode cX10_all 77 = .ok (.invokevirtual 231, 3) := by decide +kernel
theorem dX10_all_80 : decode cX10_all 80 = .ok (.iinc 3 1, 3) := by decide +kernel
theorem dX10_all_83 : decode cX10_all 83 = .ok (.goto (-72), 3) := by decide +kernel
theorem dX10_all_86 : decode cX10_all 86 = .ok (.iload_n 2, 1) := by decide +kernel
theorem dX10_all_87 : decode cX10_all 87 = .ok (.ireturn, 1) := by decide +kernel
theorem dX10_share_0 : decode cX10_share 0 = .ok (.aload_n 0, 1) := by decide +kernel
theorem dX10_share_1 : decode cX10_share 1 = .ok (.iload_n 1, 1) := by decide +kernel
theorem dX10_share_2 : decode cX10_share 2 = .ok (.invokevirtual 155, 3) := by decide +kernel
theorem dX10_share_5 : decode cX10_share 5 = .ok (.aload_n 0, 1) := by decide +kernel
theorem dX10_share_6 : decode cX10_share 6 = .ok (.iload_n 2, 1) := by decide +kernel
theorem dX10_share_7 : decode cX10_share 7 = .ok (.invokevirtual 181, 3) := by decide +kernel
theorem dX10_share_10 : decode cX10_share 10 = .ok (.aload_n 0, 1) := by decide +kernel
theorem dX10_share_11 : decode cX10_share 11 = .ok (.iload_n 2, 1) := by decide +kernel
theorem dX10_share_12 : decode cX10_share 12 = .ok (.invokevirtual 300, 3) := by decide +kernel
theorem dX10_share_15 : decode cX10_share 15 = .ok (.iconst 0, 1) := by decide +kernel
theorem dX10_share_16 : decode cX10_share 16 = .ok (.istore_n 3, 1) := by decide +kernel
theorem dX10_share_17 : decode cX10_share 17 = .ok (.iconst 0, 1) := by decide +kernel
theorem dX10_share_18 : decode cX10_share 18 = .ok (.istore 4, 2) := by decide +kernel
theorem dX10_share_20 : decode cX10_share 20 = .ok (.iload 4, 2) := by decide +kernel
theorem dX10_share_22 : decode cX10_share 22 = .ok (.bipush 10, 2) := by decide +kernel
theorem dX10_share_24 : decode cX10_share 24 = .ok (.if_icmp .ge 22, 3) := by decide +kernel
theorem dX10_share_27 : decode cX10_share 27 = .ok (.iload_n 3, 1) := by decide +kernel
theorem dX10_share_28 : decode cX10_share 28 = .ok (.aload_n 0, 1) := by decide +kernel
theorem dX10_share_29 : decode cX10_share 29 = .ok (.getfield 88, 3) := by decide +kernel
theorem dX10_share_32 : decode cX10_share 32 = .ok (.getfield 377, 3) := by decide +kernel
theorem dX10_share_35 : decode cX10_share 35 = .ok (.iload 4, 2) := by decide +kernel
theorem dX10_share_37 : decode cX10_share 37 = .ok (.iaload, 1) := by decide +kernel
theorem dX10_share_38 : decode cX10_share 38 = .ok (.iadd, 1) := by decide +kernel
theorem dX10_share_39 : decode cX10_share 39 = .ok (.istore_n 3, 1) := by decide +kernel
theorem dX10_share_40 : decode cX10_share 40 = .ok (.iinc 4 1, 3) := by decide +kernel
theorem dX10_share_43 : decode cX10_share 43 = .ok (.goto (-23), 3) := by decide +kernel
theorem dX10_share_46 : decode cX10_share 46 = .ok (.aload_n 0, 1) := by decide +kernel
theorem dX10_share_47 : decode cX10_share 47 = .ok (.getfield 48, 3) := by decide +kernel
theorem dX10_share_50 : decode cX10_share 50 = .ok (.getfield 167, 3) := by decide +kernel
theorem dX10_share_53 : decode cX10_share 53 = .ok (.iload_n 1, 1) := by decide +kernel
theorem dX10_share_54 : decode cX10_share 54 = .ok (.iaload, 1) := by decide +kernel
theorem dX10_share_55 : decode cX10_share 55 = .ok (.istore 4, 2) := by decide +kernel
theorem dX10_share_57 : decode cX10_share 57 = .ok (.iload 4, 2) := by decide +kernel
theorem dX10_share_59 : decode cX10_share 59 = .ok (.ifCond .lt 7, 3) := by decide +kernel
theorem dX10_share_62 : decode cX10_share 62 = .ok (.iload_n 3, 1) := by decide +kernel
theorem dX10_share_63 : decode cX10_share 63 = .ok (.ifCond .ne 7, 3) := by decide +kernel
theorem dX10_share_66 : decode cX10_share 66 = .ok (.iconst 0, 1) := by decide +kernel
theorem dX10_share_67 : decode cX10_share 67 = .ok (.goto 18, 3) := by decide +kernel
theorem dX10_share_70 : decode cX10_share 70 = .ok (.aload_n 0, 1) := by decide +kernel
theorem dX10_share_71 : decode cX10_share 71 = .ok (.getfield 88, 3) := by decide +kernel
theorem dX10_share_74 : decode cX10_share 74 = .ok (.getfield 377, 3) := by decide +kernel
theorem dX10_share_77 : decode cX10_share 77 = .ok (.iload 4, 2) := by decide +kernel
theorem dX10_share_79 : decode cX10_share 79 = .ok (.iaload, 1) := by decide +kernel
theorem dX10_share_80 : decode cX10_share 80 = .ok (.bipush 100, 2) := by decide +kernel
theorem dX10_share_82 : decode cX10_share 82 = .ok (.imul, 1) := by decide +kernel
theorem dX10_share_83 : decode cX10_share 83 = .ok (.iload_n 3, 1) := by decide +kernel
theorem dX10_share_84 : decode cX10_share 84 = .ok (.idiv, 1) := by decide +kernel
theorem dX10_share_85 : decode cX10_share 85 = .ok (.ireturn, 1) := by decide +kernel
theorem dX10_loudest_0 : decode cX10_loudest 0 = .ok (.aload_n 0, 1) := by decide +kernel
theorem dX10_loudest_1 : decode cX10_loudest 1 = .ok (.getfield 88, 3) := by decide +kernel
theorem dX10_loudest_4 : decode cX10_loudest 4 = .ok (.invokevirtual 200, 3) := by decide +kernel
theorem dX10_loudest_7 : decode cX10_loudest 7 = .ok (.aload_n 0, 1) := by decide +kernel
theorem dX10_loudest_8 : decode cX10_loudest 8 = .ok (.getfield 27, 3) := by decide +kernel
theorem dX10_loudest_11 : decode cX10_loudest 11 = .ok (.iconst 0, 1) := by decide +kernel
theorem dX10_loudest_12 : decode cX10_loudest 12 = .ok (.invokestatic 380, 3) := by decide +kernel
theorem dX10_loudest_15 : decode cX10_loudest 15 = .ok (.iconst 0, 1) := by decide +kernel
theorem dX10_loudest_16 : decode cX10_loudest 16 = .ok (.istore_n 1, 1) := by decide +kernel
theorem dX10_loudest_17 : decode cX10_loudest 17 = .ok (.iload_n 1, 1) := by decide +kernel
theorem dX10_loudest_18 : decode cX10_loudest 18 = .ok (.aload_n 0, 1) := by decide +kernel
theorem dX10_loudest_19 : decode cX10_loudest 19 = .ok (.getfield 48, 3) := by decide +kernel
theorem dX10_loudest_22 : decode cX10_loudest 22 = .ok (.getfield 322, 3) := by decide +kernel
theorem dX10_loudest_25 : decode cX10_loudest 25 = .ok (.if_icmp .ge 60, 3) := by decide +kernel
theorem dX10_loudest_28 : decode cX10_loudest 28 = .ok (.aload_n 0, 1) := by decide +kernel
theorem dX10_loudest_29 : decode cX10_loudest 29 = .ok (.getfield 48, 3) := by decide +kernel
theorem dX10_loudest_32 : decode cX10_loudest 32 = .ok (.iload_n 1, 1) := by decide +kernel
theorem dX10_loudest_33 : decode cX10_loudest 33 = .ok (.invokevirtual 325, 3) := by decide +kernel
theorem dX10_loudest_36 : decode cX10_loudest 36 = .ok (.ifCond .eq 43, 3) := by decide +kernel
theorem dX10_loudest_39 : decode cX10_loudest 39 = .ok (.aload_n 0, 1) := by decide +kernel
theorem dX10_loudest_40 : decode cX10_loudest 40 = .ok (.getfield 100, 3) := by decide +kernel
theorem dX10_loudest_43 : decode cX10_loudest 43 = .ok (.iload_n 1, 1) := by decide +kernel
theorem dX10_loudest_44 : decode cX10_loudest 44 = .ok (.invokevirtual 306, 3) := by decide +kernel
theorem dX10_loudest_47 : decode cX10_loudest 47 = .ok (.iconst 0, 1) := by decide +kernel
theorem dX10_loudest_48 : decode cX10_loudest 48 = .ok (.istore_n 2, 1) := by decide +kernel
theorem dX10_loudest_49 : decode cX10_loudest 49 = .ok (.iload_n 2, 1) := by decide +kernel
theorem dX10_loudest_50 : decode cX10_loudest 50 = .ok (.bipush 10, 2) := by decide +kernel
theorem dX10_loudest_52 : decode cX10_loudest 52 = .ok (.if_icmp .ge 27, 3) := by decide +kernel
theorem dX10_loudest_55 : decode cX10_loudest 55 = .ok (.aload_n 0, 1) := by decide +kernel
theorem dX10_loudest_56 : decode cX10_loudest 56 = .ok (.getfield 27, 3) := by decide +kernel
theorem dX10_loudest_59 : decode cX10_loudest 59 = .ok (.iload_n 2, 1) := by decide +kernel
theorem dX10_loudest_60 : decode cX10_loudest 60 = .ok (.dup2, 1) := by decide +kernel
theorem dX10_loudest_61 : decode cX10_loudest 61 = .ok (.iaload, 1) := by decide +kernel
theorem dX10_loudest_62 : decode cX10_loudest 62 = .ok (.aload_n 0, 1) := by decide +kernel
theorem dX10_loudest_63 : decode cX10_loudest 63 = .ok (.getfield 100, 3) := by decide +kernel
theorem dX10_loudest_66 : decode cX10_loudest 66 = .ok (.getfield 312, 3) := by decide +kernel
theorem dX10_loudest_69 : decode cX10_loudest 69 = .ok (.iload_n 2, 1) := by decide +kernel
theorem dX10_loudest_70 : decode cX10_loudest 70 = .ok (.iaload, 1) := by decide +kernel
theorem dX10_loudest_71 : decode cX10_loudest 71 = .ok (.iadd, 1) := by decide +kernel
theorem dX10_loudest_72 : decode cX10_loudest 72 = .ok (.iastore, 1) := by decide +kernel
theorem dX10_loudest_73 : decode cX10_loudest 73 = .ok (.iinc 2 1, 3) := by decide +kernel
theorem dX10_loudest_76 : decode cX10_loudest 76 = .ok (.goto (-27), 3) := by decide +kernel
theorem dX10_loudest_79 : decode cX10_loudest 79 = .ok (.iinc 1 1, 3) := by decide +kernel
theorem dX10_loudest_82 : decode cX10_loudest 82 = .ok (.goto (-65), 3) := by decide +kernel
theorem dX10_loudest_85 : decode cX10_loudest 85 = .ok (.iconst (-1), 1) := by decide +kernel
theorem dX10_loudest_86 : decode cX10_loudest 86 = .ok (.istore_n 1, 1) := by decide +kernel
theorem dX10_loudest_87 : decode cX10_loudest 87 = .ok (.iconst 0, 1) := by decide +kernel
theorem dX10_loudest_88 : decode cX10_loudest 88 = .ok (.istore_n 2, 1) := by decide +kernel
theorem dX10_loudest_89 : decode cX10_loudest 89 = .ok (.iconst 0, 1) := by decide +kernel
theorem dX10_loudest_90 : decode cX10_loudest 90 = .ok (.istore_n 3, 1) := by decide +kernel
theorem dX10_loudest_91 : decode cX10_loudest 91 = .ok (.iload_n 3, 1) := by decide +kernel
theorem dX10_loudest_92 : decode cX10_loudest 92 = .ok (.aload_n 0, 1) := by decide +kernel
theorem dX10_loudest_93 : decode cX10_loudest 93 = .ok (.getfield 48, 3) := by decide +kernel
theorem dX10_loudest_96 : decode cX10_loudest 96 = .ok (.getfield 294, 3) := by decide +kernel
theorem dX10_loudest_99 : decode cX10_loudest 99 = .ok (.if_icmp .ge 46, 3) := by decide +kernel
theorem dX10_loudest_102 : decode cX10_loudest 102 = .ok (.aload_n 0, 1) := by decide +kernel
theorem dX10_loudest_103 : decode cX10_loudest 103 = .ok (.getfield 48, 3) := by decide +kernel
theorem dX10_loudest_106 : decode cX10_loudest 106 = .ok (.getfield 167, 3) := by decide +kernel
theorem dX10_loudest_109 : decode cX10_loudest 109 = .ok (.iload_n 3, 1) := by decide +kernel
theorem dX10_loudest_110 : decode cX10_loudest 110 = .ok (.iaload, 1) := by decide +kernel
theorem dX10_loudest_111 : decode cX10_loudest 111 = .ok (.istore 4, 2) := by decide +kernel
theorem dX10_loudest_113 : decode cX10_loudest 113 = .ok (.iload 4, 2) := by decide +kernel
theorem dX10_loudest_115 : decode cX10_loudest 115 = .ok (.ifCond .lt 24, 3) := by decide +kernel
theorem dX10_loudest_118 : decode cX10_loudest 118 = .ok (.aload_n 0, 1) := by decide +kernel
theorem dX10_loudest_119 : decode cX10_loudest 119 = .ok (.getfield 27, 3) := by decide +kernel
theorem dX10_loudest_122 : decode cX10_loudest 122 = .ok (.iload 4, 2) := by decide +kernel
theorem dX10_loudest_124 : decode cX10_loudest 124 = .ok (.iaload, 1) := by decide +kernel
theorem dX10_loudest_125 : decode cX10_loudest 125 = .ok (.iload_n 2, 1) := by decide +kernel
theorem dX10_loudest_126 : decode cX10_loudest 126 = .ok (.if_icmp .le 13, 3) := by decide +kernel
theorem dX10_loudest_129 : decode cX10_loudest 129 = .ok (.aload_n 0, 1) := by decide +kernel
theorem dX10_loudest_130 : decode cX10_loudest 130 = .ok (.getfield 27, 3) := by decide +kernel
theorem dX10_loudest_133 : decode cX10_loudest 133 = .ok (.iload 4, 2) := by decide +kernel
theorem dX10_loudest_135 : decode cX10_loudest 135 = .ok (.iaload, 1) := by decide +kernel
theorem dX10_loudest_136 : decode cX10_loudest 136 = .ok (.istore_n 2, 1) := by decide +kernel
theorem dX10_loudest_137 : decode cX10_loudest 137 = .ok (.iload_n 3, 1) := by decide +kernel
theorem dX10_loudest_138 : decode cX10_loudest 138 = .ok (.istore_n 1, 1) := by decide +kernel
theorem dX10_loudest_139 : decode cX10_loudest 139 = .ok (.iinc 3 1, 3) := by decide +kernel
theorem dX10_loudest_142 : decode cX10_loudest 142 = .ok (.goto (-51), 3) := by decide +kernel
theorem dX10_loudest_145 : decode cX10_loudest 145 = .ok (.iload_n 1, 1) := by decide +kernel
theorem dX10_loudest_146 : decode cX10_loudest 146 = .ok (.ireturn, 1) := by decide +kernel
theorem dX10_trial_0 : decode cX10_trial 0 = .ok (.aload_n 0, 1) := by decide +kernel
theorem dX10_trial_1 : decode cX10_trial 1 = .ok (.iload_n 1, 1) := by decide +kernel
theorem dX10_trial_2 : decode cX10_trial 2 = .ok (.invokevirtual 386, 3) := by decide +kernel
theorem dX10_trial_5 : decode cX10_trial 5 = .ok (.aload_n 0, 1) := by decide +kernel
theorem dX10_trial_6 : decode cX10_trial 6 = .ok (.iload_n 1, 1) := by decide +kernel
theorem dX10_trial_7 : decode cX10_trial 7 = .ok (.aload_n 0, 1) := by decide +kernel
theorem dX10_trial_8 : decode cX10_trial 8 = .ok (.getfield 48, 3) := by decide +kernel
theorem dX10_trial_11 : decode cX10_trial 11 = .ok (.getfield 224, 3) := by decide +kernel
theorem dX10_trial_14 : decode cX10_trial 14 = .ok (.invokevirtual 389, 3) := by decide +kernel
theorem dX10_trial_17 : decode cX10_trial 17 = .ok (.ireturn, 1) := by decide +kernel
theorem dX10_span_0 : decode cX10_span 0 = .ok (.aload_n 0, 1) := by decide +kernel
theorem dX10_span_1 : decode cX10_span 1 = .ok (.iload_n 1, 1) := by decide +kernel
theorem dX10_span_2 : decode cX10_span 2 = .ok (.invokevirtual 386, 3) := by decide +kernel
theorem dX10_span_5 : decode cX10_span 5 = .ok (.aload_n 0, 1) := by decide +kernel
theorem dX10_span_6 : decode cX10_span 6 = .ok (.iload_n 1, 1) := by decide +kernel
theorem dX10_span_7 : decode cX10_span 7 = .ok (.iconst 1, 1) := by decide +kernel
theorem dX10_span_8 : decode cX10_span 8 = .ok (.invokevirtual 389, 3) := by decide +kernel
theorem dX10_span_11 : decode cX10_span 11 = .ok (.istore_n 3, 1) := by decide +kernel
theorem dX10_span_12 : decode cX10_span 12 = .ok (.iconst 2, 1) := by decide +kernel
theorem dX10_span_13 : decode cX10_span 13 = .ok (.istore 4, 2) := by decide +kernel
theorem dX10_span_15 : decode cX10_span 15 = .ok (.iload 4, 2) := by decide +kernel
theorem dX10_span_17 : decode cX10_span 17 = .ok (.bipush 6, 2) := by decide +kernel
theorem dX10_span_19 : decode cX10_span 19 = .ok (.if_icmp .gt 38, 3) := by decide +kernel
theorem dX10_span_22 : decode cX10_span 22 = .ok (.aload_n 0, 1) := by decide +kernel
theorem dX10_span_23 : decode cX10_span 23 = .ok (.iload_n 1, 1) := by decide +kernel
theorem dX10_span_24 : decode cX10_span 24 = .ok (.iload 4, 2) := by decide +kernel
theorem dX10_span_26 : decode cX10_span 26 = .ok (.invokevirtual 389, 3) := by decide +kernel
theorem dX10_span_29 : decode cX10_span 29 = .ok (.istore 5, 2) := by decide +kernel
theorem dX10_span_31 : decode cX10_span 31 = .ok (.iload_n 2, 1) := by decide +kernel
theorem dX10_span_32 : decode cX10_span 32 = .ok (.ifCond .eq 12, 3) := by decide +kernel
theorem dX10_span_35 : decode cX10_span 35 = .ok (.iload_n 3, 1) := by decide +kernel
theorem dX10_span_36 : decode cX10_span 36 = .ok (.iload 5, 2) := by decide +kernel
theorem dX10_span_38 : decode cX10_span 38 = .ok (.invokestatic 297, 3) := by decide +kernel
theorem dX10_span_41 : decode cX10_span 41 = .ok (.goto 9, 3) := by decide +kernel
theorem dX10_span_44 : decode cX10_span 44 = .ok (.iload_n 3, 1) := by decide +kernel
theorem dX10_span_45 : decode cX10_span 45 = .ok (.iload 5, 2) := by decide +kernel
theorem dX10_span_47 : decode cX10_span 47 = .ok (.invokestatic 288, 3) := by decide +kernel
theorem dX10_span_50 : decode cX10_span 50 = .ok (.istore_n 3, 1) := by decide +kernel
theorem dX10_span_51 : decode cX10_span 51 = .ok (.iinc 4 1, 3) := by decide +kernel
theorem dX10_span_54 : decode cX10_span 54 = .ok (.goto (-39), 3) := by decide +kernel
theorem dX10_span_57 : decode cX10_span 57 = .ok (.iload_n 3, 1) := by decide +kernel
theorem dX10_span_58 : decode cX10_span 58 = .ok (.ireturn, 1) := by decide +kernel
theorem dX10_led_0 : decode cX10_led 0 = .ok (.aload_n 0, 1) := by decide +kernel
theorem dX10_led_1 : decode cX10_led 1 = .ok (.iload_n 1, 1) := by decide +kernel
theorem dX10_led_2 : decode cX10_led 2 = .ok (.invokevirtual 181, 3) := by decide +kernel
theorem dX10_led_5 : decode cX10_led 5 = .ok (.iconst 0, 1) := by decide +kernel
theorem dX10_led_6 : decode cX10_led 6 = .ok (.istore_n 3, 1) := by decide +kernel
theorem dX10_led_7 : decode cX10_led 7 = .ok (.iconst 0, 1) := by decide +kernel
theorem dX10_led_8 : decode cX10_led 8 = .ok (.istore 4, 2) := by decide +kernel
theorem dX10_led_10 : decode cX10_led 10 = .ok (.iload 4, 2) := by decide +kernel
theorem dX10_led_12 : decode cX10_led 12 = .ok (.aload_n 0, 1) := by decide +kernel
theorem dX10_led_13 : decode cX10_led 13 = .ok (.getfield 48, 3) := by decide +kernel
theorem dX10_led_16 : decode cX10_led 16 = .ok (.getfield 246, 3) := by decide +kernel
theorem dX10_led_19 : decode cX10_led 19 = .ok (.getfield 392, 3) := by decide +kernel
theorem dX10_led_22 : decode cX10_led 22 = .ok (.if_icmp .ge 68, 3) := by decide +kernel
theorem dX10_led_25 : decode cX10_led 25 = .ok (.iload_n 2, 1) := by decide +kernel
theorem dX10_led_26 : decode cX10_led 26 = .ok (.ifCond .eq 21, 3) := by decide +kernel
theorem dX10_led_29 : decode cX10_led 29 = .ok (.aload_n 0, 1) := by decide +kernel
theorem dX10_led_30 : decode cX10_led 30 = .ok (.getfield 48, 3) := by decide +kernel
theorem dX10_led_33 : decode cX10_led 33 = .ok (.getfield 246, 3) := by decide +kernel
theorem dX10_led_36 : decode cX10_led 36 = .ok (.iload 4, 2) := by decide +kernel
theorem dX10_led_38 : decode cX10_led 38 = .ok (.iconst 2, 1) := by decide +kernel
theorem dX10_led_39 : decode cX10_led 39 = .ok (.invokevirtual 395, 3) := by decide +kernel
theorem dX10_led_42 : decode cX10_led 42 = .ok (.bipush 10, 2) := by decide +kernel
theorem dX10_led_44 : decode cX10_led 44 = .ok (.if_icmp .ge 7, 3) := by decide +kernel
theorem dX10_led_47 : decode cX10_led 47 = .ok (.iconst 1, 1) := by decide +kernel
theorem dX10_led_48 : decode cX10_led 48 = .ok (.goto 4, 3) := by decide +kernel
theorem dX10_led_51 : decode cX10_led 51 = .ok (.iconst 0, 1) := by decide +kernel
theorem dX10_led_52 : decode cX10_led 52 = .ok (.istore 5, 2) := by decide +kernel
theorem dX10_led_54 : decode cX10_led 54 = .ok (.iload_n 3, 1) := by decide +kernel
theorem dX10_led_55 : decode cX10_led 55 = .ok (.iload 5, 2) := by decide +kernel
theorem dX10_led_57 : decode cX10_led 57 = .ok (.ifCond .eq 24, 3) := by decide +kernel
theorem dX10_led_60 : decode cX10_led 60 = .ok (.aload_n 0, 1) := by decide +kernel
theorem dX10_led_61 : decode cX10_led 61 = .ok (.getfield 48, 3) := by decide +kernel
theorem dX10_led_64 : decode cX10_led 64 = .ok (.getfield 246, 3) := by decide +kernel
theorem dX10_led_67 : decode cX10_led 67 = .ok (.iload 4, 2) := by decide +kernel
theorem dX10_led_69 : decode cX10_led 69 = .ok (.iconst 1, 1) := by decide +kernel
theorem dX10_led_70 : decode cX10_led 70 = .ok (.invokevirtual 395, 3) := by decide +kernel
theorem dX10_led_73 : decode cX10_led 73 = .ok (.iload_n 1, 1) := by decide +kernel
theorem dX10_led_74 : decode cX10_led 74 = .ok (.if_icmp .ne 7, 3) := by decide +kernel
theorem dX10_led_77 : decode cX10_led 77 = .ok (.iconst 1, 1) := by decide +kernel
theorem dX10_led_78 : decode cX10_led 78 = .ok (.goto 4, 3) := by decide +kernel
theorem dX10_led_81 : decode cX10_led 81 = .ok (.iconst 0, 1) := by decide +kernel
theorem dX10_led_82 : decode cX10_led 82 = .ok (.iadd, 1) := by decide +kernel
theorem dX10_led_83 : decode cX10_led 83 = .ok (.istore_n 3, 1) := by decide +kernel
theorem dX10_led_84 : decode cX10_led 84 = .ok (.iinc 4 1, 3) := by decide +kernel
theorem dX10_led_87 : decode cX10_led 87 = .ok (.goto (-77), 3) := by decide +kernel
theorem dX10_led_90 : decode cX10_led 90 = .ok (.iload_n 3, 1) := by decide +kernel
theorem dX10_led_91 : decode cX10_led 91 = .ok (.ireturn, 1) := by decide +kernel
theorem dX10_log_0 : decode cX10_log 0 = .ok (.iload_n 2, 1) := by decide +kernel
theorem dX10_log_1 : decode cX10_log 1 = .ok (.ifCond .lt 8, 3) := by decide +kernel
theorem dX10_log_4 : decode cX10_log 4 = .ok (.iload_n 2, 1) := by decide +kernel
theorem dX10_log_5 : decode cX10_log 5 = .ok (.iconst 4, 1) := by decide +kernel
theorem dX10_log_6 : decode cX10_log 6 = .ok (.if_icmp .lt 14, 3) := by decide +kernel
theorem dX10_log_9 : decode cX10_log 9 = .ok (.new 170, 3) := by decide +kernel
theorem dX10_log_12 : decode cX10_log 12 = .ok (.dup, 1) := by decide +kernel
theorem dX10_log_13 : decode cX10_log 13 = .ok (.ldc_w 398, 3) := by decide +kernel
theorem dX10_log_16 : decode cX10_log 16 = .ok (.invokespecial 174, 3) := by decide +kernel
theorem dX10_log_19 : decode cX10_log 19 = .ok (.athrow, 1) := by decide +kernel
theorem dX10_log_20 : decode cX10_log 20 = .ok (.aload_n 0, 1) := by decide +kernel
theorem dX10_log_21 : decode cX10_log 21 = .ok (.getfield 48, 3) := by decide +kernel
theorem dX10_log_24 : decode cX10_log 24 = .ok (.getfield 246, 3) := by decide +kernel
theorem dX10_log_27 : decode cX10_log 27 = .ok (.iload_n 1, 1) := by decide +kernel
theorem dX10_log_28 : decode cX10_log 28 = .ok (.iload_n 2, 1) := by decide +kernel
theorem dX10_log_29 : decode cX10_log 29 = .ok (.invokevirtual 395, 3) := by decide +kernel
theorem dX10_log_32 : decode cX10_log 32 = .ok (.ireturn, 1) := by decide +kernel
theorem dX10_seed_0 : decode cX10_seed 0 = .ok (.aload_n 0, 1) := by decide +kernel
theorem dX10_seed_1 : decode cX10_seed 1 = .ok (.getfield 48, 3) := by decide +kernel
theorem dX10_seed_4 : decode cX10_seed 4 = .ok (.getfield 224, 3) := by decide +kernel
theorem dX10_seed_7 : decode cX10_seed 7 = .ok (.istore_n 2, 1) := by decide +kernel
theorem dX10_seed_8 : decode cX10_seed 8 = .ok (.aload_n 0, 1) := by decide +kernel
theorem dX10_seed_9 : decode cX10_seed 9 = .ok (.getfield 48, 3) := by decide +kernel
theorem dX10_seed_12 : decode cX10_seed 12 = .ok (.iload_n 1, 1) := by decide +kernel
theorem dX10_seed_13 : decode cX10_seed 13 = .ok (.putfield 224, 3) := by decide +kernel
theorem dX10_seed_16 : decode cX10_seed 16 = .ok (.iload_n 2, 1) := by decide +kernel
theorem dX10_seed_17 : decode cX10_seed 17 = .ok (.ireturn, 1) := by decide +kernel
theorem dX10_undo_0 : decode cX10_undo 0 = .ok (.aload_n 0, 1) := by decide +kernel
theorem dX10_undo_1 : decode cX10_undo 1 = .ok (.getfield 61, 3) := by decide +kernel
theorem dX10_undo_4 : decode cX10_undo 4 = .ok (.aload_n 0, 1) := by decide +kernel
theorem dX10_undo_5 : decode cX10_undo 5 = .ok (.getfield 48, 3) := by decide +kernel
theorem dX10_undo_8 : decode cX10_undo 8 = .ok (.invokevirtual 400, 3) := by decide +kernel
theorem dX10_undo_11 : decode cX10_undo 11 = .ok (.ireturn, 1) := by decide +kernel
theorem dX10_image_0 : decode cX10_image 0 = .ok (.aload_n 0, 1) := by decide +kernel
theorem dX10_image_1 : decode cX10_image 1 = .ok (.getfield 55, 3) := by decide +kernel
theorem dX10_image_4 : decode cX10_image 4 = .ok (.aload_n 0, 1) := by decide +kernel
theorem dX10_image_5 : decode cX10_image 5 = .ok (.getfield 48, 3) := by decide +kernel
theorem dX10_image_8 : decode cX10_image 8 = .ok (.invokevirtual 115, 3) := by decide +kernel
theorem dX10_image_11 : decode cX10_image 11 = .ok (.aload_n 0, 1) := by decide +kernel
theorem dX10_image_12 : decode cX10_image 12 = .ok (.iconst 1, 1) := by decide +kernel
theorem dX10_image_13 : decode cX10_image 13 = .ok (.putfield 7, 3) := by decide +kernel
theorem dX10_image_16 : decode cX10_image 16 = .ok (.return_, 1) := by decide +kernel
theorem dX10_back_0 : decode cX10_back 0 = .ok (.aload_n 0, 1) := by decide +kernel
theorem dX10_back_1 : decode cX10_back 1 = .ok (.getfield 7, 3) := by decide +kernel
theorem dX10_back_4 : decode cX10_back 4 = .ok (.ifCond .ne 5, 3) := by decide +kernel
theorem dX10_back_7 : decode cX10_back 7 = .ok (.iconst 0, 1) := by decide +kernel
theorem dX10_back_8 : decode cX10_back 8 = .ok (.ireturn, 1) := by decide +kernel
theorem dX10_back_9 : decode cX10_back 9 = .ok (.aload_n 0, 1) := by decide +kernel
theorem dX10_back_10 : decode cX10_back 10 = .ok (.getfield 48, 3) := by decide +kernel
theorem dX10_back_13 : decode cX10_back 13 = .ok (.aload_n 0, 1) := by decide +kernel
theorem dX10_back_14 : decode cX10_back 14 = .ok (.getfield 55, 3) := by decide +kernel
theorem dX10_back_17 : decode cX10_back 17 = .ok (.invokevirtual 115, 3) := by decide +kernel
theorem dX10_back_20 : decode cX10_back 20 = .ok (.aload_n 0, 1) := by decide +kernel
theorem dX10_back_21 : decode cX10_back 21 = .ok (.getfield 61, 3) := by decide +kernel
theorem dX10_back_24 : decode cX10_back 24 = .ok (.invokevirtual 140, 3) := by decide +kernel
theorem dX10_back_27 : decode cX10_back 27 = .ok (.iconst 1, 1) := by decide +kernel
theorem dX10_back_28 : decode cX10_back 28 = .ok (.ireturn, 1) := by decide +kernel
theorem dX10_count_0 : decode cX10_count 0 = .ok (.iload_n 1, 1) := by decide +kernel
theorem dX10_count_1 : decode cX10_count 1 = .ok (.tableswitch 192 0 14 #[75, 83, 91, 99, 127, 135, 143, 151, 156, 156, 156, 156, 168, 173, 184], 75) := by decide +kernel
theorem dX10_count_76 : decode cX10_count 76 = .ok (.aload_n 0, 1) := by decide +kernel
theorem dX10_count_77 : decode cX10_count 77 = .ok (.getfield 48, 3) := by decide +kernel
theorem dX10_count_80 : decode cX10_count 80 = .ok (.getfield 294, 3) := by decide +kernel
theorem dX10_count_83 : decode cX10_count 83 = .ok (.ireturn, 1) := by decide +kernel
theorem dX10_count_84 : decode cX10_count 84 = .ok (.aload_n 0, 1) := by decide +kernel
theorem dX10_count_85 : decode cX10_count 85 = .ok (.getfield 48, 3) := by decide +kernel
theorem dX10_count_88 : decode cX10_count 88 = .ok (.getfield 322, 3) := by decide +kernel
theorem dX10_count_91 : decode cX10_count 91 = .ok (.ireturn, 1) := by decide +kernel
theorem dX10_count_92 : decode cX10_count 92 = .ok (.aload_n 0, 1) := by decide +kernel
theorem dX10_count_93 : decode cX10_count 93 = .ok (.getfield 48, 3) := by decide +kernel
theorem dX10_count_96 : decode cX10_count 96 = .ok (.getfield 132, 3) := by decide +kernel
theorem dX10_count_99 : decode cX10_count 99 = .ok (.ireturn, 1) := by decide +kernel
theorem dX10_count_100 : decode cX10_count 100 = .ok (.aload_n 0, 1) := by decide +kernel
theorem dX10_count_101 : decode cX10_count 101 = .ok (.getfield 48, 3) := by decide +kernel
theorem dX10_count_104 : decode cX10_count 104 = .ok (.getfield 148, 3) := by decide +kernel
theorem dX10_count_107 : decode cX10_count 107 = .ok (.getfield 404, 3) := by decide +kernel
theorem dX10_count_110 : decode cX10_count 110 = .ok (.ifCond .eq 16, 3) := by decide +kernel
theorem dX10_count_113 : decode cX10_count 113 = .ok (.aload_n 0, 1) := by decide +kernel
theorem dX10_count_114 : decode cX10_count 114 = .ok (.getfield 48, 3) := by decide +kernel
theorem dX10_count_117 : decode cX10_count 117 = .ok (.getfield 148, 3) := by decide +kernel
theorem dX10_count_120 : decode cX10_count 120 = .ok (.getfield 152, 3) := by decide +kernel
theorem dX10_count_123 : decode cX10_count 123 = .ok (.goto 4, 3) := by decide +kernel
theorem dX10_count_126 : decode cX10_count 126 = .ok (.iconst (-1), 1) := by decide +kernel
theorem dX10_count_127 : decode cX10_count 127 = .ok (.ireturn, 1) := by decide +kernel
theorem dX10_count_128 : decode cX10_count 128 = .ok (.aload_n 0, 1) := by decide +kernel
theorem dX10_count_129 : decode cX10_count 129 = .ok (.getfield 48, 3) := by decide +kernel
theorem dX10_count_132 : decode cX10_count 132 = .ok (.getfield 250, 3) := by decide +kernel
theorem dX10_count_135 : decode cX10_count 135 = .ok (.ireturn, 1) := by decide +kernel
theorem dX10_count_136 : decode cX10_count 136 = .ok (.aload_n 0, 1) := by decide +kernel
theorem dX10_count_137 : decode cX10_count 137 = .ok (.getfield 48, 3) := by decide +kernel
theorem dX10_count_140 : decode cX10_count 140 = .ok (.getfield 283, 3) := by decide +kernel
theorem dX10_count_143 : decode cX10_count 143 = .ok (.ireturn, 1) := by decide +kernel
theorem dX10_count_144 : decode cX10_count 144 = .ok (.aload_n 0, 1) := by decide +kernel
theorem dX10_count_145 : decode cX10_count 145 = .ok (.getfield 48, 3) := by decide +kernel
theorem dX10_count_148 : decode cX10_count 148 = .ok (.getfield 357, 3) := by decide +kernel
theorem dX10_count_151 : decode cX10_count 151 = .ok (.ireturn, 1) := by decide +kernel
theorem dX10_count_152 : decode cX10_count 152 = .ok (.aload_n 0, 1) := by decide +kernel
theorem dX10_count_153 : decode cX10_count 153 = .ok (.invokevirtual 407, 3) := by decide +kernel
theorem dX10_count_156 : decode cX10_count 156 = .ok (.ireturn, 1) := by decide +kernel
theorem dX10_count_157 : decode cX10_count 157 = .ok (.aload_n 0, 1) := by decide +kernel
theorem dX10_count_158 : decode cX10_count 158 = .ok (.getfield 48, 3) := by decide +kernel
theorem dX10_count_161 : decode cX10_count 161 = .ok (.iload_n 1, 1) := by decide +kernel
theorem dX10_count_162 : decode cX10_count 162 = .ok (.bipush 8, 2) := by decide +kernel
theorem dX10_count_164 : decode cX10_count 164 = .ok (.isub, 1) := by decide +kernel
theorem dX10_count_165 : decode cX10_count 165 = .ok (.invokevirtual 272, 3) := by decide +kernel
theorem dX10_count_168 : decode cX10_count 168 = .ok (.ireturn, 1) := by decide +kernel
theorem dX10_count_169 : decode cX10_count 169 = .ok (.aload_n 0, 1) := by decide +kernel
theorem dX10_count_170 : decode cX10_count 170 = .ok (.invokevirtual 410, 3) := by decide +kernel
theorem dX10_count_173 : decode cX10_count 173 = .ok (.ireturn, 1) := by decide +kernel
theorem dX10_count_174 : decode cX10_count 174 = .ok (.aload_n 0, 1) := by decide +kernel
theorem dX10_count_175 : decode cX10_count 175 = .ok (.getfield 48, 3) := by decide +kernel
theorem dX10_count_178 : decode cX10_count 178 = .ok (.getfield 246, 3) := by decide +kernel
theorem dX10_count_181 : decode cX10_count 181 = .ok (.getfield 392, 3) := by decide +kernel
theorem dX10_count_184 : decode cX10_count 184 = .ok (.ireturn, 1) := by decide +kernel
theorem dX10_count_185 : decode cX10_count 185 = .ok (.aload_n 0, 1) := by decide +kernel
theorem dX10_count_186 : decode cX10_count 186 = .ok (.getfield 61, 3) := by decide +kernel
theorem dX10_count_189 : decode cX10_count 189 = .ok (.getfield 413, 3) := by decide +kernel
theorem dX10_count_192 : decode cX10_count 192 = .ok (.ireturn, 1) := by decide +kernel
theorem dX10_count_193 : decode cX10_count 193 = .ok (.iconst (-1), 1) := by decide +kernel
theorem dX10_count_194 : decode cX10_count 194 = .ok (.ireturn, 1) := by decide +kernel
theorem dX10_needProp_0 : decode cX10_needProp 0 = .ok (.iload_n 1, 1) := by decide +kernel
theorem dX10_needProp_1 : decode cX10_needProp 1 = .ok (.ifCond .lt 14, 3) := by decide +kernel
theorem dX10_needProp_4 : decode cX10_needProp 4 = .ok (.iload_n 1, 1) := by decide +kernel
theorem dX10_needProp_5 : decode cX10_needProp 5 = .ok (.aload_n 0, 1) := by decide +kernel
theorem dX10_needProp_6 : decode cX10_needProp 6 = .ok (.getfield 48, 3) := by decide +kernel
theorem dX10_needProp_9 : decode cX10_needProp 9 = .ok (.getfield 294, 3) := by decide +kernel
theorem dX10_needProp_12 : decode cX10_needProp 12 = .ok (.if_icmp .lt 14, 3) := by decide +kernel
theorem dX10_needProp_15 : decode cX10_needProp 15 = .ok (.new 416, 3) := by decide +kernel
theorem dX10_needProp_18 : decode cX10_needProp 18 = .ok (.dup, 1) := by decide +kernel
theorem dX10_needProp_19 : decode cX10_needProp 19 = .ok (.ldc_w 418, 3) := by decide +kernel
theorem dX10_needProp_22 : decode cX10_needProp 22 = .ok (.invokespecial 420, 3) := by decide +kernel
theorem dX10_needProp_25 : decode cX10_needProp 25 = .ok (.athrow, 1) := by decide +kernel
theorem dX10_needProp_26 : decode cX10_needProp 26 = .ok (.return_, 1) := by decide +kernel
theorem dX10_needSlot_0 : decode cX10_needSlot 0 = .ok (.iload_n 1, 1) := by decide +kernel
theorem dX10_needSlot_1 : decode cX10_needSlot 1 = .ok (.ifCond .lt 9, 3) := by decide +kernel
theorem dX10_needSlot_4 : decode cX10_needSlot 4 = .ok (.iload_n 1, 1) := by decide +kernel
theorem dX10_needSlot_5 : decode cX10_needSlot 5 = .ok (.bipush 10, 2) := by decide +kernel
theorem dX10_needSlot_7 : decode cX10_needSlot 7 = .ok (.if_icmp .lt 14, 3) := by decide +kernel
theorem dX10_needSlot_10 : decode cX10_needSlot 10 = .ok (.new 416, 3) := by decide +kernel
theorem dX10_needSlot_13 : decode cX10_needSlot 13 = .ok (.dup, 1) := by decide +kernel
theorem dX10_needSlot_14 : decode cX10_needSlot 14 = .ok (.ldc_w 421, 3) := by decide +kernel
theorem dX10_needSlot_17 : decode cX10_needSlot 17 = .ok (.invokespecial 420, 3) := by decide +kernel
theorem dX10_needSlot_20 : decode cX10_needSlot 20 = .ok (.athrow, 1) := by decide +kernel
theorem dX10_needSlot_21 : decode cX10_needSlot 21 = .ok (.return_, 1) := by decide +kernel
theorem dX10_needOne_0 : decode cX10_needOne 0 = .ok (.iload_n 1, 1) := by decide +kernel
theorem dX10_needOne_1 : decode cX10_needOne 1 = .ok (.ifCond .lt 14, 3) := by decide +kernel
theorem dX10_needOne_4 : decode cX10_needOne 4 = .ok (.iload_n 1, 1) := by decide +kernel
theorem dX10_needOne_5 : decode cX10_needOne 5 = .ok (.aload_n 0, 1) := by decide +kernel
theorem dX10_needOne_6 : decode cX10_needOne 6 = .ok (.getfield 48, 3) := by decide +kernel
theorem dX10_needOne_9 : decode cX10_needOne 9 = .ok (.getfield 322, 3) := by decide +kernel
theorem dX10_needOne_12 : decode cX10_needOne 12 = .ok (.if_icmp .lt 14, 3) := by decide +kernel
theorem dX10_needOne_15 : decode cX10_needOne 15 = .ok (.new 416, 3) := by decide +kernel
theorem dX10_needOne_18 : decode cX10_needOne 18 = .ok (.dup, 1) := by decide +kernel
theorem dX10_needOne_19 : decode cX10_needOne 19 = .ok (.ldc_w 423, 3) := by decide +kernel
theorem dX10_needOne_22 : decode cX10_needOne 22 = .ok (.invokespecial 420, 3) := by decide +kernel
theorem dX10_needOne_25 : decode cX10_needOne 25 = .ok (.athrow, 1) := by decide +kernel
theorem dX10_needOne_26 : decode cX10_needOne 26 = .ok (.return_, 1) := by decide +kernel
theorem dX10_needState_0 : decode cX10_needState 0 = .ok (.aload_n 0, 1) := by decide +kernel
theorem dX10_needState_1 : decode cX10_needState 1 = .ok (.getfield 48, 3) := by decide +kernel
theorem dX10_needState_4 : decode cX10_needState 4 = .ok (.getfield 193, 3) := by decide +kernel
theorem dX10_needState_7 : decode cX10_needState 7 = .ok (.iload_n 1, 1) := by decide +kernel
theorem dX10_needState_8 : decode cX10_needState 8 = .ok (.iaload, 1) := by decide +kernel
theorem dX10_needState_9 : decode cX10_needState 9 = .ok (.iload_n 2, 1) := by decide +kernel
theorem dX10_needState_10 : decode cX10_needState 10 = .ok (.if_icmp .eq 14, 3) := by decide +kernel
theorem dX10_needState_13 : decode cX10_needState 13 = .ok (.new 262, 3) := by decide +kernel
theorem dX10_needState_16 : decode cX10_needState 16 = .ok (.dup, 1) := by decide +kernel
theorem dX10_needState_17 : decode cX10_needState 17 = .ok (.ldc_w 425, 3) := by decide +kernel
theorem dX10_needState_20 : decode cX10_needState 20 = .ok (.invokespecial 266, 3) := by decide +kernel
theorem dX10_needState_23 : decode cX10_needState 23 = .ok (.athrow, 1) := by decide +kernel
theorem dX10_needState_24 : decode cX10_needState 24 = .ok (.return_, 1) := by decide +kernel
theorem dX10_needTrials_0 : decode cX10_needTrials 0 = .ok (.iload_n 1, 1) := by decide +kernel
theorem dX10_needTrials_1 : decode cX10_needTrials 1 = .ok (.ifCond .lt 9, 3) := by decide +kernel
theorem dX10_needTrials_4 : decode cX10_needTrials 4 = .ok (.iload_n 1, 1) := by decide +kernel
theorem dX10_needTrials_5 : decode cX10_needTrials 5 = .ok (.bipush 20, 2) := by decide +kernel
theorem dX10_needTrials_7 : decode cX10_needTrials 7 = .ok (.if_icmp .le 14, 3) := by decide +kernel
theorem dX10_needTrials_10 : decode cX10_needTrials 10 = .ok (.new 125, 3) := by decide +kernel
theorem dX10_needTrials_13 : decode cX10_needTrials 13 = .ok (.dup, 1) := by decide +kernel
theorem dX10_needTrials_14 : decode cX10_needTrials 14 = .ok (.ldc_w 427, 3) := by decide +kernel
theorem dX10_needTrials_17 : decode cX10_needTrials 17 = .ok (.invokespecial 129, 3) := by decide +kernel
theorem dX10_needTrials_20 : decode cX10_needTrials 20 = .ok (.athrow, 1) := by decide +kernel
theorem dX10_needTrials_21 : decode cX10_needTrials 21 = .ok (.return_, 1) := by decide +kernel
theorem dX10_rideStraight_0 : decode cX10_rideStraight 0 = .ok (.aload_n 0, 1) := by decide +kernel
theorem dX10_rideStraight_1 : decode cX10_rideStraight 1 = .ok (.getfield 88, 3) := by decide +kernel
theorem dX10_rideStraight_4 : decode cX10_rideStraight 4 = .ok (.invokevirtual 200, 3) := by decide +kernel
theorem dX10_rideStraight_7 : decode cX10_rideStraight 7 = .ok (.aload_n 0, 1) := by decide +kernel
theorem dX10_rideStraight_8 : decode cX10_rideStraight 8 = .ok (.getfield 88, 3) := by decide +kernel
theorem dX10_rideStraight_11 : decode cX10_rideStraight 11 = .ok (.iload_n 1, 1) := by decide +kernel
theorem dX10_rideStraight_12 : decode cX10_rideStraight 12 = .ok (.invokevirtual 203, 3) := by decide +kernel
theorem dX10_rideStraight_15 : decode cX10_rideStraight 15 = .ok (.aload_n 0, 1) := by decide +kernel
theorem dX10_rideStraight_16 : decode cX10_rideStraight 16 = .ok (.getfield 88, 3) := by decide +kernel
theorem dX10_rideStraight_19 : decode cX10_rideStraight 19 = .ok (.invokevirtual 374, 3) := by decide +kernel
theorem dX10_rideStraight_22 : decode cX10_rideStraight 22 = .ok (.return_, 1) := by decide +kernel
theorem dX10_gapAsLaid_0 : decode cX10_gapAsLaid 0 = .ok (.iconst 0, 1) := by decide +kernel
theorem dX10_gapAsLaid_1 : decode cX10_gapAsLaid 1 = .ok (.istore_n 1, 1) := by decide +kernel
theorem dX10_gapAsLaid_2 : decode cX10_gapAsLaid 2 = .ok (.iconst 0, 1) := by decide +kernel
theorem dX10_gapAsLaid_3 : decode cX10_gapAsLaid 3 = .ok (.istore_n 2, 1) := by decide +kernel
theorem dX10_gapAsLaid_4 : decode cX10_gapAsLaid 4 = .ok (.iload_n 2, 1) := by decide +kernel
theorem dX10_gapAsLaid_5 : decode cX10_gapAsLaid 5 = .ok (.aload_n 0, 1) := by decide +kernel
theorem dX10_gapAsLaid_6 : decode cX10_gapAsLaid 6 = .ok (.getfield 48, 3) := by decide +kernel
theorem dX10_gapAsLaid_9 : decode cX10_gapAsLaid 9 = .ok (.getfield 322, 3) := by decide +kernel
theorem dX10_gapAsLaid_12 : decode cX10_gapAsLaid 12 = .ok (.if_icmp .ge 49, 3) := by decide +kernel
theorem dX10_gapAsLaid_15 : decode cX10_gapAsLaid 15 = .ok (.aload_n 0, 1) := by decide +kernel
theorem dX10_gapAsLaid_16 : decode cX10_gapAsLaid 16 = .ok (.getfield 48, 3) := by decide +kernel
theorem dX10_gapAsLaid_19 : decode cX10_gapAsLaid 19 = .ok (.iload_n 2, 1) := by decide +kernel
theorem dX10_gapAsLaid_20 : decode cX10_gapAsLaid 20 = .ok (.invokevirtual 325, 3) := by decide +kernel
theorem dX10_gapAsLaid_23 : decode cX10_gapAsLaid 23 = .ok (.ifCond .eq 32, 3) := by decide +kernel
theorem dX10_gapAsLaid_26 : decode cX10_gapAsLaid 26 = .ok (.aload_n 0, 1) := by decide +kernel
theorem dX10_gapAsLaid_27 : decode cX10_gapAsLaid 27 = .ok (.getfield 100, 3) := by decide +kernel
theorem dX10_gapAsLaid_30 : decode cX10_gapAsLaid 30 = .ok (.iload_n 2, 1) := by decide +kernel
theorem dX10_gapAsLaid_31 : decode cX10_gapAsLaid 31 = .ok (.invokevirtual 315, 3) := by decide +kernel
theorem dX10_gapAsLaid_34 : decode cX10_gapAsLaid 34 = .ok (.istore_n 3, 1) := by decide +kernel
theorem dX10_gapAsLaid_35 : decode cX10_gapAsLaid 35 = .ok (.iload_n 1, 1) := by decide +kernel
theorem dX10_gapAsLaid_36 : decode cX10_gapAsLaid 36 = .ok (.aload_n 0, 1) := by decide +kernel
theorem dX10_gapAsLaid_37 : decode cX10_gapAsLaid 37 = .ok (.getfield 48, 3) := by decide +kernel
theorem dX10_gapAsLaid_40 : decode cX10_gapAsLaid 40 = .ok (.iload_n 2, 1) := by decide +kernel
theorem dX10_gapAsLaid_41 : decode cX10_gapAsLaid 41 = .ok (.invokevirtual 328, 3) := by decide +kernel
theorem dX10_gapAsLaid_44 : decode cX10_gapAsLaid 44 = .ok (.ifCond .eq 7, 3) := by decide +kernel
theorem dX10_gapAsLaid_47 : decode cX10_gapAsLaid 47 = .ok (.iload_n 3, 1) := by decide +kernel
theorem dX10_gapAsLaid_48 : decode cX10_gapAsLaid 48 = .ok (.goto 5, 3) := by decide +kernel
theorem dX10_gapAsLaid_51 : decode cX10_gapAsLaid 51 = .ok (.iload_n 3, 1) := by decide +kernel
theorem dX10_gapAsLaid_52 : decode cX10_gapAsLaid 52 = .ok (.ineg, 1) := by decide +kernel
theorem dX10_gapAsLaid_53 : decode cX10_gapAsLaid 53 = .ok (.iadd, 1) := by decide +kernel
theorem dX10_gapAsLaid_54 : decode cX10_gapAsLaid 54 = .ok (.istore_n 1, 1) := by decide +kernel
theorem dX10_gapAsLaid_55 : decode cX10_gapAsLaid 55 = .ok (.iinc 2 1, 3) := by decide +kernel
theorem dX10_gapAsLaid_58 : decode cX10_gapAsLaid 58 = .ok (.goto (-54), 3) := by decide +kernel
theorem dX10_gapAsLaid_61 : decode cX10_gapAsLaid 61 = .ok (.iload_n 1, 1) := by decide +kernel
theorem dX10_gapAsLaid_62 : decode cX10_gapAsLaid 62 = .ok (.ireturn, 1) := by decide +kernel
theorem dX10_sift_0 : decode cX10_sift 0 = .ok (.aload_n 0, 1) := by decide +kernel
theorem dX10_sift_1 : decode cX10_sift 1 = .ok (.getfield 16, 3) := by decide +kernel
theorem dX10_sift_4 : decode cX10_sift 4 = .ok (.invokevirtual 429, 3) := by decide +kernel
theorem dX10_sift_7 : decode cX10_sift 7 = .ok (.ifCond .eq 18, 3) := by decide +kernel
theorem dX10_sift_10 : decode cX10_sift 10 = .ok (.iload_n 1, 1) := by decide +kernel
theorem dX10_sift_11 : decode cX10_sift 11 = .ok (.iconst 1, 1) := by decide +kernel
theorem dX10_sift_12 : decode cX10_sift 12 = .ok (.if_icmp .lt 13, 3) := by decide +kernel
theorem dX10_sift_15 : decode cX10_sift 15 = .ok (.iload_n 1, 1) := by decide +kernel
theorem dX10_sift_16 : decode cX10_sift 16 = .ok (.bipush 60, 2) := by decide +kernel
theorem dX10_sift_18 : decode cX10_sift 18 = .ok (.if_icmp .gt 7, 3) := by decide +kernel
theorem dX10_sift_21 : decode cX10_sift 21 = .ok (.iconst 1, 1) := by decide +kernel
theorem dX10_sift_22 : decode cX10_sift 22 = .ok (.goto 4, 3) := by decide +kernel
theorem dX10_sift_25 : decode cX10_sift 25 = .ok (.iconst 0, 1) := by decide +kernel
theorem dX10_sift_26 : decode cX10_sift 26 = .ok (.istore_n 2, 1) := by decide +kernel
theorem dX10_sift_27 : decode cX10_sift 27 = .ok (.iload_n 2, 1) := by decide +kernel
theorem dX10_sift_28 : decode cX10_sift 28 = .ok (.ifCond .eq 26, 3) := by decide +kernel
theorem dX10_sift_31 : decode cX10_sift 31 = .ok (.aload_n 0, 1) := by decide +kernel
theorem dX10_sift_32 : decode cX10_sift 32 = .ok (.getfield 88, 3) := by decide +kernel
theorem dX10_sift_35 : decode cX10_sift 35 = .ok (.invokevirtual 200, 3) := by decide +kernel
theorem dX10_sift_38 : decode cX10_sift 38 = .ok (.aload_n 0, 1) := by decide +kernel
theorem dX10_sift_39 : decode cX10_sift 39 = .ok (.getfield 23, 3) := by decide +kernel
theorem dX10_sift_42 : decode cX10_sift 42 = .ok (.aload_n 0, 1) := by decide +kernel
theorem dX10_sift_43 : decode cX10_sift 43 = .ok (.getfield 88, 3) := by decide +kernel
theorem dX10_sift_46 : decode cX10_sift 46 = .ok (.iload_n 1, 1) := by decide +kernel
theorem dX10_sift_47 : decode cX10_sift 47 = .ok (.aload_n 0, 1) := by decide +kernel
theorem dX10_sift_48 : decode cX10_sift 48 = .ok (.getfield 16, 3) := by decide +kernel
theorem dX10_sift_51 : decode cX10_sift 51 = .ok (.invokevirtual 432, 3) := by decide +kernel
theorem dX10_sift_54 : decode cX10_sift 54 = .ok (.aload_n 0, 1) := by decide +kernel
theorem dX10_sift_55 : decode cX10_sift 55 = .ok (.getfield 16, 3) := by decide +kernel
theorem dX10_sift_58 : decode cX10_sift 58 = .ok (.iconst 0, 1) := by decide +kernel
theorem dX10_sift_59 : decode cX10_sift 59 = .ok (.putfield 112, 3) := by decide +kernel
theorem dX10_sift_62 : decode cX10_sift 62 = .ok (.iload_n 2, 1) := by decide +kernel
theorem dX10_sift_63 : decode cX10_sift 63 = .ok (.ireturn, 1) := by decide +kernel
theorem dX10_nailedProps_0 : decode cX10_nailedProps 0 = .ok (.iconst 0, 1) := by decide +kernel
theorem dX10_nailedProps_1 : decode cX10_nailedProps 1 = .ok (.istore_n 1, 1) := by decide +kernel
theorem dX10_nailedProps_2 : decode cX10_nailedProps 2 = .ok (.iconst 0, 1) := by decide +kernel
theorem dX10_nailedProps_3 : decode cX10_nailedProps 3 = .ok (.istore_n 2, 1) := by decide +kernel
theorem dX10_nailedProps_4 : decode cX10_nailedProps 4 = .ok (.iload_n 2, 1) := by decide +kernel
theorem dX10_nailedProps_5 : decode cX10_nailedProps 5 = .ok (.aload_n 0, 1) := by decide +kernel
theorem dX10_nailedProps_6 : decode cX10_nailedProps 6 = .ok (.getfield 48, 3) := by decide +kernel
theorem dX10_nailedProps_9 : decode cX10_nailedProps 9 = .ok (.getfield 294, 3) := by decide +kernel
theorem dX10_nailedProps_12 : decode cX10_nailedProps 12 = .ok (.if_icmp .ge 31, 3) := by decide +kernel
theorem dX10_nailedProps_15 : decode cX10_nailedProps 15 = .ok (.iload_n 1, 1) := by decide +kernel
theorem dX10_nailedProps_16 : decode cX10_nailedProps 16 = .ok (.aload_n 0, 1) := by decide +kernel
theorem dX10_nailedProps_17 : decode cX10_nailedProps 17 = .ok (.getfield 48, 3) := by decide +kernel
theorem dX10_nailedProps_20 : decode cX10_nailedProps 20 = .ok (.getfield 167, 3) := by decide +kernel
theorem dX10_nailedProps_23 : decode cX10_nailedProps 23 = .ok (.iload_n 2, 1) := by decide +kernel
theorem dX10_nailedProps_24 : decode cX10_nailedProps 24 = .ok (.iaload, 1) := by decide +kernel
theorem dX10_nailedProps_25 : decode cX10_nailedProps 25 = .ok (.ifCond .lt 9, 3) := by decide +kernel
theorem dX10_nailedProps_28 : decode cX10_nailedProps 28 = .ok (.iconst 1, 1) := by decide +kernel
theorem dX10_nailedProps_29 : decode cX10_nailedProps 29 = .ok (.iload_n 2, 1) := by decide +kernel
theorem dX10_nailedProps_30 : decode cX10_nailedProps 30 = .ok (.ishl, 1) := by decide +kernel
theorem dX10_nailedProps_31 : decode cX10_nailedProps 31 = .ok (.goto 4, 3) := by decide +kernel
theorem dX10_nailedProps_34 : decode cX10_nailedProps 34 = .ok (.iconst 0, 1) := by decide +kernel
theorem dX10_nailedProps_35 : decode cX10_nailedProps 35 = .ok (.ior, 1) := by decide +kernel
theorem dX10_nailedProps_36 : decode cX10_nailedProps 36 = .ok (.istore_n 1, 1) := by decide +kernel
theorem dX10_nailedProps_37 : decode cX10_nailedProps 37 = .ok (.iinc 2 1, 3) := by decide +kernel
theorem dX10_nailedProps_40 : decode cX10_nailedProps 40 = .ok (.goto (-36), 3) := by decide +kernel
theorem dX10_nailedProps_43 : decode cX10_nailedProps 43 = .ok (.iload_n 1, 1) := by decide +kernel
theorem dX10_nailedProps_44 : decode cX10_nailedProps 44 = .ok (.ireturn, 1) := by decide +kernel
theorem dX10_slotsWithProp_0 : decode cX10_slotsWithProp 0 = .ok (.iconst 0, 1) := by decide +kernel
theorem dX10_slotsWithProp_1 : decode cX10_slotsWithProp 1 = .ok (.istore_n 1, 1) := by decide +kernel
theorem dX10_slotsWithProp_2 : decode cX10_slotsWithProp 2 = .ok (.iconst 0, 1) := by decide +kernel
theorem dX10_slotsWithProp_3 : decode cX10_slotsWithProp 3 = .ok (.istore_n 2, 1) := by decide +kernel
theorem dX10_slotsWithProp_4 : decode cX10_slotsWithProp 4 = .ok (.iload_n 2, 1) := by decide +kernel
theorem dX10_slotsWithProp_5 : decode cX10_slotsWithProp 5 = .ok (.bipush 10, 2) := by decide +kernel
theorem dX10_slotsWithProp_7 : decode cX10_slotsWithProp 7 = .ok (.if_icmp .ge 31, 3) := by decide +kernel
theorem dX10_slotsWithProp_10 : decode cX10_slotsWithProp 10 = .ok (.iload_n 1, 1) := by decide +kernel
theorem dX10_slotsWithProp_11 : decode cX10_slotsWithProp 11 = .ok (.aload_n 0, 1) := by decide +kernel
theorem dX10_slotsWithProp_12 : decode cX10_slotsWithProp 12 = .ok (.getfield 48, 3) := by decide +kernel
theorem dX10_slotsWithProp_15 : decode cX10_slotsWithProp 15 = .ok (.getfield 178, 3) := by decide +kernel
theorem dX10_slotsWithProp_18 : decode cX10_slotsWithProp 18 = .ok (.iload_n 2, 1) := by decide +kernel
theorem dX10_slotsWithProp_19 : decode cX10_slotsWithProp 19 = .ok (.iaload, 1) := by decide +kernel
theorem dX10_slotsWithProp_20 : decode cX10_slotsWithProp 20 = .ok (.ifCond .lt 9, 3) := by decide +kernel
theorem dX10_slotsWithProp_23 : decode cX10_slotsWithProp 23 = .ok (.iconst 1, 1) := by decide +kernel
theorem dX10_slotsWithProp_24 : decode cX10_slotsWithProp 24 = .ok (.iload_n 2, 1) := by decide +kernel
theorem dX10_slotsWithProp_25 : decode cX10_slotsWithProp 25 = .ok (.ishl, 1) := by decide +kernel
theorem dX10_slotsWithProp_26 : decode cX10_slotsWithProp 26 = .ok (.goto 4, 3) := by decide +kernel
theorem dX10_slotsWithProp_29 : decode cX10_slotsWithProp 29 = .ok (.iconst 0, 1) := by decide +kernel
theorem dX10_slotsWithProp_30 : decode cX10_slotsWithProp 30 = .ok (.ior, 1) := by decide +kernel
theorem dX10_slotsWithProp_31 : decode cX10_slotsWithProp 31 = .ok (.istore_n 1, 1) := by decide +kernel
theorem dX10_slotsWithProp_32 : decode cX10_slotsWithProp 32 = .ok (.iinc 2 1, 3) := by decide +kernel
theorem dX10_slotsWithProp_35 : decode cX10_slotsWithProp 35 = .ok (.goto (-31), 3) := by decide +kernel
theorem dX10_slotsWithProp_38 : decode cX10_slotsWithProp 38 = .ok (.iload_n 1, 1) := by decide +kernel
theorem dX10_slotsWithProp_39 : decode cX10_slotsWithProp 39 = .ok (.ireturn, 1) := by decide +kernel
theorem dX10_wornTogether_0 : decode cX10_wornTogether 0 = .ok (.iconst 0, 1) := by decide +kernel
theorem dX10_wornTogether_1 : decode cX10_wornTogether 1 = .ok (.istore_n 1, 1) := by decide +kernel
theorem dX10_wornTogether_2 : decode cX10_wornTogether 2 = .ok (.iconst 0, 1) := by decide +kernel
theorem dX10_wornTogether_3 : decode cX10_wornTogether 3 = .ok (.istore_n 2, 1) := by decide +kernel
theorem dX10_wornTogether_4 : decode cX10_wornTogether 4 = .ok (.iload_n 2, 1) := by decide +kernel
theorem dX10_wornTogether_5 : decode cX10_wornTogether 5 = .ok (.aload_n 0, 1) := by decide +kernel
theorem dX10_wornTogether_6 : decode cX10_wornTogether 6 = .ok (.getfield 48, 3) := by decide +kernel
theorem dX10_wornTogether_9 : decode cX10_wornTogether 9 = .ok (.getfield 294, 3) := by decide +kernel
theorem dX10_wornTogether_12 : decode cX10_wornTogether 12 = .ok (.if_icmp .ge 21, 3) := by decide +kernel
theorem dX10_wornTogether_15 : decode cX10_wornTogether 15 = .ok (.iload_n 1, 1) := by decide +kernel
theorem dX10_wornTogether_16 : decode cX10_wornTogether 16 = .ok (.aload_n 0, 1) := by decide +kernel
theorem dX10_wornTogether_17 : decode cX10_wornTogether 17 = .ok (.getfield 48, 3) := by decide +kernel
theorem dX10_wornTogether_20 : decode cX10_wornTogether 20 = .ok (.getfield 164, 3) := by decide +kernel
theorem dX10_wornTogether_23 : decode cX10_wornTogether 23 = .ok (.iload_n 2, 1) := by decide +kernel
theorem dX10_wornTogether_24 : decode cX10_wornTogether 24 = .ok (.iaload, 1) := by decide +kernel
theorem dX10_wornTogether_25 : decode cX10_wornTogether 25 = .ok (.iadd, 1) := by decide +kernel
theorem dX10_wornTogether_26 : decode cX10_wornTogether 26 = .ok (.istore_n 1, 1) := by decide +kernel
theorem dX10_wornTogether_27 : decode cX10_wornTogether 27 = .ok (.iinc 2 1, 3) := by decide +kernel
theorem dX10_wornTogether_30 : decode cX10_wornTogether 30 = .ok (.goto (-26), 3) := by decide +kernel
theorem dX10_wornTogether_33 : decode cX10_wornTogether 33 = .ok (.iload_n 1, 1) := by decide +kernel
theorem dX10_wornTogether_34 : decode cX10_wornTogether 34 = .ok (.ireturn, 1) := by decide +kernel
theorem dX10_isQuietWithout_0 : decode cX10_isQuietWithout 0 = .ok (.aload_n 0, 1) := by decide +kernel
theorem dX10_isQuietWithout_1 : decode cX10_isQuietWithout 1 = .ok (.getfield 88, 3) := by decide +kernel
theorem dX10_isQuietWithout_4 : decode cX10_isQuietWithout 4 = .ok (.invokevirtual 200, 3) := by decide +kernel
theorem dX10_isQuietWithout_7 : decode cX10_isQuietWithout 7 = .ok (.aload_n 0, 1) := by decide +kernel
theorem dX10_isQuietWithout_8 : decode cX10_isQuietWithout 8 = .ok (.getfield 88, 3) := by decide +kernel
theorem dX10_isQuietWithout_11 : decode cX10_isQuietWithout 11 = .ok (.iload_n 1, 1) := by decide +kernel
theorem dX10_isQuietWithout_12 : decode cX10_isQuietWithout 12 = .ok (.invokevirtual 435, 3) := by decide +kernel
theorem dX10_isQuietWithout_15 : decode cX10_isQuietWithout 15 = .ok (.iconst 0, 1) := by decide +kernel
theorem dX10_isQuietWithout_16 : decode cX10_isQuietWithout 16 = .ok (.istore_n 2, 1) := by decide +kernel
theorem dX10_isQuietWithout_17 : decode cX10_isQuietWithout 17 = .ok (.iload_n 2, 1) := by decide +kernel
theorem dX10_isQuietWithout_18 : decode cX10_isQuietWithout 18 = .ok (.aload_n 0, 1) := by decide +kernel
theorem dX10_isQuietWithout_19 : decode cX10_isQuietWithout 19 = .ok (.getfield 48, 3) := by decide +kernel
theorem dX10_isQuietWithout_22 : decode cX10_isQuietWithout 22 = .ok (.getfield 322, 3) := by decide +kernel
theorem dX10_isQuietWithout_25 : decode cX10_isQuietWithout 25 = .ok (.if_icmp .ge 59, 3) := by decide +kernel
theorem dX10_isQuietWithout_28 : decode cX10_isQuietWithout 28 = .ok (.aload_n 0, 1) := by decide +kernel
theorem dX10_isQuietWithout_29 : decode cX10_isQuietWithout 29 = .ok (.getfield 48, 3) := by decide +kernel
theorem dX10_isQuietWithout_32 : decode cX10_isQuietWithout 32 = .ok (.iload_n 2, 1) := by decide +kernel
theorem dX10_isQuietWithout_33 : decode cX10_isQuietWithout 33 = .ok (.invokevirtual 325, 3) := by decide +kernel
theorem dX10_isQuietWithout_36 : decode cX10_isQuietWithout 36 = .ok (.ifCond .eq 42, 3) := by decide +kernel
theorem dX10_isQuietWithout_39 : decode cX10_isQuietWithout 39 = .ok (.aload_n 0, 1) := by decide +kernel
theorem dX10_isQuietWithout_40 : decode cX10_isQuietWithout 40 = .ok (.getfield 48, 3) := by decide +kernel
theorem dX10_isQuietWithout_43 : decode cX10_isQuietWithout 43 = .ok (.iload_n 2, 1) := by decide +kernel
theorem dX10_isQuietWithout_44 : decode cX10_isQuietWithout 44 = .ok (.invokevirtual 328, 3) := by decide +kernel
theorem dX10_isQuietWithout_47 : decode cX10_isQuietWithout 47 = .ok (.ifCond .ne 31, 3) := by decide +kernel
theorem dX10_isQuietWithout_50 : decode cX10_isQuietWithout 50 = .ok (.aload_n 0, 1) := by decide +kernel
theorem dX10_isQuietWithout_51 : decode cX10_isQuietWithout 51 = .ok (.getfield 88, 3) := by decide +kernel
theorem dX10_isQuietWithout_54 : decode cX10_isQuietWithout 54 = .ok (.iload_n 2, 1) := by decide +kernel
theorem dX10_isQuietWithout_55 : decode cX10_isQuietWithout 55 = .ok (.invokevirtual 203, 3) := by decide +kernel
theorem dX10_isQuietWithout_58 : decode cX10_isQuietWithout 58 = .ok (.aload_n 0, 1) := by decide +kernel
theorem dX10_isQuietWithout_59 : decode cX10_isQuietWithout 59 = .ok (.getfield 88, 3) := by decide +kernel
theorem dX10_isQuietWithout_62 : decode cX10_isQuietWithout 62 = .ok (.invokevirtual 374, 3) := by decide +kernel
theorem dX10_isQuietWithout_65 : decode cX10_isQuietWithout 65 = .ok (.aload_n 0, 1) := by decide +kernel
theorem dX10_isQuietWithout_66 : decode cX10_isQuietWithout 66 = .ok (.getfield 88, 3) := by decide +kernel
theorem dX10_isQuietWithout_69 : decode cX10_isQuietWithout 69 = .ok (.getfield 243, 3) := by decide +kernel
theorem dX10_isQuietWithout_72 : decode cX10_isQuietWithout 72 = .ok (.iconst (-1), 1) := by decide +kernel
theorem dX10_isQuietWithout_73 : decode cX10_isQuietWithout 73 = .ok (.if_icmp .eq 5, 3) := by decide +kernel
theorem dX10_isQuietWithout_76 : decode cX10_isQuietWithout 76 = .ok (.iconst 0, 1) := by decide +kernel
theorem dX10_isQuietWithout_77 : decode cX10_isQuietWithout 77 = .ok (.ireturn, 1) := by decide +kernel
theorem dX10_isQuietWithout_78 : decode cX10_isQuietWithout 78 = .ok (.iinc 2 1, 3) := by decide +kernel
theorem dX10_isQuietWithout_81 : decode cX10_isQuietWithout 81 = .ok (.goto (-64), 3) := by decide +kernel
theorem dX10_isQuietWithout_84 : decode cX10_isQuietWithout 84 = .ok (.iconst 1, 1) := by decide +kernel
theorem dX10_isQuietWithout_85 : decode cX10_isQuietWithout 85 = .ok (.ireturn, 1) := by decide +kernel
theorem dX10_hearAllChoices_0 : decode cX10_hearAllChoices 0 = .ok (.iconst 0, 1) := by decide +kernel
theorem dX10_hearAllChoices_1 : decode cX10_hearAllChoices 1 = .ok (.istore_n 3, 1) := by decide +kernel
theorem dX10_hearAllChoices_2 : decode cX10_hearAllChoices 2 = .ok (.iload_n 3, 1) := by decide +kernel
theorem dX10_hearAllChoices_3 : decode cX10_hearAllChoices 3 = .ok (.bipush 8, 2) := by decide +kernel
theorem dX10_hearAllChoices_5 : decode cX10_hearAllChoices 5 = .ok (.if_icmp .gt 121, 3) := by decide +kernel
theorem dX10_hearAllChoices_8 : decode cX10_hearAllChoices 8 = .ok (.aload_n 0, 1) := by decide +kernel
theorem dX10_hearAllChoices_9 : decode cX10_hearAllChoices 9 = .ok (.getfield 31, 3) := by decide +kernel
theorem dX10_hearAllChoices_12 : decode cX10_hearAllChoices 12 = .ok (.iload_n 3, 1) := by decide +kernel
theorem dX10_hearAllChoices_13 : decode cX10_hearAllChoices 13 = .ok (.iconst 0, 1) := by decide +kernel
theorem dX10_hearAllChoices_14 : decode cX10_hearAllChoices 14 = .ok (.iastore, 1) := by decide +kernel
theorem dX10_hearAllChoices_15 : decode cX10_hearAllChoices 15 = .ok (.iconst 0, 1) := by decide +kernel
theorem dX10_hearAllChoices_16 : decode cX10_hearAllChoices 16 = .ok (.istore 4, 2) := by decide +kernel
theorem dX10_hearAllChoices_18 : decode cX10_hearAllChoices 18 = .ok (.iload 4, 2) := by decide +kernel
theorem dX10_hearAllChoices_20 : decode cX10_hearAllChoices 20 = .ok (.bipush 8, 2) := by decide +kernel
theorem dX10_hearAllChoices_22 : decode cX10_hearAllChoices 22 = .ok (.if_icmp .gt 98, 3) := by decide +kernel
theorem dX10_hearAllChoices_25 : decode cX10_hearAllChoices 25 = .ok (.iload_n 2, 1) := by decide +kernel
theorem dX10_hearAllChoices_26 : decode cX10_hearAllChoices 26 = .ok (.iload_n 3, 1) := by decide +kernel
theorem dX10_hearAllChoices_27 : decode cX10_hearAllChoices 27 = .ok (.ishr, 1) := by decide +kernel
theorem dX10_hearAllChoices_28 : decode cX10_hearAllChoices 28 = .ok (.iload_n 2, 1) := by decide +kernel
theorem dX10_hearAllChoices_29 : decode cX10_hearAllChoices 29 = .ok (.iload 4, 2) := by decide +kernel
theorem dX10_hearAllChoices_31 : decode cX10_hearAllChoices 31 = .ok (.ishr, 1) := by decide +kernel
theorem dX10_hearAllChoices_32 : decode cX10_hearAllChoices 32 = .ok (.iand, 1) := by decide +kernel
theorem dX10_hearAllChoices_33 : decode cX10_hearAllChoices 33 = .ok (.iconst 1, 1) := by decide +kernel
theorem dX10_hearAllChoices_34 : decode cX10_hearAllChoices 34 = .ok (.iand, 1) := by decide +kernel
theorem dX10_hearAllChoices_35 : decode cX10_hearAllChoices 35 = .ok (.ifCond .ne 6, 3) := by decide +kernel
theorem dX10_hearAllChoices_38 : decode cX10_hearAllChoices 38 = .ok (.goto 76, 3) := by decide +kernel
theorem dX10_hearAllChoices_41 : decode cX10_hearAllChoices 41 = .ok (.aload_n 0, 1) := by decide +kernel
theorem dX10_hearAllChoices_42 : decode cX10_hearAllChoices 42 = .ok (.getfield 88, 3) := by decide +kernel
theorem dX10_hearAllChoices_45 : decode cX10_hearAllChoices 45 = .ok (.invokevirtual 200, 3) := by decide +kernel
theorem dX10_hearAllChoices_48 : decode cX10_hearAllChoices 48 = .ok (.aload_n 0, 1) := by decide +kernel
theorem dX10_hearAllChoices_49 : decode cX10_hearAllChoices 49 = .ok (.getfield 88, 3) := by decide +kernel
theorem dX10_hearAllChoices_52 : decode cX10_hearAllChoices 52 = .ok (.iconst 1, 1) := by decide +kernel
theorem dX10_hearAllChoices_53 : decode cX10_hearAllChoices 53 = .ok (.iload_n 3, 1) := by decide +kernel
theorem dX10_hearAllChoices_54 : decode cX10_hearAllChoices 54 = .ok (.ishl, 1) := by decide +kernel
theorem dX10_hearAllChoices_55 : decode cX10_hearAllChoices 55 = .ok (.iconst 1, 1) := by decide +kernel
theorem dX10_hearAllChoices_56 : decode cX10_hearAllChoices 56 = .ok (.ishr, 1) := by decide +kernel
theorem dX10_hearAllChoices_57 : decode cX10_hearAllChoices 57 = .ok (.invokevirtual 435, 3) := by decide +kernel
theorem dX10_hearAllChoices_60 : decode cX10_hearAllChoices 60 = .ok (.aload_n 0, 1) := by decide +kernel
theorem dX10_hearAllChoices_61 : decode cX10_hearAllChoices 61 = .ok (.getfield 88, 3) := by decide +kernel
theorem dX10_hearAllChoices_64 : decode cX10_hearAllChoices 64 = .ok (.iload_n 1, 1) := by decide +kernel
theorem dX10_hearAllChoices_65 : decode cX10_hearAllChoices 65 = .ok (.invokevirtual 203, 3) := by decide +kernel
theorem dX10_hearAllChoices_68 : decode cX10_hearAllChoices 68 = .ok (.aload_n 0, 1) := by decide +kernel
theorem dX10_hearAllChoices_69 : decode cX10_hearAllChoices 69 = .ok (.getfield 88, 3) := by decide +kernel
theorem dX10_hearAllChoices_72 : decode cX10_hearAllChoices 72 = .ok (.iload 4, 2) := by decide +kernel
theorem dX10_hearAllChoices_74 : decode cX10_hearAllChoices 74 = .ok (.iconst 1, 1) := by decide +kernel
theorem dX10_hearAllChoices_75 : decode cX10_hearAllChoices 75 = .ok (.isub, 1) := by decide +kernel
theorem dX10_hearAllChoices_76 : decode cX10_hearAllChoices 76 = .ok (.putfield 438, 3) := by decide +kernel
theorem dX10_hearAllChoices_79 : decode cX10_hearAllChoices 79 = .ok (.aload_n 0, 1) := by decide +kernel
theorem dX10_hearAllChoices_80 : decode cX10_hearAllChoices 80 = .ok (.getfield 88, 3) := by decide +kernel
theorem dX10_hearAllChoices_83 : decode cX10_hearAllChoices 83 = .ok (.invokevirtual 374, 3) := by decide +kernel
theorem dX10_hearAllChoices_86 : decode cX10_hearAllChoices 86 = .ok (.aload_n 0, 1) := by decide +kernel
theorem dX10_hearAllChoices_87 : decode cX10_hearAllChoices 87 = .ok (.getfield 31, 3) := by decide +kernel
theorem dX10_hearAllChoices_90 : decode cX10_hearAllChoices 90 = .ok (.iload_n 3, 1) := by decide +kernel
theorem dX10_hearAllChoices_91 : decode cX10_hearAllChoices 91 = .ok (.dup2, 1) := by decide +kernel
theorem dX10_hearAllChoices_92 : decode cX10_hearAllChoices 92 = .ok (.iaload, 1) := by decide +kernel
theorem dX10_hearAllChoices_93 : decode cX10_hearAllChoices 93 = .ok (.aload_n 0, 1) := by decide +kernel
theorem dX10_hearAllChoices_94 : decode cX10_hearAllChoices 94 = .ok (.getfield 88, 3) := by decide +kernel
theorem dX10_hearAllChoices_97 : decode cX10_hearAllChoices 97 = .ok (.getfield 243, 3) := by decide +kernel
theorem dX10_hearAllChoices_100 : decode cX10_hearAllChoices 100 = .ok (.iconst (-1), 1) := by decide +kernel
theorem dX10_hearAllChoices_101 : decode cX10_hearAllChoices 101 = .ok (.if_icmp .eq 10, 3) := by decide +kernel
theorem dX10_hearAllChoices_104 : decode cX10_hearAllChoices 104 = .ok (.iconst 1, 1) := by decide +kernel
theorem dX10_hearAllChoices_105 : decode cX10_hearAllChoices 105 = .ok (.iload 4, 2) := by decide +kernel
theorem dX10_hearAllChoices_107 : decode cX10_hearAllChoices 107 = .ok (.ishl, 1) := by decide +kernel
theorem dX10_hearAllChoices_108 : decode cX10_hearAllChoices 108 = .ok (.goto 4, 3) := by decide +kernel
theorem dX10_hearAllChoices_111 : decode cX10_hearAllChoices 111 = .ok (.iconst 0, 1) := by decide +kernel
theorem dX10_hearAllChoices_112 : decode cX10_hearAllChoices 112 = .ok (.ior, 1) := by decide +kernel
theorem dX10_hearAllChoices_113 : decode cX10_hearAllChoices 113 = .ok (.iastore, 1) := by decide +kernel
theorem dX10_hearAllChoices_114 : decode cX10_hearAllChoices 114 = .ok (.iinc 4 1, 3) := by decide +kernel
theorem dX10_hearAllChoices_117 : decode cX10_hearAllChoices 117 = .ok (.goto (-99), 3) := by decide +kernel
theorem dX10_hearAllChoices_120 : decode cX10_hearAllChoices 120 = .ok (.iinc 3 1, 3) := by decide +kernel
theorem dX10_hearAllChoices_123 : decode cX10_hearAllChoices 123 = .ok (.goto (-121), 3) := by decide +kernel
theorem dX10_hearAllChoices_126 : decode cX10_hearAllChoices 126 = .ok (.return_, 1) := by decide +kernel
theorem dX10_screamsOfTrials_0 : decode cX10_screamsOfTrials 0 = .ok (.aload_n 0, 1) := by decide +kernel
theorem dX10_screamsOfTrials_1 : decode cX10_screamsOfTrials 1 = .ok (.getfield 88, 3) := by decide +kernel
theorem dX10_screamsOfTrials_4 : decode cX10_screamsOfTrials 4 = .ok (.invokevirtual 200, 3) := by decide +kernel
theorem dX10_screamsOfTrials_7 : decode cX10_screamsOfTrials 7 = .ok (.aload_n 0, 1) := by decide +kernel
theorem dX10_screamsOfTrials_8 : decode cX10_screamsOfTrials 8 = .ok (.getfield 88, 3) := by decide +kernel
theorem dX10_screamsOfTrials_11 : decode cX10_screamsOfTrials 11 = .ok (.iload_n 2, 1) := by decide +kernel
theorem dX10_screamsOfTrials_12 : decode cX10_screamsOfTrials 12 = .ok (.putfield 227, 3) := by decide +kernel
theorem dX10_screamsOfTrials_15 : decode cX10_screamsOfTrials 15 = .ok (.iconst 0, 1) := by decide +kernel
theorem dX10_screamsOfTrials_16 : decode cX10_screamsOfTrials 16 = .ok (.istore_n 3, 1) := by decide +kernel
theorem dX10_screamsOfTrials_17 : decode cX10_screamsOfTrials 17 = .ok (.iconst 0, 1) := by decide +kernel
theorem dX10_screamsOfTrials_18 : decode cX10_screamsOfTrials 18 = .ok (.istore 4, 2) := by decide +kernel
theorem dX10_screamsOfTrials_20 : decode cX10_screamsOfTrials 20 = .ok (.iload 4, 2) := by decide +kernel
theorem dX10_screamsOfTrials_22 : decode cX10_screamsOfTrials 22 = .ok (.iload_n 1, 1) := by decide +kernel
theorem dX10_screamsOfTrials_23 : decode cX10_screamsOfTrials 23 = .ok (.if_icmp .ge 77, 3) := by decide +kernel
theorem dX10_screamsOfTrials_26 : decode cX10_screamsOfTrials 26 = .ok (.iconst 0, 1) := by decide +kernel
theorem dX10_screamsOfTrials_27 : decode cX10_screamsOfTrials 27 = .ok (.istore 5, 2) := by decide +kernel
theorem dX10_screamsOfTrials_29 : decode cX10_screamsOfTrials 29 = .ok (.iload 5, 2) := by decide +kernel
theorem dX10_screamsOfTrials_31 : decode cX10_screamsOfTrials 31 = .ok (.aload_n 0, 1) := by decide +kernel
theorem dX10_screamsOfTrials_32 : decode cX10_screamsOfTrials 32 = .ok (.getfield 48, 3) := by decide +kernel
theorem dX10_screamsOfTrials_35 : decode cX10_screamsOfTrials 35 = .ok (.getfield 322, 3) := by decide +kernel
theorem dX10_screamsOfTrials_38 : decode cX10_screamsOfTrials 38 = .ok (.if_icmp .ge 56, 3) := by decide +kernel
theorem dX10_screamsOfTrials_41 : decode cX10_screamsOfTrials 41 = .ok (.aload_n 0, 1) := by decide +kernel
theorem dX10_screamsOfTrials_42 : decode cX10_screamsOfTrials 42 = .ok (.getfield 48, 3) := by decide +kernel
theorem dX10_screamsOfTrials_45 : decode cX10_screamsOfTrials 45 = .ok (.iload 5, 2) := by decide +kernel
theorem dX10_screamsOfTrials_47 : decode cX10_screamsOfTrials 47 = .ok (.invokevirtual 325, 3) := by decide +kernel
theorem dX10_screamsOfTrials_50 : decode cX10_screamsOfTrials 50 = .ok (.ifCond .eq 38, 3) := by decide +kernel
theorem dX10_screamsOfTrials_53 : decode cX10_screamsOfTrials 53 = .ok (.aload_n 0, 1) := by decide +kernel
theorem dX10_screamsOfTrials_54 : decode cX10_screamsOfTrials 54 = .ok (.getfield 88, 3) := by decide +kernel
theorem dX10_screamsOfTrials_57 : decode cX10_screamsOfTrials 57 = .ok (.iload 5, 2) := by decide +kernel
theorem dX10_screamsOfTrials_59 : decode cX10_screamsOfTrials 59 = .ok (.invokevirtual 203, 3) := by decide +kernel
theorem dX10_screamsOfTrials_62 : decode cX10_screamsOfTrials 62 = .ok (.aload_n 0, 1) := by decide +kernel
theorem dX10_screamsOfTrials_63 : decode cX10_screamsOfTrials 63 = .ok (.getfield 88, 3) := by decide +kernel
theorem dX10_screamsOfTrials_66 : decode cX10_screamsOfTrials 66 = .ok (.invokevirtual 228, 3) := by decide +kernel
theorem dX10_screamsOfTrials_69 : decode cX10_screamsOfTrials 69 = .ok (.iload_n 3, 1) := by decide +kernel
theorem dX10_screamsOfTrials_70 : decode cX10_screamsOfTrials 70 = .ok (.aload_n 0, 1) := by decide +kernel
theorem dX10_screamsOfTrials_71 : decode cX10_screamsOfTrials 71 = .ok (.getfield 88, 3) := by decide +kernel
theorem dX10_screamsOfTrials_74 : decode cX10_screamsOfTrials 74 = .ok (.getfield 243, 3) := by decide +kernel
theorem dX10_screamsOfTrials_77 : decode cX10_screamsOfTrials 77 = .ok (.iconst (-1), 1) := by decide +kernel
theorem dX10_screamsOfTrials_78 : decode cX10_screamsOfTrials 78 = .ok (.if_icmp .eq 7, 3) := by decide +kernel
theorem dX10_screamsOfTrials_81 : decode cX10_screamsOfTrials 81 = .ok (.iconst 1, 1) := by decide +kernel
theorem dX10_screamsOfTrials_82 : decode cX10_screamsOfTrials 82 = .ok (.goto 4, 3) := by decide +kernel
theorem dX10_screamsOfTrials_85 : decode cX10_screamsOfTrials 85 = .ok (.iconst 0, 1) := by decide +kernel
theorem dX10_screamsOfTrials_86 : decode cX10_screamsOfTrials 86 = .ok (.iadd, 1) := by decide +kernel
theorem dX10_screamsOfTrials_87 : decode cX10_screamsOfTrials 87 = .ok (.istore_n 3, 1) := by decide +kernel
theorem dX10_screamsOfTrials_88 : decode cX10_screamsOfTrials 88 = .ok (.iinc 5 1, 3) := by decide +kernel
theorem dX10_screamsOfTrials_91 : decode cX10_screamsOfTrials 91 = .ok (.goto (-62), 3) := by decide +kernel
theorem dX10_screamsOfTrials_94 : decode cX10_screamsOfTrials 94 = .ok (.iinc 4 1, 3) := by decide +kernel
theorem dX10_screamsOfTrials_97 : decode cX10_screamsOfTrials 97 = .ok (.goto (-77), 3) := by decide +kernel
theorem dX10_screamsOfTrials_100 : decode cX10_screamsOfTrials 100 = .ok (.iload_n 3, 1) := by decide +kernel
theorem dX10_screamsOfTrials_101 : decode cX10_screamsOfTrials 101 = .ok (.ireturn, 1) := by decide +kernel
