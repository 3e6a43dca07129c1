theorem dX11_thrown_0 : decode cX11_thrown 0 = .ok (.aload_n 0, 1) := by decide +kernel
theorem dX11_thrown_1 : decode cX11_thrown 1 = .ok (.getfield 3, 3) := by decide +kernel
theorem dX11_thrown_4 : decode cX11_thrown 4 = .ok (.ireturn, 1) := by decide +kernel
theorem dX11_throwsIf_0 : decode cX11_throwsIf 0 = .ok (.iload_n 1, 1) := by decide +kernel
theorem dX11_throwsIf_1 : decode cX11_throwsIf 1 = .ok (.ifCond .eq 8, 3) := by decide +kernel
theorem dX11_throwsIf_4 : decode cX11_throwsIf 4 = .ok (.aload_n 0, 1) := by decide +kernel
theorem dX11_throwsIf_5 : decode cX11_throwsIf 5 = .ok (.iload_n 2, 1) := by decide +kernel
theorem dX11_throwsIf_6 : decode cX11_throwsIf 6 = .ok (.putfield 3, 3) := by decide +kernel
theorem dX11_throwsIf_9 : decode cX11_throwsIf 9 = .ok (.iload_n 1, 1) := by decide +kernel
theorem dX11_throwsIf_10 : decode cX11_throwsIf 10 = .ok (.ireturn, 1) := by decide +kernel
theorem dX11_in_0 : decode cX11_in 0 = .ok (.iload_n 0, 1) := by decide +kernel
theorem dX11_in_1 : decode cX11_in 1 = .ok (.iload_n 1, 1) := by decide +kernel
theorem dX11_in_2 : decode cX11_in 2 = .ok (.if_icmp .lt 12, 3) := by decide +kernel
theorem dX11_in_5 : decode cX11_in 5 = .ok (.iload_n 0, 1) := by decide +kernel
theorem dX11_in_6 : decode cX11_in 6 = .ok (.iload_n 2, 1) := by decide +kernel
theorem dX11_in_7 : decode cX11_in 7 = .ok (.if_icmp .gt 7, 3) := by decide +kernel
theorem dX11_in_10 : decode cX11_in 10 = .ok (.iconst 1, 1) := by decide +kernel
theorem dX11_in_11 : decode cX11_in 11 = .ok (.goto 4, 3) := by decide +kernel
theorem dX11_in_14 : decode cX11_in 14 = .ok (.iconst 0, 1) := by decide +kernel
theorem dX11_in_15 : decode cX11_in 15 = .ok (.ireturn, 1) := by decide +kernel
theorem dX11_has_0 : decode cX11_has 0 = .ok (.iload_n 0, 1) := by decide +kernel
theorem dX11_has_1 : decode cX11_has 1 = .ok (.iload_n 1, 1) := by decide +kernel
theorem dX11_has_2 : decode cX11_has 2 = .ok (.ishr, 1) := by decide +kernel
theorem dX11_has_3 : decode cX11_has 3 = .ok (.iconst 1, 1) := by decide +kernel
theorem dX11_has_4 : decode cX11_has 4 = .ok (.iand, 1) := by decide +kernel
theorem dX11_has_5 : decode cX11_has 5 = .ok (.iconst 1, 1) := by decide +kernel
theorem dX11_has_6 : decode cX11_has 6 = .ok (.if_icmp .ne 7, 3) := by decide +kernel
theorem dX11_has_9 : decode cX11_has 9 = .ok (.iconst 1, 1) := by decide +kernel
theorem dX11_has_10 : decode cX11_has 10 = .ok (.goto 4, 3) := by decide +kernel
theorem dX11_has_13 : decode cX11_has 13 = .ok (.iconst 0, 1) := by decide +kernel
theorem dX11_has_14 : decode cX11_has 14 = .ok (.ireturn, 1) := by decide +kernel
theorem dX11_init_0 : decode cX11_init 0 = .ok (.aload_n 0, 1) := by decide +kernel
theorem dX11_init_1 : decode cX11_init 1 = .ok (.invokespecial 7, 3) := by decide +kernel
theorem dX11_init_4 : decode cX11_init 4 = .ok (.aload_n 0, 1) := by decide +kernel
theorem dX11_init_5 : decode cX11_init 5 = .ok (.sipush 2003, 3) := by decide +kernel
theorem dX11_init_8 : decode cX11_init 8 = .ok (.newarray .int, 2) := by decide +kernel
theorem dX11_init_10 : decode cX11_init 10 = .ok (.putfield 13, 3) := by decide +kernel
theorem dX11_init_13 : decode cX11_init 13 = .ok (.aload_n 0, 1) := by decide +kernel
theorem dX11_init_14 : decode cX11_init 14 = .ok (.sipush 1154, 3) := by decide +kernel
theorem dX11_init_17 : decode cX11_init 17 = .ok (.newarray .int, 2) := by decide +kernel
theorem dX11_init_19 : decode cX11_init 19 = .ok (.putfield 17, 3) := by decide +kernel
theorem dX11_init_22 : decode cX11_init 22 = .ok (.aload_n 0, 1) := by decide +kernel
theorem dX11_init_23 : decode cX11_init 23 = .ok (.sipush 1154, 3) := by decide +kernel
theorem dX11_init_26 : decode cX11_init 26 = .ok (.newarray .int, 2) := by decide +kernel
theorem dX11_init_28 : decode cX11_init 28 = .ok (.putfield 20, 3) := by decide +kernel
theorem dX11_init_31 : decode cX11_init 31 = .ok (.aload_n 0, 1) := by decide +kernel
theorem dX11_init_32 : decode cX11_init 32 = .ok (.sipush 305, 3) := by decide +kernel
theorem dX11_init_35 : decode cX11_init 35 = .ok (.newarray .int, 2) := by decide +kernel
theorem dX11_init_37 : decode cX11_init 37 = .ok (.putfield 23, 3) := by decide +kernel
theorem dX11_init_40 : decode cX11_init 40 = .ok (.aload_n 0, 1) := by decide +kernel
theorem dX11_init_41 : decode cX11_init 41 = .ok (.sipush 3660, 3) := by decide +kernel
theorem dX11_init_44 : decode cX11_init 44 = .ok (.newarray .int, 2) := by decide +kernel
theorem dX11_init_46 : decode cX11_init 46 = .ok (.putfield 26, 3) := by decide +kernel
theorem dX11_init_49 : decode cX11_init 49 = .ok (.aload_n 0, 1) := by decide +kernel
theorem dX11_init_50 : decode cX11_init 50 = .ok (.sipush 400, 3) := by decide +kernel
theorem dX11_init_53 : decode cX11_init 53 = .ok (.newarray .byte, 2) := by decide +kernel
theorem dX11_init_55 : decode cX11_init 55 = .ok (.putfield 29, 3) := by decide +kernel
theorem dX11_init_58 : decode cX11_init 58 = .ok (.aload_n 0, 1) := by decide +kernel
theorem dX11_init_59 : decode cX11_init 59 = .ok (.iconst (-1), 1) := by decide +kernel
theorem dX11_init_60 : decode cX11_init 60 = .ok (.putfield 33, 3) := by decide +kernel
theorem dX11_init_63 : decode cX11_init 63 = .ok (.aload_n 0, 1) := by decide +kernel
theorem dX11_init_64 : decode cX11_init 64 = .ok (.iconst 5, 1) := by decide +kernel
theorem dX11_init_65 : decode cX11_init 65 = .ok (.newarray .int, 2) := by decide +kernel
theorem dX11_init_67 : decode cX11_init 67 = .ok (.putfield 36, 3) := by decide +kernel
theorem dX11_init_70 : decode cX11_init 70 = .ok (.aload_n 0, 1) := by decide +kernel
theorem dX11_init_71 : decode cX11_init 71 = .ok (.sipush 400, 3) := by decide +kernel
theorem dX11_init_74 : decode cX11_init 74 = .ok (.newarray .int, 2) := by decide +kernel
theorem dX11_init_76 : decode cX11_init 76 = .ok (.putfield 39, 3) := by decide +kernel
theorem dX11_init_79 : decode cX11_init 79 = .ok (.aload_n 0, 1) := by decide +kernel
theorem dX11_init_80 : decode cX11_init 80 = .ok (.bipush 10, 2) := by decide +kernel
theorem dX11_init_82 : decode cX11_init 82 = .ok (.newarray .int, 2) := by decide +kernel
theorem dX11_init_84 : decode cX11_init 84 = .ok (.putfield 42, 3) := by decide +kernel
theorem dX11_init_87 : decode cX11_init 87 = .ok (.aload_n 0, 1) := by decide +kernel
theorem dX11_init_88 : decode cX11_init 88 = .ok (.bipush 10, 2) := by decide +kernel
theorem dX11_init_90 : decode cX11_init 90 = .ok (.newarray .int, 2) := by decide +kernel
theorem dX11_init_92 : decode cX11_init 92 = .ok (.putfield 45, 3) := by decide +kernel
theorem dX11_init_95 : decode cX11_init 95 = .ok (.aload_n 0, 1) := by decide +kernel
theorem dX11_init_96 : decode cX11_init 96 = .ok (.bipush 8, 2) := by decide +kernel
theorem dX11_init_98 : decode cX11_init 98 = .ok (.newarray .int, 2) := by decide +kernel
theorem dX11_init_100 : decode cX11_init 100 = .ok (.putfield 48, 3) := by decide +kernel
theorem dX11_init_103 : decode cX11_init 103 = .ok (.aload_n 0, 1) := by decide +kernel
theorem dX11_init_104 : decode cX11_init 104 = .ok (.bipush 61, 2) := by decide +kernel
theorem dX11_init_106 : decode cX11_init 106 = .ok (.newarray .int, 2) := by decide +kernel
theorem dX11_init_108 : decode cX11_init 108 = .ok (.putfield 51, 3) := by decide +kernel
theorem dX11_init_111 : decode cX11_init 111 = .ok (.aload_n 0, 1) := by decide +kernel
theorem dX11_init_112 : decode cX11_init 112 = .ok (.bipush 61, 2) := by decide +kernel
theorem dX11_init_114 : decode cX11_init 114 = .ok (.newarray .int, 2) := by decide +kernel
theorem dX11_init_116 : decode cX11_init 116 = .ok (.putfield 54, 3) := by decide +kernel
theorem dX11_init_119 : decode cX11_init 119 = .ok (.aload_n 0, 1) := by decide +kernel
theorem dX11_init_120 : decode cX11_init 120 = .ok (.bipush 10, 2) := by decide +kernel
theorem dX11_init_122 : decode cX11_init 122 = .ok (.newarray .int, 2) := by decide +kernel
theorem dX11_init_124 : decode cX11_init 124 = .ok (.putfield 57, 3) := by decide +kernel
theorem dX11_init_127 : decode cX11_init 127 = .ok (.aload_n 0, 1) := by decide +kernel
theorem dX11_init_128 : decode cX11_init 128 = .ok (.sipush 640, 3) := by decide +kernel
theorem dX11_init_131 : decode cX11_init 131 = .ok (.newarray .int, 2) := by decide +kernel
theorem dX11_init_133 : decode cX11_init 133 = .ok (.putfield 60, 3) := by decide +kernel
theorem dX11_init_136 : decode cX11_init 136 = .ok (.aload_n 0, 1) := by decide +kernel
theorem dX11_init_137 : decode cX11_init 137 = .ok (.getfield 13, 3) := by decide +kernel
theorem dX11_init_140 : decode cX11_init 140 = .ok (.iconst 5, 1) := by decide +kernel
theorem dX11_init_141 : decode cX11_init 141 = .ok (.iconst 2, 1) := by decide +kernel
theorem dX11_init_142 : decode cX11_init 142 = .ok (.iastore, 1) := by decide +kernel
theorem dX11_init_143 : decode cX11_init 143 = .ok (.aload_n 0, 1) := by decide +kernel
theorem dX11_init_144 : decode cX11_init 144 = .ok (.getfield 13, 3) := by decide +kernel
theorem dX11_init_147 : decode cX11_init 147 = .ok (.bipush 6, 2) := by decide +kernel
theorem dX11_init_149 : decode cX11_init 149 = .ok (.bipush 10, 2) := by decide +kernel
theorem dX11_init_151 : decode cX11_init 151 = .ok (.iastore, 1) := by decide +kernel
theorem dX11_init_152 : decode cX11_init 152 = .ok (.aload_n 0, 1) := by decide +kernel
theorem dX11_init_153 : decode cX11_init 153 = .ok (.getfield 13, 3) := by decide +kernel
theorem dX11_init_156 : decode cX11_init 156 = .ok (.bipush 8, 2) := by decide +kernel
theorem dX11_init_158 : decode cX11_init 158 = .ok (.iconst 1, 1) := by decide +kernel
theorem dX11_init_159 : decode cX11_init 159 = .ok (.iastore, 1) := by decide +kernel
theorem dX11_init_160 : decode cX11_init 160 = .ok (.return_, 1) := by decide +kernel
theorem dX11_image_0 : decode cX11_image 0 = .ok (.aload_n 0, 1) := by decide +kernel
theorem dX11_image_1 : decode cX11_image 1 = .ok (.iconst 0, 1) := by decide +kernel
theorem dX11_image_2 : decode cX11_image 2 = .ok (.putfield 3, 3) := by decide +kernel
theorem dX11_image_5 : decode cX11_image 5 = .ok (.iconst 0, 1) := by decide +kernel
theorem dX11_image_6 : decode cX11_image 6 = .ok (.istore_n 1, 1) := by decide +kernel
theorem dX11_image_7 : decode cX11_image 7 = .ok (.iload_n 1, 1) := by decide +kernel
theorem dX11_image_8 : decode cX11_image 8 = .ok (.sipush 1154, 3) := by decide +kernel
theorem dX11_image_11 : decode cX11_image 11 = .ok (.if_icmp .ge 21, 3) := by decide +kernel
theorem dX11_image_14 : decode cX11_image 14 = .ok (.aload_n 0, 1) := by decide +kernel
theorem dX11_image_15 : decode cX11_image 15 = .ok (.getfield 17, 3) := by decide +kernel
theorem dX11_image_18 : decode cX11_image 18 = .ok (.iload_n 1, 1) := by decide +kernel
theorem dX11_image_19 : decode cX11_image 19 = .ok (.aload_n 0, 1) := by decide +kernel
theorem dX11_image_20 : decode cX11_image 20 = .ok (.getfield 13, 3) := by decide +kernel
theorem dX11_image_23 : decode cX11_image 23 = .ok (.iload_n 1, 1) := by decide +kernel
theorem dX11_image_24 : decode cX11_image 24 = .ok (.iaload, 1) := by decide +kernel
theorem dX11_image_25 : decode cX11_image 25 = .ok (.iastore, 1) := by decide +kernel
theorem dX11_image_26 : decode cX11_image 26 = .ok (.iinc 1 1, 3) := by decide +kernel
theorem dX11_image_29 : decode cX11_image 29 = .ok (.goto (-22), 3) := by decide +kernel
theorem dX11_image_32 : decode cX11_image 32 = .ok (.aload_n 0, 1) := by decide +kernel
theorem dX11_image_33 : decode cX11_image 33 = .ok (.iconst 1, 1) := by decide +kernel
theorem dX11_image_34 : decode cX11_image 34 = .ok (.putfield 63, 3) := by decide +kernel
theorem dX11_image_37 : decode cX11_image 37 = .ok (.return_, 1) := by decide +kernel
theorem dX11_back_0 : decode cX11_back 0 = .ok (.aload_n 0, 1) := by decide +kernel
theorem dX11_back_1 : decode cX11_back 1 = .ok (.iconst 0, 1) := by decide +kernel
theorem dX11_back_2 : decode cX11_back 2 = .ok (.putfield 3, 3) := by decide +kernel
theorem dX11_back_5 : decode cX11_back 5 = .ok (.aload_n 0, 1) := by decide +kernel
theorem dX11_back_6 : decode cX11_back 6 = .ok (.getfield 63, 3) := by decide +kernel
theorem dX11_back_9 : decode cX11_back 9 = .ok (.ifCond .ne 5, 3) := by decide +kernel
theorem dX11_back_12 : decode cX11_back 12 = .ok (.iconst 0, 1) := by decide +kernel
theorem dX11_back_13 : decode cX11_back 13 = .ok (.ireturn, 1) := by decide +kernel
theorem dX11_back_14 : decode cX11_back 14 = .ok (.iconst 0, 1) := by decide +kernel
theorem dX11_back_15 : decode cX11_back 15 = .ok (.istore_n 1, 1) := by decide +kernel
theorem dX11_back_16 : decode cX11_back 16 = .ok (.iload_n 1, 1) := by decide +kernel
theorem dX11_back_17 : decode cX11_back 17 = .ok (.sipush 1154, 3) := by decide +kernel
theorem dX11_back_20 : decode cX11_back 20 = .ok (.if_icmp .ge 21, 3) := by decide +kernel
theorem dX11_back_23 : decode cX11_back 23 = .ok (.aload_n 0, 1) := by decide +kernel
theorem dX11_back_24 : decode cX11_back 24 = .ok (.getfield 13, 3) := by decide +kernel
theorem dX11_back_27 : decode cX11_back 27 = .ok (.iload_n 1, 1) := by decide +kernel
theorem dX11_back_28 : decode cX11_back 28 = .ok (.aload_n 0, 1) := by decide +kernel
theorem dX11_back_29 : decode cX11_back 29 = .ok (.getfield 17, 3) := by decide +kernel
theorem dX11_back_32 : decode cX11_back 32 = .ok (.iload_n 1, 1) := by decide +kernel
theorem dX11_back_33 : decode cX11_back 33 = .ok (.iaload, 1) := by decide +kernel
theorem dX11_back_34 : decode cX11_back 34 = .ok (.iastore, 1) := by decide +kernel
theorem dX11_back_35 : decode cX11_back 35 = .ok (.iinc 1 1, 3) := by decide +kernel
theorem dX11_back_38 : decode cX11_back 38 = .ok (.goto (-22), 3) := by decide +kernel
theorem dX11_back_41 : decode cX11_back 41 = .ok (.aload_n 0, 1) := by decide +kernel
theorem dX11_back_42 : decode cX11_back 42 = .ok (.iconst 0, 1) := by decide +kernel
theorem dX11_back_43 : decode cX11_back 43 = .ok (.putfield 67, 3) := by decide +kernel
theorem dX11_back_46 : decode cX11_back 46 = .ok (.iconst 1, 1) := by decide +kernel
theorem dX11_back_47 : decode cX11_back 47 = .ok (.ireturn, 1) := by decide +kernel
theorem dX11_remembers_0 : decode cX11_remembers 0 = .ok (.aload_n 0, 1) := by decide +kernel
theorem dX11_remembers_1 : decode cX11_remembers 1 = .ok (.getfield 67, 3) := by decide +kernel
theorem dX11_remembers_4 : decode cX11_remembers 4 = .ok (.bipush 12, 2) := by decide +kernel
theorem dX11_remembers_6 : decode cX11_remembers 6 = .ok (.if_icmp .ne 37, 3) := by decide +kernel
theorem dX11_remembers_9 : decode cX11_remembers 9 = .ok (.iconst 0, 1) := by decide +kernel
theorem dX11_remembers_10 : decode cX11_remembers 10 = .ok (.istore_n 1, 1) := by decide +kernel
theorem dX11_remembers_11 : decode cX11_remembers 11 = .ok (.iload_n 1, 1) := by decide +kernel
theorem dX11_remembers_12 : decode cX11_remembers 12 = .ok (.sipush 3355, 3) := by decide +kernel
theorem dX11_remembers_15 : decode cX11_remembers 15 = .ok (.if_icmp .ge 25, 3) := by decide +kernel
theorem dX11_remembers_18 : decode cX11_remembers 18 = .ok (.aload_n 0, 1) := by decide +kernel
theorem dX11_remembers_19 : decode cX11_remembers 19 = .ok (.getfield 26, 3) := by decide +kernel
theorem dX11_remembers_22 : decode cX11_remembers 22 = .ok (.iload_n 1, 1) := by decide +kernel
theorem dX11_remembers_23 : decode cX11_remembers 23 = .ok (.aload_n 0, 1) := by decide +kernel
theorem dX11_remembers_24 : decode cX11_remembers 24 = .ok (.getfield 26, 3) := by decide +kernel
theorem dX11_remembers_27 : decode cX11_remembers 27 = .ok (.iload_n 1, 1) := by decide +kernel
theorem dX11_remembers_28 : decode cX11_remembers 28 = .ok (.sipush 305, 3) := by decide +kernel
theorem dX11_remembers_31 : decode cX11_remembers 31 = .ok (.iadd, 1) := by decide +kernel
theorem dX11_remembers_32 : decode cX11_remembers 32 = .ok (.iaload, 1) := by decide +kernel
theorem dX11_remembers_33 : decode cX11_remembers 33 = .ok (.iastore, 1) := by decide +kernel
theorem dX11_remembers_34 : decode cX11_remembers 34 = .ok (.iinc 1 1, 3) := by decide +kernel
theorem dX11_remembers_37 : decode cX11_remembers 37 = .ok (.goto (-26), 3) := by decide +kernel
theorem dX11_remembers_40 : decode cX11_remembers 40 = .ok (.goto 13, 3) := by decide +kernel
theorem dX11_remembers_43 : decode cX11_remembers 43 = .ok (.aload_n 0, 1) := by decide +kernel
theorem dX11_remembers_44 : decode cX11_remembers 44 = .ok (.dup, 1) := by decide +kernel
theorem dX11_remembers_45 : decode cX11_remembers 45 = .ok (.getfield 67, 3) := by decide +kernel
theorem dX11_remembers_48 : decode cX11_remembers 48 = .ok (.iconst 1, 1) := by decide +kernel
theorem dX11_remembers_49 : decode cX11_remembers 49 = .ok (.iadd, 1) := by decide +kernel
theorem dX11_remembers_50 : decode cX11_remembers 50 = .ok (.putfield 67, 3) := by decide +kernel
theorem dX11_remembers_53 : decode cX11_remembers 53 = .ok (.iconst 0, 1) := by decide +kernel
theorem dX11_remembers_54 : decode cX11_remembers 54 = .ok (.istore_n 1, 1) := by decide +kernel
theorem dX11_remembers_55 : decode cX11_remembers 55 = .ok (.iload_n 1, 1) := by decide +kernel
theorem dX11_remembers_56 : decode cX11_remembers 56 = .ok (.sipush 305, 3) := by decide +kernel
theorem dX11_remembers_59 : decode cX11_remembers 59 = .ok (.if_icmp .ge 32, 3) := by decide +kernel
theorem dX11_remembers_62 : decode cX11_remembers 62 = .ok (.aload_n 0, 1) := by decide +kernel
theorem dX11_remembers_63 : decode cX11_remembers 63 = .ok (.getfield 26, 3) := by decide +kernel
theorem dX11_remembers_66 : decode cX11_remembers 66 = .ok (.sipush 305, 3) := by decide +kernel
theorem dX11_remembers_69 : decode cX11_remembers 69 = .ok (.aload_n 0, 1) := by decide +kernel
theorem dX11_remembers_70 : decode cX11_remembers 70 = .ok (.getfield 67, 3) := by decide +kernel
theorem dX11_remembers_73 : decode cX11_remembers 73 = .ok (.iconst 1, 1) := by decide +kernel
theorem dX11_remembers_74 : decode cX11_remembers 74 = .ok (.isub, 1) := by decide +kernel
theorem dX11_remembers_75 : decode cX11_remembers 75 = .ok (.imul, 1) := by decide +kernel
theorem dX11_remembers_76 : decode cX11_remembers 76 = .ok (.iload_n 1, 1) := by decide +kernel
theorem dX11_remembers_77 : decode cX11_remembers 77 = .ok (.iadd, 1) := by decide +kernel
theorem dX11_remembers_78 : decode cX11_remembers 78 = .ok (.aload_n 0, 1) := by decide +kernel
theorem dX11_remembers_79 : decode cX11_remembers 79 = .ok (.getfield 13, 3) := by decide +kernel
theorem dX11_remembers_82 : decode cX11_remembers 82 = .ok (.iload_n 1, 1) := by decide +kernel
theorem dX11_remembers_83 : decode cX11_remembers 83 = .ok (.iaload, 1) := by decide +kernel
theorem dX11_remembers_84 : decode cX11_remembers 84 = .ok (.iastore, 1) := by decide +kernel
theorem dX11_remembers_85 : decode cX11_remembers 85 = .ok (.iinc 1 1, 3) := by decide +kernel
theorem dX11_remembers_88 : decode cX11_remembers 88 = .ok (.goto (-33), 3) := by decide +kernel
theorem dX11_remembers_91 : decode cX11_remembers 91 = .ok (.return_, 1) := by decide +kernel
theorem dX11_undo_0 : decode cX11_undo 0 = .ok (.aload_n 0, 1) := by decide +kernel
theorem dX11_undo_1 : decode cX11_undo 1 = .ok (.iconst 0, 1) := by decide +kernel
theorem dX11_undo_2 : decode cX11_undo 2 = .ok (.putfield 3, 3) := by decide +kernel
theorem dX11_undo_5 : decode cX11_undo 5 = .ok (.aload_n 0, 1) := by decide +kernel
theorem dX11_undo_6 : decode cX11_undo 6 = .ok (.getfield 67, 3) := by decide +kernel
theorem dX11_undo_9 : decode cX11_undo 9 = .ok (.ifCond .ne 5, 3) := by decide +kernel
theorem dX11_undo_12 : decode cX11_undo 12 = .ok (.iconst 0, 1) := by decide +kernel
theorem dX11_undo_13 : decode cX11_undo 13 = .ok (.ireturn, 1) := by decide +kernel
theorem dX11_undo_14 : decode cX11_undo 14 = .ok (.aload_n 0, 1) := by decide +kernel
theorem dX11_undo_15 : decode cX11_undo 15 = .ok (.dup, 1) := by decide +kernel
theorem dX11_undo_16 : decode cX11_undo 16 = .ok (.getfield 67, 3) := by decide +kernel
theorem dX11_undo_19 : decode cX11_undo 19 = .ok (.iconst 1, 1) := by decide +kernel
theorem dX11_undo_20 : decode cX11_undo 20 = .ok (.isub, 1) := by decide +kernel
theorem dX11_undo_21 : decode cX11_undo 21 = .ok (.putfield 67, 3) := by decide +kernel
theorem dX11_undo_24 : decode cX11_undo 24 = .ok (.iconst 0, 1) := by decide +kernel
theorem dX11_undo_25 : decode cX11_undo 25 = .ok (.istore_n 1, 1) := by decide +kernel
theorem dX11_undo_26 : decode cX11_undo 26 = .ok (.iload_n 1, 1) := by decide +kernel
theorem dX11_undo_27 : decode cX11_undo 27 = .ok (.sipush 305, 3) := by decide +kernel
theorem dX11_undo_30 : decode cX11_undo 30 = .ok (.if_icmp .ge 30, 3) := by decide +kernel
theorem dX11_undo_33 : decode cX11_undo 33 = .ok (.aload_n 0, 1) := by decide +kernel
theorem dX11_undo_34 : decode cX11_undo 34 = .ok (.getfield 13, 3) := by decide +kernel
theorem dX11_undo_37 : decode cX11_undo 37 = .ok (.iload_n 1, 1) := by decide +kernel
theorem dX11_undo_38 : decode cX11_undo 38 = .ok (.aload_n 0, 1) := by decide +kernel
theorem dX11_undo_39 : decode cX11_undo 39 = .ok (.getfield 26, 3) := by decide +kernel
theorem dX11_undo_42 : decode cX11_undo 42 = .ok (.sipush 305, 3) := by decide +kernel
theorem dX11_undo_45 : decode cX11_undo 45 = .ok (.aload_n 0, 1) := by decide +kernel
theorem dX11_undo_46 : decode cX11_undo 46 = .ok (.getfield 67, 3) := by decide +kernel
theorem dX11_undo_49 : decode cX11_undo 49 = .ok (.imul, 1) := by decide +kernel
theorem dX11_undo_50 : decode cX11_undo 50 = .ok (.iload_n 1, 1) := by decide +kernel
theorem dX11_undo_51 : decode cX11_undo 51 = .ok (.iadd, 1) := by decide +kernel
theorem dX11_undo_52 : decode cX11_undo 52 = .ok (.iaload, 1) := by decide +kernel
theorem dX11_undo_53 : decode cX11_undo 53 = .ok (.iastore, 1) := by decide +kernel
theorem dX11_undo_54 : decode cX11_undo 54 = .ok (.iinc 1 1, 3) := by decide +kernel
theorem dX11_undo_57 : decode cX11_undo 57 = .ok (.goto (-31), 3) := by decide +kernel
theorem dX11_undo_60 : decode cX11_undo 60 = .ok (.iconst 1, 1) := by decide +kernel
theorem dX11_undo_61 : decode cX11_undo 61 = .ok (.ireturn, 1) := by decide +kernel
theorem dX11_props_0 : decode cX11_props 0 = .ok (.aload_n 0, 1) := by decide +kernel
theorem dX11_props_1 : decode cX11_props 1 = .ok (.getfield 13, 3) := by decide +kernel
theorem dX11_props_4 : decode cX11_props 4 = .ok (.iconst 0, 1) := by decide +kernel
theorem dX11_props_5 : decode cX11_props 5 = .ok (.iaload, 1) := by decide +kernel
theorem dX11_props_6 : decode cX11_props 6 = .ok (.ireturn, 1) := by decide +kernel
theorem dX11_oneCount_0 : decode cX11_oneCount 0 = .ok (.aload_n 0, 1) := by decide +kernel
theorem dX11_oneCount_1 : decode cX11_oneCount 1 = .ok (.getfield 13, 3) := by decide +kernel
theorem dX11_oneCount_4 : decode cX11_oneCount 4 = .ok (.iconst 1, 1) := by decide +kernel
theorem dX11_oneCount_5 : decode cX11_oneCount 5 = .ok (.iaload, 1) := by decide +kernel
theorem dX11_oneCount_6 : decode cX11_oneCount 6 = .ok (.ireturn, 1) := by decide +kernel
theorem dX11_propAt_0 : decode cX11_propAt 0 = .ok (.bipush 9, 2) := by decide +kernel
theorem dX11_propAt_2 : decode cX11_propAt 2 = .ok (.iconst 4, 1) := by decide +kernel
theorem dX11_propAt_3 : decode cX11_propAt 3 = .ok (.iload_n 0, 1) := by decide +kernel
theorem dX11_propAt_4 : decode cX11_propAt 4 = .ok (.imul, 1) := by decide +kernel
theorem dX11_propAt_5 : decode cX11_propAt 5 = .ok (.iadd, 1) := by decide +kernel
theorem dX11_propAt_6 : decode cX11_propAt 6 = .ok (.iload_n 1, 1) := by decide +kernel
theorem dX11_propAt_7 : decode cX11_propAt 7 = .ok (.iadd, 1) := by decide +kernel
theorem dX11_propAt_8 : decode cX11_propAt 8 = .ok (.ireturn, 1) := by decide +kernel
theorem dX11_ofProp_0 : decode cX11_ofProp 0 = .ok (.aload_n 0, 1) := by decide +kernel
theorem dX11_ofProp_1 : decode cX11_ofProp 1 = .ok (.getfield 13, 3) := by decide +kernel
theorem dX11_ofProp_4 : decode cX11_ofProp 4 = .ok (.iload_n 1, 1) := by decide +kernel
theorem dX11_ofProp_5 : decode cX11_ofProp 5 = .ok (.iload_n 2, 1) := by decide +kernel
theorem dX11_ofProp_6 : decode cX11_ofProp 6 = .ok (.invokestatic 70, 3) := by decide +kernel
theorem dX11_ofProp_9 : decode cX11_ofProp 9 = .ok (.iaload, 1) := by decide +kernel
theorem dX11_ofProp_10 : decode cX11_ofProp 10 = .ok (.ireturn, 1) := by decide +kernel
theorem dX11_isNailed_0 : decode cX11_isNailed 0 = .ok (.aload_n 0, 1) := by decide +kernel
theorem dX11_isNailed_1 : decode cX11_isNailed 1 = .ok (.iload_n 1, 1) := by decide +kernel
theorem dX11_isNailed_2 : decode cX11_isNailed 2 = .ok (.iconst 3, 1) := by decide +kernel
theorem dX11_isNailed_3 : decode cX11_isNailed 3 = .ok (.invokevirtual 74, 3) := by decide +kernel
theorem dX11_isNailed_6 : decode cX11_isNailed 6 = .ok (.iconst (-1), 1) := by decide +kernel
theorem dX11_isNailed_7 : decode cX11_isNailed 7 = .ok (.if_icmp .eq 7, 3) := by decide +kernel
theorem dX11_isNailed_10 : decode cX11_isNailed 10 = .ok (.iconst 1, 1) := by decide +kernel
theorem dX11_isNailed_11 : decode cX11_isNailed 11 = .ok (.goto 4, 3) := by decide +kernel
theorem dX11_isNailed_14 : decode cX11_isNailed 14 = .ok (.iconst 0, 1) := by decide +kernel
theorem dX11_isNailed_15 : decode cX11_isNailed 15 = .ok (.ireturn, 1) := by decide +kernel
theorem dX11_oneAt_0 : decode cX11_oneAt 0 = .ok (.bipush 41, 2) := by decide +kernel
theorem dX11_oneAt_2 : decode cX11_oneAt 2 = .ok (.iconst 4, 1) := by decide +kernel
theorem dX11_oneAt_3 : decode cX11_oneAt 3 = .ok (.iload_n 0, 1) := by decide +kernel
theorem dX11_oneAt_4 : decode cX11_oneAt 4 = .ok (.imul, 1) := by decide +kernel
theorem dX11_oneAt_5 : decode cX11_oneAt 5 = .ok (.iadd, 1) := by decide +kernel
theorem dX11_oneAt_6 : decode cX11_oneAt 6 = .ok (.iload_n 1, 1) := by decide +kernel
theorem dX11_oneAt_7 : decode cX11_oneAt 7 = .ok (.iadd, 1) := by decide +kernel
theorem dX11_oneAt_8 : decode cX11_oneAt 8 = .ok (.ireturn, 1) := by decide +kernel
theorem dX11_of_0 : decode cX11_of 0 = .ok (.aload_n 0, 1) := by decide +kernel
theorem dX11_of_1 : decode cX11_of 1 = .ok (.getfield 13, 3) := by decide +kernel
theorem dX11_of_4 : decode cX11_of 4 = .ok (.iload_n 1, 1) := by decide +kernel
theorem dX11_of_5 : decode cX11_of 5 = .ok (.iload_n 2, 1) := by decide +kernel
theorem dX11_of_6 : decode cX11_of 6 = .ok (.invokestatic 77, 3) := by decide +kernel
theorem dX11_of_9 : decode cX11_of 9 = .ok (.iaload, 1) := by decide +kernel
theorem dX11_of_10 : decode cX11_of 10 = .ok (.ireturn, 1) := by decide +kernel
theorem dX11_waits_0 : decode cX11_waits 0 = .ok (.aload_n 0, 1) := by decide +kernel
theorem dX11_waits_1 : decode cX11_waits 1 = .ok (.iload_n 1, 1) := by decide +kernel
theorem dX11_waits_2 : decode cX11_waits 2 = .ok (.iconst 3, 1) := by decide +kernel
theorem dX11_waits_3 : decode cX11_waits 3 = .ok (.invokevirtual 80, 3) := by decide +kernel
theorem dX11_waits_6 : decode cX11_waits 6 = .ok (.ifCond .ne 7, 3) := by decide +kernel
theorem dX11_waits_9 : decode cX11_waits 9 = .ok (.iconst 1, 1) := by decide +kernel
theorem dX11_waits_10 : decode cX11_waits 10 = .ok (.goto 4, 3) := by decide +kernel
theorem dX11_waits_13 : decode cX11_waits 13 = .ok (.iconst 0, 1) := by decide +kernel
theorem dX11_waits_14 : decode cX11_waits 14 = .ok (.ireturn, 1) := by decide +kernel
theorem dX11_isInnocent_0 : decode cX11_isInnocent 0 = .ok (.aload_n 0, 1) := by decide +kernel
theorem dX11_isInnocent_1 : decode cX11_isInnocent 1 = .ok (.iload_n 1, 1) := by decide +kernel
theorem dX11_isInnocent_2 : decode cX11_isInnocent 2 = .ok (.iconst 0, 1) := by decide +kernel
theorem dX11_isInnocent_3 : decode cX11_isInnocent 3 = .ok (.invokevirtual 80, 3) := by decide +kernel
theorem dX11_isInnocent_6 : decode cX11_isInnocent 6 = .ok (.ifCond .ne 7, 3) := by decide +kernel
theorem dX11_isInnocent_9 : decode cX11_isInnocent 9 = .ok (.iconst 1, 1) := by decide +kernel
theorem dX11_isInnocent_10 : decode cX11_isInnocent 10 = .ok (.goto 4, 3) := by decide +kernel
theorem dX11_isInnocent_13 : decode cX11_isInnocent 13 = .ok (.iconst 0, 1) := by decide +kernel
theorem dX11_isInnocent_14 : decode cX11_isInnocent 14 = .ok (.ireturn, 1) := by decide +kernel
theorem dX11_noProp_0 : decode cX11_noProp 0 = .ok (.iload_n 1, 1) := by decide +kernel
theorem dX11_noProp_1 : decode cX11_noProp 1 = .ok (.iconst 0, 1) := by decide +kernel
theorem dX11_noProp_2 : decode cX11_noProp 2 = .ok (.aload_n 0, 1) := by decide +kernel
theorem dX11_noProp_3 : decode cX11_noProp 3 = .ok (.invokevirtual 83, 3) := by decide +kernel
theorem dX11_noProp_6 : decode cX11_noProp 6 = .ok (.iconst 1, 1) := by decide +kernel
theorem dX11_noProp_7 : decode cX11_noProp 7 = .ok (.isub, 1) := by decide +kernel
theorem dX11_noProp_8 : decode cX11_noProp 8 = .ok (.invokestatic 87, 3) := by decide +kernel
theorem dX11_noProp_11 : decode cX11_noProp 11 = .ok (.ifCond .ne 7, 3) := by decide +kernel
theorem dX11_noProp_14 : decode cX11_noProp 14 = .ok (.iconst 1, 1) := by decide +kernel
theorem dX11_noProp_15 : decode cX11_noProp 15 = .ok (.goto 4, 3) := by decide +kernel
theorem dX11_noProp_18 : decode cX11_noProp 18 = .ok (.iconst 0, 1) := by decide +kernel
theorem dX11_noProp_19 : decode cX11_noProp 19 = .ok (.ireturn, 1) := by decide +kernel
theorem dX11_noOne_0 : decode cX11_noOne 0 = .ok (.iload_n 1, 1) := by decide +kernel
theorem dX11_noOne_1 : decode cX11_noOne 1 = .ok (.iconst 0, 1) := by decide +kernel
theorem dX11_noOne_2 : decode cX11_noOne 2 = .ok (.aload_n 0, 1) := by decide +kernel
theorem dX11_noOne_3 : decode cX11_noOne 3 = .ok (.invokevirtual 91, 3) := by decide +kernel
theorem dX11_noOne_6 : decode cX11_noOne 6 = .ok (.iconst 1, 1) := by decide +kernel
theorem dX11_noOne_7 : decode cX11_noOne 7 = .ok (.isub, 1) := by decide +kernel
theorem dX11_noOne_8 : decode cX11_noOne 8 = .ok (.invokestatic 87, 3) := by decide +kernel
theorem dX11_noOne_11 : decode cX11_noOne 11 = .ok (.ifCond .ne 7, 3) := by decide +kernel
theorem dX11_noOne_14 : decode cX11_noOne 14 = .ok (.iconst 1, 1) := by decide +kernel
theorem dX11_noOne_15 : decode cX11_noOne 15 = .ok (.goto 4, 3) := by decide +kernel
theorem dX11_noOne_18 : decode cX11_noOne 18 = .ok (.iconst 0, 1) := by decide +kernel
theorem dX11_noOne_19 : decode cX11_noOne 19 = .ok (.ireturn, 1) := by decide +kernel
theorem dX11_noSlot_0 : decode cX11_noSlot 0 = .ok (.iload_n 0, 1) := by decide +kernel
theorem dX11_noSlot_1 : decode cX11_noSlot 1 = .ok (.iconst 0, 1) := by decide +kernel
theorem dX11_noSlot_2 : decode cX11_noSlot 2 = .ok (.bipush 9, 2) := by decide +kernel
theorem dX11_noSlot_4 : decode cX11_noSlot 4 = .ok (.invokestatic 87, 3) := by decide +kernel
theorem dX11_noSlot_7 : decode cX11_noSlot 7 = .ok (.ifCond .ne 7, 3) := by decide +kernel
theorem dX11_noSlot_10 : decode cX11_noSlot 10 = .ok (.iconst 1, 1) := by decide +kernel
theorem dX11_noSlot_11 : decode cX11_noSlot 11 = .ok (.goto 4, 3) := by decide +kernel
theorem dX11_noSlot_14 : decode cX11_noSlot 14 = .ok (.iconst 0, 1) := by decide +kernel
theorem dX11_noSlot_15 : decode cX11_noSlot 15 = .ok (.ireturn, 1) := by decide +kernel
theorem dX11_propIn_0 : decode cX11_propIn 0 = .ok (.iconst 0, 1) := by decide +kernel
theorem dX11_propIn_1 : decode cX11_propIn 1 = .ok (.istore_n 2, 1) := by decide +kernel
theorem dX11_propIn_2 : decode cX11_propIn 2 = .ok (.iload_n 2, 1) := by decide +kernel
theorem dX11_propIn_3 : decode cX11_propIn 3 = .ok (.aload_n 0, 1) := by decide +kernel
theorem dX11_propIn_4 : decode cX11_propIn 4 = .ok (.invokevirtual 83, 3) := by decide +kernel
theorem dX11_propIn_7 : decode cX11_propIn 7 = .ok (.if_icmp .ge 21, 3) := by decide +kernel
theorem dX11_propIn_10 : decode cX11_propIn 10 = .ok (.aload_n 0, 1) := by decide +kernel
theorem dX11_propIn_11 : decode cX11_propIn 11 = .ok (.iload_n 2, 1) := by decide +kernel
theorem dX11_propIn_12 : decode cX11_propIn 12 = .ok (.iconst 3, 1) := by decide +kernel
theorem dX11_propIn_13 : decode cX11_propIn 13 = .ok (.invokevirtual 74, 3) := by decide +kernel
theorem dX11_propIn_16 : decode cX11_propIn 16 = .ok (.iload_n 1, 1) := by decide +kernel
theorem dX11_propIn_17 : decode cX11_propIn 17 = .ok (.if_icmp .ne 5, 3) := by decide +kernel
theorem dX11_propIn_20 : decode cX11_propIn 20 = .ok (.iload_n 2, 1) := by decide +kernel
theorem dX11_propIn_21 : decode cX11_propIn 21 = .ok (.ireturn, 1) := by decide +kernel
theorem dX11_propIn_22 : decode cX11_propIn 22 = .ok (.iinc 2 1, 3) := by decide +kernel
theorem dX11_propIn_25 : decode cX11_propIn 25 = .ok (.goto (-23), 3) := by decide +kernel
theorem dX11_propIn_28 : decode cX11_propIn 28 = .ok (.iconst (-1), 1) := by decide +kernel
theorem dX11_propIn_29 : decode cX11_propIn 29 = .ok (.ireturn, 1) := by decide +kernel
theorem dX11_nailedOnes_0 : decode cX11_nailedOnes 0 = .ok (.iconst 0, 1) := by decide +kernel
theorem dX11_nailedOnes_1 : decode cX11_nailedOnes 1 = .ok (.istore_n 1, 1) := by decide +kernel
theorem dX11_nailedOnes_2 : decode cX11_nailedOnes 2 = .ok (.iconst 0, 1) := by decide +kernel
theorem dX11_nailedOnes_3 : decode cX11_nailedOnes 3 = .ok (.istore_n 2, 1) := by decide +kernel
theorem dX11_nailedOnes_4 : decode cX11_nailedOnes 4 = .ok (.iload_n 2, 1) := by decide +kernel
theorem dX11_nailedOnes_5 : decode cX11_nailedOnes 5 = .ok (.aload_n 0, 1) := by decide +kernel
theorem dX11_nailedOnes_6 : decode cX11_nailedOnes 6 = .ok (.invokevirtual 83, 3) := by decide +kernel
theorem dX11_nailedOnes_9 : decode cX11_nailedOnes 9 = .ok (.if_icmp .ge 27, 3) := by decide +kernel
theorem dX11_nailedOnes_12 : decode cX11_nailedOnes 12 = .ok (.iload_n 1, 1) := by decide +kernel
theorem dX11_nailedOnes_13 : decode cX11_nailedOnes 13 = .ok (.aload_n 0, 1) := by decide +kernel
theorem dX11_nailedOnes_14 : decode cX11_nailedOnes 14 = .ok (.iload_n 2, 1) := by decide +kernel
theorem dX11_nailedOnes_15 : decode cX11_nailedOnes 15 = .ok (.invokevirtual 94, 3) := by decide +kernel
theorem dX11_nailedOnes_18 : decode cX11_nailedOnes 18 = .ok (.ifCond .eq 9, 3) := by decide +kernel
theorem dX11_nailedOnes_21 : decode cX11_nailedOnes 21 = .ok (.iconst 1, 1) := by decide +kernel
theorem dX11_nailedOnes_22 : decode cX11_nailedOnes 22 = .ok (.iload_n 2, 1) := by decide +kernel
theorem dX11_nailedOnes_23 : decode cX11_nailedOnes 23 = .ok (.ishl, 1) := by decide +kernel
theorem dX11_nailedOnes_24 : decode cX11_nailedOnes 24 = .ok (.goto 4, 3) := by decide +kernel
theorem dX11_nailedOnes_27 : decode cX11_nailedOnes 27 = .ok (.iconst 0, 1) := by decide +kernel
theorem dX11_nailedOnes_28 : decode cX11_nailedOnes 28 = .ok (.ior, 1) := by decide +kernel
theorem dX11_nailedOnes_29 : decode cX11_nailedOnes 29 = .ok (.istore_n 1, 1) := by decide +kernel
theorem dX11_nailedOnes_30 : decode cX11_nailedOnes 30 = .ok (.iinc 2 1, 3) := by decide +kernel
theorem dX11_nailedOnes_33 : decode cX11_nailedOnes 33 = .ok (.goto (-29), 3) := by decide +kernel
theorem dX11_nailedOnes_36 : decode cX11_nailedOnes 36 = .ok (.iload_n 1, 1) := by decide +kernel
theorem dX11_nailedOnes_37 : decode cX11_nailedOnes 37 = .ok (.ireturn, 1) := by decide +kernel
theorem dX11_drawn_0 : decode cX11_drawn 0 = .ok (.aload_n 0, 1) := by decide +kernel
theorem dX11_drawn_1 : decode cX11_drawn 1 = .ok (.getfield 13, 3) := by decide +kernel
theorem dX11_drawn_4 : decode cX11_drawn 4 = .ok (.bipush 8, 2) := by decide +kernel
theorem dX11_drawn_6 : decode cX11_drawn 6 = .ok (.ldc 98, 2) := by decide +kernel
theorem dX11_drawn_8 : decode cX11_drawn 8 = .ok (.aload_n 0, 1) := by decide +kernel
theorem dX11_drawn_9 : decode cX11_drawn 9 = .ok (.getfield 13, 3) := by decide +kernel
theorem dX11_drawn_12 : decode cX11_drawn 12 = .ok (.bipush 8, 2) := by decide +kernel
theorem dX11_drawn_14 : decode cX11_drawn 14 = .ok (.iaload, 1) := by decide +kernel
theorem dX11_drawn_15 : decode cX11_drawn 15 = .ok (.imul, 1) := by decide +kernel
theorem dX11_drawn_16 : decode cX11_drawn 16 = .ok (.sipush 12345, 3) := by decide +kernel
theorem dX11_drawn_19 : decode cX11_drawn 19 = .ok (.iadd, 1) := by decide +kernel
theorem dX11_drawn_20 : decode cX11_drawn 20 = .ok (.iastore, 1) := by decide +kernel
theorem dX11_drawn_21 : decode cX11_drawn 21 = .ok (.aload_n 0, 1) := by decide +kernel
theorem dX11_drawn_22 : decode cX11_drawn 22 = .ok (.getfield 13, 3) := by decide +kernel
theorem dX11_drawn_25 : decode cX11_drawn 25 = .ok (.bipush 8, 2) := by decide +kernel
theorem dX11_drawn_27 : decode cX11_drawn 27 = .ok (.iaload, 1) := by decide +kernel
theorem dX11_drawn_28 : decode cX11_drawn 28 = .ok (.bipush 16, 2) := by decide +kernel
theorem dX11_drawn_30 : decode cX11_drawn 30 = .ok (.ishr, 1) := by decide +kernel
theorem dX11_drawn_31 : decode cX11_drawn 31 = .ok (.sipush 32767, 3) := by decide +kernel
theorem dX11_drawn_34 : decode cX11_drawn 34 = .ok (.iand, 1) := by decide +kernel
theorem dX11_drawn_35 : decode cX11_drawn 35 = .ok (.iload_n 1, 1) := by decide +kernel
theorem dX11_drawn_36 : decode cX11_drawn 36 = .ok (.irem, 1) := by decide +kernel
theorem dX11_drawn_37 : decode cX11_drawn 37 = .ok (.ireturn, 1) := by decide +kernel
theorem dX11_feed_0 : decode cX11_feed 0 = .ok (.aload_n 0, 1) := by decide +kernel
theorem dX11_feed_1 : decode cX11_feed 1 = .ok (.iconst 0, 1) := by decide +kernel
theorem dX11_feed_2 : decode cX11_feed 2 = .ok (.putfield 3, 3) := by decide +kernel
theorem dX11_feed_5 : decode cX11_feed 5 = .ok (.aload_n 0, 1) := by decide +kernel
theorem dX11_feed_6 : decode cX11_feed 6 = .ok (.getfield 99, 3) := by decide +kernel
theorem dX11_feed_9 : decode cX11_feed 9 = .ok (.bipush 20, 2) := by decide +kernel
theorem dX11_feed_11 : decode cX11_feed 11 = .ok (.iadd, 1) := by decide +kernel
theorem dX11_feed_12 : decode cX11_feed 12 = .ok (.sipush 400, 3) := by decide +kernel
theorem dX11_feed_15 : decode cX11_feed 15 = .ok (.if_icmp .le 5, 3) := by decide +kernel
theorem dX11_feed_18 : decode cX11_feed 18 = .ok (.iconst (-1), 1) := by decide +kernel
theorem dX11_feed_19 : decode cX11_feed 19 = .ok (.ireturn, 1) := by decide +kernel
theorem dX11_feed_20 : decode cX11_feed 20 = .ok (.aload_n 0, 1) := by decide +kernel
theorem dX11_feed_21 : decode cX11_feed 21 = .ok (.getfield 36, 3) := by decide +kernel
theorem dX11_feed_24 : decode cX11_feed 24 = .ok (.iconst 0, 1) := by decide +kernel
theorem dX11_feed_25 : decode cX11_feed 25 = .ok (.iload_n 1, 1) := by decide +kernel
theorem dX11_feed_26 : decode cX11_feed 26 = .ok (.iastore, 1) := by decide +kernel
theorem dX11_feed_27 : decode cX11_feed 27 = .ok (.aload_n 0, 1) := by decide +kernel
theorem dX11_feed_28 : decode cX11_feed 28 = .ok (.getfield 36, 3) := by decide +kernel
theorem dX11_feed_31 : decode cX11_feed 31 = .ok (.iconst 1, 1) := by decide +kernel
theorem dX11_feed_32 : decode cX11_feed 32 = .ok (.iload_n 2, 1) := by decide +kernel
theorem dX11_feed_33 : decode cX11_feed 33 = .ok (.iastore, 1) := by decide +kernel
theorem dX11_feed_34 : decode cX11_feed 34 = .ok (.aload_n 0, 1) := by decide +kernel
theorem dX11_feed_35 : decode cX11_feed 35 = .ok (.getfield 36, 3) := by decide +kernel
theorem dX11_feed_38 : decode cX11_feed 38 = .ok (.iconst 2, 1) := by decide +kernel
theorem dX11_feed_39 : decode cX11_feed 39 = .ok (.iload_n 3, 1) := by decide +kernel
theorem dX11_feed_40 : decode cX11_feed 40 = .ok (.iastore, 1) := by decide +kernel
theorem dX11_feed_41 : decode cX11_feed 41 = .ok (.aload_n 0, 1) := by decide +kernel
theorem dX11_feed_42 : decode cX11_feed 42 = .ok (.getfield 36, 3) := by decide +kernel
theorem dX11_feed_45 : decode cX11_feed 45 = .ok (.iconst 3, 1) := by decide +kernel
theorem dX11_feed_46 : decode cX11_feed 46 = .ok (.iload 4, 2) := by decide +kernel
theorem dX11_feed_48 : decode cX11_feed 48 = .ok (.iastore, 1) := by decide +kernel
theorem dX11_feed_49 : decode cX11_feed 49 = .ok (.aload_n 0, 1) := by decide +kernel
theorem dX11_feed_50 : decode cX11_feed 50 = .ok (.getfield 36, 3) := by decide +kernel
theorem dX11_feed_53 : decode cX11_feed 53 = .ok (.iconst 4, 1) := by decide +kernel
theorem dX11_feed_54 : decode cX11_feed 54 = .ok (.iload 5, 2) := by decide +kernel
theorem dX11_feed_56 : decode cX11_feed 56 = .ok (.iastore, 1) := by decide +kernel
theorem dX11_feed_57 : decode cX11_feed 57 = .ok (.iconst 0, 1) := by decide +kernel
theorem dX11_feed_58 : decode cX11_feed 58 = .ok (.istore 6, 2) := by decide +kernel
theorem dX11_feed_60 : decode cX11_feed 60 = .ok (.iload 6, 2) := by decide +kernel
theorem dX11_feed_62 : decode cX11_feed 62 = .ok (.bipush 20, 2) := by decide +kernel
theorem dX11_feed_64 : decode cX11_feed 64 = .ok (.if_icmp .ge 42, 3) := by decide +kernel
theorem dX11_feed_67 : decode cX11_feed 67 = .ok (.aload_n 0, 1) := by decide +kernel
theorem dX11_feed_68 : decode cX11_feed 68 = .ok (.getfield 29, 3) := by decide +kernel
theorem dX11_feed_71 : decode cX11_feed 71 = .ok (.aload_n 0, 1) := by decide +kernel
theorem dX11_feed_72 : decode cX11_feed 72 = .ok (.getfield 99, 3) := by decide +kernel
theorem dX11_feed_75 : decode cX11_feed 75 = .ok (.iload 6, 2) := by decide +kernel
theorem dX11_feed_77 : decode cX11_feed 77 = .ok (.iadd, 1) := by decide +kernel
theorem dX11_feed_78 : decode cX11_feed 78 = .ok (.aload_n 0, 1) := by decide +kernel
theorem dX11_feed_79 : decode cX11_feed 79 = .ok (.getfield 36, 3) := by decide +kernel
theorem dX11_feed_82 : decode cX11_feed 82 = .ok (.iload 6, 2) := by decide +kernel
theorem dX11_feed_84 : decode cX11_feed 84 = .ok (.iconst 4, 1) := by decide +kernel
theorem dX11_feed_85 : decode cX11_feed 85 = .ok (.idiv, 1) := by decide +kernel
theorem dX11_feed_86 : decode cX11_feed 86 = .ok (.iaload, 1) := by decide +kernel
theorem dX11_feed_87 : decode cX11_feed 87 = .ok (.bipush 24, 2) := by decide +kernel
theorem dX11_feed_89 : decode cX11_feed 89 = .ok (.bipush 8, 2) := by decide +kernel
theorem dX11_feed_91 : decode cX11_feed 91 = .ok (.iload 6, 2) := by decide +kernel
theorem dX11_feed_93 : decode cX11_feed 93 = .ok (.iconst 4, 1) := by decide +kernel
theorem dX11_feed_94 : decode cX11_feed 94 = .ok (.irem, 1) := by decide +kernel
theorem dX11_feed_95 : decode cX11_feed 95 = .ok (.imul, 1) := by decide +kernel
theorem dX11_feed_96 : decode cX11_feed 96 = .ok (.isub, 1) := by decide +kernel
theorem dX11_feed_97 : decode cX11_feed 97 = .ok (.ishr, 1) := by decide +kernel
theorem dX11_feed_98 : decode cX11_feed 98 = .ok (.i2b, 1) := by decide +kernel
theorem dX11_feed_99 : decode cX11_feed 99 = .ok (.bastore, 1) := by decide +kernel
theorem dX11_feed_100 : decode cX11_feed 100 = .ok (.iinc 6 1, 3) := by decide +kernel
theorem dX11_feed_103 : decode cX11_feed 103 = .ok (.goto (-43), 3) := by decide +kernel
theorem dX11_feed_106 : decode cX11_feed 106 = .ok (.aload_n 0, 1) := by decide +kernel
theorem dX11_feed_107 : decode cX11_feed 107 = .ok (.dup, 1) := by decide +kernel
theorem dX11_feed_108 : decode cX11_feed 108 = .ok (.getfield 99, 3) := by decide +kernel
theorem dX11_feed_111 : decode cX11_feed 111 = .ok (.bipush 20, 2) := by decide +kernel
theorem dX11_feed_113 : decode cX11_feed 113 = .ok (.iadd, 1) := by decide +kernel
theorem dX11_feed_114 : decode cX11_feed 114 = .ok (.putfield 99, 3) := by decide +kernel
theorem dX11_feed_117 : decode cX11_feed 117 = .ok (.aload_n 0, 1) := by decide +kernel
theorem dX11_feed_118 : decode cX11_feed 118 = .ok (.getfield 99, 3) := by decide +kernel
theorem dX11_feed_121 : decode cX11_feed 121 = .ok (.ireturn, 1) := by decide +kernel
theorem dX11_end_0 : decode cX11_end 0 = .ok (.aload_n 0, 1) := by decide +kernel
theorem dX11_end_1 : decode cX11_end 1 = .ok (.iconst 0, 1) := by decide +kernel
theorem dX11_end_2 : decode cX11_end 2 = .ok (.putfield 3, 3) := by decide +kernel
theorem dX11_end_5 : decode cX11_end 5 = .ok (.iload_n 1, 1) := by decide +kernel
theorem dX11_end_6 : decode cX11_end 6 = .ok (.ifCond .lt 11, 3) := by decide +kernel
theorem dX11_end_9 : decode cX11_end 9 = .ok (.iload_n 1, 1) := by decide +kernel
theorem dX11_end_10 : decode cX11_end 10 = .ok (.aload_n 0, 1) := by decide +kernel
theorem dX11_end_11 : decode cX11_end 11 = .ok (.getfield 99, 3) := by decide +kernel
theorem dX11_end_14 : decode cX11_end 14 = .ok (.if_icmp .le 5, 3) := by decide +kernel
theorem dX11_end_17 : decode cX11_end 17 = .ok (.iconst 0, 1) := by decide +kernel
theorem dX11_end_18 : decode cX11_end 18 = .ok (.ireturn, 1) := by decide +kernel
theorem dX11_end_19 : decode cX11_end 19 = .ok (.aload_n 0, 1) := by decide +kernel
theorem dX11_end_20 : decode cX11_end 20 = .ok (.iload_n 1, 1) := by decide +kernel
theorem dX11_end_21 : decode cX11_end 21 = .ok (.putfield 99, 3) := by decide +kernel
theorem dX11_end_24 : decode cX11_end 24 = .ok (.iconst 1, 1) := by decide +kernel
theorem dX11_end_25 : decode cX11_end 25 = .ok (.ireturn, 1) := by decide +kernel
theorem dX11_isAt_0 : decode cX11_isAt 0 = .ok (.aload_n 0, 1) := by decide +kernel
theorem dX11_isAt_1 : decode cX11_isAt 1 = .ok (.getfield 102, 3) := by decide +kernel
theorem dX11_isAt_4 : decode cX11_isAt 4 = .ok (.aload_n 0, 1) := by decide +kernel
theorem dX11_isAt_5 : decode cX11_isAt 5 = .ok (.getfield 105, 3) := by decide +kernel
theorem dX11_isAt_8 : decode cX11_isAt 8 = .ok (.if_icmp .ge 33, 3) := by decide +kernel
theorem dX11_isAt_11 : decode cX11_isAt 11 = .ok (.aload_n 0, 1) := by decide +kernel
theorem dX11_isAt_12 : decode cX11_isAt 12 = .ok (.getfield 29, 3) := by decide +kernel
theorem dX11_isAt_15 : decode cX11_isAt 15 = .ok (.aload_n 0, 1) := by decide +kernel
theorem dX11_isAt_16 : decode cX11_isAt 16 = .ok (.getfield 102, 3) := by decide +kernel
theorem dX11_isAt_19 : decode cX11_isAt 19 = .ok (.baload, 1) := by decide +kernel
theorem dX11_isAt_20 : decode cX11_isAt 20 = .ok (.iload_n 1, 1) := by decide +kernel
theorem dX11_isAt_21 : decode cX11_isAt 21 = .ok (.if_icmp .lt 20, 3) := by decide +kernel
theorem dX11_isAt_24 : decode cX11_isAt 24 = .ok (.aload_n 0, 1) := by decide +kernel
theorem dX11_isAt_25 : decode cX11_isAt 25 = .ok (.getfield 29, 3) := by decide +kernel
theorem dX11_isAt_28 : decode cX11_isAt 28 = .ok (.aload_n 0, 1) := by decide +kernel
theorem dX11_isAt_29 : decode cX11_isAt 29 = .ok (.getfield 102, 3) := by decide +kernel
theorem dX11_isAt_32 : decode cX11_isAt 32 = .ok (.baload, 1) := by decide +kernel
theorem dX11_isAt_33 : decode cX11_isAt 33 = .ok (.iload_n 2, 1) := by decide +kernel
theorem dX11_isAt_34 : decode cX11_isAt 34 = .ok (.if_icmp .gt 7, 3) := by decide +kernel
theorem dX11_isAt_37 : decode cX11_isAt 37 = .ok (.iconst 1, 1) := by decide +kernel
theorem dX11_isAt_38 : decode cX11_isAt 38 = .ok (.goto 4, 3) := by decide +kernel
theorem dX11_isAt_41 : decode cX11_isAt 41 = .ok (.iconst 0, 1) := by decide +kernel
theorem dX11_isAt_42 : decode cX11_isAt 42 = .ok (.ireturn, 1) := by decide +kernel
theorem dX11_blanks_0 : decode cX11_blanks 0 = .ok (.aload_n 0, 1) := by decide +kernel
theorem dX11_blanks_1 : decode cX11_blanks 1 = .ok (.bipush 32, 2) := by decide +kernel
theorem dX11_blanks_3 : decode cX11_blanks 3 = .ok (.bipush 32, 2) := by decide +kernel
theorem dX11_blanks_5 : decode cX11_blanks 5 = .ok (.invokevirtual 108, 3) := by decide +kernel
theorem dX11_blanks_8 : decode cX11_blanks 8 = .ok (.ifCond .eq 16, 3) := by decide +kernel
theorem dX11_blanks_11 : decode cX11_blanks 11 = .ok (.aload_n 0, 1) := by decide +kernel
theorem dX11_blanks_12 : decode cX11_blanks 12 = .ok (.dup, 1) := by decide +kernel
theorem dX11_blanks_13 : decode cX11_blanks 13 = .ok (.getfield 102, 3) := by decide +kernel
theorem dX11_blanks_16 : decode cX11_blanks 16 = .ok (.iconst 1, 1) := by decide +kernel
theorem dX11_blanks_17 : decode cX11_blanks 17 = .ok (.iadd, 1) := by decide +kernel
theorem dX11_blanks_18 : decode cX11_blanks 18 = .ok (.putfield 102, 3) := by decide +kernel
theorem dX11_blanks_21 : decode cX11_blanks 21 = .ok (.goto (-21), 3) := by decide +kernel
theorem dX11_blanks_24 : decode cX11_blanks 24 = .ok (.aload_n 0, 1) := by decide +kernel
theorem dX11_blanks_25 : decode cX11_blanks 25 = .ok (.aload_n 0, 1) := by decide +kernel
theorem dX11_blanks_26 : decode cX11_blanks 26 = .ok (.getfield 102, 3) := by decide +kernel
theorem dX11_blanks_29 : decode cX11_blanks 29 = .ok (.putfield 112, 3) := by decide +kernel
theorem dX11_blanks_32 : decode cX11_blanks 32 = .ok (.return_, 1) := by decide +kernel
theorem dX11_letters_0 : decode cX11_letters 0 = .ok (.aload_n 0, 1) := by decide +kernel
theorem dX11_letters_1 : decode cX11_letters 1 = .ok (.invokevirtual 115, 3) := by decide +kernel
theorem dX11_letters_4 : decode cX11_letters 4 = .ok (.aload_n 0, 1) := by decide +kernel
theorem dX11_letters_5 : decode cX11_letters 5 = .ok (.bipush 97, 2) := by decide +kernel
theorem dX11_letters_7 : decode cX11_letters 7 = .ok (.bipush 122, 2) := by decide +kernel
theorem dX11_letters_9 : decode cX11_letters 9 = .ok (.invokevirtual 108, 3) := by decide +kernel
theorem dX11_letters_12 : decode cX11_letters 12 = .ok (.ifCond .eq 16, 3) := by decide +kernel
theorem dX11_letters_15 : decode cX11_letters 15 = .ok (.aload_n 0, 1) := by decide +kernel
theorem dX11_letters_16 : decode cX11_letters 16 = .ok (.dup, 1) := by decide +kernel
theorem dX11_letters_17 : decode cX11_letters 17 = .ok (.getfield 102, 3) := by decide +kernel
theorem dX11_letters_20 : decode cX11_letters 20 = .ok (.iconst 1, 1) := by decide +kernel
theorem dX11_letters_21 : decode cX11_letters 21 = .ok (.iadd, 1) := by decide +kernel
theorem dX11_letters_22 : decode cX11_letters 22 = .ok (.putfield 102, 3) := by decide +kernel
theorem dX11_letters_25 : decode cX11_letters 25 = .ok (.goto (-21), 3) := by decide +kernel
theorem dX11_letters_28 : decode cX11_letters 28 = .ok (.return_, 1) := by decide +kernel
theorem dX11_isWord_0 : decode cX11_isWord 0 = .ok (.aload_n 0, 1) := by decide +kernel
theorem dX11_isWord_1 : decode cX11_isWord 1 = .ok (.getfield 102, 3) := by decide +kernel
theorem dX11_isWord_4 : decode cX11_isWord 4 = .ok (.aload_n 0, 1) := by decide +kernel
theorem dX11_isWord_5 : decode cX11_isWord 5 = .ok (.getfield 112, 3) := by decide +kernel
theorem dX11_isWord_8 : decode cX11_isWord 8 = .ok (.isub, 1) := by decide +kernel
theorem dX11_isWord_9 : decode cX11_isWord 9 = .ok (.aload_n 1, 1) := by decide +kernel
theorem dX11_isWord_10 : decode cX11_isWord 10 = .ok (.invokevirtual 118, 3) := by decide +kernel
theorem dX11_isWord_13 : decode cX11_isWord 13 = .ok (.if_icmp .ne 7, 3) := by decide +kernel
theorem dX11_isWord_16 : decode cX11_isWord 16 = .ok (.iconst 1, 1) := by decide +kernel
theorem dX11_isWord_17 : decode cX11_isWord 17 = .ok (.goto 4, 3) := by decide +kernel
theorem dX11_isWord_20 : decode cX11_isWord 20 = .ok (.iconst 0, 1) := by decide +kernel
theorem dX11_isWord_21 : decode cX11_isWord 21 = .ok (.istore_n 2, 1) := by decide +kernel
theorem dX11_isWord_22 : decode cX11_isWord 22 = .ok (.iconst 0, 1) := by decide +kernel
theorem dX11_isWord_23 : decode cX11_isWord 23 = .ok (.istore_n 3, 1) := by decide +kernel
theorem dX11_isWord_24 : decode cX11_isWord 24 = .ok (.iload_n 2, 1) := by decide +kernel
theorem dX11_isWord_25 : decode cX11_isWord 25 = .ok (.ifCond .eq 42, 3) := by decide +kernel
theorem dX11_isWord_28 : decode cX11_isWord 28 = .ok (.iload_n 3, 1) := by decide +kernel
theorem dX11_isWord_29 : decode cX11_isWord 29 = .ok (.aload_n 1, 1) := by decide +kernel
theorem dX11_isWord_30 : decode cX11_isWord 30 = .ok (.invokevirtual 118, 3) := by decide +kernel
theorem dX11_isWord_33 : decode cX11_isWord 33 = .ok (.if_icmp .ge 34, 3) := by decide +kernel
theorem dX11_isWord_36 : decode cX11_isWord 36 = .ok (.aload_n 0, 1) := by decide +kernel
theorem dX11_isWord_37 : decode cX11_isWord 37 = .ok (.getfield 29, 3) := by decide +kernel
theorem dX11_isWord_40 : decode cX11_isWord 40 = .ok (.aload_n 0, 1) := by decide +kernel
theorem dX11_isWord_41 : decode cX11_isWord 41 = .ok (.getfield 112, 3) := by decide +kernel
theorem dX11_isWord_44 : decode cX11_isWord 44 = .ok (.iload_n 3, 1) := by decide +kernel
theorem dX11_isWord_45 : decode cX11_isWord 45 = .ok (.iadd, 1) := by decide +kernel
theorem dX11_isWord_46 : decode cX11_isWord 46 = .ok (.baload, 1) := by decide +kernel
theorem dX11_isWord_47 : decode cX11_isWord 47 = .ok (.aload_n 1, 1) := by decide +kernel
theorem dX11_isWord_48 : decode cX11_isWord 48 = .ok (.iload_n 3, 1) := by decide +kernel
theorem dX11_isWord_49 : decode cX11_isWord 49 = .ok (.invokevirtual 123, 3) := by decide +kernel
theorem dX11_isWord_52 : decode cX11_isWord 52 = .ok (.if_icmp .ne 7, 3) := by decide +kernel
theorem dX11_isWord_55 : decode cX11_isWord 55 = .ok (.iconst 1, 1) := by decide +kernel
theorem dX11_isWord_56 : decode cX11_isWord 56 = .ok (.goto 4, 3) := by decide +kernel
theorem dX11_isWord_59 : decode cX11_isWord 59 = .ok (.iconst 0, 1) := by decide +kernel
theorem dX11_isWord_60 : decode cX11_isWord 60 = .ok (.istore_n 2, 1) := by decide +kernel
theorem dX11_isWord_61 : decode cX11_isWord 61 = .ok (.iinc 3 1, 3) := by decide +kernel
theorem dX11_isWord_64 : decode cX11_isWord 64 = .ok (.goto (-40), 3) := by decide +kernel
theorem dX11_isWord_67 : decode cX11_isWord 67 = .ok (.iload_n 2, 1) := by decide +kernel
theorem dX11_isWord_68 : decode cX11_isWord 68 = .ok (.ireturn, 1) := by decide +kernel
theorem dX11_passes_0 : decode cX11_passes 0 = .ok (.aload_n 0, 1) := by decide +kernel
theorem dX11_passes_1 : decode cX11_passes 1 = .ok (.invokevirtual 127, 3) := by decide +kernel
theorem dX11_passes_4 : decode cX11_passes 4 = .ok (.aload_n 0, 1) := by decide +kernel
theorem dX11_passes_5 : decode cX11_passes 5 = .ok (.aload_n 1, 1) := by decide +kernel
theorem dX11_passes_6 : decode cX11_passes 6 = .ok (.invokevirtual 130, 3) := by decide +kernel
theorem dX11_passes_9 : decode cX11_passes 9 = .ok (.ifCond .eq 5, 3) := by decide +kernel
theorem dX11_passes_12 : decode cX11_passes 12 = .ok (.iconst 1, 1) := by decide +kernel
theorem dX11_passes_13 : decode cX11_passes 13 = .ok (.ireturn, 1) := by decide +kernel
theorem dX11_passes_14 : decode cX11_passes 14 = .ok (.aload_n 0, 1) := by decide +kernel
theorem dX11_passes_15 : decode cX11_passes 15 = .ok (.aload_n 0, 1) := by decide +kernel
theorem dX11_passes_16 : decode cX11_passes 16 = .ok (.getfield 112, 3) := by decide +kernel
theorem dX11_passes_19 : decode cX11_passes 19 = .ok (.putfield 102, 3) := by decide +kernel
theorem dX11_passes_22 : decode cX11_passes 22 = .ok (.iconst 0, 1) := by decide +kernel
theorem dX11_passes_23 : decode cX11_passes 23 = .ok (.ireturn, 1) := by decide +kernel
theorem dX11_sign_0 : decode cX11_sign 0 = .ok (.aload_n 0, 1) := by decide +kernel
theorem dX11_sign_1 : decode cX11_sign 1 = .ok (.invokevirtual 115, 3) := by decide +kernel
theorem dX11_sign_4 : decode cX11_sign 4 = .ok (.aload_n 0, 1) := by decide +kernel
theorem dX11_sign_5 : decode cX11_sign 5 = .ok (.iload_n 1, 1) := by decide +kernel
theorem dX11_sign_6 : decode cX11_sign 6 = .ok (.iload_n 1, 1) := by decide +kernel
theorem dX11_sign_7 : decode cX11_sign 7 = .ok (.invokevirtual 108, 3) := by decide +kernel
theorem dX11_sign_10 : decode cX11_sign 10 = .ok (.ifCond .ne 5, 3) := by decide +kernel
theorem dX11_sign_13 : decode cX11_sign 13 = .ok (.iconst 0, 1) := by decide +kernel
theorem dX11_sign_14 : decode cX11_sign 14 = .ok (.ireturn, 1) := by decide +kernel
theorem dX11_sign_15 : decode cX11_sign 15 = .ok (.aload_n 0, 1) := by decide +kernel
theorem dX11_sign_16 : decode cX11_sign 16 = .ok (.dup, 1) := by decide +kernel
theorem dX11_sign_17 : decode cX11_sign 17 = .ok (.getfield 102, 3) := by decide +kernel
theorem dX11_sign_20 : decode cX11_sign 20 = .ok (.iconst 1, 1) := by decide +kernel
theorem dX11_sign_21 : decode cX11_sign 21 = .ok (.iadd, 1) := by decide +kernel
theorem dX11_sign_22 : decode cX11_sign 22 = .ok (.putfield 102, 3) := by decide +kernel
theorem dX11_sign_25 : decode cX11_sign 25 = .ok (.iconst 1, 1) := by decide +kernel
theorem dX11_sign_26 : decode cX11_sign 26 = .ok (.ireturn, 1) := by decide +kernel
theorem dX11_number_0 : decode cX11_number 0 = .ok (.aload_n 0, 1) := by decide +kernel
theorem dX11_number_1 : decode cX11_number 1 = .ok (.invokevirtual 115, 3) := by decide +kernel
theorem dX11_number_4 : decode cX11_number 4 = .ok (.iconst 0, 1) := by decide +kernel
theorem dX11_number_5 : decode cX11_number 5 = .ok (.istore_n 3, 1) := by decide +kernel
theorem dX11_number_6 : decode cX11_number 6 = .ok (.aload_n 0, 1) := by decide +kernel
theorem dX11_number_7 : decode cX11_number 7 = .ok (.bipush 48, 2) := by decide +kernel
theorem dX11_number_9 : decode cX11_number 9 = .ok (.bipush 57, 2) := by decide +kernel
theorem dX11_number_11 : decode cX11_number 11 = .ok (.invokevirtual 108, 3) := by decide +kernel
theorem dX11_number_14 : decode cX11_number 14 = .ok (.ifCond .eq 51, 3) := by decide +kernel
theorem dX11_number_17 : decode cX11_number 17 = .ok (.aload_n 0, 1) := by decide +kernel
theorem dX11_number_18 : decode cX11_number 18 = .ok (.getfield 102, 3) := by decide +kernel
theorem dX11_number_21 : decode cX11_number 21 = .ok (.aload_n 0, 1) := by decide +kernel
theorem dX11_number_22 : decode cX11_number 22 = .ok (.getfield 112, 3) := by decide +kernel
theorem dX11_number_25 : decode cX11_number 25 = .ok (.isub, 1) := by decide +kernel
theorem dX11_number_26 : decode cX11_number 26 = .ok (.iconst 3, 1) := by decide +kernel
theorem dX11_number_27 : decode cX11_number 27 = .ok (.if_icmp .ge 23, 3) := by decide +kernel
theorem dX11_number_30 : decode cX11_number 30 = .ok (.bipush 10, 2) := by decide +kernel
theorem dX11_number_32 : decode cX11_number 32 = .ok (.iload_n 3, 1) := by decide +kernel
theorem dX11_number_33 : decode cX11_number 33 = .ok (.imul, 1) := by decide +kernel
theorem dX11_number_34 : decode cX11_number 34 = .ok (.aload_n 0, 1) := by decide +kernel
theorem dX11_number_35 : decode cX11_number 35 = .ok (.getfield 29, 3) := by decide +kernel
theorem dX11_number_38 : decode cX11_number 38 = .ok (.aload_n 0, 1) := by decide +kernel
theorem dX11_number_39 : decode cX11_number 39 = .ok (.getfield 102, 3) := by decide +kernel
theorem dX11_number_42 : decode cX11_number 42 = .ok (.baload, 1) := by decide +kernel
theorem dX11_number_43 : decode cX11_number 43 = .ok (.iadd, 1) := by decide +kernel
theorem dX11_number_44 : decode cX11_number 44 = .ok (.bipush 48, 2) := by decide +kernel
theorem dX11_number_46 : decode cX11_number 46 = .ok (.isub, 1) := by decide +kernel
theorem dX11_number_47 : decode cX11_number 47 = .ok (.goto 4, 3) := by decide +kernel
theorem dX11_number_50 : decode cX11_number 50 = .ok (.iload_n 3, 1) := by decide +kernel
theorem dX11_number_51 : decode cX11_number 51 = .ok (.istore_n 3, 1) := by decide +kernel
theorem dX11_number_52 : decode cX11_number 52 = .ok (.aload_n 0, 1) := by decide +kernel
theorem dX11_number_53 : decode cX11_number 53 = .ok (.dup, 1) := by decide +kernel
theorem dX11_number_54 : decode cX11_number 54 = .ok (.getfield 102, 3) := by decide +kernel
theorem dX11_number_57 : decode cX11_number 57 = .ok (.iconst 1, 1) := by decide +kernel
theorem dX11_number_58 : decode cX11_number 58 = .ok (.iadd, 1) := by decide +kernel
theorem dX11_number_59 : decode cX11_number 59 = .ok (.putfield 102, 3) := by decide +kernel
theorem dX11_number_62 : decode cX11_number 62 = .ok (.goto (-56), 3) := by decide +kernel
theorem dX11_number_65 : decode cX11_number 65 = .ok (.aload_n 0, 1) := by decide +kernel
theorem dX11_number_66 : decode cX11_number 66 = .ok (.getfield 102, 3) := by decide +kernel
theorem dX11_number_69 : decode cX11_number 69 = .ok (.aload_n 0, 1) := by decide +kernel
theorem dX11_number_70 : decode cX11_number 70 = .ok (.getfield 112, 3) := by decide +kernel
theorem dX11_number_73 : decode cX11_number 73 = .ok (.if_icmp .eq 26, 3) := by decide +kernel
theorem dX11_number_76 : decode cX11_number 76 = .ok (.aload_n 0, 1) := by decide +kernel
theorem dX11_number_77 : decode cX11_number 77 = .ok (.getfield 102, 3) := by decide +kernel
theorem dX11_number_80 : decode cX11_number 80 = .ok (.aload_n 0, 1) := by decide +kernel
theorem dX11_number_81 : decode cX11_number 81 = .ok (.getfield 112, 3) := by decide +kernel
theorem dX11_number_84 : decode cX11_number 84 = .ok (.isub, 1) := by decide +kernel
theorem dX11_number_85 : decode cX11_number 85 = .ok (.iconst 3, 1) := by decide +kernel
theorem dX11_number_86 : decode cX11_number 86 = .ok (.if_icmp .gt 13, 3) := by decide +kernel
theorem dX11_number_89 : decode cX11_number 89 = .ok (.iload_n 3, 1) := by decide +kernel
theorem dX11_number_90 : decode cX11_number 90 = .ok (.iload_n 1, 1) := by decide +kernel
theorem dX11_number_91 : decode cX11_number 91 = .ok (.if_icmp .lt 8, 3) := by decide +kernel
theorem dX11_number_94 : decode cX11_number 94 = .ok (.iload_n 3, 1) := by decide +kernel
theorem dX11_number_95 : decode cX11_number 95 = .ok (.iload_n 2, 1) := by decide +kernel
theorem dX11_number_96 : decode cX11_number 96 = .ok (.if_icmp .le 7, 3) := by decide +kernel
theorem dX11_number_99 : decode cX11_number 99 = .ok (.iconst (-1), 1) := by decide +kernel
theorem dX11_number_100 : decode cX11_number 100 = .ok (.goto 4, 3) := by decide +kernel
theorem dX11_number_103 : decode cX11_number 103 = .ok (.iload_n 3, 1) := by decide +kernel
theorem dX11_number_104 : decode cX11_number 104 = .ok (.ireturn, 1) := by decide +kernel
theorem dX11_after_0 : decode cX11_after 0 = .ok (.aload_n 0, 1) := by decide +kernel
theorem dX11_after_1 : decode cX11_after 1 = .ok (.invokevirtual 127, 3) := by decide +kernel
theorem dX11_after_4 : decode cX11_after 4 = .ok (.aload_n 0, 1) := by decide +kernel
theorem dX11_after_5 : decode cX11_after 5 = .ok (.aload_n 1, 1) := by decide +kernel
theorem dX11_after_6 : decode cX11_after 6 = .ok (.invokevirtual 130, 3) := by decide +kernel
theorem dX11_after_9 : decode cX11_after 9 = .ok (.ifCond .eq 12, 3) := by decide +kernel
theorem dX11_after_12 : decode cX11_after 12 = .ok (.aload_n 0, 1) := by decide +kernel
theorem dX11_after_13 : decode cX11_after 13 = .ok (.iload_n 2, 1) := by decide +kernel
theorem dX11_after_14 : decode cX11_after 14 = .ok (.iload_n 3, 1) := by decide +kernel
theorem dX11_after_15 : decode cX11_after 15 = .ok (.invokevirtual 134, 3) := by decide +kernel
theorem dX11_after_18 : decode cX11_after 18 = .ok (.goto 4, 3) := by decide +kernel
theorem dX11_after_21 : decode cX11_after 21 = .ok (.iconst (-1), 1) := by decide +kernel
theorem dX11_after_22 : decode cX11_after 22 = .ok (.ireturn, 1) := by decide +kernel
theorem dX11_fault_0 : decode cX11_fault 0 = .ok (.aload_n 0, 1) := by decide +kernel
theorem dX11_fault_1 : decode cX11_fault 1 = .ok (.iconst 0, 1) := by decide +kernel
theorem dX11_fault_2 : decode cX11_fault 2 = .ok (.putfield 3, 3) := by decide +kernel
theorem dX11_fault_5 : decode cX11_fault 5 = .ok (.aload_n 0, 1) := by decide +kernel
theorem dX11_fault_6 : decode cX11_fault 6 = .ok (.getfield 33, 3) := by decide +kernel
theorem dX11_fault_9 : decode cX11_fault 9 = .ok (.ireturn, 1) := by decide +kernel
theorem dX11_uses_0 : decode cX11_uses 0 = .ok (.aload_n 0, 1) := by decide +kernel
theorem dX11_uses_1 : decode cX11_uses 1 = .ok (.iconst 0, 1) := by decide +kernel
theorem dX11_uses_2 : decode cX11_uses 2 = .ok (.putfield 3, 3) := by decide +kernel
theorem dX11_uses_5 : decode cX11_uses 5 = .ok (.aload_n 0, 1) := by decide +kernel
theorem dX11_uses_6 : decode cX11_uses 6 = .ok (.aload_n 0, 1) := by decide +kernel
theorem dX11_uses_7 : decode cX11_uses 7 = .ok (.getfield 99, 3) := by decide +kernel
theorem dX11_uses_10 : decode cX11_uses 10 = .ok (.putfield 105, 3) := by decide +kernel
theorem dX11_uses_13 : decode cX11_uses 13 = .ok (.aload_n 0, 1) := by decide +kernel
theorem dX11_uses_14 : decode cX11_uses 14 = .ok (.iconst 0, 1) := by decide +kernel
theorem dX11_uses_15 : decode cX11_uses 15 = .ok (.putfield 99, 3) := by decide +kernel
theorem dX11_uses_18 : decode cX11_uses 18 = .ok (.aload_n 0, 1) := by decide +kernel
theorem dX11_uses_19 : decode cX11_uses 19 = .ok (.iconst 0, 1) := by decide +kernel
theorem dX11_uses_20 : decode cX11_uses 20 = .ok (.putfield 102, 3) := by decide +kernel
theorem dX11_uses_23 : decode cX11_uses 23 = .ok (.return_, 1) := by decide +kernel
theorem dX11_readNumber_0 : decode cX11_readNumber 0 = .ok (.aload_n 0, 1) := by decide +kernel
theorem dX11_readNumber_1 : decode cX11_readNumber 1 = .ok (.iload_n 2, 1) := by decide +kernel
theorem dX11_readNumber_2 : decode cX11_readNumber 2 = .ok (.iload_n 3, 1) := by decide +kernel
theorem dX11_readNumber_3 : decode cX11_readNumber 3 = .ok (.invokevirtual 134, 3) := by decide +kernel
theorem dX11_readNumber_6 : decode cX11_readNumber 6 = .ok (.istore 4, 2) := by decide +kernel
theorem dX11_readNumber_8 : decode cX11_readNumber 8 = .ok (.aload_n 0, 1) := by decide +kernel
theorem dX11_readNumber_9 : decode cX11_readNumber 9 = .ok (.getfield 13, 3) := by decide +kernel
theorem dX11_readNumber_12 : decode cX11_readNumber 12 = .ok (.iload_n 1, 1) := by decide +kernel
theorem dX11_readNumber_13 : decode cX11_readNumber 13 = .ok (.iload 4, 2) := by decide +kernel
theorem dX11_readNumber_15 : decode cX11_readNumber 15 = .ok (.ifCond .ge 12, 3) := by decide +kernel
theorem dX11_readNumber_18 : decode cX11_readNumber 18 = .ok (.aload_n 0, 1) := by decide +kernel
theorem dX11_readNumber_19 : decode cX11_readNumber 19 = .ok (.getfield 13, 3) := by decide +kernel
theorem dX11_readNumber_22 : decode cX11_readNumber 22 = .ok (.iload_n 1, 1) := by decide +kernel
theorem dX11_readNumber_23 : decode cX11_readNumber 23 = .ok (.iaload, 1) := by decide +kernel
theorem dX11_readNumber_24 : decode cX11_readNumber 24 = .ok (.goto 5, 3) := by decide +kernel
theorem dX11_readNumber_27 : decode cX11_readNumber 27 = .ok (.iload 4, 2) := by decide +kernel
theorem dX11_readNumber_29 : decode cX11_readNumber 29 = .ok (.iastore, 1) := by decide +kernel
theorem dX11_readNumber_30 : decode cX11_readNumber 30 = .ok (.iload 4, 2) := by decide +kernel
theorem dX11_readNumber_32 : decode cX11_readNumber 32 = .ok (.ifCond .lt 7, 3) := by decide +kernel
theorem dX11_readNumber_35 : decode cX11_readNumber 35 = .ok (.iconst 1, 1) := by decide +kernel
theorem dX11_readNumber_36 : decode cX11_readNumber 36 = .ok (.goto 4, 3) := by decide +kernel
theorem dX11_readNumber_39 : decode cX11_readNumber 39 = .ok (.iconst 0, 1) := by decide +kernel
theorem dX11_readNumber_40 : decode cX11_readNumber 40 = .ok (.ireturn, 1) := by decide +kernel
theorem dX11_deedsTold_0 : decode cX11_deedsTold 0 = .ok (.aload_n 0, 1) := by decide +kernel
theorem dX11_deedsTold_1 : decode cX11_deedsTold 1 = .ok (.invokevirtual 127, 3) := by decide +kernel
theorem dX11_deedsTold_4 : decode cX11_deedsTold 4 = .ok (.iconst 0, 1) := by decide +kernel
theorem dX11_deedsTold_5 : decode cX11_deedsTold 5 = .ok (.istore_n 1, 1) := by decide +kernel
theorem dX11_deedsTold_6 : decode cX11_deedsTold 6 = .ok (.aload_n 0, 1) := by decide +kernel
theorem dX11_deedsTold_7 : decode cX11_deedsTold 7 = .ok (.getfield 102, 3) := by decide +kernel
theorem dX11_deedsTold_10 : decode cX11_deedsTold 10 = .ok (.aload_n 0, 1) := by decide +kernel
theorem dX11_deedsTold_11 : decode cX11_deedsTold 11 = .ok (.getfield 112, 3) := by decide +kernel
theorem dX11_deedsTold_14 : decode cX11_deedsTold 14 = .ok (.if_icmp .le 7, 3) := by decide +kernel
theorem dX11_deedsTold_17 : decode cX11_deedsTold 17 = .ok (.iconst 1, 1) := by decide +kernel
theorem dX11_deedsTold_18 : decode cX11_deedsTold 18 = .ok (.goto 4, 3) := by decide +kernel
theorem dX11_deedsTold_21 : decode cX11_deedsTold 21 = .ok (.iconst 0, 1) := by decide +kernel
theorem dX11_deedsTold_22 : decode cX11_deedsTold 22 = .ok (.istore_n 2, 1) := by decide +kernel
theorem dX11_deedsTold_23 : decode cX11_deedsTold 23 = .ok (.aload_n 0, 1) := by decide +kernel
theorem dX11_deedsTold_24 : decode cX11_deedsTold 24 = .ok (.getfield 112, 3) := by decide +kernel
theorem dX11_deedsTold_27 : decode cX11_deedsTold 27 = .ok (.istore_n 3, 1) := by decide +kernel
theorem dX11_deedsTold_28 : decode cX11_deedsTold 28 = .ok (.iload_n 3, 1) := by decide +kernel
theorem dX11_deedsTold_29 : decode cX11_deedsTold 29 = .ok (.aload_n 0, 1) := by decide +kernel
theorem dX11_deedsTold_30 : decode cX11_deedsTold 30 = .ok (.getfield 102, 3) := by decide +kernel
theorem dX11_deedsTold_33 : decode cX11_deedsTold 33 = .ok (.if_icmp .ge 64, 3) := by decide +kernel
theorem dX11_deedsTold_36 : decode cX11_deedsTold 36 = .ok (.iload_n 2, 1) := by decide +kernel
theorem dX11_deedsTold_37 : decode cX11_deedsTold 37 = .ok (.ifCond .eq 60, 3) := by decide +kernel
theorem dX11_deedsTold_40 : decode cX11_deedsTold 40 = .ok (.aload_n 0, 1) := by decide +kernel
theorem dX11_deedsTold_41 : decode cX11_deedsTold 41 = .ok (.getfield 29, 3) := by decide +kernel
theorem dX11_deedsTold_44 : decode cX11_deedsTold 44 = .ok (.iload_n 3, 1) := by decide +kernel
theorem dX11_deedsTold_45 : decode cX11_deedsTold 45 = .ok (.baload, 1) := by decide +kernel
theorem dX11_deedsTold_46 : decode cX11_deedsTold 46 = .ok (.bipush 97, 2) := by decide +kernel
theorem dX11_deedsTold_48 : decode cX11_deedsTold 48 = .ok (.isub, 1) := by decide +kernel
theorem dX11_deedsTold_49 : decode cX11_deedsTold 49 = .ok (.istore 4, 2) := by decide +kernel
theorem dX11_deedsTold_51 : decode cX11_deedsTold 51 = .ok (.iload 4, 2) := by decide +kernel
theorem dX11_deedsTold_53 : decode cX11_deedsTold 53 = .ok (.iconst 0, 1) := by decide +kernel
theorem dX11_deedsTold_54 : decode cX11_deedsTold 54 = .ok (.iconst 5, 1) := by decide +kernel
theorem dX11_deedsTold_55 : decode cX11_deedsTold 55 = .ok (.invokestatic 87, 3) := by decide +kernel
theorem dX11_deedsTold_58 : decode cX11_deedsTold 58 = .ok (.ifCond .eq 16, 3) := by decide +kernel
theorem dX11_deedsTold_61 : decode cX11_deedsTold 61 = .ok (.iload_n 1, 1) := by decide +kernel
theorem dX11_deedsTold_62 : decode cX11_deedsTold 62 = .ok (.iload 4, 2) := by decide +kernel
theorem dX11_deedsTold_64 : decode cX11_deedsTold 64 = .ok (.invokestatic 137, 3) := by decide +kernel
theorem dX11_deedsTold_67 : decode cX11_deedsTold 67 = .ok (.ifCond .ne 7, 3) := by decide +kernel
theorem dX11_deedsTold_70 : decode cX11_deedsTold 70 = .ok (.iconst 1, 1) := by decide +kernel
theorem dX11_deedsTold_71 : decode cX11_deedsTold 71 = .ok (.goto 4, 3) := by decide +kernel
theorem dX11_deedsTold_74 : decode cX11_deedsTold 74 = .ok (.iconst 0, 1) := by decide +kernel
theorem dX11_deedsTold_75 : decode cX11_deedsTold 75 = .ok (.istore_n 2, 1) := by decide +kernel
theorem dX11_deedsTold_76 : decode cX11_deedsTold 76 = .ok (.iload_n 1, 1) := by decide +kernel
theorem dX11_deedsTold_77 : decode cX11_deedsTold 77 = .ok (.iload_n 2, 1) := by decide +kernel
theorem dX11_deedsTold_78 : decode cX11_deedsTold 78 = .ok (.ifCond .eq 10, 3) := by decide +kernel
theorem dX11_deedsTold_81 : decode cX11_deedsTold 81 = .ok (.iconst 1, 1) := by decide +kernel
theorem dX11_deedsTold_82 : decode cX11_deedsTold 82 = .ok (.iload 4, 2) := by decide +kernel
theorem dX11_deedsTold_84 : decode cX11_deedsTold 84 = .ok (.ishl, 1) := by decide +kernel
theorem dX11_deedsTold_85 : decode cX11_deedsTold 85 = .ok (.goto 4, 3) := by decide +kernel
theorem dX11_deedsTold_88 : decode cX11_deedsTold 88 = .ok (.iconst 0, 1) := by decide +kernel
theorem dX11_deedsTold_89 : decode cX11_deedsTold 89 = .ok (.ior, 1) := by decide +kernel
theorem dX11_deedsTold_90 : decode cX11_deedsTold 90 = .ok (.istore_n 1, 1) := by decide +kernel
theorem dX11_deedsTold_91 : decode cX11_deedsTold 91 = .ok (.iinc 3 1, 3) := by decide +kernel
theorem dX11_deedsTold_94 : decode cX11_deedsTold 94 = .ok (.goto (-66), 3) := by decide +kernel
theorem dX11_deedsTold_97 : decode cX11_deedsTold 97 = .ok (.iload_n 2, 1) := by decide +kernel
theorem dX11_deedsTold_98 : decode cX11_deedsTold 98 = .ok (.ifCond .eq 7, 3) := by decide +kernel
theorem dX11_deedsTold_101 : decode cX11_deedsTold 101 = .ok (.iload_n 1, 1) := by decide +kernel
theorem dX11_deedsTold_102 : decode cX11_deedsTold 102 = .ok (.goto 4, 3) := by decide +kernel
theorem dX11_deedsTold_105 : decode cX11_deedsTold 105 = .ok (.iconst (-1), 1) := by decide +kernel
theorem dX11_deedsTold_106 : decode cX11_deedsTold 106 = .ok (.ireturn, 1) := by decide +kernel
theorem dX11_readProp_0 : decode cX11_readProp 0 = .ok (.aload_n 0, 1) := by decide +kernel
theorem dX11_readProp_1 : decode cX11_readProp 1 = .ok (.invokevirtual 83, 3) := by decide +kernel
theorem dX11_readProp_4 : decode cX11_readProp 4 = .ok (.istore_n 1, 1) := by decide +kernel
theorem dX11_readProp_5 : decode cX11_readProp 5 = .ok (.iload_n 1, 1) := by decide +kernel
theorem dX11_readProp_6 : decode cX11_readProp 6 = .ok (.bipush 8, 2) := by decide +kernel
theorem dX11_readProp_8 : decode cX11_readProp 8 = .ok (.if_icmp .ne 5, 3) := by decide +kernel
theorem dX11_readProp_11 : decode cX11_readProp 11 = .ok (.iconst 0, 1) := by decide +kernel
theorem dX11_readProp_12 : decode cX11_readProp 12 = .ok (.ireturn, 1) := by decide +kernel
theorem dX11_readProp_13 : decode cX11_readProp 13 = .ok (.aload_n 0, 1) := by decide +kernel
theorem dX11_readProp_14 : decode cX11_readProp 14 = .ok (.invokevirtual 140, 3) := by decide +kernel
theorem dX11_readProp_17 : decode cX11_readProp 17 = .ok (.istore_n 2, 1) := by decide +kernel
theorem dX11_readProp_18 : decode cX11_readProp 18 = .ok (.iload_n 2, 1) := by decide +kernel
theorem dX11_readProp_19 : decode cX11_readProp 19 = .ok (.ifCond .lt 11, 3) := by decide +kernel
theorem dX11_readProp_22 : decode cX11_readProp 22 = .ok (.iload_n 2, 1) := by decide +kernel
theorem dX11_readProp_23 : decode cX11_readProp 23 = .ok (.invokestatic 143, 3) := by decide +kernel
theorem dX11_readProp_26 : decode cX11_readProp 26 = .ok (.iconst 1, 1) := by decide +kernel
theorem dX11_readProp_27 : decode cX11_readProp 27 = .ok (.if_icmp .eq 5, 3) := by decide +kernel
theorem dX11_readProp_30 : decode cX11_readProp 30 = .ok (.iconst 0, 1) := by decide +kernel
theorem dX11_readProp_31 : decode cX11_readProp 31 = .ok (.ireturn, 1) := by decide +kernel
theorem dX11_readProp_32 : decode cX11_readProp 32 = .ok (.aload_n 0, 1) := by decide +kernel
theorem dX11_readProp_33 : decode cX11_readProp 33 = .ok (.ldc 149, 2) := by decide +kernel
theorem dX11_readProp_35 : decode cX11_readProp 35 = .ok (.iconst 0, 1) := by decide +kernel
theorem dX11_readProp_36 : decode cX11_readProp 36 = .ok (.bipush 20, 2) := by decide +kernel
theorem dX11_readProp_38 : decode cX11_readProp 38 = .ok (.invokevirtual 151, 3) := by decide +kernel
theorem dX11_readProp_41 : decode cX11_readProp 41 = .ok (.istore_n 3, 1) := by decide +kernel
theorem dX11_readProp_42 : decode cX11_readProp 42 = .ok (.iload_n 3, 1) := by decide +kernel
theorem dX11_readProp_43 : decode cX11_readProp 43 = .ok (.ifCond .ge 5, 3) := by decide +kernel
theorem dX11_readProp_46 : decode cX11_readProp 46 = .ok (.iconst 0, 1) := by decide +kernel
theorem dX11_readProp_47 : decode cX11_readProp 47 = .ok (.ireturn, 1) := by decide +kernel
theorem dX11_readProp_48 : decode cX11_readProp 48 = .ok (.iconst (-1), 1) := by decide +kernel
theorem dX11_readProp_49 : decode cX11_readProp 49 = .ok (.istore 4, 2) := by decide +kernel
theorem dX11_readProp_51 : decode cX11_readProp 51 = .ok (.aload_n 0, 1) := by decide +kernel
theorem dX11_readProp_52 : decode cX11_readProp 52 = .ok (.ldc 155, 2) := by decide +kernel
theorem dX11_readProp_54 : decode cX11_readProp 54 = .ok (.invokevirtual 157, 3) := by decide +kernel
theorem dX11_readProp_57 : decode cX11_readProp 57 = .ok (.ifCond .eq 29, 3) := by decide +kernel
theorem dX11_readProp_60 : decode cX11_readProp 60 = .ok (.aload_n 0, 1) := by decide +kernel
theorem dX11_readProp_61 : decode cX11_readProp 61 = .ok (.iconst 0, 1) := by decide +kernel
theorem dX11_readProp_62 : decode cX11_readProp 62 = .ok (.bipush 9, 2) := by decide +kernel
theorem dX11_readProp_64 : decode cX11_readProp 64 = .ok (.invokevirtual 134, 3) := by decide +kernel
theorem dX11_readProp_67 : decode cX11_readProp 67 = .ok (.istore 4, 2) := by decide +kernel
theorem dX11_readProp_69 : decode cX11_readProp 69 = .ok (.iload 4, 2) := by decide +kernel
theorem dX11_readProp_71 : decode cX11_readProp 71 = .ok (.ifCond .lt 13, 3) := by decide +kernel
theorem dX11_readProp_74 : decode cX11_readProp 74 = .ok (.aload_n 0, 1) := by decide +kernel
theorem dX11_readProp_75 : decode cX11_readProp 75 = .ok (.iload 4, 2) := by decide +kernel
theorem dX11_readProp_77 : decode cX11_readProp 77 = .ok (.invokevirtual 160, 3) := by decide +kernel
theorem dX11_readProp_80 : decode cX11_readProp 80 = .ok (.iconst (-1), 1) := by decide +kernel
theorem dX11_readProp_81 : decode cX11_readProp 81 = .ok (.if_icmp .eq 5, 3) := by decide +kernel
theorem dX11_readProp_84 : decode cX11_readProp 84 = .ok (.iconst 0, 1) := by decide +kernel
theorem dX11_readProp_85 : decode cX11_readProp 85 = .ok (.ireturn, 1) := by decide +kernel
theorem dX11_readProp_86 : decode cX11_readProp 86 = .ok (.aload_n 0, 1) := by decide +kernel
theorem dX11_readProp_87 : decode cX11_readProp 87 = .ok (.ldc 163, 2) := by decide +kernel
theorem dX11_readProp_89 : decode cX11_readProp 89 = .ok (.invokevirtual 157, 3) := by decide +kernel
theorem dX11_readProp_92 : decode cX11_readProp 92 = .ok (.ifCond .eq 13, 3) := by decide +kernel
theorem dX11_readProp_95 : decode cX11_readProp 95 = .ok (.aload_n 0, 1) := by decide +kernel
theorem dX11_readProp_96 : decode cX11_readProp 96 = .ok (.iconst 0, 1) := by decide +kernel
theorem dX11_readProp_97 : decode cX11_readProp 97 = .ok (.bipush 99, 2) := by decide +kernel
theorem dX11_readProp_99 : decode cX11_readProp 99 = .ok (.invokevirtual 134, 3) := by decide +kernel
theorem dX11_readProp_102 : decode cX11_readProp 102 = .ok (.goto 4, 3) := by decide +kernel
theorem dX11_readProp_105 : decode cX11_readProp 105 = .ok (.iconst 0, 1) := by decide +kernel
theorem dX11_readProp_106 : decode cX11_readProp 106 = .ok (.istore 5, 2) := by decide +kernel
theorem dX11_readProp_108 : decode cX11_readProp 108 = .ok (.iload 5, 2) := by decide +kernel
theorem dX11_readProp_110 : decode cX11_readProp 110 = .ok (.ifCond .ge 5, 3) := by decide +kernel
theorem dX11_readProp_113 : decode cX11_readProp 113 = .ok (.iconst 0, 1) := by decide +kernel
theorem dX11_readProp_114 : decode cX11_readProp 114 = .ok (.ireturn, 1) := by decide +kernel
theorem dX11_readProp_115 : decode cX11_readProp 115 = .ok (.aload_n 0, 1) := by decide +kernel
theorem dX11_readProp_116 : decode cX11_readProp 116 = .ok (.getfield 13, 3) := by decide +kernel
theorem dX11_readProp_119 : decode cX11_readProp 119 = .ok (.iload_n 1, 1) := by decide +kernel
theorem dX11_readProp_120 : decode cX11_readProp 120 = .ok (.iconst 0, 1) := by decide +kernel
theorem dX11_readProp_121 : decode cX11_readProp 121 = .ok (.invokestatic 70, 3) := by decide +kernel
theorem dX11_readProp_124 : decode cX11_readProp 124 = .ok (.iload_n 2, 1) := by decide +kernel
theorem dX11_readProp_125 : decode cX11_readProp 125 = .ok (.invokestatic 165, 3) := by decide +kernel
theorem dX11_readProp_128 : decode cX11_readProp 128 = .ok (.iastore, 1) := by decide +kernel
theorem dX11_readProp_129 : decode cX11_readProp 129 = .ok (.aload_n 0, 1) := by decide +kernel
theorem dX11_readProp_130 : decode cX11_readProp 130 = .ok (.getfield 13, 3) := by decide +kernel
theorem dX11_readProp_133 : decode cX11_readProp 133 = .ok (.iload_n 1, 1) := by decide +kernel
theorem dX11_readProp_134 : decode cX11_readProp 134 = .ok (.iconst 1, 1) := by decide +kernel
theorem dX11_readProp_135 : decode cX11_readProp 135 = .ok (.invokestatic 70, 3) := by decide +kernel
theorem dX11_readProp_138 : decode cX11_readProp 138 = .ok (.iload_n 3, 1) := by decide +kernel
theorem dX11_readProp_139 : decode cX11_readProp 139 = .ok (.iastore, 1) := by decide +kernel
theorem dX11_readProp_140 : decode cX11_readProp 140 = .ok (.aload_n 0, 1) := by decide +kernel
theorem dX11_readProp_141 : decode cX11_readProp 141 = .ok (.getfield 13, 3) := by decide +kernel
theorem dX11_readProp_144 : decode cX11_readProp 144 = .ok (.iload_n 1, 1) := by decide +kernel
theorem dX11_readProp_145 : decode cX11_readProp 145 = .ok (.iconst 2, 1) := by decide +kernel
theorem dX11_readProp_146 : decode cX11_readProp 146 = .ok (.invokestatic 70, 3) := by decide +kernel
theorem dX11_readProp_149 : decode cX11_readProp 149 = .ok (.iload 5, 2) := by decide +kernel
theorem dX11_readProp_151 : decode cX11_readProp 151 = .ok (.iastore, 1) := by decide +kernel
theorem dX11_readProp_152 : decode cX11_readProp 152 = .ok (.aload_n 0, 1) := by decide +kernel
theorem dX11_readProp_153 : decode cX11_readProp 153 = .ok (.getfield 13, 3) := by decide +kernel
theorem dX11_readProp_156 : decode cX11_readProp 156 = .ok (.iload_n 1, 1) := by decide +kernel
theorem dX11_readProp_157 : decode cX11_readProp 157 = .ok (.iconst 3, 1) := by decide +kernel
theorem dX11_readProp_158 : decode cX11_readProp 158 = .ok (.invokestatic 70, 3) := by decide +kernel
theorem dX11_readProp_161 : decode cX11_readProp 161 = .ok (.iload 4, 2) := by decide +kernel
theorem dX11_readProp_163 : decode cX11_readProp 163 = .ok (.iastore, 1) := by decide +kernel
theorem dX11_readProp_164 : decode cX11_readProp 164 = .ok (.aload_n 0, 1) := by decide +kernel
theorem dX11_readProp_165 : decode cX11_readProp 165 = .ok (.getfield 13, 3) := by decide +kernel
theorem dX11_readProp_168 : decode cX11_readProp 168 = .ok (.iconst 0, 1) := by decide +kernel
theorem dX11_readProp_169 : decode cX11_readProp 169 = .ok (.dup2, 1) := by decide +kernel
theorem dX11_readProp_170 : decode cX11_readProp 170 = .ok (.iaload, 1) := by decide +kernel
theorem dX11_readProp_171 : decode cX11_readProp 171 = .ok (.iconst 1, 1) := by decide +kernel
theorem dX11_readProp_172 : decode cX11_readProp 172 = .ok (.iadd, 1) := by decide +kernel
theorem dX11_readProp_173 : decode cX11_readProp 173 = .ok (.iastore, 1) := by decide +kernel
theorem dX11_readProp_174 : decode cX11_readProp 174 = .ok (.iconst 1, 1) := by decide +kernel
theorem dX11_readProp_175 : decode cX11_readProp 175 = .ok (.ireturn, 1) := by decide +kernel
theorem dX11_readAccused_0 : decode cX11_readAccused 0 = .ok (.aload_n 0, 1) := by decide +kernel
theorem dX11_readAccused_1 : decode cX11_readAccused 1 = .ok (.invokevirtual 91, 3) := by decide +kernel
theorem dX11_readAccused_4 : decode cX11_readAccused 4 = .ok (.istore_n 1, 1) := by decide +kernel
theorem dX11_readAccused_5 : decode cX11_readAccused 5 = .ok (.iload_n 1, 1) := by decide +kernel
theorem dX11_readAccused_6 : decode cX11_readAccused 6 = .ok (.bipush 6, 2) := by decide +kernel
theorem dX11_readAccused_8 : decode cX11_readAccused 8 = .ok (.if_icmp .ne 5, 3) := by decide +kernel
theorem dX11_readAccused_11 : decode cX11_readAccused 11 = .ok (.iconst 0, 1) := by decide +kernel
theorem dX11_readAccused_12 : decode cX11_readAccused 12 = .ok (.ireturn, 1) := by decide +kernel
theorem dX11_readAccused_13 : decode cX11_readAccused 13 = .ok (.aload_n 0, 1) := by decide +kernel
theorem dX11_readAccused_14 : decode cX11_readAccused 14 = .ok (.ldc 168, 2) := by decide +kernel
theorem dX11_readAccused_16 : decode cX11_readAccused 16 = .ok (.iconst 1, 1) := by decide +kernel
theorem dX11_readAccused_17 : decode cX11_readAccused 17 = .ok (.bipush 60, 2) := by decide +kernel
theorem dX11_readAccused_19 : decode cX11_readAccused 19 = .ok (.invokevirtual 151, 3) := by decide +kernel
theorem dX11_readAccused_22 : decode cX11_readAccused 22 = .ok (.istore_n 2, 1) := by decide +kernel
theorem dX11_readAccused_23 : decode cX11_readAccused 23 = .ok (.iload_n 2, 1) := by decide +kernel
theorem dX11_readAccused_24 : decode cX11_readAccused 24 = .ok (.ifCond .ge 5, 3) := by decide +kernel
theorem dX11_readAccused_27 : decode cX11_readAccused 27 = .ok (.iconst 0, 1) := by decide +kernel
theorem dX11_readAccused_28 : decode cX11_readAccused 28 = .ok (.ireturn, 1) := by decide +kernel
theorem dX11_readAccused_29 : decode cX11_readAccused 29 = .ok (.aload_n 0, 1) := by decide +kernel
theorem dX11_readAccused_30 : decode cX11_readAccused 30 = .ok (.ldc 170, 2) := by decide +kernel
theorem dX11_readAccused_32 : decode cX11_readAccused 32 = .ok (.invokevirtual 157, 3) := by decide +kernel
theorem dX11_readAccused_35 : decode cX11_readAccused 35 = .ok (.ifCond .eq 10, 3) := by decide +kernel
theorem dX11_readAccused_38 : decode cX11_readAccused 38 = .ok (.aload_n 0, 1) := by decide +kernel
theorem dX11_readAccused_39 : decode cX11_readAccused 39 = .ok (.invokevirtual 140, 3) := by decide +kernel
theorem dX11_readAccused_42 : decode cX11_readAccused 42 = .ok (.goto 4, 3) := by decide +kernel
theorem dX11_readAccused_45 : decode cX11_readAccused 45 = .ok (.iconst 0, 1) := by decide +kernel
theorem dX11_readAccused_46 : decode cX11_readAccused 46 = .ok (.istore_n 3, 1) := by decide +kernel
theorem dX11_readAccused_47 : decode cX11_readAccused 47 = .ok (.iload_n 3, 1) := by decide +kernel
theorem dX11_readAccused_48 : decode cX11_readAccused 48 = .ok (.ifCond .ge 5, 3) := by decide +kernel
theorem dX11_readAccused_51 : decode cX11_readAccused 51 = .ok (.iconst 0, 1) := by decide +kernel
theorem dX11_readAccused_52 : decode cX11_readAccused 52 = .ok (.ireturn, 1) := by decide +kernel
theorem dX11_readAccused_53 : decode cX11_readAccused 53 = .ok (.iconst 0, 1) := by decide +kernel
theorem dX11_readAccused_54 : decode cX11_readAccused 54 = .ok (.istore 4, 2) := by decide +kernel
theorem dX11_readAccused_56 : decode cX11_readAccused 56 = .ok (.aload_n 0, 1) := by decide +kernel
theorem dX11_readAccused_57 : decode cX11_readAccused 57 = .ok (.ldc 172, 2) := by decide +kernel
theorem dX11_readAccused_59 : decode cX11_readAccused 59 = .ok (.invokevirtual 157, 3) := by decide +kernel
theorem dX11_readAccused_62 : decode cX11_readAccused 62 = .ok (.ifCond .eq 29, 3) := by decide +kernel
theorem dX11_readAccused_65 : decode cX11_readAccused 65 = .ok (.aload_n 0, 1) := by decide +kernel
theorem dX11_readAccused_66 : decode cX11_readAccused 66 = .ok (.iconst 0, 1) := by decide +kernel
theorem dX11_readAccused_67 : decode cX11_readAccused 67 = .ok (.aload_n 0, 1) := by decide +kernel
theorem dX11_readAccused_68 : decode cX11_readAccused 68 = .ok (.invokevirtual 83, 3) := by decide +kernel
theorem dX11_readAccused_71 : decode cX11_readAccused 71 = .ok (.iconst 1, 1) := by decide +kernel
theorem dX11_readAccused_72 : decode cX11_readAccused 72 = .ok (.isub, 1) := by decide +kernel
theorem dX11_readAccused_73 : decode cX11_readAccused 73 = .ok (.invokevirtual 134, 3) := by decide +kernel
theorem dX11_readAccused_76 : decode cX11_readAccused 76 = .ok (.istore 5, 2) := by decide +kernel
theorem dX11_readAccused_78 : decode cX11_readAccused 78 = .ok (.iload 5, 2) := by decide +kernel
theorem dX11_readAccused_80 : decode cX11_readAccused 80 = .ok (.ifCond .ge 5, 3) := by decide +kernel
theorem dX11_readAccused_83 : decode cX11_readAccused 83 = .ok (.iconst 0, 1) := by decide +kernel
theorem dX11_readAccused_84 : decode cX11_readAccused 84 = .ok (.ireturn, 1) := by decide +kernel
theorem dX11_readAccused_85 : decode cX11_readAccused 85 = .ok (.iconst 1, 1) := by decide +kernel
theorem dX11_readAccused_86 : decode cX11_readAccused 86 = .ok (.iload 5, 2) := by decide +kernel
theorem dX11_readAccused_88 : decode cX11_readAccused 88 = .ok (.ishl, 1) := by decide +kernel
theorem dX11_readAccused_89 : decode cX11_readAccused 89 = .ok (.istore 4, 2) := by decide +kernel
theorem dX11_readAccused_91 : decode cX11_readAccused 91 = .ok (.aload_n 0, 1) := by decide +kernel
theorem dX11_readAccused_92 : decode cX11_readAccused 92 = .ok (.getfield 13, 3) := by decide +kernel
theorem dX11_readAccused_95 : decode cX11_readAccused 95 = .ok (.iload_n 1, 1) := by decide +kernel
theorem dX11_readAccused_96 : decode cX11_readAccused 96 = .ok (.iconst 0, 1) := by decide +kernel
theorem dX11_readAccused_97 : decode cX11_readAccused 97 = .ok (.invokestatic 77, 3) := by decide +kernel
theorem dX11_readAccused_100 : decode cX11_readAccused 100 = .ok (.iload_n 3, 1) := by decide +kernel
theorem dX11_readAccused_101 : decode cX11_readAccused 101 = .ok (.iastore, 1) := by decide +kernel
theorem dX11_readAccused_102 : decode cX11_readAccused 102 = .ok (.aload_n 0, 1) := by decide +kernel
theorem dX11_readAccused_103 : decode cX11_readAccused 103 = .ok (.getfield 13, 3) := by decide +kernel
theorem dX11_readAccused_106 : decode cX11_readAccused 106 = .ok (.iload_n 1, 1) := by decide +kernel
theorem dX11_readAccused_107 : decode cX11_readAccused 107 = .ok (.iconst 1, 1) := by decide +kernel
theorem dX11_readAccused_108 : decode cX11_readAccused 108 = .ok (.invokestatic 77, 3) := by decide +kernel
theorem dX11_readAccused_111 : decode cX11_readAccused 111 = .ok (.iload_n 2, 1) := by decide +kernel
theorem dX11_readAccused_112 : decode cX11_readAccused 112 = .ok (.iastore, 1) := by decide +kernel
theorem dX11_readAccused_113 : decode cX11_readAccused 113 = .ok (.aload_n 0, 1) := by decide +kernel
theorem dX11_readAccused_114 : decode cX11_readAccused 114 = .ok (.getfield 13, 3) := by decide +kernel
theorem dX11_readAccused_117 : decode cX11_readAccused 117 = .ok (.iload_n 1, 1) := by decide +kernel
theorem dX11_readAccused_118 : decode cX11_readAccused 118 = .ok (.iconst 2, 1) := by decide +kernel
theorem dX11_readAccused_119 : decode cX11_readAccused 119 = .ok (.invokestatic 77, 3) := by decide +kernel
theorem dX11_readAccused_122 : decode cX11_readAccused 122 = .ok (.iload 4, 2) := by decide +kernel
theorem dX11_readAccused_124 : decode cX11_readAccused 124 = .ok (.iastore, 1) := by decide +kernel
theorem dX11_readAccused_125 : decode cX11_readAccused 125 = .ok (.aload_n 0, 1) := by decide +kernel
theorem dX11_readAccused_126 : decode cX11_readAccused 126 = .ok (.getfield 13, 3) := by decide +kernel
theorem dX11_readAccused_129 : decode cX11_readAccused 129 = .ok (.iload_n 1, 1) := by decide +kernel
theorem dX11_readAccused_130 : decode cX11_readAccused 130 = .ok (.iconst 3, 1) := by decide +kernel
theorem dX11_readAccused_131 : decode cX11_readAccused 131 = .ok (.invokestatic 77, 3) := by decide +kernel
theorem dX11_readAccused_134 : decode cX11_readAccused 134 = .ok (.iconst 0, 1) := by decide +kernel
theorem dX11_readAccused_135 : decode cX11_readAccused 135 = .ok (.iastore, 1) := by decide +kernel
theorem dX11_readAccused_136 : decode cX11_readAccused 136 = .ok (.aload_n 0, 1) := by decide +kernel
theorem dX11_readAccused_137 : decode cX11_readAccused 137 = .ok (.getfield 13, 3) := by decide +kernel
theorem dX11_readAccused_140 : decode cX11_readAccused 140 = .ok (.iconst 1, 1) := by decide +kernel
theorem dX11_readAccused_141 : decode cX11_readAccused 141 = .ok (.dup2, 1) := by decide +kernel
theorem dX11_readAccused_142 : decode cX11_readAccused 142 = .ok (.iaload, 1) := by decide +kernel
theorem dX11_readAccused_143 : decode cX11_readAccused 143 = .ok (.iconst 1, 1) := by decide +kernel
theorem dX11_readAccused_144 : decode cX11_readAccused 144 = .ok (.iadd, 1) := by decide +kernel
theorem dX11_readAccused_145 : decode cX11_readAccused 145 = .ok (.iastore, 1) := by decide +kernel
theorem dX11_readAccused_146 : decode cX11_readAccused 146 = .ok (.iconst 1, 1) := by decide +kernel
theorem dX11_readAccused_147 : decode cX11_readAccused 147 = .ok (.ireturn, 1) := by decide +kernel
theorem dX11_readCourtLine_0 : decode cX11_readCourtLine 0 = .ok (.aload_n 0, 1) := by decide +kernel
theorem dX11_readCourtLine_1 : decode cX11_readCourtLine 1 = .ok (.ldc 174, 2) := by decide +kernel
theorem dX11_readCourtLine_3 : decode cX11_readCourtLine 3 = .ok (.invokevirtual 130, 3) := by decide +kernel
theorem dX11_readCourtLine_6 : decode cX11_readCourtLine 6 = .ok (.ifCond .eq 8, 3) := by decide +kernel
theorem dX11_readCourtLine_9 : decode cX11_readCourtLine 9 = .ok (.aload_n 0, 1) := by decide +kernel
theorem dX11_readCourtLine_10 : decode cX11_readCourtLine 10 = .ok (.invokevirtual 176, 3) := by decide +kernel
theorem dX11_readCourtLine_13 : decode cX11_readCourtLine 13 = .ok (.ireturn, 1) := by decide +kernel
theorem dX11_readCourtLine_14 : decode cX11_readCourtLine 14 = .ok (.aload_n 0, 1) := by decide +kernel
theorem dX11_readCourtLine_15 : decode cX11_readCourtLine 15 = .ok (.ldc 180, 2) := by decide +kernel
theorem dX11_readCourtLine_17 : decode cX11_readCourtLine 17 = .ok (.invokevirtual 130, 3) := by decide +kernel
theorem dX11_readCourtLine_20 : decode cX11_readCourtLine 20 = .ok (.ifCond .eq 8, 3) := by decide +kernel
theorem dX11_readCourtLine_23 : decode cX11_readCourtLine 23 = .ok (.aload_n 0, 1) := by decide +kernel
theorem dX11_readCourtLine_24 : decode cX11_readCourtLine 24 = .ok (.invokevirtual 182, 3) := by decide +kernel
theorem dX11_readCourtLine_27 : decode cX11_readCourtLine 27 = .ok (.ireturn, 1) := by decide +kernel
theorem dX11_readCourtLine_28 : decode cX11_readCourtLine 28 = .ok (.aload_n 0, 1) := by decide +kernel
theorem dX11_readCourtLine_29 : decode cX11_readCourtLine 29 = .ok (.ldc 185, 2) := by decide +kernel
theorem dX11_readCourtLine_31 : decode cX11_readCourtLine 31 = .ok (.invokevirtual 130, 3) := by decide +kernel
theorem dX11_readCourtLine_34 : decode cX11_readCourtLine 34 = .ok (.ifCond .eq 12, 3) := by decide +kernel
theorem dX11_readCourtLine_37 : decode cX11_readCourtLine 37 = .ok (.aload_n 0, 1) := by decide +kernel
theorem dX11_readCourtLine_38 : decode cX11_readCourtLine 38 = .ok (.iconst 5, 1) := by decide +kernel
theorem dX11_readCourtLine_39 : decode cX11_readCourtLine 39 = .ok (.iconst 0, 1) := by decide +kernel
theorem dX11_readCourtLine_40 : decode cX11_readCourtLine 40 = .ok (.bipush 9, 2) := by decide +kernel
theorem dX11_readCourtLine_42 : decode cX11_readCourtLine 42 = .ok (.invokevirtual 187, 3) := by decide +kernel
theorem dX11_readCourtLine_45 : decode cX11_readCourtLine 45 = .ok (.ireturn, 1) := by decide +kernel
theorem dX11_readCourtLine_46 : decode cX11_readCourtLine 46 = .ok (.aload_n 0, 1) := by decide +kernel
theorem dX11_readCourtLine_47 : decode cX11_readCourtLine 47 = .ok (.ldc 190, 2) := by decide +kernel
theorem dX11_readCourtLine_49 : decode cX11_readCourtLine 49 = .ok (.invokevirtual 130, 3) := by decide +kernel
theorem dX11_readCourtLine_52 : decode cX11_readCourtLine 52 = .ok (.ifCond .eq 13, 3) := by decide +kernel
theorem dX11_readCourtLine_55 : decode cX11_readCourtLine 55 = .ok (.aload_n 0, 1) := by decide +kernel
theorem dX11_readCourtLine_56 : decode cX11_readCourtLine 56 = .ok (.bipush 6, 2) := by decide +kernel
theorem dX11_readCourtLine_58 : decode cX11_readCourtLine 58 = .ok (.iconst 0, 1) := by decide +kernel
theorem dX11_readCourtLine_59 : decode cX11_readCourtLine 59 = .ok (.bipush 20, 2) := by decide +kernel
theorem dX11_readCourtLine_61 : decode cX11_readCourtLine 61 = .ok (.invokevirtual 187, 3) := by decide +kernel
theorem dX11_readCourtLine_64 : decode cX11_readCourtLine 64 = .ok (.ireturn, 1) := by decide +kernel
theorem dX11_readCourtLine_65 : decode cX11_readCourtLine 65 = .ok (.aload_n 0, 1) := by decide +kernel
theorem dX11_readCourtLine_66 : decode cX11_readCourtLine 66 = .ok (.ldc 192, 2) := by decide +kernel
theorem dX11_readCourtLine_68 : decode cX11_readCourtLine 68 = .ok (.invokevirtual 130, 3) := by decide +kernel
theorem dX11_readCourtLine_71 : decode cX11_readCourtLine 71 = .ok (.ifCond .eq 19, 3) := by decide +kernel
theorem dX11_readCourtLine_74 : decode cX11_readCourtLine 74 = .ok (.aload_n 0, 1) := by decide +kernel
theorem dX11_readCourtLine_75 : decode cX11_readCourtLine 75 = .ok (.iconst 4, 1) := by decide +kernel
theorem dX11_readCourtLine_76 : decode cX11_readCourtLine 76 = .ok (.iconst 0, 1) := by decide +kernel
theorem dX11_readCourtLine_77 : decode cX11_readCourtLine 77 = .ok (.sipush 999, 3) := by decide +kernel
theorem dX11_readCourtLine_80 : decode cX11_readCourtLine 80 = .ok (.invokevirtual 187, 3) := by decide +kernel
theorem dX11_readCourtLine_83 : decode cX11_readCourtLine 83 = .ok (.ifCond .eq 7, 3) := by decide +kernel
theorem dX11_readCourtLine_86 : decode cX11_readCourtLine 86 = .ok (.iconst 1, 1) := by decide +kernel
theorem dX11_readCourtLine_87 : decode cX11_readCourtLine 87 = .ok (.goto 4, 3) := by decide +kernel
theorem dX11_readCourtLine_90 : decode cX11_readCourtLine 90 = .ok (.iconst 0, 1) := by decide +kernel
theorem dX11_readCourtLine_91 : decode cX11_readCourtLine 91 = .ok (.ireturn, 1) := by decide +kernel
theorem dX11_emits_0 : decode cX11_emits 0 = .ok (.aload_n 0, 1) := by decide +kernel
theorem dX11_emits_1 : decode cX11_emits 1 = .ok (.getfield 13, 3) := by decide +kernel
theorem dX11_emits_4 : decode cX11_emits 4 = .ok (.sipush 1203, 3) := by decide +kernel
theorem dX11_emits_7 : decode cX11_emits 7 = .ok (.iconst 2, 1) := by decide +kernel
theorem dX11_emits_8 : decode cX11_emits 8 = .ok (.aload_n 0, 1) := by decide +kernel
theorem dX11_emits_9 : decode cX11_emits 9 = .ok (.getfield 194, 3) := by decide +kernel
theorem dX11_emits_12 : decode cX11_emits 12 = .ok (.imul, 1) := by decide +kernel
theorem dX11_emits_13 : decode cX11_emits 13 = .ok (.iadd, 1) := by decide +kernel
theorem dX11_emits_14 : decode cX11_emits 14 = .ok (.iload_n 1, 1) := by decide +kernel
theorem dX11_emits_15 : decode cX11_emits 15 = .ok (.iastore, 1) := by decide +kernel
theorem dX11_emits_16 : decode cX11_emits 16 = .ok (.aload_n 0, 1) := by decide +kernel
theorem dX11_emits_17 : decode cX11_emits 17 = .ok (.getfield 13, 3) := by decide +kernel
theorem dX11_emits_20 : decode cX11_emits 20 = .ok (.sipush 1203, 3) := by decide +kernel
theorem dX11_emits_23 : decode cX11_emits 23 = .ok (.iconst 2, 1) := by decide +kernel
theorem dX11_emits_24 : decode cX11_emits 24 = .ok (.aload_n 0, 1) := by decide +kernel
theorem dX11_emits_25 : decode cX11_emits 25 = .ok (.getfield 194, 3) := by decide +kernel
theorem dX11_emits_28 : decode cX11_emits 28 = .ok (.imul, 1) := by decide +kernel
theorem dX11_emits_29 : decode cX11_emits 29 = .ok (.iadd, 1) := by decide +kernel
theorem dX11_emits_30 : decode cX11_emits 30 = .ok (.iconst 1, 1) := by decide +kernel
theorem dX11_emits_31 : decode cX11_emits 31 = .ok (.iadd, 1) := by decide +kernel
theorem dX11_emits_32 : decode cX11_emits 32 = .ok (.iload_n 2, 1) := by decide +kernel
theorem dX11_emits_33 : decode cX11_emits 33 = .ok (.iastore, 1) := by decide +kernel
theorem dX11_emits_34 : decode cX11_emits 34 = .ok (.aload_n 0, 1) := by decide +kernel
theorem dX11_emits_35 : decode cX11_emits 35 = .ok (.dup, 1) := by decide +kernel
theorem dX11_emits_36 : decode cX11_emits 36 = .ok (.getfield 194, 3) := by decide +kernel
theorem dX11_emits_39 : decode cX11_emits 39 = .ok (.iconst 1, 1) := by decide +kernel
theorem dX11_emits_40 : decode cX11_emits 40 = .ok (.iadd, 1) := by decide +kernel
theorem dX11_emits_41 : decode cX11_emits 41 = .ok (.putfield 194, 3) := by decide +kernel
theorem dX11_emits_44 : decode cX11_emits 44 = .ok (.return_, 1) := by decide +kernel
theorem dX11_readPart_0 : decode cX11_readPart 0 = .ok (.aload_n 0, 1) := by decide +kernel
theorem dX11_readPart_1 : decode cX11_readPart 1 = .ok (.invokevirtual 127, 3) := by decide +kernel
theorem dX11_readPart_4 : decode cX11_readPart 4 = .ok (.aload_n 0, 1) := by decide +kernel
theorem dX11_readPart_5 : decode cX11_readPart 5 = .ok (.getfield 102, 3) := by decide +kernel
theorem dX11_readPart_8 : decode cX11_readPart 8 = .ok (.aload_n 0, 1) := by decide +kernel
theorem dX11_readPart_9 : decode cX11_readPart 9 = .ok (.getfield 112, 3) := by decide +kernel
theorem dX11_readPart_12 : decode cX11_readPart 12 = .ok (.if_icmp .ne 22, 3) := by decide +kernel
theorem dX11_readPart_15 : decode cX11_readPart 15 = .ok (.aload_n 0, 1) := by decide +kernel
theorem dX11_readPart_16 : decode cX11_readPart 16 = .ok (.iconst 0, 1) := by decide +kernel
theorem dX11_readPart_17 : decode cX11_readPart 17 = .ok (.sipush 999, 3) := by decide +kernel
theorem dX11_readPart_20 : decode cX11_readPart 20 = .ok (.invokevirtual 134, 3) := by decide +kernel
theorem dX11_readPart_23 : decode cX11_readPart 23 = .ok (.istore_n 1, 1) := by decide +kernel
theorem dX11_readPart_24 : decode cX11_readPart 24 = .ok (.aload_n 0, 1) := by decide +kernel
theorem dX11_readPart_25 : decode cX11_readPart 25 = .ok (.bipush 8, 2) := by decide +kernel
theorem dX11_readPart_27 : decode cX11_readPart 27 = .ok (.iload_n 1, 1) := by decide +kernel
theorem dX11_readPart_28 : decode cX11_readPart 28 = .ok (.invokevirtual 197, 3) := by decide +kernel
theorem dX11_readPart_31 : decode cX11_readPart 31 = .ok (.goto 89, 3) := by decide +kernel
theorem dX11_readPart_34 : decode cX11_readPart 34 = .ok (.aload_n 0, 1) := by decide +kernel
theorem dX11_readPart_35 : decode cX11_readPart 35 = .ok (.ldc 174, 2) := by decide +kernel
theorem dX11_readPart_37 : decode cX11_readPart 37 = .ok (.invokevirtual 130, 3) := by decide +kernel
theorem dX11_readPart_40 : decode cX11_readPart 40 = .ok (.ifCond .eq 7, 3) := by decide +kernel
theorem dX11_readPart_43 : decode cX11_readPart 43 = .ok (.iconst 0, 1) := by decide +kernel
theorem dX11_readPart_44 : decode cX11_readPart 44 = .ok (.goto 69, 3) := by decide +kernel
theorem dX11_readPart_47 : decode cX11_readPart 47 = .ok (.aload_n 0, 1) := by decide +kernel
theorem dX11_readPart_48 : decode cX11_readPart 48 = .ok (.ldc 201, 2) := by decide +kernel
theorem dX11_readPart_50 : decode cX11_readPart 50 = .ok (.invokevirtual 130, 3) := by decide +kernel
theorem dX11_readPart_53 : decode cX11_readPart 53 = .ok (.ifCond .eq 7, 3) := by decide +kernel
theorem dX11_readPart_56 : decode cX11_readPart 56 = .ok (.iconst 1, 1) := by decide +kernel
theorem dX11_readPart_57 : decode cX11_readPart 57 = .ok (.goto 56, 3) := by decide +kernel
theorem dX11_readPart_60 : decode cX11_readPart 60 = .ok (.aload_n 0, 1) := by decide +kernel
theorem dX11_readPart_61 : decode cX11_readPart 61 = .ok (.ldc 149, 2) := by decide +kernel
theorem dX11_readPart_63 : decode cX11_readPart 63 = .ok (.invokevirtual 130, 3) := by decide +kernel
theorem dX11_readPart_66 : decode cX11_readPart 66 = .ok (.ifCond .eq 7, 3) := by decide +kernel
theorem dX11_readPart_69 : decode cX11_readPart 69 = .ok (.iconst 2, 1) := by decide +kernel
theorem dX11_readPart_70 : decode cX11_readPart 70 = .ok (.goto 43, 3) := by decide +kernel
theorem dX11_readPart_73 : decode cX11_readPart 73 = .ok (.aload_n 0, 1) := by decide +kernel
theorem dX11_readPart_74 : decode cX11_readPart 74 = .ok (.ldc 163, 2) := by decide +kernel
theorem dX11_readPart_76 : decode cX11_readPart 76 = .ok (.invokevirtual 130, 3) := by decide +kernel
theorem dX11_readPart_79 : decode cX11_readPart 79 = .ok (.ifCond .eq 7, 3) := by decide +kernel
theorem dX11_readPart_82 : decode cX11_readPart 82 = .ok (.iconst 3, 1) := by decide +kernel
theorem dX11_readPart_83 : decode cX11_readPart 83 = .ok (.goto 30, 3) := by decide +kernel
theorem dX11_readPart_86 : decode cX11_readPart 86 = .ok (.aload_n 0, 1) := by decide +kernel
theorem dX11_readPart_87 : decode cX11_readPart 87 = .ok (.ldc 203, 2) := by decide +kernel
theorem dX11_readPart_89 : decode cX11_readPart 89 = .ok (.invokevirtual 130, 3) := by decide +kernel
theorem dX11_readPart_92 : decode cX11_readPart 92 = .ok (.ifCond .eq 7, 3) := by decide +kernel
theorem dX11_readPart_95 : decode cX11_readPart 95 = .ok (.iconst 4, 1) := by decide +kernel
theorem dX11_readPart_96 : decode cX11_readPart 96 = .ok (.goto 17, 3) := by decide +kernel
theorem dX11_readPart_99 : decode cX11_readPart 99 = .ok (.aload_n 0, 1) := by decide +kernel
theorem dX11_readPart_100 : decode cX11_readPart 100 = .ok (.ldc 168, 2) := by decide +kernel
theorem dX11_readPart_102 : decode cX11_readPart 102 = .ok (.invokevirtual 130, 3) := by decide +kernel
theorem dX11_readPart_105 : decode cX11_readPart 105 = .ok (.ifCond .eq 7, 3) := by decide +kernel
theorem dX11_readPart_108 : decode cX11_readPart 108 = .ok (.iconst 5, 1) := by decide +kernel
theorem dX11_readPart_109 : decode cX11_readPart 109 = .ok (.goto 4, 3) := by decide +kernel
theorem dX11_readPart_112 : decode cX11_readPart 112 = .ok (.iconst (-1), 1) := by decide +kernel
theorem dX11_readPart_113 : decode cX11_readPart 113 = .ok (.istore_n 1, 1) := by decide +kernel
theorem dX11_readPart_114 : decode cX11_readPart 114 = .ok (.aload_n 0, 1) := by decide +kernel
theorem dX11_readPart_115 : decode cX11_readPart 115 = .ok (.iload_n 1, 1) := by decide +kernel
theorem dX11_readPart_116 : decode cX11_readPart 116 = .ok (.iconst 0, 1) := by decide +kernel
theorem dX11_readPart_117 : decode cX11_readPart 117 = .ok (.invokevirtual 197, 3) := by decide +kernel
theorem dX11_readPart_120 : decode cX11_readPart 120 = .ok (.iload_n 1, 1) := by decide +kernel
theorem dX11_readPart_121 : decode cX11_readPart 121 = .ok (.ifCond .lt 7, 3) := by decide +kernel
theorem dX11_readPart_124 : decode cX11_readPart 124 = .ok (.iconst 1, 1) := by decide +kernel
theorem dX11_readPart_125 : decode cX11_readPart 125 = .ok (.goto 4, 3) := by decide +kernel
theorem dX11_readPart_128 : decode cX11_readPart 128 = .ok (.iconst 0, 1) := by decide +kernel
theorem dX11_readPart_129 : decode cX11_readPart 129 = .ok (.ireturn, 1) := by decide +kernel
theorem dX11_readSum_0 : decode cX11_readSum 0 = .ok (.aload_n 0, 1) := by decide +kernel
theorem dX11_readSum_1 : decode cX11_readSum 1 = .ok (.invokevirtual 205, 3) := by decide +kernel
theorem dX11_readSum_4 : decode cX11_readSum 4 = .ok (.ifCond .ne 5, 3) := by decide +kernel
theorem dX11_readSum_7 : decode cX11_readSum 7 = .ok (.iconst 0, 1) := by decide +kernel
theorem dX11_readSum_8 : decode cX11_readSum 8 = .ok (.ireturn, 1) := by decide +kernel
theorem dX11_readSum_9 : decode cX11_readSum 9 = .ok (.aload_n 0, 1) := by decide +kernel
theorem dX11_readSum_10 : decode cX11_readSum 10 = .ok (.bipush 43, 2) := by decide +kernel
theorem dX11_readSum_12 : decode cX11_readSum 12 = .ok (.invokevirtual 208, 3) := by decide +kernel
theorem dX11_readSum_15 : decode cX11_readSum 15 = .ok (.ifCond .eq 22, 3) := by decide +kernel
theorem dX11_readSum_18 : decode cX11_readSum 18 = .ok (.aload_n 0, 1) := by decide +kernel
theorem dX11_readSum_19 : decode cX11_readSum 19 = .ok (.invokevirtual 205, 3) := by decide +kernel
theorem dX11_readSum_22 : decode cX11_readSum 22 = .ok (.ifCond .ne 5, 3) := by decide +kernel
theorem dX11_readSum_25 : decode cX11_readSum 25 = .ok (.iconst 0, 1) := by decide +kernel
theorem dX11_readSum_26 : decode cX11_readSum 26 = .ok (.ireturn, 1) := by decide +kernel
theorem dX11_readSum_27 : decode cX11_readSum 27 = .ok (.aload_n 0, 1) := by decide +kernel
theorem dX11_readSum_28 : decode cX11_readSum 28 = .ok (.bipush 9, 2) := by decide +kernel
theorem dX11_readSum_30 : decode cX11_readSum 30 = .ok (.iconst 0, 1) := by decide +kernel
theorem dX11_readSum_31 : decode cX11_readSum 31 = .ok (.invokevirtual 197, 3) := by decide +kernel
theorem dX11_readSum_34 : decode cX11_readSum 34 = .ok (.goto (-25), 3) := by decide +kernel
theorem dX11_readSum_37 : decode cX11_readSum 37 = .ok (.iconst 1, 1) := by decide +kernel
theorem dX11_readSum_38 : decode cX11_readSum 38 = .ok (.ireturn, 1) := by decide +kernel
theorem dX11_readTag_0 : decode cX11_readTag 0 = .ok (.aload_n 0, 1) := by decide +kernel
theorem dX11_readTag_1 : decode cX11_readTag 1 = .ok (.invokevirtual 127, 3) := by decide +kernel
theorem dX11_readTag_4 : decode cX11_readTag 4 = .ok (.aload_n 0, 1) := by decide +kernel
theorem dX11_readTag_5 : decode cX11_readTag 5 = .ok (.ldc 172, 2) := by decide +kernel
theorem dX11_readTag_7 : decode cX11_readTag 7 = .ok (.invokevirtual 130, 3) := by decide +kernel
theorem dX11_readTag_10 : decode cX11_readTag 10 = .ok (.ifCond .eq 8, 3) := by decide +kernel
theorem dX11_readTag_13 : decode cX11_readTag 13 = .ok (.bipush 6, 2) := by decide +kernel
theorem dX11_readTag_15 : decode cX11_readTag 15 = .ok (.goto 18, 3) := by decide +kernel
theorem dX11_readTag_18 : decode cX11_readTag 18 = .ok (.aload_n 0, 1) := by decide +kernel
theorem dX11_readTag_19 : decode cX11_readTag 19 = .ok (.ldc 211, 2) := by decide +kernel
theorem dX11_readTag_21 : decode cX11_readTag 21 = .ok (.invokevirtual 130, 3) := by decide +kernel
theorem dX11_readTag_24 : decode cX11_readTag 24 = .ok (.ifCond .eq 8, 3) := by decide +kernel
theorem dX11_readTag_27 : decode cX11_readTag 27 = .ok (.bipush 7, 2) := by decide +kernel
theorem dX11_readTag_29 : decode cX11_readTag 29 = .ok (.goto 4, 3) := by decide +kernel
theorem dX11_readTag_32 : decode cX11_readTag 32 = .ok (.iconst (-1), 1) := by decide +kernel
theorem dX11_readTag_33 : decode cX11_readTag 33 = .ok (.istore_n 1, 1) := by decide +kernel
theorem dX11_readTag_34 : decode cX11_readTag 34 = .ok (.iload_n 1, 1) := by decide +kernel
theorem dX11_readTag_35 : decode cX11_readTag 35 = .ok (.ifCond .lt 12, 3) := by decide +kernel
theorem dX11_readTag_38 : decode cX11_readTag 38 = .ok (.aload_n 0, 1) := by decide +kernel
theorem dX11_readTag_39 : decode cX11_readTag 39 = .ok (.iload_n 1, 1) := by decide +kernel
theorem dX11_readTag_40 : decode cX11_readTag 40 = .ok (.iconst 0, 1) := by decide +kernel
theorem dX11_readTag_41 : decode cX11_readTag 41 = .ok (.invokevirtual 197, 3) := by decide +kernel
theorem dX11_readTag_44 : decode cX11_readTag 44 = .ok (.goto 11, 3) := by decide +kernel
theorem dX11_readTag_47 : decode cX11_readTag 47 = .ok (.aload_n 0, 1) := by decide +kernel
theorem dX11_readTag_48 : decode cX11_readTag 48 = .ok (.aload_n 0, 1) := by decide +kernel
theorem dX11_readTag_49 : decode cX11_readTag 49 = .ok (.getfield 112, 3) := by decide +kernel
theorem dX11_readTag_52 : decode cX11_readTag 52 = .ok (.putfield 102, 3) := by decide +kernel
theorem dX11_readTag_55 : decode cX11_readTag 55 = .ok (.iload_n 1, 1) := by decide +kernel
theorem dX11_readTag_56 : decode cX11_readTag 56 = .ok (.ifCond .lt 7, 3) := by decide +kernel
theorem dX11_readTag_59 : decode cX11_readTag 59 = .ok (.iconst 1, 1) := by decide +kernel
theorem dX11_readTag_60 : decode cX11_readTag 60 = .ok (.goto 4, 3) := by decide +kernel
theorem dX11_readTag_63 : decode cX11_readTag 63 = .ok (.iconst 0, 1) := by decide +kernel
theorem dX11_readTag_64 : decode cX11_readTag 64 = .ok (.ireturn, 1) := by decide +kernel
theorem dX11_readAtom_0 : decode cX11_readAtom 0 = .ok (.aload_n 0, 1) := by decide +kernel
theorem dX11_readAtom_1 : decode cX11_readAtom 1 = .ok (.bipush 40, 2) := by decide +kernel
theorem dX11_readAtom_3 : decode cX11_readAtom 3 = .ok (.invokevirtual 208, 3) := by decide +kernel
theorem dX11_readAtom_6 : decode cX11_readAtom 6 = .ok (.ifCond .eq 50, 3) := by decide +kernel
theorem dX11_readAtom_9 : decode cX11_readAtom 9 = .ok (.aload_n 0, 1) := by decide +kernel
theorem dX11_readAtom_10 : decode cX11_readAtom 10 = .ok (.getfield 213, 3) := by decide +kernel
theorem dX11_readAtom_13 : decode cX11_readAtom 13 = .ok (.bipush 6, 2) := by decide +kernel
theorem dX11_readAtom_15 : decode cX11_readAtom 15 = .ok (.if_icmp .ne 5, 3) := by decide +kernel
theorem dX11_readAtom_18 : decode cX11_readAtom 18 = .ok (.iconst 0, 1) := by decide +kernel
theorem dX11_readAtom_19 : decode cX11_readAtom 19 = .ok (.ireturn, 1) := by decide +kernel
theorem dX11_readAtom_20 : decode cX11_readAtom 20 = .ok (.aload_n 0, 1) := by decide +kernel
theorem dX11_readAtom_21 : decode cX11_readAtom 21 = .ok (.dup, 1) := by decide +kernel
theorem dX11_readAtom_22 : decode cX11_readAtom 22 = .ok (.getfield 213, 3) := by decide +kernel
theorem dX11_readAtom_25 : decode cX11_readAtom 25 = .ok (.iconst 1, 1) := by decide +kernel
theorem dX11_readAtom_26 : decode cX11_readAtom 26 = .ok (.iadd, 1) := by decide +kernel
theorem dX11_readAtom_27 : decode cX11_readAtom 27 = .ok (.putfield 213, 3) := by decide +kernel
theorem dX11_readAtom_30 : decode cX11_readAtom 30 = .ok (.aload_n 0, 1) := by decide +kernel
theorem dX11_readAtom_31 : decode cX11_readAtom 31 = .ok (.invokevirtual 216, 3) := by decide +kernel
theorem dX11_readAtom_34 : decode cX11_readAtom 34 = .ok (.ifCond .ne 5, 3) := by decide +kernel
theorem dX11_readAtom_37 : decode cX11_readAtom 37 = .ok (.iconst 0, 1) := by decide +kernel
theorem dX11_readAtom_38 : decode cX11_readAtom 38 = .ok (.ireturn, 1) := by decide +kernel
theorem dX11_readAtom_39 : decode cX11_readAtom 39 = .ok (.aload_n 0, 1) := by decide +kernel
theorem dX11_readAtom_40 : decode cX11_readAtom 40 = .ok (.dup, 1) := by decide +kernel
theorem dX11_readAtom_41 : decode cX11_readAtom 41 = .ok (.getfield 213, 3) := by decide +kernel
theorem dX11_readAtom_44 : decode cX11_readAtom 44 = .ok (.iconst 1, 1) := by decide +kernel
theorem dX11_readAtom_45 : decode cX11_readAtom 45 = .ok (.isub, 1) := by decide +kernel
theorem dX11_readAtom_46 : decode cX11_readAtom 46 = .ok (.putfield 213, 3) := by decide +kernel
theorem dX11_readAtom_49 : decode cX11_readAtom 49 = .ok (.aload_n 0, 1) := by decide +kernel
theorem dX11_readAtom_50 : decode cX11_readAtom 50 = .ok (.bipush 41, 2) := by decide +kernel
theorem dX11_readAtom_52 : decode cX11_readAtom 52 = .ok (.invokevirtual 208, 3) := by decide +kernel
theorem dX11_readAtom_55 : decode cX11_readAtom 55 = .ok (.ireturn, 1) := by decide +kernel
theorem dX11_readAtom_56 : decode cX11_readAtom 56 = .ok (.aload_n 0, 1) := by decide +kernel
theorem dX11_readAtom_57 : decode cX11_readAtom 57 = .ok (.ldc 219, 2) := by decide +kernel
theorem dX11_readAtom_59 : decode cX11_readAtom 59 = .ok (.invokevirtual 157, 3) := by decide +kernel
theorem dX11_readAtom_62 : decode cX11_readAtom 62 = .ok (.ifCond .eq 52, 3) := by decide +kernel
theorem dX11_readAtom_65 : decode cX11_readAtom 65 = .ok (.aload_n 0, 1) := by decide +kernel
theorem dX11_readAtom_66 : decode cX11_readAtom 66 = .ok (.getfield 213, 3) := by decide +kernel
theorem dX11_readAtom_69 : decode cX11_readAtom 69 = .ok (.bipush 6, 2) := by decide +kernel
theorem dX11_readAtom_71 : decode cX11_readAtom 71 = .ok (.if_icmp .ne 5, 3) := by decide +kernel
theorem dX11_readAtom_74 : decode cX11_readAtom 74 = .ok (.iconst 0, 1) := by decide +kernel
theorem dX11_readAtom_75 : decode cX11_readAtom 75 = .ok (.ireturn, 1) := by decide +kernel
theorem dX11_readAtom_76 : decode cX11_readAtom 76 = .ok (.aload_n 0, 1) := by decide +kernel
theorem dX11_readAtom_77 : decode cX11_readAtom 77 = .ok (.dup, 1) := by decide +kernel
theorem dX11_readAtom_78 : decode cX11_readAtom 78 = .ok (.getfield 213, 3) := by decide +kernel
theorem dX11_readAtom_81 : decode cX11_readAtom 81 = .ok (.iconst 1, 1) := by decide +kernel
theorem dX11_readAtom_82 : decode cX11_readAtom 82 = .ok (.iadd, 1) := by decide +kernel
theorem dX11_readAtom_83 : decode cX11_readAtom 83 = .ok (.putfield 213, 3) := by decide +kernel
theorem dX11_readAtom_86 : decode cX11_readAtom 86 = .ok (.aload_n 0, 1) := by decide +kernel
theorem dX11_readAtom_87 : decode cX11_readAtom 87 = .ok (.invokevirtual 221, 3) := by decide +kernel
theorem dX11_readAtom_90 : decode cX11_readAtom 90 = .ok (.ifCond .ne 5, 3) := by decide +kernel
theorem dX11_readAtom_93 : decode cX11_readAtom 93 = .ok (.iconst 0, 1) := by decide +kernel
theorem dX11_readAtom_94 : decode cX11_readAtom 94 = .ok (.ireturn, 1) := by decide +kernel
theorem dX11_readAtom_95 : decode cX11_readAtom 95 = .ok (.aload_n 0, 1) := by decide +kernel
theorem dX11_readAtom_96 : decode cX11_readAtom 96 = .ok (.dup, 1) := by decide +kernel
theorem dX11_readAtom_97 : decode cX11_readAtom 97 = .ok (.getfield 213, 3) := by decide +kernel
theorem dX11_readAtom_100 : decode cX11_readAtom 100 = .ok (.iconst 1, 1) := by decide +kernel
theorem dX11_readAtom_101 : decode cX11_readAtom 101 = .ok (.isub, 1) := by decide +kernel
theorem dX11_readAtom_102 : decode cX11_readAtom 102 = .ok (.putfield 213, 3) := by decide +kernel
theorem dX11_readAtom_105 : decode cX11_readAtom 105 = .ok (.aload_n 0, 1) := by decide +kernel
theorem dX11_readAtom_106 : decode cX11_readAtom 106 = .ok (.bipush 12, 2) := by decide +kernel
theorem dX11_readAtom_108 : decode cX11_readAtom 108 = .ok (.iconst 0, 1) := by decide +kernel
theorem dX11_readAtom_109 : decode cX11_readAtom 109 = .ok (.invokevirtual 197, 3) := by decide +kernel
theorem dX11_readAtom_112 : decode cX11_readAtom 112 = .ok (.iconst 1, 1) := by decide +kernel
theorem dX11_readAtom_113 : decode cX11_readAtom 113 = .ok (.ireturn, 1) := by decide +kernel
theorem dX11_readAtom_114 : decode cX11_readAtom 114 = .ok (.aload_n 0, 1) := by decide +kernel
theorem dX11_readAtom_115 : decode cX11_readAtom 115 = .ok (.invokevirtual 224, 3) := by decide +kernel
theorem dX11_readAtom_118 : decode cX11_readAtom 118 = .ok (.ifCond .eq 5, 3) := by decide +kernel
theorem dX11_readAtom_121 : decode cX11_readAtom 121 = .ok (.iconst 1, 1) := by decide +kernel
theorem dX11_readAtom_122 : decode cX11_readAtom 122 = .ok (.ireturn, 1) := by decide +kernel
theorem dX11_readAtom_123 : decode cX11_readAtom 123 = .ok (.aload_n 0, 1) := by decide +kernel
theorem dX11_readAtom_124 : decode cX11_readAtom 124 = .ok (.invokevirtual 227, 3) := by decide +kernel
theorem dX11_readAtom_127 : decode cX11_readAtom 127 = .ok (.ifCond .ne 5, 3) := by decide +kernel
theorem dX11_readAtom_130 : decode cX11_readAtom 130 = .ok (.iconst 0, 1) := by decide +kernel
theorem dX11_readAtom_131 : decode cX11_readAtom 131 = .ok (.ireturn, 1) := by decide +kernel
theorem dX11_readAtom_132 : decode cX11_readAtom 132 = .ok (.aload_n 0, 1) := by decide +kernel
theorem dX11_readAtom_133 : decode cX11_readAtom 133 = .ok (.bipush 60, 2) := by decide +kernel
theorem dX11_readAtom_135 : decode cX11_readAtom 135 = .ok (.invokevirtual 208, 3) := by decide +kernel
theorem dX11_readAtom_138 : decode cX11_readAtom 138 = .ok (.istore_n 1, 1) := by decide +kernel
theorem dX11_readAtom_139 : decode cX11_readAtom 139 = .ok (.iload_n 1, 1) := by decide +kernel
theorem dX11_readAtom_140 : decode cX11_readAtom 140 = .ok (.ifCond .ne 12, 3) := by decide +kernel
theorem dX11_readAtom_143 : decode cX11_readAtom 143 = .ok (.aload_n 0, 1) := by decide +kernel
theorem dX11_readAtom_144 : decode cX11_readAtom 144 = .ok (.bipush 62, 2) := by decide +kernel
theorem dX11_readAtom_146 : decode cX11_readAtom 146 = .ok (.invokevirtual 208, 3) := by decide +kernel
theorem dX11_readAtom_149 : decode cX11_readAtom 149 = .ok (.ifCond .eq 10, 3) := by decide +kernel
theorem dX11_readAtom_152 : decode cX11_readAtom 152 = .ok (.aload_n 0, 1) := by decide +kernel
theorem dX11_readAtom_153 : decode cX11_readAtom 153 = .ok (.invokevirtual 227, 3) := by decide +kernel
theorem dX11_readAtom_156 : decode cX11_readAtom 156 = .ok (.ifCond .ne 5, 3) := by decide +kernel
theorem dX11_readAtom_159 : decode cX11_readAtom 159 = .ok (.iconst 0, 1) := by decide +kernel
theorem dX11_readAtom_160 : decode cX11_readAtom 160 = .ok (.ireturn, 1) := by decide +kernel
theorem dX11_readAtom_161 : decode cX11_readAtom 161 = .ok (.aload_n 0, 1) := by decide +kernel
theorem dX11_readAtom_162 : decode cX11_readAtom 162 = .ok (.iload_n 1, 1) := by decide +kernel
theorem dX11_readAtom_163 : decode cX11_readAtom 163 = .ok (.ifCond .eq 8, 3) := by decide +kernel
theorem dX11_readAtom_166 : decode cX11_readAtom 166 = .ok (.bipush 10, 2) := by decide +kernel
theorem dX11_readAtom_168 : decode cX11_readAtom 168 = .ok (.goto 5, 3) := by decide +kernel
theorem dX11_readAtom_171 : decode cX11_readAtom 171 = .ok (.bipush 11, 2) := by decide +kernel
theorem dX11_readAtom_173 : decode cX11_readAtom 173 = .ok (.iconst 0, 1) := by decide +kernel
theorem dX11_readAtom_174 : decode cX11_readAtom 174 = .ok (.invokevirtual 197, 3) := by decide +kernel
theorem dX11_readAtom_177 : decode cX11_readAtom 177 = .ok (.iconst 1, 1) := by decide +kernel
theorem dX11_readAtom_178 : decode cX11_readAtom 178 = .ok (.ireturn, 1) := by decide +kernel
theorem dX11_readAllOf_0 : decode cX11_readAllOf 0 = .ok (.aload_n 0, 1) := by decide +kernel
theorem dX11_readAllOf_1 : decode cX11_readAllOf 1 = .ok (.invokevirtual 221, 3) := by decide +kernel
theorem dX11_readAllOf_4 : decode cX11_readAllOf 4 = .ok (.ifCond .ne 5, 3) := by decide +kernel
theorem dX11_readAllOf_7 : decode cX11_readAllOf 7 = .ok (.iconst 0, 1) := by decide +kernel
theorem dX11_readAllOf_8 : decode cX11_readAllOf 8 = .ok (.ireturn, 1) := by decide +kernel
theorem dX11_readAllOf_9 : decode cX11_readAllOf 9 = .ok (.aload_n 0, 1) := by decide +kernel
theorem dX11_readAllOf_10 : decode cX11_readAllOf 10 = .ok (.ldc 230, 2) := by decide +kernel
theorem dX11_readAllOf_12 : decode cX11_readAllOf 12 = .ok (.invokevirtual 157, 3) := by decide +kernel
theorem dX11_readAllOf_15 : decode cX11_readAllOf 15 = .ok (.ifCond .eq 22, 3) := by decide +kernel
theorem dX11_readAllOf_18 : decode cX11_readAllOf 18 = .ok (.aload_n 0, 1) := by decide +kernel
theorem dX11_readAllOf_19 : decode cX11_readAllOf 19 = .ok (.invokevirtual 221, 3) := by decide +kernel
theorem dX11_readAllOf_22 : decode cX11_readAllOf 22 = .ok (.ifCond .ne 5, 3) := by decide +kernel
theorem dX11_readAllOf_25 : decode cX11_readAllOf 25 = .ok (.iconst 0, 1) := by decide +kernel
theorem dX11_readAllOf_26 : decode cX11_readAllOf 26 = .ok (.ireturn, 1) := by decide +kernel
theorem dX11_readAllOf_27 : decode cX11_readAllOf 27 = .ok (.aload_n 0, 1) := by decide +kernel
theorem dX11_readAllOf_28 : decode cX11_readAllOf 28 = .ok (.bipush 13, 2) := by decide +kernel
theorem dX11_readAllOf_30 : decode cX11_readAllOf 30 = .ok (.iconst 0, 1) := by decide +kernel
theorem dX11_readAllOf_31 : decode cX11_readAllOf 31 = .ok (.invokevirtual 197, 3) := by decide +kernel
theorem dX11_readAllOf_34 : decode cX11_readAllOf 34 = .ok (.goto (-25), 3) := by decide +kernel
theorem dX11_readAllOf_37 : decode cX11_readAllOf 37 = .ok (.iconst 1, 1) := by decide +kernel
theorem dX11_readAllOf_38 : decode cX11_readAllOf 38 = .ok (.ireturn, 1) := by decide +kernel
theorem dX11_readCond_0 : decode cX11_readCond 0 = .ok (.aload_n 0, 1) := by decide +kernel
theorem dX11_readCond_1 : decode cX11_readCond 1 = .ok (.invokevirtual 232, 3) := by decide +kernel
theorem dX11_readCond_4 : decode cX11_readCond 4 = .ok (.ifCond .ne 5, 3) := by decide +kernel
theorem dX11_readCond_7 : decode cX11_readCond 7 = .ok (.iconst 0, 1) := by decide +kernel
theorem dX11_readCond_8 : decode cX11_readCond 8 = .ok (.ireturn, 1) := by decide +kernel
theorem dX11_readCond_9 : decode cX11_readCond 9 = .ok (.aload_n 0, 1) := by decide +kernel
theorem dX11_readCond_10 : decode cX11_readCond 10 = .ok (.ldc 235, 2) := by decide +kernel
theorem dX11_readCond_12 : decode cX11_readCond 12 = .ok (.invokevirtual 157, 3) := by decide +kernel
theorem dX11_readCond_15 : decode cX11_readCond 15 = .ok (.ifCond .eq 22, 3) := by decide +kernel
theorem dX11_readCond_18 : decode cX11_readCond 18 = .ok (.aload_n 0, 1) := by decide +kernel
theorem dX11_readCond_19 : decode cX11_readCond 19 = .ok (.invokevirtual 232, 3) := by decide +kernel
theorem dX11_readCond_22 : decode cX11_readCond 22 = .ok (.ifCond .ne 5, 3) := by decide +kernel
theorem dX11_readCond_25 : decode cX11_readCond 25 = .ok (.iconst 0, 1) := by decide +kernel
theorem dX11_readCond_26 : decode cX11_readCond 26 = .ok (.ireturn, 1) := by decide +kernel
theorem dX11_readCond_27 : decode cX11_readCond 27 = .ok (.aload_n 0, 1) := by decide +kernel
theorem dX11_readCond_28 : decode cX11_readCond 28 = .ok (.bipush 14, 2) := by decide +kernel
theorem dX11_readCond_30 : decode cX11_readCond 30 = .ok (.iconst 0, 1) := by decide +kernel
theorem dX11_readCond_31 : decode cX11_readCond 31 = .ok (.invokevirtual 197, 3) := by decide +kernel
theorem dX11_readCond_34 : decode cX11_readCond 34 = .ok (.goto (-25), 3) := by decide +kernel
theorem dX11_readCond_37 : decode cX11_readCond 37 = .ok (.iconst 1, 1) := by decide +kernel
theorem dX11_readCond_38 : decode cX11_readCond 38 = .ok (.ireturn, 1) := by decide +kernel
theorem dX11_readLawLine_0 : decode cX11_readLawLine 0 = .ok (.sipush 1155, 3) := by decide +kernel
theorem dX11_readLawLine_3 : decode cX11_readLawLine 3 = .ok (.iconst 4, 1) := by decide +kernel
theorem dX11_readLawLine_4 : decode cX11_readLawLine 4 = .ok (.iload_n 1, 1) := by decide +kernel
theorem dX11_readLawLine_5 : decode cX11_readLawLine 5 = .ok (.imul, 1) := by decide +kernel
theorem dX11_readLawLine_6 : decode cX11_readLawLine 6 = .ok (.iadd, 1) := by decide +kernel
theorem dX11_readLawLine_7 : decode cX11_readLawLine 7 = .ok (.istore_n 2, 1) := by decide +kernel
theorem dX11_readLawLine_8 : decode cX11_readLawLine 8 = .ok (.aload_n 0, 1) := by decide +kernel
theorem dX11_readLawLine_9 : decode cX11_readLawLine 9 = .ok (.getfield 13, 3) := by decide +kernel
theorem dX11_readLawLine_12 : decode cX11_readLawLine 12 = .ok (.iload_n 2, 1) := by decide +kernel
theorem dX11_readLawLine_13 : decode cX11_readLawLine 13 = .ok (.aload_n 0, 1) := by decide +kernel
theorem dX11_readLawLine_14 : decode cX11_readLawLine 14 = .ok (.ldc 237, 2) := by decide +kernel
theorem dX11_readLawLine_16 : decode cX11_readLawLine 16 = .ok (.invokevirtual 130, 3) := by decide +kernel
theorem dX11_readLawLine_19 : decode cX11_readLawLine 19 = .ok (.ifCond .eq 7, 3) := by decide +kernel
theorem dX11_readLawLine_22 : decode cX11_readLawLine 22 = .ok (.iconst 0, 1) := by decide +kernel
theorem dX11_readLawLine_23 : decode cX11_readLawLine 23 = .ok (.goto 30, 3) := by decide +kernel
theorem dX11_readLawLine_26 : decode cX11_readLawLine 26 = .ok (.aload_n 0, 1) := by decide +kernel
theorem dX11_readLawLine_27 : decode cX11_readLawLine 27 = .ok (.ldc 239, 2) := by decide +kernel
theorem dX11_readLawLine_29 : decode cX11_readLawLine 29 = .ok (.invokevirtual 130, 3) := by decide +kernel
theorem dX11_readLawLine_32 : decode cX11_readLawLine 32 = .ok (.ifCond .eq 7, 3) := by decide +kernel
theorem dX11_readLawLine_35 : decode cX11_readLawLine 35 = .ok (.iconst 1, 1) := by decide +kernel
theorem dX11_readLawLine_36 : decode cX11_readLawLine 36 = .ok (.goto 17, 3) := by decide +kernel
theorem dX11_readLawLine_39 : decode cX11_readLawLine 39 = .ok (.aload_n 0, 1) := by decide +kernel
theorem dX11_readLawLine_40 : decode cX11_readLawLine 40 = .ok (.ldc 241, 2) := by decide +kernel
theorem dX11_readLawLine_42 : decode cX11_readLawLine 42 = .ok (.invokevirtual 130, 3) := by decide +kernel
theorem dX11_readLawLine_45 : decode cX11_readLawLine 45 = .ok (.ifCond .eq 7, 3) := by decide +kernel
theorem dX11_readLawLine_48 : decode cX11_readLawLine 48 = .ok (.iconst 2, 1) := by decide +kernel
theorem dX11_readLawLine_49 : decode cX11_readLawLine 49 = .ok (.goto 4, 3) := by decide +kernel
theorem dX11_readLawLine_52 : decode cX11_readLawLine 52 = .ok (.iconst (-1), 1) := by decide +kernel
theorem dX11_readLawLine_53 : decode cX11_readLawLine 53 = .ok (.iastore, 1) := by decide +kernel
theorem dX11_readLawLine_54 : decode cX11_readLawLine 54 = .ok (.aload_n 0, 1) := by decide +kernel
theorem dX11_readLawLine_55 : decode cX11_readLawLine 55 = .ok (.getfield 13, 3) := by decide +kernel
theorem dX11_readLawLine_58 : decode cX11_readLawLine 58 = .ok (.iload_n 2, 1) := by decide +kernel
theorem dX11_readLawLine_59 : decode cX11_readLawLine 59 = .ok (.iaload, 1) := by decide +kernel
theorem dX11_readLawLine_60 : decode cX11_readLawLine 60 = .ok (.ifCond .ge 5, 3) := by decide +kernel
theorem dX11_readLawLine_63 : decode cX11_readLawLine 63 = .ok (.iconst 0, 1) := by decide +kernel
theorem dX11_readLawLine_64 : decode cX11_readLawLine 64 = .ok (.ireturn, 1) := by decide +kernel
theorem dX11_readLawLine_65 : decode cX11_readLawLine 65 = .ok (.aload_n 0, 1) := by decide +kernel
theorem dX11_readLawLine_66 : decode cX11_readLawLine 66 = .ok (.getfield 13, 3) := by decide +kernel
theorem dX11_readLawLine_69 : decode cX11_readLawLine 69 = .ok (.iload_n 2, 1) := by decide +kernel
theorem dX11_readLawLine_70 : decode cX11_readLawLine 70 = .ok (.iconst 1, 1) := by decide +kernel
theorem dX11_readLawLine_71 : decode cX11_readLawLine 71 = .ok (.iadd, 1) := by decide +kernel
theorem dX11_readLawLine_72 : decode cX11_readLawLine 72 = .ok (.aload_n 0, 1) := by decide +kernel
theorem dX11_readLawLine_73 : decode cX11_readLawLine 73 = .ok (.iconst 0, 1) := by decide +kernel
theorem dX11_readLawLine_74 : decode cX11_readLawLine 74 = .ok (.bipush 30, 2) := by decide +kernel
theorem dX11_readLawLine_76 : decode cX11_readLawLine 76 = .ok (.invokevirtual 134, 3) := by decide +kernel
theorem dX11_readLawLine_79 : decode cX11_readLawLine 79 = .ok (.iastore, 1) := by decide +kernel
theorem dX11_readLawLine_80 : decode cX11_readLawLine 80 = .ok (.aload_n 0, 1) := by decide +kernel
theorem dX11_readLawLine_81 : decode cX11_readLawLine 81 = .ok (.getfield 13, 3) := by decide +kernel
theorem dX11_readLawLine_84 : decode cX11_readLawLine 84 = .ok (.iload_n 2, 1) := by decide +kernel
theorem dX11_readLawLine_85 : decode cX11_readLawLine 85 = .ok (.iconst 1, 1) := by decide +kernel
theorem dX11_readLawLine_86 : decode cX11_readLawLine 86 = .ok (.iadd, 1) := by decide +kernel
theorem dX11_readLawLine_87 : decode cX11_readLawLine 87 = .ok (.iaload, 1) := by decide +kernel
theorem dX11_readLawLine_88 : decode cX11_readLawLine 88 = .ok (.ifCond .ge 5, 3) := by decide +kernel
theorem dX11_readLawLine_91 : decode cX11_readLawLine 91 = .ok (.iconst 0, 1) := by decide +kernel
theorem dX11_readLawLine_92 : decode cX11_readLawLine 92 = .ok (.ireturn, 1) := by decide +kernel
theorem dX11_readLawLine_93 : decode cX11_readLawLine 93 = .ok (.aload_n 0, 1) := by decide +kernel
theorem dX11_readLawLine_94 : decode cX11_readLawLine 94 = .ok (.getfield 13, 3) := by decide +kernel
theorem dX11_readLawLine_97 : decode cX11_readLawLine 97 = .ok (.iload_n 2, 1) := by decide +kernel
theorem dX11_readLawLine_98 : decode cX11_readLawLine 98 = .ok (.iconst 2, 1) := by decide +kernel
theorem dX11_readLawLine_99 : decode cX11_readLawLine 99 = .ok (.iadd, 1) := by decide +kernel
theorem dX11_readLawLine_100 : decode cX11_readLawLine 100 = .ok (.aload_n 0, 1) := by decide +kernel
theorem dX11_readLawLine_101 : decode cX11_readLawLine 101 = .ok (.getfield 194, 3) := by decide +kernel
theorem dX11_readLawLine_104 : decode cX11_readLawLine 104 = .ok (.iastore, 1) := by decide +kernel
theorem dX11_readLawLine_105 : decode cX11_readLawLine 105 = .ok (.aload_n 0, 1) := by decide +kernel
theorem dX11_readLawLine_106 : decode cX11_readLawLine 106 = .ok (.iconst 0, 1) := by decide +kernel
theorem dX11_readLawLine_107 : decode cX11_readLawLine 107 = .ok (.putfield 213, 3) := by decide +kernel
theorem dX11_readLawLine_110 : decode cX11_readLawLine 110 = .ok (.aload_n 0, 1) := by decide +kernel
theorem dX11_readLawLine_111 : decode cX11_readLawLine 111 = .ok (.ldc 243, 2) := by decide +kernel
theorem dX11_readLawLine_113 : decode cX11_readLawLine 113 = .ok (.invokevirtual 157, 3) := by decide +kernel
theorem dX11_readLawLine_116 : decode cX11_readLawLine 116 = .ok (.ifCond .eq 12, 3) := by decide +kernel
theorem dX11_readLawLine_119 : decode cX11_readLawLine 119 = .ok (.aload_n 0, 1) := by decide +kernel
theorem dX11_readLawLine_120 : decode cX11_readLawLine 120 = .ok (.invokevirtual 216, 3) := by decide +kernel
theorem dX11_readLawLine_123 : decode cX11_readLawLine 123 = .ok (.ifCond .ne 5, 3) := by decide +kernel
theorem dX11_readLawLine_126 : decode cX11_readLawLine 126 = .ok (.iconst 0, 1) := by decide +kernel
theorem dX11_readLawLine_127 : decode cX11_readLawLine 127 = .ok (.ireturn, 1) := by decide +kernel
theorem dX11_readLawLine_128 : decode cX11_readLawLine 128 = .ok (.aload_n 0, 1) := by decide +kernel
theorem dX11_readLawLine_129 : decode cX11_readLawLine 129 = .ok (.getfield 13, 3) := by decide +kernel
theorem dX11_readLawLine_132 : decode cX11_readLawLine 132 = .ok (.iload_n 2, 1) := by decide +kernel
theorem dX11_readLawLine_133 : decode cX11_readLawLine 133 = .ok (.iconst 3, 1) := by decide +kernel
theorem dX11_readLawLine_134 : decode cX11_readLawLine 134 = .ok (.iadd, 1) := by decide +kernel
theorem dX11_readLawLine_135 : decode cX11_readLawLine 135 = .ok (.aload_n 0, 1) := by decide +kernel
theorem dX11_readLawLine_136 : decode cX11_readLawLine 136 = .ok (.getfield 194, 3) := by decide +kernel
theorem dX11_readLawLine_139 : decode cX11_readLawLine 139 = .ok (.iastore, 1) := by decide +kernel
theorem dX11_readLawLine_140 : decode cX11_readLawLine 140 = .ok (.iconst 1, 1) := by decide +kernel
theorem dX11_readLawLine_141 : decode cX11_readLawLine 141 = .ok (.ireturn, 1) := by decide +kernel
theorem dX11_readLine_0 : decode cX11_readLine 0 = .ok (.aload_n 0, 1) := by decide +kernel
theorem dX11_readLine_1 : decode cX11_readLine 1 = .ok (.invokevirtual 127, 3) := by decide +kernel
theorem dX11_readLine_4 : decode cX11_readLine 4 = .ok (.iload_n 2, 1) := by decide +kernel
theorem dX11_readLine_5 : decode cX11_readLine 5 = .ok (.iload_n 1, 1) := by decide +kernel
theorem dX11_readLine_6 : decode cX11_readLine 6 = .ok (.ifCond .eq 8, 3) := by decide +kernel
theorem dX11_readLine_9 : decode cX11_readLine 9 = .ok (.bipush 14, 2) := by decide +kernel
theorem dX11_readLine_11 : decode cX11_readLine 11 = .ok (.goto 5, 3) := by decide +kernel
theorem dX11_readLine_14 : decode cX11_readLine 14 = .ok (.bipush 12, 2) := by decide +kernel
theorem dX11_readLine_16 : decode cX11_readLine 16 = .ok (.if_icmp .ge 29, 3) := by decide +kernel
theorem dX11_readLine_19 : decode cX11_readLine 19 = .ok (.iload_n 1, 1) := by decide +kernel
theorem dX11_readLine_20 : decode cX11_readLine 20 = .ok (.ifCond .eq 13, 3) := by decide +kernel
theorem dX11_readLine_23 : decode cX11_readLine 23 = .ok (.aload_n 0, 1) := by decide +kernel
theorem dX11_readLine_24 : decode cX11_readLine 24 = .ok (.invokevirtual 245, 3) := by decide +kernel
theorem dX11_readLine_27 : decode cX11_readLine 27 = .ok (.ifCond .eq 18, 3) := by decide +kernel
theorem dX11_readLine_30 : decode cX11_readLine 30 = .ok (.goto 11, 3) := by decide +kernel
theorem dX11_readLine_33 : decode cX11_readLine 33 = .ok (.aload_n 0, 1) := by decide +kernel
theorem dX11_readLine_34 : decode cX11_readLine 34 = .ok (.iload_n 2, 1) := by decide +kernel
theorem dX11_readLine_35 : decode cX11_readLine 35 = .ok (.invokevirtual 248, 3) := by decide +kernel
theorem dX11_readLine_38 : decode cX11_readLine 38 = .ok (.ifCond .eq 7, 3) := by decide +kernel
theorem dX11_readLine_41 : decode cX11_readLine 41 = .ok (.iconst 1, 1) := by decide +kernel
theorem dX11_readLine_42 : decode cX11_readLine 42 = .ok (.goto 4, 3) := by decide +kernel
theorem dX11_readLine_45 : decode cX11_readLine 45 = .ok (.iconst 0, 1) := by decide +kernel
theorem dX11_readLine_46 : decode cX11_readLine 46 = .ok (.ireturn, 1) := by decide +kernel
theorem dX11_readAll_0 : decode cX11_readAll 0 = .ok (.aload_n 0, 1) := by decide +kernel
theorem dX11_readAll_1 : decode cX11_readAll 1 = .ok (.invokevirtual 251, 3) := by decide +kernel
theorem dX11_readAll_4 : decode cX11_readAll 4 = .ok (.aload_n 0, 1) := by decide +kernel
theorem dX11_readAll_5 : decode cX11_readAll 5 = .ok (.iconst 0, 1) := by decide +kernel
theorem dX11_readAll_6 : decode cX11_readAll 6 = .ok (.putfield 194, 3) := by decide +kernel
theorem dX11_readAll_9 : decode cX11_readAll 9 = .ok (.aload_n 0, 1) := by decide +kernel
theorem dX11_readAll_10 : decode cX11_readAll 10 = .ok (.invokevirtual 115, 3) := by decide +kernel
theorem dX11_readAll_13 : decode cX11_readAll 13 = .ok (.aload_n 0, 1) := by decide +kernel
theorem dX11_readAll_14 : decode cX11_readAll 14 = .ok (.getfield 102, 3) := by decide +kernel
theorem dX11_readAll_17 : decode cX11_readAll 17 = .ok (.aload_n 0, 1) := by decide +kernel
theorem dX11_readAll_18 : decode cX11_readAll 18 = .ok (.getfield 105, 3) := by decide +kernel
theorem dX11_readAll_21 : decode cX11_readAll 21 = .ok (.if_icmp .ne 5, 3) := by decide +kernel
theorem dX11_readAll_24 : decode cX11_readAll 24 = .ok (.iconst 0, 1) := by decide +kernel
theorem dX11_readAll_25 : decode cX11_readAll 25 = .ok (.ireturn, 1) := by decide +kernel
theorem dX11_readAll_26 : decode cX11_readAll 26 = .ok (.iconst 0, 1) := by decide +kernel
theorem dX11_readAll_27 : decode cX11_readAll 27 = .ok (.istore_n 2, 1) := by decide +kernel
theorem dX11_readAll_28 : decode cX11_readAll 28 = .ok (.aload_n 0, 1) := by decide +kernel
theorem dX11_readAll_29 : decode cX11_readAll 29 = .ok (.iload_n 1, 1) := by decide +kernel
theorem dX11_readAll_30 : decode cX11_readAll 30 = .ok (.iload_n 2, 1) := by decide +kernel
theorem dX11_readAll_31 : decode cX11_readAll 31 = .ok (.invokevirtual 254, 3) := by decide +kernel
theorem dX11_readAll_34 : decode cX11_readAll 34 = .ok (.ifCond .ne 5, 3) := by decide +kernel
theorem dX11_readAll_37 : decode cX11_readAll 37 = .ok (.iconst (-1), 1) := by decide +kernel
theorem dX11_readAll_38 : decode cX11_readAll 38 = .ok (.ireturn, 1) := by decide +kernel
theorem dX11_readAll_39 : decode cX11_readAll 39 = .ok (.aload_n 0, 1) := by decide +kernel
theorem dX11_readAll_40 : decode cX11_readAll 40 = .ok (.invokevirtual 115, 3) := by decide +kernel
theorem dX11_readAll_43 : decode cX11_readAll 43 = .ok (.aload_n 0, 1) := by decide +kernel
theorem dX11_readAll_44 : decode cX11_readAll 44 = .ok (.getfield 102, 3) := by decide +kernel
theorem dX11_readAll_47 : decode cX11_readAll 47 = .ok (.aload_n 0, 1) := by decide +kernel
theorem dX11_readAll_48 : decode cX11_readAll 48 = .ok (.getfield 105, 3) := by decide +kernel
theorem dX11_readAll_51 : decode cX11_readAll 51 = .ok (.if_icmp .ne 7, 3) := by decide +kernel
theorem dX11_readAll_54 : decode cX11_readAll 54 = .ok (.iload_n 2, 1) := by decide +kernel
theorem dX11_readAll_55 : decode cX11_readAll 55 = .ok (.iconst 1, 1) := by decide +kernel
theorem dX11_readAll_56 : decode cX11_readAll 56 = .ok (.iadd, 1) := by decide +kernel
theorem dX11_readAll_57 : decode cX11_readAll 57 = .ok (.ireturn, 1) := by decide +kernel
theorem dX11_readAll_58 : decode cX11_readAll 58 = .ok (.aload_n 0, 1) := by decide +kernel
theorem dX11_readAll_59 : decode cX11_readAll 59 = .ok (.bipush 59, 2) := by decide +kernel
theorem dX11_readAll_61 : decode cX11_readAll 61 = .ok (.bipush 59, 2) := by decide +kernel
theorem dX11_readAll_63 : decode cX11_readAll 63 = .ok (.invokevirtual 108, 3) := by decide +kernel
theorem dX11_readAll_66 : decode cX11_readAll 66 = .ok (.ifCond .ne 5, 3) := by decide +kernel
theorem dX11_readAll_69 : decode cX11_readAll 69 = .ok (.iconst (-1), 1) := by decide +kernel
theorem dX11_readAll_70 : decode cX11_readAll 70 = .ok (.ireturn, 1) := by decide +kernel
theorem dX11_readAll_71 : decode cX11_readAll 71 = .ok (.aload_n 0, 1) := by decide +kernel
theorem dX11_readAll_72 : decode cX11_readAll 72 = .ok (.dup, 1) := by decide +kernel
theorem dX11_readAll_73 : decode cX11_readAll 73 = .ok (.getfield 102, 3) := by decide +kernel
theorem dX11_readAll_76 : decode cX11_readAll 76 = .ok (.iconst 1, 1) := by decide +kernel
theorem dX11_readAll_77 : decode cX11_readAll 77 = .ok (.iadd, 1) := by decide +kernel
theorem dX11_readAll_78 : decode cX11_readAll 78 = .ok (.putfield 102, 3) := by decide +kernel
theorem dX11_readAll_81 : decode cX11_readAll 81 = .ok (.iinc 2 1, 3) := by decide +kernel
theorem dX11_readAll_84 : decode cX11_readAll 84 = .ok (.goto (-56), 3) := by decide +kernel
theorem dX11_court_0 : decode cX11_court 0 = .ok (.iconst 0, 1) := by decide +kernel
theorem dX11_court_1 : decode cX11_court 1 = .ok (.istore_n 1, 1) := by decide +kernel
theorem dX11_court_2 : decode cX11_court 2 = .ok (.iload_n 1, 1) := by decide +kernel
theorem dX11_court_3 : decode cX11_court 3 = .ok (.sipush 1154, 3) := by decide +kernel
theorem dX11_court_6 : decode cX11_court 6 = .ok (.if_icmp .ge 21, 3) := by decide +kernel
theorem dX11_court_9 : decode cX11_court 9 = .ok (.aload_n 0, 1) := by decide +kernel
theorem dX11_court_10 : decode cX11_court 10 = .ok (.getfield 20, 3) := by decide +kernel
theorem dX11_court_13 : decode cX11_court 13 = .ok (.iload_n 1, 1) := by decide +kernel
theorem dX11_court_14 : decode cX11_court 14 = .ok (.aload_n 0, 1) := by decide +kernel
theorem dX11_court_15 : decode cX11_court 15 = .ok (.getfield 13, 3) := by decide +kernel
theorem dX11_court_18 : decode cX11_court 18 = .ok (.iload_n 1, 1) := by decide +kernel
theorem dX11_court_19 : decode cX11_court 19 = .ok (.iaload, 1) := by decide +kernel
theorem dX11_court_20 : decode cX11_court 20 = .ok (.iastore, 1) := by decide +kernel
theorem dX11_court_21 : decode cX11_court 21 = .ok (.iinc 1 1, 3) := by decide +kernel
theorem dX11_court_24 : decode cX11_court 24 = .ok (.goto (-22), 3) := by decide +kernel
theorem dX11_court_27 : decode cX11_court 27 = .ok (.aload_n 0, 1) := by decide +kernel
theorem dX11_court_28 : decode cX11_court 28 = .ok (.iconst 1, 1) := by decide +kernel
theorem dX11_court_29 : decode cX11_court 29 = .ok (.invokevirtual 258, 3) := by decide +kernel
theorem dX11_court_32 : decode cX11_court 32 = .ok (.istore_n 1, 1) := by decide +kernel
theorem dX11_court_33 : decode cX11_court 33 = .ok (.aload_n 0, 1) := by decide +kernel
theorem dX11_court_34 : decode cX11_court 34 = .ok (.iload_n 1, 1) := by decide +kernel
theorem dX11_court_35 : decode cX11_court 35 = .ok (.ifCond .ge 10, 3) := by decide +kernel
theorem dX11_court_38 : decode cX11_court 38 = .ok (.aload_n 0, 1) := by decide +kernel
theorem dX11_court_39 : decode cX11_court 39 = .ok (.getfield 112, 3) := by decide +kernel
theorem dX11_court_42 : decode cX11_court 42 = .ok (.goto 4, 3) := by decide +kernel
theorem dX11_court_45 : decode cX11_court 45 = .ok (.iconst (-1), 1) := by decide +kernel
theorem dX11_court_46 : decode cX11_court 46 = .ok (.putfield 33, 3) := by decide +kernel
theorem dX11_court_49 : decode cX11_court 49 = .ok (.aload_n 0, 1) := by decide +kernel
theorem dX11_court_50 : decode cX11_court 50 = .ok (.iload_n 1, 1) := by decide +kernel
theorem dX11_court_51 : decode cX11_court 51 = .ok (.ifCond .ge 7, 3) := by decide +kernel
theorem dX11_court_54 : decode cX11_court 54 = .ok (.iconst 1, 1) := by decide +kernel
theorem dX11_court_55 : decode cX11_court 55 = .ok (.goto 4, 3) := by decide +kernel
theorem dX11_court_58 : decode cX11_court 58 = .ok (.iconst 0, 1) := by decide +kernel
theorem dX11_court_59 : decode cX11_court 59 = .ok (.iconst 1, 1) := by decide +kernel
theorem dX11_court_60 : decode cX11_court 60 = .ok (.invokevirtual 262, 3) := by decide +kernel
theorem dX11_court_63 : decode cX11_court 63 = .ok (.ifCond .ne 27, 3) := by decide +kernel
theorem dX11_court_66 : decode cX11_court 66 = .ok (.aload_n 0, 1) := by decide +kernel
theorem dX11_court_67 : decode cX11_court 67 = .ok (.aload_n 0, 1) := by decide +kernel
theorem dX11_court_68 : decode cX11_court 68 = .ok (.getfield 13, 3) := by decide +kernel
theorem dX11_court_71 : decode cX11_court 71 = .ok (.iconst 2, 1) := by decide +kernel
theorem dX11_court_72 : decode cX11_court 72 = .ok (.iaload, 1) := by decide +kernel
theorem dX11_court_73 : decode cX11_court 73 = .ok (.bipush 12, 2) := by decide +kernel
theorem dX11_court_75 : decode cX11_court 75 = .ok (.if_icmp .ne 7, 3) := by decide +kernel
theorem dX11_court_78 : decode cX11_court 78 = .ok (.iconst 1, 1) := by decide +kernel
theorem dX11_court_79 : decode cX11_court 79 = .ok (.goto 4, 3) := by decide +kernel
theorem dX11_court_82 : decode cX11_court 82 = .ok (.iconst 0, 1) := by decide +kernel
theorem dX11_court_83 : decode cX11_court 83 = .ok (.iconst 2, 1) := by decide +kernel
theorem dX11_court_84 : decode cX11_court 84 = .ok (.invokevirtual 262, 3) := by decide +kernel
theorem dX11_court_87 : decode cX11_court 87 = .ok (.ifCond .eq 32, 3) := by decide +kernel
theorem dX11_court_90 : decode cX11_court 90 = .ok (.iconst 0, 1) := by decide +kernel
theorem dX11_court_91 : decode cX11_court 91 = .ok (.istore_n 2, 1) := by decide +kernel
theorem dX11_court_92 : decode cX11_court 92 = .ok (.iload_n 2, 1) := by decide +kernel
theorem dX11_court_93 : decode cX11_court 93 = .ok (.sipush 1154, 3) := by decide +kernel
theorem dX11_court_96 : decode cX11_court 96 = .ok (.if_icmp .ge 21, 3) := by decide +kernel
theorem dX11_court_99 : decode cX11_court 99 = .ok (.aload_n 0, 1) := by decide +kernel
theorem dX11_court_100 : decode cX11_court 100 = .ok (.getfield 13, 3) := by decide +kernel
theorem dX11_court_103 : decode cX11_court 103 = .ok (.iload_n 2, 1) := by decide +kernel
theorem dX11_court_104 : decode cX11_court 104 = .ok (.aload_n 0, 1) := by decide +kernel
theorem dX11_court_105 : decode cX11_court 105 = .ok (.getfield 20, 3) := by decide +kernel
theorem dX11_court_108 : decode cX11_court 108 = .ok (.iload_n 2, 1) := by decide +kernel
theorem dX11_court_109 : decode cX11_court 109 = .ok (.iaload, 1) := by decide +kernel
theorem dX11_court_110 : decode cX11_court 110 = .ok (.iastore, 1) := by decide +kernel
theorem dX11_court_111 : decode cX11_court 111 = .ok (.iinc 2 1, 3) := by decide +kernel
theorem dX11_court_114 : decode cX11_court 114 = .ok (.goto (-22), 3) := by decide +kernel
theorem dX11_court_117 : decode cX11_court 117 = .ok (.iconst 0, 1) := by decide +kernel
theorem dX11_court_118 : decode cX11_court 118 = .ok (.ireturn, 1) := by decide +kernel
theorem dX11_court_119 : decode cX11_court 119 = .ok (.aload_n 0, 1) := by decide +kernel
theorem dX11_court_120 : decode cX11_court 120 = .ok (.getfield 13, 3) := by decide +kernel
theorem dX11_court_123 : decode cX11_court 123 = .ok (.iconst 2, 1) := by decide +kernel
theorem dX11_court_124 : decode cX11_court 124 = .ok (.dup2, 1) := by decide +kernel
theorem dX11_court_125 : decode cX11_court 125 = .ok (.iaload, 1) := by decide +kernel
theorem dX11_court_126 : decode cX11_court 126 = .ok (.iconst 1, 1) := by decide +kernel
theorem dX11_court_127 : decode cX11_court 127 = .ok (.iadd, 1) := by decide +kernel
theorem dX11_court_128 : decode cX11_court 128 = .ok (.iastore, 1) := by decide +kernel
theorem dX11_court_129 : decode cX11_court 129 = .ok (.aload_n 0, 1) := by decide +kernel
theorem dX11_court_130 : decode cX11_court 130 = .ok (.iconst 0, 1) := by decide +kernel
theorem dX11_court_131 : decode cX11_court 131 = .ok (.putfield 67, 3) := by decide +kernel
theorem dX11_court_134 : decode cX11_court 134 = .ok (.aload_n 0, 1) := by decide +kernel
theorem dX11_court_135 : decode cX11_court 135 = .ok (.getfield 13, 3) := by decide +kernel
theorem dX11_court_138 : decode cX11_court 138 = .ok (.iconst 2, 1) := by decide +kernel
theorem dX11_court_139 : decode cX11_court 139 = .ok (.iaload, 1) := by decide +kernel
theorem dX11_court_140 : decode cX11_court 140 = .ok (.ireturn, 1) := by decide +kernel
theorem dX11_law_0 : decode cX11_law 0 = .ok (.aload_n 0, 1) := by decide +kernel
theorem dX11_law_1 : decode cX11_law 1 = .ok (.iconst 0, 1) := by decide +kernel
theorem dX11_law_2 : decode cX11_law 2 = .ok (.invokevirtual 258, 3) := by decide +kernel
theorem dX11_law_5 : decode cX11_law 5 = .ok (.istore_n 1, 1) := by decide +kernel
theorem dX11_law_6 : decode cX11_law 6 = .ok (.aload_n 0, 1) := by decide +kernel
theorem dX11_law_7 : decode cX11_law 7 = .ok (.iload_n 1, 1) := by decide +kernel
theorem dX11_law_8 : decode cX11_law 8 = .ok (.ifCond .ge 10, 3) := by decide +kernel
theorem dX11_law_11 : decode cX11_law 11 = .ok (.aload_n 0, 1) := by decide +kernel
theorem dX11_law_12 : decode cX11_law 12 = .ok (.getfield 112, 3) := by decide +kernel
theorem dX11_law_15 : decode cX11_law 15 = .ok (.goto 4, 3) := by decide +kernel
theorem dX11_law_18 : decode cX11_law 18 = .ok (.iconst (-1), 1) := by decide +kernel
theorem dX11_law_19 : decode cX11_law 19 = .ok (.putfield 33, 3) := by decide +kernel
theorem dX11_law_22 : decode cX11_law 22 = .ok (.aload_n 0, 1) := by decide +kernel
theorem dX11_law_23 : decode cX11_law 23 = .ok (.iload_n 1, 1) := by decide +kernel
theorem dX11_law_24 : decode cX11_law 24 = .ok (.ifCond .ge 7, 3) := by decide +kernel
theorem dX11_law_27 : decode cX11_law 27 = .ok (.iconst 1, 1) := by decide +kernel
theorem dX11_law_28 : decode cX11_law 28 = .ok (.goto 4, 3) := by decide +kernel
theorem dX11_law_31 : decode cX11_law 31 = .ok (.iconst 0, 1) := by decide +kernel
theorem dX11_law_32 : decode cX11_law 32 = .ok (.iconst 1, 1) := by decide +kernel
theorem dX11_law_33 : decode cX11_law 33 = .ok (.invokevirtual 262, 3) := by decide +kernel
theorem dX11_law_36 : decode cX11_law 36 = .ok (.ifCond .eq 5, 3) := by decide +kernel
theorem dX11_law_39 : decode cX11_law 39 = .ok (.iconst 0, 1) := by decide +kernel
theorem dX11_law_40 : decode cX11_law 40 = .ok (.ireturn, 1) := by decide +kernel
theorem dX11_law_41 : decode cX11_law 41 = .ok (.aload_n 0, 1) := by decide +kernel
theorem dX11_law_42 : decode cX11_law 42 = .ok (.getfield 13, 3) := by decide +kernel
theorem dX11_law_45 : decode cX11_law 45 = .ok (.sipush 1154, 3) := by decide +kernel
theorem dX11_law_48 : decode cX11_law 48 = .ok (.iload_n 1, 1) := by decide +kernel
theorem dX11_law_49 : decode cX11_law 49 = .ok (.iastore, 1) := by decide +kernel
theorem dX11_law_50 : decode cX11_law 50 = .ok (.iconst 0, 1) := by decide +kernel
theorem dX11_law_51 : decode cX11_law 51 = .ok (.istore_n 2, 1) := by decide +kernel
theorem dX11_law_52 : decode cX11_law 52 = .ok (.iload_n 2, 1) := by decide +kernel
theorem dX11_law_53 : decode cX11_law 53 = .ok (.sipush 849, 3) := by decide +kernel
theorem dX11_law_56 : decode cX11_law 56 = .ok (.if_icmp .ge 29, 3) := by decide +kernel
theorem dX11_law_59 : decode cX11_law 59 = .ok (.aload_n 0, 1) := by decide +kernel
theorem dX11_law_60 : decode cX11_law 60 = .ok (.getfield 13, 3) := by decide +kernel
theorem dX11_law_63 : decode cX11_law 63 = .ok (.sipush 305, 3) := by decide +kernel
theorem dX11_law_66 : decode cX11_law 66 = .ok (.iload_n 2, 1) := by decide +kernel
theorem dX11_law_67 : decode cX11_law 67 = .ok (.iadd, 1) := by decide +kernel
theorem dX11_law_68 : decode cX11_law 68 = .ok (.aload_n 0, 1) := by decide +kernel
theorem dX11_law_69 : decode cX11_law 69 = .ok (.getfield 13, 3) := by decide +kernel
theorem dX11_law_72 : decode cX11_law 72 = .ok (.sipush 1154, 3) := by decide +kernel
theorem dX11_law_75 : decode cX11_law 75 = .ok (.iload_n 2, 1) := by decide +kernel
theorem dX11_law_76 : decode cX11_law 76 = .ok (.iadd, 1) := by decide +kernel
theorem dX11_law_77 : decode cX11_law 77 = .ok (.iaload, 1) := by decide +kernel
theorem dX11_law_78 : decode cX11_law 78 = .ok (.iastore, 1) := by decide +kernel
theorem dX11_law_79 : decode cX11_law 79 = .ok (.iinc 2 1, 3) := by decide +kernel
theorem dX11_law_82 : decode cX11_law 82 = .ok (.goto (-30), 3) := by decide +kernel
theorem dX11_law_85 : decode cX11_law 85 = .ok (.aload_n 0, 1) := by decide +kernel
theorem dX11_law_86 : decode cX11_law 86 = .ok (.getfield 13, 3) := by decide +kernel
theorem dX11_law_89 : decode cX11_law 89 = .ok (.iconst 3, 1) := by decide +kernel
theorem dX11_law_90 : decode cX11_law 90 = .ok (.iconst 1, 1) := by decide +kernel
theorem dX11_law_91 : decode cX11_law 91 = .ok (.iastore, 1) := by decide +kernel
theorem dX11_law_92 : decode cX11_law 92 = .ok (.aload_n 0, 1) := by decide +kernel
theorem dX11_law_93 : decode cX11_law 93 = .ok (.iconst 0, 1) := by decide +kernel
theorem dX11_law_94 : decode cX11_law 94 = .ok (.putfield 67, 3) := by decide +kernel
theorem dX11_law_97 : decode cX11_law 97 = .ok (.iload_n 1, 1) := by decide +kernel
theorem dX11_law_98 : decode cX11_law 98 = .ok (.ireturn, 1) := by decide +kernel
theorem dX11_looksAt_0 : decode cX11_looksAt 0 = .ok (.aload_n 0, 1) := by decide +kernel
theorem dX11_looksAt_1 : decode cX11_looksAt 1 = .ok (.aload_n 0, 1) := by decide +kernel
theorem dX11_looksAt_2 : decode cX11_looksAt 2 = .ok (.iload_n 1, 1) := by decide +kernel
theorem dX11_looksAt_3 : decode cX11_looksAt 3 = .ok (.iconst 0, 1) := by decide +kernel
theorem dX11_looksAt_4 : decode cX11_looksAt 4 = .ok (.invokevirtual 80, 3) := by decide +kernel
theorem dX11_looksAt_7 : decode cX11_looksAt 7 = .ok (.putfield 265, 3) := by decide +kernel
theorem dX11_looksAt_10 : decode cX11_looksAt 10 = .ok (.aload_n 0, 1) := by decide +kernel
theorem dX11_looksAt_11 : decode cX11_looksAt 11 = .ok (.aload_n 0, 1) := by decide +kernel
theorem dX11_looksAt_12 : decode cX11_looksAt 12 = .ok (.iload_n 1, 1) := by decide +kernel
theorem dX11_looksAt_13 : decode cX11_looksAt 13 = .ok (.iconst 1, 1) := by decide +kernel
theorem dX11_looksAt_14 : decode cX11_looksAt 14 = .ok (.invokevirtual 80, 3) := by decide +kernel
theorem dX11_looksAt_17 : decode cX11_looksAt 17 = .ok (.putfield 268, 3) := by decide +kernel
theorem dX11_looksAt_20 : decode cX11_looksAt 20 = .ok (.aload_n 0, 1) := by decide +kernel
theorem dX11_looksAt_21 : decode cX11_looksAt 21 = .ok (.aload_n 0, 1) := by decide +kernel
theorem dX11_looksAt_22 : decode cX11_looksAt 22 = .ok (.iload_n 1, 1) := by decide +kernel
theorem dX11_looksAt_23 : decode cX11_looksAt 23 = .ok (.iconst 2, 1) := by decide +kernel
theorem dX11_looksAt_24 : decode cX11_looksAt 24 = .ok (.invokevirtual 80, 3) := by decide +kernel
theorem dX11_looksAt_27 : decode cX11_looksAt 27 = .ok (.putfield 271, 3) := by decide +kernel
theorem dX11_looksAt_30 : decode cX11_looksAt 30 = .ok (.return_, 1) := by decide +kernel
theorem dX11_factOf_0 : decode cX11_factOf 0 = .ok (.iload_n 1, 1) := by decide +kernel
theorem dX11_factOf_1 : decode cX11_factOf 1 = .ok (.tableswitch 137 0 7 #[47, 52, 62, 72, 82, 87, 92, 112], 47) := by decide +kernel
theorem dX11_factOf_48 : decode cX11_factOf 48 = .ok (.aload_n 0, 1) := by decide +kernel
theorem dX11_factOf_49 : decode cX11_factOf 49 = .ok (.getfield 274, 3) := by decide +kernel
theorem dX11_factOf_52 : decode cX11_factOf 52 = .ok (.ireturn, 1) := by decide +kernel
theorem dX11_factOf_53 : decode cX11_factOf 53 = .ok (.aload_n 0, 1) := by decide +kernel
theorem dX11_factOf_54 : decode cX11_factOf 54 = .ok (.aload_n 0, 1) := by decide +kernel
theorem dX11_factOf_55 : decode cX11_factOf 55 = .ok (.getfield 274, 3) := by decide +kernel
theorem dX11_factOf_58 : decode cX11_factOf 58 = .ok (.iconst 3, 1) := by decide +kernel
theorem dX11_factOf_59 : decode cX11_factOf 59 = .ok (.invokevirtual 74, 3) := by decide +kernel
theorem dX11_factOf_62 : decode cX11_factOf 62 = .ok (.ireturn, 1) := by decide +kernel
theorem dX11_factOf_63 : decode cX11_factOf 63 = .ok (.aload_n 0, 1) := by decide +kernel
theorem dX11_factOf_64 : decode cX11_factOf 64 = .ok (.aload_n 0, 1) := by decide +kernel
theorem dX11_factOf_65 : decode cX11_factOf 65 = .ok (.getfield 274, 3) := by decide +kernel
theorem dX11_factOf_68 : decode cX11_factOf 68 = .ok (.iconst 1, 1) := by decide +kernel
theorem dX11_factOf_69 : decode cX11_factOf 69 = .ok (.invokevirtual 74, 3) := by decide +kernel
theorem dX11_factOf_72 : decode cX11_factOf 72 = .ok (.ireturn, 1) := by decide +kernel
theorem dX11_factOf_73 : decode cX11_factOf 73 = .ok (.aload_n 0, 1) := by decide +kernel
theorem dX11_factOf_74 : decode cX11_factOf 74 = .ok (.aload_n 0, 1) := by decide +kernel
theorem dX11_factOf_75 : decode cX11_factOf 75 = .ok (.getfield 274, 3) := by decide +kernel
theorem dX11_factOf_78 : decode cX11_factOf 78 = .ok (.iconst 2, 1) := by decide +kernel
theorem dX11_factOf_79 : decode cX11_factOf 79 = .ok (.invokevirtual 74, 3) := by decide +kernel
theorem dX11_factOf_82 : decode cX11_factOf 82 = .ok (.ireturn, 1) := by decide +kernel
theorem dX11_factOf_83 : decode cX11_factOf 83 = .ok (.aload_n 0, 1) := by decide +kernel
theorem dX11_factOf_84 : decode cX11_factOf 84 = .ok (.getfield 277, 3) := by decide +kernel
theorem dX11_factOf_87 : decode cX11_factOf 87 = .ok (.ireturn, 1) := by decide +kernel
theorem dX11_factOf_88 : decode cX11_factOf 88 = .ok (.aload_n 0, 1) := by decide +kernel
theorem dX11_factOf_89 : decode cX11_factOf 89 = .ok (.getfield 268, 3) := by decide +kernel
theorem dX11_factOf_92 : decode cX11_factOf 92 = .ok (.ireturn, 1) := by decide +kernel
theorem dX11_factOf_93 : decode cX11_factOf 93 = .ok (.aload_n 0, 1) := by decide +kernel
theorem dX11_factOf_94 : decode cX11_factOf 94 = .ok (.getfield 271, 3) := by decide +kernel
theorem dX11_factOf_97 : decode cX11_factOf 97 = .ok (.aload_n 0, 1) := by decide +kernel
theorem dX11_factOf_98 : decode cX11_factOf 98 = .ok (.getfield 274, 3) := by decide +kernel
theorem dX11_factOf_101 : decode cX11_factOf 101 = .ok (.invokestatic 137, 3) := by decide +kernel
theorem dX11_factOf_104 : decode cX11_factOf 104 = .ok (.ifCond .eq 7, 3) := by decide +kernel
theorem dX11_factOf_107 : decode cX11_factOf 107 = .ok (.iconst 1, 1) := by decide +kernel
theorem dX11_factOf_108 : decode cX11_factOf 108 = .ok (.goto 4, 3) := by decide +kernel
theorem dX11_factOf_111 : decode cX11_factOf 111 = .ok (.iconst 0, 1) := by decide +kernel
theorem dX11_factOf_112 : decode cX11_factOf 112 = .ok (.ireturn, 1) := by decide +kernel
theorem dX11_factOf_113 : decode cX11_factOf 113 = .ok (.aload_n 0, 1) := by decide +kernel
theorem dX11_factOf_114 : decode cX11_factOf 114 = .ok (.getfield 265, 3) := by decide +kernel
theorem dX11_factOf_117 : decode cX11_factOf 117 = .ok (.aload_n 0, 1) := by decide +kernel
theorem dX11_factOf_118 : decode cX11_factOf 118 = .ok (.aload_n 0, 1) := by decide +kernel
theorem dX11_factOf_119 : decode cX11_factOf 119 = .ok (.getfield 274, 3) := by decide +kernel
theorem dX11_factOf_122 : decode cX11_factOf 122 = .ok (.iconst 0, 1) := by decide +kernel
theorem dX11_factOf_123 : decode cX11_factOf 123 = .ok (.invokevirtual 74, 3) := by decide +kernel
theorem dX11_factOf_126 : decode cX11_factOf 126 = .ok (.invokestatic 137, 3) := by decide +kernel
theorem dX11_factOf_129 : decode cX11_factOf 129 = .ok (.ifCond .eq 7, 3) := by decide +kernel
theorem dX11_factOf_132 : decode cX11_factOf 132 = .ok (.iconst 1, 1) := by decide +kernel
theorem dX11_factOf_133 : decode cX11_factOf 133 = .ok (.goto 4, 3) := by decide +kernel
theorem dX11_factOf_136 : decode cX11_factOf 136 = .ok (.iconst 0, 1) := by decide +kernel
theorem dX11_factOf_137 : decode cX11_factOf 137 = .ok (.ireturn, 1) := by decide +kernel
theorem dX11_factOf_138 : decode cX11_factOf 138 = .ok (.iload_n 2, 1) := by decide +kernel
theorem dX11_factOf_139 : decode cX11_factOf 139 = .ok (.ireturn, 1) := by decide +kernel
theorem dX11_holdsLine_0 : decode cX11_holdsLine 0 = .ok (.iconst 0, 1) := by decide +kernel
theorem dX11_holdsLine_1 : decode cX11_holdsLine 1 = .ok (.istore_n 2, 1) := by decide +kernel
theorem dX11_holdsLine_2 : decode cX11_holdsLine 2 = .ok (.sipush 306, 3) := by decide +kernel
theorem dX11_holdsLine_5 : decode cX11_holdsLine 5 = .ok (.iconst 4, 1) := by decide +kernel
theorem dX11_holdsLine_6 : decode cX11_holdsLine 6 = .ok (.iload_n 1, 1) := by decide +kernel
theorem dX11_holdsLine_7 : decode cX11_holdsLine 7 = .ok (.imul, 1) := by decide +kernel
theorem dX11_holdsLine_8 : decode cX11_holdsLine 8 = .ok (.iadd, 1) := by decide +kernel
theorem dX11_holdsLine_9 : decode cX11_holdsLine 9 = .ok (.istore_n 3, 1) := by decide +kernel
theorem dX11_holdsLine_10 : decode cX11_holdsLine 10 = .ok (.aload_n 0, 1) := by decide +kernel
theorem dX11_holdsLine_11 : decode cX11_holdsLine 11 = .ok (.getfield 13, 3) := by decide +kernel
theorem dX11_holdsLine_14 : decode cX11_holdsLine 14 = .ok (.iload_n 3, 1) := by decide +kernel
theorem dX11_holdsLine_15 : decode cX11_holdsLine 15 = .ok (.iconst 2, 1) := by decide +kernel
theorem dX11_holdsLine_16 : decode cX11_holdsLine 16 = .ok (.iadd, 1) := by decide +kernel
theorem dX11_holdsLine_17 : decode cX11_holdsLine 17 = .ok (.iaload, 1) := by decide +kernel
theorem dX11_holdsLine_18 : decode cX11_holdsLine 18 = .ok (.istore 4, 2) := by decide +kernel
theorem dX11_holdsLine_20 : decode cX11_holdsLine 20 = .ok (.iload 4, 2) := by decide +kernel
theorem dX11_holdsLine_22 : decode cX11_holdsLine 22 = .ok (.aload_n 0, 1) := by decide +kernel
theorem dX11_holdsLine_23 : decode cX11_holdsLine 23 = .ok (.getfield 13, 3) := by decide +kernel
theorem dX11_holdsLine_26 : decode cX11_holdsLine 26 = .ok (.iload_n 3, 1) := by decide +kernel
theorem dX11_holdsLine_27 : decode cX11_holdsLine 27 = .ok (.iconst 3, 1) := by decide +kernel
theorem dX11_holdsLine_28 : decode cX11_holdsLine 28 = .ok (.iadd, 1) := by decide +kernel
theorem dX11_holdsLine_29 : decode cX11_holdsLine 29 = .ok (.iaload, 1) := by decide +kernel
theorem dX11_holdsLine_30 : decode cX11_holdsLine 30 = .ok (.if_icmp .ge 229, 3) := by decide +kernel
theorem dX11_holdsLine_33 : decode cX11_holdsLine 33 = .ok (.aload_n 0, 1) := by decide +kernel
theorem dX11_holdsLine_34 : decode cX11_holdsLine 34 = .ok (.getfield 13, 3) := by decide +kernel
theorem dX11_holdsLine_37 : decode cX11_holdsLine 37 = .ok (.sipush 354, 3) := by decide +kernel
theorem dX11_holdsLine_40 : decode cX11_holdsLine 40 = .ok (.iconst 2, 1) := by decide +kernel
theorem dX11_holdsLine_41 : decode cX11_holdsLine 41 = .ok (.iload 4, 2) := by decide +kernel
theorem dX11_holdsLine_43 : decode cX11_holdsLine 43 = .ok (.imul, 1) := by decide +kernel
theorem dX11_holdsLine_44 : decode cX11_holdsLine 44 = .ok (.iadd, 1) := by decide +kernel
theorem dX11_holdsLine_45 : decode cX11_holdsLine 45 = .ok (.iaload, 1) := by decide +kernel
theorem dX11_holdsLine_46 : decode cX11_holdsLine 46 = .ok (.istore 5, 2) := by decide +kernel
theorem dX11_holdsLine_48 : decode cX11_holdsLine 48 = .ok (.iload 5, 2) := by decide +kernel
theorem dX11_holdsLine_50 : decode cX11_holdsLine 50 = .ok (.bipush 8, 2) := by decide +kernel
theorem dX11_holdsLine_52 : decode cX11_holdsLine 52 = .ok (.if_icmp .gt 36, 3) := by decide +kernel
theorem dX11_holdsLine_55 : decode cX11_holdsLine 55 = .ok (.aload_n 0, 1) := by decide +kernel
theorem dX11_holdsLine_56 : decode cX11_holdsLine 56 = .ok (.getfield 39, 3) := by decide +kernel
theorem dX11_holdsLine_59 : decode cX11_holdsLine 59 = .ok (.iload_n 2, 1) := by decide +kernel
theorem dX11_holdsLine_60 : decode cX11_holdsLine 60 = .ok (.aload_n 0, 1) := by decide +kernel
theorem dX11_holdsLine_61 : decode cX11_holdsLine 61 = .ok (.iload 5, 2) := by decide +kernel
theorem dX11_holdsLine_63 : decode cX11_holdsLine 63 = .ok (.aload_n 0, 1) := by decide +kernel
theorem dX11_holdsLine_64 : decode cX11_holdsLine 64 = .ok (.getfield 13, 3) := by decide +kernel
theorem dX11_holdsLine_67 : decode cX11_holdsLine 67 = .ok (.sipush 354, 3) := by decide +kernel
theorem dX11_holdsLine_70 : decode cX11_holdsLine 70 = .ok (.iconst 2, 1) := by decide +kernel
theorem dX11_holdsLine_71 : decode cX11_holdsLine 71 = .ok (.iload 4, 2) := by decide +kernel
theorem dX11_holdsLine_73 : decode cX11_holdsLine 73 = .ok (.imul, 1) := by decide +kernel
theorem dX11_holdsLine_74 : decode cX11_holdsLine 74 = .ok (.iadd, 1) := by decide +kernel
theorem dX11_holdsLine_75 : decode cX11_holdsLine 75 = .ok (.iconst 1, 1) := by decide +kernel
theorem dX11_holdsLine_76 : decode cX11_holdsLine 76 = .ok (.iadd, 1) := by decide +kernel
theorem dX11_holdsLine_77 : decode cX11_holdsLine 77 = .ok (.iaload, 1) := by decide +kernel
theorem dX11_holdsLine_78 : decode cX11_holdsLine 78 = .ok (.invokevirtual 280, 3) := by decide +kernel
theorem dX11_holdsLine_81 : decode cX11_holdsLine 81 = .ok (.iastore, 1) := by decide +kernel
theorem dX11_holdsLine_82 : decode cX11_holdsLine 82 = .ok (.iinc 2 1, 3) := by decide +kernel
theorem dX11_holdsLine_85 : decode cX11_holdsLine 85 = .ok (.goto 168, 3) := by decide +kernel
theorem dX11_holdsLine_88 : decode cX11_holdsLine 88 = .ok (.iload 5, 2) := by decide +kernel
theorem dX11_holdsLine_90 : decode cX11_holdsLine 90 = .ok (.bipush 12, 2) := by decide +kernel
theorem dX11_holdsLine_92 : decode cX11_holdsLine 92 = .ok (.if_icmp .ne 24, 3) := by decide +kernel
theorem dX11_holdsLine_95 : decode cX11_holdsLine 95 = .ok (.aload_n 0, 1) := by decide +kernel
theorem dX11_holdsLine_96 : decode cX11_holdsLine 96 = .ok (.getfield 39, 3) := by decide +kernel
theorem dX11_holdsLine_99 : decode cX11_holdsLine 99 = .ok (.iload_n 2, 1) := by decide +kernel
theorem dX11_holdsLine_100 : decode cX11_holdsLine 100 = .ok (.iconst 1, 1) := by decide +kernel
theorem dX11_holdsLine_101 : decode cX11_holdsLine 101 = .ok (.isub, 1) := by decide +kernel
theorem dX11_holdsLine_102 : decode cX11_holdsLine 102 = .ok (.iconst 1, 1) := by decide +kernel
theorem dX11_holdsLine_103 : decode cX11_holdsLine 103 = .ok (.aload_n 0, 1) := by decide +kernel
theorem dX11_holdsLine_104 : decode cX11_holdsLine 104 = .ok (.getfield 39, 3) := by decide +kernel
theorem dX11_holdsLine_107 : decode cX11_holdsLine 107 = .ok (.iload_n 2, 1) := by decide +kernel
theorem dX11_holdsLine_108 : decode cX11_holdsLine 108 = .ok (.iconst 1, 1) := by decide +kernel
theorem dX11_holdsLine_109 : decode cX11_holdsLine 109 = .ok (.isub, 1) := by decide +kernel
theorem dX11_holdsLine_110 : decode cX11_holdsLine 110 = .ok (.iaload, 1) := by decide +kernel
theorem dX11_holdsLine_111 : decode cX11_holdsLine 111 = .ok (.isub, 1) := by decide +kernel
theorem dX11_holdsLine_112 : decode cX11_holdsLine 112 = .ok (.iastore, 1) := by decide +kernel
theorem dX11_holdsLine_113 : decode cX11_holdsLine 113 = .ok (.goto 140, 3) := by decide +kernel
theorem dX11_holdsLine_116 : decode cX11_holdsLine 116 = .ok (.iinc 2 (-1), 3) := by decide +kernel
theorem dX11_holdsLine_119 : decode cX11_holdsLine 119 = .ok (.aload_n 0, 1) := by decide +kernel
theorem dX11_holdsLine_120 : decode cX11_holdsLine 120 = .ok (.getfield 39, 3) := by decide +kernel
theorem dX11_holdsLine_123 : decode cX11_holdsLine 123 = .ok (.iload_n 2, 1) := by decide +kernel
theorem dX11_holdsLine_124 : decode cX11_holdsLine 124 = .ok (.iconst 1, 1) := by decide +kernel
theorem dX11_holdsLine_125 : decode cX11_holdsLine 125 = .ok (.isub, 1) := by decide +kernel
theorem dX11_holdsLine_126 : decode cX11_holdsLine 126 = .ok (.iaload, 1) := by decide +kernel
theorem dX11_holdsLine_127 : decode cX11_holdsLine 127 = .ok (.istore 6, 2) := by decide +kernel
theorem dX11_holdsLine_129 : decode cX11_holdsLine 129 = .ok (.aload_n 0, 1) := by decide +kernel
theorem dX11_holdsLine_130 : decode cX11_holdsLine 130 = .ok (.getfield 39, 3) := by decide +kernel
theorem dX11_holdsLine_133 : decode cX11_holdsLine 133 = .ok (.iload_n 2, 1) := by decide +kernel
theorem dX11_holdsLine_134 : decode cX11_holdsLine 134 = .ok (.iaload, 1) := by decide +kernel
theorem dX11_holdsLine_135 : decode cX11_holdsLine 135 = .ok (.istore 7, 2) := by decide +kernel
theorem dX11_holdsLine_137 : decode cX11_holdsLine 137 = .ok (.iload 5, 2) := by decide +kernel
theorem dX11_holdsLine_139 : decode cX11_holdsLine 139 = .ok (.bipush 10, 2) := by decide +kernel
theorem dX11_holdsLine_141 : decode cX11_holdsLine 141 = .ok (.if_icmp .ne 18, 3) := by decide +kernel
theorem dX11_holdsLine_144 : decode cX11_holdsLine 144 = .ok (.iload 6, 2) := by decide +kernel
theorem dX11_holdsLine_146 : decode cX11_holdsLine 146 = .ok (.iload 7, 2) := by decide +kernel
theorem dX11_holdsLine_148 : decode cX11_holdsLine 148 = .ok (.if_icmp .ge 7, 3) := by decide +kernel
theorem dX11_holdsLine_151 : decode cX11_holdsLine 151 = .ok (.iconst 1, 1) := by decide +kernel
theorem dX11_holdsLine_152 : decode cX11_holdsLine 152 = .ok (.goto 66, 3) := by decide +kernel
theorem dX11_holdsLine_155 : decode cX11_holdsLine 155 = .ok (.iconst 0, 1) := by decide +kernel
theorem dX11_holdsLine_156 : decode cX11_holdsLine 156 = .ok (.goto 62, 3) := by decide +kernel
theorem dX11_holdsLine_159 : decode cX11_holdsLine 159 = .ok (.iload 5, 2) := by decide +kernel
theorem dX11_holdsLine_161 : decode cX11_holdsLine 161 = .ok (.bipush 11, 2) := by decide +kernel
theorem dX11_holdsLine_163 : decode cX11_holdsLine 163 = .ok (.if_icmp .ne 18, 3) := by decide +kernel
theorem dX11_holdsLine_166 : decode cX11_holdsLine 166 = .ok (.iload 6, 2) := by decide +kernel
theorem dX11_holdsLine_168 : decode cX11_holdsLine 168 = .ok (.iload 7, 2) := by decide +kernel
theorem dX11_holdsLine_170 : decode cX11_holdsLine 170 = .ok (.if_icmp .le 7, 3) := by decide +kernel
theorem dX11_holdsLine_173 : decode cX11_holdsLine 173 = .ok (.iconst 1, 1) := by decide +kernel
theorem dX11_holdsLine_174 : decode cX11_holdsLine 174 = .ok (.goto 44, 3) := by decide +kernel
theorem dX11_holdsLine_177 : decode cX11_holdsLine 177 = .ok (.iconst 0, 1) := by decide +kernel
theorem dX11_holdsLine_178 : decode cX11_holdsLine 178 = .ok (.goto 40, 3) := by decide +kernel
theorem dX11_holdsLine_181 : decode cX11_holdsLine 181 = .ok (.iload 5, 2) := by decide +kernel
theorem dX11_holdsLine_183 : decode cX11_holdsLine 183 = .ok (.bipush 13, 2) := by decide +kernel
theorem dX11_holdsLine_185 : decode cX11_holdsLine 185 = .ok (.if_icmp .ne 20, 3) := by decide +kernel
theorem dX11_holdsLine_188 : decode cX11_holdsLine 188 = .ok (.iload 6, 2) := by decide +kernel
theorem dX11_holdsLine_190 : decode cX11_holdsLine 190 = .ok (.iload 7, 2) := by decide +kernel
theorem dX11_holdsLine_192 : decode cX11_holdsLine 192 = .ok (.iadd, 1) := by decide +kernel
theorem dX11_holdsLine_193 : decode cX11_holdsLine 193 = .ok (.iconst 2, 1) := by decide +kernel
theorem dX11_holdsLine_194 : decode cX11_holdsLine 194 = .ok (.if_icmp .ne 7, 3) := by decide +kernel
theorem dX11_holdsLine_197 : decode cX11_holdsLine 197 = .ok (.iconst 1, 1) := by decide +kernel
theorem dX11_holdsLine_198 : decode cX11_holdsLine 198 = .ok (.goto 20, 3) := by decide +kernel
theorem dX11_holdsLine_201 : decode cX11_holdsLine 201 = .ok (.iconst 0, 1) := by decide +kernel
theorem dX11_holdsLine_202 : decode cX11_holdsLine 202 = .ok (.goto 16, 3) := by decide +kernel
theorem dX11_holdsLine_205 : decode cX11_holdsLine 205 = .ok (.iload 6, 2) := by decide +kernel
theorem dX11_holdsLine_207 : decode cX11_holdsLine 207 = .ok (.iload 7, 2) := by decide +kernel
theorem dX11_holdsLine_209 : decode cX11_holdsLine 209 = .ok (.iadd, 1) := by decide +kernel
theorem dX11_holdsLine_210 : decode cX11_holdsLine 210 = .ok (.ifCond .le 7, 3) := by decide +kernel
theorem dX11_holdsLine_213 : decode cX11_holdsLine 213 = .ok (.iconst 1, 1) := by decide +kernel
theorem dX11_holdsLine_214 : decode cX11_holdsLine 214 = .ok (.goto 4, 3) := by decide +kernel
theorem dX11_holdsLine_217 : decode cX11_holdsLine 217 = .ok (.iconst 0, 1) := by decide +kernel
theorem dX11_holdsLine_218 : decode cX11_holdsLine 218 = .ok (.istore 8, 2) := by decide +kernel
theorem dX11_holdsLine_220 : decode cX11_holdsLine 220 = .ok (.aload_n 0, 1) := by decide +kernel
theorem dX11_holdsLine_221 : decode cX11_holdsLine 221 = .ok (.getfield 39, 3) := by decide +kernel
theorem dX11_holdsLine_224 : decode cX11_holdsLine 224 = .ok (.iload_n 2, 1) := by decide +kernel
theorem dX11_holdsLine_225 : decode cX11_holdsLine 225 = .ok (.iconst 1, 1) := by decide +kernel
theorem dX11_holdsLine_226 : decode cX11_holdsLine 226 = .ok (.isub, 1) := by decide +kernel
theorem dX11_holdsLine_227 : decode cX11_holdsLine 227 = .ok (.iload 5, 2) := by decide +kernel
theorem dX11_holdsLine_229 : decode cX11_holdsLine 229 = .ok (.bipush 9, 2) := by decide +kernel
theorem dX11_holdsLine_231 : decode cX11_holdsLine 231 = .ok (.if_icmp .ne 11, 3) := by decide +kernel
theorem dX11_holdsLine_234 : decode cX11_holdsLine 234 = .ok (.iload 6, 2) := by decide +kernel
theorem dX11_holdsLine_236 : decode cX11_holdsLine 236 = .ok (.iload 7, 2) := by decide +kernel
theorem dX11_holdsLine_238 : decode cX11_holdsLine 238 = .ok (.iadd, 1) := by decide +kernel
theorem dX11_holdsLine_239 : decode cX11_holdsLine 239 = .ok (.goto 13, 3) := by decide +kernel
theorem dX11_holdsLine_242 : decode cX11_holdsLine 242 = .ok (.iload 8, 2) := by decide +kernel
theorem dX11_holdsLine_244 : decode cX11_holdsLine 244 = .ok (.ifCond .eq 7, 3) := by decide +kernel
theorem dX11_holdsLine_247 : decode cX11_holdsLine 247 = .ok (.iconst 1, 1) := by decide +kernel
theorem dX11_holdsLine_248 : decode cX11_holdsLine 248 = .ok (.goto 4, 3) := by decide +kernel
theorem dX11_holdsLine_251 : decode cX11_holdsLine 251 = .ok (.iconst 0, 1) := by decide +kernel
theorem dX11_holdsLine_252 : decode cX11_holdsLine 252 = .ok (.iastore, 1) := by decide +kernel
theorem dX11_holdsLine_253 : decode cX11_holdsLine 253 = .ok (.iinc 4 1, 3) := by decide +kernel
theorem dX11_holdsLine_256 : decode cX11_holdsLine 256 = .ok (.goto (-236), 3) := by decide +kernel
theorem dX11_holdsLine_259 : decode cX11_holdsLine 259 = .ok (.iload_n 2, 1) := by decide +kernel
theorem dX11_holdsLine_260 : decode cX11_holdsLine 260 = .ok (.ifCond .eq 13, 3) := by decide +kernel
theorem dX11_holdsLine_263 : decode cX11_holdsLine 263 = .ok (.aload_n 0, 1) := by decide +kernel
theorem dX11_holdsLine_264 : decode cX11_holdsLine 264 = .ok (.getfield 39, 3) := by decide +kernel
theorem dX11_holdsLine_267 : decode cX11_holdsLine 267 = .ok (.iconst 0, 1) := by decide +kernel
theorem dX11_holdsLine_268 : decode cX11_holdsLine 268 = .ok (.iaload, 1) := by decide +kernel
theorem dX11_holdsLine_269 : decode cX11_holdsLine 269 = .ok (.iconst 1, 1) := by decide +kernel
theorem dX11_holdsLine_270 : decode cX11_holdsLine 270 = .ok (.if_icmp .ne 7, 3) := by decide +kernel
theorem dX11_holdsLine_273 : decode cX11_holdsLine 273 = .ok (.iconst 1, 1) := by decide +kernel
theorem dX11_holdsLine_274 : decode cX11_holdsLine 274 = .ok (.goto 4, 3) := by decide +kernel
theorem dX11_holdsLine_277 : decode cX11_holdsLine 277 = .ok (.iconst 0, 1) := by decide +kernel
theorem dX11_holdsLine_278 : decode cX11_holdsLine 278 = .ok (.ireturn, 1) := by decide +kernel
theorem dX11_sumOf_0 : decode cX11_sumOf 0 = .ok (.iconst 0, 1) := by decide +kernel
theorem dX11_sumOf_1 : decode cX11_sumOf 1 = .ok (.istore_n 2, 1) := by decide +kernel
theorem dX11_sumOf_2 : decode cX11_sumOf 2 = .ok (.iconst 0, 1) := by decide +kernel
theorem dX11_sumOf_3 : decode cX11_sumOf 3 = .ok (.istore_n 3, 1) := by decide +kernel
theorem dX11_sumOf_4 : decode cX11_sumOf 4 = .ok (.aload_n 0, 1) := by decide +kernel
theorem dX11_sumOf_5 : decode cX11_sumOf 5 = .ok (.getfield 13, 3) := by decide +kernel
theorem dX11_sumOf_8 : decode cX11_sumOf 8 = .ok (.iconst 3, 1) := by decide +kernel
theorem dX11_sumOf_9 : decode cX11_sumOf 9 = .ok (.iaload, 1) := by decide +kernel
theorem dX11_sumOf_10 : decode cX11_sumOf 10 = .ok (.iconst 1, 1) := by decide +kernel
theorem dX11_sumOf_11 : decode cX11_sumOf 11 = .ok (.if_icmp .ne 62, 3) := by decide +kernel
theorem dX11_sumOf_14 : decode cX11_sumOf 14 = .ok (.iload_n 3, 1) := by decide +kernel
theorem dX11_sumOf_15 : decode cX11_sumOf 15 = .ok (.aload_n 0, 1) := by decide +kernel
theorem dX11_sumOf_16 : decode cX11_sumOf 16 = .ok (.getfield 13, 3) := by decide +kernel
theorem dX11_sumOf_19 : decode cX11_sumOf 19 = .ok (.sipush 305, 3) := by decide +kernel
theorem dX11_sumOf_22 : decode cX11_sumOf 22 = .ok (.iaload, 1) := by decide +kernel
theorem dX11_sumOf_23 : decode cX11_sumOf 23 = .ok (.if_icmp .ge 50, 3) := by decide +kernel
theorem dX11_sumOf_26 : decode cX11_sumOf 26 = .ok (.aload_n 0, 1) := by decide +kernel
theorem dX11_sumOf_27 : decode cX11_sumOf 27 = .ok (.getfield 13, 3) := by decide +kernel
theorem dX11_sumOf_30 : decode cX11_sumOf 30 = .ok (.sipush 306, 3) := by decide +kernel
theorem dX11_sumOf_33 : decode cX11_sumOf 33 = .ok (.iconst 4, 1) := by decide +kernel
theorem dX11_sumOf_34 : decode cX11_sumOf 34 = .ok (.iload_n 3, 1) := by decide +kernel
theorem dX11_sumOf_35 : decode cX11_sumOf 35 = .ok (.imul, 1) := by decide +kernel
theorem dX11_sumOf_36 : decode cX11_sumOf 36 = .ok (.iadd, 1) := by decide +kernel
theorem dX11_sumOf_37 : decode cX11_sumOf 37 = .ok (.iaload, 1) := by decide +kernel
theorem dX11_sumOf_38 : decode cX11_sumOf 38 = .ok (.iload_n 1, 1) := by decide +kernel
theorem dX11_sumOf_39 : decode cX11_sumOf 39 = .ok (.if_icmp .ne 28, 3) := by decide +kernel
theorem dX11_sumOf_42 : decode cX11_sumOf 42 = .ok (.aload_n 0, 1) := by decide +kernel
theorem dX11_sumOf_43 : decode cX11_sumOf 43 = .ok (.iload_n 3, 1) := by decide +kernel
theorem dX11_sumOf_44 : decode cX11_sumOf 44 = .ok (.invokevirtual 283, 3) := by decide +kernel
theorem dX11_sumOf_47 : decode cX11_sumOf 47 = .ok (.ifCond .eq 20, 3) := by decide +kernel
theorem dX11_sumOf_50 : decode cX11_sumOf 50 = .ok (.iload_n 2, 1) := by decide +kernel
theorem dX11_sumOf_51 : decode cX11_sumOf 51 = .ok (.aload_n 0, 1) := by decide +kernel
theorem dX11_sumOf_52 : decode cX11_sumOf 52 = .ok (.getfield 13, 3) := by decide +kernel
theorem dX11_sumOf_55 : decode cX11_sumOf 55 = .ok (.sipush 306, 3) := by decide +kernel
theorem dX11_sumOf_58 : decode cX11_sumOf 58 = .ok (.iconst 4, 1) := by decide +kernel
theorem dX11_sumOf_59 : decode cX11_sumOf 59 = .ok (.iload_n 3, 1) := by decide +kernel
theorem dX11_sumOf_60 : decode cX11_sumOf 60 = .ok (.imul, 1) := by decide +kernel
theorem dX11_sumOf_61 : decode cX11_sumOf 61 = .ok (.iadd, 1) := by decide +kernel
theorem dX11_sumOf_62 : decode cX11_sumOf 62 = .ok (.iconst 1, 1) := by decide +kernel
theorem dX11_sumOf_63 : decode cX11_sumOf 63 = .ok (.iadd, 1) := by decide +kernel
theorem dX11_sumOf_64 : decode cX11_sumOf 64 = .ok (.iaload, 1) := by decide +kernel
theorem dX11_sumOf_65 : decode cX11_sumOf 65 = .ok (.iadd, 1) := by decide +kernel
theorem dX11_sumOf_66 : decode cX11_sumOf 66 = .ok (.istore_n 2, 1) := by decide +kernel
theorem dX11_sumOf_67 : decode cX11_sumOf 67 = .ok (.iinc 3 1, 3) := by decide +kernel
theorem dX11_sumOf_70 : decode cX11_sumOf 70 = .ok (.goto (-66), 3) := by decide +kernel
theorem dX11_sumOf_73 : decode cX11_sumOf 73 = .ok (.iload_n 2, 1) := by decide +kernel
theorem dX11_sumOf_74 : decode cX11_sumOf 74 = .ok (.ireturn, 1) := by decide +kernel
theorem dX11_frightsBy_0 : decode cX11_frightsBy 0 = .ok (.aload_n 0, 1) := by decide +kernel
theorem dX11_frightsBy_1 : decode cX11_frightsBy 1 = .ok (.iload_n 1, 1) := by decide +kernel
theorem dX11_frightsBy_2 : decode cX11_frightsBy 2 = .ok (.putfield 274, 3) := by decide +kernel
theorem dX11_frightsBy_5 : decode cX11_frightsBy 5 = .ok (.aload_n 0, 1) := by decide +kernel
theorem dX11_frightsBy_6 : decode cX11_frightsBy 6 = .ok (.iload_n 2, 1) := by decide +kernel
theorem dX11_frightsBy_7 : decode cX11_frightsBy 7 = .ok (.putfield 277, 3) := by decide +kernel
theorem dX11_frightsBy_10 : decode cX11_frightsBy 10 = .ok (.iconst 0, 1) := by decide +kernel
theorem dX11_frightsBy_11 : decode cX11_frightsBy 11 = .ok (.aload_n 0, 1) := by decide +kernel
theorem dX11_frightsBy_12 : decode cX11_frightsBy 12 = .ok (.iload_n 1, 1) := by decide +kernel
theorem dX11_frightsBy_13 : decode cX11_frightsBy 13 = .ok (.iconst 1, 1) := by decide +kernel
theorem dX11_frightsBy_14 : decode cX11_frightsBy 14 = .ok (.invokevirtual 74, 3) := by decide +kernel
theorem dX11_frightsBy_17 : decode cX11_frightsBy 17 = .ok (.aload_n 0, 1) := by decide +kernel
theorem dX11_frightsBy_18 : decode cX11_frightsBy 18 = .ok (.iload_n 1, 1) := by decide +kernel
theorem dX11_frightsBy_19 : decode cX11_frightsBy 19 = .ok (.iconst 2, 1) := by decide +kernel
theorem dX11_frightsBy_20 : decode cX11_frightsBy 20 = .ok (.invokevirtual 74, 3) := by decide +kernel
theorem dX11_frightsBy_23 : decode cX11_frightsBy 23 = .ok (.bipush 10, 2) := by decide +kernel
theorem dX11_frightsBy_25 : decode cX11_frightsBy 25 = .ok (.idiv, 1) := by decide +kernel
theorem dX11_frightsBy_26 : decode cX11_frightsBy 26 = .ok (.isub, 1) := by decide +kernel
theorem dX11_frightsBy_27 : decode cX11_frightsBy 27 = .ok (.aload_n 0, 1) := by decide +kernel
theorem dX11_frightsBy_28 : decode cX11_frightsBy 28 = .ok (.iconst 0, 1) := by decide +kernel
theorem dX11_frightsBy_29 : decode cX11_frightsBy 29 = .ok (.invokevirtual 286, 3) := by decide +kernel
theorem dX11_frightsBy_32 : decode cX11_frightsBy 32 = .ok (.iadd, 1) := by decide +kernel
theorem dX11_frightsBy_33 : decode cX11_frightsBy 33 = .ok (.aload_n 0, 1) := by decide +kernel
theorem dX11_frightsBy_34 : decode cX11_frightsBy 34 = .ok (.iconst 1, 1) := by decide +kernel
theorem dX11_frightsBy_35 : decode cX11_frightsBy 35 = .ok (.invokevirtual 286, 3) := by decide +kernel
theorem dX11_frightsBy_38 : decode cX11_frightsBy 38 = .ok (.isub, 1) := by decide +kernel
theorem dX11_frightsBy_39 : decode cX11_frightsBy 39 = .ok (.invokestatic 289, 3) := by decide +kernel
theorem dX11_frightsBy_42 : decode cX11_frightsBy 42 = .ok (.ireturn, 1) := by decide +kernel
theorem dX11_wearsBy_0 : decode cX11_wearsBy 0 = .ok (.aload_n 0, 1) := by decide +kernel
theorem dX11_wearsBy_1 : decode cX11_wearsBy 1 = .ok (.iload_n 1, 1) := by decide +kernel
theorem dX11_wearsBy_2 : decode cX11_wearsBy 2 = .ok (.putfield 274, 3) := by decide +kernel
theorem dX11_wearsBy_5 : decode cX11_wearsBy 5 = .ok (.aload_n 0, 1) := by decide +kernel
theorem dX11_wearsBy_6 : decode cX11_wearsBy 6 = .ok (.iload_n 2, 1) := by decide +kernel
theorem dX11_wearsBy_7 : decode cX11_wearsBy 7 = .ok (.putfield 277, 3) := by decide +kernel
theorem dX11_wearsBy_10 : decode cX11_wearsBy 10 = .ok (.iconst 1, 1) := by decide +kernel
theorem dX11_wearsBy_11 : decode cX11_wearsBy 11 = .ok (.aload_n 0, 1) := by decide +kernel
theorem dX11_wearsBy_12 : decode cX11_wearsBy 12 = .ok (.iconst 2, 1) := by decide +kernel
theorem dX11_wearsBy_13 : decode cX11_wearsBy 13 = .ok (.invokevirtual 286, 3) := by decide +kernel
theorem dX11_wearsBy_16 : decode cX11_wearsBy 16 = .ok (.iadd, 1) := by decide +kernel
theorem dX11_wearsBy_17 : decode cX11_wearsBy 17 = .ok (.ireturn, 1) := by decide +kernel
theorem dX11_prop_0 : decode cX11_prop 0 = .ok (.aload_n 0, 1) := by decide +kernel
theorem dX11_prop_1 : decode cX11_prop 1 = .ok (.iconst 0, 1) := by decide +kernel
theorem dX11_prop_2 : decode cX11_prop 2 = .ok (.putfield 3, 3) := by decide +kernel
theorem dX11_prop_5 : decode cX11_prop 5 = .ok (.aload_n 0, 1) := by decide +kernel
theorem dX11_prop_6 : decode cX11_prop 6 = .ok (.aload_n 0, 1) := by decide +kernel
theorem dX11_prop_7 : decode cX11_prop 7 = .ok (.iload_n 1, 1) := by decide +kernel
theorem dX11_prop_8 : decode cX11_prop 8 = .ok (.invokevirtual 294, 3) := by decide +kernel
theorem dX11_prop_11 : decode cX11_prop 11 = .ok (.iconst 1, 1) := by decide +kernel
theorem dX11_prop_12 : decode cX11_prop 12 = .ok (.invokevirtual 262, 3) := by decide +kernel
theorem dX11_prop_15 : decode cX11_prop 15 = .ok (.ifCond .ne 25, 3) := by decide +kernel
theorem dX11_prop_18 : decode cX11_prop 18 = .ok (.aload_n 0, 1) := by decide +kernel
theorem dX11_prop_19 : decode cX11_prop 19 = .ok (.iload_n 2, 1) := by decide +kernel
theorem dX11_prop_20 : decode cX11_prop 20 = .ok (.iconst 0, 1) := by decide +kernel
theorem dX11_prop_21 : decode cX11_prop 21 = .ok (.iconst 3, 1) := by decide +kernel
theorem dX11_prop_22 : decode cX11_prop 22 = .ok (.invokestatic 87, 3) := by decide +kernel
theorem dX11_prop_25 : decode cX11_prop 25 = .ok (.ifCond .ne 7, 3) := by decide +kernel
theorem dX11_prop_28 : decode cX11_prop 28 = .ok (.iconst 1, 1) := by decide +kernel
theorem dX11_prop_29 : decode cX11_prop 29 = .ok (.goto 4, 3) := by decide +kernel
theorem dX11_prop_32 : decode cX11_prop 32 = .ok (.iconst 0, 1) := by decide +kernel
theorem dX11_prop_33 : decode cX11_prop 33 = .ok (.iconst 2, 1) := by decide +kernel
theorem dX11_prop_34 : decode cX11_prop 34 = .ok (.invokevirtual 262, 3) := by decide +kernel
theorem dX11_prop_37 : decode cX11_prop 37 = .ok (.ifCond .eq 7, 3) := by decide +kernel
theorem dX11_prop_40 : decode cX11_prop 40 = .ok (.iconst 0, 1) := by decide +kernel
theorem dX11_prop_41 : decode cX11_prop 41 = .ok (.goto 9, 3) := by decide +kernel
theorem dX11_prop_44 : decode cX11_prop 44 = .ok (.aload_n 0, 1) := by decide +kernel
theorem dX11_prop_45 : decode cX11_prop 45 = .ok (.iload_n 1, 1) := by decide +kernel
theorem dX11_prop_46 : decode cX11_prop 46 = .ok (.iload_n 2, 1) := by decide +kernel
theorem dX11_prop_47 : decode cX11_prop 47 = .ok (.invokevirtual 74, 3) := by decide +kernel
theorem dX11_prop_50 : decode cX11_prop 50 = .ok (.ireturn, 1) := by decide +kernel
theorem dX11_slot_0 : decode cX11_slot 0 = .ok (.aload_n 0, 1) := by decide +kernel
theorem dX11_slot_1 : decode cX11_slot 1 = .ok (.iconst 0, 1) := by decide +kernel
theorem dX11_slot_2 : decode cX11_slot 2 = .ok (.putfield 3, 3) := by decide +kernel
theorem dX11_slot_5 : decode cX11_slot 5 = .ok (.aload_n 0, 1) := by decide +kernel
theorem dX11_slot_6 : decode cX11_slot 6 = .ok (.iload_n 1, 1) := by decide +kernel
theorem dX11_slot_7 : decode cX11_slot 7 = .ok (.invokestatic 297, 3) := by decide +kernel
theorem dX11_slot_10 : decode cX11_slot 10 = .ok (.iconst 1, 1) := by decide +kernel
theorem dX11_slot_11 : decode cX11_slot 11 = .ok (.invokevirtual 262, 3) := by decide +kernel
theorem dX11_slot_14 : decode cX11_slot 14 = .ok (.ifCond .eq 7, 3) := by decide +kernel
theorem dX11_slot_17 : decode cX11_slot 17 = .ok (.iconst 0, 1) := by decide +kernel
theorem dX11_slot_18 : decode cX11_slot 18 = .ok (.goto 8, 3) := by decide +kernel
theorem dX11_slot_21 : decode cX11_slot 21 = .ok (.aload_n 0, 1) := by decide +kernel
theorem dX11_slot_22 : decode cX11_slot 22 = .ok (.iload_n 1, 1) := by decide +kernel
theorem dX11_slot_23 : decode cX11_slot 23 = .ok (.invokevirtual 160, 3) := by decide +kernel
theorem dX11_slot_26 : decode cX11_slot 26 = .ok (.ireturn, 1) := by decide +kernel
theorem dX11_accused_0 : decode cX11_accused 0 = .ok (.aload_n 0, 1) := by decide +kernel
theorem dX11_accused_1 : decode cX11_accused 1 = .ok (.iconst 0, 1) := by decide +kernel
theorem dX11_accused_2 : decode cX11_accused 2 = .ok (.putfield 3, 3) := by decide +kernel
theorem dX11_accused_5 : decode cX11_accused 5 = .ok (.aload_n 0, 1) := by decide +kernel
theorem dX11_accused_6 : decode cX11_accused 6 = .ok (.aload_n 0, 1) := by decide +kernel
theorem dX11_accused_7 : decode cX11_accused 7 = .ok (.iload_n 1, 1) := by decide +kernel
theorem dX11_accused_8 : decode cX11_accused 8 = .ok (.invokevirtual 300, 3) := by decide +kernel
theorem dX11_accused_11 : decode cX11_accused 11 = .ok (.iconst 1, 1) := by decide +kernel
theorem dX11_accused_12 : decode cX11_accused 12 = .ok (.invokevirtual 262, 3) := by decide +kernel
theorem dX11_accused_15 : decode cX11_accused 15 = .ok (.ifCond .ne 25, 3) := by decide +kernel
theorem dX11_accused_18 : decode cX11_accused 18 = .ok (.aload_n 0, 1) := by decide +kernel
theorem dX11_accused_19 : decode cX11_accused 19 = .ok (.iload_n 2, 1) := by decide +kernel
theorem dX11_accused_20 : decode cX11_accused 20 = .ok (.iconst 0, 1) := by decide +kernel
theorem dX11_accused_21 : decode cX11_accused 21 = .ok (.iconst 3, 1) := by decide +kernel
theorem dX11_accused_22 : decode cX11_accused 22 = .ok (.invokestatic 87, 3) := by decide +kernel
theorem dX11_accused_25 : decode cX11_accused 25 = .ok (.ifCond .ne 7, 3) := by decide +kernel
theorem dX11_accused_28 : decode cX11_accused 28 = .ok (.iconst 1, 1) := by decide +kernel
theorem dX11_accused_29 : decode cX11_accused 29 = .ok (.goto 4, 3) := by decide +kernel
theorem dX11_accused_32 : decode cX11_accused 32 = .ok (.iconst 0, 1) := by decide +kernel
theorem dX11_accused_33 : decode cX11_accused 33 = .ok (.iconst 2, 1) := by decide +kernel
theorem dX11_accused_34 : decode cX11_accused 34 = .ok (.invokevirtual 262, 3) := by decide +kernel
theorem dX11_accused_37 : decode cX11_accused 37 = .ok (.ifCond .eq 7, 3) := by decide +kernel
theorem dX11_accused_40 : decode cX11_accused 40 = .ok (.iconst 0, 1) := by decide +kernel
theorem dX11_accused_41 : decode cX11_accused 41 = .ok (.goto 9, 3) := by decide +kernel
theorem dX11_accused_44 : decode cX11_accused 44 = .ok (.aload_n 0, 1) := by decide +kernel
theorem dX11_accused_45 : decode cX11_accused 45 = .ok (.iload_n 1, 1) := by decide +kernel
theorem dX11_accused_46 : decode cX11_accused 46 = .ok (.iload_n 2, 1) := by decide +kernel
theorem dX11_accused_47 : decode cX11_accused 47 = .ok (.invokevirtual 80, 3) := by decide +kernel
theorem dX11_accused_50 : decode cX11_accused 50 = .ok (.ireturn, 1) := by decide +kernel
theorem dX11_fright_0 : decode cX11_fright 0 = .ok (.aload_n 0, 1) := by decide +kernel
theorem dX11_fright_1 : decode cX11_fright 1 = .ok (.iconst 0, 1) := by decide +kernel
theorem dX11_fright_2 : decode cX11_fright 2 = .ok (.putfield 3, 3) := by decide +kernel
theorem dX11_fright_5 : decode cX11_fright 5 = .ok (.aload_n 0, 1) := by decide +kernel
theorem dX11_fright_6 : decode cX11_fright 6 = .ok (.aload_n 0, 1) := by decide +kernel
theorem dX11_fright_7 : decode cX11_fright 7 = .ok (.iload_n 1, 1) := by decide +kernel
theorem dX11_fright_8 : decode cX11_fright 8 = .ok (.invokevirtual 300, 3) := by decide +kernel
theorem dX11_fright_11 : decode cX11_fright 11 = .ok (.ifCond .ne 10, 3) := by decide +kernel
theorem dX11_fright_14 : decode cX11_fright 14 = .ok (.iload_n 2, 1) := by decide +kernel
theorem dX11_fright_15 : decode cX11_fright 15 = .ok (.invokestatic 297, 3) := by decide +kernel
theorem dX11_fright_18 : decode cX11_fright 18 = .ok (.ifCond .eq 7, 3) := by decide +kernel
theorem dX11_fright_21 : decode cX11_fright 21 = .ok (.iconst 1, 1) := by decide +kernel
theorem dX11_fright_22 : decode cX11_fright 22 = .ok (.goto 4, 3) := by decide +kernel
theorem dX11_fright_25 : decode cX11_fright 25 = .ok (.iconst 0, 1) := by decide +kernel
theorem dX11_fright_26 : decode cX11_fright 26 = .ok (.iconst 1, 1) := by decide +kernel
theorem dX11_fright_27 : decode cX11_fright 27 = .ok (.invokevirtual 262, 3) := by decide +kernel
theorem dX11_fright_30 : decode cX11_fright 30 = .ok (.ifCond .ne 26, 3) := by decide +kernel
theorem dX11_fright_33 : decode cX11_fright 33 = .ok (.aload_n 0, 1) := by decide +kernel
theorem dX11_fright_34 : decode cX11_fright 34 = .ok (.iload_n 3, 1) := by decide +kernel
theorem dX11_fright_35 : decode cX11_fright 35 = .ok (.iconst 0, 1) := by decide +kernel
theorem dX11_fright_36 : decode cX11_fright 36 = .ok (.bipush 99, 2) := by decide +kernel
theorem dX11_fright_38 : decode cX11_fright 38 = .ok (.invokestatic 87, 3) := by decide +kernel
theorem dX11_fright_41 : decode cX11_fright 41 = .ok (.ifCond .ne 7, 3) := by decide +kernel
theorem dX11_fright_44 : decode cX11_fright 44 = .ok (.iconst 1, 1) := by decide +kernel
theorem dX11_fright_45 : decode cX11_fright 45 = .ok (.goto 4, 3) := by decide +kernel
theorem dX11_fright_48 : decode cX11_fright 48 = .ok (.iconst 0, 1) := by decide +kernel
theorem dX11_fright_49 : decode cX11_fright 49 = .ok (.iconst 2, 1) := by decide +kernel
theorem dX11_fright_50 : decode cX11_fright 50 = .ok (.invokevirtual 262, 3) := by decide +kernel
theorem dX11_fright_53 : decode cX11_fright 53 = .ok (.ifCond .eq 5, 3) := by decide +kernel
theorem dX11_fright_56 : decode cX11_fright 56 = .ok (.iconst 0, 1) := by decide +kernel
theorem dX11_fright_57 : decode cX11_fright 57 = .ok (.ireturn, 1) := by decide +kernel
theorem dX11_fright_58 : decode cX11_fright 58 = .ok (.aload_n 0, 1) := by decide +kernel
theorem dX11_fright_59 : decode cX11_fright 59 = .ok (.iload_n 2, 1) := by decide +kernel
theorem dX11_fright_60 : decode cX11_fright 60 = .ok (.invokevirtual 160, 3) := by decide +kernel
theorem dX11_fright_63 : decode cX11_fright 63 = .ok (.istore 5, 2) := by decide +kernel
theorem dX11_fright_65 : decode cX11_fright 65 = .ok (.iload 5, 2) := by decide +kernel
theorem dX11_fright_67 : decode cX11_fright 67 = .ok (.iconst (-1), 1) := by decide +kernel
theorem dX11_fright_68 : decode cX11_fright 68 = .ok (.if_icmp .ne 5, 3) := by decide +kernel
theorem dX11_fright_71 : decode cX11_fright 71 = .ok (.iconst 0, 1) := by decide +kernel
theorem dX11_fright_72 : decode cX11_fright 72 = .ok (.ireturn, 1) := by decide +kernel
theorem dX11_fright_73 : decode cX11_fright 73 = .ok (.aload_n 0, 1) := by decide +kernel
theorem dX11_fright_74 : decode cX11_fright 74 = .ok (.iload_n 1, 1) := by decide +kernel
theorem dX11_fright_75 : decode cX11_fright 75 = .ok (.invokevirtual 303, 3) := by decide +kernel
theorem dX11_fright_78 : decode cX11_fright 78 = .ok (.iload 4, 2) := by decide +kernel
theorem dX11_fright_80 : decode cX11_fright 80 = .ok (.ifCond .eq 13, 3) := by decide +kernel
theorem dX11_fright_83 : decode cX11_fright 83 = .ok (.aload_n 0, 1) := by decide +kernel
theorem dX11_fright_84 : decode cX11_fright 84 = .ok (.iload 5, 2) := by decide +kernel
theorem dX11_fright_86 : decode cX11_fright 86 = .ok (.iload_n 3, 1) := by decide +kernel
theorem dX11_fright_87 : decode cX11_fright 87 = .ok (.invokevirtual 307, 3) := by decide +kernel
theorem dX11_fright_90 : decode cX11_fright 90 = .ok (.goto 10, 3) := by decide +kernel
theorem dX11_fright_93 : decode cX11_fright 93 = .ok (.aload_n 0, 1) := by decide +kernel
theorem dX11_fright_94 : decode cX11_fright 94 = .ok (.iload 5, 2) := by decide +kernel
theorem dX11_fright_96 : decode cX11_fright 96 = .ok (.iload_n 3, 1) := by decide +kernel
theorem dX11_fright_97 : decode cX11_fright 97 = .ok (.invokevirtual 310, 3) := by decide +kernel
theorem dX11_fright_100 : decode cX11_fright 100 = .ok (.ireturn, 1) := by decide +kernel
theorem dX11_propOnTheWay_0 : decode cX11_propOnTheWay 0 = .ok (.aload_n 0, 1) := by decide +kernel
theorem dX11_propOnTheWay_1 : decode cX11_propOnTheWay 1 = .ok (.iload_n 1, 1) := by decide +kernel
theorem dX11_propOnTheWay_2 : decode cX11_propOnTheWay 2 = .ok (.invokevirtual 160, 3) := by decide +kernel
theorem dX11_propOnTheWay_5 : decode cX11_propOnTheWay 5 = .ok (.istore_n 2, 1) := by decide +kernel
theorem dX11_propOnTheWay_6 : decode cX11_propOnTheWay 6 = .ok (.iload_n 2, 1) := by decide +kernel
theorem dX11_propOnTheWay_7 : decode cX11_propOnTheWay 7 = .ok (.iconst (-1), 1) := by decide +kernel
theorem dX11_propOnTheWay_8 : decode cX11_propOnTheWay 8 = .ok (.if_icmp .eq 18, 3) := by decide +kernel
theorem dX11_propOnTheWay_11 : decode cX11_propOnTheWay 11 = .ok (.aload_n 0, 1) := by decide +kernel
theorem dX11_propOnTheWay_12 : decode cX11_propOnTheWay 12 = .ok (.getfield 313, 3) := by decide +kernel
theorem dX11_propOnTheWay_15 : decode cX11_propOnTheWay 15 = .ok (.iload_n 2, 1) := by decide +kernel
theorem dX11_propOnTheWay_16 : decode cX11_propOnTheWay 16 = .ok (.invokestatic 137, 3) := by decide +kernel
theorem dX11_propOnTheWay_19 : decode cX11_propOnTheWay 19 = .ok (.ifCond .eq 7, 3) := by decide +kernel
theorem dX11_propOnTheWay_22 : decode cX11_propOnTheWay 22 = .ok (.iconst (-1), 1) := by decide +kernel
theorem dX11_propOnTheWay_23 : decode cX11_propOnTheWay 23 = .ok (.goto 4, 3) := by decide +kernel
theorem dX11_propOnTheWay_26 : decode cX11_propOnTheWay 26 = .ok (.iload_n 2, 1) := by decide +kernel
theorem dX11_propOnTheWay_27 : decode cX11_propOnTheWay 27 = .ok (.ireturn, 1) := by decide +kernel
theorem dX11_calmer_0 : decode cX11_calmer 0 = .ok (.iconst 0, 1) := by decide +kernel
theorem dX11_calmer_1 : decode cX11_calmer 1 = .ok (.iload_n 1, 1) := by decide +kernel
theorem dX11_calmer_2 : decode cX11_calmer 2 = .ok (.aload_n 0, 1) := by decide +kernel
theorem dX11_calmer_3 : decode cX11_calmer 3 = .ok (.getfield 13, 3) := by decide +kernel
theorem dX11_calmer_6 : decode cX11_calmer 6 = .ok (.iconst 5, 1) := by decide +kernel
theorem dX11_calmer_7 : decode cX11_calmer 7 = .ok (.iaload, 1) := by decide +kernel
theorem dX11_calmer_8 : decode cX11_calmer 8 = .ok (.isub, 1) := by decide +kernel
theorem dX11_calmer_9 : decode cX11_calmer 9 = .ok (.invokestatic 289, 3) := by decide +kernel
theorem dX11_calmer_12 : decode cX11_calmer 12 = .ok (.ireturn, 1) := by decide +kernel
theorem dX11_comesTo_0 : decode cX11_comesTo 0 = .ok (.aload_n 0, 1) := by decide +kernel
theorem dX11_comesTo_1 : decode cX11_comesTo 1 = .ok (.getfield 48, 3) := by decide +kernel
theorem dX11_comesTo_4 : decode cX11_comesTo 4 = .ok (.iload_n 1, 1) := by decide +kernel
theorem dX11_comesTo_5 : decode cX11_comesTo 5 = .ok (.aload_n 0, 1) := by decide +kernel
theorem dX11_comesTo_6 : decode cX11_comesTo 6 = .ok (.iload_n 1, 1) := by decide +kernel
theorem dX11_comesTo_7 : decode cX11_comesTo 7 = .ok (.aload_n 0, 1) := by decide +kernel
theorem dX11_comesTo_8 : decode cX11_comesTo 8 = .ok (.getfield 316, 3) := by decide +kernel
theorem dX11_comesTo_11 : decode cX11_comesTo 11 = .ok (.invokevirtual 307, 3) := by decide +kernel
theorem dX11_comesTo_14 : decode cX11_comesTo 14 = .ok (.iastore, 1) := by decide +kernel
theorem dX11_comesTo_15 : decode cX11_comesTo 15 = .ok (.aload_n 0, 1) := by decide +kernel
theorem dX11_comesTo_16 : decode cX11_comesTo 16 = .ok (.getfield 45, 3) := by decide +kernel
theorem dX11_comesTo_19 : decode cX11_comesTo 19 = .ok (.iload_n 2, 1) := by decide +kernel
theorem dX11_comesTo_20 : decode cX11_comesTo 20 = .ok (.aload_n 0, 1) := by decide +kernel
theorem dX11_comesTo_21 : decode cX11_comesTo 21 = .ok (.getfield 319, 3) := by decide +kernel
theorem dX11_comesTo_24 : decode cX11_comesTo 24 = .ok (.iload_n 1, 1) := by decide +kernel
theorem dX11_comesTo_25 : decode cX11_comesTo 25 = .ok (.invokestatic 137, 3) := by decide +kernel
theorem dX11_comesTo_28 : decode cX11_comesTo 28 = .ok (.ifCond .eq 7, 3) := by decide +kernel
theorem dX11_comesTo_31 : decode cX11_comesTo 31 = .ok (.iconst 0, 1) := by decide +kernel
theorem dX11_comesTo_32 : decode cX11_comesTo 32 = .ok (.goto 12, 3) := by decide +kernel
theorem dX11_comesTo_35 : decode cX11_comesTo 35 = .ok (.aload_n 0, 1) := by decide +kernel
theorem dX11_comesTo_36 : decode cX11_comesTo 36 = .ok (.iload_n 1, 1) := by decide +kernel
theorem dX11_comesTo_37 : decode cX11_comesTo 37 = .ok (.aload_n 0, 1) := by decide +kernel
theorem dX11_comesTo_38 : decode cX11_comesTo 38 = .ok (.getfield 316, 3) := by decide +kernel
theorem dX11_comesTo_41 : decode cX11_comesTo 41 = .ok (.invokevirtual 310, 3) := by decide +kernel
theorem dX11_comesTo_44 : decode cX11_comesTo 44 = .ok (.iastore, 1) := by decide +kernel
theorem dX11_comesTo_45 : decode cX11_comesTo 45 = .ok (.aload_n 0, 1) := by decide +kernel
theorem dX11_comesTo_46 : decode cX11_comesTo 46 = .ok (.dup, 1) := by decide +kernel
theorem dX11_comesTo_47 : decode cX11_comesTo 47 = .ok (.getfield 322, 3) := by decide +kernel
theorem dX11_comesTo_50 : decode cX11_comesTo 50 = .ok (.iconst 1, 1) := by decide +kernel
theorem dX11_comesTo_51 : decode cX11_comesTo 51 = .ok (.iload_n 1, 1) := by decide +kernel
theorem dX11_comesTo_52 : decode cX11_comesTo 52 = .ok (.ishl, 1) := by decide +kernel
theorem dX11_comesTo_53 : decode cX11_comesTo 53 = .ok (.ior, 1) := by decide +kernel
theorem dX11_comesTo_54 : decode cX11_comesTo 54 = .ok (.putfield 322, 3) := by decide +kernel
theorem dX11_comesTo_57 : decode cX11_comesTo 57 = .ok (.aload_n 0, 1) := by decide +kernel
theorem dX11_comesTo_58 : decode cX11_comesTo 58 = .ok (.dup, 1) := by decide +kernel
theorem dX11_comesTo_59 : decode cX11_comesTo 59 = .ok (.getfield 316, 3) := by decide +kernel
theorem dX11_comesTo_62 : decode cX11_comesTo 62 = .ok (.aload_n 0, 1) := by decide +kernel
theorem dX11_comesTo_63 : decode cX11_comesTo 63 = .ok (.getfield 45, 3) := by decide +kernel
theorem dX11_comesTo_66 : decode cX11_comesTo 66 = .ok (.iload_n 2, 1) := by decide +kernel
theorem dX11_comesTo_67 : decode cX11_comesTo 67 = .ok (.iaload, 1) := by decide +kernel
theorem dX11_comesTo_68 : decode cX11_comesTo 68 = .ok (.iload_n 3, 1) := by decide +kernel
theorem dX11_comesTo_69 : decode cX11_comesTo 69 = .ok (.iadd, 1) := by decide +kernel
theorem dX11_comesTo_70 : decode cX11_comesTo 70 = .ok (.iadd, 1) := by decide +kernel
theorem dX11_comesTo_71 : decode cX11_comesTo 71 = .ok (.putfield 316, 3) := by decide +kernel
theorem dX11_comesTo_74 : decode cX11_comesTo 74 = .ok (.return_, 1) := by decide +kernel
theorem dX11_begins_0 : decode cX11_begins 0 = .ok (.aload_n 0, 1) := by decide +kernel
theorem dX11_begins_1 : decode cX11_begins 1 = .ok (.iconst (-1), 1) := by decide +kernel
theorem dX11_begins_2 : decode cX11_begins 2 = .ok (.putfield 325, 3) := by decide +kernel
theorem dX11_begins_5 : decode cX11_begins 5 = .ok (.aload_n 0, 1) := by decide +kernel
theorem dX11_begins_6 : decode cX11_begins 6 = .ok (.iconst 0, 1) := by decide +kernel
theorem dX11_begins_7 : decode cX11_begins 7 = .ok (.putfield 322, 3) := by decide +kernel
theorem dX11_begins_10 : decode cX11_begins 10 = .ok (.aload_n 0, 1) := by decide +kernel
theorem dX11_begins_11 : decode cX11_begins 11 = .ok (.iconst 0, 1) := by decide +kernel
theorem dX11_begins_12 : decode cX11_begins 12 = .ok (.putfield 316, 3) := by decide +kernel
theorem dX11_begins_15 : decode cX11_begins 15 = .ok (.return_, 1) := by decide +kernel
theorem dX11_rideSlot_0 : decode cX11_rideSlot 0 = .ok (.aload_n 0, 1) := by decide +kernel
theorem dX11_rideSlot_1 : decode cX11_rideSlot 1 = .ok (.iload_n 1, 1) := by decide +kernel
theorem dX11_rideSlot_2 : decode cX11_rideSlot 2 = .ok (.invokevirtual 328, 3) := by decide +kernel
theorem dX11_rideSlot_5 : decode cX11_rideSlot 5 = .ok (.istore 4, 2) := by decide +kernel
theorem dX11_rideSlot_7 : decode cX11_rideSlot 7 = .ok (.aload_n 0, 1) := by decide +kernel
theorem dX11_rideSlot_8 : decode cX11_rideSlot 8 = .ok (.getfield 45, 3) := by decide +kernel
theorem dX11_rideSlot_11 : decode cX11_rideSlot 11 = .ok (.iload_n 1, 1) := by decide +kernel
theorem dX11_rideSlot_12 : decode cX11_rideSlot 12 = .ok (.iconst 0, 1) := by decide +kernel
theorem dX11_rideSlot_13 : decode cX11_rideSlot 13 = .ok (.iastore, 1) := by decide +kernel
theorem dX11_rideSlot_14 : decode cX11_rideSlot 14 = .ok (.iload 4, 2) := by decide +kernel
theorem dX11_rideSlot_16 : decode cX11_rideSlot 16 = .ok (.iconst (-1), 1) := by decide +kernel
theorem dX11_rideSlot_17 : decode cX11_rideSlot 17 = .ok (.if_icmp .ne 18, 3) := by decide +kernel
theorem dX11_rideSlot_20 : decode cX11_rideSlot 20 = .ok (.aload_n 0, 1) := by decide +kernel
theorem dX11_rideSlot_21 : decode cX11_rideSlot 21 = .ok (.aload_n 0, 1) := by decide +kernel
theorem dX11_rideSlot_22 : decode cX11_rideSlot 22 = .ok (.aload_n 0, 1) := by decide +kernel
theorem dX11_rideSlot_23 : decode cX11_rideSlot 23 = .ok (.getfield 316, 3) := by decide +kernel
theorem dX11_rideSlot_26 : decode cX11_rideSlot 26 = .ok (.invokevirtual 331, 3) := by decide +kernel
theorem dX11_rideSlot_29 : decode cX11_rideSlot 29 = .ok (.putfield 316, 3) := by decide +kernel
theorem dX11_rideSlot_32 : decode cX11_rideSlot 32 = .ok (.goto 23, 3) := by decide +kernel
theorem dX11_rideSlot_35 : decode cX11_rideSlot 35 = .ok (.aload_n 0, 1) := by decide +kernel
theorem dX11_rideSlot_36 : decode cX11_rideSlot 36 = .ok (.iload 4, 2) := by decide +kernel
theorem dX11_rideSlot_38 : decode cX11_rideSlot 38 = .ok (.iload_n 1, 1) := by decide +kernel
theorem dX11_rideSlot_39 : decode cX11_rideSlot 39 = .ok (.iload_n 2, 1) := by decide +kernel
theorem dX11_rideSlot_40 : decode cX11_rideSlot 40 = .ok (.ifCond .eq 11, 3) := by decide +kernel
theorem dX11_rideSlot_43 : decode cX11_rideSlot 43 = .ok (.aload_n 0, 1) := by decide +kernel
theorem dX11_rideSlot_44 : decode cX11_rideSlot 44 = .ok (.iconst 3, 1) := by decide +kernel
theorem dX11_rideSlot_45 : decode cX11_rideSlot 45 = .ok (.invokevirtual 334, 3) := by decide +kernel
theorem dX11_rideSlot_48 : decode cX11_rideSlot 48 = .ok (.goto 4, 3) := by decide +kernel
theorem dX11_rideSlot_51 : decode cX11_rideSlot 51 = .ok (.iconst 1, 1) := by decide +kernel
theorem dX11_rideSlot_52 : decode cX11_rideSlot 52 = .ok (.invokevirtual 337, 3) := by decide +kernel
theorem dX11_rideSlot_55 : decode cX11_rideSlot 55 = .ok (.aload_n 0, 1) := by decide +kernel
theorem dX11_rideSlot_56 : decode cX11_rideSlot 56 = .ok (.getfield 42, 3) := by decide +kernel
theorem dX11_rideSlot_59 : decode cX11_rideSlot 59 = .ok (.iload_n 1, 1) := by decide +kernel
theorem dX11_rideSlot_60 : decode cX11_rideSlot 60 = .ok (.aload_n 0, 1) := by decide +kernel
theorem dX11_rideSlot_61 : decode cX11_rideSlot 61 = .ok (.getfield 316, 3) := by decide +kernel
theorem dX11_rideSlot_64 : decode cX11_rideSlot 64 = .ok (.iastore, 1) := by decide +kernel
theorem dX11_rideSlot_65 : decode cX11_rideSlot 65 = .ok (.aload_n 0, 1) := by decide +kernel
theorem dX11_rideSlot_66 : decode cX11_rideSlot 66 = .ok (.getfield 316, 3) := by decide +kernel
theorem dX11_rideSlot_69 : decode cX11_rideSlot 69 = .ok (.aload_n 0, 1) := by decide +kernel
theorem dX11_rideSlot_70 : decode cX11_rideSlot 70 = .ok (.getfield 268, 3) := by decide +kernel
theorem dX11_rideSlot_73 : decode cX11_rideSlot 73 = .ok (.if_icmp .le 12, 3) := by decide +kernel
theorem dX11_rideSlot_76 : decode cX11_rideSlot 76 = .ok (.iload_n 3, 1) := by decide +kernel
theorem dX11_rideSlot_77 : decode cX11_rideSlot 77 = .ok (.ifCond .ne 8, 3) := by decide +kernel
theorem dX11_rideSlot_80 : decode cX11_rideSlot 80 = .ok (.aload_n 0, 1) := by decide +kernel
theorem dX11_rideSlot_81 : decode cX11_rideSlot 81 = .ok (.iload_n 1, 1) := by decide +kernel
theorem dX11_rideSlot_82 : decode cX11_rideSlot 82 = .ok (.putfield 325, 3) := by decide +kernel
theorem dX11_rideSlot_85 : decode cX11_rideSlot 85 = .ok (.return_, 1) := by decide +kernel
theorem dX11_rides_0 : decode cX11_rides 0 = .ok (.aload_n 0, 1) := by decide +kernel
theorem dX11_rides_1 : decode cX11_rides 1 = .ok (.invokevirtual 341, 3) := by decide +kernel
theorem dX11_rides_4 : decode cX11_rides 4 = .ok (.iconst 0, 1) := by decide +kernel
theorem dX11_rides_5 : decode cX11_rides 5 = .ok (.istore_n 3, 1) := by decide +kernel
theorem dX11_rides_6 : decode cX11_rides 6 = .ok (.iload_n 3, 1) := by decide +kernel
theorem dX11_rides_7 : decode cX11_rides 7 = .ok (.bipush 10, 2) := by decide +kernel
theorem dX11_rides_9 : decode cX11_rides 9 = .ok (.if_icmp .ge 38, 3) := by decide +kernel
theorem dX11_rides_12 : decode cX11_rides 12 = .ok (.aload_n 0, 1) := by decide +kernel
theorem dX11_rides_13 : decode cX11_rides 13 = .ok (.getfield 42, 3) := by decide +kernel
theorem dX11_rides_16 : decode cX11_rides 16 = .ok (.iload_n 3, 1) := by decide +kernel
theorem dX11_rides_17 : decode cX11_rides 17 = .ok (.iconst (-1), 1) := by decide +kernel
theorem dX11_rides_18 : decode cX11_rides 18 = .ok (.iastore, 1) := by decide +kernel
theorem dX11_rides_19 : decode cX11_rides 19 = .ok (.aload_n 0, 1) := by decide +kernel
theorem dX11_rides_20 : decode cX11_rides 20 = .ok (.getfield 45, 3) := by decide +kernel
theorem dX11_rides_23 : decode cX11_rides 23 = .ok (.iload_n 3, 1) := by decide +kernel
theorem dX11_rides_24 : decode cX11_rides 24 = .ok (.iconst 0, 1) := by decide +kernel
theorem dX11_rides_25 : decode cX11_rides 25 = .ok (.iastore, 1) := by decide +kernel
theorem dX11_rides_26 : decode cX11_rides 26 = .ok (.aload_n 0, 1) := by decide +kernel
theorem dX11_rides_27 : decode cX11_rides 27 = .ok (.getfield 325, 3) := by decide +kernel
theorem dX11_rides_30 : decode cX11_rides 30 = .ok (.iconst (-1), 1) := by decide +kernel
theorem dX11_rides_31 : decode cX11_rides 31 = .ok (.if_icmp .ne 10, 3) := by decide +kernel
theorem dX11_rides_34 : decode cX11_rides 34 = .ok (.aload_n 0, 1) := by decide +kernel
theorem dX11_rides_35 : decode cX11_rides 35 = .ok (.iload_n 3, 1) := by decide +kernel
theorem dX11_rides_36 : decode cX11_rides 36 = .ok (.iload_n 1, 1) := by decide +kernel
theorem dX11_rides_37 : decode cX11_rides 37 = .ok (.iload_n 2, 1) := by decide +kernel
theorem dX11_rides_38 : decode cX11_rides 38 = .ok (.invokevirtual 344, 3) := by decide +kernel
theorem dX11_rides_41 : decode cX11_rides 41 = .ok (.iinc 3 1, 3) := by decide +kernel
theorem dX11_rides_44 : decode cX11_rides 44 = .ok (.goto (-38), 3) := by decide +kernel
theorem dX11_rides_47 : decode cX11_rides 47 = .ok (.aload_n 0, 1) := by decide +kernel
theorem dX11_rides_48 : decode cX11_rides 48 = .ok (.getfield 325, 3) := by decide +kernel
theorem dX11_rides_51 : decode cX11_rides 51 = .ok (.ireturn, 1) := by decide +kernel
theorem dX11_ridesStraight_0 : decode cX11_ridesStraight 0 = .ok (.aload_n 0, 1) := by decide +kernel
theorem dX11_ridesStraight_1 : decode cX11_ridesStraight 1 = .ok (.iload_n 1, 1) := by decide +kernel
theorem dX11_ridesStraight_2 : decode cX11_ridesStraight 2 = .ok (.invokevirtual 303, 3) := by decide +kernel
theorem dX11_ridesStraight_5 : decode cX11_ridesStraight 5 = .ok (.aload_n 0, 1) := by decide +kernel
theorem dX11_ridesStraight_6 : decode cX11_ridesStraight 6 = .ok (.iconst 0, 1) := by decide +kernel
theorem dX11_ridesStraight_7 : decode cX11_ridesStraight 7 = .ok (.iconst 0, 1) := by decide +kernel
theorem dX11_ridesStraight_8 : decode cX11_ridesStraight 8 = .ok (.invokevirtual 348, 3) := by decide +kernel
theorem dX11_ridesStraight_11 : decode cX11_ridesStraight 11 = .ok (.ireturn, 1) := by decide +kernel
theorem dX11_laysOn_0 : decode cX11_laysOn 0 = .ok (.aload_n 0, 1) := by decide +kernel
theorem dX11_laysOn_1 : decode cX11_laysOn 1 = .ok (.getfield 13, 3) := by decide +kernel
theorem dX11_laysOn_4 : decode cX11_laysOn 4 = .ok (.iload_n 1, 1) := by decide +kernel
theorem dX11_laysOn_5 : decode cX11_laysOn 5 = .ok (.iconst 2, 1) := by decide +kernel
theorem dX11_laysOn_6 : decode cX11_laysOn 6 = .ok (.invokestatic 77, 3) := by decide +kernel
theorem dX11_laysOn_9 : decode cX11_laysOn 9 = .ok (.dup2, 1) := by decide +kernel
theorem dX11_laysOn_10 : decode cX11_laysOn 10 = .ok (.iaload, 1) := by decide +kernel
theorem dX11_laysOn_11 : decode cX11_laysOn 11 = .ok (.aload_n 0, 1) := by decide +kernel
theorem dX11_laysOn_12 : decode cX11_laysOn 12 = .ok (.getfield 322, 3) := by decide +kernel
theorem dX11_laysOn_15 : decode cX11_laysOn 15 = .ok (.ior, 1) := by decide +kernel
theorem dX11_laysOn_16 : decode cX11_laysOn 16 = .ok (.iastore, 1) := by decide +kernel
theorem dX11_laysOn_17 : decode cX11_laysOn 17 = .ok (.iconst 0, 1) := by decide +kernel
theorem dX11_laysOn_18 : decode cX11_laysOn 18 = .ok (.istore_n 2, 1) := by decide +kernel
theorem dX11_laysOn_19 : decode cX11_laysOn 19 = .ok (.iload_n 2, 1) := by decide +kernel
theorem dX11_laysOn_20 : decode cX11_laysOn 20 = .ok (.aload_n 0, 1) := by decide +kernel
theorem dX11_laysOn_21 : decode cX11_laysOn 21 = .ok (.invokevirtual 83, 3) := by decide +kernel
theorem dX11_laysOn_24 : decode cX11_laysOn 24 = .ok (.if_icmp .ge 48, 3) := by decide +kernel
theorem dX11_laysOn_27 : decode cX11_laysOn 27 = .ok (.aload_n 0, 1) := by decide +kernel
theorem dX11_laysOn_28 : decode cX11_laysOn 28 = .ok (.getfield 322, 3) := by decide +kernel
theorem dX11_laysOn_31 : decode cX11_laysOn 31 = .ok (.iload_n 2, 1) := by decide +kernel
theorem dX11_laysOn_32 : decode cX11_laysOn 32 = .ok (.invokestatic 137, 3) := by decide +kernel
theorem dX11_laysOn_35 : decode cX11_laysOn 35 = .ok (.ifCond .eq 31, 3) := by decide +kernel
theorem dX11_laysOn_38 : decode cX11_laysOn 38 = .ok (.aload_n 0, 1) := by decide +kernel
theorem dX11_laysOn_39 : decode cX11_laysOn 39 = .ok (.getfield 13, 3) := by decide +kernel
theorem dX11_laysOn_42 : decode cX11_laysOn 42 = .ok (.iload_n 2, 1) := by decide +kernel
theorem dX11_laysOn_43 : decode cX11_laysOn 43 = .ok (.iconst 2, 1) := by decide +kernel
theorem dX11_laysOn_44 : decode cX11_laysOn 44 = .ok (.invokestatic 70, 3) := by decide +kernel
theorem dX11_laysOn_47 : decode cX11_laysOn 47 = .ok (.bipush 99, 2) := by decide +kernel
theorem dX11_laysOn_49 : decode cX11_laysOn 49 = .ok (.aload_n 0, 1) := by decide +kernel
theorem dX11_laysOn_50 : decode cX11_laysOn 50 = .ok (.iload_n 2, 1) := by decide +kernel
theorem dX11_laysOn_51 : decode cX11_laysOn 51 = .ok (.iconst 2, 1) := by decide +kernel
theorem dX11_laysOn_52 : decode cX11_laysOn 52 = .ok (.invokevirtual 74, 3) := by decide +kernel
theorem dX11_laysOn_55 : decode cX11_laysOn 55 = .ok (.aload_n 0, 1) := by decide +kernel
theorem dX11_laysOn_56 : decode cX11_laysOn 56 = .ok (.getfield 48, 3) := by decide +kernel
theorem dX11_laysOn_59 : decode cX11_laysOn 59 = .ok (.iload_n 2, 1) := by decide +kernel
theorem dX11_laysOn_60 : decode cX11_laysOn 60 = .ok (.iaload, 1) := by decide +kernel
theorem dX11_laysOn_61 : decode cX11_laysOn 61 = .ok (.iadd, 1) := by decide +kernel
theorem dX11_laysOn_62 : decode cX11_laysOn 62 = .ok (.invokestatic 352, 3) := by decide +kernel
theorem dX11_laysOn_65 : decode cX11_laysOn 65 = .ok (.iastore, 1) := by decide +kernel
theorem dX11_laysOn_66 : decode cX11_laysOn 66 = .ok (.iinc 2 1, 3) := by decide +kernel
theorem dX11_laysOn_69 : decode cX11_laysOn 69 = .ok (.goto (-50), 3) := by decide +kernel
theorem dX11_laysOn_72 : decode cX11_laysOn 72 = .ok (.return_, 1) := by decide +kernel
theorem dX11_send_0 : decode cX11_send 0 = .ok (.aload_n 0, 1) := by decide +kernel
theorem dX11_send_1 : decode cX11_send 1 = .ok (.iconst 0, 1) := by decide +kernel
theorem dX11_send_2 : decode cX11_send 2 = .ok (.putfield 3, 3) := by decide +kernel
theorem dX11_send_5 : decode cX11_send 5 = .ok (.aload_n 0, 1) := by decide +kernel
theorem dX11_send_6 : decode cX11_send 6 = .ok (.aload_n 0, 1) := by decide +kernel
theorem dX11_send_7 : decode cX11_send 7 = .ok (.iload_n 1, 1) := by decide +kernel
theorem dX11_send_8 : decode cX11_send 8 = .ok (.invokevirtual 300, 3) := by decide +kernel
theorem dX11_send_11 : decode cX11_send 11 = .ok (.iconst 1, 1) := by decide +kernel
theorem dX11_send_12 : decode cX11_send 12 = .ok (.invokevirtual 262, 3) := by decide +kernel
theorem dX11_send_15 : decode cX11_send 15 = .ok (.ifCond .ne 24, 3) := by decide +kernel
theorem dX11_send_18 : decode cX11_send 18 = .ok (.aload_n 0, 1) := by decide +kernel
theorem dX11_send_19 : decode cX11_send 19 = .ok (.aload_n 0, 1) := by decide +kernel
theorem dX11_send_20 : decode cX11_send 20 = .ok (.iload_n 1, 1) := by decide +kernel
theorem dX11_send_21 : decode cX11_send 21 = .ok (.invokevirtual 355, 3) := by decide +kernel
theorem dX11_send_24 : decode cX11_send 24 = .ok (.ifCond .ne 7, 3) := by decide +kernel
theorem dX11_send_27 : decode cX11_send 27 = .ok (.iconst 1, 1) := by decide +kernel
theorem dX11_send_28 : decode cX11_send 28 = .ok (.goto 4, 3) := by decide +kernel
theorem dX11_send_31 : decode cX11_send 31 = .ok (.iconst 0, 1) := by decide +kernel
theorem dX11_send_32 : decode cX11_send 32 = .ok (.iconst 2, 1) := by decide +kernel
theorem dX11_send_33 : decode cX11_send 33 = .ok (.invokevirtual 262, 3) := by decide +kernel
theorem dX11_send_36 : decode cX11_send 36 = .ok (.ifCond .eq 5, 3) := by decide +kernel
theorem dX11_send_39 : decode cX11_send 39 = .ok (.iconst 0, 1) := by decide +kernel
theorem dX11_send_40 : decode cX11_send 40 = .ok (.ireturn, 1) := by decide +kernel
theorem dX11_send_41 : decode cX11_send 41 = .ok (.aload_n 0, 1) := by decide +kernel
theorem dX11_send_42 : decode cX11_send 42 = .ok (.invokevirtual 358, 3) := by decide +kernel
theorem dX11_send_45 : decode cX11_send 45 = .ok (.aload_n 0, 1) := by decide +kernel
theorem dX11_send_46 : decode cX11_send 46 = .ok (.iload_n 1, 1) := by decide +kernel
theorem dX11_send_47 : decode cX11_send 47 = .ok (.invokevirtual 303, 3) := by decide +kernel
theorem dX11_send_50 : decode cX11_send 50 = .ok (.aload_n 0, 1) := by decide +kernel
theorem dX11_send_51 : decode cX11_send 51 = .ok (.iconst 1, 1) := by decide +kernel
theorem dX11_send_52 : decode cX11_send 52 = .ok (.iconst 0, 1) := by decide +kernel
theorem dX11_send_53 : decode cX11_send 53 = .ok (.invokevirtual 348, 3) := by decide +kernel
theorem dX11_send_56 : decode cX11_send 56 = .ok (.istore_n 2, 1) := by decide +kernel
theorem dX11_send_57 : decode cX11_send 57 = .ok (.aload_n 0, 1) := by decide +kernel
theorem dX11_send_58 : decode cX11_send 58 = .ok (.iload_n 1, 1) := by decide +kernel
theorem dX11_send_59 : decode cX11_send 59 = .ok (.invokevirtual 361, 3) := by decide +kernel
theorem dX11_send_62 : decode cX11_send 62 = .ok (.aload_n 0, 1) := by decide +kernel
theorem dX11_send_63 : decode cX11_send 63 = .ok (.getfield 13, 3) := by decide +kernel
theorem dX11_send_66 : decode cX11_send 66 = .ok (.iload_n 1, 1) := by decide +kernel
theorem dX11_send_67 : decode cX11_send 67 = .ok (.iconst 3, 1) := by decide +kernel
theorem dX11_send_68 : decode cX11_send 68 = .ok (.invokestatic 77, 3) := by decide +kernel
theorem dX11_send_71 : decode cX11_send 71 = .ok (.iload_n 2, 1) := by decide +kernel
theorem dX11_send_72 : decode cX11_send 72 = .ok (.iconst (-1), 1) := by decide +kernel
theorem dX11_send_73 : decode cX11_send 73 = .ok (.if_icmp .ne 7, 3) := by decide +kernel
theorem dX11_send_76 : decode cX11_send 76 = .ok (.iconst 2, 1) := by decide +kernel
theorem dX11_send_77 : decode cX11_send 77 = .ok (.goto 4, 3) := by decide +kernel
theorem dX11_send_80 : decode cX11_send 80 = .ok (.iconst 1, 1) := by decide +kernel
theorem dX11_send_81 : decode cX11_send 81 = .ok (.iastore, 1) := by decide +kernel
theorem dX11_send_82 : decode cX11_send 82 = .ok (.sipush 239, 3) := by decide +kernel
theorem dX11_send_85 : decode cX11_send 85 = .ok (.istore_n 3, 1) := by decide +kernel
theorem dX11_send_86 : decode cX11_send 86 = .ok (.iload_n 3, 1) := by decide +kernel
theorem dX11_send_87 : decode cX11_send 87 = .ok (.iconst 4, 1) := by decide +kernel
theorem dX11_send_88 : decode cX11_send 88 = .ok (.if_icmp .lt 29, 3) := by decide +kernel
theorem dX11_send_91 : decode cX11_send 91 = .ok (.aload_n 0, 1) := by decide +kernel
theorem dX11_send_92 : decode cX11_send 92 = .ok (.getfield 13, 3) := by decide +kernel
theorem dX11_send_95 : decode cX11_send 95 = .ok (.bipush 65, 2) := by decide +kernel
theorem dX11_send_97 : decode cX11_send 97 = .ok (.iload_n 3, 1) := by decide +kernel
theorem dX11_send_98 : decode cX11_send 98 = .ok (.iadd, 1) := by decide +kernel
theorem dX11_send_99 : decode cX11_send 99 = .ok (.aload_n 0, 1) := by decide +kernel
theorem dX11_send_100 : decode cX11_send 100 = .ok (.getfield 13, 3) := by decide +kernel
theorem dX11_send_103 : decode cX11_send 103 = .ok (.bipush 65, 2) := by decide +kernel
theorem dX11_send_105 : decode cX11_send 105 = .ok (.iload_n 3, 1) := by decide +kernel
theorem dX11_send_106 : decode cX11_send 106 = .ok (.iadd, 1) := by decide +kernel
theorem dX11_send_107 : decode cX11_send 107 = .ok (.iconst 4, 1) := by decide +kernel
theorem dX11_send_108 : decode cX11_send 108 = .ok (.isub, 1) := by decide +kernel
theorem dX11_send_109 : decode cX11_send 109 = .ok (.iaload, 1) := by decide +kernel
theorem dX11_send_110 : decode cX11_send 110 = .ok (.iastore, 1) := by decide +kernel
theorem dX11_send_111 : decode cX11_send 111 = .ok (.iinc 3 (-1), 3) := by decide +kernel
theorem dX11_send_114 : decode cX11_send 114 = .ok (.goto (-28), 3) := by decide +kernel
theorem dX11_send_117 : decode cX11_send 117 = .ok (.aload_n 0, 1) := by decide +kernel
theorem dX11_send_118 : decode cX11_send 118 = .ok (.getfield 13, 3) := by decide +kernel
theorem dX11_send_121 : decode cX11_send 121 = .ok (.bipush 65, 2) := by decide +kernel
theorem dX11_send_123 : decode cX11_send 123 = .ok (.aload_n 0, 1) := by decide +kernel
theorem dX11_send_124 : decode cX11_send 124 = .ok (.getfield 13, 3) := by decide +kernel
theorem dX11_send_127 : decode cX11_send 127 = .ok (.iconst 4, 1) := by decide +kernel
theorem dX11_send_128 : decode cX11_send 128 = .ok (.iaload, 1) := by decide +kernel
theorem dX11_send_129 : decode cX11_send 129 = .ok (.iastore, 1) := by decide +kernel
theorem dX11_send_130 : decode cX11_send 130 = .ok (.aload_n 0, 1) := by decide +kernel
theorem dX11_send_131 : decode cX11_send 131 = .ok (.getfield 13, 3) := by decide +kernel
theorem dX11_send_134 : decode cX11_send 134 = .ok (.bipush 66, 2) := by decide +kernel
theorem dX11_send_136 : decode cX11_send 136 = .ok (.iload_n 1, 1) := by decide +kernel
theorem dX11_send_137 : decode cX11_send 137 = .ok (.iastore, 1) := by decide +kernel
theorem dX11_send_138 : decode cX11_send 138 = .ok (.aload_n 0, 1) := by decide +kernel
theorem dX11_send_139 : decode cX11_send 139 = .ok (.getfield 13, 3) := by decide +kernel
theorem dX11_send_142 : decode cX11_send 142 = .ok (.bipush 67, 2) := by decide +kernel
theorem dX11_send_144 : decode cX11_send 144 = .ok (.iload_n 2, 1) := by decide +kernel
theorem dX11_send_145 : decode cX11_send 145 = .ok (.iconst (-1), 1) := by decide +kernel
theorem dX11_send_146 : decode cX11_send 146 = .ok (.if_icmp .ne 8, 3) := by decide +kernel
theorem dX11_send_149 : decode cX11_send 149 = .ok (.bipush 10, 2) := by decide +kernel
theorem dX11_send_151 : decode cX11_send 151 = .ok (.goto 4, 3) := by decide +kernel
theorem dX11_send_154 : decode cX11_send 154 = .ok (.iload_n 2, 1) := by decide +kernel
theorem dX11_send_155 : decode cX11_send 155 = .ok (.iastore, 1) := by decide +kernel
theorem dX11_send_156 : decode cX11_send 156 = .ok (.aload_n 0, 1) := by decide +kernel
theorem dX11_send_157 : decode cX11_send 157 = .ok (.getfield 13, 3) := by decide +kernel
theorem dX11_send_160 : decode cX11_send 160 = .ok (.bipush 68, 2) := by decide +kernel
theorem dX11_send_162 : decode cX11_send 162 = .ok (.aload_n 0, 1) := by decide +kernel
theorem dX11_send_163 : decode cX11_send 163 = .ok (.getfield 316, 3) := by decide +kernel
theorem dX11_send_166 : decode cX11_send 166 = .ok (.iastore, 1) := by decide +kernel
theorem dX11_send_167 : decode cX11_send 167 = .ok (.aload_n 0, 1) := by decide +kernel
theorem dX11_send_168 : decode cX11_send 168 = .ok (.getfield 13, 3) := by decide +kernel
theorem dX11_send_171 : decode cX11_send 171 = .ok (.bipush 7, 2) := by decide +kernel
theorem dX11_send_173 : decode cX11_send 173 = .ok (.bipush 60, 2) := by decide +kernel
theorem dX11_send_175 : decode cX11_send 175 = .ok (.aload_n 0, 1) := by decide +kernel
theorem dX11_send_176 : decode cX11_send 176 = .ok (.getfield 13, 3) := by decide +kernel
theorem dX11_send_179 : decode cX11_send 179 = .ok (.bipush 7, 2) := by decide +kernel
theorem dX11_send_181 : decode cX11_send 181 = .ok (.iaload, 1) := by decide +kernel
theorem dX11_send_182 : decode cX11_send 182 = .ok (.iconst 1, 1) := by decide +kernel
theorem dX11_send_183 : decode cX11_send 183 = .ok (.iadd, 1) := by decide +kernel
theorem dX11_send_184 : decode cX11_send 184 = .ok (.invokestatic 352, 3) := by decide +kernel
theorem dX11_send_187 : decode cX11_send 187 = .ok (.iastore, 1) := by decide +kernel
theorem dX11_send_188 : decode cX11_send 188 = .ok (.iload_n 2, 1) := by decide +kernel
theorem dX11_send_189 : decode cX11_send 189 = .ok (.ireturn, 1) := by decide +kernel
theorem dX11_nail_0 : decode cX11_nail 0 = .ok (.aload_n 0, 1) := by decide +kernel
theorem dX11_nail_1 : decode cX11_nail 1 = .ok (.iconst 0, 1) := by decide +kernel
theorem dX11_nail_2 : decode cX11_nail 2 = .ok (.putfield 3, 3) := by decide +kernel
theorem dX11_nail_5 : decode cX11_nail 5 = .ok (.aload_n 0, 1) := by decide +kernel
theorem dX11_nail_6 : decode cX11_nail 6 = .ok (.aload_n 0, 1) := by decide +kernel
theorem dX11_nail_7 : decode cX11_nail 7 = .ok (.iload_n 1, 1) := by decide +kernel
theorem dX11_nail_8 : decode cX11_nail 8 = .ok (.invokevirtual 294, 3) := by decide +kernel
theorem dX11_nail_11 : decode cX11_nail 11 = .ok (.ifCond .ne 10, 3) := by decide +kernel
theorem dX11_nail_14 : decode cX11_nail 14 = .ok (.iload_n 2, 1) := by decide +kernel
theorem dX11_nail_15 : decode cX11_nail 15 = .ok (.invokestatic 297, 3) := by decide +kernel
theorem dX11_nail_18 : decode cX11_nail 18 = .ok (.ifCond .eq 7, 3) := by decide +kernel
theorem dX11_nail_21 : decode cX11_nail 21 = .ok (.iconst 1, 1) := by decide +kernel
theorem dX11_nail_22 : decode cX11_nail 22 = .ok (.goto 4, 3) := by decide +kernel
theorem dX11_nail_25 : decode cX11_nail 25 = .ok (.iconst 0, 1) := by decide +kernel
theorem dX11_nail_26 : decode cX11_nail 26 = .ok (.iconst 1, 1) := by decide +kernel
theorem dX11_nail_27 : decode cX11_nail 27 = .ok (.invokevirtual 262, 3) := by decide +kernel
theorem dX11_nail_30 : decode cX11_nail 30 = .ok (.ifCond .ne 33, 3) := by decide +kernel
theorem dX11_nail_33 : decode cX11_nail 33 = .ok (.aload_n 0, 1) := by decide +kernel
theorem dX11_nail_34 : decode cX11_nail 34 = .ok (.aload_n 0, 1) := by decide +kernel
theorem dX11_nail_35 : decode cX11_nail 35 = .ok (.iload_n 1, 1) := by decide +kernel
theorem dX11_nail_36 : decode cX11_nail 36 = .ok (.invokevirtual 94, 3) := by decide +kernel
theorem dX11_nail_39 : decode cX11_nail 39 = .ok (.ifCond .ne 12, 3) := by decide +kernel
theorem dX11_nail_42 : decode cX11_nail 42 = .ok (.aload_n 0, 1) := by decide +kernel
theorem dX11_nail_43 : decode cX11_nail 43 = .ok (.iload_n 2, 1) := by decide +kernel
theorem dX11_nail_44 : decode cX11_nail 44 = .ok (.invokevirtual 160, 3) := by decide +kernel
theorem dX11_nail_47 : decode cX11_nail 47 = .ok (.iconst (-1), 1) := by decide +kernel
theorem dX11_nail_48 : decode cX11_nail 48 = .ok (.if_icmp .eq 7, 3) := by decide +kernel
theorem dX11_nail_51 : decode cX11_nail 51 = .ok (.iconst 1, 1) := by decide +kernel
theorem dX11_nail_52 : decode cX11_nail 52 = .ok (.goto 4, 3) := by decide +kernel
theorem dX11_nail_55 : decode cX11_nail 55 = .ok (.iconst 0, 1) := by decide +kernel
theorem dX11_nail_56 : decode cX11_nail 56 = .ok (.iconst 2, 1) := by decide +kernel
theorem dX11_nail_57 : decode cX11_nail 57 = .ok (.invokevirtual 262, 3) := by decide +kernel
theorem dX11_nail_60 : decode cX11_nail 60 = .ok (.ifCond .eq 4, 3) := by decide +kernel
theorem dX11_nail_63 : decode cX11_nail 63 = .ok (.return_, 1) := by decide +kernel
theorem dX11_nail_64 : decode cX11_nail 64 = .ok (.aload_n 0, 1) := by decide +kernel
theorem dX11_nail_65 : decode cX11_nail 65 = .ok (.invokevirtual 358, 3) := by decide +kernel
theorem dX11_nail_68 : decode cX11_nail 68 = .ok (.aload_n 0, 1) := by decide +kernel
theorem dX11_nail_69 : decode cX11_nail 69 = .ok (.getfield 13, 3) := by decide +kernel
theorem dX11_nail_72 : decode cX11_nail 72 = .ok (.iload_n 1, 1) := by decide +kernel
theorem dX11_nail_73 : decode cX11_nail 73 = .ok (.iconst 3, 1) := by decide +kernel
theorem dX11_nail_74 : decode cX11_nail 74 = .ok (.invokestatic 70, 3) := by decide +kernel
theorem dX11_nail_77 : decode cX11_nail 77 = .ok (.iload_n 2, 1) := by decide +kernel
theorem dX11_nail_78 : decode cX11_nail 78 = .ok (.iastore, 1) := by decide +kernel
theorem dX11_nail_79 : decode cX11_nail 79 = .ok (.return_, 1) := by decide +kernel
theorem dX11_down_0 : decode cX11_down 0 = .ok (.aload_n 0, 1) := by decide +kernel
theorem dX11_down_1 : decode cX11_down 1 = .ok (.iconst 0, 1) := by decide +kernel
theorem dX11_down_2 : decode cX11_down 2 = .ok (.putfield 3, 3) := by decide +kernel
theorem dX11_down_5 : decode cX11_down 5 = .ok (.aload_n 0, 1) := by decide +kernel
theorem dX11_down_6 : decode cX11_down 6 = .ok (.iload_n 1, 1) := by decide +kernel
theorem dX11_down_7 : decode cX11_down 7 = .ok (.invokestatic 297, 3) := by decide +kernel
theorem dX11_down_10 : decode cX11_down 10 = .ok (.iconst 1, 1) := by decide +kernel
theorem dX11_down_11 : decode cX11_down 11 = .ok (.invokevirtual 262, 3) := by decide +kernel
theorem dX11_down_14 : decode cX11_down 14 = .ok (.ifCond .ne 25, 3) := by decide +kernel
theorem dX11_down_17 : decode cX11_down 17 = .ok (.aload_n 0, 1) := by decide +kernel
theorem dX11_down_18 : decode cX11_down 18 = .ok (.aload_n 0, 1) := by decide +kernel
theorem dX11_down_19 : decode cX11_down 19 = .ok (.iload_n 1, 1) := by decide +kernel
theorem dX11_down_20 : decode cX11_down 20 = .ok (.invokevirtual 160, 3) := by decide +kernel
theorem dX11_down_23 : decode cX11_down 23 = .ok (.iconst (-1), 1) := by decide +kernel
theorem dX11_down_24 : decode cX11_down 24 = .ok (.if_icmp .ne 7, 3) := by decide +kernel
theorem dX11_down_27 : decode cX11_down 27 = .ok (.iconst 1, 1) := by decide +kernel
theorem dX11_down_28 : decode cX11_down 28 = .ok (.goto 4, 3) := by decide +kernel
theorem dX11_down_31 : decode cX11_down 31 = .ok (.iconst 0, 1) := by decide +kernel
theorem dX11_down_32 : decode cX11_down 32 = .ok (.iconst 2, 1) := by decide +kernel
theorem dX11_down_33 : decode cX11_down 33 = .ok (.invokevirtual 262, 3) := by decide +kernel
theorem dX11_down_36 : decode cX11_down 36 = .ok (.ifCond .eq 5, 3) := by decide +kernel
theorem dX11_down_39 : decode cX11_down 39 = .ok (.iconst 0, 1) := by decide +kernel
theorem dX11_down_40 : decode cX11_down 40 = .ok (.ireturn, 1) := by decide +kernel
theorem dX11_down_41 : decode cX11_down 41 = .ok (.aload_n 0, 1) := by decide +kernel
theorem dX11_down_42 : decode cX11_down 42 = .ok (.invokevirtual 358, 3) := by decide +kernel
theorem dX11_down_45 : decode cX11_down 45 = .ok (.aload_n 0, 1) := by decide +kernel
theorem dX11_down_46 : decode cX11_down 46 = .ok (.iload_n 1, 1) := by decide +kernel
theorem dX11_down_47 : decode cX11_down 47 = .ok (.invokevirtual 160, 3) := by decide +kernel
theorem dX11_down_50 : decode cX11_down 50 = .ok (.istore_n 2, 1) := by decide +kernel
theorem dX11_down_51 : decode cX11_down 51 = .ok (.aload_n 0, 1) := by decide +kernel
theorem dX11_down_52 : decode cX11_down 52 = .ok (.getfield 13, 3) := by decide +kernel
theorem dX11_down_55 : decode cX11_down 55 = .ok (.iload_n 2, 1) := by decide +kernel
theorem dX11_down_56 : decode cX11_down 56 = .ok (.iconst 3, 1) := by decide +kernel
theorem dX11_down_57 : decode cX11_down 57 = .ok (.invokestatic 70, 3) := by decide +kernel
theorem dX11_down_60 : decode cX11_down 60 = .ok (.iconst (-1), 1) := by decide +kernel
theorem dX11_down_61 : decode cX11_down 61 = .ok (.iastore, 1) := by decide +kernel
theorem dX11_down_62 : decode cX11_down 62 = .ok (.iload_n 2, 1) := by decide +kernel
theorem dX11_down_63 : decode cX11_down 63 = .ok (.ireturn, 1) := by decide +kernel
theorem dX11_mend_0 : decode cX11_mend 0 = .ok (.aload_n 0, 1) := by decide +kernel
theorem dX11_mend_1 : decode cX11_mend 1 = .ok (.iconst 0, 1) := by decide +kernel
theorem dX11_mend_2 : decode cX11_mend 2 = .ok (.putfield 3, 3) := by decide +kernel
theorem dX11_mend_5 : decode cX11_mend 5 = .ok (.aload_n 0, 1) := by decide +kernel
theorem dX11_mend_6 : decode cX11_mend 6 = .ok (.aload_n 0, 1) := by decide +kernel
theorem dX11_mend_7 : decode cX11_mend 7 = .ok (.iload_n 1, 1) := by decide +kernel
theorem dX11_mend_8 : decode cX11_mend 8 = .ok (.invokevirtual 294, 3) := by decide +kernel
theorem dX11_mend_11 : decode cX11_mend 11 = .ok (.iconst 1, 1) := by decide +kernel
theorem dX11_mend_12 : decode cX11_mend 12 = .ok (.invokevirtual 262, 3) := by decide +kernel
theorem dX11_mend_15 : decode cX11_mend 15 = .ok (.ifCond .eq 5, 3) := by decide +kernel
theorem dX11_mend_18 : decode cX11_mend 18 = .ok (.iconst 0, 1) := by decide +kernel
theorem dX11_mend_19 : decode cX11_mend 19 = .ok (.ireturn, 1) := by decide +kernel
theorem dX11_mend_20 : decode cX11_mend 20 = .ok (.aload_n 0, 1) := by decide +kernel
theorem dX11_mend_21 : decode cX11_mend 21 = .ok (.invokevirtual 358, 3) := by decide +kernel
theorem dX11_mend_24 : decode cX11_mend 24 = .ok (.aload_n 0, 1) := by decide +kernel
theorem dX11_mend_25 : decode cX11_mend 25 = .ok (.iload_n 1, 1) := by decide +kernel
theorem dX11_mend_26 : decode cX11_mend 26 = .ok (.iconst 2, 1) := by decide +kernel
theorem dX11_mend_27 : decode cX11_mend 27 = .ok (.invokevirtual 74, 3) := by decide +kernel
theorem dX11_mend_30 : decode cX11_mend 30 = .ok (.istore_n 2, 1) := by decide +kernel
theorem dX11_mend_31 : decode cX11_mend 31 = .ok (.aload_n 0, 1) := by decide +kernel
theorem dX11_mend_32 : decode cX11_mend 32 = .ok (.getfield 13, 3) := by decide +kernel
theorem dX11_mend_35 : decode cX11_mend 35 = .ok (.iload_n 1, 1) := by decide +kernel
theorem dX11_mend_36 : decode cX11_mend 36 = .ok (.iconst 2, 1) := by decide +kernel
theorem dX11_mend_37 : decode cX11_mend 37 = .ok (.invokestatic 70, 3) := by decide +kernel
theorem dX11_mend_40 : decode cX11_mend 40 = .ok (.iconst 0, 1) := by decide +kernel
theorem dX11_mend_41 : decode cX11_mend 41 = .ok (.iastore, 1) := by decide +kernel
theorem dX11_mend_42 : decode cX11_mend 42 = .ok (.iload_n 2, 1) := by decide +kernel
theorem dX11_mend_43 : decode cX11_mend 43 = .ok (.ireturn, 1) := by decide +kernel
theorem dX11_recall_0 : decode cX11_recall 0 = .ok (.aload_n 0, 1) := by decide +kernel
theorem dX11_recall_1 : decode cX11_recall 1 = .ok (.iconst 0, 1) := by decide +kernel
theorem dX11_recall_2 : decode cX11_recall 2 = .ok (.putfield 3, 3) := by decide +kernel
theorem dX11_recall_5 : decode cX11_recall 5 = .ok (.aload_n 0, 1) := by decide +kernel
theorem dX11_recall_6 : decode cX11_recall 6 = .ok (.aload_n 0, 1) := by decide +kernel
theorem dX11_recall_7 : decode cX11_recall 7 = .ok (.iload_n 1, 1) := by decide +kernel
theorem dX11_recall_8 : decode cX11_recall 8 = .ok (.invokevirtual 300, 3) := by decide +kernel
theorem dX11_recall_11 : decode cX11_recall 11 = .ok (.iconst 1, 1) := by decide +kernel
theorem dX11_recall_12 : decode cX11_recall 12 = .ok (.invokevirtual 262, 3) := by decide +kernel
theorem dX11_recall_15 : decode cX11_recall 15 = .ok (.ifCond .ne 26, 3) := by decide +kernel
theorem dX11_recall_18 : decode cX11_recall 18 = .ok (.aload_n 0, 1) := by decide +kernel
theorem dX11_recall_19 : decode cX11_recall 19 = .ok (.aload_n 0, 1) := by decide +kernel
theorem dX11_recall_20 : decode cX11_recall 20 = .ok (.iload_n 1, 1) := by decide +kernel
theorem dX11_recall_21 : decode cX11_recall 21 = .ok (.iconst 3, 1) := by decide +kernel
theorem dX11_recall_22 : decode cX11_recall 22 = .ok (.invokevirtual 80, 3) := by decide +kernel
theorem dX11_recall_25 : decode cX11_recall 25 = .ok (.iconst 2, 1) := by decide +kernel
theorem dX11_recall_26 : decode cX11_recall 26 = .ok (.if_icmp .eq 7, 3) := by decide +kernel
theorem dX11_recall_29 : decode cX11_recall 29 = .ok (.iconst 1, 1) := by decide +kernel
theorem dX11_recall_30 : decode cX11_recall 30 = .ok (.goto 4, 3) := by decide +kernel
theorem dX11_recall_33 : decode cX11_recall 33 = .ok (.iconst 0, 1) := by decide +kernel
theorem dX11_recall_34 : decode cX11_recall 34 = .ok (.iconst 2, 1) := by decide +kernel
theorem dX11_recall_35 : decode cX11_recall 35 = .ok (.invokevirtual 262, 3) := by decide +kernel
theorem dX11_recall_38 : decode cX11_recall 38 = .ok (.ifCond .eq 4, 3) := by decide +kernel
theorem dX11_recall_41 : decode cX11_recall 41 = .ok (.return_, 1) := by decide +kernel
theorem dX11_recall_42 : decode cX11_recall 42 = .ok (.aload_n 0, 1) := by decide +kernel
theorem dX11_recall_43 : decode cX11_recall 43 = .ok (.invokevirtual 358, 3) := by decide +kernel
theorem dX11_recall_46 : decode cX11_recall 46 = .ok (.aload_n 0, 1) := by decide +kernel
theorem dX11_recall_47 : decode cX11_recall 47 = .ok (.getfield 13, 3) := by decide +kernel
theorem dX11_recall_50 : decode cX11_recall 50 = .ok (.iload_n 1, 1) := by decide +kernel
theorem dX11_recall_51 : decode cX11_recall 51 = .ok (.iconst 3, 1) := by decide +kernel
theorem dX11_recall_52 : decode cX11_recall 52 = .ok (.invokestatic 77, 3) := by decide +kernel
theorem dX11_recall_55 : decode cX11_recall 55 = .ok (.iconst 0, 1) := by decide +kernel
theorem dX11_recall_56 : decode cX11_recall 56 = .ok (.iastore, 1) := by decide +kernel
theorem dX11_recall_57 : decode cX11_recall 57 = .ok (.return_, 1) := by decide +kernel
theorem dX11_ofState_0 : decode cX11_ofState 0 = .ok (.iconst 0, 1) := by decide +kernel
theorem dX11_ofState_1 : decode cX11_ofState 1 = .ok (.istore_n 2, 1) := by decide +kernel
theorem dX11_ofState_2 : decode cX11_ofState 2 = .ok (.iconst 0, 1) := by decide +kernel
theorem dX11_ofState_3 : decode cX11_ofState 3 = .ok (.istore_n 3, 1) := by decide +kernel
theorem dX11_ofState_4 : decode cX11_ofState 4 = .ok (.iload_n 3, 1) := by decide +kernel
theorem dX11_ofState_5 : decode cX11_ofState 5 = .ok (.aload_n 0, 1) := by decide +kernel
theorem dX11_ofState_6 : decode cX11_ofState 6 = .ok (.invokevirtual 91, 3) := by decide +kernel
theorem dX11_ofState_9 : decode cX11_ofState 9 = .ok (.if_icmp .ge 29, 3) := by decide +kernel
theorem dX11_ofState_12 : decode cX11_ofState 12 = .ok (.iload_n 2, 1) := by decide +kernel
theorem dX11_ofState_13 : decode cX11_ofState 13 = .ok (.aload_n 0, 1) := by decide +kernel
theorem dX11_ofState_14 : decode cX11_ofState 14 = .ok (.iload_n 3, 1) := by decide +kernel
theorem dX11_ofState_15 : decode cX11_ofState 15 = .ok (.iconst 3, 1) := by decide +kernel
theorem dX11_ofState_16 : decode cX11_ofState 16 = .ok (.invokevirtual 80, 3) := by decide +kernel
theorem dX11_ofState_19 : decode cX11_ofState 19 = .ok (.iload_n 1, 1) := by decide +kernel
theorem dX11_ofState_20 : decode cX11_ofState 20 = .ok (.if_icmp .ne 9, 3) := by decide +kernel
theorem dX11_ofState_23 : decode cX11_ofState 23 = .ok (.iconst 1, 1) := by decide +kernel
theorem dX11_ofState_24 : decode cX11_ofState 24 = .ok (.iload_n 3, 1) := by decide +kernel
theorem dX11_ofState_25 : decode cX11_ofState 25 = .ok (.ishl, 1) := by decide +kernel
theorem dX11_ofState_26 : decode cX11_ofState 26 = .ok (.goto 4, 3) := by decide +kernel
theorem dX11_ofState_29 : decode cX11_ofState 29 = .ok (.iconst 0, 1) := by decide +kernel
theorem dX11_ofState_30 : decode cX11_ofState 30 = .ok (.ior, 1) := by decide +kernel
theorem dX11_ofState_31 : decode cX11_ofState 31 = .ok (.istore_n 2, 1) := by decide +kernel
theorem dX11_ofState_32 : decode cX11_ofState 32 = .ok (.iinc 3 1, 3) := by decide +kernel
theorem dX11_ofState_35 : decode cX11_ofState 35 = .ok (.goto (-31), 3) := by decide +kernel
theorem dX11_ofState_38 : decode cX11_ofState 38 = .ok (.iload_n 2, 1) := by decide +kernel
theorem dX11_ofState_39 : decode cX11_ofState 39 = .ok (.ireturn, 1) := by decide +kernel
theorem dX11_inside_0 : decode cX11_inside 0 = .ok (.aload_n 0, 1) := by decide +kernel
theorem dX11_inside_1 : decode cX11_inside 1 = .ok (.iconst 0, 1) := by decide +kernel
theorem dX11_inside_2 : decode cX11_inside 2 = .ok (.putfield 3, 3) := by decide +kernel
theorem dX11_inside_5 : decode cX11_inside 5 = .ok (.aload_n 0, 1) := by decide +kernel
theorem dX11_inside_6 : decode cX11_inside 6 = .ok (.aload_n 0, 1) := by decide +kernel
theorem dX11_inside_7 : decode cX11_inside 7 = .ok (.iload_n 1, 1) := by decide +kernel
theorem dX11_inside_8 : decode cX11_inside 8 = .ok (.invokevirtual 300, 3) := by decide +kernel
theorem dX11_inside_11 : decode cX11_inside 11 = .ok (.iconst 1, 1) := by decide +kernel
theorem dX11_inside_12 : decode cX11_inside 12 = .ok (.invokevirtual 262, 3) := by decide +kernel
theorem dX11_inside_15 : decode cX11_inside 15 = .ok (.ifCond .ne 24, 3) := by decide +kernel
theorem dX11_inside_18 : decode cX11_inside 18 = .ok (.aload_n 0, 1) := by decide +kernel
theorem dX11_inside_19 : decode cX11_inside 19 = .ok (.aload_n 0, 1) := by decide +kernel
theorem dX11_inside_20 : decode cX11_inside 20 = .ok (.iload_n 1, 1) := by decide +kernel
theorem dX11_inside_21 : decode cX11_inside 21 = .ok (.invokevirtual 355, 3) := by decide +kernel
theorem dX11_inside_24 : decode cX11_inside 24 = .ok (.ifCond .ne 7, 3) := by decide +kernel
theorem dX11_inside_27 : decode cX11_inside 27 = .ok (.iconst 1, 1) := by decide +kernel
theorem dX11_inside_28 : decode cX11_inside 28 = .ok (.goto 4, 3) := by decide +kernel
theorem dX11_inside_31 : decode cX11_inside 31 = .ok (.iconst 0, 1) := by decide +kernel
theorem dX11_inside_32 : decode cX11_inside 32 = .ok (.iconst 2, 1) := by decide +kernel
theorem dX11_inside_33 : decode cX11_inside 33 = .ok (.invokevirtual 262, 3) := by decide +kernel
theorem dX11_inside_36 : decode cX11_inside 36 = .ok (.ifCond .eq 5, 3) := by decide +kernel
theorem dX11_inside_39 : decode cX11_inside 39 = .ok (.iconst 0, 1) := by decide +kernel
theorem dX11_inside_40 : decode cX11_inside 40 = .ok (.ireturn, 1) := by decide +kernel
theorem dX11_inside_41 : decode cX11_inside 41 = .ok (.aload_n 0, 1) := by decide +kernel
theorem dX11_inside_42 : decode cX11_inside 42 = .ok (.invokevirtual 358, 3) := by decide +kernel
theorem dX11_inside_45 : decode cX11_inside 45 = .ok (.aload_n 0, 1) := by decide +kernel
theorem dX11_inside_46 : decode cX11_inside 46 = .ok (.getfield 13, 3) := by decide +kernel
theorem dX11_inside_49 : decode cX11_inside 49 = .ok (.iload_n 1, 1) := by decide +kernel
theorem dX11_inside_50 : decode cX11_inside 50 = .ok (.iconst 3, 1) := by decide +kernel
theorem dX11_inside_51 : decode cX11_inside 51 = .ok (.invokestatic 77, 3) := by decide +kernel
theorem dX11_inside_54 : decode cX11_inside 54 = .ok (.iconst 3, 1) := by decide +kernel
theorem dX11_inside_55 : decode cX11_inside 55 = .ok (.iastore, 1) := by decide +kernel
theorem dX11_inside_56 : decode cX11_inside 56 = .ok (.aload_n 0, 1) := by decide +kernel
theorem dX11_inside_57 : decode cX11_inside 57 = .ok (.iconst 3, 1) := by decide +kernel
theorem dX11_inside_58 : decode cX11_inside 58 = .ok (.invokevirtual 364, 3) := by decide +kernel
theorem dX11_inside_61 : decode cX11_inside 61 = .ok (.invokestatic 143, 3) := by decide +kernel
theorem dX11_inside_64 : decode cX11_inside 64 = .ok (.ireturn, 1) := by decide +kernel
theorem dX11_calm_0 : decode cX11_calm 0 = .ok (.aload_n 0, 1) := by decide +kernel
theorem dX11_calm_1 : decode cX11_calm 1 = .ok (.iconst 0, 1) := by decide +kernel
theorem dX11_calm_2 : decode cX11_calm 2 = .ok (.putfield 3, 3) := by decide +kernel
theorem dX11_calm_5 : decode cX11_calm 5 = .ok (.aload_n 0, 1) := by decide +kernel
theorem dX11_calm_6 : decode cX11_calm 6 = .ok (.iload_n 1, 1) := by decide +kernel
theorem dX11_calm_7 : decode cX11_calm 7 = .ok (.iconst 0, 1) := by decide +kernel
theorem dX11_calm_8 : decode cX11_calm 8 = .ok (.bipush 9, 2) := by decide +kernel
theorem dX11_calm_10 : decode cX11_calm 10 = .ok (.invokestatic 87, 3) := by decide +kernel
theorem dX11_calm_13 : decode cX11_calm 13 = .ok (.ifCond .ne 7, 3) := by decide +kernel
theorem dX11_calm_16 : decode cX11_calm 16 = .ok (.iconst 1, 1) := by decide +kernel
theorem dX11_calm_17 : decode cX11_calm 17 = .ok (.goto 4, 3) := by decide +kernel
theorem dX11_calm_20 : decode cX11_calm 20 = .ok (.iconst 0, 1) := by decide +kernel
theorem dX11_calm_21 : decode cX11_calm 21 = .ok (.iconst 1, 1) := by decide +kernel
theorem dX11_calm_22 : decode cX11_calm 22 = .ok (.invokevirtual 262, 3) := by decide +kernel
theorem dX11_calm_25 : decode cX11_calm 25 = .ok (.ifCond .eq 5, 3) := by decide +kernel
theorem dX11_calm_28 : decode cX11_calm 28 = .ok (.iconst 0, 1) := by decide +kernel
theorem dX11_calm_29 : decode cX11_calm 29 = .ok (.ireturn, 1) := by decide +kernel
theorem dX11_calm_30 : decode cX11_calm 30 = .ok (.aload_n 0, 1) := by decide +kernel
theorem dX11_calm_31 : decode cX11_calm 31 = .ok (.invokevirtual 358, 3) := by decide +kernel
theorem dX11_calm_34 : decode cX11_calm 34 = .ok (.aload_n 0, 1) := by decide +kernel
theorem dX11_calm_35 : decode cX11_calm 35 = .ok (.getfield 13, 3) := by decide +kernel
theorem dX11_calm_38 : decode cX11_calm 38 = .ok (.iconst 5, 1) := by decide +kernel
theorem dX11_calm_39 : decode cX11_calm 39 = .ok (.iaload, 1) := by decide +kernel
theorem dX11_calm_40 : decode cX11_calm 40 = .ok (.istore_n 2, 1) := by decide +kernel
theorem dX11_calm_41 : decode cX11_calm 41 = .ok (.aload_n 0, 1) := by decide +kernel
theorem dX11_calm_42 : decode cX11_calm 42 = .ok (.getfield 13, 3) := by decide +kernel
theorem dX11_calm_45 : decode cX11_calm 45 = .ok (.iconst 5, 1) := by decide +kernel
theorem dX11_calm_46 : decode cX11_calm 46 = .ok (.iload_n 1, 1) := by decide +kernel
theorem dX11_calm_47 : decode cX11_calm 47 = .ok (.iastore, 1) := by decide +kernel
theorem dX11_calm_48 : decode cX11_calm 48 = .ok (.iload_n 2, 1) := by decide +kernel
theorem dX11_calm_49 : decode cX11_calm 49 = .ok (.ireturn, 1) := by decide +kernel
theorem dX11_mornings_0 : decode cX11_mornings 0 = .ok (.aload_n 0, 1) := by decide +kernel
theorem dX11_mornings_1 : decode cX11_mornings 1 = .ok (.iconst 0, 1) := by decide +kernel
theorem dX11_mornings_2 : decode cX11_mornings 2 = .ok (.putfield 3, 3) := by decide +kernel
theorem dX11_mornings_5 : decode cX11_mornings 5 = .ok (.aload_n 0, 1) := by decide +kernel
theorem dX11_mornings_6 : decode cX11_mornings 6 = .ok (.iload_n 1, 1) := by decide +kernel
theorem dX11_mornings_7 : decode cX11_mornings 7 = .ok (.iconst 1, 1) := by decide +kernel
theorem dX11_mornings_8 : decode cX11_mornings 8 = .ok (.bipush 60, 2) := by decide +kernel
theorem dX11_mornings_10 : decode cX11_mornings 10 = .ok (.invokestatic 87, 3) := by decide +kernel
theorem dX11_mornings_13 : decode cX11_mornings 13 = .ok (.ifCond .ne 7, 3) := by decide +kernel
theorem dX11_mornings_16 : decode cX11_mornings 16 = .ok (.iconst 1, 1) := by decide +kernel
theorem dX11_mornings_17 : decode cX11_mornings 17 = .ok (.goto 4, 3) := by decide +kernel
theorem dX11_mornings_20 : decode cX11_mornings 20 = .ok (.iconst 0, 1) := by decide +kernel
theorem dX11_mornings_21 : decode cX11_mornings 21 = .ok (.iconst 1, 1) := by decide +kernel
theorem dX11_mornings_22 : decode cX11_mornings 22 = .ok (.invokevirtual 262, 3) := by decide +kernel
theorem dX11_mornings_25 : decode cX11_mornings 25 = .ok (.ifCond .eq 5, 3) := by decide +kernel
theorem dX11_mornings_28 : decode cX11_mornings 28 = .ok (.iconst 0, 1) := by decide +kernel
theorem dX11_mornings_29 : decode cX11_mornings 29 = .ok (.ireturn, 1) := by decide +kernel
theorem dX11_mornings_30 : decode cX11_mornings 30 = .ok (.aload_n 0, 1) := by decide +kernel
theorem dX11_mornings_31 : decode cX11_mornings 31 = .ok (.invokevirtual 358, 3) := by decide +kernel
theorem dX11_mornings_34 : decode cX11_mornings 34 = .ok (.iconst 0, 1) := by decide +kernel
theorem dX11_mornings_35 : decode cX11_mornings 35 = .ok (.istore_n 2, 1) := by decide +kernel
theorem dX11_mornings_36 : decode cX11_mornings 36 = .ok (.iconst 0, 1) := by decide +kernel
theorem dX11_mornings_37 : decode cX11_mornings 37 = .ok (.istore_n 3, 1) := by decide +kernel
theorem dX11_mornings_38 : decode cX11_mornings 38 = .ok (.iload_n 3, 1) := by decide +kernel
theorem dX11_mornings_39 : decode cX11_mornings 39 = .ok (.aload_n 0, 1) := by decide +kernel
theorem dX11_mornings_40 : decode cX11_mornings 40 = .ok (.invokevirtual 83, 3) := by decide +kernel
theorem dX11_mornings_43 : decode cX11_mornings 43 = .ok (.if_icmp .ge 51, 3) := by decide +kernel
theorem dX11_mornings_46 : decode cX11_mornings 46 = .ok (.aload_n 0, 1) := by decide +kernel
theorem dX11_mornings_47 : decode cX11_mornings 47 = .ok (.iload_n 3, 1) := by decide +kernel
theorem dX11_mornings_48 : decode cX11_mornings 48 = .ok (.invokevirtual 94, 3) := by decide +kernel
theorem dX11_mornings_51 : decode cX11_mornings 51 = .ok (.ifCond .ne 6, 3) := by decide +kernel
theorem dX11_mornings_54 : decode cX11_mornings 54 = .ok (.goto 34, 3) := by decide +kernel
theorem dX11_mornings_57 : decode cX11_mornings 57 = .ok (.aload_n 0, 1) := by decide +kernel
theorem dX11_mornings_58 : decode cX11_mornings 58 = .ok (.getfield 13, 3) := by decide +kernel
theorem dX11_mornings_61 : decode cX11_mornings 61 = .ok (.iload_n 3, 1) := by decide +kernel
theorem dX11_mornings_62 : decode cX11_mornings 62 = .ok (.iconst 2, 1) := by decide +kernel
theorem dX11_mornings_63 : decode cX11_mornings 63 = .ok (.invokestatic 70, 3) := by decide +kernel
theorem dX11_mornings_66 : decode cX11_mornings 66 = .ok (.iconst 0, 1) := by decide +kernel
theorem dX11_mornings_67 : decode cX11_mornings 67 = .ok (.aload_n 0, 1) := by decide +kernel
theorem dX11_mornings_68 : decode cX11_mornings 68 = .ok (.iload_n 3, 1) := by decide +kernel
theorem dX11_mornings_69 : decode cX11_mornings 69 = .ok (.iconst 2, 1) := by decide +kernel
theorem dX11_mornings_70 : decode cX11_mornings 70 = .ok (.invokevirtual 74, 3) := by decide +kernel
theorem dX11_mornings_73 : decode cX11_mornings 73 = .ok (.iload_n 1, 1) := by decide +kernel
theorem dX11_mornings_74 : decode cX11_mornings 74 = .ok (.isub, 1) := by decide +kernel
theorem dX11_mornings_75 : decode cX11_mornings 75 = .ok (.invokestatic 289, 3) := by decide +kernel
theorem dX11_mornings_78 : decode cX11_mornings 78 = .ok (.iastore, 1) := by decide +kernel
theorem dX11_mornings_79 : decode cX11_mornings 79 = .ok (.iload_n 2, 1) := by decide +kernel
theorem dX11_mornings_80 : decode cX11_mornings 80 = .ok (.aload_n 0, 1) := by decide +kernel
theorem dX11_mornings_81 : decode cX11_mornings 81 = .ok (.iload_n 3, 1) := by decide +kernel
theorem dX11_mornings_82 : decode cX11_mornings 82 = .ok (.iconst 2, 1) := by decide +kernel
theorem dX11_mornings_83 : decode cX11_mornings 83 = .ok (.invokevirtual 74, 3) := by decide +kernel
theorem dX11_mornings_86 : decode cX11_mornings 86 = .ok (.iadd, 1) := by decide +kernel
theorem dX11_mornings_87 : decode cX11_mornings 87 = .ok (.istore_n 2, 1) := by decide +kernel
theorem dX11_mornings_88 : decode cX11_mornings 88 = .ok (.iinc 3 1, 3) := by decide +kernel
theorem dX11_mornings_91 : decode cX11_mornings 91 = .ok (.goto (-53), 3) := by decide +kernel
theorem dX11_mornings_94 : decode cX11_mornings 94 = .ok (.aload_n 0, 1) := by decide +kernel
theorem dX11_mornings_95 : decode cX11_mornings 95 = .ok (.getfield 13, 3) := by decide +kernel
theorem dX11_mornings_98 : decode cX11_mornings 98 = .ok (.iconst 4, 1) := by decide +kernel
theorem dX11_mornings_99 : decode cX11_mornings 99 = .ok (.sipush 9999, 3) := by decide +kernel
theorem dX11_mornings_102 : decode cX11_mornings 102 = .ok (.aload_n 0, 1) := by decide +kernel
theorem dX11_mornings_103 : decode cX11_mornings 103 = .ok (.getfield 13, 3) := by decide +kernel
theorem dX11_mornings_106 : decode cX11_mornings 106 = .ok (.iconst 4, 1) := by decide +kernel
theorem dX11_mornings_107 : decode cX11_mornings 107 = .ok (.iaload, 1) := by decide +kernel
theorem dX11_mornings_108 : decode cX11_mornings 108 = .ok (.iload_n 1, 1) := by decide +kernel
theorem dX11_mornings_109 : decode cX11_mornings 109 = .ok (.iadd, 1) := by decide +kernel
theorem dX11_mornings_110 : decode cX11_mornings 110 = .ok (.invokestatic 352, 3) := by decide +kernel
theorem dX11_mornings_113 : decode cX11_mornings 113 = .ok (.iastore, 1) := by decide +kernel
theorem dX11_mornings_114 : decode cX11_mornings 114 = .ok (.iload_n 2, 1) := by decide +kernel
theorem dX11_mornings_115 : decode cX11_mornings 115 = .ok (.ireturn, 1) := by decide +kernel
theorem dX11_straight_0 : decode cX11_straight 0 = .ok (.aload_n 0, 1) := by decide +kernel
theorem dX11_straight_1 : decode cX11_straight 1 = .ok (.iconst 0, 1) := by decide +kernel
theorem dX11_straight_2 : decode cX11_straight 2 = .ok (.putfield 3, 3) := by decide +kernel
theorem dX11_straight_5 : decode cX11_straight 5 = .ok (.aload_n 0, 1) := by decide +kernel
theorem dX11_straight_6 : decode cX11_straight 6 = .ok (.aload_n 0, 1) := by decide +kernel
theorem dX11_straight_7 : decode cX11_straight 7 = .ok (.iload_n 1, 1) := by decide +kernel
theorem dX11_straight_8 : decode cX11_straight 8 = .ok (.invokevirtual 300, 3) := by decide +kernel
theorem dX11_straight_11 : decode cX11_straight 11 = .ok (.iconst 1, 1) := by decide +kernel
theorem dX11_straight_12 : decode cX11_straight 12 = .ok (.invokevirtual 262, 3) := by decide +kernel
theorem dX11_straight_15 : decode cX11_straight 15 = .ok (.ifCond .eq 7, 3) := by decide +kernel
theorem dX11_straight_18 : decode cX11_straight 18 = .ok (.iconst 0, 1) := by decide +kernel
theorem dX11_straight_19 : decode cX11_straight 19 = .ok (.goto 8, 3) := by decide +kernel
theorem dX11_straight_22 : decode cX11_straight 22 = .ok (.aload_n 0, 1) := by decide +kernel
theorem dX11_straight_23 : decode cX11_straight 23 = .ok (.iload_n 1, 1) := by decide +kernel
theorem dX11_straight_24 : decode cX11_straight 24 = .ok (.invokevirtual 367, 3) := by decide +kernel
theorem dX11_straight_27 : decode cX11_straight 27 = .ok (.ireturn, 1) := by decide +kernel
theorem dX11_tense_0 : decode cX11_tense 0 = .ok (.aload_n 0, 1) := by decide +kernel
theorem dX11_tense_1 : decode cX11_tense 1 = .ok (.iconst 0, 1) := by decide +kernel
theorem dX11_tense_2 : decode cX11_tense 2 = .ok (.putfield 3, 3) := by decide +kernel
theorem dX11_tense_5 : decode cX11_tense 5 = .ok (.aload_n 0, 1) := by decide +kernel
theorem dX11_tense_6 : decode cX11_tense 6 = .ok (.aload_n 0, 1) := by decide +kernel
theorem dX11_tense_7 : decode cX11_tense 7 = .ok (.iload_n 1, 1) := by decide +kernel
theorem dX11_tense_8 : decode cX11_tense 8 = .ok (.invokevirtual 300, 3) := by decide +kernel
theorem dX11_tense_11 : decode cX11_tense 11 = .ok (.ifCond .ne 10, 3) := by decide +kernel
theorem dX11_tense_14 : decode cX11_tense 14 = .ok (.iload_n 2, 1) := by decide +kernel
theorem dX11_tense_15 : decode cX11_tense 15 = .ok (.invokestatic 297, 3) := by decide +kernel
theorem dX11_tense_18 : decode cX11_tense 18 = .ok (.ifCond .eq 7, 3) := by decide +kernel
theorem dX11_tense_21 : decode cX11_tense 21 = .ok (.iconst 1, 1) := by decide +kernel
theorem dX11_tense_22 : decode cX11_tense 22 = .ok (.goto 4, 3) := by decide +kernel
theorem dX11_tense_25 : decode cX11_tense 25 = .ok (.iconst 0, 1) := by decide +kernel
theorem dX11_tense_26 : decode cX11_tense 26 = .ok (.iconst 1, 1) := by decide +kernel
theorem dX11_tense_27 : decode cX11_tense 27 = .ok (.invokevirtual 262, 3) := by decide +kernel
theorem dX11_tense_30 : decode cX11_tense 30 = .ok (.ifCond .eq 5, 3) := by decide +kernel
theorem dX11_tense_33 : decode cX11_tense 33 = .ok (.iconst 0, 1) := by decide +kernel
theorem dX11_tense_34 : decode cX11_tense 34 = .ok (.ireturn, 1) := by decide +kernel
theorem dX11_tense_35 : decode cX11_tense 35 = .ok (.aload_n 0, 1) := by decide +kernel
theorem dX11_tense_36 : decode cX11_tense 36 = .ok (.iload_n 1, 1) := by decide +kernel
theorem dX11_tense_37 : decode cX11_tense 37 = .ok (.invokevirtual 367, 3) := by decide +kernel
theorem dX11_tense_40 : decode cX11_tense 40 = .ok (.pop, 1) := by decide +kernel
theorem dX11_tense_41 : decode cX11_tense 41 = .ok (.aload_n 0, 1) := by decide +kernel
theorem dX11_tense_42 : decode cX11_tense 42 = .ok (.getfield 42, 3) := by decide +kernel
theorem dX11_tense_45 : decode cX11_tense 45 = .ok (.iload_n 2, 1) := by decide +kernel
theorem dX11_tense_46 : decode cX11_tense 46 = .ok (.iaload, 1) := by decide +kernel
theorem dX11_tense_47 : decode cX11_tense 47 = .ok (.ireturn, 1) := by decide +kernel
theorem dX11_corners_0 : decode cX11_corners 0 = .ok (.aload_n 0, 1) := by decide +kernel
theorem dX11_corners_1 : decode cX11_corners 1 = .ok (.iconst 0, 1) := by decide +kernel
theorem dX11_corners_2 : decode cX11_corners 2 = .ok (.putfield 3, 3) := by decide +kernel
theorem dX11_corners_5 : decode cX11_corners 5 = .ok (.aload_n 0, 1) := by decide +kernel
theorem dX11_corners_6 : decode cX11_corners 6 = .ok (.aload_n 0, 1) := by decide +kernel
theorem dX11_corners_7 : decode cX11_corners 7 = .ok (.iload_n 1, 1) := by decide +kernel
theorem dX11_corners_8 : decode cX11_corners 8 = .ok (.invokevirtual 300, 3) := by decide +kernel
theorem dX11_corners_11 : decode cX11_corners 11 = .ok (.iconst 1, 1) := by decide +kernel
theorem dX11_corners_12 : decode cX11_corners 12 = .ok (.invokevirtual 262, 3) := by decide +kernel
theorem dX11_corners_15 : decode cX11_corners 15 = .ok (.ifCond .eq 5, 3) := by decide +kernel
theorem dX11_corners_18 : decode cX11_corners 18 = .ok (.iconst 0, 1) := by decide +kernel
theorem dX11_corners_19 : decode cX11_corners 19 = .ok (.ireturn, 1) := by decide +kernel
theorem dX11_corners_20 : decode cX11_corners 20 = .ok (.aload_n 0, 1) := by decide +kernel
theorem dX11_corners_21 : decode cX11_corners 21 = .ok (.iload_n 1, 1) := by decide +kernel
theorem dX11_corners_22 : decode cX11_corners 22 = .ok (.invokevirtual 367, 3) := by decide +kernel
theorem dX11_corners_25 : decode cX11_corners 25 = .ok (.pop, 1) := by decide +kernel
theorem dX11_corners_26 : decode cX11_corners 26 = .ok (.iconst 0, 1) := by decide +kernel
theorem dX11_corners_27 : decode cX11_corners 27 = .ok (.istore_n 2, 1) := by decide +kernel
theorem dX11_corners_28 : decode cX11_corners 28 = .ok (.iconst 0, 1) := by decide +kernel
theorem dX11_corners_29 : decode cX11_corners 29 = .ok (.istore_n 3, 1) := by decide +kernel
theorem dX11_corners_30 : decode cX11_corners 30 = .ok (.iload_n 3, 1) := by decide +kernel
theorem dX11_corners_31 : decode cX11_corners 31 = .ok (.bipush 10, 2) := by decide +kernel
theorem dX11_corners_33 : decode cX11_corners 33 = .ok (.if_icmp .ge 53, 3) := by decide +kernel
theorem dX11_corners_36 : decode cX11_corners 36 = .ok (.iload_n 2, 1) := by decide +kernel
theorem dX11_corners_37 : decode cX11_corners 37 = .ok (.aload_n 0, 1) := by decide +kernel
theorem dX11_corners_38 : decode cX11_corners 38 = .ok (.iload_n 3, 1) := by decide +kernel
theorem dX11_corners_39 : decode cX11_corners 39 = .ok (.invokevirtual 160, 3) := by decide +kernel
theorem dX11_corners_42 : decode cX11_corners 42 = .ok (.iconst (-1), 1) := by decide +kernel
theorem dX11_corners_43 : decode cX11_corners 43 = .ok (.if_icmp .ne 34, 3) := by decide +kernel
theorem dX11_corners_46 : decode cX11_corners 46 = .ok (.aload_n 0, 1) := by decide +kernel
theorem dX11_corners_47 : decode cX11_corners 47 = .ok (.getfield 42, 3) := by decide +kernel
theorem dX11_corners_50 : decode cX11_corners 50 = .ok (.iload_n 3, 1) := by decide +kernel
theorem dX11_corners_51 : decode cX11_corners 51 = .ok (.iaload, 1) := by decide +kernel
theorem dX11_corners_52 : decode cX11_corners 52 = .ok (.iconst (-1), 1) := by decide +kernel
theorem dX11_corners_53 : decode cX11_corners 53 = .ok (.if_icmp .eq 24, 3) := by decide +kernel
theorem dX11_corners_56 : decode cX11_corners 56 = .ok (.aload_n 0, 1) := by decide +kernel
theorem dX11_corners_57 : decode cX11_corners 57 = .ok (.getfield 42, 3) := by decide +kernel
theorem dX11_corners_60 : decode cX11_corners 60 = .ok (.iload_n 3, 1) := by decide +kernel
theorem dX11_corners_61 : decode cX11_corners 61 = .ok (.iaload, 1) := by decide +kernel
theorem dX11_corners_62 : decode cX11_corners 62 = .ok (.aload_n 0, 1) := by decide +kernel
theorem dX11_corners_63 : decode cX11_corners 63 = .ok (.getfield 268, 3) := by decide +kernel
theorem dX11_corners_66 : decode cX11_corners 66 = .ok (.iconst 2, 1) := by decide +kernel
theorem dX11_corners_67 : decode cX11_corners 67 = .ok (.idiv, 1) := by decide +kernel
theorem dX11_corners_68 : decode cX11_corners 68 = .ok (.if_icmp .lt 9, 3) := by decide +kernel
theorem dX11_corners_71 : decode cX11_corners 71 = .ok (.iconst 1, 1) := by decide +kernel
theorem dX11_corners_72 : decode cX11_corners 72 = .ok (.iload_n 3, 1) := by decide +kernel
theorem dX11_corners_73 : decode cX11_corners 73 = .ok (.ishl, 1) := by decide +kernel
theorem dX11_corners_74 : decode cX11_corners 74 = .ok (.goto 4, 3) := by decide +kernel
theorem dX11_corners_77 : decode cX11_corners 77 = .ok (.iconst 0, 1) := by decide +kernel
theorem dX11_corners_78 : decode cX11_corners 78 = .ok (.ior, 1) := by decide +kernel
theorem dX11_corners_79 : decode cX11_corners 79 = .ok (.istore_n 2, 1) := by decide +kernel
theorem dX11_corners_80 : decode cX11_corners 80 = .ok (.iinc 3 1, 3) := by decide +kernel
theorem dX11_corners_83 : decode cX11_corners 83 = .ok (.goto (-53), 3) := by decide +kernel
theorem dX11_corners_86 : decode cX11_corners 86 = .ok (.iload_n 2, 1) := by decide +kernel
theorem dX11_corners_87 : decode cX11_corners 87 = .ok (.ireturn, 1) := by decide +kernel
theorem dX11_share_0 : decode cX11_share 0 = .ok (.aload_n 0, 1) := by decide +kernel
theorem dX11_share_1 : decode cX11_share 1 = .ok (.iconst 0, 1) := by decide +kernel
theorem dX11_share_2 : decode cX11_share 2 = .ok (.putfield 3, 3) := by decide +kernel
theorem dX11_share_5 : decode cX11_share 5 = .ok (.aload_n 0, 1) := by decide +kernel
theorem dX11_share_6 : decode cX11_share 6 = .ok (.aload_n 0, 1) := by decide +kernel
theorem dX11_share_7 : decode cX11_share 7 = .ok (.iload_n 1, 1) := by decide +kernel
theorem dX11_share_8 : decode cX11_share 8 = .ok (.invokevirtual 294, 3) := by decide +kernel
theorem dX11_share_11 : decode cX11_share 11 = .ok (.ifCond .ne 11, 3) := by decide +kernel
theorem dX11_share_14 : decode cX11_share 14 = .ok (.aload_n 0, 1) := by decide +kernel
theorem dX11_share_15 : decode cX11_share 15 = .ok (.iload_n 2, 1) := by decide +kernel
theorem dX11_share_16 : decode cX11_share 16 = .ok (.invokevirtual 300, 3) := by decide +kernel
theorem dX11_share_19 : decode cX11_share 19 = .ok (.ifCond .eq 7, 3) := by decide +kernel
theorem dX11_share_22 : decode cX11_share 22 = .ok (.iconst 1, 1) := by decide +kernel
theorem dX11_share_23 : decode cX11_share 23 = .ok (.goto 4, 3) := by decide +kernel
theorem dX11_share_26 : decode cX11_share 26 = .ok (.iconst 0, 1) := by decide +kernel
theorem dX11_share_27 : decode cX11_share 27 = .ok (.iconst 1, 1) := by decide +kernel
theorem dX11_share_28 : decode cX11_share 28 = .ok (.invokevirtual 262, 3) := by decide +kernel
theorem dX11_share_31 : decode cX11_share 31 = .ok (.ifCond .eq 5, 3) := by decide +kernel
theorem dX11_share_34 : decode cX11_share 34 = .ok (.iconst 0, 1) := by decide +kernel
theorem dX11_share_35 : decode cX11_share 35 = .ok (.ireturn, 1) := by decide +kernel
theorem dX11_share_36 : decode cX11_share 36 = .ok (.aload_n 0, 1) := by decide +kernel
theorem dX11_share_37 : decode cX11_share 37 = .ok (.iload_n 2, 1) := by decide +kernel
theorem dX11_share_38 : decode cX11_share 38 = .ok (.invokevirtual 367, 3) := by decide +kernel
theorem dX11_share_41 : decode cX11_share 41 = .ok (.pop, 1) := by decide +kernel
theorem dX11_share_42 : decode cX11_share 42 = .ok (.iconst 0, 1) := by decide +kernel
theorem dX11_share_43 : decode cX11_share 43 = .ok (.istore_n 3, 1) := by decide +kernel
theorem dX11_share_44 : decode cX11_share 44 = .ok (.iconst 0, 1) := by decide +kernel
theorem dX11_share_45 : decode cX11_share 45 = .ok (.istore 4, 2) := by decide +kernel
theorem dX11_share_47 : decode cX11_share 47 = .ok (.iload 4, 2) := by decide +kernel
theorem dX11_share_49 : decode cX11_share 49 = .ok (.bipush 10, 2) := by decide +kernel
theorem dX11_share_51 : decode cX11_share 51 = .ok (.if_icmp .ge 19, 3) := by decide +kernel
theorem dX11_share_54 : decode cX11_share 54 = .ok (.iload_n 3, 1) := by decide +kernel
theorem dX11_share_55 : decode cX11_share 55 = .ok (.aload_n 0, 1) := by decide +kernel
theorem dX11_share_56 : decode cX11_share 56 = .ok (.getfield 45, 3) := by decide +kernel
theorem dX11_share_59 : decode cX11_share 59 = .ok (.iload 4, 2) := by decide +kernel
theorem dX11_share_61 : decode cX11_share 61 = .ok (.iaload, 1) := by decide +kernel
theorem dX11_share_62 : decode cX11_share 62 = .ok (.iadd, 1) := by decide +kernel
theorem dX11_share_63 : decode cX11_share 63 = .ok (.istore_n 3, 1) := by decide +kernel
theorem dX11_share_64 : decode cX11_share 64 = .ok (.iinc 4 1, 3) := by decide +kernel
theorem dX11_share_67 : decode cX11_share 67 = .ok (.goto (-20), 3) := by decide +kernel
theorem dX11_share_70 : decode cX11_share 70 = .ok (.iload_n 3, 1) := by decide +kernel
theorem dX11_share_71 : decode cX11_share 71 = .ok (.ifCond .eq 11, 3) := by decide +kernel
theorem dX11_share_74 : decode cX11_share 74 = .ok (.aload_n 0, 1) := by decide +kernel
theorem dX11_share_75 : decode cX11_share 75 = .ok (.iload_n 1, 1) := by decide +kernel
theorem dX11_share_76 : decode cX11_share 76 = .ok (.invokevirtual 94, 3) := by decide +kernel
theorem dX11_share_79 : decode cX11_share 79 = .ok (.ifCond .ne 7, 3) := by decide +kernel
theorem dX11_share_82 : decode cX11_share 82 = .ok (.iconst 0, 1) := by decide +kernel
theorem dX11_share_83 : decode cX11_share 83 = .ok (.goto 19, 3) := by decide +kernel
theorem dX11_share_86 : decode cX11_share 86 = .ok (.bipush 100, 2) := by decide +kernel
theorem dX11_share_88 : decode cX11_share 88 = .ok (.aload_n 0, 1) := by decide +kernel
theorem dX11_share_89 : decode cX11_share 89 = .ok (.getfield 45, 3) := by decide +kernel
theorem dX11_share_92 : decode cX11_share 92 = .ok (.aload_n 0, 1) := by decide +kernel
theorem dX11_share_93 : decode cX11_share 93 = .ok (.iload_n 1, 1) := by decide +kernel
theorem dX11_share_94 : decode cX11_share 94 = .ok (.iconst 3, 1) := by decide +kernel
theorem dX11_share_95 : decode cX11_share 95 = .ok (.invokevirtual 74, 3) := by decide +kernel
theorem dX11_share_98 : decode cX11_share 98 = .ok (.iaload, 1) := by decide +kernel
theorem dX11_share_99 : decode cX11_share 99 = .ok (.imul, 1) := by decide +kernel
theorem dX11_share_100 : decode cX11_share 100 = .ok (.iload_n 3, 1) := by decide +kernel
theorem dX11_share_101 : decode cX11_share 101 = .ok (.idiv, 1) := by decide +kernel
theorem dX11_share_102 : decode cX11_share 102 = .ok (.ireturn, 1) := by decide +kernel
theorem dX11_keepsAll_0 : decode cX11_keepsAll 0 = .ok (.iconst 0, 1) := by decide +kernel
theorem dX11_keepsAll_1 : decode cX11_keepsAll 1 = .ok (.istore_n 1, 1) := by decide +kernel
theorem dX11_keepsAll_2 : decode cX11_keepsAll 2 = .ok (.iload_n 1, 1) := by decide +kernel
theorem dX11_keepsAll_3 : decode cX11_keepsAll 3 = .ok (.sipush 305, 3) := by decide +kernel
theorem dX11_keepsAll_6 : decode cX11_keepsAll 6 = .ok (.if_icmp .ge 21, 3) := by decide +kernel
theorem dX11_keepsAll_9 : decode cX11_keepsAll 9 = .ok (.aload_n 0, 1) := by decide +kernel
theorem dX11_keepsAll_10 : decode cX11_keepsAll 10 = .ok (.getfield 23, 3) := by decide +kernel
theorem dX11_keepsAll_13 : decode cX11_keepsAll 13 = .ok (.iload_n 1, 1) := by decide +kernel
theorem dX11_keepsAll_14 : decode cX11_keepsAll 14 = .ok (.aload_n 0, 1) := by decide +kernel
theorem dX11_keepsAll_15 : decode cX11_keepsAll 15 = .ok (.getfield 13, 3) := by decide +kernel
theorem dX11_keepsAll_18 : decode cX11_keepsAll 18 = .ok (.iload_n 1, 1) := by decide +kernel
theorem dX11_keepsAll_19 : decode cX11_keepsAll 19 = .ok (.iaload, 1) := by decide +kernel
theorem dX11_keepsAll_20 : decode cX11_keepsAll 20 = .ok (.iastore, 1) := by decide +kernel
theorem dX11_keepsAll_21 : decode cX11_keepsAll 21 = .ok (.iinc 1 1, 3) := by decide +kernel
theorem dX11_keepsAll_24 : decode cX11_keepsAll 24 = .ok (.goto (-22), 3) := by decide +kernel
theorem dX11_keepsAll_27 : decode cX11_keepsAll 27 = .ok (.return_, 1) := by decide +kernel
theorem dX11_bringsBack_0 : decode cX11_bringsBack 0 = .ok (.iconst 0, 1) := by decide +kernel
theorem dX11_bringsBack_1 : decode cX11_bringsBack 1 = .ok (.istore_n 1, 1) := by decide +kernel
theorem dX11_bringsBack_2 : decode cX11_bringsBack 2 = .ok (.iload_n 1, 1) := by decide +kernel
theorem dX11_bringsBack_3 : decode cX11_bringsBack 3 = .ok (.sipush 305, 3) := by decide +kernel
theorem dX11_bringsBack_6 : decode cX11_bringsBack 6 = .ok (.if_icmp .ge 21, 3) := by decide +kernel
theorem dX11_bringsBack_9 : decode cX11_bringsBack 9 = .ok (.aload_n 0, 1) := by decide +kernel
theorem dX11_bringsBack_10 : decode cX11_bringsBack 10 = .ok (.getfield 13, 3) := by decide +kernel
theorem dX11_bringsBack_13 : decode cX11_bringsBack 13 = .ok (.iload_n 1, 1) := by decide +kernel
theorem dX11_bringsBack_14 : decode cX11_bringsBack 14 = .ok (.aload_n 0, 1) := by decide +kernel
theorem dX11_bringsBack_15 : decode cX11_bringsBack 15 = .ok (.getfield 23, 3) := by decide +kernel
theorem dX11_bringsBack_18 : decode cX11_bringsBack 18 = .ok (.iload_n 1, 1) := by decide +kernel
theorem dX11_bringsBack_19 : decode cX11_bringsBack 19 = .ok (.iaload, 1) := by decide +kernel
theorem dX11_bringsBack_20 : decode cX11_bringsBack 20 = .ok (.iastore, 1) := by decide +kernel
theorem dX11_bringsBack_21 : decode cX11_bringsBack 21 = .ok (.iinc 1 1, 3) := by decide +kernel
theorem dX11_bringsBack_24 : decode cX11_bringsBack 24 = .ok (.goto (-22), 3) := by decide +kernel
theorem dX11_bringsBack_27 : decode cX11_bringsBack 27 = .ok (.return_, 1) := by decide +kernel
theorem dX11_screamers_0 : decode cX11_screamers 0 = .ok (.iconst 0, 1) := by decide +kernel
theorem dX11_screamers_1 : decode cX11_screamers 1 = .ok (.istore_n 2, 1) := by decide +kernel
theorem dX11_screamers_2 : decode cX11_screamers 2 = .ok (.aload_n 0, 1) := by decide +kernel
theorem dX11_screamers_3 : decode cX11_screamers 3 = .ok (.invokevirtual 370, 3) := by decide +kernel
theorem dX11_screamers_6 : decode cX11_screamers 6 = .ok (.iconst 0, 1) := by decide +kernel
theorem dX11_screamers_7 : decode cX11_screamers 7 = .ok (.istore_n 3, 1) := by decide +kernel
theorem dX11_screamers_8 : decode cX11_screamers 8 = .ok (.iload_n 3, 1) := by decide +kernel
theorem dX11_screamers_9 : decode cX11_screamers 9 = .ok (.aload_n 0, 1) := by decide +kernel
theorem dX11_screamers_10 : decode cX11_screamers 10 = .ok (.invokevirtual 91, 3) := by decide +kernel
theorem dX11_screamers_13 : decode cX11_screamers 13 = .ok (.if_icmp .ge 48, 3) := by decide +kernel
theorem dX11_screamers_16 : decode cX11_screamers 16 = .ok (.aload_n 0, 1) := by decide +kernel
theorem dX11_screamers_17 : decode cX11_screamers 17 = .ok (.iload_n 3, 1) := by decide +kernel
theorem dX11_screamers_18 : decode cX11_screamers 18 = .ok (.invokevirtual 355, 3) := by decide +kernel
theorem dX11_screamers_21 : decode cX11_screamers 21 = .ok (.ifCond .ne 6, 3) := by decide +kernel
theorem dX11_screamers_24 : decode cX11_screamers 24 = .ok (.goto 31, 3) := by decide +kernel
theorem dX11_screamers_27 : decode cX11_screamers 27 = .ok (.iload_n 2, 1) := by decide +kernel
theorem dX11_screamers_28 : decode cX11_screamers 28 = .ok (.aload_n 0, 1) := by decide +kernel
theorem dX11_screamers_29 : decode cX11_screamers 29 = .ok (.iload_n 3, 1) := by decide +kernel
theorem dX11_screamers_30 : decode cX11_screamers 30 = .ok (.invokevirtual 367, 3) := by decide +kernel
theorem dX11_screamers_33 : decode cX11_screamers 33 = .ok (.iconst (-1), 1) := by decide +kernel
theorem dX11_screamers_34 : decode cX11_screamers 34 = .ok (.if_icmp .eq 9, 3) := by decide +kernel
theorem dX11_screamers_37 : decode cX11_screamers 37 = .ok (.iconst 1, 1) := by decide +kernel
theorem dX11_screamers_38 : decode cX11_screamers 38 = .ok (.iload_n 3, 1) := by decide +kernel
theorem dX11_screamers_39 : decode cX11_screamers 39 = .ok (.ishl, 1) := by decide +kernel
theorem dX11_screamers_40 : decode cX11_screamers 40 = .ok (.goto 4, 3) := by decide +kernel
theorem dX11_screamers_43 : decode cX11_screamers 43 = .ok (.iconst 0, 1) := by decide +kernel
theorem dX11_screamers_44 : decode cX11_screamers 44 = .ok (.ior, 1) := by decide +kernel
theorem dX11_screamers_45 : decode cX11_screamers 45 = .ok (.istore_n 2, 1) := by decide +kernel
theorem dX11_screamers_46 : decode cX11_screamers 46 = .ok (.iload_n 1, 1) := by decide +kernel
theorem dX11_screamers_47 : decode cX11_screamers 47 = .ok (.ifCond .eq 8, 3) := by decide +kernel
theorem dX11_screamers_50 : decode cX11_screamers 50 = .ok (.aload_n 0, 1) := by decide +kernel
theorem dX11_screamers_51 : decode cX11_screamers 51 = .ok (.iload_n 3, 1) := by decide +kernel
theorem dX11_screamers_52 : decode cX11_screamers 52 = .ok (.invokevirtual 361, 3) := by decide +kernel
theorem dX11_screamers_55 : decode cX11_screamers 55 = .ok (.iinc 3 1, 3) := by decide +kernel
theorem dX11_screamers_58 : decode cX11_screamers 58 = .ok (.goto (-50), 3) := by decide +kernel
theorem dX11_screamers_61 : decode cX11_screamers 61 = .ok (.aload_n 0, 1) := by decide +kernel
theorem dX11_screamers_62 : decode cX11_screamers 62 = .ok (.invokevirtual 373, 3) := by decide +kernel
theorem dX11_screamers_65 : decode cX11_screamers 65 = .ok (.iload_n 2, 1) := by decide +kernel
theorem dX11_screamers_66 : decode cX11_screamers 66 = .ok (.ireturn, 1) := by decide +kernel
theorem dX11_all_0 : decode cX11_all 0 = .ok (.aload_n 0, 1) := by decide +kernel
theorem dX11_all_1 : decode cX11_all 1 = .ok (.iconst 0, 1) := by decide +kernel
theorem dX11_all_2 : decode cX11_all 2 = .ok (.putfield 3, 3) := by decide +kernel
theorem dX11_all_5 : decode cX11_all 5 = .ok (.aload_n 0, 1) := by decide +kernel
theorem dX11_all_6 : decode cX11_all 6 = .ok (.iload_n 1, 1) := by decide +kernel
theorem dX11_all_7 : decode cX11_all 7 = .ok (.invokevirtual 376, 3) := by decide +kernel
theorem dX11_all_10 : decode cX11_all 10 = .ok (.ireturn, 1) := by decide +kernel
theorem dX11_lasts_0 : decode cX11_lasts 0 = .ok (.aload_n 0, 1) := by decide +kernel
theorem dX11_lasts_1 : decode cX11_lasts 1 = .ok (.iconst 0, 1) := by decide +kernel
theorem dX11_lasts_2 : decode cX11_lasts 2 = .ok (.putfield 3, 3) := by decide +kernel
theorem dX11_lasts_5 : decode cX11_lasts 5 = .ok (.aload_n 0, 1) := by decide +kernel
theorem dX11_lasts_6 : decode cX11_lasts 6 = .ok (.aload_n 0, 1) := by decide +kernel
theorem dX11_lasts_7 : decode cX11_lasts 7 = .ok (.iload_n 1, 1) := by decide +kernel
theorem dX11_lasts_8 : decode cX11_lasts 8 = .ok (.invokevirtual 294, 3) := by decide +kernel
theorem dX11_lasts_11 : decode cX11_lasts 11 = .ok (.ifCond .ne 11, 3) := by decide +kernel
theorem dX11_lasts_14 : decode cX11_lasts 14 = .ok (.aload_n 0, 1) := by decide +kernel
theorem dX11_lasts_15 : decode cX11_lasts 15 = .ok (.iload_n 2, 1) := by decide +kernel
theorem dX11_lasts_16 : decode cX11_lasts 16 = .ok (.invokevirtual 300, 3) := by decide +kernel
theorem dX11_lasts_19 : decode cX11_lasts 19 = .ok (.ifCond .eq 7, 3) := by decide +kernel
theorem dX11_lasts_22 : decode cX11_lasts 22 = .ok (.iconst 1, 1) := by decide +kernel
theorem dX11_lasts_23 : decode cX11_lasts 23 = .ok (.goto 4, 3) := by decide +kernel
theorem dX11_lasts_26 : decode cX11_lasts 26 = .ok (.iconst 0, 1) := by decide +kernel
theorem dX11_lasts_27 : decode cX11_lasts 27 = .ok (.iconst 1, 1) := by decide +kernel
theorem dX11_lasts_28 : decode cX11_lasts 28 = .ok (.invokevirtual 262, 3) := by decide +kernel
theorem dX11_lasts_31 : decode cX11_lasts 31 = .ok (.ifCond .eq 5, 3) := by decide +kernel
theorem dX11_lasts_34 : decode cX11_lasts 34 = .ok (.iconst 0, 1) := by decide +kernel
theorem dX11_lasts_35 : decode cX11_lasts 35 = .ok (.ireturn, 1) := by decide +kernel
theorem dX11_lasts_36 : decode cX11_lasts 36 = .ok (.iconst (-1), 1) := by decide +kernel
theorem dX11_lasts_37 : decode cX11_lasts 37 = .ok (.istore_n 3, 1) := by decide +kernel
theorem dX11_lasts_38 : decode cX11_lasts 38 = .ok (.aload_n 0, 1) := by decide +kernel
theorem dX11_lasts_39 : decode cX11_lasts 39 = .ok (.invokevirtual 370, 3) := by decide +kernel
theorem dX11_lasts_42 : decode cX11_lasts 42 = .ok (.iconst 0, 1) := by decide +kernel
theorem dX11_lasts_43 : decode cX11_lasts 43 = .ok (.istore 4, 2) := by decide +kernel
theorem dX11_lasts_45 : decode cX11_lasts 45 = .ok (.iload 4, 2) := by decide +kernel
theorem dX11_lasts_47 : decode cX11_lasts 47 = .ok (.bipush 60, 2) := by decide +kernel
theorem dX11_lasts_49 : decode cX11_lasts 49 = .ok (.if_icmp .gt 43, 3) := by decide +kernel
theorem dX11_lasts_52 : decode cX11_lasts 52 = .ok (.iload_n 3, 1) := by decide +kernel
theorem dX11_lasts_53 : decode cX11_lasts 53 = .ok (.iconst (-1), 1) := by decide +kernel
theorem dX11_lasts_54 : decode cX11_lasts 54 = .ok (.if_icmp .ne 38, 3) := by decide +kernel
theorem dX11_lasts_57 : decode cX11_lasts 57 = .ok (.aload_n 0, 1) := by decide +kernel
theorem dX11_lasts_58 : decode cX11_lasts 58 = .ok (.iload_n 1, 1) := by decide +kernel
theorem dX11_lasts_59 : decode cX11_lasts 59 = .ok (.iconst 2, 1) := by decide +kernel
theorem dX11_lasts_60 : decode cX11_lasts 60 = .ok (.invokevirtual 74, 3) := by decide +kernel
theorem dX11_lasts_63 : decode cX11_lasts 63 = .ok (.bipush 50, 2) := by decide +kernel
theorem dX11_lasts_65 : decode cX11_lasts 65 = .ok (.if_icmp .lt 8, 3) := by decide +kernel
theorem dX11_lasts_68 : decode cX11_lasts 68 = .ok (.iload 4, 2) := by decide +kernel
theorem dX11_lasts_70 : decode cX11_lasts 70 = .ok (.goto 4, 3) := by decide +kernel
theorem dX11_lasts_73 : decode cX11_lasts 73 = .ok (.iconst (-1), 1) := by decide +kernel
theorem dX11_lasts_74 : decode cX11_lasts 74 = .ok (.istore_n 3, 1) := by decide +kernel
theorem dX11_lasts_75 : decode cX11_lasts 75 = .ok (.aload_n 0, 1) := by decide +kernel
theorem dX11_lasts_76 : decode cX11_lasts 76 = .ok (.iload_n 2, 1) := by decide +kernel
theorem dX11_lasts_77 : decode cX11_lasts 77 = .ok (.invokevirtual 367, 3) := by decide +kernel
theorem dX11_lasts_80 : decode cX11_lasts 80 = .ok (.pop, 1) := by decide +kernel
theorem dX11_lasts_81 : decode cX11_lasts 81 = .ok (.aload_n 0, 1) := by decide +kernel
theorem dX11_lasts_82 : decode cX11_lasts 82 = .ok (.iload_n 2, 1) := by decide +kernel
theorem dX11_lasts_83 : decode cX11_lasts 83 = .ok (.invokevirtual 361, 3) := by decide +kernel
theorem dX11_lasts_86 : decode cX11_lasts 86 = .ok (.iinc 4 1, 3) := by decide +kernel
theorem dX11_lasts_89 : decode cX11_lasts 89 = .ok (.goto (-44), 3) := by decide +kernel
theorem dX11_lasts_92 : decode cX11_lasts 92 = .ok (.aload_n 0, 1) := by decide +kernel
theorem dX11_lasts_93 : decode cX11_lasts 93 = .ok (.invokevirtual 373, 3) := by decide +kernel
theorem dX11_lasts_96 : decode cX11_lasts 96 = .ok (.iload_n 3, 1) := by decide +kernel
theorem dX11_lasts_97 : decode cX11_lasts 97 = .ok (.ireturn, 1) := by decide +kernel
theorem dX11_carStep_0 : decode cX11_carStep 0 = .ok (.aload_n 0, 1) := by decide +kernel
theorem dX11_carStep_1 : decode cX11_carStep 1 = .ok (.iload_n 1, 1) := by decide +kernel
theorem dX11_carStep_2 : decode cX11_carStep 2 = .ok (.invokevirtual 303, 3) := by decide +kernel
theorem dX11_carStep_5 : decode cX11_carStep 5 = .ok (.aload_n 0, 1) := by decide +kernel
theorem dX11_carStep_6 : decode cX11_carStep 6 = .ok (.iload_n 2, 1) := by decide +kernel
theorem dX11_carStep_7 : decode cX11_carStep 7 = .ok (.invokevirtual 160, 3) := by decide +kernel
theorem dX11_carStep_10 : decode cX11_carStep 10 = .ok (.istore 4, 2) := by decide +kernel
theorem dX11_carStep_12 : decode cX11_carStep 12 = .ok (.iload 4, 2) := by decide +kernel
theorem dX11_carStep_14 : decode cX11_carStep 14 = .ok (.iconst (-1), 1) := by decide +kernel
theorem dX11_carStep_15 : decode cX11_carStep 15 = .ok (.if_icmp .ne 11, 3) := by decide +kernel
theorem dX11_carStep_18 : decode cX11_carStep 18 = .ok (.aload_n 0, 1) := by decide +kernel
theorem dX11_carStep_19 : decode cX11_carStep 19 = .ok (.iload_n 3, 1) := by decide +kernel
theorem dX11_carStep_20 : decode cX11_carStep 20 = .ok (.invokevirtual 331, 3) := by decide +kernel
theorem dX11_carStep_23 : decode cX11_carStep 23 = .ok (.goto 14, 3) := by decide +kernel
theorem dX11_carStep_26 : decode cX11_carStep 26 = .ok (.iload_n 3, 1) := by decide +kernel
theorem dX11_carStep_27 : decode cX11_carStep 27 = .ok (.aload_n 0, 1) := by decide +kernel
theorem dX11_carStep_28 : decode cX11_carStep 28 = .ok (.iload 4, 2) := by decide +kernel
theorem dX11_carStep_30 : decode cX11_carStep 30 = .ok (.iload_n 3, 1) := by decide +kernel
theorem dX11_carStep_31 : decode cX11_carStep 31 = .ok (.invokevirtual 310, 3) := by decide +kernel
theorem dX11_carStep_34 : decode cX11_carStep 34 = .ok (.iadd, 1) := by decide +kernel
theorem dX11_carStep_35 : decode cX11_carStep 35 = .ok (.iconst 1, 1) := by decide +kernel
theorem dX11_carStep_36 : decode cX11_carStep 36 = .ok (.iadd, 1) := by decide +kernel
theorem dX11_carStep_37 : decode cX11_carStep 37 = .ok (.ireturn, 1) := by decide +kernel
theorem dX11_screams_0 : decode cX11_screams 0 = .ok (.iload_n 2, 1) := by decide +kernel
theorem dX11_screams_1 : decode cX11_screams 1 = .ok (.aload_n 0, 1) := by decide +kernel
theorem dX11_screams_2 : decode cX11_screams 2 = .ok (.iload_n 1, 1) := by decide +kernel
theorem dX11_screams_3 : decode cX11_screams 3 = .ok (.iconst 1, 1) := by decide +kernel
theorem dX11_screams_4 : decode cX11_screams 4 = .ok (.invokevirtual 80, 3) := by decide +kernel
theorem dX11_screams_7 : decode cX11_screams 7 = .ok (.if_icmp .le 7, 3) := by decide +kernel
theorem dX11_screams_10 : decode cX11_screams 10 = .ok (.iconst 1, 1) := by decide +kernel
theorem dX11_screams_11 : decode cX11_screams 11 = .ok (.goto 4, 3) := by decide +kernel
theorem dX11_screams_14 : decode cX11_screams 14 = .ok (.iconst 0, 1) := by decide +kernel
theorem dX11_screams_15 : decode cX11_screams 15 = .ok (.ireturn, 1) := by decide +kernel
theorem dX11_car_0 : decode cX11_car 0 = .ok (.aload_n 0, 1) := by decide +kernel
theorem dX11_car_1 : decode cX11_car 1 = .ok (.iconst 0, 1) := by decide +kernel
theorem dX11_car_2 : decode cX11_car 2 = .ok (.putfield 3, 3) := by decide +kernel
theorem dX11_car_5 : decode cX11_car 5 = .ok (.aload_n 0, 1) := by decide +kernel
theorem dX11_car_6 : decode cX11_car 6 = .ok (.aload_n 0, 1) := by decide +kernel
theorem dX11_car_7 : decode cX11_car 7 = .ok (.iload_n 1, 1) := by decide +kernel
theorem dX11_car_8 : decode cX11_car 8 = .ok (.invokevirtual 300, 3) := by decide +kernel
theorem dX11_car_11 : decode cX11_car 11 = .ok (.ifCond .ne 11, 3) := by decide +kernel
theorem dX11_car_14 : decode cX11_car 14 = .ok (.aload_n 0, 1) := by decide +kernel
theorem dX11_car_15 : decode cX11_car 15 = .ok (.iload_n 2, 1) := by decide +kernel
theorem dX11_car_16 : decode cX11_car 16 = .ok (.invokevirtual 300, 3) := by decide +kernel
theorem dX11_car_19 : decode cX11_car 19 = .ok (.ifCond .eq 7, 3) := by decide +kernel
theorem dX11_car_22 : decode cX11_car 22 = .ok (.iconst 1, 1) := by decide +kernel
theorem dX11_car_23 : decode cX11_car 23 = .ok (.goto 4, 3) := by decide +kernel
theorem dX11_car_26 : decode cX11_car 26 = .ok (.iconst 0, 1) := by decide +kernel
theorem dX11_car_27 : decode cX11_car 27 = .ok (.iconst 1, 1) := by decide +kernel
theorem dX11_car_28 : decode cX11_car 28 = .ok (.invokevirtual 262, 3) := by decide +kernel
theorem dX11_car_31 : decode cX11_car 31 = .ok (.ifCond .ne 21, 3) := by decide +kernel
theorem dX11_car_34 : decode cX11_car 34 = .ok (.aload_n 0, 1) := by decide +kernel
theorem dX11_car_35 : decode cX11_car 35 = .ok (.iload_n 1, 1) := by decide +kernel
theorem dX11_car_36 : decode cX11_car 36 = .ok (.iload_n 2, 1) := by decide +kernel
theorem dX11_car_37 : decode cX11_car 37 = .ok (.if_icmp .ne 7, 3) := by decide +kernel
theorem dX11_car_40 : decode cX11_car 40 = .ok (.iconst 1, 1) := by decide +kernel
theorem dX11_car_41 : decode cX11_car 41 = .ok (.goto 4, 3) := by decide +kernel
theorem dX11_car_44 : decode cX11_car 44 = .ok (.iconst 0, 1) := by decide +kernel
theorem dX11_car_45 : decode cX11_car 45 = .ok (.iconst 2, 1) := by decide +kernel
theorem dX11_car_46 : decode cX11_car 46 = .ok (.invokevirtual 262, 3) := by decide +kernel
theorem dX11_car_49 : decode cX11_car 49 = .ok (.ifCond .eq 5, 3) := by decide +kernel
theorem dX11_car_52 : decode cX11_car 52 = .ok (.iconst 0, 1) := by decide +kernel
theorem dX11_car_53 : decode cX11_car 53 = .ok (.ireturn, 1) := by decide +kernel
theorem dX11_car_54 : decode cX11_car 54 = .ok (.iconst 0, 1) := by decide +kernel
theorem dX11_car_55 : decode cX11_car 55 = .ok (.istore_n 3, 1) := by decide +kernel
theorem dX11_car_56 : decode cX11_car 56 = .ok (.aload_n 0, 1) := by decide +kernel
theorem dX11_car_57 : decode cX11_car 57 = .ok (.iconst 0, 1) := by decide +kernel
theorem dX11_car_58 : decode cX11_car 58 = .ok (.putfield 379, 3) := by decide +kernel
theorem dX11_car_61 : decode cX11_car 61 = .ok (.aload_n 0, 1) := by decide +kernel
theorem dX11_car_62 : decode cX11_car 62 = .ok (.iconst 0, 1) := by decide +kernel
theorem dX11_car_63 : decode cX11_car 63 = .ok (.putfield 382, 3) := by decide +kernel
theorem dX11_car_66 : decode cX11_car 66 = .ok (.iconst 0, 1) := by decide +kernel
theorem dX11_car_67 : decode cX11_car 67 = .ok (.istore 4, 2) := by decide +kernel
theorem dX11_car_69 : decode cX11_car 69 = .ok (.iload 4, 2) := by decide +kernel
theorem dX11_car_71 : decode cX11_car 71 = .ok (.bipush 10, 2) := by decide +kernel
theorem dX11_car_73 : decode cX11_car 73 = .ok (.if_icmp .ge 211, 3) := by decide +kernel
theorem dX11_car_76 : decode cX11_car 76 = .ok (.iload_n 3, 1) := by decide +kernel
theorem dX11_car_77 : decode cX11_car 77 = .ok (.istore 5, 2) := by decide +kernel
theorem dX11_car_79 : decode cX11_car 79 = .ok (.iload 5, 2) := by decide +kernel
theorem dX11_car_81 : decode cX11_car 81 = .ok (.iconst 0, 1) := by decide +kernel
theorem dX11_car_82 : decode cX11_car 82 = .ok (.invokestatic 137, 3) := by decide +kernel
theorem dX11_car_85 : decode cX11_car 85 = .ok (.ifCond .ne 18, 3) := by decide +kernel
theorem dX11_car_88 : decode cX11_car 88 = .ok (.aload_n 0, 1) := by decide +kernel
theorem dX11_car_89 : decode cX11_car 89 = .ok (.aload_n 0, 1) := by decide +kernel
theorem dX11_car_90 : decode cX11_car 90 = .ok (.iload_n 1, 1) := by decide +kernel
theorem dX11_car_91 : decode cX11_car 91 = .ok (.iload 4, 2) := by decide +kernel
theorem dX11_car_93 : decode cX11_car 93 = .ok (.aload_n 0, 1) := by decide +kernel
theorem dX11_car_94 : decode cX11_car 94 = .ok (.getfield 379, 3) := by decide +kernel
theorem dX11_car_97 : decode cX11_car 97 = .ok (.invokevirtual 385, 3) := by decide +kernel
theorem dX11_car_100 : decode cX11_car 100 = .ok (.putfield 379, 3) := by decide +kernel
theorem dX11_car_103 : decode cX11_car 103 = .ok (.iload 5, 2) := by decide +kernel
theorem dX11_car_105 : decode cX11_car 105 = .ok (.iconst 1, 1) := by decide +kernel
theorem dX11_car_106 : decode cX11_car 106 = .ok (.invokestatic 137, 3) := by decide +kernel
theorem dX11_car_109 : decode cX11_car 109 = .ok (.ifCond .ne 18, 3) := by decide +kernel
theorem dX11_car_112 : decode cX11_car 112 = .ok (.aload_n 0, 1) := by decide +kernel
theorem dX11_car_113 : decode cX11_car 113 = .ok (.aload_n 0, 1) := by decide +kernel
theorem dX11_car_114 : decode cX11_car 114 = .ok (.iload_n 2, 1) := by decide +kernel
theorem dX11_car_115 : decode cX11_car 115 = .ok (.iload 4, 2) := by decide +kernel
theorem dX11_car_117 : decode cX11_car 117 = .ok (.aload_n 0, 1) := by decide +kernel
theorem dX11_car_118 : decode cX11_car 118 = .ok (.getfield 382, 3) := by decide +kernel
theorem dX11_car_121 : decode cX11_car 121 = .ok (.invokevirtual 385, 3) := by decide +kernel
theorem dX11_car_124 : decode cX11_car 124 = .ok (.putfield 382, 3) := by decide +kernel
theorem dX11_car_127 : decode cX11_car 127 = .ok (.iload_n 3, 1) := by decide +kernel
theorem dX11_car_128 : decode cX11_car 128 = .ok (.iload 5, 2) := by decide +kernel
theorem dX11_car_130 : decode cX11_car 130 = .ok (.iconst 0, 1) := by decide +kernel
theorem dX11_car_131 : decode cX11_car 131 = .ok (.invokestatic 137, 3) := by decide +kernel
theorem dX11_car_134 : decode cX11_car 134 = .ok (.ifCond .ne 19, 3) := by decide +kernel
theorem dX11_car_137 : decode cX11_car 137 = .ok (.aload_n 0, 1) := by decide +kernel
theorem dX11_car_138 : decode cX11_car 138 = .ok (.iload_n 1, 1) := by decide +kernel
theorem dX11_car_139 : decode cX11_car 139 = .ok (.aload_n 0, 1) := by decide +kernel
theorem dX11_car_140 : decode cX11_car 140 = .ok (.getfield 379, 3) := by decide +kernel
theorem dX11_car_143 : decode cX11_car 143 = .ok (.invokevirtual 389, 3) := by decide +kernel
theorem dX11_car_146 : decode cX11_car 146 = .ok (.ifCond .eq 7, 3) := by decide +kernel
theorem dX11_car_149 : decode cX11_car 149 = .ok (.iconst 1, 1) := by decide +kernel
theorem dX11_car_150 : decode cX11_car 150 = .ok (.goto 4, 3) := by decide +kernel
theorem dX11_car_153 : decode cX11_car 153 = .ok (.iconst 0, 1) := by decide +kernel
theorem dX11_car_154 : decode cX11_car 154 = .ok (.iload 5, 2) := by decide +kernel
theorem dX11_car_156 : decode cX11_car 156 = .ok (.iconst 1, 1) := by decide +kernel
theorem dX11_car_157 : decode cX11_car 157 = .ok (.invokestatic 137, 3) := by decide +kernel
theorem dX11_car_160 : decode cX11_car 160 = .ok (.ifCond .ne 19, 3) := by decide +kernel
theorem dX11_car_163 : decode cX11_car 163 = .ok (.aload_n 0, 1) := by decide +kernel
theorem dX11_car_164 : decode cX11_car 164 = .ok (.iload_n 2, 1) := by decide +kernel
theorem dX11_car_165 : decode cX11_car 165 = .ok (.aload_n 0, 1) := by decide +kernel
theorem dX11_car_166 : decode cX11_car 166 = .ok (.getfield 382, 3) := by decide +kernel
theorem dX11_car_169 : decode cX11_car 169 = .ok (.invokevirtual 389, 3) := by decide +kernel
theorem dX11_car_172 : decode cX11_car 172 = .ok (.ifCond .eq 7, 3) := by decide +kernel
theorem dX11_car_175 : decode cX11_car 175 = .ok (.iconst 2, 1) := by decide +kernel
theorem dX11_car_176 : decode cX11_car 176 = .ok (.goto 4, 3) := by decide +kernel
theorem dX11_car_179 : decode cX11_car 179 = .ok (.iconst 0, 1) := by decide +kernel
theorem dX11_car_180 : decode cX11_car 180 = .ok (.ior, 1) := by decide +kernel
theorem dX11_car_181 : decode cX11_car 181 = .ok (.ior, 1) := by decide +kernel
theorem dX11_car_182 : decode cX11_car 182 = .ok (.istore_n 3, 1) := by decide +kernel
theorem dX11_car_183 : decode cX11_car 183 = .ok (.iload 5, 2) := by decide +kernel
theorem dX11_car_185 : decode cX11_car 185 = .ok (.ifCond .ne 93, 3) := by decide +kernel
theorem dX11_car_188 : decode cX11_car 188 = .ok (.iload_n 3, 1) := by decide +kernel
theorem dX11_car_189 : decode cX11_car 189 = .ok (.ifCond .eq 89, 3) := by decide +kernel
theorem dX11_car_192 : decode cX11_car 192 = .ok (.iload_n 3, 1) := by decide +kernel
theorem dX11_car_193 : decode cX11_car 193 = .ok (.iconst 3, 1) := by decide +kernel
theorem dX11_car_194 : decode cX11_car 194 = .ok (.if_icmp .ne 6, 3) := by decide +kernel
theorem dX11_car_197 : decode cX11_car 197 = .ok (.goto 81, 3) := by decide +kernel
theorem dX11_car_200 : decode cX11_car 200 = .ok (.iload_n 3, 1) := by decide +kernel
theorem dX11_car_201 : decode cX11_car 201 = .ok (.iconst 1, 1) := by decide +kernel
theorem dX11_car_202 : decode cX11_car 202 = .ok (.if_icmp .ne 22, 3) := by decide +kernel
theorem dX11_car_205 : decode cX11_car 205 = .ok (.aload_n 0, 1) := by decide +kernel
theorem dX11_car_206 : decode cX11_car 206 = .ok (.dup, 1) := by decide +kernel
theorem dX11_car_207 : decode cX11_car 207 = .ok (.getfield 382, 3) := by decide +kernel
theorem dX11_car_210 : decode cX11_car 210 = .ok (.aload_n 0, 1) := by decide +kernel
theorem dX11_car_211 : decode cX11_car 211 = .ok (.getfield 13, 3) := by decide +kernel
theorem dX11_car_214 : decode cX11_car 214 = .ok (.bipush 6, 2) := by decide +kernel
theorem dX11_car_216 : decode cX11_car 216 = .ok (.iaload, 1) := by decide +kernel
theorem dX11_car_217 : decode cX11_car 217 = .ok (.iadd, 1) := by decide +kernel
theorem dX11_car_218 : decode cX11_car 218 = .ok (.putfield 382, 3) := by decide +kernel
theorem dX11_car_221 : decode cX11_car 221 = .ok (.goto 19, 3) := by decide +kernel
theorem dX11_car_224 : decode cX11_car 224 = .ok (.aload_n 0, 1) := by decide +kernel
theorem dX11_car_225 : decode cX11_car 225 = .ok (.dup, 1) := by decide +kernel
theorem dX11_car_226 : decode cX11_car 226 = .ok (.getfield 379, 3) := by decide +kernel
theorem dX11_car_229 : decode cX11_car 229 = .ok (.aload_n 0, 1) := by decide +kernel
theorem dX11_car_230 : decode cX11_car 230 = .ok (.getfield 13, 3) := by decide +kernel
theorem dX11_car_233 : decode cX11_car 233 = .ok (.bipush 6, 2) := by decide +kernel
theorem dX11_car_235 : decode cX11_car 235 = .ok (.iaload, 1) := by decide +kernel
theorem dX11_car_236 : decode cX11_car 236 = .ok (.iadd, 1) := by decide +kernel
theorem dX11_car_237 : decode cX11_car 237 = .ok (.putfield 379, 3) := by decide +kernel
theorem dX11_car_240 : decode cX11_car 240 = .ok (.iload_n 3, 1) := by decide +kernel
theorem dX11_car_241 : decode cX11_car 241 = .ok (.aload_n 0, 1) := by decide +kernel
theorem dX11_car_242 : decode cX11_car 242 = .ok (.iload_n 1, 1) := by decide +kernel
theorem dX11_car_243 : decode cX11_car 243 = .ok (.aload_n 0, 1) := by decide +kernel
theorem dX11_car_244 : decode cX11_car 244 = .ok (.getfield 379, 3) := by decide +kernel
theorem dX11_car_247 : decode cX11_car 247 = .ok (.invokevirtual 389, 3) := by decide +kernel
theorem dX11_car_250 : decode cX11_car 250 = .ok (.ifCond .eq 7, 3) := by decide +kernel
theorem dX11_car_253 : decode cX11_car 253 = .ok (.iconst 1, 1) := by decide +kernel
theorem dX11_car_254 : decode cX11_car 254 = .ok (.goto 4, 3) := by decide +kernel
theorem dX11_car_257 : decode cX11_car 257 = .ok (.iconst 0, 1) := by decide +kernel
theorem dX11_car_258 : decode cX11_car 258 = .ok (.aload_n 0, 1) := by decide +kernel
theorem dX11_car_259 : decode cX11_car 259 = .ok (.iload_n 2, 1) := by decide +kernel
theorem dX11_car_260 : decode cX11_car 260 = .ok (.aload_n 0, 1) := by decide +kernel
theorem dX11_car_261 : decode cX11_car 261 = .ok (.getfield 382, 3) := by decide +kernel
theorem dX11_car_264 : decode cX11_car 264 = .ok (.invokevirtual 389, 3) := by decide +kernel
theorem dX11_car_267 : decode cX11_car 267 = .ok (.ifCond .eq 7, 3) := by decide +kernel
theorem dX11_car_270 : decode cX11_car 270 = .ok (.iconst 2, 1) := by decide +kernel
theorem dX11_car_271 : decode cX11_car 271 = .ok (.goto 4, 3) := by decide +kernel
theorem dX11_car_274 : decode cX11_car 274 = .ok (.iconst 0, 1) := by decide +kernel
theorem dX11_car_275 : decode cX11_car 275 = .ok (.ior, 1) := by decide +kernel
theorem dX11_car_276 : decode cX11_car 276 = .ok (.ior, 1) := by decide +kernel
theorem dX11_car_277 : decode cX11_car 277 = .ok (.istore_n 3, 1) := by decide +kernel
theorem dX11_car_278 : decode cX11_car 278 = .ok (.iinc 4 1, 3) := by decide +kernel
theorem dX11_car_281 : decode cX11_car 281 = .ok (.goto (-212), 3) := by decide +kernel
theorem dX11_car_284 : decode cX11_car 284 = .ok (.iload_n 3, 1) := by decide +kernel
theorem dX11_car_285 : decode cX11_car 285 = .ok (.ireturn, 1) := by decide +kernel
theorem dX11_laysRows_0 : decode cX11_laysRows 0 = .ok (.aload_n 0, 1) := by decide +kernel
theorem dX11_laysRows_1 : decode cX11_laysRows 1 = .ok (.iload_n 1, 1) := by decide +kernel
theorem dX11_laysRows_2 : decode cX11_laysRows 2 = .ok (.invokevirtual 303, 3) := by decide +kernel
theorem dX11_laysRows_5 : decode cX11_laysRows 5 = .ok (.aload_n 0, 1) := by decide +kernel
theorem dX11_laysRows_6 : decode cX11_laysRows 6 = .ok (.iconst 1, 1) := by decide +kernel
theorem dX11_laysRows_7 : decode cX11_laysRows 7 = .ok (.putfield 391, 3) := by decide +kernel
theorem dX11_laysRows_10 : decode cX11_laysRows 10 = .ok (.iconst 0, 1) := by decide +kernel
theorem dX11_laysRows_11 : decode cX11_laysRows 11 = .ok (.istore_n 2, 1) := by decide +kernel
theorem dX11_laysRows_12 : decode cX11_laysRows 12 = .ok (.iload_n 2, 1) := by decide +kernel
theorem dX11_laysRows_13 : decode cX11_laysRows 13 = .ok (.aload_n 0, 1) := by decide +kernel
theorem dX11_laysRows_14 : decode cX11_laysRows 14 = .ok (.invokevirtual 83, 3) := by decide +kernel
theorem dX11_laysRows_17 : decode cX11_laysRows 17 = .ok (.if_icmp .ge 31, 3) := by decide +kernel
theorem dX11_laysRows_20 : decode cX11_laysRows 20 = .ok (.aload_n 0, 1) := by decide +kernel
theorem dX11_laysRows_21 : decode cX11_laysRows 21 = .ok (.dup, 1) := by decide +kernel
theorem dX11_laysRows_22 : decode cX11_laysRows 22 = .ok (.getfield 391, 3) := by decide +kernel
theorem dX11_laysRows_25 : decode cX11_laysRows 25 = .ok (.aload_n 0, 1) := by decide +kernel
theorem dX11_laysRows_26 : decode cX11_laysRows 26 = .ok (.iload_n 2, 1) := by decide +kernel
theorem dX11_laysRows_27 : decode cX11_laysRows 27 = .ok (.invokevirtual 94, 3) := by decide +kernel
theorem dX11_laysRows_30 : decode cX11_laysRows 30 = .ok (.ifCond .eq 7, 3) := by decide +kernel
theorem dX11_laysRows_33 : decode cX11_laysRows 33 = .ok (.iconst 3, 1) := by decide +kernel
theorem dX11_laysRows_34 : decode cX11_laysRows 34 = .ok (.goto 4, 3) := by decide +kernel
theorem dX11_laysRows_37 : decode cX11_laysRows 37 = .ok (.iconst 1, 1) := by decide +kernel
theorem dX11_laysRows_38 : decode cX11_laysRows 38 = .ok (.imul, 1) := by decide +kernel
theorem dX11_laysRows_39 : decode cX11_laysRows 39 = .ok (.putfield 391, 3) := by decide +kernel
theorem dX11_laysRows_42 : decode cX11_laysRows 42 = .ok (.iinc 2 1, 3) := by decide +kernel
theorem dX11_laysRows_45 : decode cX11_laysRows 45 = .ok (.goto (-33), 3) := by decide +kernel
theorem dX11_laysRows_48 : decode cX11_laysRows 48 = .ok (.iconst 0, 1) := by decide +kernel
theorem dX11_laysRows_49 : decode cX11_laysRows 49 = .ok (.istore_n 2, 1) := by decide +kernel
theorem dX11_laysRows_50 : decode cX11_laysRows 50 = .ok (.iload_n 2, 1) := by decide +kernel
theorem dX11_laysRows_51 : decode cX11_laysRows 51 = .ok (.bipush 60, 2) := by decide +kernel
theorem dX11_laysRows_53 : decode cX11_laysRows 53 = .ok (.if_icmp .gt 27, 3) := by decide +kernel
theorem dX11_laysRows_56 : decode cX11_laysRows 56 = .ok (.aload_n 0, 1) := by decide +kernel
theorem dX11_laysRows_57 : decode cX11_laysRows 57 = .ok (.getfield 51, 3) := by decide +kernel
theorem dX11_laysRows_60 : decode cX11_laysRows 60 = .ok (.iload_n 2, 1) := by decide +kernel
theorem dX11_laysRows_61 : decode cX11_laysRows 61 = .ok (.iload_n 2, 1) := by decide +kernel
theorem dX11_laysRows_62 : decode cX11_laysRows 62 = .ok (.ifCond .ne 10, 3) := by decide +kernel
theorem dX11_laysRows_65 : decode cX11_laysRows 65 = .ok (.aload_n 0, 1) := by decide +kernel
theorem dX11_laysRows_66 : decode cX11_laysRows 66 = .ok (.getfield 391, 3) := by decide +kernel
theorem dX11_laysRows_69 : decode cX11_laysRows 69 = .ok (.goto 4, 3) := by decide +kernel
theorem dX11_laysRows_72 : decode cX11_laysRows 72 = .ok (.iconst 0, 1) := by decide +kernel
theorem dX11_laysRows_73 : decode cX11_laysRows 73 = .ok (.iastore, 1) := by decide +kernel
theorem dX11_laysRows_74 : decode cX11_laysRows 74 = .ok (.iinc 2 1, 3) := by decide +kernel
theorem dX11_laysRows_77 : decode cX11_laysRows 77 = .ok (.goto (-27), 3) := by decide +kernel
theorem dX11_laysRows_80 : decode cX11_laysRows 80 = .ok (.iconst 0, 1) := by decide +kernel
theorem dX11_laysRows_81 : decode cX11_laysRows 81 = .ok (.istore_n 2, 1) := by decide +kernel
theorem dX11_laysRows_82 : decode cX11_laysRows 82 = .ok (.iload_n 2, 1) := by decide +kernel
theorem dX11_laysRows_83 : decode cX11_laysRows 83 = .ok (.bipush 10, 2) := by decide +kernel
theorem dX11_laysRows_85 : decode cX11_laysRows 85 = .ok (.if_icmp .ge 14, 3) := by decide +kernel
theorem dX11_laysRows_88 : decode cX11_laysRows 88 = .ok (.aload_n 0, 1) := by decide +kernel
theorem dX11_laysRows_89 : decode cX11_laysRows 89 = .ok (.iload_n 2, 1) := by decide +kernel
theorem dX11_laysRows_90 : decode cX11_laysRows 90 = .ok (.invokevirtual 394, 3) := by decide +kernel
theorem dX11_laysRows_93 : decode cX11_laysRows 93 = .ok (.iinc 2 1, 3) := by decide +kernel
theorem dX11_laysRows_96 : decode cX11_laysRows 96 = .ok (.goto (-14), 3) := by decide +kernel
theorem dX11_laysRows_99 : decode cX11_laysRows 99 = .ok (.return_, 1) := by decide +kernel
theorem dX11_laysSlot_0 : decode cX11_laysSlot 0 = .ok (.aload_n 0, 1) := by decide +kernel
theorem dX11_laysSlot_1 : decode cX11_laysSlot 1 = .ok (.iload_n 1, 1) := by decide +kernel
theorem dX11_laysSlot_2 : decode cX11_laysSlot 2 = .ok (.invokevirtual 160, 3) := by decide +kernel
theorem dX11_laysSlot_5 : decode cX11_laysSlot 5 = .ok (.istore_n 2, 1) := by decide +kernel
theorem dX11_laysSlot_6 : decode cX11_laysSlot 6 = .ok (.aload_n 0, 1) := by decide +kernel
theorem dX11_laysSlot_7 : decode cX11_laysSlot 7 = .ok (.getfield 57, 3) := by decide +kernel
theorem dX11_laysSlot_10 : decode cX11_laysSlot 10 = .ok (.iload_n 1, 1) := by decide +kernel
theorem dX11_laysSlot_11 : decode cX11_laysSlot 11 = .ok (.iconst 0, 1) := by decide +kernel
theorem dX11_laysSlot_12 : decode cX11_laysSlot 12 = .ok (.iastore, 1) := by decide +kernel
theorem dX11_laysSlot_13 : decode cX11_laysSlot 13 = .ok (.iconst 0, 1) := by decide +kernel
theorem dX11_laysSlot_14 : decode cX11_laysSlot 14 = .ok (.istore_n 3, 1) := by decide +kernel
theorem dX11_laysSlot_15 : decode cX11_laysSlot 15 = .ok (.iload_n 3, 1) := by decide +kernel
theorem dX11_laysSlot_16 : decode cX11_laysSlot 16 = .ok (.bipush 60, 2) := by decide +kernel
theorem dX11_laysSlot_18 : decode cX11_laysSlot 18 = .ok (.if_icmp .gt 16, 3) := by decide +kernel
theorem dX11_laysSlot_21 : decode cX11_laysSlot 21 = .ok (.aload_n 0, 1) := by decide +kernel
theorem dX11_laysSlot_22 : decode cX11_laysSlot 22 = .ok (.getfield 54, 3) := by decide +kernel
theorem dX11_laysSlot_25 : decode cX11_laysSlot 25 = .ok (.iload_n 3, 1) := by decide +kernel
theorem dX11_laysSlot_26 : decode cX11_laysSlot 26 = .ok (.iconst 0, 1) := by decide +kernel
theorem dX11_laysSlot_27 : decode cX11_laysSlot 27 = .ok (.iastore, 1) := by decide +kernel
theorem dX11_laysSlot_28 : decode cX11_laysSlot 28 = .ok (.iinc 3 1, 3) := by decide +kernel
theorem dX11_laysSlot_31 : decode cX11_laysSlot 31 = .ok (.goto (-16), 3) := by decide +kernel
theorem dX11_laysSlot_34 : decode cX11_laysSlot 34 = .ok (.iconst 0, 1) := by decide +kernel
theorem dX11_laysSlot_35 : decode cX11_laysSlot 35 = .ok (.istore_n 3, 1) := by decide +kernel
theorem dX11_laysSlot_36 : decode cX11_laysSlot 36 = .ok (.iload_n 3, 1) := by decide +kernel
theorem dX11_laysSlot_37 : decode cX11_laysSlot 37 = .ok (.aload_n 0, 1) := by decide +kernel
theorem dX11_laysSlot_38 : decode cX11_laysSlot 38 = .ok (.getfield 268, 3) := by decide +kernel
theorem dX11_laysSlot_41 : decode cX11_laysSlot 41 = .ok (.if_icmp .gt 126, 3) := by decide +kernel
theorem dX11_laysSlot_44 : decode cX11_laysSlot 44 = .ok (.aload_n 0, 1) := by decide +kernel
theorem dX11_laysSlot_45 : decode cX11_laysSlot 45 = .ok (.getfield 51, 3) := by decide +kernel
theorem dX11_laysSlot_48 : decode cX11_laysSlot 48 = .ok (.iload_n 3, 1) := by decide +kernel
theorem dX11_laysSlot_49 : decode cX11_laysSlot 49 = .ok (.iaload, 1) := by decide +kernel
theorem dX11_laysSlot_50 : decode cX11_laysSlot 50 = .ok (.ifCond .ne 6, 3) := by decide +kernel
theorem dX11_laysSlot_53 : decode cX11_laysSlot 53 = .ok (.goto 108, 3) := by decide +kernel
theorem dX11_laysSlot_56 : decode cX11_laysSlot 56 = .ok (.iload_n 2, 1) := by decide +kernel
theorem dX11_laysSlot_57 : decode cX11_laysSlot 57 = .ok (.iconst (-1), 1) := by decide +kernel
theorem dX11_laysSlot_58 : decode cX11_laysSlot 58 = .ok (.if_icmp .ne 25, 3) := by decide +kernel
theorem dX11_laysSlot_61 : decode cX11_laysSlot 61 = .ok (.aload_n 0, 1) := by decide +kernel
theorem dX11_laysSlot_62 : decode cX11_laysSlot 62 = .ok (.getfield 54, 3) := by decide +kernel
theorem dX11_laysSlot_65 : decode cX11_laysSlot 65 = .ok (.aload_n 0, 1) := by decide +kernel
theorem dX11_laysSlot_66 : decode cX11_laysSlot 66 = .ok (.iload_n 3, 1) := by decide +kernel
theorem dX11_laysSlot_67 : decode cX11_laysSlot 67 = .ok (.invokevirtual 331, 3) := by decide +kernel
theorem dX11_laysSlot_70 : decode cX11_laysSlot 70 = .ok (.dup2, 1) := by decide +kernel
theorem dX11_laysSlot_71 : decode cX11_laysSlot 71 = .ok (.iaload, 1) := by decide +kernel
theorem dX11_laysSlot_72 : decode cX11_laysSlot 72 = .ok (.aload_n 0, 1) := by decide +kernel
theorem dX11_laysSlot_73 : decode cX11_laysSlot 73 = .ok (.getfield 51, 3) := by decide +kernel
theorem dX11_laysSlot_76 : decode cX11_laysSlot 76 = .ok (.iload_n 3, 1) := by decide +kernel
theorem dX11_laysSlot_77 : decode cX11_laysSlot 77 = .ok (.iaload, 1) := by decide +kernel
theorem dX11_laysSlot_78 : decode cX11_laysSlot 78 = .ok (.iadd, 1) := by decide +kernel
theorem dX11_laysSlot_79 : decode cX11_laysSlot 79 = .ok (.iastore, 1) := by decide +kernel
theorem dX11_laysSlot_80 : decode cX11_laysSlot 80 = .ok (.goto 81, 3) := by decide +kernel
theorem dX11_laysSlot_83 : decode cX11_laysSlot 83 = .ok (.iload_n 3, 1) := by decide +kernel
theorem dX11_laysSlot_84 : decode cX11_laysSlot 84 = .ok (.aload_n 0, 1) := by decide +kernel
theorem dX11_laysSlot_85 : decode cX11_laysSlot 85 = .ok (.iload_n 2, 1) := by decide +kernel
theorem dX11_laysSlot_86 : decode cX11_laysSlot 86 = .ok (.iload_n 3, 1) := by decide +kernel
theorem dX11_laysSlot_87 : decode cX11_laysSlot 87 = .ok (.invokevirtual 310, 3) := by decide +kernel
theorem dX11_laysSlot_90 : decode cX11_laysSlot 90 = .ok (.iadd, 1) := by decide +kernel
theorem dX11_laysSlot_91 : decode cX11_laysSlot 91 = .ok (.istore 4, 2) := by decide +kernel
theorem dX11_laysSlot_93 : decode cX11_laysSlot 93 = .ok (.iconst 0, 1) := by decide +kernel
theorem dX11_laysSlot_94 : decode cX11_laysSlot 94 = .ok (.istore 5, 2) := by decide +kernel
theorem dX11_laysSlot_96 : decode cX11_laysSlot 96 = .ok (.iload 5, 2) := by decide +kernel
theorem dX11_laysSlot_98 : decode cX11_laysSlot 98 = .ok (.iconst 3, 1) := by decide +kernel
theorem dX11_laysSlot_99 : decode cX11_laysSlot 99 = .ok (.if_icmp .ge 62, 3) := by decide +kernel
theorem dX11_laysSlot_102 : decode cX11_laysSlot 102 = .ok (.iload 4, 2) := by decide +kernel
theorem dX11_laysSlot_104 : decode cX11_laysSlot 104 = .ok (.iload 5, 2) := by decide +kernel
theorem dX11_laysSlot_106 : decode cX11_laysSlot 106 = .ok (.iadd, 1) := by decide +kernel
theorem dX11_laysSlot_107 : decode cX11_laysSlot 107 = .ok (.aload_n 0, 1) := by decide +kernel
theorem dX11_laysSlot_108 : decode cX11_laysSlot 108 = .ok (.getfield 268, 3) := by decide +kernel
theorem dX11_laysSlot_111 : decode cX11_laysSlot 111 = .ok (.if_icmp .le 23, 3) := by decide +kernel
theorem dX11_laysSlot_114 : decode cX11_laysSlot 114 = .ok (.aload_n 0, 1) := by decide +kernel
theorem dX11_laysSlot_115 : decode cX11_laysSlot 115 = .ok (.getfield 57, 3) := by decide +kernel
theorem dX11_laysSlot_118 : decode cX11_laysSlot 118 = .ok (.iload_n 1, 1) := by decide +kernel
theorem dX11_laysSlot_119 : decode cX11_laysSlot 119 = .ok (.dup2, 1) := by decide +kernel
theorem dX11_laysSlot_120 : decode cX11_laysSlot 120 = .ok (.iaload, 1) := by decide +kernel
theorem dX11_laysSlot_121 : decode cX11_laysSlot 121 = .ok (.aload_n 0, 1) := by decide +kernel
theorem dX11_laysSlot_122 : decode cX11_laysSlot 122 = .ok (.getfield 51, 3) := by decide +kernel
theorem dX11_laysSlot_125 : decode cX11_laysSlot 125 = .ok (.iload_n 3, 1) := by decide +kernel
theorem dX11_laysSlot_126 : decode cX11_laysSlot 126 = .ok (.iaload, 1) := by decide +kernel
theorem dX11_laysSlot_127 : decode cX11_laysSlot 127 = .ok (.iconst 3, 1) := by decide +kernel
theorem dX11_laysSlot_128 : decode cX11_laysSlot 128 = .ok (.idiv, 1) := by decide +kernel
theorem dX11_laysSlot_129 : decode cX11_laysSlot 129 = .ok (.iadd, 1) := by decide +kernel
theorem dX11_laysSlot_130 : decode cX11_laysSlot 130 = .ok (.iastore, 1) := by decide +kernel
theorem dX11_laysSlot_131 : decode cX11_laysSlot 131 = .ok (.goto 24, 3) := by decide +kernel
theorem dX11_laysSlot_134 : decode cX11_laysSlot 134 = .ok (.aload_n 0, 1) := by decide +kernel
theorem dX11_laysSlot_135 : decode cX11_laysSlot 135 = .ok (.getfield 54, 3) := by decide +kernel
theorem dX11_laysSlot_138 : decode cX11_laysSlot 138 = .ok (.iload 4, 2) := by decide +kernel
theorem dX11_laysSlot_140 : decode cX11_laysSlot 140 = .ok (.iload 5, 2) := by decide +kernel
theorem dX11_laysSlot_142 : decode cX11_laysSlot 142 = .ok (.iadd, 1) := by decide +kernel
theorem dX11_laysSlot_143 : decode cX11_laysSlot 143 = .ok (.dup2, 1) := by decide +kernel
theorem dX11_laysSlot_144 : decode cX11_laysSlot 144 = .ok (.iaload, 1) := by decide +kernel
theorem dX11_laysSlot_145 : decode cX11_laysSlot 145 = .ok (.aload_n 0, 1) := by decide +kernel
theorem dX11_laysSlot_146 : decode cX11_laysSlot 146 = .ok (.getfield 51, 3) := by decide +kernel
theorem dX11_laysSlot_149 : decode cX11_laysSlot 149 = .ok (.iload_n 3, 1) := by decide +kernel
theorem dX11_laysSlot_150 : decode cX11_laysSlot 150 = .ok (.iaload, 1) := by decide +kernel
theorem dX11_laysSlot_151 : decode cX11_laysSlot 151 = .ok (.iconst 3, 1) := by decide +kernel
theorem dX11_laysSlot_152 : decode cX11_laysSlot 152 = .ok (.idiv, 1) := by decide +kernel
theorem dX11_laysSlot_153 : decode cX11_laysSlot 153 = .ok (.iadd, 1) := by decide +kernel
theorem dX11_laysSlot_154 : decode cX11_laysSlot 154 = .ok (.iastore, 1) := by decide +kernel
theorem dX11_laysSlot_155 : decode cX11_laysSlot 155 = .ok (.iinc 5 1, 3) := by decide +kernel
theorem dX11_laysSlot_158 : decode cX11_laysSlot 158 = .ok (.goto (-62), 3) := by decide +kernel
theorem dX11_laysSlot_161 : decode cX11_laysSlot 161 = .ok (.iinc 3 1, 3) := by decide +kernel
theorem dX11_laysSlot_164 : decode cX11_laysSlot 164 = .ok (.goto (-128), 3) := by decide +kernel
theorem dX11_laysSlot_167 : decode cX11_laysSlot 167 = .ok (.iconst 0, 1) := by decide +kernel
theorem dX11_laysSlot_168 : decode cX11_laysSlot 168 = .ok (.istore_n 3, 1) := by decide +kernel
theorem dX11_laysSlot_169 : decode cX11_laysSlot 169 = .ok (.iload_n 3, 1) := by decide +kernel
theorem dX11_laysSlot_170 : decode cX11_laysSlot 170 = .ok (.bipush 60, 2) := by decide +kernel
theorem dX11_laysSlot_172 : decode cX11_laysSlot 172 = .ok (.if_icmp .gt 21, 3) := by decide +kernel
theorem dX11_laysSlot_175 : decode cX11_laysSlot 175 = .ok (.aload_n 0, 1) := by decide +kernel
theorem dX11_laysSlot_176 : decode cX11_laysSlot 176 = .ok (.getfield 51, 3) := by decide +kernel
theorem dX11_laysSlot_179 : decode cX11_laysSlot 179 = .ok (.iload_n 3, 1) := by decide +kernel
theorem dX11_laysSlot_180 : decode cX11_laysSlot 180 = .ok (.aload_n 0, 1) := by decide +kernel
theorem dX11_laysSlot_181 : decode cX11_laysSlot 181 = .ok (.getfield 54, 3) := by decide +kernel
theorem dX11_laysSlot_184 : decode cX11_laysSlot 184 = .ok (.iload_n 3, 1) := by decide +kernel
theorem dX11_laysSlot_185 : decode cX11_laysSlot 185 = .ok (.iaload, 1) := by decide +kernel
theorem dX11_laysSlot_186 : decode cX11_laysSlot 186 = .ok (.iastore, 1) := by decide +kernel
theorem dX11_laysSlot_187 : decode cX11_laysSlot 187 = .ok (.iinc 3 1, 3) := by decide +kernel
theorem dX11_laysSlot_190 : decode cX11_laysSlot 190 = .ok (.goto (-21), 3) := by decide +kernel
theorem dX11_laysSlot_193 : decode cX11_laysSlot 193 = .ok (.return_, 1) := by decide +kernel
theorem dX11_waysOf_0 : decode cX11_waysOf 0 = .ok (.aload_n 0, 1) := by decide +kernel
theorem dX11_waysOf_1 : decode cX11_waysOf 1 = .ok (.iload_n 1, 1) := by decide +kernel
theorem dX11_waysOf_2 : decode cX11_waysOf 2 = .ok (.invokevirtual 397, 3) := by decide +kernel
theorem dX11_waysOf_5 : decode cX11_waysOf 5 = .ok (.iconst 0, 1) := by decide +kernel
theorem dX11_waysOf_6 : decode cX11_waysOf 6 = .ok (.istore_n 2, 1) := by decide +kernel
theorem dX11_waysOf_7 : decode cX11_waysOf 7 = .ok (.iconst 0, 1) := by decide +kernel
theorem dX11_waysOf_8 : decode cX11_waysOf 8 = .ok (.istore_n 3, 1) := by decide +kernel
theorem dX11_waysOf_9 : decode cX11_waysOf 9 = .ok (.iload_n 3, 1) := by decide +kernel
theorem dX11_waysOf_10 : decode cX11_waysOf 10 = .ok (.bipush 10, 2) := by decide +kernel
theorem dX11_waysOf_12 : decode cX11_waysOf 12 = .ok (.if_icmp .ge 18, 3) := by decide +kernel
theorem dX11_waysOf_15 : decode cX11_waysOf 15 = .ok (.iload_n 2, 1) := by decide +kernel
theorem dX11_waysOf_16 : decode cX11_waysOf 16 = .ok (.aload_n 0, 1) := by decide +kernel
theorem dX11_waysOf_17 : decode cX11_waysOf 17 = .ok (.getfield 57, 3) := by decide +kernel
theorem dX11_waysOf_20 : decode cX11_waysOf 20 = .ok (.iload_n 3, 1) := by decide +kernel
theorem dX11_waysOf_21 : decode cX11_waysOf 21 = .ok (.iaload, 1) := by decide +kernel
theorem dX11_waysOf_22 : decode cX11_waysOf 22 = .ok (.iadd, 1) := by decide +kernel
theorem dX11_waysOf_23 : decode cX11_waysOf 23 = .ok (.istore_n 2, 1) := by decide +kernel
theorem dX11_waysOf_24 : decode cX11_waysOf 24 = .ok (.iinc 3 1, 3) := by decide +kernel
theorem dX11_waysOf_27 : decode cX11_waysOf 27 = .ok (.goto (-18), 3) := by decide +kernel
theorem dX11_waysOf_30 : decode cX11_waysOf 30 = .ok (.iload_n 2, 1) := by decide +kernel
theorem dX11_waysOf_31 : decode cX11_waysOf 31 = .ok (.ireturn, 1) := by decide +kernel
theorem dX11_oddsOf_0 : decode cX11_oddsOf 0 = .ok (.ldc2_w 400, 3) := by decide +kernel
theorem dX11_oddsOf_3 : decode cX11_oddsOf 3 = .ok (.aload_n 0, 1) := by decide +kernel
theorem dX11_oddsOf_4 : decode cX11_oddsOf 4 = .ok (.iload_n 1, 1) := by decide +kernel
theorem dX11_oddsOf_5 : decode cX11_oddsOf 5 = .ok (.invokevirtual 402, 3) := by decide +kernel
theorem dX11_oddsOf_8 : decode cX11_oddsOf 8 = .ok (.i2l, 1) := by decide +kernel
theorem dX11_oddsOf_9 : decode cX11_oddsOf 9 = .ok (.lmul, 1) := by decide +kernel
theorem dX11_oddsOf_10 : decode cX11_oddsOf 10 = .ok (.aload_n 0, 1) := by decide +kernel
theorem dX11_oddsOf_11 : decode cX11_oddsOf 11 = .ok (.getfield 391, 3) := by decide +kernel
theorem dX11_oddsOf_14 : decode cX11_oddsOf 14 = .ok (.i2l, 1) := by decide +kernel
theorem dX11_oddsOf_15 : decode cX11_oddsOf 15 = .ok (.ldiv, 1) := by decide +kernel
theorem dX11_oddsOf_16 : decode cX11_oddsOf 16 = .ok (.l2i, 1) := by decide +kernel
theorem dX11_oddsOf_17 : decode cX11_oddsOf 17 = .ok (.ireturn, 1) := by decide +kernel
theorem dX11_ways_0 : decode cX11_ways 0 = .ok (.aload_n 0, 1) := by decide +kernel
theorem dX11_ways_1 : decode cX11_ways 1 = .ok (.iconst 0, 1) := by decide +kernel
theorem dX11_ways_2 : decode cX11_ways 2 = .ok (.putfield 3, 3) := by decide +kernel
theorem dX11_ways_5 : decode cX11_ways 5 = .ok (.aload_n 0, 1) := by decide +kernel
theorem dX11_ways_6 : decode cX11_ways 6 = .ok (.aload_n 0, 1) := by decide +kernel
theorem dX11_ways_7 : decode cX11_ways 7 = .ok (.iload_n 1, 1) := by decide +kernel
theorem dX11_ways_8 : decode cX11_ways 8 = .ok (.invokevirtual 300, 3) := by decide +kernel
theorem dX11_ways_11 : decode cX11_ways 11 = .ok (.iconst 1, 1) := by decide +kernel
theorem dX11_ways_12 : decode cX11_ways 12 = .ok (.invokevirtual 262, 3) := by decide +kernel
theorem dX11_ways_15 : decode cX11_ways 15 = .ok (.ifCond .eq 7, 3) := by decide +kernel
theorem dX11_ways_18 : decode cX11_ways 18 = .ok (.iconst 0, 1) := by decide +kernel
theorem dX11_ways_19 : decode cX11_ways 19 = .ok (.goto 8, 3) := by decide +kernel
theorem dX11_ways_22 : decode cX11_ways 22 = .ok (.aload_n 0, 1) := by decide +kernel
theorem dX11_ways_23 : decode cX11_ways 23 = .ok (.iload_n 1, 1) := by decide +kernel
theorem dX11_ways_24 : decode cX11_ways 24 = .ok (.invokevirtual 402, 3) := by decide +kernel
theorem dX11_ways_27 : decode cX11_ways 27 = .ok (.ireturn, 1) := by decide +kernel
theorem dX11_at_0 : decode cX11_at 0 = .ok (.aload_n 0, 1) := by decide +kernel
theorem dX11_at_1 : decode cX11_at 1 = .ok (.iconst 0, 1) := by decide +kernel
theorem dX11_at_2 : decode cX11_at 2 = .ok (.putfield 3, 3) := by decide +kernel
theorem dX11_at_5 : decode cX11_at 5 = .ok (.aload_n 0, 1) := by decide +kernel
theorem dX11_at_6 : decode cX11_at 6 = .ok (.aload_n 0, 1) := by decide +kernel
theorem dX11_at_7 : decode cX11_at 7 = .ok (.iload_n 1, 1) := by decide +kernel
theorem dX11_at_8 : decode cX11_at 8 = .ok (.invokevirtual 300, 3) := by decide +kernel
theorem dX11_at_11 : decode cX11_at 11 = .ok (.ifCond .ne 10, 3) := by decide +kernel
theorem dX11_at_14 : decode cX11_at 14 = .ok (.iload_n 2, 1) := by decide +kernel
theorem dX11_at_15 : decode cX11_at 15 = .ok (.invokestatic 297, 3) := by decide +kernel
theorem dX11_at_18 : decode cX11_at 18 = .ok (.ifCond .eq 7, 3) := by decide +kernel
theorem dX11_at_21 : decode cX11_at 21 = .ok (.iconst 1, 1) := by decide +kernel
theorem dX11_at_22 : decode cX11_at 22 = .ok (.goto 4, 3) := by decide +kernel
theorem dX11_at_25 : decode cX11_at 25 = .ok (.iconst 0, 1) := by decide +kernel
theorem dX11_at_26 : decode cX11_at 26 = .ok (.iconst 1, 1) := by decide +kernel
theorem dX11_at_27 : decode cX11_at 27 = .ok (.invokevirtual 262, 3) := by decide +kernel
theorem dX11_at_30 : decode cX11_at 30 = .ok (.ifCond .eq 5, 3) := by decide +kernel
theorem dX11_at_33 : decode cX11_at 33 = .ok (.iconst 0, 1) := by decide +kernel
theorem dX11_at_34 : decode cX11_at 34 = .ok (.ireturn, 1) := by decide +kernel
theorem dX11_at_35 : decode cX11_at 35 = .ok (.aload_n 0, 1) := by decide +kernel
theorem dX11_at_36 : decode cX11_at 36 = .ok (.iload_n 1, 1) := by decide +kernel
theorem dX11_at_37 : decode cX11_at 37 = .ok (.invokevirtual 397, 3) := by decide +kernel
theorem dX11_at_40 : decode cX11_at 40 = .ok (.aload_n 0, 1) := by decide +kernel
theorem dX11_at_41 : decode cX11_at 41 = .ok (.getfield 57, 3) := by decide +kernel
theorem dX11_at_44 : decode cX11_at 44 = .ok (.iload_n 2, 1) := by decide +kernel
theorem dX11_at_45 : decode cX11_at 45 = .ok (.iaload, 1) := by decide +kernel
theorem dX11_at_46 : decode cX11_at 46 = .ok (.ireturn, 1) := by decide +kernel
theorem dX11_odds_0 : decode cX11_odds 0 = .ok (.aload_n 0, 1) := by decide +kernel
theorem dX11_odds_1 : decode cX11_odds 1 = .ok (.iconst 0, 1) := by decide +kernel
theorem dX11_odds_2 : decode cX11_odds 2 = .ok (.putfield 3, 3) := by decide +kernel
theorem dX11_odds_5 : decode cX11_odds 5 = .ok (.aload_n 0, 1) := by decide +kernel
theorem dX11_odds_6 : decode cX11_odds 6 = .ok (.aload_n 0, 1) := by decide +kernel
theorem dX11_odds_7 : decode cX11_odds 7 = .ok (.iload_n 1, 1) := by decide +kernel
theorem dX11_odds_8 : decode cX11_odds 8 = .ok (.invokevirtual 300, 3) := by decide +kernel
theorem dX11_odds_11 : decode cX11_odds 11 = .ok (.iconst 1, 1) := by decide +kernel
theorem dX11_odds_12 : decode cX11_odds 12 = .ok (.invokevirtual 262, 3) := by decide +kernel
theorem dX11_odds_15 : decode cX11_odds 15 = .ok (.ifCond .eq 7, 3) := by decide +kernel
theorem dX11_odds_18 : decode cX11_odds 18 = .ok (.iconst 0, 1) := by decide +kernel
theorem dX11_odds_19 : decode cX11_odds 19 = .ok (.goto 8, 3) := by decide +kernel
theorem dX11_odds_22 : decode cX11_odds 22 = .ok (.aload_n 0, 1) := by decide +kernel
theorem dX11_odds_23 : decode cX11_odds 23 = .ok (.iload_n 1, 1) := by decide +kernel
theorem dX11_odds_24 : decode cX11_odds 24 = .ok (.invokevirtual 405, 3) := by decide +kernel
theorem dX11_odds_27 : decode cX11_odds 27 = .ok (.ireturn, 1) := by decide +kernel
theorem dX11_gapNow_0 : decode cX11_gapNow 0 = .ok (.iconst 0, 1) := by decide +kernel
theorem dX11_gapNow_1 : decode cX11_gapNow 1 = .ok (.istore_n 1, 1) := by decide +kernel
theorem dX11_gapNow_2 : decode cX11_gapNow 2 = .ok (.iconst 0, 1) := by decide +kernel
theorem dX11_gapNow_3 : decode cX11_gapNow 3 = .ok (.istore_n 2, 1) := by decide +kernel
theorem dX11_gapNow_4 : decode cX11_gapNow 4 = .ok (.iload_n 2, 1) := by decide +kernel
theorem dX11_gapNow_5 : decode cX11_gapNow 5 = .ok (.aload_n 0, 1) := by decide +kernel
theorem dX11_gapNow_6 : decode cX11_gapNow 6 = .ok (.invokevirtual 91, 3) := by decide +kernel
theorem dX11_gapNow_9 : decode cX11_gapNow 9 = .ok (.if_icmp .ge 42, 3) := by decide +kernel
theorem dX11_gapNow_12 : decode cX11_gapNow 12 = .ok (.aload_n 0, 1) := by decide +kernel
theorem dX11_gapNow_13 : decode cX11_gapNow 13 = .ok (.iload_n 2, 1) := by decide +kernel
theorem dX11_gapNow_14 : decode cX11_gapNow 14 = .ok (.invokevirtual 355, 3) := by decide +kernel
theorem dX11_gapNow_17 : decode cX11_gapNow 17 = .ok (.ifCond .eq 28, 3) := by decide +kernel
theorem dX11_gapNow_20 : decode cX11_gapNow 20 = .ok (.iload_n 1, 1) := by decide +kernel
theorem dX11_gapNow_21 : decode cX11_gapNow 21 = .ok (.aload_n 0, 1) := by decide +kernel
theorem dX11_gapNow_22 : decode cX11_gapNow 22 = .ok (.iload_n 2, 1) := by decide +kernel
theorem dX11_gapNow_23 : decode cX11_gapNow 23 = .ok (.invokevirtual 408, 3) := by decide +kernel
theorem dX11_gapNow_26 : decode cX11_gapNow 26 = .ok (.ifCond .eq 11, 3) := by decide +kernel
theorem dX11_gapNow_29 : decode cX11_gapNow 29 = .ok (.aload_n 0, 1) := by decide +kernel
theorem dX11_gapNow_30 : decode cX11_gapNow 30 = .ok (.iload_n 2, 1) := by decide +kernel
theorem dX11_gapNow_31 : decode cX11_gapNow 31 = .ok (.invokevirtual 405, 3) := by decide +kernel
theorem dX11_gapNow_34 : decode cX11_gapNow 34 = .ok (.goto 9, 3) := by decide +kernel
theorem dX11_gapNow_37 : decode cX11_gapNow 37 = .ok (.aload_n 0, 1) := by decide +kernel
theorem dX11_gapNow_38 : decode cX11_gapNow 38 = .ok (.iload_n 2, 1) := by decide +kernel
theorem dX11_gapNow_39 : decode cX11_gapNow 39 = .ok (.invokevirtual 405, 3) := by decide +kernel
theorem dX11_gapNow_42 : decode cX11_gapNow 42 = .ok (.ineg, 1) := by decide +kernel
theorem dX11_gapNow_43 : decode cX11_gapNow 43 = .ok (.iadd, 1) := by decide +kernel
theorem dX11_gapNow_44 : decode cX11_gapNow 44 = .ok (.istore_n 1, 1) := by decide +kernel
theorem dX11_gapNow_45 : decode cX11_gapNow 45 = .ok (.iinc 2 1, 3) := by decide +kernel
theorem dX11_gapNow_48 : decode cX11_gapNow 48 = .ok (.goto (-44), 3) := by decide +kernel
theorem dX11_gapNow_51 : decode cX11_gapNow 51 = .ok (.iload_n 1, 1) := by decide +kernel
theorem dX11_gapNow_52 : decode cX11_gapNow 52 = .ok (.ireturn, 1) := by decide +kernel
theorem dX11_gap_0 : decode cX11_gap 0 = .ok (.aload_n 0, 1) := by decide +kernel
theorem dX11_gap_1 : decode cX11_gap 1 = .ok (.iconst 0, 1) := by decide +kernel
theorem dX11_gap_2 : decode cX11_gap 2 = .ok (.putfield 3, 3) := by decide +kernel
theorem dX11_gap_5 : decode cX11_gap 5 = .ok (.aload_n 0, 1) := by decide +kernel
theorem dX11_gap_6 : decode cX11_gap 6 = .ok (.invokevirtual 411, 3) := by decide +kernel
theorem dX11_gap_9 : decode cX11_gap 9 = .ok (.ireturn, 1) := by decide +kernel
theorem dX11_errors_0 : decode cX11_errors 0 = .ok (.aload_n 0, 1) := by decide +kernel
theorem dX11_errors_1 : decode cX11_errors 1 = .ok (.iconst 0, 1) := by decide +kernel
theorem dX11_errors_2 : decode cX11_errors 2 = .ok (.putfield 3, 3) := by decide +kernel
theorem dX11_errors_5 : decode cX11_errors 5 = .ok (.iconst 0, 1) := by decide +kernel
theorem dX11_errors_6 : decode cX11_errors 6 = .ok (.istore_n 2, 1) := by decide +kernel
theorem dX11_errors_7 : decode cX11_errors 7 = .ok (.iconst 0, 1) := by decide +kernel
theorem dX11_errors_8 : decode cX11_errors 8 = .ok (.istore_n 3, 1) := by decide +kernel
theorem dX11_errors_9 : decode cX11_errors 9 = .ok (.iload_n 3, 1) := by decide +kernel
theorem dX11_errors_10 : decode cX11_errors 10 = .ok (.aload_n 0, 1) := by decide +kernel
theorem dX11_errors_11 : decode cX11_errors 11 = .ok (.invokevirtual 91, 3) := by decide +kernel
theorem dX11_errors_14 : decode cX11_errors 14 = .ok (.if_icmp .ge 54, 3) := by decide +kernel
theorem dX11_errors_17 : decode cX11_errors 17 = .ok (.aload_n 0, 1) := by decide +kernel
theorem dX11_errors_18 : decode cX11_errors 18 = .ok (.iload_n 3, 1) := by decide +kernel
theorem dX11_errors_19 : decode cX11_errors 19 = .ok (.invokevirtual 355, 3) := by decide +kernel
theorem dX11_errors_22 : decode cX11_errors 22 = .ok (.ifCond .eq 40, 3) := by decide +kernel
theorem dX11_errors_25 : decode cX11_errors 25 = .ok (.aload_n 0, 1) := by decide +kernel
theorem dX11_errors_26 : decode cX11_errors 26 = .ok (.iload_n 3, 1) := by decide +kernel
theorem dX11_errors_27 : decode cX11_errors 27 = .ok (.invokevirtual 408, 3) := by decide +kernel
theorem dX11_errors_30 : decode cX11_errors 30 = .ok (.iload_n 1, 1) := by decide +kernel
theorem dX11_errors_31 : decode cX11_errors 31 = .ok (.if_icmp .ne 31, 3) := by decide +kernel
theorem dX11_errors_34 : decode cX11_errors 34 = .ok (.iload_n 2, 1) := by decide +kernel
theorem dX11_errors_35 : decode cX11_errors 35 = .ok (.aload_n 0, 1) := by decide +kernel
theorem dX11_errors_36 : decode cX11_errors 36 = .ok (.iload_n 3, 1) := by decide +kernel
theorem dX11_errors_37 : decode cX11_errors 37 = .ok (.invokevirtual 405, 3) := by decide +kernel
theorem dX11_errors_40 : decode cX11_errors 40 = .ok (.sipush 5000, 3) := by decide +kernel
theorem dX11_errors_43 : decode cX11_errors 43 = .ok (.if_icmp .ge 7, 3) := by decide +kernel
theorem dX11_errors_46 : decode cX11_errors 46 = .ok (.iconst 1, 1) := by decide +kernel
theorem dX11_errors_47 : decode cX11_errors 47 = .ok (.goto 4, 3) := by decide +kernel
theorem dX11_errors_50 : decode cX11_errors 50 = .ok (.iconst 0, 1) := by decide +kernel
theorem dX11_errors_51 : decode cX11_errors 51 = .ok (.iload_n 1, 1) := by decide +kernel
theorem dX11_errors_52 : decode cX11_errors 52 = .ok (.if_icmp .ne 7, 3) := by decide +kernel
theorem dX11_errors_55 : decode cX11_errors 55 = .ok (.iconst 1, 1) := by decide +kernel
theorem dX11_errors_56 : decode cX11_errors 56 = .ok (.goto 4, 3) := by decide +kernel
theorem dX11_errors_59 : decode cX11_errors 59 = .ok (.iconst 0, 1) := by decide +kernel
theorem dX11_errors_60 : decode cX11_errors 60 = .ok (.iadd, 1) := by decide +kernel
theorem dX11_errors_61 : decode cX11_errors 61 = .ok (.istore_n 2, 1) := by decide +kernel
theorem dX11_errors_62 : decode cX11_errors 62 = .ok (.iinc 3 1, 3) := by decide +kernel
theorem dX11_errors_65 : decode cX11_errors 65 = .ok (.goto (-56), 3) := by decide +kernel
theorem dX11_errors_68 : decode cX11_errors 68 = .ok (.iload_n 2, 1) := by decide +kernel
theorem dX11_errors_69 : decode cX11_errors 69 = .ok (.ireturn, 1) := by decide +kernel
theorem dX11_bravest_0 : decode cX11_bravest 0 = .ok (.aload_n 0, 1) := by decide +kernel
theorem dX11_bravest_1 : decode cX11_bravest 1 = .ok (.iconst 0, 1) := by decide +kernel
theorem dX11_bravest_2 : decode cX11_bravest 2 = .ok (.putfield 3, 3) := by decide +kernel
theorem dX11_bravest_5 : decode cX11_bravest 5 = .ok (.iconst (-1), 1) := by decide +kernel
theorem dX11_bravest_6 : decode cX11_bravest 6 = .ok (.istore_n 1, 1) := by decide +kernel
theorem dX11_bravest_7 : decode cX11_bravest 7 = .ok (.ldc_w 414, 3) := by decide +kernel
theorem dX11_bravest_10 : decode cX11_bravest 10 = .ok (.istore_n 2, 1) := by decide +kernel
theorem dX11_bravest_11 : decode cX11_bravest 11 = .ok (.iconst 0, 1) := by decide +kernel
theorem dX11_bravest_12 : decode cX11_bravest 12 = .ok (.istore_n 3, 1) := by decide +kernel
theorem dX11_bravest_13 : decode cX11_bravest 13 = .ok (.iload_n 3, 1) := by decide +kernel
theorem dX11_bravest_14 : decode cX11_bravest 14 = .ok (.aload_n 0, 1) := by decide +kernel
theorem dX11_bravest_15 : decode cX11_bravest 15 = .ok (.invokevirtual 91, 3) := by decide +kernel
theorem dX11_bravest_18 : decode cX11_bravest 18 = .ok (.if_icmp .ge 49, 3) := by decide +kernel
theorem dX11_bravest_21 : decode cX11_bravest 21 = .ok (.aload_n 0, 1) := by decide +kernel
theorem dX11_bravest_22 : decode cX11_bravest 22 = .ok (.iload_n 3, 1) := by decide +kernel
theorem dX11_bravest_23 : decode cX11_bravest 23 = .ok (.invokevirtual 355, 3) := by decide +kernel
theorem dX11_bravest_26 : decode cX11_bravest 26 = .ok (.ifCond .eq 11, 3) := by decide +kernel
theorem dX11_bravest_29 : decode cX11_bravest 29 = .ok (.aload_n 0, 1) := by decide +kernel
theorem dX11_bravest_30 : decode cX11_bravest 30 = .ok (.iload_n 3, 1) := by decide +kernel
theorem dX11_bravest_31 : decode cX11_bravest 31 = .ok (.invokevirtual 405, 3) := by decide +kernel
theorem dX11_bravest_34 : decode cX11_bravest 34 = .ok (.goto 6, 3) := by decide +kernel
theorem dX11_bravest_37 : decode cX11_bravest 37 = .ok (.ldc_w 414, 3) := by decide +kernel
theorem dX11_bravest_40 : decode cX11_bravest 40 = .ok (.istore 4, 2) := by decide +kernel
theorem dX11_bravest_42 : decode cX11_bravest 42 = .ok (.iload 4, 2) := by decide +kernel
theorem dX11_bravest_44 : decode cX11_bravest 44 = .ok (.iload_n 2, 1) := by decide +kernel
theorem dX11_bravest_45 : decode cX11_bravest 45 = .ok (.if_icmp .ge 7, 3) := by decide +kernel
theorem dX11_bravest_48 : decode cX11_bravest 48 = .ok (.iload_n 3, 1) := by decide +kernel
theorem dX11_bravest_49 : decode cX11_bravest 49 = .ok (.goto 4, 3) := by decide +kernel
theorem dX11_bravest_52 : decode cX11_bravest 52 = .ok (.iload_n 1, 1) := by decide +kernel
theorem dX11_bravest_53 : decode cX11_bravest 53 = .ok (.istore_n 1, 1) := by decide +kernel
theorem dX11_bravest_54 : decode cX11_bravest 54 = .ok (.iload_n 2, 1) := by decide +kernel
theorem dX11_bravest_55 : decode cX11_bravest 55 = .ok (.iload 4, 2) := by decide +kernel
theorem dX11_bravest_57 : decode cX11_bravest 57 = .ok (.invokestatic 352, 3) := by decide +kernel
theorem dX11_bravest_60 : decode cX11_bravest 60 = .ok (.istore_n 2, 1) := by decide +kernel
theorem dX11_bravest_61 : decode cX11_bravest 61 = .ok (.iinc 3 1, 3) := by decide +kernel
theorem dX11_bravest_64 : decode cX11_bravest 64 = .ok (.goto (-51), 3) := by decide +kernel
theorem dX11_bravest_67 : decode cX11_bravest 67 = .ok (.iload_n 1, 1) := by decide +kernel
theorem dX11_bravest_68 : decode cX11_bravest 68 = .ok (.ireturn, 1) := by decide +kernel
theorem dX11_loudest_0 : decode cX11_loudest 0 = .ok (.aload_n 0, 1) := by decide +kernel
theorem dX11_loudest_1 : decode cX11_loudest 1 = .ok (.iconst 0, 1) := by decide +kernel
theorem dX11_loudest_2 : decode cX11_loudest 2 = .ok (.putfield 3, 3) := by decide +kernel
theorem dX11_loudest_5 : decode cX11_loudest 5 = .ok (.iconst (-1), 1) := by decide +kernel
theorem dX11_loudest_6 : decode cX11_loudest 6 = .ok (.istore_n 1, 1) := by decide +kernel
theorem dX11_loudest_7 : decode cX11_loudest 7 = .ok (.iconst 0, 1) := by decide +kernel
theorem dX11_loudest_8 : decode cX11_loudest 8 = .ok (.istore_n 2, 1) := by decide +kernel
theorem dX11_loudest_9 : decode cX11_loudest 9 = .ok (.iconst 0, 1) := by decide +kernel
theorem dX11_loudest_10 : decode cX11_loudest 10 = .ok (.istore_n 3, 1) := by decide +kernel
theorem dX11_loudest_11 : decode cX11_loudest 11 = .ok (.iload_n 3, 1) := by decide +kernel
theorem dX11_loudest_12 : decode cX11_loudest 12 = .ok (.aload_n 0, 1) := by decide +kernel
theorem dX11_loudest_13 : decode cX11_loudest 13 = .ok (.invokevirtual 83, 3) := by decide +kernel
theorem dX11_loudest_16 : decode cX11_loudest 16 = .ok (.if_icmp .ge 91, 3) := by decide +kernel
theorem dX11_loudest_19 : decode cX11_loudest 19 = .ok (.iconst 0, 1) := by decide +kernel
theorem dX11_loudest_20 : decode cX11_loudest 20 = .ok (.istore 4, 2) := by decide +kernel
theorem dX11_loudest_22 : decode cX11_loudest 22 = .ok (.iconst 0, 1) := by decide +kernel
theorem dX11_loudest_23 : decode cX11_loudest 23 = .ok (.istore 5, 2) := by decide +kernel
theorem dX11_loudest_25 : decode cX11_loudest 25 = .ok (.iload 5, 2) := by decide +kernel
theorem dX11_loudest_27 : decode cX11_loudest 27 = .ok (.aload_n 0, 1) := by decide +kernel
theorem dX11_loudest_28 : decode cX11_loudest 28 = .ok (.invokevirtual 91, 3) := by decide +kernel
theorem dX11_loudest_31 : decode cX11_loudest 31 = .ok (.if_icmp .ge 51, 3) := by decide +kernel
theorem dX11_loudest_34 : decode cX11_loudest 34 = .ok (.aload_n 0, 1) := by decide +kernel
theorem dX11_loudest_35 : decode cX11_loudest 35 = .ok (.iload_n 3, 1) := by decide +kernel
theorem dX11_loudest_36 : decode cX11_loudest 36 = .ok (.invokevirtual 94, 3) := by decide +kernel
theorem dX11_loudest_39 : decode cX11_loudest 39 = .ok (.ifCond .eq 43, 3) := by decide +kernel
theorem dX11_loudest_42 : decode cX11_loudest 42 = .ok (.aload_n 0, 1) := by decide +kernel
theorem dX11_loudest_43 : decode cX11_loudest 43 = .ok (.iload 5, 2) := by decide +kernel
theorem dX11_loudest_45 : decode cX11_loudest 45 = .ok (.invokevirtual 355, 3) := by decide +kernel
theorem dX11_loudest_48 : decode cX11_loudest 48 = .ok (.ifCond .ne 6, 3) := by decide +kernel
theorem dX11_loudest_51 : decode cX11_loudest 51 = .ok (.goto 25, 3) := by decide +kernel
theorem dX11_loudest_54 : decode cX11_loudest 54 = .ok (.aload_n 0, 1) := by decide +kernel
theorem dX11_loudest_55 : decode cX11_loudest 55 = .ok (.iload 5, 2) := by decide +kernel
theorem dX11_loudest_57 : decode cX11_loudest 57 = .ok (.invokevirtual 397, 3) := by decide +kernel
theorem dX11_loudest_60 : decode cX11_loudest 60 = .ok (.iload 4, 2) := by decide +kernel
theorem dX11_loudest_62 : decode cX11_loudest 62 = .ok (.aload_n 0, 1) := by decide +kernel
theorem dX11_loudest_63 : decode cX11_loudest 63 = .ok (.getfield 57, 3) := by decide +kernel
theorem dX11_loudest_66 : decode cX11_loudest 66 = .ok (.aload_n 0, 1) := by decide +kernel
theorem dX11_loudest_67 : decode cX11_loudest 67 = .ok (.iload_n 3, 1) := by decide +kernel
theorem dX11_loudest_68 : decode cX11_loudest 68 = .ok (.iconst 3, 1) := by decide +kernel
theorem dX11_loudest_69 : decode cX11_loudest 69 = .ok (.invokevirtual 74, 3) := by decide +kernel
theorem dX11_loudest_72 : decode cX11_loudest 72 = .ok (.iaload, 1) := by decide +kernel
theorem dX11_loudest_73 : decode cX11_loudest 73 = .ok (.iadd, 1) := by decide +kernel
theorem dX11_loudest_74 : decode cX11_loudest 74 = .ok (.istore 4, 2) := by decide +kernel
theorem dX11_loudest_76 : decode cX11_loudest 76 = .ok (.iinc 5 1, 3) := by decide +kernel
theorem dX11_loudest_79 : decode cX11_loudest 79 = .ok (.goto (-54), 3) := by decide +kernel
theorem dX11_loudest_82 : decode cX11_loudest 82 = .ok (.iload 4, 2) := by decide +kernel
theorem dX11_loudest_84 : decode cX11_loudest 84 = .ok (.iload_n 2, 1) := by decide +kernel
theorem dX11_loudest_85 : decode cX11_loudest 85 = .ok (.if_icmp .le 7, 3) := by decide +kernel
theorem dX11_loudest_88 : decode cX11_loudest 88 = .ok (.iload_n 3, 1) := by decide +kernel
theorem dX11_loudest_89 : decode cX11_loudest 89 = .ok (.goto 4, 3) := by decide +kernel
theorem dX11_loudest_92 : decode cX11_loudest 92 = .ok (.iload_n 1, 1) := by decide +kernel
theorem dX11_loudest_93 : decode cX11_loudest 93 = .ok (.istore_n 1, 1) := by decide +kernel
theorem dX11_loudest_94 : decode cX11_loudest 94 = .ok (.iload_n 2, 1) := by decide +kernel
theorem dX11_loudest_95 : decode cX11_loudest 95 = .ok (.iload 4, 2) := by decide +kernel
theorem dX11_loudest_97 : decode cX11_loudest 97 = .ok (.invokestatic 289, 3) := by decide +kernel
theorem dX11_loudest_100 : decode cX11_loudest 100 = .ok (.istore_n 2, 1) := by decide +kernel
theorem dX11_loudest_101 : decode cX11_loudest 101 = .ok (.iinc 3 1, 3) := by decide +kernel
theorem dX11_loudest_104 : decode cX11_loudest 104 = .ok (.goto (-93), 3) := by decide +kernel
theorem dX11_loudest_107 : decode cX11_loudest 107 = .ok (.iload_n 1, 1) := by decide +kernel
theorem dX11_loudest_108 : decode cX11_loudest 108 = .ok (.ireturn, 1) := by decide +kernel
theorem dX11_changes_0 : decode cX11_changes 0 = .ok (.aload_n 0, 1) := by decide +kernel
theorem dX11_changes_1 : decode cX11_changes 1 = .ok (.iload_n 1, 1) := by decide +kernel
theorem dX11_changes_2 : decode cX11_changes 2 = .ok (.invokevirtual 160, 3) := by decide +kernel
theorem dX11_changes_5 : decode cX11_changes 5 = .ok (.istore_n 3, 1) := by decide +kernel
theorem dX11_changes_6 : decode cX11_changes 6 = .ok (.aload_n 0, 1) := by decide +kernel
theorem dX11_changes_7 : decode cX11_changes 7 = .ok (.iload_n 2, 1) := by decide +kernel
theorem dX11_changes_8 : decode cX11_changes 8 = .ok (.invokevirtual 160, 3) := by decide +kernel
theorem dX11_changes_11 : decode cX11_changes 11 = .ok (.istore 4, 2) := by decide +kernel
theorem dX11_changes_13 : decode cX11_changes 13 = .ok (.iload_n 3, 1) := by decide +kernel
theorem dX11_changes_14 : decode cX11_changes 14 = .ok (.iconst (-1), 1) := by decide +kernel
theorem dX11_changes_15 : decode cX11_changes 15 = .ok (.if_icmp .eq 14, 3) := by decide +kernel
theorem dX11_changes_18 : decode cX11_changes 18 = .ok (.aload_n 0, 1) := by decide +kernel
theorem dX11_changes_19 : decode cX11_changes 19 = .ok (.getfield 13, 3) := by decide +kernel
theorem dX11_changes_22 : decode cX11_changes 22 = .ok (.iload_n 3, 1) := by decide +kernel
theorem dX11_changes_23 : decode cX11_changes 23 = .ok (.iconst 3, 1) := by decide +kernel
theorem dX11_changes_24 : decode cX11_changes 24 = .ok (.invokestatic 70, 3) := by decide +kernel
theorem dX11_changes_27 : decode cX11_changes 27 = .ok (.iload_n 2, 1) := by decide +kernel
theorem dX11_changes_28 : decode cX11_changes 28 = .ok (.iastore, 1) := by decide +kernel
theorem dX11_changes_29 : decode cX11_changes 29 = .ok (.iload 4, 2) := by decide +kernel
theorem dX11_changes_31 : decode cX11_changes 31 = .ok (.iconst (-1), 1) := by decide +kernel
theorem dX11_changes_32 : decode cX11_changes 32 = .ok (.if_icmp .eq 15, 3) := by decide +kernel
theorem dX11_changes_35 : decode cX11_changes 35 = .ok (.aload_n 0, 1) := by decide +kernel
theorem dX11_changes_36 : decode cX11_changes 36 = .ok (.getfield 13, 3) := by decide +kernel
theorem dX11_changes_39 : decode cX11_changes 39 = .ok (.iload 4, 2) := by decide +kernel
theorem dX11_changes_41 : decode cX11_changes 41 = .ok (.iconst 3, 1) := by decide +kernel
theorem dX11_changes_42 : decode cX11_changes 42 = .ok (.invokestatic 70, 3) := by decide +kernel
theorem dX11_changes_45 : decode cX11_changes 45 = .ok (.iload_n 1, 1) := by decide +kernel
theorem dX11_changes_46 : decode cX11_changes 46 = .ok (.iastore, 1) := by decide +kernel
theorem dX11_changes_47 : decode cX11_changes 47 = .ok (.return_, 1) := by decide +kernel
theorem dX11_swap_0 : decode cX11_swap 0 = .ok (.aload_n 0, 1) := by decide +kernel
theorem dX11_swap_1 : decode cX11_swap 1 = .ok (.iconst 0, 1) := by decide +kernel
theorem dX11_swap_2 : decode cX11_swap 2 = .ok (.putfield 3, 3) := by decide +kernel
theorem dX11_swap_5 : decode cX11_swap 5 = .ok (.iconst (-1), 1) := by decide +kernel
theorem dX11_swap_6 : decode cX11_swap 6 = .ok (.istore_n 1, 1) := by decide +kernel
theorem dX11_swap_7 : decode cX11_swap 7 = .ok (.aload_n 0, 1) := by decide +kernel
theorem dX11_swap_8 : decode cX11_swap 8 = .ok (.invokevirtual 411, 3) := by decide +kernel
theorem dX11_swap_11 : decode cX11_swap 11 = .ok (.istore_n 2, 1) := by decide +kernel
theorem dX11_swap_12 : decode cX11_swap 12 = .ok (.iconst 0, 1) := by decide +kernel
theorem dX11_swap_13 : decode cX11_swap 13 = .ok (.istore_n 3, 1) := by decide +kernel
theorem dX11_swap_14 : decode cX11_swap 14 = .ok (.iload_n 3, 1) := by decide +kernel
theorem dX11_swap_15 : decode cX11_swap 15 = .ok (.bipush 10, 2) := by decide +kernel
theorem dX11_swap_17 : decode cX11_swap 17 = .ok (.if_icmp .ge 72, 3) := by decide +kernel
theorem dX11_swap_20 : decode cX11_swap 20 = .ok (.iload_n 3, 1) := by decide +kernel
theorem dX11_swap_21 : decode cX11_swap 21 = .ok (.iconst 1, 1) := by decide +kernel
theorem dX11_swap_22 : decode cX11_swap 22 = .ok (.iadd, 1) := by decide +kernel
theorem dX11_swap_23 : decode cX11_swap 23 = .ok (.istore 4, 2) := by decide +kernel
theorem dX11_swap_25 : decode cX11_swap 25 = .ok (.iload 4, 2) := by decide +kernel
theorem dX11_swap_27 : decode cX11_swap 27 = .ok (.bipush 10, 2) := by decide +kernel
theorem dX11_swap_29 : decode cX11_swap 29 = .ok (.if_icmp .ge 54, 3) := by decide +kernel
theorem dX11_swap_32 : decode cX11_swap 32 = .ok (.aload_n 0, 1) := by decide +kernel
theorem dX11_swap_33 : decode cX11_swap 33 = .ok (.iload_n 3, 1) := by decide +kernel
theorem dX11_swap_34 : decode cX11_swap 34 = .ok (.iload 4, 2) := by decide +kernel
theorem dX11_swap_36 : decode cX11_swap 36 = .ok (.invokevirtual 415, 3) := by decide +kernel
theorem dX11_swap_39 : decode cX11_swap 39 = .ok (.aload_n 0, 1) := by decide +kernel
theorem dX11_swap_40 : decode cX11_swap 40 = .ok (.invokevirtual 411, 3) := by decide +kernel
theorem dX11_swap_43 : decode cX11_swap 43 = .ok (.istore 5, 2) := by decide +kernel
theorem dX11_swap_45 : decode cX11_swap 45 = .ok (.aload_n 0, 1) := by decide +kernel
theorem dX11_swap_46 : decode cX11_swap 46 = .ok (.iload_n 3, 1) := by decide +kernel
theorem dX11_swap_47 : decode cX11_swap 47 = .ok (.iload 4, 2) := by decide +kernel
theorem dX11_swap_49 : decode cX11_swap 49 = .ok (.invokevirtual 415, 3) := by decide +kernel
theorem dX11_swap_52 : decode cX11_swap 52 = .ok (.iload 5, 2) := by decide +kernel
theorem dX11_swap_54 : decode cX11_swap 54 = .ok (.iload_n 2, 1) := by decide +kernel
theorem dX11_swap_55 : decode cX11_swap 55 = .ok (.if_icmp .le 13, 3) := by decide +kernel
theorem dX11_swap_58 : decode cX11_swap 58 = .ok (.bipush 10, 2) := by decide +kernel
theorem dX11_swap_60 : decode cX11_swap 60 = .ok (.iload_n 3, 1) := by decide +kernel
theorem dX11_swap_61 : decode cX11_swap 61 = .ok (.imul, 1) := by decide +kernel
theorem dX11_swap_62 : decode cX11_swap 62 = .ok (.iload 4, 2) := by decide +kernel
theorem dX11_swap_64 : decode cX11_swap 64 = .ok (.iadd, 1) := by decide +kernel
theorem dX11_swap_65 : decode cX11_swap 65 = .ok (.goto 4, 3) := by decide +kernel
theorem dX11_swap_68 : decode cX11_swap 68 = .ok (.iload_n 1, 1) := by decide +kernel
theorem dX11_swap_69 : decode cX11_swap 69 = .ok (.istore_n 1, 1) := by decide +kernel
theorem dX11_swap_70 : decode cX11_swap 70 = .ok (.iload_n 2, 1) := by decide +kernel
theorem dX11_swap_71 : decode cX11_swap 71 = .ok (.iload 5, 2) := by decide +kernel
theorem dX11_swap_73 : decode cX11_swap 73 = .ok (.invokestatic 289, 3) := by decide +kernel
theorem dX11_swap_76 : decode cX11_swap 76 = .ok (.istore_n 2, 1) := by decide +kernel
theorem dX11_swap_77 : decode cX11_swap 77 = .ok (.iinc 4 1, 3) := by decide +kernel
theorem dX11_swap_80 : decode cX11_swap 80 = .ok (.goto (-55), 3) := by decide +kernel
theorem dX11_swap_83 : decode cX11_swap 83 = .ok (.iinc 3 1, 3) := by decide +kernel
theorem dX11_swap_86 : decode cX11_swap 86 = .ok (.goto (-72), 3) := by decide +kernel
theorem dX11_swap_89 : decode cX11_swap 89 = .ok (.iload_n 1, 1) := by decide +kernel
theorem dX11_swap_90 : decode cX11_swap 90 = .ok (.ireturn, 1) := by decide +kernel
theorem dX11_next_0 : decode cX11_next 0 = .ok (.aload_n 0, 1) := by decide +kernel
theorem dX11_next_1 : decode cX11_next 1 = .ok (.iconst 0, 1) := by decide +kernel
theorem dX11_next_2 : decode cX11_next 2 = .ok (.putfield 3, 3) := by decide +kernel
theorem dX11_next_5 : decode cX11_next 5 = .ok (.iconst (-1), 1) := by decide +kernel
theorem dX11_next_6 : decode cX11_next 6 = .ok (.istore_n 1, 1) := by decide +kernel
theorem dX11_next_7 : decode cX11_next 7 = .ok (.ldc_w 418, 3) := by decide +kernel
theorem dX11_next_10 : decode cX11_next 10 = .ok (.istore_n 2, 1) := by decide +kernel
theorem dX11_next_11 : decode cX11_next 11 = .ok (.iconst 0, 1) := by decide +kernel
theorem dX11_next_12 : decode cX11_next 12 = .ok (.istore_n 3, 1) := by decide +kernel
theorem dX11_next_13 : decode cX11_next 13 = .ok (.iload_n 3, 1) := by decide +kernel
theorem dX11_next_14 : decode cX11_next 14 = .ok (.aload_n 0, 1) := by decide +kernel
theorem dX11_next_15 : decode cX11_next 15 = .ok (.invokevirtual 83, 3) := by decide +kernel
theorem dX11_next_18 : decode cX11_next 18 = .ok (.if_icmp .ge 100, 3) := by decide +kernel
theorem dX11_next_21 : decode cX11_next 21 = .ok (.iconst 0, 1) := by decide +kernel
theorem dX11_next_22 : decode cX11_next 22 = .ok (.istore 4, 2) := by decide +kernel
theorem dX11_next_24 : decode cX11_next 24 = .ok (.iload 4, 2) := by decide +kernel
theorem dX11_next_26 : decode cX11_next 26 = .ok (.bipush 10, 2) := by decide +kernel
theorem dX11_next_28 : decode cX11_next 28 = .ok (.if_icmp .ge 84, 3) := by decide +kernel
theorem dX11_next_31 : decode cX11_next 31 = .ok (.aload_n 0, 1) := by decide +kernel
theorem dX11_next_32 : decode cX11_next 32 = .ok (.iload_n 3, 1) := by decide +kernel
theorem dX11_next_33 : decode cX11_next 33 = .ok (.invokevirtual 94, 3) := by decide +kernel
theorem dX11_next_36 : decode cX11_next 36 = .ok (.ifCond .ne 70, 3) := by decide +kernel
theorem dX11_next_39 : decode cX11_next 39 = .ok (.aload_n 0, 1) := by decide +kernel
theorem dX11_next_40 : decode cX11_next 40 = .ok (.iload 4, 2) := by decide +kernel
theorem dX11_next_42 : decode cX11_next 42 = .ok (.invokevirtual 160, 3) := by decide +kernel
theorem dX11_next_45 : decode cX11_next 45 = .ok (.iconst (-1), 1) := by decide +kernel
theorem dX11_next_46 : decode cX11_next 46 = .ok (.if_icmp .eq 6, 3) := by decide +kernel
theorem dX11_next_49 : decode cX11_next 49 = .ok (.goto 57, 3) := by decide +kernel
theorem dX11_next_52 : decode cX11_next 52 = .ok (.aload_n 0, 1) := by decide +kernel
theorem dX11_next_53 : decode cX11_next 53 = .ok (.getfield 13, 3) := by decide +kernel
theorem dX11_next_56 : decode cX11_next 56 = .ok (.iload_n 3, 1) := by decide +kernel
theorem dX11_next_57 : decode cX11_next 57 = .ok (.iconst 3, 1) := by decide +kernel
theorem dX11_next_58 : decode cX11_next 58 = .ok (.invokestatic 70, 3) := by decide +kernel
theorem dX11_next_61 : decode cX11_next 61 = .ok (.iload 4, 2) := by decide +kernel
theorem dX11_next_63 : decode cX11_next 63 = .ok (.iastore, 1) := by decide +kernel
theorem dX11_next_64 : decode cX11_next 64 = .ok (.aload_n 0, 1) := by decide +kernel
theorem dX11_next_65 : decode cX11_next 65 = .ok (.invokevirtual 411, 3) := by decide +kernel
theorem dX11_next_68 : decode cX11_next 68 = .ok (.istore 5, 2) := by decide +kernel
theorem dX11_next_70 : decode cX11_next 70 = .ok (.aload_n 0, 1) := by decide +kernel
theorem dX11_next_71 : decode cX11_next 71 = .ok (.getfield 13, 3) := by decide +kernel
theorem dX11_next_74 : decode cX11_next 74 = .ok (.iload_n 3, 1) := by decide +kernel
theorem dX11_next_75 : decode cX11_next 75 = .ok (.iconst 3, 1) := by decide +kernel
theorem dX11_next_76 : decode cX11_next 76 = .ok (.invokestatic 70, 3) := by decide +kernel
theorem dX11_next_79 : decode cX11_next 79 = .ok (.iconst (-1), 1) := by decide +kernel
theorem dX11_next_80 : decode cX11_next 80 = .ok (.iastore, 1) := by decide +kernel
theorem dX11_next_81 : decode cX11_next 81 = .ok (.iload 5, 2) := by decide +kernel
theorem dX11_next_83 : decode cX11_next 83 = .ok (.iload_n 2, 1) := by decide +kernel
theorem dX11_next_84 : decode cX11_next 84 = .ok (.if_icmp .le 13, 3) := by decide +kernel
theorem dX11_next_87 : decode cX11_next 87 = .ok (.bipush 10, 2) := by decide +kernel
theorem dX11_next_89 : decode cX11_next 89 = .ok (.iload_n 3, 1) := by decide +kernel
theorem dX11_next_90 : decode cX11_next 90 = .ok (.imul, 1) := by decide +kernel
theorem dX11_next_91 : decode cX11_next 91 = .ok (.iload 4, 2) := by decide +kernel
theorem dX11_next_93 : decode cX11_next 93 = .ok (.iadd, 1) := by decide +kernel
theorem dX11_next_94 : decode cX11_next 94 = .ok (.goto 4, 3) := by decide +kernel
theorem dX11_next_97 : decode cX11_next 97 = .ok (.iload_n 1, 1) := by decide +kernel
theorem dX11_next_98 : decode cX11_next 98 = .ok (.istore_n 1, 1) := by decide +kernel
theorem dX11_next_99 : decode cX11_next 99 = .ok (.iload_n 2, 1) := by decide +kernel
theorem dX11_next_100 : decode cX11_next 100 = .ok (.iload 5, 2) := by decide +kernel
theorem dX11_next_102 : decode cX11_next 102 = .ok (.invokestatic 289, 3) := by decide +kernel
theorem dX11_next_105 : decode cX11_next 105 = .ok (.istore_n 2, 1) := by decide +kernel
theorem dX11_next_106 : decode cX11_next 106 = .ok (.iinc 4 1, 3) := by decide +kernel
theorem dX11_next_109 : decode cX11_next 109 = .ok (.goto (-85), 3) := by decide +kernel
theorem dX11_next_112 : decode cX11_next 112 = .ok (.iinc 3 1, 3) := by decide +kernel
theorem dX11_next_115 : decode cX11_next 115 = .ok (.goto (-102), 3) := by decide +kernel
theorem dX11_next_118 : decode cX11_next 118 = .ok (.iload_n 1, 1) := by decide +kernel
theorem dX11_next_119 : decode cX11_next 119 = .ok (.ireturn, 1) := by decide +kernel
theorem dX11_isQuiet_0 : decode cX11_isQuiet 0 = .ok (.iconst 1, 1) := by decide +kernel
theorem dX11_isQuiet_1 : decode cX11_isQuiet 1 = .ok (.istore_n 1, 1) := by decide +kernel
theorem dX11_isQuiet_2 : decode cX11_isQuiet 2 = .ok (.iconst 0, 1) := by decide +kernel
theorem dX11_isQuiet_3 : decode cX11_isQuiet 3 = .ok (.istore_n 2, 1) := by decide +kernel
theorem dX11_isQuiet_4 : decode cX11_isQuiet 4 = .ok (.iload_n 2, 1) := by decide +kernel
theorem dX11_isQuiet_5 : decode cX11_isQuiet 5 = .ok (.aload_n 0, 1) := by decide +kernel
theorem dX11_isQuiet_6 : decode cX11_isQuiet 6 = .ok (.invokevirtual 91, 3) := by decide +kernel
theorem dX11_isQuiet_9 : decode cX11_isQuiet 9 = .ok (.if_icmp .ge 44, 3) := by decide +kernel
theorem dX11_isQuiet_12 : decode cX11_isQuiet 12 = .ok (.iload_n 1, 1) := by decide +kernel
theorem dX11_isQuiet_13 : decode cX11_isQuiet 13 = .ok (.ifCond .eq 32, 3) := by decide +kernel
theorem dX11_isQuiet_16 : decode cX11_isQuiet 16 = .ok (.aload_n 0, 1) := by decide +kernel
theorem dX11_isQuiet_17 : decode cX11_isQuiet 17 = .ok (.iload_n 2, 1) := by decide +kernel
theorem dX11_isQuiet_18 : decode cX11_isQuiet 18 = .ok (.invokevirtual 355, 3) := by decide +kernel
theorem dX11_isQuiet_21 : decode cX11_isQuiet 21 = .ok (.ifCond .eq 20, 3) := by decide +kernel
theorem dX11_isQuiet_24 : decode cX11_isQuiet 24 = .ok (.aload_n 0, 1) := by decide +kernel
theorem dX11_isQuiet_25 : decode cX11_isQuiet 25 = .ok (.iload_n 2, 1) := by decide +kernel
theorem dX11_isQuiet_26 : decode cX11_isQuiet 26 = .ok (.invokevirtual 408, 3) := by decide +kernel
theorem dX11_isQuiet_29 : decode cX11_isQuiet 29 = .ok (.ifCond .ne 12, 3) := by decide +kernel
theorem dX11_isQuiet_32 : decode cX11_isQuiet 32 = .ok (.aload_n 0, 1) := by decide +kernel
theorem dX11_isQuiet_33 : decode cX11_isQuiet 33 = .ok (.iload_n 2, 1) := by decide +kernel
theorem dX11_isQuiet_34 : decode cX11_isQuiet 34 = .ok (.invokevirtual 367, 3) := by decide +kernel
theorem dX11_isQuiet_37 : decode cX11_isQuiet 37 = .ok (.iconst (-1), 1) := by decide +kernel
theorem dX11_isQuiet_38 : decode cX11_isQuiet 38 = .ok (.if_icmp .ne 7, 3) := by decide +kernel
theorem dX11_isQuiet_41 : decode cX11_isQuiet 41 = .ok (.iconst 1, 1) := by decide +kernel
theorem dX11_isQuiet_42 : decode cX11_isQuiet 42 = .ok (.goto 4, 3) := by decide +kernel
theorem dX11_isQuiet_45 : decode cX11_isQuiet 45 = .ok (.iconst 0, 1) := by decide +kernel
theorem dX11_isQuiet_46 : decode cX11_isQuiet 46 = .ok (.istore_n 1, 1) := by decide +kernel
theorem dX11_isQuiet_47 : decode cX11_isQuiet 47 = .ok (.iinc 2 1, 3) := by decide +kernel
theorem dX11_isQuiet_50 : decode cX11_isQuiet 50 = .ok (.goto (-46), 3) := by decide +kernel
theorem dX11_isQuiet_53 : decode cX11_isQuiet 53 = .ok (.iload_n 1, 1) := by decide +kernel
theorem dX11_isQuiet_54 : decode cX11_isQuiet 54 = .ok (.ireturn, 1) := by decide +kernel
theorem dX11_leave_0 : decode cX11_leave 0 = .ok (.aload_n 0, 1) := by decide +kernel
theorem dX11_leave_1 : decode cX11_leave 1 = .ok (.iconst 0, 1) := by decide +kernel
theorem dX11_leave_2 : decode cX11_leave 2 = .ok (.putfield 3, 3) := by decide +kernel
theorem dX11_leave_5 : decode cX11_leave 5 = .ok (.aload_n 0, 1) := by decide +kernel
theorem dX11_leave_6 : decode cX11_leave 6 = .ok (.invokevirtual 419, 3) := by decide +kernel
theorem dX11_leave_9 : decode cX11_leave 9 = .ok (.istore_n 1, 1) := by decide +kernel
theorem dX11_leave_10 : decode cX11_leave 10 = .ok (.iload_n 1, 1) := by decide +kernel
theorem dX11_leave_11 : decode cX11_leave 11 = .ok (.istore_n 2, 1) := by decide +kernel
theorem dX11_leave_12 : decode cX11_leave 12 = .ok (.iload_n 1, 1) := by decide +kernel
theorem dX11_leave_13 : decode cX11_leave 13 = .ok (.istore_n 3, 1) := by decide +kernel
theorem dX11_leave_14 : decode cX11_leave 14 = .ok (.iload_n 3, 1) := by decide +kernel
theorem dX11_leave_15 : decode cX11_leave 15 = .ok (.ifCond .lt 46, 3) := by decide +kernel
theorem dX11_leave_18 : decode cX11_leave 18 = .ok (.aload_n 0, 1) := by decide +kernel
theorem dX11_leave_19 : decode cX11_leave 19 = .ok (.iload_n 3, 1) := by decide +kernel
theorem dX11_leave_20 : decode cX11_leave 20 = .ok (.putfield 313, 3) := by decide +kernel
theorem dX11_leave_23 : decode cX11_leave 23 = .ok (.iload_n 3, 1) := by decide +kernel
theorem dX11_leave_24 : decode cX11_leave 24 = .ok (.iload_n 1, 1) := by decide +kernel
theorem dX11_leave_25 : decode cX11_leave 25 = .ok (.iconst (-1), 1) := by decide +kernel
theorem dX11_leave_26 : decode cX11_leave 26 = .ok (.ixor, 1) := by decide +kernel
theorem dX11_leave_27 : decode cX11_leave 27 = .ok (.iand, 1) := by decide +kernel
theorem dX11_leave_28 : decode cX11_leave 28 = .ok (.ifCond .ne 25, 3) := by decide +kernel
theorem dX11_leave_31 : decode cX11_leave 31 = .ok (.iload_n 3, 1) := by decide +kernel
theorem dX11_leave_32 : decode cX11_leave 32 = .ok (.invokestatic 143, 3) := by decide +kernel
theorem dX11_leave_35 : decode cX11_leave 35 = .ok (.iload_n 2, 1) := by decide +kernel
theorem dX11_leave_36 : decode cX11_leave 36 = .ok (.invokestatic 143, 3) := by decide +kernel
theorem dX11_leave_39 : decode cX11_leave 39 = .ok (.if_icmp .gt 14, 3) := by decide +kernel
theorem dX11_leave_42 : decode cX11_leave 42 = .ok (.aload_n 0, 1) := by decide +kernel
theorem dX11_leave_43 : decode cX11_leave 43 = .ok (.invokevirtual 422, 3) := by decide +kernel
theorem dX11_leave_46 : decode cX11_leave 46 = .ok (.ifCond .eq 7, 3) := by decide +kernel
theorem dX11_leave_49 : decode cX11_leave 49 = .ok (.iload_n 3, 1) := by decide +kernel
theorem dX11_leave_50 : decode cX11_leave 50 = .ok (.goto 4, 3) := by decide +kernel
theorem dX11_leave_53 : decode cX11_leave 53 = .ok (.iload_n 2, 1) := by decide +kernel
theorem dX11_leave_54 : decode cX11_leave 54 = .ok (.istore_n 2, 1) := by decide +kernel
theorem dX11_leave_55 : decode cX11_leave 55 = .ok (.iinc 3 (-1), 3) := by decide +kernel
theorem dX11_leave_58 : decode cX11_leave 58 = .ok (.goto (-44), 3) := by decide +kernel
theorem dX11_leave_61 : decode cX11_leave 61 = .ok (.aload_n 0, 1) := by decide +kernel
theorem dX11_leave_62 : decode cX11_leave 62 = .ok (.iconst 0, 1) := by decide +kernel
theorem dX11_leave_63 : decode cX11_leave 63 = .ok (.putfield 313, 3) := by decide +kernel
theorem dX11_leave_66 : decode cX11_leave 66 = .ok (.iload_n 2, 1) := by decide +kernel
theorem dX11_leave_67 : decode cX11_leave 67 = .ok (.ireturn, 1) := by decide +kernel
theorem dX11_shownBy_0 : decode cX11_shownBy 0 = .ok (.iconst 0, 1) := by decide +kernel
theorem dX11_shownBy_1 : decode cX11_shownBy 1 = .ok (.istore_n 2, 1) := by decide +kernel
theorem dX11_shownBy_2 : decode cX11_shownBy 2 = .ok (.iconst 0, 1) := by decide +kernel
theorem dX11_shownBy_3 : decode cX11_shownBy 3 = .ok (.istore_n 3, 1) := by decide +kernel
theorem dX11_shownBy_4 : decode cX11_shownBy 4 = .ok (.iload_n 3, 1) := by decide +kernel
theorem dX11_shownBy_5 : decode cX11_shownBy 5 = .ok (.aload_n 0, 1) := by decide +kernel
theorem dX11_shownBy_6 : decode cX11_shownBy 6 = .ok (.invokevirtual 83, 3) := by decide +kernel
theorem dX11_shownBy_9 : decode cX11_shownBy 9 = .ok (.if_icmp .ge 32, 3) := by decide +kernel
theorem dX11_shownBy_12 : decode cX11_shownBy 12 = .ok (.iload_n 2, 1) := by decide +kernel
theorem dX11_shownBy_13 : decode cX11_shownBy 13 = .ok (.iload_n 1, 1) := by decide +kernel
theorem dX11_shownBy_14 : decode cX11_shownBy 14 = .ok (.iload_n 3, 1) := by decide +kernel
theorem dX11_shownBy_15 : decode cX11_shownBy 15 = .ok (.invokestatic 137, 3) := by decide +kernel
theorem dX11_shownBy_18 : decode cX11_shownBy 18 = .ok (.ifCond .eq 14, 3) := by decide +kernel
theorem dX11_shownBy_21 : decode cX11_shownBy 21 = .ok (.iconst 1, 1) := by decide +kernel
theorem dX11_shownBy_22 : decode cX11_shownBy 22 = .ok (.aload_n 0, 1) := by decide +kernel
theorem dX11_shownBy_23 : decode cX11_shownBy 23 = .ok (.iload_n 3, 1) := by decide +kernel
theorem dX11_shownBy_24 : decode cX11_shownBy 24 = .ok (.iconst 0, 1) := by decide +kernel
theorem dX11_shownBy_25 : decode cX11_shownBy 25 = .ok (.invokevirtual 74, 3) := by decide +kernel
theorem dX11_shownBy_28 : decode cX11_shownBy 28 = .ok (.ishl, 1) := by decide +kernel
theorem dX11_shownBy_29 : decode cX11_shownBy 29 = .ok (.goto 4, 3) := by decide +kernel
theorem dX11_shownBy_32 : decode cX11_shownBy 32 = .ok (.iconst 0, 1) := by decide +kernel
theorem dX11_shownBy_33 : decode cX11_shownBy 33 = .ok (.ior, 1) := by decide +kernel
theorem dX11_shownBy_34 : decode cX11_shownBy 34 = .ok (.istore_n 2, 1) := by decide +kernel
theorem dX11_shownBy_35 : decode cX11_shownBy 35 = .ok (.iinc 3 1, 3) := by decide +kernel
theorem dX11_shownBy_38 : decode cX11_shownBy 38 = .ok (.goto (-34), 3) := by decide +kernel
theorem dX11_shownBy_41 : decode cX11_shownBy 41 = .ok (.iload_n 2, 1) := by decide +kernel
theorem dX11_shownBy_42 : decode cX11_shownBy 42 = .ok (.ireturn, 1) := by decide +kernel
theorem dX11_cover_0 : decode cX11_cover 0 = .ok (.aload_n 0, 1) := by decide +kernel
theorem dX11_cover_1 : decode cX11_cover 1 = .ok (.iconst 0, 1) := by decide +kernel
theorem dX11_cover_2 : decode cX11_cover 2 = .ok (.putfield 3, 3) := by decide +kernel
theorem dX11_cover_5 : decode cX11_cover 5 = .ok (.iconst 1, 1) := by decide +kernel
theorem dX11_cover_6 : decode cX11_cover 6 = .ok (.aload_n 0, 1) := by decide +kernel
theorem dX11_cover_7 : decode cX11_cover 7 = .ok (.invokevirtual 83, 3) := by decide +kernel
theorem dX11_cover_10 : decode cX11_cover 10 = .ok (.ishl, 1) := by decide +kernel
theorem dX11_cover_11 : decode cX11_cover 11 = .ok (.iconst 1, 1) := by decide +kernel
theorem dX11_cover_12 : decode cX11_cover 12 = .ok (.isub, 1) := by decide +kernel
theorem dX11_cover_13 : decode cX11_cover 13 = .ok (.istore_n 1, 1) := by decide +kernel
theorem dX11_cover_14 : decode cX11_cover 14 = .ok (.iconst 0, 1) := by decide +kernel
theorem dX11_cover_15 : decode cX11_cover 15 = .ok (.istore_n 2, 1) := by decide +kernel
theorem dX11_cover_16 : decode cX11_cover 16 = .ok (.iconst 0, 1) := by decide +kernel
theorem dX11_cover_17 : decode cX11_cover 17 = .ok (.istore_n 3, 1) := by decide +kernel
theorem dX11_cover_18 : decode cX11_cover 18 = .ok (.iload_n 3, 1) := by decide +kernel
theorem dX11_cover_19 : decode cX11_cover 19 = .ok (.aload_n 0, 1) := by decide +kernel
theorem dX11_cover_20 : decode cX11_cover 20 = .ok (.invokevirtual 91, 3) := by decide +kernel
theorem dX11_cover_23 : decode cX11_cover 23 = .ok (.if_icmp .ge 30, 3) := by decide +kernel
theorem dX11_cover_26 : decode cX11_cover 26 = .ok (.iload_n 2, 1) := by decide +kernel
theorem dX11_cover_27 : decode cX11_cover 27 = .ok (.aload_n 0, 1) := by decide +kernel
theorem dX11_cover_28 : decode cX11_cover 28 = .ok (.iload_n 3, 1) := by decide +kernel
theorem dX11_cover_29 : decode cX11_cover 29 = .ok (.invokevirtual 355, 3) := by decide +kernel
theorem dX11_cover_32 : decode cX11_cover 32 = .ok (.ifCond .eq 12, 3) := by decide +kernel
theorem dX11_cover_35 : decode cX11_cover 35 = .ok (.aload_n 0, 1) := by decide +kernel
theorem dX11_cover_36 : decode cX11_cover 36 = .ok (.iload_n 3, 1) := by decide +kernel
theorem dX11_cover_37 : decode cX11_cover 37 = .ok (.iconst 0, 1) := by decide +kernel
theorem dX11_cover_38 : decode cX11_cover 38 = .ok (.invokevirtual 80, 3) := by decide +kernel
theorem dX11_cover_41 : decode cX11_cover 41 = .ok (.goto 4, 3) := by decide +kernel
theorem dX11_cover_44 : decode cX11_cover 44 = .ok (.iconst 0, 1) := by decide +kernel
theorem dX11_cover_45 : decode cX11_cover 45 = .ok (.ior, 1) := by decide +kernel
theorem dX11_cover_46 : decode cX11_cover 46 = .ok (.istore_n 2, 1) := by decide +kernel
theorem dX11_cover_47 : decode cX11_cover 47 = .ok (.iinc 3 1, 3) := by decide +kernel
theorem dX11_cover_50 : decode cX11_cover 50 = .ok (.goto (-32), 3) := by decide +kernel
theorem dX11_cover_53 : decode cX11_cover 53 = .ok (.iload_n 2, 1) := by decide +kernel
theorem dX11_cover_54 : decode cX11_cover 54 = .ok (.aload_n 0, 1) := by decide +kernel
theorem dX11_cover_55 : decode cX11_cover 55 = .ok (.iload_n 1, 1) := by decide +kernel
theorem dX11_cover_56 : decode cX11_cover 56 = .ok (.invokevirtual 425, 3) := by decide +kernel
theorem dX11_cover_59 : decode cX11_cover 59 = .ok (.iand, 1) := by decide +kernel
theorem dX11_cover_60 : decode cX11_cover 60 = .ok (.istore_n 2, 1) := by decide +kernel
theorem dX11_cover_61 : decode cX11_cover 61 = .ok (.iload_n 1, 1) := by decide +kernel
theorem dX11_cover_62 : decode cX11_cover 62 = .ok (.istore_n 3, 1) := by decide +kernel
theorem dX11_cover_63 : decode cX11_cover 63 = .ok (.iload_n 3, 1) := by decide +kernel
theorem dX11_cover_64 : decode cX11_cover 64 = .ok (.ifCond .lt 38, 3) := by decide +kernel
theorem dX11_cover_67 : decode cX11_cover 67 = .ok (.iload_n 3, 1) := by decide +kernel
theorem dX11_cover_68 : decode cX11_cover 68 = .ok (.invokestatic 143, 3) := by decide +kernel
theorem dX11_cover_71 : decode cX11_cover 71 = .ok (.iload_n 1, 1) := by decide +kernel
theorem dX11_cover_72 : decode cX11_cover 72 = .ok (.invokestatic 143, 3) := by decide +kernel
theorem dX11_cover_75 : decode cX11_cover 75 = .ok (.if_icmp .gt 19, 3) := by decide +kernel
theorem dX11_cover_78 : decode cX11_cover 78 = .ok (.iload_n 2, 1) := by decide +kernel
theorem dX11_cover_79 : decode cX11_cover 79 = .ok (.aload_n 0, 1) := by decide +kernel
theorem dX11_cover_80 : decode cX11_cover 80 = .ok (.iload_n 3, 1) := by decide +kernel
theorem dX11_cover_81 : decode cX11_cover 81 = .ok (.invokevirtual 425, 3) := by decide +kernel
theorem dX11_cover_84 : decode cX11_cover 84 = .ok (.iconst (-1), 1) := by decide +kernel
theorem dX11_cover_85 : decode cX11_cover 85 = .ok (.ixor, 1) := by decide +kernel
theorem dX11_cover_86 : decode cX11_cover 86 = .ok (.iand, 1) := by decide +kernel
theorem dX11_cover_87 : decode cX11_cover 87 = .ok (.ifCond .ne 7, 3) := by decide +kernel
theorem dX11_cover_90 : decode cX11_cover 90 = .ok (.iload_n 3, 1) := by decide +kernel
theorem dX11_cover_91 : decode cX11_cover 91 = .ok (.goto 4, 3) := by decide +kernel
theorem dX11_cover_94 : decode cX11_cover 94 = .ok (.iload_n 1, 1) := by decide +kernel
theorem dX11_cover_95 : decode cX11_cover 95 = .ok (.istore_n 1, 1) := by decide +kernel
theorem dX11_cover_96 : decode cX11_cover 96 = .ok (.iinc 3 (-1), 3) := by decide +kernel
theorem dX11_cover_99 : decode cX11_cover 99 = .ok (.goto (-36), 3) := by decide +kernel
theorem dX11_cover_102 : decode cX11_cover 102 = .ok (.iload_n 1, 1) := by decide +kernel
theorem dX11_cover_103 : decode cX11_cover 103 = .ok (.ireturn, 1) := by decide +kernel
theorem dX11_isHeard_0 : decode cX11_isHeard 0 = .ok (.aload_n 0, 1) := by decide +kernel
theorem dX11_isHeard_1 : decode cX11_isHeard 1 = .ok (.iload_n 2, 1) := by decide +kernel
theorem dX11_isHeard_2 : decode cX11_isHeard 2 = .ok (.bipush 8, 2) := by decide +kernel
theorem dX11_isHeard_4 : decode cX11_isHeard 4 = .ok (.if_icmp .ne 7, 3) := by decide +kernel
theorem dX11_isHeard_7 : decode cX11_isHeard 7 = .ok (.iconst 0, 1) := by decide +kernel
theorem dX11_isHeard_8 : decode cX11_isHeard 8 = .ok (.goto 6, 3) := by decide +kernel
theorem dX11_isHeard_11 : decode cX11_isHeard 11 = .ok (.iconst 1, 1) := by decide +kernel
theorem dX11_isHeard_12 : decode cX11_isHeard 12 = .ok (.iload_n 2, 1) := by decide +kernel
theorem dX11_isHeard_13 : decode cX11_isHeard 13 = .ok (.ishl, 1) := by decide +kernel
theorem dX11_isHeard_14 : decode cX11_isHeard 14 = .ok (.putfield 313, 3) := by decide +kernel
theorem dX11_isHeard_17 : decode cX11_isHeard 17 = .ok (.aload_n 0, 1) := by decide +kernel
theorem dX11_isHeard_18 : decode cX11_isHeard 18 = .ok (.iload_n 3, 1) := by decide +kernel
theorem dX11_isHeard_19 : decode cX11_isHeard 19 = .ok (.bipush 8, 2) := by decide +kernel
theorem dX11_isHeard_21 : decode cX11_isHeard 21 = .ok (.if_icmp .ne 7, 3) := by decide +kernel
theorem dX11_isHeard_24 : decode cX11_isHeard 24 = .ok (.iconst 0, 1) := by decide +kernel
theorem dX11_isHeard_25 : decode cX11_isHeard 25 = .ok (.goto 6, 3) := by decide +kernel
theorem dX11_isHeard_28 : decode cX11_isHeard 28 = .ok (.iconst 1, 1) := by decide +kernel
theorem dX11_isHeard_29 : decode cX11_isHeard 29 = .ok (.iload_n 3, 1) := by decide +kernel
theorem dX11_isHeard_30 : decode cX11_isHeard 30 = .ok (.ishl, 1) := by decide +kernel
theorem dX11_isHeard_31 : decode cX11_isHeard 31 = .ok (.putfield 319, 3) := by decide +kernel
theorem dX11_isHeard_34 : decode cX11_isHeard 34 = .ok (.aload_n 0, 1) := by decide +kernel
theorem dX11_isHeard_35 : decode cX11_isHeard 35 = .ok (.iload_n 1, 1) := by decide +kernel
theorem dX11_isHeard_36 : decode cX11_isHeard 36 = .ok (.invokevirtual 367, 3) := by decide +kernel
theorem dX11_isHeard_39 : decode cX11_isHeard 39 = .ok (.iconst (-1), 1) := by decide +kernel
theorem dX11_isHeard_40 : decode cX11_isHeard 40 = .ok (.if_icmp .eq 7, 3) := by decide +kernel
theorem dX11_isHeard_43 : decode cX11_isHeard 43 = .ok (.iconst 1, 1) := by decide +kernel
theorem dX11_isHeard_44 : decode cX11_isHeard 44 = .ok (.goto 4, 3) := by decide +kernel
theorem dX11_isHeard_47 : decode cX11_isHeard 47 = .ok (.iconst 0, 1) := by decide +kernel
theorem dX11_isHeard_48 : decode cX11_isHeard 48 = .ok (.istore 4, 2) := by decide +kernel
theorem dX11_isHeard_50 : decode cX11_isHeard 50 = .ok (.aload_n 0, 1) := by decide +kernel
theorem dX11_isHeard_51 : decode cX11_isHeard 51 = .ok (.iconst 0, 1) := by decide +kernel
theorem dX11_isHeard_52 : decode cX11_isHeard 52 = .ok (.putfield 313, 3) := by decide +kernel
theorem dX11_isHeard_55 : decode cX11_isHeard 55 = .ok (.aload_n 0, 1) := by decide +kernel
theorem dX11_isHeard_56 : decode cX11_isHeard 56 = .ok (.iconst 0, 1) := by decide +kernel
theorem dX11_isHeard_57 : decode cX11_isHeard 57 = .ok (.putfield 319, 3) := by decide +kernel
theorem dX11_isHeard_60 : decode cX11_isHeard 60 = .ok (.iload 4, 2) := by decide +kernel
theorem dX11_isHeard_62 : decode cX11_isHeard 62 = .ok (.ireturn, 1) := by decide +kernel
theorem dX11_canBe_0 : decode cX11_canBe 0 = .ok (.iload_n 1, 1) := by decide +kernel
theorem dX11_canBe_1 : decode cX11_canBe 1 = .ok (.bipush 8, 2) := by decide +kernel
theorem dX11_canBe_3 : decode cX11_canBe 3 = .ok (.if_icmp .eq 19, 3) := by decide +kernel
theorem dX11_canBe_6 : decode cX11_canBe 6 = .ok (.iload_n 1, 1) := by decide +kernel
theorem dX11_canBe_7 : decode cX11_canBe 7 = .ok (.aload_n 0, 1) := by decide +kernel
theorem dX11_canBe_8 : decode cX11_canBe 8 = .ok (.invokevirtual 83, 3) := by decide +kernel
theorem dX11_canBe_11 : decode cX11_canBe 11 = .ok (.if_icmp .ge 15, 3) := by decide +kernel
theorem dX11_canBe_14 : decode cX11_canBe 14 = .ok (.aload_n 0, 1) := by decide +kernel
theorem dX11_canBe_15 : decode cX11_canBe 15 = .ok (.iload_n 1, 1) := by decide +kernel
theorem dX11_canBe_16 : decode cX11_canBe 16 = .ok (.invokevirtual 94, 3) := by decide +kernel
theorem dX11_canBe_19 : decode cX11_canBe 19 = .ok (.ifCond .eq 7, 3) := by decide +kernel
theorem dX11_canBe_22 : decode cX11_canBe 22 = .ok (.iconst 1, 1) := by decide +kernel
theorem dX11_canBe_23 : decode cX11_canBe 23 = .ok (.goto 4, 3) := by decide +kernel
theorem dX11_canBe_26 : decode cX11_canBe 26 = .ok (.iconst 0, 1) := by decide +kernel
theorem dX11_canBe_27 : decode cX11_canBe 27 = .ok (.ireturn, 1) := by decide +kernel
theorem dX11_rests_0 : decode cX11_rests 0 = .ok (.aload_n 0, 1) := by decide +kernel
theorem dX11_rests_1 : decode cX11_rests 1 = .ok (.iload_n 2, 1) := by decide +kernel
theorem dX11_rests_2 : decode cX11_rests 2 = .ok (.invokevirtual 428, 3) := by decide +kernel
theorem dX11_rests_5 : decode cX11_rests 5 = .ok (.ifCond .eq 15, 3) := by decide +kernel
theorem dX11_rests_8 : decode cX11_rests 8 = .ok (.aload_n 0, 1) := by decide +kernel
theorem dX11_rests_9 : decode cX11_rests 9 = .ok (.iload_n 3, 1) := by decide +kernel
theorem dX11_rests_10 : decode cX11_rests 10 = .ok (.invokevirtual 428, 3) := by decide +kernel
theorem dX11_rests_13 : decode cX11_rests 13 = .ok (.ifCond .eq 7, 3) := by decide +kernel
theorem dX11_rests_16 : decode cX11_rests 16 = .ok (.iconst 1, 1) := by decide +kernel
theorem dX11_rests_17 : decode cX11_rests 17 = .ok (.goto 4, 3) := by decide +kernel
theorem dX11_rests_20 : decode cX11_rests 20 = .ok (.iconst 0, 1) := by decide +kernel
theorem dX11_rests_21 : decode cX11_rests 21 = .ok (.istore 4, 2) := by decide +kernel
theorem dX11_rests_23 : decode cX11_rests 23 = .ok (.iload 4, 2) := by decide +kernel
theorem dX11_rests_25 : decode cX11_rests 25 = .ok (.ifCond .eq 17, 3) := by decide +kernel
theorem dX11_rests_28 : decode cX11_rests 28 = .ok (.aload_n 0, 1) := by decide +kernel
theorem dX11_rests_29 : decode cX11_rests 29 = .ok (.iload_n 1, 1) := by decide +kernel
theorem dX11_rests_30 : decode cX11_rests 30 = .ok (.iload_n 2, 1) := by decide +kernel
theorem dX11_rests_31 : decode cX11_rests 31 = .ok (.iload_n 3, 1) := by decide +kernel
theorem dX11_rests_32 : decode cX11_rests 32 = .ok (.invokevirtual 431, 3) := by decide +kernel
theorem dX11_rests_35 : decode cX11_rests 35 = .ok (.ifCond .eq 7, 3) := by decide +kernel
theorem dX11_rests_38 : decode cX11_rests 38 = .ok (.iconst 1, 1) := by decide +kernel
theorem dX11_rests_39 : decode cX11_rests 39 = .ok (.goto 4, 3) := by decide +kernel
theorem dX11_rests_42 : decode cX11_rests 42 = .ok (.iconst 0, 1) := by decide +kernel
theorem dX11_rests_43 : decode cX11_rests 43 = .ok (.istore 5, 2) := by decide +kernel
theorem dX11_rests_45 : decode cX11_rests 45 = .ok (.iconst 0, 1) := by decide +kernel
theorem dX11_rests_46 : decode cX11_rests 46 = .ok (.istore 6, 2) := by decide +kernel
theorem dX11_rests_48 : decode cX11_rests 48 = .ok (.iload 6, 2) := by decide +kernel
theorem dX11_rests_50 : decode cX11_rests 50 = .ok (.bipush 8, 2) := by decide +kernel
theorem dX11_rests_52 : decode cX11_rests 52 = .ok (.if_icmp .gt 60, 3) := by decide +kernel
theorem dX11_rests_55 : decode cX11_rests 55 = .ok (.iload 4, 2) := by decide +kernel
theorem dX11_rests_57 : decode cX11_rests 57 = .ok (.ifCond .eq 55, 3) := by decide +kernel
theorem dX11_rests_60 : decode cX11_rests 60 = .ok (.aload_n 0, 1) := by decide +kernel
theorem dX11_rests_61 : decode cX11_rests 61 = .ok (.iload 6, 2) := by decide +kernel
theorem dX11_rests_63 : decode cX11_rests 63 = .ok (.invokevirtual 428, 3) := by decide +kernel
theorem dX11_rests_66 : decode cX11_rests 66 = .ok (.ifCond .eq 33, 3) := by decide +kernel
theorem dX11_rests_69 : decode cX11_rests 69 = .ok (.iload 5, 2) := by decide +kernel
theorem dX11_rests_71 : decode cX11_rests 71 = .ok (.ifCond .eq 17, 3) := by decide +kernel
theorem dX11_rests_74 : decode cX11_rests 74 = .ok (.aload_n 0, 1) := by decide +kernel
theorem dX11_rests_75 : decode cX11_rests 75 = .ok (.iload_n 1, 1) := by decide +kernel
theorem dX11_rests_76 : decode cX11_rests 76 = .ok (.iload_n 2, 1) := by decide +kernel
theorem dX11_rests_77 : decode cX11_rests 77 = .ok (.iload 6, 2) := by decide +kernel
theorem dX11_rests_79 : decode cX11_rests 79 = .ok (.invokevirtual 431, 3) := by decide +kernel
theorem dX11_rests_82 : decode cX11_rests 82 = .ok (.ifCond .eq 21, 3) := by decide +kernel
theorem dX11_rests_85 : decode cX11_rests 85 = .ok (.goto 14, 3) := by decide +kernel
theorem dX11_rests_88 : decode cX11_rests 88 = .ok (.aload_n 0, 1) := by decide +kernel
theorem dX11_rests_89 : decode cX11_rests 89 = .ok (.iload_n 1, 1) := by decide +kernel
theorem dX11_rests_90 : decode cX11_rests 90 = .ok (.iload 6, 2) := by decide +kernel
theorem dX11_rests_92 : decode cX11_rests 92 = .ok (.iload_n 3, 1) := by decide +kernel
theorem dX11_rests_93 : decode cX11_rests 93 = .ok (.invokevirtual 431, 3) := by decide +kernel
theorem dX11_rests_96 : decode cX11_rests 96 = .ok (.ifCond .ne 7, 3) := by decide +kernel
theorem dX11_rests_99 : decode cX11_rests 99 = .ok (.iconst 1, 1) := by decide +kernel
theorem dX11_rests_100 : decode cX11_rests 100 = .ok (.goto 4, 3) := by decide +kernel
theorem dX11_rests_103 : decode cX11_rests 103 = .ok (.iconst 0, 1) := by decide +kernel
theorem dX11_rests_104 : decode cX11_rests 104 = .ok (.istore 4, 2) := by decide +kernel
theorem dX11_rests_106 : decode cX11_rests 106 = .ok (.iinc 6 1, 3) := by decide +kernel
theorem dX11_rests_109 : decode cX11_rests 109 = .ok (.goto (-61), 3) := by decide +kernel
theorem dX11_rests_112 : decode cX11_rests 112 = .ok (.iload 4, 2) := by decide +kernel
theorem dX11_rests_114 : decode cX11_rests 114 = .ok (.ireturn, 1) := by decide +kernel
theorem dX11_usher_0 : decode cX11_usher 0 = .ok (.aload_n 0, 1) := by decide +kernel
theorem dX11_usher_1 : decode cX11_usher 1 = .ok (.iconst 0, 1) := by decide +kernel
theorem dX11_usher_2 : decode cX11_usher 2 = .ok (.putfield 3, 3) := by decide +kernel
theorem dX11_usher_5 : decode cX11_usher 5 = .ok (.aload_n 0, 1) := by decide +kernel
theorem dX11_usher_6 : decode cX11_usher 6 = .ok (.aload_n 0, 1) := by decide +kernel
theorem dX11_usher_7 : decode cX11_usher 7 = .ok (.iload_n 1, 1) := by decide +kernel
theorem dX11_usher_8 : decode cX11_usher 8 = .ok (.invokevirtual 300, 3) := by decide +kernel
theorem dX11_usher_11 : decode cX11_usher 11 = .ok (.iconst 1, 1) := by decide +kernel
theorem dX11_usher_12 : decode cX11_usher 12 = .ok (.invokevirtual 262, 3) := by decide +kernel
theorem dX11_usher_15 : decode cX11_usher 15 = .ok (.ifCond .eq 5, 3) := by decide +kernel
theorem dX11_usher_18 : decode cX11_usher 18 = .ok (.iconst 0, 1) := by decide +kernel
theorem dX11_usher_19 : decode cX11_usher 19 = .ok (.ireturn, 1) := by decide +kernel
theorem dX11_usher_20 : decode cX11_usher 20 = .ok (.iconst 0, 1) := by decide +kernel
theorem dX11_usher_21 : decode cX11_usher 21 = .ok (.istore_n 2, 1) := by decide +kernel
theorem dX11_usher_22 : decode cX11_usher 22 = .ok (.iconst 0, 1) := by decide +kernel
theorem dX11_usher_23 : decode cX11_usher 23 = .ok (.istore_n 3, 1) := by decide +kernel
theorem dX11_usher_24 : decode cX11_usher 24 = .ok (.iload_n 3, 1) := by decide +kernel
theorem dX11_usher_25 : decode cX11_usher 25 = .ok (.bipush 8, 2) := by decide +kernel
theorem dX11_usher_27 : decode cX11_usher 27 = .ok (.if_icmp .gt 44, 3) := by decide +kernel
theorem dX11_usher_30 : decode cX11_usher 30 = .ok (.iconst 0, 1) := by decide +kernel
theorem dX11_usher_31 : decode cX11_usher 31 = .ok (.istore 4, 2) := by decide +kernel
theorem dX11_usher_33 : decode cX11_usher 33 = .ok (.iload 4, 2) := by decide +kernel
theorem dX11_usher_35 : decode cX11_usher 35 = .ok (.bipush 8, 2) := by decide +kernel
theorem dX11_usher_37 : decode cX11_usher 37 = .ok (.if_icmp .gt 28, 3) := by decide +kernel
theorem dX11_usher_40 : decode cX11_usher 40 = .ok (.iload_n 2, 1) := by decide +kernel
theorem dX11_usher_41 : decode cX11_usher 41 = .ok (.aload_n 0, 1) := by decide +kernel
theorem dX11_usher_42 : decode cX11_usher 42 = .ok (.iload_n 1, 1) := by decide +kernel
theorem dX11_usher_43 : decode cX11_usher 43 = .ok (.iload_n 3, 1) := by decide +kernel
theorem dX11_usher_44 : decode cX11_usher 44 = .ok (.iload 4, 2) := by decide +kernel
theorem dX11_usher_46 : decode cX11_usher 46 = .ok (.invokevirtual 434, 3) := by decide +kernel
theorem dX11_usher_49 : decode cX11_usher 49 = .ok (.ifCond .eq 7, 3) := by decide +kernel
theorem dX11_usher_52 : decode cX11_usher 52 = .ok (.iconst 1, 1) := by decide +kernel
theorem dX11_usher_53 : decode cX11_usher 53 = .ok (.goto 4, 3) := by decide +kernel
theorem dX11_usher_56 : decode cX11_usher 56 = .ok (.iconst 0, 1) := by decide +kernel
theorem dX11_usher_57 : decode cX11_usher 57 = .ok (.iadd, 1) := by decide +kernel
theorem dX11_usher_58 : decode cX11_usher 58 = .ok (.istore_n 2, 1) := by decide +kernel
theorem dX11_usher_59 : decode cX11_usher 59 = .ok (.iinc 4 1, 3) := by decide +kernel
theorem dX11_usher_62 : decode cX11_usher 62 = .ok (.goto (-29), 3) := by decide +kernel
theorem dX11_usher_65 : decode cX11_usher 65 = .ok (.iinc 3 1, 3) := by decide +kernel
theorem dX11_usher_68 : decode cX11_usher 68 = .ok (.goto (-44), 3) := by decide +kernel
theorem dX11_usher_71 : decode cX11_usher 71 = .ok (.iload_n 2, 1) := by decide +kernel
theorem dX11_usher_72 : decode cX11_usher 72 = .ok (.ireturn, 1) := by decide +kernel
theorem dX11_alike_0 : decode cX11_alike 0 = .ok (.aload_n 0, 1) := by decide +kernel
theorem dX11_alike_1 : decode cX11_alike 1 = .ok (.iconst 0, 1) := by decide +kernel
theorem dX11_alike_2 : decode cX11_alike 2 = .ok (.putfield 3, 3) := by decide +kernel
theorem dX11_alike_5 : decode cX11_alike 5 = .ok (.iconst 0, 1) := by decide +kernel
theorem dX11_alike_6 : decode cX11_alike 6 = .ok (.istore_n 1, 1) := by decide +kernel
theorem dX11_alike_7 : decode cX11_alike 7 = .ok (.iconst 0, 1) := by decide +kernel
theorem dX11_alike_8 : decode cX11_alike 8 = .ok (.istore_n 2, 1) := by decide +kernel
theorem dX11_alike_9 : decode cX11_alike 9 = .ok (.iload_n 2, 1) := by decide +kernel
theorem dX11_alike_10 : decode cX11_alike 10 = .ok (.aload_n 0, 1) := by decide +kernel
theorem dX11_alike_11 : decode cX11_alike 11 = .ok (.invokevirtual 91, 3) := by decide +kernel
theorem dX11_alike_14 : decode cX11_alike 14 = .ok (.if_icmp .ge 60, 3) := by decide +kernel
theorem dX11_alike_17 : decode cX11_alike 17 = .ok (.iconst 0, 1) := by decide +kernel
theorem dX11_alike_18 : decode cX11_alike 18 = .ok (.istore_n 3, 1) := by decide +kernel
theorem dX11_alike_19 : decode cX11_alike 19 = .ok (.iload_n 3, 1) := by decide +kernel
theorem dX11_alike_20 : decode cX11_alike 20 = .ok (.iload_n 2, 1) := by decide +kernel
theorem dX11_alike_21 : decode cX11_alike 21 = .ok (.if_icmp .ge 47, 3) := by decide +kernel
theorem dX11_alike_24 : decode cX11_alike 24 = .ok (.iload_n 1, 1) := by decide +kernel
theorem dX11_alike_25 : decode cX11_alike 25 = .ok (.aload_n 0, 1) := by decide +kernel
theorem dX11_alike_26 : decode cX11_alike 26 = .ok (.iload_n 2, 1) := by decide +kernel
theorem dX11_alike_27 : decode cX11_alike 27 = .ok (.iconst 0, 1) := by decide +kernel
theorem dX11_alike_28 : decode cX11_alike 28 = .ok (.invokevirtual 80, 3) := by decide +kernel
theorem dX11_alike_31 : decode cX11_alike 31 = .ok (.aload_n 0, 1) := by decide +kernel
theorem dX11_alike_32 : decode cX11_alike 32 = .ok (.iload_n 3, 1) := by decide +kernel
theorem dX11_alike_33 : decode cX11_alike 33 = .ok (.iconst 0, 1) := by decide +kernel
theorem dX11_alike_34 : decode cX11_alike 34 = .ok (.invokevirtual 80, 3) := by decide +kernel
theorem dX11_alike_37 : decode cX11_alike 37 = .ok (.if_icmp .ne 22, 3) := by decide +kernel
theorem dX11_alike_40 : decode cX11_alike 40 = .ok (.aload_n 0, 1) := by decide +kernel
theorem dX11_alike_41 : decode cX11_alike 41 = .ok (.iload_n 2, 1) := by decide +kernel
theorem dX11_alike_42 : decode cX11_alike 42 = .ok (.iconst 1, 1) := by decide +kernel
theorem dX11_alike_43 : decode cX11_alike 43 = .ok (.invokevirtual 80, 3) := by decide +kernel
theorem dX11_alike_46 : decode cX11_alike 46 = .ok (.aload_n 0, 1) := by decide +kernel
theorem dX11_alike_47 : decode cX11_alike 47 = .ok (.iload_n 3, 1) := by decide +kernel
theorem dX11_alike_48 : decode cX11_alike 48 = .ok (.iconst 1, 1) := by decide +kernel
theorem dX11_alike_49 : decode cX11_alike 49 = .ok (.invokevirtual 80, 3) := by decide +kernel
theorem dX11_alike_52 : decode cX11_alike 52 = .ok (.if_icmp .ne 7, 3) := by decide +kernel
theorem dX11_alike_55 : decode cX11_alike 55 = .ok (.iconst 1, 1) := by decide +kernel
theorem dX11_alike_56 : decode cX11_alike 56 = .ok (.goto 4, 3) := by decide +kernel
theorem dX11_alike_59 : decode cX11_alike 59 = .ok (.iconst 0, 1) := by decide +kernel
theorem dX11_alike_60 : decode cX11_alike 60 = .ok (.iadd, 1) := by decide +kernel
theorem dX11_alike_61 : decode cX11_alike 61 = .ok (.istore_n 1, 1) := by decide +kernel
theorem dX11_alike_62 : decode cX11_alike 62 = .ok (.iinc 3 1, 3) := by decide +kernel
theorem dX11_alike_65 : decode cX11_alike 65 = .ok (.goto (-46), 3) := by decide +kernel
theorem dX11_alike_68 : decode cX11_alike 68 = .ok (.iinc 2 1, 3) := by decide +kernel
theorem dX11_alike_71 : decode cX11_alike 71 = .ok (.goto (-62), 3) := by decide +kernel
theorem dX11_alike_74 : decode cX11_alike 74 = .ok (.iload_n 1, 1) := by decide +kernel
theorem dX11_alike_75 : decode cX11_alike 75 = .ok (.ireturn, 1) := by decide +kernel
theorem dX11_isTold_0 : decode cX11_isTold 0 = .ok (.aload_n 0, 1) := by decide +kernel
theorem dX11_isTold_1 : decode cX11_isTold 1 = .ok (.getfield 105, 3) := by decide +kernel
theorem dX11_isTold_4 : decode cX11_isTold 4 = .ok (.iconst 2, 1) := by decide +kernel
theorem dX11_isTold_5 : decode cX11_isTold 5 = .ok (.irem, 1) := by decide +kernel
theorem dX11_isTold_6 : decode cX11_isTold 6 = .ok (.ifCond .ne 26, 3) := by decide +kernel
theorem dX11_isTold_9 : decode cX11_isTold 9 = .ok (.aload_n 0, 1) := by decide +kernel
theorem dX11_isTold_10 : decode cX11_isTold 10 = .ok (.getfield 105, 3) := by decide +kernel
theorem dX11_isTold_13 : decode cX11_isTold 13 = .ok (.bipush 40, 2) := by decide +kernel
theorem dX11_isTold_15 : decode cX11_isTold 15 = .ok (.if_icmp .gt 17, 3) := by decide +kernel
theorem dX11_isTold_18 : decode cX11_isTold 18 = .ok (.iload_n 1, 1) := by decide +kernel
theorem dX11_isTold_19 : decode cX11_isTold 19 = .ok (.iconst 1, 1) := by decide +kernel
theorem dX11_isTold_20 : decode cX11_isTold 20 = .ok (.bipush 60, 2) := by decide +kernel
theorem dX11_isTold_22 : decode cX11_isTold 22 = .ok (.invokestatic 87, 3) := by decide +kernel
theorem dX11_isTold_25 : decode cX11_isTold 25 = .ok (.ifCond .eq 7, 3) := by decide +kernel
theorem dX11_isTold_28 : decode cX11_isTold 28 = .ok (.iconst 1, 1) := by decide +kernel
theorem dX11_isTold_29 : decode cX11_isTold 29 = .ok (.goto 4, 3) := by decide +kernel
theorem dX11_isTold_32 : decode cX11_isTold 32 = .ok (.iconst 0, 1) := by decide +kernel
theorem dX11_isTold_33 : decode cX11_isTold 33 = .ok (.istore_n 2, 1) := by decide +kernel
theorem dX11_isTold_34 : decode cX11_isTold 34 = .ok (.iconst 0, 1) := by decide +kernel
theorem dX11_isTold_35 : decode cX11_isTold 35 = .ok (.istore_n 3, 1) := by decide +kernel
theorem dX11_isTold_36 : decode cX11_isTold 36 = .ok (.iload_n 3, 1) := by decide +kernel
theorem dX11_isTold_37 : decode cX11_isTold 37 = .ok (.aload_n 0, 1) := by decide +kernel
theorem dX11_isTold_38 : decode cX11_isTold 38 = .ok (.getfield 105, 3) := by decide +kernel
theorem dX11_isTold_41 : decode cX11_isTold 41 = .ok (.if_icmp .ge 31, 3) := by decide +kernel
theorem dX11_isTold_44 : decode cX11_isTold 44 = .ok (.iload_n 2, 1) := by decide +kernel
theorem dX11_isTold_45 : decode cX11_isTold 45 = .ok (.ifCond .eq 27, 3) := by decide +kernel
theorem dX11_isTold_48 : decode cX11_isTold 48 = .ok (.aload_n 0, 1) := by decide +kernel
theorem dX11_isTold_49 : decode cX11_isTold 49 = .ok (.getfield 29, 3) := by decide +kernel
theorem dX11_isTold_52 : decode cX11_isTold 52 = .ok (.iload_n 3, 1) := by decide +kernel
theorem dX11_isTold_53 : decode cX11_isTold 53 = .ok (.baload, 1) := by decide +kernel
theorem dX11_isTold_54 : decode cX11_isTold 54 = .ok (.invokestatic 297, 3) := by decide +kernel
theorem dX11_isTold_57 : decode cX11_isTold 57 = .ok (.ifCond .ne 7, 3) := by decide +kernel
theorem dX11_isTold_60 : decode cX11_isTold 60 = .ok (.iconst 1, 1) := by decide +kernel
theorem dX11_isTold_61 : decode cX11_isTold 61 = .ok (.goto 4, 3) := by decide +kernel
theorem dX11_isTold_64 : decode cX11_isTold 64 = .ok (.iconst 0, 1) := by decide +kernel
theorem dX11_isTold_65 : decode cX11_isTold 65 = .ok (.istore_n 2, 1) := by decide +kernel
theorem dX11_isTold_66 : decode cX11_isTold 66 = .ok (.iinc 3 2, 3) := by decide +kernel
theorem dX11_isTold_69 : decode cX11_isTold 69 = .ok (.goto (-33), 3) := by decide +kernel
theorem dX11_isTold_72 : decode cX11_isTold 72 = .ok (.iload_n 2, 1) := by decide +kernel
theorem dX11_isTold_73 : decode cX11_isTold 73 = .ok (.ireturn, 1) := by decide +kernel
theorem dX11_fits_0 : decode cX11_fits 0 = .ok (.aload_n 0, 1) := by decide +kernel
theorem dX11_fits_1 : decode cX11_fits 1 = .ok (.iload_n 1, 1) := by decide +kernel
theorem dX11_fits_2 : decode cX11_fits 2 = .ok (.putfield 265, 3) := by decide +kernel
theorem dX11_fits_5 : decode cX11_fits 5 = .ok (.aload_n 0, 1) := by decide +kernel
theorem dX11_fits_6 : decode cX11_fits 6 = .ok (.iload_n 2, 1) := by decide +kernel
theorem dX11_fits_7 : decode cX11_fits 7 = .ok (.putfield 268, 3) := by decide +kernel
theorem dX11_fits_10 : decode cX11_fits 10 = .ok (.aload_n 0, 1) := by decide +kernel
theorem dX11_fits_11 : decode cX11_fits 11 = .ok (.iconst 0, 1) := by decide +kernel
theorem dX11_fits_12 : decode cX11_fits 12 = .ok (.putfield 271, 3) := by decide +kernel
theorem dX11_fits_15 : decode cX11_fits 15 = .ok (.aload_n 0, 1) := by decide +kernel
theorem dX11_fits_16 : decode cX11_fits 16 = .ok (.iconst 0, 1) := by decide +kernel
theorem dX11_fits_17 : decode cX11_fits 17 = .ok (.iconst 1, 1) := by decide +kernel
theorem dX11_fits_18 : decode cX11_fits 18 = .ok (.invokevirtual 348, 3) := by decide +kernel
theorem dX11_fits_21 : decode cX11_fits 21 = .ok (.pop, 1) := by decide +kernel
theorem dX11_fits_22 : decode cX11_fits 22 = .ok (.iconst 1, 1) := by decide +kernel
theorem dX11_fits_23 : decode cX11_fits 23 = .ok (.istore_n 3, 1) := by decide +kernel
theorem dX11_fits_24 : decode cX11_fits 24 = .ok (.iconst 0, 1) := by decide +kernel
theorem dX11_fits_25 : decode cX11_fits 25 = .ok (.istore 4, 2) := by decide +kernel
theorem dX11_fits_27 : decode cX11_fits 27 = .ok (.iload 4, 2) := by decide +kernel
theorem dX11_fits_29 : decode cX11_fits 29 = .ok (.aload_n 0, 1) := by decide +kernel
theorem dX11_fits_30 : decode cX11_fits 30 = .ok (.getfield 105, 3) := by decide +kernel
theorem dX11_fits_33 : decode cX11_fits 33 = .ok (.if_icmp .ge 47, 3) := by decide +kernel
theorem dX11_fits_36 : decode cX11_fits 36 = .ok (.iload_n 3, 1) := by decide +kernel
theorem dX11_fits_37 : decode cX11_fits 37 = .ok (.ifCond .eq 35, 3) := by decide +kernel
theorem dX11_fits_40 : decode cX11_fits 40 = .ok (.aload_n 0, 1) := by decide +kernel
theorem dX11_fits_41 : decode cX11_fits 41 = .ok (.getfield 45, 3) := by decide +kernel
theorem dX11_fits_44 : decode cX11_fits 44 = .ok (.aload_n 0, 1) := by decide +kernel
theorem dX11_fits_45 : decode cX11_fits 45 = .ok (.getfield 29, 3) := by decide +kernel
theorem dX11_fits_48 : decode cX11_fits 48 = .ok (.iload 4, 2) := by decide +kernel
theorem dX11_fits_50 : decode cX11_fits 50 = .ok (.baload, 1) := by decide +kernel
theorem dX11_fits_51 : decode cX11_fits 51 = .ok (.iaload, 1) := by decide +kernel
theorem dX11_fits_52 : decode cX11_fits 52 = .ok (.aload_n 0, 1) := by decide +kernel
theorem dX11_fits_53 : decode cX11_fits 53 = .ok (.getfield 29, 3) := by decide +kernel
theorem dX11_fits_56 : decode cX11_fits 56 = .ok (.iload 4, 2) := by decide +kernel
theorem dX11_fits_58 : decode cX11_fits 58 = .ok (.iconst 1, 1) := by decide +kernel
theorem dX11_fits_59 : decode cX11_fits 59 = .ok (.iadd, 1) := by decide +kernel
theorem dX11_fits_60 : decode cX11_fits 60 = .ok (.baload, 1) := by decide +kernel
theorem dX11_fits_61 : decode cX11_fits 61 = .ok (.sipush 255, 3) := by decide +kernel
theorem dX11_fits_64 : decode cX11_fits 64 = .ok (.iand, 1) := by decide +kernel
theorem dX11_fits_65 : decode cX11_fits 65 = .ok (.if_icmp .ne 7, 3) := by decide +kernel
theorem dX11_fits_68 : decode cX11_fits 68 = .ok (.iconst 1, 1) := by decide +kernel
theorem dX11_fits_69 : decode cX11_fits 69 = .ok (.goto 4, 3) := by decide +kernel
theorem dX11_fits_72 : decode cX11_fits 72 = .ok (.iconst 0, 1) := by decide +kernel
theorem dX11_fits_73 : decode cX11_fits 73 = .ok (.istore_n 3, 1) := by decide +kernel
theorem dX11_fits_74 : decode cX11_fits 74 = .ok (.iinc 4 2, 3) := by decide +kernel
theorem dX11_fits_77 : decode cX11_fits 77 = .ok (.goto (-50), 3) := by decide +kernel
theorem dX11_fits_80 : decode cX11_fits 80 = .ok (.iload_n 3, 1) := by decide +kernel
theorem dX11_fits_81 : decode cX11_fits 81 = .ok (.ireturn, 1) := by decide +kernel
theorem dX11_found_0 : decode cX11_found 0 = .ok (.aload_n 0, 1) := by decide +kernel
theorem dX11_found_1 : decode cX11_found 1 = .ok (.invokevirtual 251, 3) := by decide +kernel
theorem dX11_found_4 : decode cX11_found 4 = .ok (.aload_n 0, 1) := by decide +kernel
theorem dX11_found_5 : decode cX11_found 5 = .ok (.aload_n 0, 1) := by decide +kernel
theorem dX11_found_6 : decode cX11_found 6 = .ok (.iload_n 1, 1) := by decide +kernel
theorem dX11_found_7 : decode cX11_found 7 = .ok (.invokevirtual 437, 3) := by decide +kernel
theorem dX11_found_10 : decode cX11_found 10 = .ok (.ifCond .ne 7, 3) := by decide +kernel
theorem dX11_found_13 : decode cX11_found 13 = .ok (.iconst 1, 1) := by decide +kernel
theorem dX11_found_14 : decode cX11_found 14 = .ok (.goto 4, 3) := by decide +kernel
theorem dX11_found_17 : decode cX11_found 17 = .ok (.iconst 0, 1) := by decide +kernel
theorem dX11_found_18 : decode cX11_found 18 = .ok (.iconst 1, 1) := by decide +kernel
theorem dX11_found_19 : decode cX11_found 19 = .ok (.invokevirtual 262, 3) := by decide +kernel
theorem dX11_found_22 : decode cX11_found 22 = .ok (.ifCond .eq 5, 3) := by decide +kernel
theorem dX11_found_25 : decode cX11_found 25 = .ok (.iconst 0, 1) := by decide +kernel
theorem dX11_found_26 : decode cX11_found 26 = .ok (.ireturn, 1) := by decide +kernel
theorem dX11_found_27 : decode cX11_found 27 = .ok (.iconst 0, 1) := by decide +kernel
theorem dX11_found_28 : decode cX11_found 28 = .ok (.istore_n 3, 1) := by decide +kernel
theorem dX11_found_29 : decode cX11_found 29 = .ok (.bipush 63, 2) := by decide +kernel
theorem dX11_found_31 : decode cX11_found 31 = .ok (.istore 4, 2) := by decide +kernel
theorem dX11_found_33 : decode cX11_found 33 = .ok (.iconst 0, 1) := by decide +kernel
theorem dX11_found_34 : decode cX11_found 34 = .ok (.istore 5, 2) := by decide +kernel
theorem dX11_found_36 : decode cX11_found 36 = .ok (.iload 5, 2) := by decide +kernel
theorem dX11_found_38 : decode cX11_found 38 = .ok (.bipush 64, 2) := by decide +kernel
theorem dX11_found_40 : decode cX11_found 40 = .ok (.if_icmp .ge 32, 3) := by decide +kernel
theorem dX11_found_43 : decode cX11_found 43 = .ok (.aload_n 0, 1) := by decide +kernel
theorem dX11_found_44 : decode cX11_found 44 = .ok (.iload 5, 2) := by decide +kernel
theorem dX11_found_46 : decode cX11_found 46 = .ok (.iload_n 1, 1) := by decide +kernel
theorem dX11_found_47 : decode cX11_found 47 = .ok (.invokevirtual 440, 3) := by decide +kernel
theorem dX11_found_50 : decode cX11_found 50 = .ok (.ifCond .ne 6, 3) := by decide +kernel
theorem dX11_found_53 : decode cX11_found 53 = .ok (.goto 13, 3) := by decide +kernel
theorem dX11_found_56 : decode cX11_found 56 = .ok (.iinc 3 1, 3) := by decide +kernel
theorem dX11_found_59 : decode cX11_found 59 = .ok (.iload 4, 2) := by decide +kernel
theorem dX11_found_61 : decode cX11_found 61 = .ok (.iload 5, 2) := by decide +kernel
theorem dX11_found_63 : decode cX11_found 63 = .ok (.iand, 1) := by decide +kernel
theorem dX11_found_64 : decode cX11_found 64 = .ok (.istore 4, 2) := by decide +kernel
theorem dX11_found_66 : decode cX11_found 66 = .ok (.iinc 5 1, 3) := by decide +kernel
theorem dX11_found_69 : decode cX11_found 69 = .ok (.goto (-33), 3) := by decide +kernel
theorem dX11_found_72 : decode cX11_found 72 = .ok (.iload_n 2, 1) := by decide +kernel
theorem dX11_found_73 : decode cX11_found 73 = .ok (.ifCond .ne 7, 3) := by decide +kernel
theorem dX11_found_76 : decode cX11_found 76 = .ok (.iload_n 3, 1) := by decide +kernel
theorem dX11_found_77 : decode cX11_found 77 = .ok (.goto 13, 3) := by decide +kernel
theorem dX11_found_80 : decode cX11_found 80 = .ok (.iload_n 3, 1) := by decide +kernel
theorem dX11_found_81 : decode cX11_found 81 = .ok (.ifCond .ne 7, 3) := by decide +kernel
theorem dX11_found_84 : decode cX11_found 84 = .ok (.iconst 0, 1) := by decide +kernel
theorem dX11_found_85 : decode cX11_found 85 = .ok (.goto 5, 3) := by decide +kernel
theorem dX11_found_88 : decode cX11_found 88 = .ok (.iload 4, 2) := by decide +kernel
theorem dX11_found_90 : decode cX11_found 90 = .ok (.ireturn, 1) := by decide +kernel
theorem dX11_greatestPart_0 : decode cX11_greatestPart 0 = .ok (.iconst 0, 1) := by decide +kernel
theorem dX11_greatestPart_1 : decode cX11_greatestPart 1 = .ok (.istore_n 3, 1) := by decide +kernel
theorem dX11_greatestPart_2 : decode cX11_greatestPart 2 = .ok (.iconst 0, 1) := by decide +kernel
theorem dX11_greatestPart_3 : decode cX11_greatestPart 3 = .ok (.istore 4, 2) := by decide +kernel
theorem dX11_greatestPart_5 : decode cX11_greatestPart 5 = .ok (.iload 4, 2) := by decide +kernel
theorem dX11_greatestPart_7 : decode cX11_greatestPart 7 = .ok (.iload_n 1, 1) := by decide +kernel
theorem dX11_greatestPart_8 : decode cX11_greatestPart 8 = .ok (.if_icmp .ge 71, 3) := by decide +kernel
theorem dX11_greatestPart_11 : decode cX11_greatestPart 11 = .ok (.iconst 0, 1) := by decide +kernel
theorem dX11_greatestPart_12 : decode cX11_greatestPart 12 = .ok (.istore 5, 2) := by decide +kernel
theorem dX11_greatestPart_14 : decode cX11_greatestPart 14 = .ok (.iconst 0, 1) := by decide +kernel
theorem dX11_greatestPart_15 : decode cX11_greatestPart 15 = .ok (.istore 6, 2) := by decide +kernel
theorem dX11_greatestPart_17 : decode cX11_greatestPart 17 = .ok (.iload 6, 2) := by decide +kernel
theorem dX11_greatestPart_19 : decode cX11_greatestPart 19 = .ok (.iload_n 1, 1) := by decide +kernel
theorem dX11_greatestPart_20 : decode cX11_greatestPart 20 = .ok (.if_icmp .ge 46, 3) := by decide +kernel
theorem dX11_greatestPart_23 : decode cX11_greatestPart 23 = .ok (.iload 5, 2) := by decide +kernel
theorem dX11_greatestPart_25 : decode cX11_greatestPart 25 = .ok (.aload_n 0, 1) := by decide +kernel
theorem dX11_greatestPart_26 : decode cX11_greatestPart 26 = .ok (.getfield 60, 3) := by decide +kernel
theorem dX11_greatestPart_29 : decode cX11_greatestPart 29 = .ok (.bipush 10, 2) := by decide +kernel
theorem dX11_greatestPart_31 : decode cX11_greatestPart 31 = .ok (.iload 6, 2) := by decide +kernel
theorem dX11_greatestPart_33 : decode cX11_greatestPart 33 = .ok (.imul, 1) := by decide +kernel
theorem dX11_greatestPart_34 : decode cX11_greatestPart 34 = .ok (.iload_n 2, 1) := by decide +kernel
theorem dX11_greatestPart_35 : decode cX11_greatestPart 35 = .ok (.iadd, 1) := by decide +kernel
theorem dX11_greatestPart_36 : decode cX11_greatestPart 36 = .ok (.iaload, 1) := by decide +kernel
theorem dX11_greatestPart_37 : decode cX11_greatestPart 37 = .ok (.aload_n 0, 1) := by decide +kernel
theorem dX11_greatestPart_38 : decode cX11_greatestPart 38 = .ok (.getfield 60, 3) := by decide +kernel
theorem dX11_greatestPart_41 : decode cX11_greatestPart 41 = .ok (.bipush 10, 2) := by decide +kernel
theorem dX11_greatestPart_43 : decode cX11_greatestPart 43 = .ok (.iload 4, 2) := by decide +kernel
theorem dX11_greatestPart_45 : decode cX11_greatestPart 45 = .ok (.imul, 1) := by decide +kernel
theorem dX11_greatestPart_46 : decode cX11_greatestPart 46 = .ok (.iload_n 2, 1) := by decide +kernel
theorem dX11_greatestPart_47 : decode cX11_greatestPart 47 = .ok (.iadd, 1) := by decide +kernel
theorem dX11_greatestPart_48 : decode cX11_greatestPart 48 = .ok (.iaload, 1) := by decide +kernel
theorem dX11_greatestPart_49 : decode cX11_greatestPart 49 = .ok (.if_icmp .ne 7, 3) := by decide +kernel
theorem dX11_greatestPart_52 : decode cX11_greatestPart 52 = .ok (.iconst 1, 1) := by decide +kernel
theorem dX11_greatestPart_53 : decode cX11_greatestPart 53 = .ok (.goto 4, 3) := by decide +kernel
theorem dX11_greatestPart_56 : decode cX11_greatestPart 56 = .ok (.iconst 0, 1) := by decide +kernel
theorem dX11_greatestPart_57 : decode cX11_greatestPart 57 = .ok (.iadd, 1) := by decide +kernel
theorem dX11_greatestPart_58 : decode cX11_greatestPart 58 = .ok (.istore 5, 2) := by decide +kernel
theorem dX11_greatestPart_60 : decode cX11_greatestPart 60 = .ok (.iinc 6 1, 3) := by decide +kernel
theorem dX11_greatestPart_63 : decode cX11_greatestPart 63 = .ok (.goto (-46), 3) := by decide +kernel
theorem dX11_greatestPart_66 : decode cX11_greatestPart 66 = .ok (.iload_n 3, 1) := by decide +kernel
theorem dX11_greatestPart_67 : decode cX11_greatestPart 67 = .ok (.iload 5, 2) := by decide +kernel
theorem dX11_greatestPart_69 : decode cX11_greatestPart 69 = .ok (.invokestatic 289, 3) := by decide +kernel
theorem dX11_greatestPart_72 : decode cX11_greatestPart 72 = .ok (.istore_n 3, 1) := by decide +kernel
theorem dX11_greatestPart_73 : decode cX11_greatestPart 73 = .ok (.iinc 4 1, 3) := by decide +kernel
theorem dX11_greatestPart_76 : decode cX11_greatestPart 76 = .ok (.goto (-71), 3) := by decide +kernel
theorem dX11_greatestPart_79 : decode cX11_greatestPart 79 = .ok (.iload_n 3, 1) := by decide +kernel
theorem dX11_greatestPart_80 : decode cX11_greatestPart 80 = .ok (.ireturn, 1) := by decide +kernel
theorem dX11_ask_0 : decode cX11_ask 0 = .ok (.aload_n 0, 1) := by decide +kernel
theorem dX11_ask_1 : decode cX11_ask 1 = .ok (.invokevirtual 251, 3) := by decide +kernel
theorem dX11_ask_4 : decode cX11_ask 4 = .ok (.aload_n 0, 1) := by decide +kernel
theorem dX11_ask_5 : decode cX11_ask 5 = .ok (.aload_n 0, 1) := by decide +kernel
theorem dX11_ask_6 : decode cX11_ask 6 = .ok (.iload_n 1, 1) := by decide +kernel
theorem dX11_ask_7 : decode cX11_ask 7 = .ok (.invokevirtual 437, 3) := by decide +kernel
theorem dX11_ask_10 : decode cX11_ask 10 = .ok (.ifCond .ne 7, 3) := by decide +kernel
theorem dX11_ask_13 : decode cX11_ask 13 = .ok (.iconst 1, 1) := by decide +kernel
theorem dX11_ask_14 : decode cX11_ask 14 = .ok (.goto 4, 3) := by decide +kernel
theorem dX11_ask_17 : decode cX11_ask 17 = .ok (.iconst 0, 1) := by decide +kernel
theorem dX11_ask_18 : decode cX11_ask 18 = .ok (.iconst 1, 1) := by decide +kernel
theorem dX11_ask_19 : decode cX11_ask 19 = .ok (.invokevirtual 262, 3) := by decide +kernel
theorem dX11_ask_22 : decode cX11_ask 22 = .ok (.ifCond .eq 5, 3) := by decide +kernel
theorem dX11_ask_25 : decode cX11_ask 25 = .ok (.iconst 0, 1) := by decide +kernel
theorem dX11_ask_26 : decode cX11_ask 26 = .ok (.ireturn, 1) := by decide +kernel
theorem dX11_ask_27 : decode cX11_ask 27 = .ok (.iconst 0, 1) := by decide +kernel
theorem dX11_ask_28 : decode cX11_ask 28 = .ok (.istore_n 2, 1) := by decide +kernel
theorem dX11_ask_29 : decode cX11_ask 29 = .ok (.iconst 0, 1) := by decide +kernel
theorem dX11_ask_30 : decode cX11_ask 30 = .ok (.istore_n 3, 1) := by decide +kernel
theorem dX11_ask_31 : decode cX11_ask 31 = .ok (.iload_n 3, 1) := by decide +kernel
theorem dX11_ask_32 : decode cX11_ask 32 = .ok (.bipush 64, 2) := by decide +kernel
theorem dX11_ask_34 : decode cX11_ask 34 = .ok (.if_icmp .ge 59, 3) := by decide +kernel
theorem dX11_ask_37 : decode cX11_ask 37 = .ok (.aload_n 0, 1) := by decide +kernel
theorem dX11_ask_38 : decode cX11_ask 38 = .ok (.iload_n 3, 1) := by decide +kernel
theorem dX11_ask_39 : decode cX11_ask 39 = .ok (.iload_n 1, 1) := by decide +kernel
theorem dX11_ask_40 : decode cX11_ask 40 = .ok (.invokevirtual 440, 3) := by decide +kernel
theorem dX11_ask_43 : decode cX11_ask 43 = .ok (.ifCond .ne 6, 3) := by decide +kernel
theorem dX11_ask_46 : decode cX11_ask 46 = .ok (.goto 41, 3) := by decide +kernel
theorem dX11_ask_49 : decode cX11_ask 49 = .ok (.iconst 0, 1) := by decide +kernel
theorem dX11_ask_50 : decode cX11_ask 50 = .ok (.istore 4, 2) := by decide +kernel
theorem dX11_ask_52 : decode cX11_ask 52 = .ok (.iload 4, 2) := by decide +kernel
theorem dX11_ask_54 : decode cX11_ask 54 = .ok (.bipush 10, 2) := by decide +kernel
theorem dX11_ask_56 : decode cX11_ask 56 = .ok (.if_icmp .ge 28, 3) := by decide +kernel
theorem dX11_ask_59 : decode cX11_ask 59 = .ok (.aload_n 0, 1) := by decide +kernel
theorem dX11_ask_60 : decode cX11_ask 60 = .ok (.getfield 60, 3) := by decide +kernel
theorem dX11_ask_63 : decode cX11_ask 63 = .ok (.bipush 10, 2) := by decide +kernel
theorem dX11_ask_65 : decode cX11_ask 65 = .ok (.iload_n 2, 1) := by decide +kernel
theorem dX11_ask_66 : decode cX11_ask 66 = .ok (.imul, 1) := by decide +kernel
theorem dX11_ask_67 : decode cX11_ask 67 = .ok (.iload 4, 2) := by decide +kernel
theorem dX11_ask_69 : decode cX11_ask 69 = .ok (.iadd, 1) := by decide +kernel
theorem dX11_ask_70 : decode cX11_ask 70 = .ok (.aload_n 0, 1) := by decide +kernel
theorem dX11_ask_71 : decode cX11_ask 71 = .ok (.getfield 45, 3) := by decide +kernel
theorem dX11_ask_74 : decode cX11_ask 74 = .ok (.iload 4, 2) := by decide +kernel
theorem dX11_ask_76 : decode cX11_ask 76 = .ok (.iaload, 1) := by decide +kernel
theorem dX11_ask_77 : decode cX11_ask 77 = .ok (.iastore, 1) := by decide +kernel
theorem dX11_ask_78 : decode cX11_ask 78 = .ok (.iinc 4 1, 3) := by decide +kernel
theorem dX11_ask_81 : decode cX11_ask 81 = .ok (.goto (-29), 3) := by decide +kernel
theorem dX11_ask_84 : decode cX11_ask 84 = .ok (.iinc 2 1, 3) := by decide +kernel
theorem dX11_ask_87 : decode cX11_ask 87 = .ok (.iinc 3 1, 3) := by decide +kernel
theorem dX11_ask_90 : decode cX11_ask 90 = .ok (.goto (-59), 3) := by decide +kernel
theorem dX11_ask_93 : decode cX11_ask 93 = .ok (.iconst (-1), 1) := by decide +kernel
theorem dX11_ask_94 : decode cX11_ask 94 = .ok (.istore_n 3, 1) := by decide +kernel
theorem dX11_ask_95 : decode cX11_ask 95 = .ok (.ldc_w 414, 3) := by decide +kernel
theorem dX11_ask_98 : decode cX11_ask 98 = .ok (.istore 4, 2) := by decide +kernel
theorem dX11_ask_100 : decode cX11_ask 100 = .ok (.iconst 0, 1) := by decide +kernel
theorem dX11_ask_101 : decode cX11_ask 101 = .ok (.istore 5, 2) := by decide +kernel
theorem dX11_ask_103 : decode cX11_ask 103 = .ok (.iload 5, 2) := by decide +kernel
theorem dX11_ask_105 : decode cX11_ask 105 = .ok (.bipush 10, 2) := by decide +kernel
theorem dX11_ask_107 : decode cX11_ask 107 = .ok (.if_icmp .ge 62, 3) := by decide +kernel
theorem dX11_ask_110 : decode cX11_ask 110 = .ok (.iload_n 2, 1) := by decide +kernel
theorem dX11_ask_111 : decode cX11_ask 111 = .ok (.iconst 1, 1) := by decide +kernel
theorem dX11_ask_112 : decode cX11_ask 112 = .ok (.if_icmp .le 57, 3) := by decide +kernel
theorem dX11_ask_115 : decode cX11_ask 115 = .ok (.aload_n 0, 1) := by decide +kernel
theorem dX11_ask_116 : decode cX11_ask 116 = .ok (.iload 5, 2) := by decide +kernel
theorem dX11_ask_118 : decode cX11_ask 118 = .ok (.invokevirtual 160, 3) := by decide +kernel
theorem dX11_ask_121 : decode cX11_ask 121 = .ok (.iconst (-1), 1) := by decide +kernel
theorem dX11_ask_122 : decode cX11_ask 122 = .ok (.if_icmp .ne 9, 3) := by decide +kernel
theorem dX11_ask_125 : decode cX11_ask 125 = .ok (.ldc_w 414, 3) := by decide +kernel
theorem dX11_ask_128 : decode cX11_ask 128 = .ok (.goto 10, 3) := by decide +kernel
theorem dX11_ask_131 : decode cX11_ask 131 = .ok (.aload_n 0, 1) := by decide +kernel
theorem dX11_ask_132 : decode cX11_ask 132 = .ok (.iload_n 2, 1) := by decide +kernel
theorem dX11_ask_133 : decode cX11_ask 133 = .ok (.iload 5, 2) := by decide +kernel
theorem dX11_ask_135 : decode cX11_ask 135 = .ok (.invokevirtual 443, 3) := by decide +kernel
theorem dX11_ask_138 : decode cX11_ask 138 = .ok (.istore 6, 2) := by decide +kernel
theorem dX11_ask_140 : decode cX11_ask 140 = .ok (.iload 6, 2) := by decide +kernel
theorem dX11_ask_142 : decode cX11_ask 142 = .ok (.iload 4, 2) := by decide +kernel
theorem dX11_ask_144 : decode cX11_ask 144 = .ok (.if_icmp .ge 8, 3) := by decide +kernel
theorem dX11_ask_147 : decode cX11_ask 147 = .ok (.iload 5, 2) := by decide +kernel
theorem dX11_ask_149 : decode cX11_ask 149 = .ok (.goto 4, 3) := by decide +kernel
theorem dX11_ask_152 : decode cX11_ask 152 = .ok (.iload_n 3, 1) := by decide +kernel
theorem dX11_ask_153 : decode cX11_ask 153 = .ok (.istore_n 3, 1) := by decide +kernel
theorem dX11_ask_154 : decode cX11_ask 154 = .ok (.iload 4, 2) := by decide +kernel
theorem dX11_ask_156 : decode cX11_ask 156 = .ok (.iload 6, 2) := by decide +kernel
theorem dX11_ask_158 : decode cX11_ask 158 = .ok (.invokestatic 352, 3) := by decide +kernel
theorem dX11_ask_161 : decode cX11_ask 161 = .ok (.istore 4, 2) := by decide +kernel
theorem dX11_ask_163 : decode cX11_ask 163 = .ok (.iinc 5 1, 3) := by decide +kernel
theorem dX11_ask_166 : decode cX11_ask 166 = .ok (.goto (-63), 3) := by decide +kernel
theorem dX11_ask_169 : decode cX11_ask 169 = .ok (.iload_n 3, 1) := by decide +kernel
theorem dX11_ask_170 : decode cX11_ask 170 = .ok (.ireturn, 1) := by decide +kernel
theorem dX11_screamsBy_0 : decode cX11_screamsBy 0 = .ok (.iconst 0, 1) := by decide +kernel
theorem dX11_screamsBy_1 : decode cX11_screamsBy 1 = .ok (.istore_n 2, 1) := by decide +kernel
theorem dX11_screamsBy_2 : decode cX11_screamsBy 2 = .ok (.iconst 0, 1) := by decide +kernel
theorem dX11_screamsBy_3 : decode cX11_screamsBy 3 = .ok (.istore_n 3, 1) := by decide +kernel
theorem dX11_screamsBy_4 : decode cX11_screamsBy 4 = .ok (.iload_n 3, 1) := by decide +kernel
theorem dX11_screamsBy_5 : decode cX11_screamsBy 5 = .ok (.iload_n 1, 1) := by decide +kernel
theorem dX11_screamsBy_6 : decode cX11_screamsBy 6 = .ok (.if_icmp .ge 63, 3) := by decide +kernel
theorem dX11_screamsBy_9 : decode cX11_screamsBy 9 = .ok (.iconst 0, 1) := by decide +kernel
theorem dX11_screamsBy_10 : decode cX11_screamsBy 10 = .ok (.istore 4, 2) := by decide +kernel
theorem dX11_screamsBy_12 : decode cX11_screamsBy 12 = .ok (.iload 4, 2) := by decide +kernel
theorem dX11_screamsBy_14 : decode cX11_screamsBy 14 = .ok (.aload_n 0, 1) := by decide +kernel
theorem dX11_screamsBy_15 : decode cX11_screamsBy 15 = .ok (.invokevirtual 91, 3) := by decide +kernel
theorem dX11_screamsBy_18 : decode cX11_screamsBy 18 = .ok (.if_icmp .ge 45, 3) := by decide +kernel
theorem dX11_screamsBy_21 : decode cX11_screamsBy 21 = .ok (.aload_n 0, 1) := by decide +kernel
theorem dX11_screamsBy_22 : decode cX11_screamsBy 22 = .ok (.iload 4, 2) := by decide +kernel
theorem dX11_screamsBy_24 : decode cX11_screamsBy 24 = .ok (.invokevirtual 355, 3) := by decide +kernel
theorem dX11_screamsBy_27 : decode cX11_screamsBy 27 = .ok (.ifCond .ne 6, 3) := by decide +kernel
theorem dX11_screamsBy_30 : decode cX11_screamsBy 30 = .ok (.goto 27, 3) := by decide +kernel
theorem dX11_screamsBy_33 : decode cX11_screamsBy 33 = .ok (.aload_n 0, 1) := by decide +kernel
theorem dX11_screamsBy_34 : decode cX11_screamsBy 34 = .ok (.iload 4, 2) := by decide +kernel
theorem dX11_screamsBy_36 : decode cX11_screamsBy 36 = .ok (.invokevirtual 303, 3) := by decide +kernel
theorem dX11_screamsBy_39 : decode cX11_screamsBy 39 = .ok (.iload_n 2, 1) := by decide +kernel
theorem dX11_screamsBy_40 : decode cX11_screamsBy 40 = .ok (.aload_n 0, 1) := by decide +kernel
theorem dX11_screamsBy_41 : decode cX11_screamsBy 41 = .ok (.iconst 1, 1) := by decide +kernel
theorem dX11_screamsBy_42 : decode cX11_screamsBy 42 = .ok (.iconst 0, 1) := by decide +kernel
theorem dX11_screamsBy_43 : decode cX11_screamsBy 43 = .ok (.invokevirtual 348, 3) := by decide +kernel
theorem dX11_screamsBy_46 : decode cX11_screamsBy 46 = .ok (.iconst (-1), 1) := by decide +kernel
theorem dX11_screamsBy_47 : decode cX11_screamsBy 47 = .ok (.if_icmp .ne 7, 3) := by decide +kernel
theorem dX11_screamsBy_50 : decode cX11_screamsBy 50 = .ok (.iconst 0, 1) := by decide +kernel
theorem dX11_screamsBy_51 : decode cX11_screamsBy 51 = .ok (.goto 4, 3) := by decide +kernel
theorem dX11_screamsBy_54 : decode cX11_screamsBy 54 = .ok (.iconst 1, 1) := by decide +kernel
theorem dX11_screamsBy_55 : decode cX11_screamsBy 55 = .ok (.iadd, 1) := by decide +kernel
theorem dX11_screamsBy_56 : decode cX11_screamsBy 56 = .ok (.istore_n 2, 1) := by decide +kernel
theorem dX11_screamsBy_57 : decode cX11_screamsBy 57 = .ok (.iinc 4 1, 3) := by decide +kernel
theorem dX11_screamsBy_60 : decode cX11_screamsBy 60 = .ok (.goto (-48), 3) := by decide +kernel
theorem dX11_screamsBy_63 : decode cX11_screamsBy 63 = .ok (.iinc 3 1, 3) := by decide +kernel
theorem dX11_screamsBy_66 : decode cX11_screamsBy 66 = .ok (.goto (-62), 3) := by decide +kernel
theorem dX11_screamsBy_69 : decode cX11_screamsBy 69 = .ok (.iload_n 2, 1) := by decide +kernel
theorem dX11_screamsBy_70 : decode cX11_screamsBy 70 = .ok (.ireturn, 1) := by decide +kernel
theorem dX11_trial_0 : decode cX11_trial 0 = .ok (.aload_n 0, 1) := by decide +kernel
theorem dX11_trial_1 : decode cX11_trial 1 = .ok (.iconst 0, 1) := by decide +kernel
theorem dX11_trial_2 : decode cX11_trial 2 = .ok (.putfield 3, 3) := by decide +kernel
theorem dX11_trial_5 : decode cX11_trial 5 = .ok (.aload_n 0, 1) := by decide +kernel
theorem dX11_trial_6 : decode cX11_trial 6 = .ok (.iload_n 1, 1) := by decide +kernel
theorem dX11_trial_7 : decode cX11_trial 7 = .ok (.iconst 0, 1) := by decide +kernel
theorem dX11_trial_8 : decode cX11_trial 8 = .ok (.bipush 20, 2) := by decide +kernel
theorem dX11_trial_10 : decode cX11_trial 10 = .ok (.invokestatic 87, 3) := by decide +kernel
theorem dX11_trial_13 : decode cX11_trial 13 = .ok (.ifCond .ne 7, 3) := by decide +kernel
theorem dX11_trial_16 : decode cX11_trial 16 = .ok (.iconst 1, 1) := by decide +kernel
theorem dX11_trial_17 : decode cX11_trial 17 = .ok (.goto 4, 3) := by decide +kernel
theorem dX11_trial_20 : decode cX11_trial 20 = .ok (.iconst 0, 1) := by decide +kernel
theorem dX11_trial_21 : decode cX11_trial 21 = .ok (.iconst 1, 1) := by decide +kernel
theorem dX11_trial_22 : decode cX11_trial 22 = .ok (.invokevirtual 262, 3) := by decide +kernel
theorem dX11_trial_25 : decode cX11_trial 25 = .ok (.ifCond .eq 5, 3) := by decide +kernel
theorem dX11_trial_28 : decode cX11_trial 28 = .ok (.iconst 0, 1) := by decide +kernel
theorem dX11_trial_29 : decode cX11_trial 29 = .ok (.ireturn, 1) := by decide +kernel
theorem dX11_trial_30 : decode cX11_trial 30 = .ok (.aload_n 0, 1) := by decide +kernel
theorem dX11_trial_31 : decode cX11_trial 31 = .ok (.getfield 13, 3) := by decide +kernel
theorem dX11_trial_34 : decode cX11_trial 34 = .ok (.bipush 8, 2) := by decide +kernel
theorem dX11_trial_36 : decode cX11_trial 36 = .ok (.iaload, 1) := by decide +kernel
theorem dX11_trial_37 : decode cX11_trial 37 = .ok (.istore_n 2, 1) := by decide +kernel
theorem dX11_trial_38 : decode cX11_trial 38 = .ok (.aload_n 0, 1) := by decide +kernel
theorem dX11_trial_39 : decode cX11_trial 39 = .ok (.iload_n 1, 1) := by decide +kernel
theorem dX11_trial_40 : decode cX11_trial 40 = .ok (.invokevirtual 446, 3) := by decide +kernel
theorem dX11_trial_43 : decode cX11_trial 43 = .ok (.istore_n 3, 1) := by decide +kernel
theorem dX11_trial_44 : decode cX11_trial 44 = .ok (.aload_n 0, 1) := by decide +kernel
theorem dX11_trial_45 : decode cX11_trial 45 = .ok (.getfield 13, 3) := by decide +kernel
theorem dX11_trial_48 : decode cX11_trial 48 = .ok (.bipush 8, 2) := by decide +kernel
theorem dX11_trial_50 : decode cX11_trial 50 = .ok (.iload_n 2, 1) := by decide +kernel
theorem dX11_trial_51 : decode cX11_trial 51 = .ok (.iastore, 1) := by decide +kernel
theorem dX11_trial_52 : decode cX11_trial 52 = .ok (.iload_n 3, 1) := by decide +kernel
theorem dX11_trial_53 : decode cX11_trial 53 = .ok (.ireturn, 1) := by decide +kernel
theorem dX11_span_0 : decode cX11_span 0 = .ok (.aload_n 0, 1) := by decide +kernel
theorem dX11_span_1 : decode cX11_span 1 = .ok (.iconst 0, 1) := by decide +kernel
theorem dX11_span_2 : decode cX11_span 2 = .ok (.putfield 3, 3) := by decide +kernel
theorem dX11_span_5 : decode cX11_span 5 = .ok (.aload_n 0, 1) := by decide +kernel
theorem dX11_span_6 : decode cX11_span 6 = .ok (.iload_n 1, 1) := by decide +kernel
theorem dX11_span_7 : decode cX11_span 7 = .ok (.iconst 0, 1) := by decide +kernel
theorem dX11_span_8 : decode cX11_span 8 = .ok (.bipush 20, 2) := by decide +kernel
theorem dX11_span_10 : decode cX11_span 10 = .ok (.invokestatic 87, 3) := by decide +kernel
theorem dX11_span_13 : decode cX11_span 13 = .ok (.ifCond .ne 7, 3) := by decide +kernel
theorem dX11_span_16 : decode cX11_span 16 = .ok (.iconst 1, 1) := by decide +kernel
theorem dX11_span_17 : decode cX11_span 17 = .ok (.goto 4, 3) := by decide +kernel
theorem dX11_span_20 : decode cX11_span 20 = .ok (.iconst 0, 1) := by decide +kernel
theorem dX11_span_21 : decode cX11_span 21 = .ok (.iconst 1, 1) := by decide +kernel
theorem dX11_span_22 : decode cX11_span 22 = .ok (.invokevirtual 262, 3) := by decide +kernel
theorem dX11_span_25 : decode cX11_span 25 = .ok (.ifCond .eq 5, 3) := by decide +kernel
theorem dX11_span_28 : decode cX11_span 28 = .ok (.iconst 0, 1) := by decide +kernel
theorem dX11_span_29 : decode cX11_span 29 = .ok (.ireturn, 1) := by decide +kernel
theorem dX11_span_30 : decode cX11_span 30 = .ok (.aload_n 0, 1) := by decide +kernel
theorem dX11_span_31 : decode cX11_span 31 = .ok (.getfield 13, 3) := by decide +kernel
theorem dX11_span_34 : decode cX11_span 34 = .ok (.bipush 8, 2) := by decide +kernel
theorem dX11_span_36 : decode cX11_span 36 = .ok (.iaload, 1) := by decide +kernel
theorem dX11_span_37 : decode cX11_span 37 = .ok (.istore_n 3, 1) := by decide +kernel
theorem dX11_span_38 : decode cX11_span 38 = .ok (.iconst (-1), 1) := by decide +kernel
theorem dX11_span_39 : decode cX11_span 39 = .ok (.istore 4, 2) := by decide +kernel
theorem dX11_span_41 : decode cX11_span 41 = .ok (.iconst 1, 1) := by decide +kernel
theorem dX11_span_42 : decode cX11_span 42 = .ok (.istore 5, 2) := by decide +kernel
theorem dX11_span_44 : decode cX11_span 44 = .ok (.iload 5, 2) := by decide +kernel
theorem dX11_span_46 : decode cX11_span 46 = .ok (.bipush 6, 2) := by decide +kernel
theorem dX11_span_48 : decode cX11_span 48 = .ok (.if_icmp .gt 58, 3) := by decide +kernel
theorem dX11_span_51 : decode cX11_span 51 = .ok (.aload_n 0, 1) := by decide +kernel
theorem dX11_span_52 : decode cX11_span 52 = .ok (.getfield 13, 3) := by decide +kernel
theorem dX11_span_55 : decode cX11_span 55 = .ok (.bipush 8, 2) := by decide +kernel
theorem dX11_span_57 : decode cX11_span 57 = .ok (.iload 5, 2) := by decide +kernel
theorem dX11_span_59 : decode cX11_span 59 = .ok (.iastore, 1) := by decide +kernel
theorem dX11_span_60 : decode cX11_span 60 = .ok (.aload_n 0, 1) := by decide +kernel
theorem dX11_span_61 : decode cX11_span 61 = .ok (.iload_n 1, 1) := by decide +kernel
theorem dX11_span_62 : decode cX11_span 62 = .ok (.invokevirtual 446, 3) := by decide +kernel
theorem dX11_span_65 : decode cX11_span 65 = .ok (.istore 6, 2) := by decide +kernel
theorem dX11_span_67 : decode cX11_span 67 = .ok (.iload 4, 2) := by decide +kernel
theorem dX11_span_69 : decode cX11_span 69 = .ok (.ifCond .ge 8, 3) := by decide +kernel
theorem dX11_span_72 : decode cX11_span 72 = .ok (.iload 6, 2) := by decide +kernel
theorem dX11_span_74 : decode cX11_span 74 = .ok (.goto 24, 3) := by decide +kernel
theorem dX11_span_77 : decode cX11_span 77 = .ok (.iload_n 2, 1) := by decide +kernel
theorem dX11_span_78 : decode cX11_span 78 = .ok (.ifCond .eq 13, 3) := by decide +kernel
theorem dX11_span_81 : decode cX11_span 81 = .ok (.iload 4, 2) := by decide +kernel
theorem dX11_span_83 : decode cX11_span 83 = .ok (.iload 6, 2) := by decide +kernel
theorem dX11_span_85 : decode cX11_span 85 = .ok (.invokestatic 289, 3) := by decide +kernel
theorem dX11_span_88 : decode cX11_span 88 = .ok (.goto 10, 3) := by decide +kernel
theorem dX11_span_91 : decode cX11_span 91 = .ok (.iload 4, 2) := by decide +kernel
theorem dX11_span_93 : decode cX11_span 93 = .ok (.iload 6, 2) := by decide +kernel
theorem dX11_span_95 : decode cX11_span 95 = .ok (.invokestatic 352, 3) := by decide +kernel
theorem dX11_span_98 : decode cX11_span 98 = .ok (.istore 4, 2) := by decide +kernel
theorem dX11_span_100 : decode cX11_span 100 = .ok (.iinc 5 1, 3) := by decide +kernel
theorem dX11_span_103 : decode cX11_span 103 = .ok (.goto (-59), 3) := by decide +kernel
theorem dX11_span_106 : decode cX11_span 106 = .ok (.aload_n 0, 1) := by decide +kernel
theorem dX11_span_107 : decode cX11_span 107 = .ok (.getfield 13, 3) := by decide +kernel
theorem dX11_span_110 : decode cX11_span 110 = .ok (.bipush 8, 2) := by decide +kernel
theorem dX11_span_112 : decode cX11_span 112 = .ok (.iload_n 3, 1) := by decide +kernel
theorem dX11_span_113 : decode cX11_span 113 = .ok (.iastore, 1) := by decide +kernel
theorem dX11_span_114 : decode cX11_span 114 = .ok (.iload 4, 2) := by decide +kernel
theorem dX11_span_116 : decode cX11_span 116 = .ok (.ireturn, 1) := by decide +kernel
theorem dX11_ofLog_0 : decode cX11_ofLog 0 = .ok (.aload_n 0, 1) := by decide +kernel
theorem dX11_ofLog_1 : decode cX11_ofLog 1 = .ok (.getfield 13, 3) := by decide +kernel
theorem dX11_ofLog_4 : decode cX11_ofLog 4 = .ok (.bipush 65, 2) := by decide +kernel
theorem dX11_ofLog_6 : decode cX11_ofLog 6 = .ok (.iconst 4, 1) := by decide +kernel
theorem dX11_ofLog_7 : decode cX11_ofLog 7 = .ok (.iload_n 1, 1) := by decide +kernel
theorem dX11_ofLog_8 : decode cX11_ofLog 8 = .ok (.imul, 1) := by decide +kernel
theorem dX11_ofLog_9 : decode cX11_ofLog 9 = .ok (.iadd, 1) := by decide +kernel
theorem dX11_ofLog_10 : decode cX11_ofLog 10 = .ok (.iload_n 2, 1) := by decide +kernel
theorem dX11_ofLog_11 : decode cX11_ofLog 11 = .ok (.iadd, 1) := by decide +kernel
theorem dX11_ofLog_12 : decode cX11_ofLog 12 = .ok (.iaload, 1) := by decide +kernel
theorem dX11_ofLog_13 : decode cX11_ofLog 13 = .ok (.ireturn, 1) := by decide +kernel
theorem dX11_led_0 : decode cX11_led 0 = .ok (.aload_n 0, 1) := by decide +kernel
theorem dX11_led_1 : decode cX11_led 1 = .ok (.iconst 0, 1) := by decide +kernel
theorem dX11_led_2 : decode cX11_led 2 = .ok (.putfield 3, 3) := by decide +kernel
theorem dX11_led_5 : decode cX11_led 5 = .ok (.aload_n 0, 1) := by decide +kernel
theorem dX11_led_6 : decode cX11_led 6 = .ok (.aload_n 0, 1) := by decide +kernel
theorem dX11_led_7 : decode cX11_led 7 = .ok (.iload_n 1, 1) := by decide +kernel
theorem dX11_led_8 : decode cX11_led 8 = .ok (.invokevirtual 300, 3) := by decide +kernel
theorem dX11_led_11 : decode cX11_led 11 = .ok (.iconst 1, 1) := by decide +kernel
theorem dX11_led_12 : decode cX11_led 12 = .ok (.invokevirtual 262, 3) := by decide +kernel
theorem dX11_led_15 : decode cX11_led 15 = .ok (.ifCond .eq 5, 3) := by decide +kernel
theorem dX11_led_18 : decode cX11_led 18 = .ok (.iconst 0, 1) := by decide +kernel
theorem dX11_led_19 : decode cX11_led 19 = .ok (.ireturn, 1) := by decide +kernel
theorem dX11_led_20 : decode cX11_led 20 = .ok (.iconst 0, 1) := by decide +kernel
theorem dX11_led_21 : decode cX11_led 21 = .ok (.istore_n 3, 1) := by decide +kernel
theorem dX11_led_22 : decode cX11_led 22 = .ok (.iconst 0, 1) := by decide +kernel
theorem dX11_led_23 : decode cX11_led 23 = .ok (.istore 4, 2) := by decide +kernel
theorem dX11_led_25 : decode cX11_led 25 = .ok (.iload 4, 2) := by decide +kernel
theorem dX11_led_27 : decode cX11_led 27 = .ok (.aload_n 0, 1) := by decide +kernel
theorem dX11_led_28 : decode cX11_led 28 = .ok (.getfield 13, 3) := by decide +kernel
theorem dX11_led_31 : decode cX11_led 31 = .ok (.bipush 7, 2) := by decide +kernel
theorem dX11_led_33 : decode cX11_led 33 = .ok (.iaload, 1) := by decide +kernel
theorem dX11_led_34 : decode cX11_led 34 = .ok (.if_icmp .ge 44, 3) := by decide +kernel
theorem dX11_led_37 : decode cX11_led 37 = .ok (.iload_n 3, 1) := by decide +kernel
theorem dX11_led_38 : decode cX11_led 38 = .ok (.aload_n 0, 1) := by decide +kernel
theorem dX11_led_39 : decode cX11_led 39 = .ok (.iload 4, 2) := by decide +kernel
theorem dX11_led_41 : decode cX11_led 41 = .ok (.iconst 1, 1) := by decide +kernel
theorem dX11_led_42 : decode cX11_led 42 = .ok (.invokevirtual 449, 3) := by decide +kernel
theorem dX11_led_45 : decode cX11_led 45 = .ok (.iload_n 1, 1) := by decide +kernel
theorem dX11_led_46 : decode cX11_led 46 = .ok (.if_icmp .ne 23, 3) := by decide +kernel
theorem dX11_led_49 : decode cX11_led 49 = .ok (.iload_n 2, 1) := by decide +kernel
theorem dX11_led_50 : decode cX11_led 50 = .ok (.ifCond .eq 15, 3) := by decide +kernel
theorem dX11_led_53 : decode cX11_led 53 = .ok (.aload_n 0, 1) := by decide +kernel
theorem dX11_led_54 : decode cX11_led 54 = .ok (.iload 4, 2) := by decide +kernel
theorem dX11_led_56 : decode cX11_led 56 = .ok (.iconst 2, 1) := by decide +kernel
theorem dX11_led_57 : decode cX11_led 57 = .ok (.invokevirtual 449, 3) := by decide +kernel
theorem dX11_led_60 : decode cX11_led 60 = .ok (.bipush 10, 2) := by decide +kernel
theorem dX11_led_62 : decode cX11_led 62 = .ok (.if_icmp .ge 7, 3) := by decide +kernel
theorem dX11_led_65 : decode cX11_led 65 = .ok (.iconst 1, 1) := by decide +kernel
theorem dX11_led_66 : decode cX11_led 66 = .ok (.goto 4, 3) := by decide +kernel
theorem dX11_led_69 : decode cX11_led 69 = .ok (.iconst 0, 1) := by decide +kernel
theorem dX11_led_70 : decode cX11_led 70 = .ok (.iadd, 1) := by decide +kernel
theorem dX11_led_71 : decode cX11_led 71 = .ok (.istore_n 3, 1) := by decide +kernel
theorem dX11_led_72 : decode cX11_led 72 = .ok (.iinc 4 1, 3) := by decide +kernel
theorem dX11_led_75 : decode cX11_led 75 = .ok (.goto (-50), 3) := by decide +kernel
theorem dX11_led_78 : decode cX11_led 78 = .ok (.iload_n 3, 1) := by decide +kernel
theorem dX11_led_79 : decode cX11_led 79 = .ok (.ireturn, 1) := by decide +kernel
theorem dX11_log_0 : decode cX11_log 0 = .ok (.aload_n 0, 1) := by decide +kernel
theorem dX11_log_1 : decode cX11_log 1 = .ok (.iconst 0, 1) := by decide +kernel
theorem dX11_log_2 : decode cX11_log 2 = .ok (.putfield 3, 3) := by decide +kernel
theorem dX11_log_5 : decode cX11_log 5 = .ok (.aload_n 0, 1) := by decide +kernel
theorem dX11_log_6 : decode cX11_log 6 = .ok (.iload_n 2, 1) := by decide +kernel
theorem dX11_log_7 : decode cX11_log 7 = .ok (.iconst 0, 1) := by decide +kernel
theorem dX11_log_8 : decode cX11_log 8 = .ok (.iconst 3, 1) := by decide +kernel
theorem dX11_log_9 : decode cX11_log 9 = .ok (.invokestatic 87, 3) := by decide +kernel
theorem dX11_log_12 : decode cX11_log 12 = .ok (.ifCond .ne 7, 3) := by decide +kernel
theorem dX11_log_15 : decode cX11_log 15 = .ok (.iconst 1, 1) := by decide +kernel
theorem dX11_log_16 : decode cX11_log 16 = .ok (.goto 4, 3) := by decide +kernel
theorem dX11_log_19 : decode cX11_log 19 = .ok (.iconst 0, 1) := by decide +kernel
theorem dX11_log_20 : decode cX11_log 20 = .ok (.iconst 1, 1) := by decide +kernel
theorem dX11_log_21 : decode cX11_log 21 = .ok (.invokevirtual 262, 3) := by decide +kernel
theorem dX11_log_24 : decode cX11_log 24 = .ok (.ifCond .eq 5, 3) := by decide +kernel
theorem dX11_log_27 : decode cX11_log 27 = .ok (.iconst 0, 1) := by decide +kernel
theorem dX11_log_28 : decode cX11_log 28 = .ok (.ireturn, 1) := by decide +kernel
theorem dX11_log_29 : decode cX11_log 29 = .ok (.iload_n 1, 1) := by decide +kernel
theorem dX11_log_30 : decode cX11_log 30 = .ok (.iconst 0, 1) := by decide +kernel
theorem dX11_log_31 : decode cX11_log 31 = .ok (.aload_n 0, 1) := by decide +kernel
theorem dX11_log_32 : decode cX11_log 32 = .ok (.getfield 13, 3) := by decide +kernel
theorem dX11_log_35 : decode cX11_log 35 = .ok (.bipush 7, 2) := by decide +kernel
theorem dX11_log_37 : decode cX11_log 37 = .ok (.iaload, 1) := by decide +kernel
theorem dX11_log_38 : decode cX11_log 38 = .ok (.iconst 1, 1) := by decide +kernel
theorem dX11_log_39 : decode cX11_log 39 = .ok (.isub, 1) := by decide +kernel
theorem dX11_log_40 : decode cX11_log 40 = .ok (.invokestatic 87, 3) := by decide +kernel
theorem dX11_log_43 : decode cX11_log 43 = .ok (.ifCond .eq 12, 3) := by decide +kernel
theorem dX11_log_46 : decode cX11_log 46 = .ok (.aload_n 0, 1) := by decide +kernel
theorem dX11_log_47 : decode cX11_log 47 = .ok (.iload_n 1, 1) := by decide +kernel
theorem dX11_log_48 : decode cX11_log 48 = .ok (.iload_n 2, 1) := by decide +kernel
theorem dX11_log_49 : decode cX11_log 49 = .ok (.invokevirtual 449, 3) := by decide +kernel
theorem dX11_log_52 : decode cX11_log 52 = .ok (.goto 4, 3) := by decide +kernel
theorem dX11_log_55 : decode cX11_log 55 = .ok (.iconst (-1), 1) := by decide +kernel
theorem dX11_log_56 : decode cX11_log 56 = .ok (.ireturn, 1) := by decide +kernel
theorem dX11_seed_0 : decode cX11_seed 0 = .ok (.aload_n 0, 1) := by decide +kernel
theorem dX11_seed_1 : decode cX11_seed 1 = .ok (.iconst 0, 1) := by decide +kernel
theorem dX11_seed_2 : decode cX11_seed 2 = .ok (.putfield 3, 3) := by decide +kernel
theorem dX11_seed_5 : decode cX11_seed 5 = .ok (.aload_n 0, 1) := by decide +kernel
theorem dX11_seed_6 : decode cX11_seed 6 = .ok (.getfield 13, 3) := by decide +kernel
theorem dX11_seed_9 : decode cX11_seed 9 = .ok (.bipush 8, 2) := by decide +kernel
theorem dX11_seed_11 : decode cX11_seed 11 = .ok (.iaload, 1) := by decide +kernel
theorem dX11_seed_12 : decode cX11_seed 12 = .ok (.istore_n 2, 1) := by decide +kernel
theorem dX11_seed_13 : decode cX11_seed 13 = .ok (.aload_n 0, 1) := by decide +kernel
theorem dX11_seed_14 : decode cX11_seed 14 = .ok (.getfield 13, 3) := by decide +kernel
theorem dX11_seed_17 : decode cX11_seed 17 = .ok (.bipush 8, 2) := by decide +kernel
theorem dX11_seed_19 : decode cX11_seed 19 = .ok (.iload_n 1, 1) := by decide +kernel
theorem dX11_seed_20 : decode cX11_seed 20 = .ok (.iastore, 1) := by decide +kernel
theorem dX11_seed_21 : decode cX11_seed 21 = .ok (.iload_n 2, 1) := by decide +kernel
theorem dX11_seed_22 : decode cX11_seed 22 = .ok (.ireturn, 1) := by decide +kernel
theorem dX11_slotsWithProps_0 : decode cX11_slotsWithProps 0 = .ok (.iconst 0, 1) := by decide +kernel
theorem dX11_slotsWithProps_1 : decode cX11_slotsWithProps 1 = .ok (.istore_n 1, 1) := by decide +kernel
theorem dX11_slotsWithProps_2 : decode cX11_slotsWithProps 2 = .ok (.iconst 0, 1) := by decide +kernel
theorem dX11_slotsWithProps_3 : decode cX11_slotsWithProps 3 = .ok (.istore_n 2, 1) := by decide +kernel
theorem dX11_slotsWithProps_4 : decode cX11_slotsWithProps 4 = .ok (.iload_n 2, 1) := by decide +kernel
theorem dX11_slotsWithProps_5 : decode cX11_slotsWithProps 5 = .ok (.bipush 10, 2) := by decide +kernel
theorem dX11_slotsWithProps_7 : decode cX11_slotsWithProps 7 = .ok (.if_icmp .ge 28, 3) := by decide +kernel
theorem dX11_slotsWithProps_10 : decode cX11_slotsWithProps 10 = .ok (.iload_n 1, 1) := by decide +kernel
theorem dX11_slotsWithProps_11 : decode cX11_slotsWithProps 11 = .ok (.aload_n 0, 1) := by decide +kernel
theorem dX11_slotsWithProps_12 : decode cX11_slotsWithProps 12 = .ok (.iload_n 2, 1) := by decide +kernel
theorem dX11_slotsWithProps_13 : decode cX11_slotsWithProps 13 = .ok (.invokevirtual 160, 3) := by decide +kernel
theorem dX11_slotsWithProps_16 : decode cX11_slotsWithProps 16 = .ok (.iconst (-1), 1) := by decide +kernel
theorem dX11_slotsWithProps_17 : decode cX11_slotsWithProps 17 = .ok (.if_icmp .eq 9, 3) := by decide +kernel
theorem dX11_slotsWithProps_20 : decode cX11_slotsWithProps 20 = .ok (.iconst 1, 1) := by decide +kernel
theorem dX11_slotsWithProps_21 : decode cX11_slotsWithProps 21 = .ok (.iload_n 2, 1) := by decide +kernel
theorem dX11_slotsWithProps_22 : decode cX11_slotsWithProps 22 = .ok (.ishl, 1) := by decide +kernel
theorem dX11_slotsWithProps_23 : decode cX11_slotsWithProps 23 = .ok (.goto 4, 3) := by decide +kernel
theorem dX11_slotsWithProps_26 : decode cX11_slotsWithProps 26 = .ok (.iconst 0, 1) := by decide +kernel
theorem dX11_slotsWithProps_27 : decode cX11_slotsWithProps 27 = .ok (.ior, 1) := by decide +kernel
theorem dX11_slotsWithProps_28 : decode cX11_slotsWithProps 28 = .ok (.istore_n 1, 1) := by decide +kernel
theorem dX11_slotsWithProps_29 : decode cX11_slotsWithProps 29 = .ok (.iinc 2 1, 3) := by decide +kernel
theorem dX11_slotsWithProps_32 : decode cX11_slotsWithProps 32 = .ok (.goto (-28), 3) := by decide +kernel
theorem dX11_slotsWithProps_35 : decode cX11_slotsWithProps 35 = .ok (.iload_n 1, 1) := by decide +kernel
theorem dX11_slotsWithProps_36 : decode cX11_slotsWithProps 36 = .ok (.ireturn, 1) := by decide +kernel
theorem dX11_wornOfAll_0 : decode cX11_wornOfAll 0 = .ok (.iconst 0, 1) := by decide +kernel
theorem dX11_wornOfAll_1 : decode cX11_wornOfAll 1 = .ok (.istore_n 1, 1) := by decide +kernel
theorem dX11_wornOfAll_2 : decode cX11_wornOfAll 2 = .ok (.iconst 0, 1) := by decide +kernel
theorem dX11_wornOfAll_3 : decode cX11_wornOfAll 3 = .ok (.istore_n 2, 1) := by decide +kernel
theorem dX11_wornOfAll_4 : decode cX11_wornOfAll 4 = .ok (.iload_n 2, 1) := by decide +kernel
theorem dX11_wornOfAll_5 : decode cX11_wornOfAll 5 = .ok (.aload_n 0, 1) := by decide +kernel
theorem dX11_wornOfAll_6 : decode cX11_wornOfAll 6 = .ok (.invokevirtual 83, 3) := by decide +kernel
theorem dX11_wornOfAll_9 : decode cX11_wornOfAll 9 = .ok (.if_icmp .ge 18, 3) := by decide +kernel
theorem dX11_wornOfAll_12 : decode cX11_wornOfAll 12 = .ok (.iload_n 1, 1) := by decide +kernel
theorem dX11_wornOfAll_13 : decode cX11_wornOfAll 13 = .ok (.aload_n 0, 1) := by decide +kernel
theorem dX11_wornOfAll_14 : decode cX11_wornOfAll 14 = .ok (.iload_n 2, 1) := by decide +kernel
theorem dX11_wornOfAll_15 : decode cX11_wornOfAll 15 = .ok (.iconst 2, 1) := by decide +kernel
theorem dX11_wornOfAll_16 : decode cX11_wornOfAll 16 = .ok (.invokevirtual 74, 3) := by decide +kernel
theorem dX11_wornOfAll_19 : decode cX11_wornOfAll 19 = .ok (.iadd, 1) := by decide +kernel
theorem dX11_wornOfAll_20 : decode cX11_wornOfAll 20 = .ok (.istore_n 1, 1) := by decide +kernel
theorem dX11_wornOfAll_21 : decode cX11_wornOfAll 21 = .ok (.iinc 2 1, 3) := by decide +kernel
theorem dX11_wornOfAll_24 : decode cX11_wornOfAll 24 = .ok (.goto (-20), 3) := by decide +kernel
theorem dX11_wornOfAll_27 : decode cX11_wornOfAll 27 = .ok (.iload_n 1, 1) := by decide +kernel
theorem dX11_wornOfAll_28 : decode cX11_wornOfAll 28 = .ok (.ireturn, 1) := by decide +kernel
theorem dX11_count_0 : decode cX11_count 0 = .ok (.aload_n 0, 1) := by decide +kernel
theorem dX11_count_1 : decode cX11_count 1 = .ok (.iconst 0, 1) := by decide +kernel
theorem dX11_count_2 : decode cX11_count 2 = .ok (.putfield 3, 3) := by decide +kernel
theorem dX11_count_5 : decode cX11_count 5 = .ok (.iload_n 1, 1) := by decide +kernel
theorem dX11_count_6 : decode cX11_count 6 = .ok (.tableswitch 117 3 14 #[62, 117, 117, 117, 85, 90, 90, 90, 90, 99, 104, 112], 62) := by decide +kernel
theorem dX11_count_68 : decode cX11_count 68 = .ok (.aload_n 0, 1) := by decide +kernel
theorem dX11_count_69 : decode cX11_count 69 = .ok (.getfield 13, 3) := by decide +kernel
theorem dX11_count_72 : decode cX11_count 72 = .ok (.iconst 3, 1) := by decide +kernel
theorem dX11_count_73 : decode cX11_count 73 = .ok (.iaload, 1) := by decide +kernel
theorem dX11_count_74 : decode cX11_count 74 = .ok (.iconst 1, 1) := by decide +kernel
theorem dX11_count_75 : decode cX11_count 75 = .ok (.if_icmp .ne 14, 3) := by decide +kernel
theorem dX11_count_78 : decode cX11_count 78 = .ok (.aload_n 0, 1) := by decide +kernel
theorem dX11_count_79 : decode cX11_count 79 = .ok (.getfield 13, 3) := by decide +kernel
theorem dX11_count_82 : decode cX11_count 82 = .ok (.sipush 305, 3) := by decide +kernel
theorem dX11_count_85 : decode cX11_count 85 = .ok (.iaload, 1) := by decide +kernel
theorem dX11_count_86 : decode cX11_count 86 = .ok (.goto 4, 3) := by decide +kernel
theorem dX11_count_89 : decode cX11_count 89 = .ok (.iconst (-1), 1) := by decide +kernel
theorem dX11_count_90 : decode cX11_count 90 = .ok (.ireturn, 1) := by decide +kernel
theorem dX11_count_91 : decode cX11_count 91 = .ok (.aload_n 0, 1) := by decide +kernel
theorem dX11_count_92 : decode cX11_count 92 = .ok (.invokevirtual 452, 3) := by decide +kernel
theorem dX11_count_95 : decode cX11_count 95 = .ok (.ireturn, 1) := by decide +kernel
theorem dX11_count_96 : decode cX11_count 96 = .ok (.aload_n 0, 1) := by decide +kernel
theorem dX11_count_97 : decode cX11_count 97 = .ok (.iload_n 1, 1) := by decide +kernel
theorem dX11_count_98 : decode cX11_count 98 = .ok (.bipush 8, 2) := by decide +kernel
theorem dX11_count_100 : decode cX11_count 100 = .ok (.isub, 1) := by decide +kernel
theorem dX11_count_101 : decode cX11_count 101 = .ok (.invokevirtual 364, 3) := by decide +kernel
theorem dX11_count_104 : decode cX11_count 104 = .ok (.ireturn, 1) := by decide +kernel
theorem dX11_count_105 : decode cX11_count 105 = .ok (.aload_n 0, 1) := by decide +kernel
theorem dX11_count_106 : decode cX11_count 106 = .ok (.invokevirtual 455, 3) := by decide +kernel
theorem dX11_count_109 : decode cX11_count 109 = .ok (.ireturn, 1) := by decide +kernel
theorem dX11_count_110 : decode cX11_count 110 = .ok (.aload_n 0, 1) := by decide +kernel
theorem dX11_count_111 : decode cX11_count 111 = .ok (.getfield 13, 3) := by decide +kernel
theorem dX11_count_114 : decode cX11_count 114 = .ok (.bipush 7, 2) := by decide +kernel
theorem dX11_count_116 : decode cX11_count 116 = .ok (.iaload, 1) := by decide +kernel
theorem dX11_count_117 : decode cX11_count 117 = .ok (.ireturn, 1) := by decide +kernel
theorem dX11_count_118 : decode cX11_count 118 = .ok (.aload_n 0, 1) := by decide +kernel
theorem dX11_count_119 : decode cX11_count 119 = .ok (.getfield 67, 3) := by decide +kernel
theorem dX11_count_122 : decode cX11_count 122 = .ok (.ireturn, 1) := by decide +kernel
theorem dX11_count_123 : decode cX11_count 123 = .ok (.iload_n 1, 1) := by decide +kernel
theorem dX11_count_124 : decode cX11_count 124 = .ok (.iconst 0, 1) := by decide +kernel
theorem dX11_count_125 : decode cX11_count 125 = .ok (.bipush 6, 2) := by decide +kernel
theorem dX11_count_127 : decode cX11_count 127 = .ok (.invokestatic 87, 3) := by decide +kernel
theorem dX11_count_130 : decode cX11_count 130 = .ok (.ifCond .eq 12, 3) := by decide +kernel
theorem dX11_count_133 : decode cX11_count 133 = .ok (.aload_n 0, 1) := by decide +kernel
theorem dX11_count_134 : decode cX11_count 134 = .ok (.getfield 13, 3) := by decide +kernel
theorem dX11_count_137 : decode cX11_count 137 = .ok (.iload_n 1, 1) := by decide +kernel
theorem dX11_count_138 : decode cX11_count 138 = .ok (.iaload, 1) := by decide +kernel
theorem dX11_count_139 : decode cX11_count 139 = .ok (.goto 4, 3) := by decide +kernel
theorem dX11_count_142 : decode cX11_count 142 = .ok (.iconst (-1), 1) := by decide +kernel
theorem dX11_count_143 : decode cX11_count 143 = .ok (.ireturn, 1) := by decide +kernel
