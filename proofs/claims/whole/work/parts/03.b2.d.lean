theorem dX0_init_0 : decode cX0_init 0 = .ok (.aload_n 0, 1) := by decide +kernel
theorem dX0_init_1 : decode cX0_init 1 = .ok (.invokespecial 3, 3) := by decide +kernel
theorem dX0_init_4 : decode cX0_init 4 = .ok (.aload_n 0, 1) := by decide +kernel
theorem dX0_init_5 : decode cX0_init 5 = .ok (.iconst 0, 1) := by decide +kernel
theorem dX0_init_6 : decode cX0_init 6 = .ok (.putfield 9, 3) := by decide +kernel
theorem dX0_init_9 : decode cX0_init 9 = .ok (.aload_n 0, 1) := by decide +kernel
theorem dX0_init_10 : decode cX0_init 10 = .ok (.iconst 0, 1) := by decide +kernel
theorem dX0_init_11 : decode cX0_init 11 = .ok (.putfield 15, 3) := by decide +kernel
theorem dX0_init_14 : decode cX0_init 14 = .ok (.aload_n 0, 1) := by decide +kernel
theorem dX0_init_15 : decode cX0_init 15 = .ok (.iconst 0, 1) := by decide +kernel
theorem dX0_init_16 : decode cX0_init 16 = .ok (.putfield 18, 3) := by decide +kernel
theorem dX0_init_19 : decode cX0_init 19 = .ok (.aload_n 0, 1) := by decide +kernel
theorem dX0_init_20 : decode cX0_init 20 = .ok (.iconst 2, 1) := by decide +kernel
theorem dX0_init_21 : decode cX0_init 21 = .ok (.putfield 21, 3) := by decide +kernel
theorem dX0_init_24 : decode cX0_init 24 = .ok (.aload_n 0, 1) := by decide +kernel
theorem dX0_init_25 : decode cX0_init 25 = .ok (.bipush 10, 2) := by decide +kernel
theorem dX0_init_27 : decode cX0_init 27 = .ok (.putfield 24, 3) := by decide +kernel
theorem dX0_init_30 : decode cX0_init 30 = .ok (.aload_n 0, 1) := by decide +kernel
theorem dX0_init_31 : decode cX0_init 31 = .ok (.iconst 0, 1) := by decide +kernel
theorem dX0_init_32 : decode cX0_init 32 = .ok (.putfield 27, 3) := by decide +kernel
theorem dX0_init_35 : decode cX0_init 35 = .ok (.aload_n 0, 1) := by decide +kernel
theorem dX0_init_36 : decode cX0_init 36 = .ok (.iconst 1, 1) := by decide +kernel
theorem dX0_init_37 : decode cX0_init 37 = .ok (.putfield 30, 3) := by decide +kernel
theorem dX0_init_40 : decode cX0_init 40 = .ok (.aload_n 0, 1) := by decide +kernel
theorem dX0_init_41 : decode cX0_init 41 = .ok (.bipush 8, 2) := by decide +kernel
theorem dX0_init_43 : decode cX0_init 43 = .ok (.newarray .int, 2) := by decide +kernel
theorem dX0_init_45 : decode cX0_init 45 = .ok (.putfield 33, 3) := by decide +kernel
theorem dX0_init_48 : decode cX0_init 48 = .ok (.aload_n 0, 1) := by decide +kernel
theorem dX0_init_49 : decode cX0_init 49 = .ok (.bipush 8, 2) := by decide +kernel
theorem dX0_init_51 : decode cX0_init 51 = .ok (.newarray .int, 2) := by decide +kernel
theorem dX0_init_53 : decode cX0_init 53 = .ok (.putfield 37, 3) := by decide +kernel
theorem dX0_init_56 : decode cX0_init 56 = .ok (.aload_n 0, 1) := by decide +kernel
theorem dX0_init_57 : decode cX0_init 57 = .ok (.bipush 8, 2) := by decide +kernel
theorem dX0_init_59 : decode cX0_init 59 = .ok (.newarray .int, 2) := by decide +kernel
theorem dX0_init_61 : decode cX0_init 61 = .ok (.putfield 40, 3) := by decide +kernel
theorem dX0_init_64 : decode cX0_init 64 = .ok (.aload_n 0, 1) := by decide +kernel
theorem dX0_init_65 : decode cX0_init 65 = .ok (.bipush 8, 2) := by decide +kernel
theorem dX0_init_67 : decode cX0_init 67 = .ok (.newarray .int, 2) := by decide +kernel
theorem dX0_init_69 : decode cX0_init 69 = .ok (.putfield 43, 3) := by decide +kernel
theorem dX0_init_72 : decode cX0_init 72 = .ok (.aload_n 0, 1) := by decide +kernel
theorem dX0_init_73 : decode cX0_init 73 = .ok (.bipush 10, 2) := by decide +kernel
theorem dX0_init_75 : decode cX0_init 75 = .ok (.newarray .int, 2) := by decide +kernel
theorem dX0_init_77 : decode cX0_init 77 = .ok (.putfield 46, 3) := by decide +kernel
theorem dX0_init_80 : decode cX0_init 80 = .ok (.aload_n 0, 1) := by decide +kernel
theorem dX0_init_81 : decode cX0_init 81 = .ok (.bipush 6, 2) := by decide +kernel
theorem dX0_init_83 : decode cX0_init 83 = .ok (.newarray .int, 2) := by decide +kernel
theorem dX0_init_85 : decode cX0_init 85 = .ok (.putfield 49, 3) := by decide +kernel
theorem dX0_init_88 : decode cX0_init 88 = .ok (.aload_n 0, 1) := by decide +kernel
theorem dX0_init_89 : decode cX0_init 89 = .ok (.bipush 6, 2) := by decide +kernel
theorem dX0_init_91 : decode cX0_init 91 = .ok (.newarray .int, 2) := by decide +kernel
theorem dX0_init_93 : decode cX0_init 93 = .ok (.putfield 52, 3) := by decide +kernel
theorem dX0_init_96 : decode cX0_init 96 = .ok (.aload_n 0, 1) := by decide +kernel
theorem dX0_init_97 : decode cX0_init 97 = .ok (.bipush 6, 2) := by decide +kernel
theorem dX0_init_99 : decode cX0_init 99 = .ok (.newarray .int, 2) := by decide +kernel
theorem dX0_init_101 : decode cX0_init 101 = .ok (.putfield 55, 3) := by decide +kernel
theorem dX0_init_104 : decode cX0_init 104 = .ok (.aload_n 0, 1) := by decide +kernel
theorem dX0_init_105 : decode cX0_init 105 = .ok (.bipush 6, 2) := by decide +kernel
theorem dX0_init_107 : decode cX0_init 107 = .ok (.newarray .int, 2) := by decide +kernel
theorem dX0_init_109 : decode cX0_init 109 = .ok (.putfield 58, 3) := by decide +kernel
theorem dX0_init_112 : decode cX0_init 112 = .ok (.aload_n 0, 1) := by decide +kernel
theorem dX0_init_113 : decode cX0_init 113 = .ok (.new 61, 3) := by decide +kernel
theorem dX0_init_116 : decode cX0_init 116 = .ok (.dup, 1) := by decide +kernel
theorem dX0_init_117 : decode cX0_init 117 = .ok (.invokespecial 63, 3) := by decide +kernel
theorem dX0_init_120 : decode cX0_init 120 = .ok (.putfield 64, 3) := by decide +kernel
theorem dX0_init_123 : decode cX0_init 123 = .ok (.aload_n 0, 1) := by decide +kernel
theorem dX0_init_124 : decode cX0_init 124 = .ok (.aload_n 1, 1) := by decide +kernel
theorem dX0_init_125 : decode cX0_init 125 = .ok (.putfield 68, 3) := by decide +kernel
theorem dX0_init_128 : decode cX0_init 128 = .ok (.aload_n 0, 1) := by decide +kernel
theorem dX0_init_129 : decode cX0_init 129 = .ok (.getfield 43, 3) := by decide +kernel
theorem dX0_init_132 : decode cX0_init 132 = .ok (.iconst (-1), 1) := by decide +kernel
theorem dX0_init_133 : decode cX0_init 133 = .ok (.invokestatic 72, 3) := by decide +kernel
theorem dX0_init_136 : decode cX0_init 136 = .ok (.aload_n 0, 1) := by decide +kernel
theorem dX0_init_137 : decode cX0_init 137 = .ok (.getfield 46, 3) := by decide +kernel
theorem dX0_init_140 : decode cX0_init 140 = .ok (.iconst (-1), 1) := by decide +kernel
theorem dX0_init_141 : decode cX0_init 141 = .ok (.invokestatic 72, 3) := by decide +kernel
theorem dX0_init_144 : decode cX0_init 144 = .ok (.return_, 1) := by decide +kernel
theorem dX0_waits_0 : decode cX0_waits 0 = .ok (.aload_n 0, 1) := by decide +kernel
theorem dX0_waits_1 : decode cX0_waits 1 = .ok (.getfield 58, 3) := by decide +kernel
theorem dX0_waits_4 : decode cX0_waits 4 = .ok (.iload_n 1, 1) := by decide +kernel
theorem dX0_waits_5 : decode cX0_waits 5 = .ok (.iaload, 1) := by decide +kernel
theorem dX0_waits_6 : decode cX0_waits 6 = .ok (.ifCond .ne 7, 3) := by decide +kernel
theorem dX0_waits_9 : decode cX0_waits 9 = .ok (.iconst 1, 1) := by decide +kernel
theorem dX0_waits_10 : decode cX0_waits 10 = .ok (.goto 4, 3) := by decide +kernel
theorem dX0_waits_13 : decode cX0_waits 13 = .ok (.iconst 0, 1) := by decide +kernel
theorem dX0_waits_14 : decode cX0_waits 14 = .ok (.ireturn, 1) := by decide +kernel
theorem dX0_isInnocent_0 : decode cX0_isInnocent 0 = .ok (.aload_n 0, 1) := by decide +kernel
theorem dX0_isInnocent_1 : decode cX0_isInnocent 1 = .ok (.getfield 49, 3) := by decide +kernel
theorem dX0_isInnocent_4 : decode cX0_isInnocent 4 = .ok (.iload_n 1, 1) := by decide +kernel
theorem dX0_isInnocent_5 : decode cX0_isInnocent 5 = .ok (.iaload, 1) := by decide +kernel
theorem dX0_isInnocent_6 : decode cX0_isInnocent 6 = .ok (.ifCond .ne 7, 3) := by decide +kernel
theorem dX0_isInnocent_9 : decode cX0_isInnocent 9 = .ok (.iconst 1, 1) := by decide +kernel
theorem dX0_isInnocent_10 : decode cX0_isInnocent 10 = .ok (.goto 4, 3) := by decide +kernel
theorem dX0_isInnocent_13 : decode cX0_isInnocent 13 = .ok (.iconst 0, 1) := by decide +kernel
theorem dX0_isInnocent_14 : decode cX0_isInnocent 14 = .ok (.ireturn, 1) := by decide +kernel
theorem dX0_peopleOf_0 : decode cX0_peopleOf 0 = .ok (.iconst 0, 1) := by decide +kernel
theorem dX0_peopleOf_1 : decode cX0_peopleOf 1 = .ok (.istore_n 2, 1) := by decide +kernel
theorem dX0_peopleOf_2 : decode cX0_peopleOf 2 = .ok (.iconst 0, 1) := by decide +kernel
theorem dX0_peopleOf_3 : decode cX0_peopleOf 3 = .ok (.istore_n 3, 1) := by decide +kernel
theorem dX0_peopleOf_4 : decode cX0_peopleOf 4 = .ok (.iload_n 3, 1) := by decide +kernel
theorem dX0_peopleOf_5 : decode cX0_peopleOf 5 = .ok (.aload_n 0, 1) := by decide +kernel
theorem dX0_peopleOf_6 : decode cX0_peopleOf 6 = .ok (.getfield 15, 3) := by decide +kernel
theorem dX0_peopleOf_9 : decode cX0_peopleOf 9 = .ok (.if_icmp .ge 29, 3) := by decide +kernel
theorem dX0_peopleOf_12 : decode cX0_peopleOf 12 = .ok (.iload_n 2, 1) := by decide +kernel
theorem dX0_peopleOf_13 : decode cX0_peopleOf 13 = .ok (.aload_n 0, 1) := by decide +kernel
theorem dX0_peopleOf_14 : decode cX0_peopleOf 14 = .ok (.getfield 58, 3) := by decide +kernel
theorem dX0_peopleOf_17 : decode cX0_peopleOf 17 = .ok (.iload_n 3, 1) := by decide +kernel
theorem dX0_peopleOf_18 : decode cX0_peopleOf 18 = .ok (.iaload, 1) := by decide +kernel
theorem dX0_peopleOf_19 : decode cX0_peopleOf 19 = .ok (.iload_n 1, 1) := by decide +kernel
theorem dX0_peopleOf_20 : decode cX0_peopleOf 20 = .ok (.if_icmp .ne 9, 3) := by decide +kernel
theorem dX0_peopleOf_23 : decode cX0_peopleOf 23 = .ok (.iconst 1, 1) := by decide +kernel
theorem dX0_peopleOf_24 : decode cX0_peopleOf 24 = .ok (.iload_n 3, 1) := by decide +kernel
theorem dX0_peopleOf_25 : decode cX0_peopleOf 25 = .ok (.ishl, 1) := by decide +kernel
theorem dX0_peopleOf_26 : decode cX0_peopleOf 26 = .ok (.goto 4, 3) := by decide +kernel
theorem dX0_peopleOf_29 : decode cX0_peopleOf 29 = .ok (.iconst 0, 1) := by decide +kernel
theorem dX0_peopleOf_30 : decode cX0_peopleOf 30 = .ok (.ior, 1) := by decide +kernel
theorem dX0_peopleOf_31 : decode cX0_peopleOf 31 = .ok (.istore_n 2, 1) := by decide +kernel
theorem dX0_peopleOf_32 : decode cX0_peopleOf 32 = .ok (.iinc 3 1, 3) := by decide +kernel
theorem dX0_peopleOf_35 : decode cX0_peopleOf 35 = .ok (.goto (-31), 3) := by decide +kernel
theorem dX0_peopleOf_38 : decode cX0_peopleOf 38 = .ok (.iload_n 2, 1) := by decide +kernel
theorem dX0_peopleOf_39 : decode cX0_peopleOf 39 = .ok (.ireturn, 1) := by decide +kernel
theorem dX0_hang_0 : decode cX0_hang 0 = .ok (.aload_n 0, 1) := by decide +kernel
theorem dX0_hang_1 : decode cX0_hang 1 = .ok (.getfield 43, 3) := by decide +kernel
theorem dX0_hang_4 : decode cX0_hang 4 = .ok (.iload_n 1, 1) := by decide +kernel
theorem dX0_hang_5 : decode cX0_hang 5 = .ok (.iload_n 2, 1) := by decide +kernel
theorem dX0_hang_6 : decode cX0_hang 6 = .ok (.iastore, 1) := by decide +kernel
theorem dX0_hang_7 : decode cX0_hang 7 = .ok (.aload_n 0, 1) := by decide +kernel
theorem dX0_hang_8 : decode cX0_hang 8 = .ok (.getfield 46, 3) := by decide +kernel
theorem dX0_hang_11 : decode cX0_hang 11 = .ok (.iload_n 2, 1) := by decide +kernel
theorem dX0_hang_12 : decode cX0_hang 12 = .ok (.iload_n 1, 1) := by decide +kernel
theorem dX0_hang_13 : decode cX0_hang 13 = .ok (.iastore, 1) := by decide +kernel
theorem dX0_hang_14 : decode cX0_hang 14 = .ok (.return_, 1) := by decide +kernel
theorem dX0_become_0 : decode cX0_become 0 = .ok (.aload_n 0, 1) := by decide +kernel
theorem dX0_become_1 : decode cX0_become 1 = .ok (.aload_n 1, 1) := by decide +kernel
theorem dX0_become_2 : decode cX0_become 2 = .ok (.getfield 9, 3) := by decide +kernel
theorem dX0_become_5 : decode cX0_become 5 = .ok (.putfield 9, 3) := by decide +kernel
theorem dX0_become_8 : decode cX0_become 8 = .ok (.aload_n 0, 1) := by decide +kernel
theorem dX0_become_9 : decode cX0_become 9 = .ok (.aload_n 1, 1) := by decide +kernel
theorem dX0_become_10 : decode cX0_become 10 = .ok (.getfield 15, 3) := by decide +kernel
theorem dX0_become_13 : decode cX0_become 13 = .ok (.putfield 15, 3) := by decide +kernel
theorem dX0_become_16 : decode cX0_become 16 = .ok (.aload_n 0, 1) := by decide +kernel
theorem dX0_become_17 : decode cX0_become 17 = .ok (.aload_n 1, 1) := by decide +kernel
theorem dX0_become_18 : decode cX0_become 18 = .ok (.getfield 18, 3) := by decide +kernel
theorem dX0_become_21 : decode cX0_become 21 = .ok (.putfield 18, 3) := by decide +kernel
theorem dX0_become_24 : decode cX0_become 24 = .ok (.aload_n 0, 1) := by decide +kernel
theorem dX0_become_25 : decode cX0_become 25 = .ok (.aload_n 1, 1) := by decide +kernel
theorem dX0_become_26 : decode cX0_become 26 = .ok (.getfield 21, 3) := by decide +kernel
theorem dX0_become_29 : decode cX0_become 29 = .ok (.putfield 21, 3) := by decide +kernel
theorem dX0_become_32 : decode cX0_become 32 = .ok (.aload_n 0, 1) := by decide +kernel
theorem dX0_become_33 : decode cX0_become 33 = .ok (.aload_n 1, 1) := by decide +kernel
theorem dX0_become_34 : decode cX0_become 34 = .ok (.getfield 24, 3) := by decide +kernel
theorem dX0_become_37 : decode cX0_become 37 = .ok (.putfield 24, 3) := by decide +kernel
theorem dX0_become_40 : decode cX0_become 40 = .ok (.aload_n 0, 1) := by decide +kernel
theorem dX0_become_41 : decode cX0_become 41 = .ok (.aload_n 1, 1) := by decide +kernel
theorem dX0_become_42 : decode cX0_become 42 = .ok (.getfield 27, 3) := by decide +kernel
theorem dX0_become_45 : decode cX0_become 45 = .ok (.putfield 27, 3) := by decide +kernel
theorem dX0_become_48 : decode cX0_become 48 = .ok (.aload_n 0, 1) := by decide +kernel
theorem dX0_become_49 : decode cX0_become 49 = .ok (.aload_n 1, 1) := by decide +kernel
theorem dX0_become_50 : decode cX0_become 50 = .ok (.getfield 30, 3) := by decide +kernel
theorem dX0_become_53 : decode cX0_become 53 = .ok (.putfield 30, 3) := by decide +kernel
theorem dX0_become_56 : decode cX0_become 56 = .ok (.aload_n 1, 1) := by decide +kernel
theorem dX0_become_57 : decode cX0_become 57 = .ok (.getfield 33, 3) := by decide +kernel
theorem dX0_become_60 : decode cX0_become 60 = .ok (.iconst 0, 1) := by decide +kernel
theorem dX0_become_61 : decode cX0_become 61 = .ok (.aload_n 0, 1) := by decide +kernel
theorem dX0_become_62 : decode cX0_become 62 = .ok (.getfield 33, 3) := by decide +kernel
theorem dX0_become_65 : decode cX0_become 65 = .ok (.iconst 0, 1) := by decide +kernel
theorem dX0_become_66 : decode cX0_become 66 = .ok (.bipush 8, 2) := by decide +kernel
theorem dX0_become_68 : decode cX0_become 68 = .ok (.invokestatic 78, 3) := by decide +kernel
theorem dX0_become_71 : decode cX0_become 71 = .ok (.aload_n 1, 1) := by decide +kernel
theorem dX0_become_72 : decode cX0_become 72 = .ok (.getfield 37, 3) := by decide +kernel
theorem dX0_become_75 : decode cX0_become 75 = .ok (.iconst 0, 1) := by decide +kernel
theorem dX0_become_76 : decode cX0_become 76 = .ok (.aload_n 0, 1) := by decide +kernel
theorem dX0_become_77 : decode cX0_become 77 = .ok (.getfield 37, 3) := by decide +kernel
theorem dX0_become_80 : decode cX0_become 80 = .ok (.iconst 0, 1) := by decide +kernel
theorem dX0_become_81 : decode cX0_become 81 = .ok (.bipush 8, 2) := by decide +kernel
theorem dX0_become_83 : decode cX0_become 83 = .ok (.invokestatic 78, 3) := by decide +kernel
theorem dX0_become_86 : decode cX0_become 86 = .ok (.aload_n 1, 1) := by decide +kernel
theorem dX0_become_87 : decode cX0_become 87 = .ok (.getfield 40, 3) := by decide +kernel
theorem dX0_become_90 : decode cX0_become 90 = .ok (.iconst 0, 1) := by decide +kernel
theorem dX0_become_91 : decode cX0_become 91 = .ok (.aload_n 0, 1) := by decide +kernel
theorem dX0_become_92 : decode cX0_become 92 = .ok (.getfield 40, 3) := by decide +kernel
theorem dX0_become_95 : decode cX0_become 95 = .ok (.iconst 0, 1) := by decide +kernel
theorem dX0_become_96 : decode cX0_become 96 = .ok (.bipush 8, 2) := by decide +kernel
theorem dX0_become_98 : decode cX0_become 98 = .ok (.invokestatic 78, 3) := by decide +kernel
theorem dX0_become_101 : decode cX0_become 101 = .ok (.aload_n 1, 1) := by decide +kernel
theorem dX0_become_102 : decode cX0_become 102 = .ok (.getfield 43, 3) := by decide +kernel
theorem dX0_become_105 : decode cX0_become 105 = .ok (.iconst 0, 1) := by decide +kernel
theorem dX0_become_106 : decode cX0_become 106 = .ok (.aload_n 0, 1) := by decide +kernel
theorem dX0_become_107 : decode cX0_become 107 = .ok (.getfield 43, 3) := by decide +kernel
theorem dX0_become_110 : decode cX0_become 110 = .ok (.iconst 0, 1) := by decide +kernel
theorem dX0_become_111 : decode cX0_become 111 = .ok (.bipush 8, 2) := by decide +kernel
theorem dX0_become_113 : decode cX0_become 113 = .ok (.invokestatic 78, 3) := by decide +kernel
theorem dX0_become_116 : decode cX0_become 116 = .ok (.aload_n 1, 1) := by decide +kernel
theorem dX0_become_117 : decode cX0_become 117 = .ok (.getfield 46, 3) := by decide +kernel
theorem dX0_become_120 : decode cX0_become 120 = .ok (.iconst 0, 1) := by decide +kernel
theorem dX0_become_121 : decode cX0_become 121 = .ok (.aload_n 0, 1) := by decide +kernel
theorem dX0_become_122 : decode cX0_become 122 = .ok (.getfield 46, 3) := by decide +kernel
theorem dX0_become_125 : decode cX0_become 125 = .ok (.iconst 0, 1) := by decide +kernel
theorem dX0_become_126 : decode cX0_become 126 = .ok (.bipush 10, 2) := by decide +kernel
theorem dX0_become_128 : decode cX0_become 128 = .ok (.invokestatic 78, 3) := by decide +kernel
theorem dX0_become_131 : decode cX0_become 131 = .ok (.aload_n 1, 1) := by decide +kernel
theorem dX0_become_132 : decode cX0_become 132 = .ok (.getfield 49, 3) := by decide +kernel
theorem dX0_become_135 : decode cX0_become 135 = .ok (.iconst 0, 1) := by decide +kernel
theorem dX0_become_136 : decode cX0_become 136 = .ok (.aload_n 0, 1) := by decide +kernel
theorem dX0_become_137 : decode cX0_become 137 = .ok (.getfield 49, 3) := by decide +kernel
theorem dX0_become_140 : decode cX0_become 140 = .ok (.iconst 0, 1) := by decide +kernel
theorem dX0_become_141 : decode cX0_become 141 = .ok (.bipush 6, 2) := by decide +kernel
theorem dX0_become_143 : decode cX0_become 143 = .ok (.invokestatic 78, 3) := by decide +kernel
theorem dX0_become_146 : decode cX0_become 146 = .ok (.aload_n 1, 1) := by decide +kernel
theorem dX0_become_147 : decode cX0_become 147 = .ok (.getfield 52, 3) := by decide +kernel
theorem dX0_become_150 : decode cX0_become 150 = .ok (.iconst 0, 1) := by decide +kernel
theorem dX0_become_151 : decode cX0_become 151 = .ok (.aload_n 0, 1) := by decide +kernel
theorem dX0_become_152 : decode cX0_become 152 = .ok (.getfield 52, 3) := by decide +kernel
theorem dX0_become_155 : decode cX0_become 155 = .ok (.iconst 0, 1) := by decide +kernel
theorem dX0_become_156 : decode cX0_become 156 = .ok (.bipush 6, 2) := by decide +kernel
theorem dX0_become_158 : decode cX0_become 158 = .ok (.invokestatic 78, 3) := by decide +kernel
theorem dX0_become_161 : decode cX0_become 161 = .ok (.aload_n 1, 1) := by decide +kernel
theorem dX0_become_162 : decode cX0_become 162 = .ok (.getfield 55, 3) := by decide +kernel
theorem dX0_become_165 : decode cX0_become 165 = .ok (.iconst 0, 1) := by decide +kernel
theorem dX0_become_166 : decode cX0_become 166 = .ok (.aload_n 0, 1) := by decide +kernel
theorem dX0_become_167 : decode cX0_become 167 = .ok (.getfield 55, 3) := by decide +kernel
theorem dX0_become_170 : decode cX0_become 170 = .ok (.iconst 0, 1) := by decide +kernel
theorem dX0_become_171 : decode cX0_become 171 = .ok (.bipush 6, 2) := by decide +kernel
theorem dX0_become_173 : decode cX0_become 173 = .ok (.invokestatic 78, 3) := by decide +kernel
theorem dX0_become_176 : decode cX0_become 176 = .ok (.aload_n 1, 1) := by decide +kernel
theorem dX0_become_177 : decode cX0_become 177 = .ok (.getfield 58, 3) := by decide +kernel
theorem dX0_become_180 : decode cX0_become 180 = .ok (.iconst 0, 1) := by decide +kernel
theorem dX0_become_181 : decode cX0_become 181 = .ok (.aload_n 0, 1) := by decide +kernel
theorem dX0_become_182 : decode cX0_become 182 = .ok (.getfield 58, 3) := by decide +kernel
theorem dX0_become_185 : decode cX0_become 185 = .ok (.iconst 0, 1) := by decide +kernel
theorem dX0_become_186 : decode cX0_become 186 = .ok (.bipush 6, 2) := by decide +kernel
theorem dX0_become_188 : decode cX0_become 188 = .ok (.invokestatic 78, 3) := by decide +kernel
theorem dX0_become_191 : decode cX0_become 191 = .ok (.aload_n 0, 1) := by decide +kernel
theorem dX0_become_192 : decode cX0_become 192 = .ok (.getfield 64, 3) := by decide +kernel
theorem dX0_become_195 : decode cX0_become 195 = .ok (.aload_n 1, 1) := by decide +kernel
theorem dX0_become_196 : decode cX0_become 196 = .ok (.getfield 64, 3) := by decide +kernel
theorem dX0_become_199 : decode cX0_become 199 = .ok (.invokevirtual 84, 3) := by decide +kernel
theorem dX0_become_202 : decode cX0_become 202 = .ok (.aload_n 0, 1) := by decide +kernel
theorem dX0_become_203 : decode cX0_become 203 = .ok (.aload_n 1, 1) := by decide +kernel
theorem dX0_become_204 : decode cX0_become 204 = .ok (.getfield 68, 3) := by decide +kernel
theorem dX0_become_207 : decode cX0_become 207 = .ok (.putfield 68, 3) := by decide +kernel
theorem dX0_become_210 : decode cX0_become 210 = .ok (.return_, 1) := by decide +kernel
theorem dX1_init_0 : decode cX1_init 0 = .ok (.aload_n 0, 1) := by decide +kernel
theorem dX1_init_1 : decode cX1_init 1 = .ok (.invokespecial 3, 3) := by decide +kernel
theorem dX1_init_4 : decode cX1_init 4 = .ok (.aload_n 0, 1) := by decide +kernel
theorem dX1_init_5 : decode cX1_init 5 = .ok (.aload_n 1, 1) := by decide +kernel
theorem dX1_init_6 : decode cX1_init 6 = .ok (.putfield 9, 3) := by decide +kernel
theorem dX1_init_9 : decode cX1_init 9 = .ok (.aload_n 0, 1) := by decide +kernel
theorem dX1_init_10 : decode cX1_init 10 = .ok (.aload_n 2, 1) := by decide +kernel
theorem dX1_init_11 : decode cX1_init 11 = .ok (.putfield 15, 3) := by decide +kernel
theorem dX1_init_14 : decode cX1_init 14 = .ok (.return_, 1) := by decide +kernel
theorem dX1_read_0 : decode cX1_read 0 = .ok (.aload_n 0, 1) := by decide +kernel
theorem dX1_read_1 : decode cX1_read 1 = .ok (.getfield 9, 3) := by decide +kernel
theorem dX1_read_4 : decode cX1_read 4 = .ok (.invokevirtual 19, 3) := by decide +kernel
theorem dX1_read_7 : decode cX1_read 7 = .ok (.aload_n 0, 1) := by decide +kernel
theorem dX1_read_8 : decode cX1_read 8 = .ok (.getfield 9, 3) := by decide +kernel
theorem dX1_read_11 : decode cX1_read 11 = .ok (.invokevirtual 24, 3) := by decide +kernel
theorem dX1_read_14 : decode cX1_read 14 = .ok (.ifCond .eq 5, 3) := by decide +kernel
theorem dX1_read_17 : decode cX1_read 17 = .ok (.iconst 1, 1) := by decide +kernel
theorem dX1_read_18 : decode cX1_read 18 = .ok (.ireturn, 1) := by decide +kernel
theorem dX1_read_19 : decode cX1_read 19 = .ok (.iconst 0, 1) := by decide +kernel
theorem dX1_read_20 : decode cX1_read 20 = .ok (.istore_n 1, 1) := by decide +kernel
theorem dX1_read_21 : decode cX1_read 21 = .ok (.iload_n 1, 1) := by decide +kernel
theorem dX1_read_22 : decode cX1_read 22 = .ok (.bipush 14, 2) := by decide +kernel
theorem dX1_read_24 : decode cX1_read 24 = .ok (.if_icmp .ge 44, 3) := by decide +kernel
theorem dX1_read_27 : decode cX1_read 27 = .ok (.aload_n 0, 1) := by decide +kernel
theorem dX1_read_28 : decode cX1_read 28 = .ok (.invokevirtual 28, 3) := by decide +kernel
theorem dX1_read_31 : decode cX1_read 31 = .ok (.ifCond .ne 5, 3) := by decide +kernel
theorem dX1_read_34 : decode cX1_read 34 = .ok (.iconst 0, 1) := by decide +kernel
theorem dX1_read_35 : decode cX1_read 35 = .ok (.ireturn, 1) := by decide +kernel
theorem dX1_read_36 : decode cX1_read 36 = .ok (.aload_n 0, 1) := by decide +kernel
theorem dX1_read_37 : decode cX1_read 37 = .ok (.getfield 9, 3) := by decide +kernel
theorem dX1_read_40 : decode cX1_read 40 = .ok (.invokevirtual 24, 3) := by decide +kernel
theorem dX1_read_43 : decode cX1_read 43 = .ok (.ifCond .eq 5, 3) := by decide +kernel
theorem dX1_read_46 : decode cX1_read 46 = .ok (.iconst 1, 1) := by decide +kernel
theorem dX1_read_47 : decode cX1_read 47 = .ok (.ireturn, 1) := by decide +kernel
theorem dX1_read_48 : decode cX1_read 48 = .ok (.aload_n 0, 1) := by decide +kernel
theorem dX1_read_49 : decode cX1_read 49 = .ok (.getfield 9, 3) := by decide +kernel
theorem dX1_read_52 : decode cX1_read 52 = .ok (.bipush 59, 2) := by decide +kernel
theorem dX1_read_54 : decode cX1_read 54 = .ok (.invokevirtual 31, 3) := by decide +kernel
theorem dX1_read_57 : decode cX1_read 57 = .ok (.ifCond .ne 5, 3) := by decide +kernel
theorem dX1_read_60 : decode cX1_read 60 = .ok (.iconst 0, 1) := by decide +kernel
theorem dX1_read_61 : decode cX1_read 61 = .ok (.ireturn, 1) := by decide +kernel
theorem dX1_read_62 : decode cX1_read 62 = .ok (.iinc 1 1, 3) := by decide +kernel
theorem dX1_read_65 : decode cX1_read 65 = .ok (.goto (-44), 3) := by decide +kernel
theorem dX1_read_68 : decode cX1_read 68 = .ok (.iconst 0, 1) := by decide +kernel
theorem dX1_read_69 : decode cX1_read 69 = .ok (.ireturn, 1) := by decide +kernel
theorem dX1_readLine_0 : decode cX1_readLine 0 = .ok (.aload_n 0, 1) := by decide +kernel
theorem dX1_readLine_1 : decode cX1_readLine 1 = .ok (.getfield 9, 3) := by decide +kernel
theorem dX1_readLine_4 : decode cX1_readLine 4 = .ok (.ldc2_w 35, 3) := by decide +kernel
theorem dX1_readLine_7 : decode cX1_readLine 7 = .ok (.invokevirtual 37, 3) := by decide +kernel
theorem dX1_readLine_10 : decode cX1_readLine 10 = .ok (.ifCond .eq 28, 3) := by decide +kernel
theorem dX1_readLine_13 : decode cX1_readLine 13 = .ok (.aload_n 0, 1) := by decide +kernel
theorem dX1_readLine_14 : decode cX1_readLine 14 = .ok (.getfield 15, 3) := by decide +kernel
theorem dX1_readLine_17 : decode cX1_readLine 17 = .ok (.getfield 41, 3) := by decide +kernel
theorem dX1_readLine_20 : decode cX1_readLine 20 = .ok (.bipush 8, 2) := by decide +kernel
theorem dX1_readLine_22 : decode cX1_readLine 22 = .ok (.if_icmp .ge 14, 3) := by decide +kernel
theorem dX1_readLine_25 : decode cX1_readLine 25 = .ok (.aload_n 0, 1) := by decide +kernel
theorem dX1_readLine_26 : decode cX1_readLine 26 = .ok (.invokevirtual 47, 3) := by decide +kernel
theorem dX1_readLine_29 : decode cX1_readLine 29 = .ok (.ifCond .eq 7, 3) := by decide +kernel
theorem dX1_readLine_32 : decode cX1_readLine 32 = .ok (.iconst 1, 1) := by decide +kernel
theorem dX1_readLine_33 : decode cX1_readLine 33 = .ok (.goto 4, 3) := by decide +kernel
theorem dX1_readLine_36 : decode cX1_readLine 36 = .ok (.iconst 0, 1) := by decide +kernel
theorem dX1_readLine_37 : decode cX1_readLine 37 = .ok (.ireturn, 1) := by decide +kernel
theorem dX1_readLine_38 : decode cX1_readLine 38 = .ok (.aload_n 0, 1) := by decide +kernel
theorem dX1_readLine_39 : decode cX1_readLine 39 = .ok (.getfield 9, 3) := by decide +kernel
theorem dX1_readLine_42 : decode cX1_readLine 42 = .ok (.ldc2_w 50, 3) := by decide +kernel
theorem dX1_readLine_45 : decode cX1_readLine 45 = .ok (.invokevirtual 37, 3) := by decide +kernel
theorem dX1_readLine_48 : decode cX1_readLine 48 = .ok (.ifCond .eq 28, 3) := by decide +kernel
theorem dX1_readLine_51 : decode cX1_readLine 51 = .ok (.aload_n 0, 1) := by decide +kernel
theorem dX1_readLine_52 : decode cX1_readLine 52 = .ok (.getfield 15, 3) := by decide +kernel
theorem dX1_readLine_55 : decode cX1_readLine 55 = .ok (.getfield 52, 3) := by decide +kernel
theorem dX1_readLine_58 : decode cX1_readLine 58 = .ok (.bipush 6, 2) := by decide +kernel
theorem dX1_readLine_60 : decode cX1_readLine 60 = .ok (.if_icmp .ge 14, 3) := by decide +kernel
theorem dX1_readLine_63 : decode cX1_readLine 63 = .ok (.aload_n 0, 1) := by decide +kernel
theorem dX1_readLine_64 : decode cX1_readLine 64 = .ok (.invokevirtual 55, 3) := by decide +kernel
theorem dX1_readLine_67 : decode cX1_readLine 67 = .ok (.ifCond .eq 7, 3) := by decide +kernel
theorem dX1_readLine_70 : decode cX1_readLine 70 = .ok (.iconst 1, 1) := by decide +kernel
theorem dX1_readLine_71 : decode cX1_readLine 71 = .ok (.goto 4, 3) := by decide +kernel
theorem dX1_readLine_74 : decode cX1_readLine 74 = .ok (.iconst 0, 1) := by decide +kernel
theorem dX1_readLine_75 : decode cX1_readLine 75 = .ok (.ireturn, 1) := by decide +kernel
theorem dX1_readLine_76 : decode cX1_readLine 76 = .ok (.aload_n 0, 1) := by decide +kernel
theorem dX1_readLine_77 : decode cX1_readLine 77 = .ok (.getfield 9, 3) := by decide +kernel
theorem dX1_readLine_80 : decode cX1_readLine 80 = .ok (.ldc2_w 58, 3) := by decide +kernel
theorem dX1_readLine_83 : decode cX1_readLine 83 = .ok (.invokevirtual 60, 3) := by decide +kernel
theorem dX1_readLine_86 : decode cX1_readLine 86 = .ok (.ifCond .eq 30, 3) := by decide +kernel
theorem dX1_readLine_89 : decode cX1_readLine 89 = .ok (.aload_n 0, 1) := by decide +kernel
theorem dX1_readLine_90 : decode cX1_readLine 90 = .ok (.iconst 0, 1) := by decide +kernel
theorem dX1_readLine_91 : decode cX1_readLine 91 = .ok (.bipush 9, 2) := by decide +kernel
theorem dX1_readLine_93 : decode cX1_readLine 93 = .ok (.invokevirtual 63, 3) := by decide +kernel
theorem dX1_readLine_96 : decode cX1_readLine 96 = .ok (.istore_n 1, 1) := by decide +kernel
theorem dX1_readLine_97 : decode cX1_readLine 97 = .ok (.aload_n 0, 1) := by decide +kernel
theorem dX1_readLine_98 : decode cX1_readLine 98 = .ok (.getfield 15, 3) := by decide +kernel
theorem dX1_readLine_101 : decode cX1_readLine 101 = .ok (.iload_n 1, 1) := by decide +kernel
theorem dX1_readLine_102 : decode cX1_readLine 102 = .ok (.putfield 67, 3) := by decide +kernel
theorem dX1_readLine_105 : decode cX1_readLine 105 = .ok (.iload_n 1, 1) := by decide +kernel
theorem dX1_readLine_106 : decode cX1_readLine 106 = .ok (.iconst (-1), 1) := by decide +kernel
theorem dX1_readLine_107 : decode cX1_readLine 107 = .ok (.if_icmp .eq 7, 3) := by decide +kernel
theorem dX1_readLine_110 : decode cX1_readLine 110 = .ok (.iconst 1, 1) := by decide +kernel
theorem dX1_readLine_111 : decode cX1_readLine 111 = .ok (.goto 4, 3) := by decide +kernel
theorem dX1_readLine_114 : decode cX1_readLine 114 = .ok (.iconst 0, 1) := by decide +kernel
theorem dX1_readLine_115 : decode cX1_readLine 115 = .ok (.ireturn, 1) := by decide +kernel
theorem dX1_readLine_116 : decode cX1_readLine 116 = .ok (.aload_n 0, 1) := by decide +kernel
theorem dX1_readLine_117 : decode cX1_readLine 117 = .ok (.getfield 9, 3) := by decide +kernel
theorem dX1_readLine_120 : decode cX1_readLine 120 = .ok (.ldc2_w 70, 3) := by decide +kernel
theorem dX1_readLine_123 : decode cX1_readLine 123 = .ok (.invokevirtual 60, 3) := by decide +kernel
theorem dX1_readLine_126 : decode cX1_readLine 126 = .ok (.ifCond .eq 30, 3) := by decide +kernel
theorem dX1_readLine_129 : decode cX1_readLine 129 = .ok (.aload_n 0, 1) := by decide +kernel
theorem dX1_readLine_130 : decode cX1_readLine 130 = .ok (.iconst 0, 1) := by decide +kernel
theorem dX1_readLine_131 : decode cX1_readLine 131 = .ok (.bipush 20, 2) := by decide +kernel
theorem dX1_readLine_133 : decode cX1_readLine 133 = .ok (.invokevirtual 63, 3) := by decide +kernel
theorem dX1_readLine_136 : decode cX1_readLine 136 = .ok (.istore_n 1, 1) := by decide +kernel
theorem dX1_readLine_137 : decode cX1_readLine 137 = .ok (.aload_n 0, 1) := by decide +kernel
theorem dX1_readLine_138 : decode cX1_readLine 138 = .ok (.getfield 15, 3) := by decide +kernel
theorem dX1_readLine_141 : decode cX1_readLine 141 = .ok (.iload_n 1, 1) := by decide +kernel
theorem dX1_readLine_142 : decode cX1_readLine 142 = .ok (.putfield 72, 3) := by decide +kernel
theorem dX1_readLine_145 : decode cX1_readLine 145 = .ok (.iload_n 1, 1) := by decide +kernel
theorem dX1_readLine_146 : decode cX1_readLine 146 = .ok (.iconst (-1), 1) := by decide +kernel
theorem dX1_readLine_147 : decode cX1_readLine 147 = .ok (.if_icmp .eq 7, 3) := by decide +kernel
theorem dX1_readLine_150 : decode cX1_readLine 150 = .ok (.iconst 1, 1) := by decide +kernel
theorem dX1_readLine_151 : decode cX1_readLine 151 = .ok (.goto 4, 3) := by decide +kernel
theorem dX1_readLine_154 : decode cX1_readLine 154 = .ok (.iconst 0, 1) := by decide +kernel
theorem dX1_readLine_155 : decode cX1_readLine 155 = .ok (.ireturn, 1) := by decide +kernel
theorem dX1_readLine_156 : decode cX1_readLine 156 = .ok (.aload_n 0, 1) := by decide +kernel
theorem dX1_readLine_157 : decode cX1_readLine 157 = .ok (.getfield 9, 3) := by decide +kernel
theorem dX1_readLine_160 : decode cX1_readLine 160 = .ok (.ldc2_w 75, 3) := by decide +kernel
theorem dX1_readLine_163 : decode cX1_readLine 163 = .ok (.invokevirtual 60, 3) := by decide +kernel
theorem dX1_readLine_166 : decode cX1_readLine 166 = .ok (.ifCond .eq 31, 3) := by decide +kernel
theorem dX1_readLine_169 : decode cX1_readLine 169 = .ok (.aload_n 0, 1) := by decide +kernel
theorem dX1_readLine_170 : decode cX1_readLine 170 = .ok (.iconst 0, 1) := by decide +kernel
theorem dX1_readLine_171 : decode cX1_readLine 171 = .ok (.sipush 999, 3) := by decide +kernel
theorem dX1_readLine_174 : decode cX1_readLine 174 = .ok (.invokevirtual 63, 3) := by decide +kernel
theorem dX1_readLine_177 : decode cX1_readLine 177 = .ok (.istore_n 1, 1) := by decide +kernel
theorem dX1_readLine_178 : decode cX1_readLine 178 = .ok (.aload_n 0, 1) := by decide +kernel
theorem dX1_readLine_179 : decode cX1_readLine 179 = .ok (.getfield 15, 3) := by decide +kernel
theorem dX1_readLine_182 : decode cX1_readLine 182 = .ok (.iload_n 1, 1) := by decide +kernel
theorem dX1_readLine_183 : decode cX1_readLine 183 = .ok (.putfield 77, 3) := by decide +kernel
theorem dX1_readLine_186 : decode cX1_readLine 186 = .ok (.iload_n 1, 1) := by decide +kernel
theorem dX1_readLine_187 : decode cX1_readLine 187 = .ok (.iconst (-1), 1) := by decide +kernel
theorem dX1_readLine_188 : decode cX1_readLine 188 = .ok (.if_icmp .eq 7, 3) := by decide +kernel
theorem dX1_readLine_191 : decode cX1_readLine 191 = .ok (.iconst 1, 1) := by decide +kernel
theorem dX1_readLine_192 : decode cX1_readLine 192 = .ok (.goto 4, 3) := by decide +kernel
theorem dX1_readLine_195 : decode cX1_readLine 195 = .ok (.iconst 0, 1) := by decide +kernel
theorem dX1_readLine_196 : decode cX1_readLine 196 = .ok (.ireturn, 1) := by decide +kernel
theorem dX1_readLine_197 : decode cX1_readLine 197 = .ok (.iconst 0, 1) := by decide +kernel
theorem dX1_readLine_198 : decode cX1_readLine 198 = .ok (.ireturn, 1) := by decide +kernel
theorem dX1_readProp_0 : decode cX1_readProp 0 = .ok (.aload_n 0, 1) := by decide +kernel
theorem dX1_readProp_1 : decode cX1_readProp 1 = .ok (.getfield 9, 3) := by decide +kernel
theorem dX1_readProp_4 : decode cX1_readProp 4 = .ok (.invokevirtual 80, 3) := by decide +kernel
theorem dX1_readProp_7 : decode cX1_readProp 7 = .ok (.aload_n 0, 1) := by decide +kernel
theorem dX1_readProp_8 : decode cX1_readProp 8 = .ok (.getfield 9, 3) := by decide +kernel
theorem dX1_readProp_11 : decode cX1_readProp 11 = .ok (.invokevirtual 83, 3) := by decide +kernel
theorem dX1_readProp_14 : decode cX1_readProp 14 = .ok (.istore_n 1, 1) := by decide +kernel
theorem dX1_readProp_15 : decode cX1_readProp 15 = .ok (.iload_n 1, 1) := by decide +kernel
theorem dX1_readProp_16 : decode cX1_readProp 16 = .ok (.iconst (-1), 1) := by decide +kernel
theorem dX1_readProp_17 : decode cX1_readProp 17 = .ok (.if_icmp .ne 5, 3) := by decide +kernel
theorem dX1_readProp_20 : decode cX1_readProp 20 = .ok (.iconst 0, 1) := by decide +kernel
theorem dX1_readProp_21 : decode cX1_readProp 21 = .ok (.ireturn, 1) := by decide +kernel
theorem dX1_readProp_22 : decode cX1_readProp 22 = .ok (.aload_n 0, 1) := by decide +kernel
theorem dX1_readProp_23 : decode cX1_readProp 23 = .ok (.getfield 9, 3) := by decide +kernel
theorem dX1_readProp_26 : decode cX1_readProp 26 = .ok (.invokevirtual 80, 3) := by decide +kernel
theorem dX1_readProp_29 : decode cX1_readProp 29 = .ok (.aload_n 0, 1) := by decide +kernel
theorem dX1_readProp_30 : decode cX1_readProp 30 = .ok (.getfield 9, 3) := by decide +kernel
theorem dX1_readProp_33 : decode cX1_readProp 33 = .ok (.ldc2_w 87, 3) := by decide +kernel
theorem dX1_readProp_36 : decode cX1_readProp 36 = .ok (.invokevirtual 60, 3) := by decide +kernel
theorem dX1_readProp_39 : decode cX1_readProp 39 = .ok (.ifCond .eq 13, 3) := by decide +kernel
theorem dX1_readProp_42 : decode cX1_readProp 42 = .ok (.aload_n 0, 1) := by decide +kernel
theorem dX1_readProp_43 : decode cX1_readProp 43 = .ok (.iconst 0, 1) := by decide +kernel
theorem dX1_readProp_44 : decode cX1_readProp 44 = .ok (.bipush 20, 2) := by decide +kernel
theorem dX1_readProp_46 : decode cX1_readProp 46 = .ok (.invokevirtual 63, 3) := by decide +kernel
theorem dX1_readProp_49 : decode cX1_readProp 49 = .ok (.goto 4, 3) := by decide +kernel
theorem dX1_readProp_52 : decode cX1_readProp 52 = .ok (.iconst (-1), 1) := by decide +kernel
theorem dX1_readProp_53 : decode cX1_readProp 53 = .ok (.istore_n 2, 1) := by decide +kernel
theorem dX1_readProp_54 : decode cX1_readProp 54 = .ok (.iload_n 2, 1) := by decide +kernel
theorem dX1_readProp_55 : decode cX1_readProp 55 = .ok (.iconst (-1), 1) := by decide +kernel
theorem dX1_readProp_56 : decode cX1_readProp 56 = .ok (.if_icmp .ne 5, 3) := by decide +kernel
theorem dX1_readProp_59 : decode cX1_readProp 59 = .ok (.iconst 0, 1) := by decide +kernel
theorem dX1_readProp_60 : decode cX1_readProp 60 = .ok (.ireturn, 1) := by decide +kernel
theorem dX1_readProp_61 : decode cX1_readProp 61 = .ok (.iconst (-1), 1) := by decide +kernel
theorem dX1_readProp_62 : decode cX1_readProp 62 = .ok (.istore_n 3, 1) := by decide +kernel
theorem dX1_readProp_63 : decode cX1_readProp 63 = .ok (.aload_n 0, 1) := by decide +kernel
theorem dX1_readProp_64 : decode cX1_readProp 64 = .ok (.getfield 9, 3) := by decide +kernel
theorem dX1_readProp_67 : decode cX1_readProp 67 = .ok (.ldc2_w 89, 3) := by decide +kernel
theorem dX1_readProp_70 : decode cX1_readProp 70 = .ok (.invokevirtual 60, 3) := by decide +kernel
theorem dX1_readProp_73 : decode cX1_readProp 73 = .ok (.ifCond .eq 40, 3) := by decide +kernel
theorem dX1_readProp_76 : decode cX1_readProp 76 = .ok (.aload_n 0, 1) := by decide +kernel
theorem dX1_readProp_77 : decode cX1_readProp 77 = .ok (.getfield 9, 3) := by decide +kernel
theorem dX1_readProp_80 : decode cX1_readProp 80 = .ok (.iconst 0, 1) := by decide +kernel
theorem dX1_readProp_81 : decode cX1_readProp 81 = .ok (.bipush 9, 2) := by decide +kernel
theorem dX1_readProp_83 : decode cX1_readProp 83 = .ok (.invokevirtual 91, 3) := by decide +kernel
theorem dX1_readProp_86 : decode cX1_readProp 86 = .ok (.istore_n 3, 1) := by decide +kernel
theorem dX1_readProp_87 : decode cX1_readProp 87 = .ok (.iload_n 3, 1) := by decide +kernel
theorem dX1_readProp_88 : decode cX1_readProp 88 = .ok (.iconst (-1), 1) := by decide +kernel
theorem dX1_readProp_89 : decode cX1_readProp 89 = .ok (.if_icmp .eq 15, 3) := by decide +kernel
theorem dX1_readProp_92 : decode cX1_readProp 92 = .ok (.aload_n 0, 1) := by decide +kernel
theorem dX1_readProp_93 : decode cX1_readProp 93 = .ok (.getfield 15, 3) := by decide +kernel
theorem dX1_readProp_96 : decode cX1_readProp 96 = .ok (.getfield 94, 3) := by decide +kernel
theorem dX1_readProp_99 : decode cX1_readProp 99 = .ok (.iload_n 3, 1) := by decide +kernel
theorem dX1_readProp_100 : decode cX1_readProp 100 = .ok (.iaload, 1) := by decide +kernel
theorem dX1_readProp_101 : decode cX1_readProp 101 = .ok (.ifCond .lt 5, 3) := by decide +kernel
theorem dX1_readProp_104 : decode cX1_readProp 104 = .ok (.iconst 0, 1) := by decide +kernel
theorem dX1_readProp_105 : decode cX1_readProp 105 = .ok (.ireturn, 1) := by decide +kernel
theorem dX1_readProp_106 : decode cX1_readProp 106 = .ok (.aload_n 0, 1) := by decide +kernel
theorem dX1_readProp_107 : decode cX1_readProp 107 = .ok (.getfield 9, 3) := by decide +kernel
theorem dX1_readProp_110 : decode cX1_readProp 110 = .ok (.invokevirtual 80, 3) := by decide +kernel
theorem dX1_readProp_113 : decode cX1_readProp 113 = .ok (.aload_n 0, 1) := by decide +kernel
theorem dX1_readProp_114 : decode cX1_readProp 114 = .ok (.getfield 9, 3) := by decide +kernel
theorem dX1_readProp_117 : decode cX1_readProp 117 = .ok (.ldc2_w 98, 3) := by decide +kernel
theorem dX1_readProp_120 : decode cX1_readProp 120 = .ok (.invokevirtual 60, 3) := by decide +kernel
theorem dX1_readProp_123 : decode cX1_readProp 123 = .ok (.ifCond .eq 13, 3) := by decide +kernel
theorem dX1_readProp_126 : decode cX1_readProp 126 = .ok (.aload_n 0, 1) := by decide +kernel
theorem dX1_readProp_127 : decode cX1_readProp 127 = .ok (.iconst 0, 1) := by decide +kernel
theorem dX1_readProp_128 : decode cX1_readProp 128 = .ok (.bipush 99, 2) := by decide +kernel
theorem dX1_readProp_130 : decode cX1_readProp 130 = .ok (.invokevirtual 63, 3) := by decide +kernel
theorem dX1_readProp_133 : decode cX1_readProp 133 = .ok (.goto 4, 3) := by decide +kernel
theorem dX1_readProp_136 : decode cX1_readProp 136 = .ok (.iconst 0, 1) := by decide +kernel
theorem dX1_readProp_137 : decode cX1_readProp 137 = .ok (.istore 4, 2) := by decide +kernel
theorem dX1_readProp_139 : decode cX1_readProp 139 = .ok (.iload 4, 2) := by decide +kernel
theorem dX1_readProp_141 : decode cX1_readProp 141 = .ok (.iconst (-1), 1) := by decide +kernel
theorem dX1_readProp_142 : decode cX1_readProp 142 = .ok (.if_icmp .ne 5, 3) := by decide +kernel
theorem dX1_readProp_145 : decode cX1_readProp 145 = .ok (.iconst 0, 1) := by decide +kernel
theorem dX1_readProp_146 : decode cX1_readProp 146 = .ok (.ireturn, 1) := by decide +kernel
theorem dX1_readProp_147 : decode cX1_readProp 147 = .ok (.aload_n 0, 1) := by decide +kernel
theorem dX1_readProp_148 : decode cX1_readProp 148 = .ok (.iload_n 1, 1) := by decide +kernel
theorem dX1_readProp_149 : decode cX1_readProp 149 = .ok (.iload_n 2, 1) := by decide +kernel
theorem dX1_readProp_150 : decode cX1_readProp 150 = .ok (.iload 4, 2) := by decide +kernel
theorem dX1_readProp_152 : decode cX1_readProp 152 = .ok (.iload_n 3, 1) := by decide +kernel
theorem dX1_readProp_153 : decode cX1_readProp 153 = .ok (.invokevirtual 100, 3) := by decide +kernel
theorem dX1_readProp_156 : decode cX1_readProp 156 = .ok (.iconst 1, 1) := by decide +kernel
theorem dX1_readProp_157 : decode cX1_readProp 157 = .ok (.ireturn, 1) := by decide +kernel
theorem dX1_addProp_0 : decode cX1_addProp 0 = .ok (.aload_n 0, 1) := by decide +kernel
theorem dX1_addProp_1 : decode cX1_addProp 1 = .ok (.getfield 15, 3) := by decide +kernel
theorem dX1_addProp_4 : decode cX1_addProp 4 = .ok (.getfield 41, 3) := by decide +kernel
theorem dX1_addProp_7 : decode cX1_addProp 7 = .ok (.istore 5, 2) := by decide +kernel
theorem dX1_addProp_9 : decode cX1_addProp 9 = .ok (.iload 5, 2) := by decide +kernel
theorem dX1_addProp_11 : decode cX1_addProp 11 = .ok (.bipush 8, 2) := by decide +kernel
theorem dX1_addProp_13 : decode cX1_addProp 13 = .ok (.if_icmp .ge 75, 3) := by decide +kernel
theorem dX1_addProp_16 : decode cX1_addProp 16 = .ok (.aload_n 0, 1) := by decide +kernel
theorem dX1_addProp_17 : decode cX1_addProp 17 = .ok (.getfield 15, 3) := by decide +kernel
theorem dX1_addProp_20 : decode cX1_addProp 20 = .ok (.getfield 104, 3) := by decide +kernel
theorem dX1_addProp_23 : decode cX1_addProp 23 = .ok (.iload 5, 2) := by decide +kernel
theorem dX1_addProp_25 : decode cX1_addProp 25 = .ok (.iload_n 1, 1) := by decide +kernel
theorem dX1_addProp_26 : decode cX1_addProp 26 = .ok (.iastore, 1) := by decide +kernel
theorem dX1_addProp_27 : decode cX1_addProp 27 = .ok (.aload_n 0, 1) := by decide +kernel
theorem dX1_addProp_28 : decode cX1_addProp 28 = .ok (.getfield 15, 3) := by decide +kernel
theorem dX1_addProp_31 : decode cX1_addProp 31 = .ok (.getfield 107, 3) := by decide +kernel
theorem dX1_addProp_34 : decode cX1_addProp 34 = .ok (.iload 5, 2) := by decide +kernel
theorem dX1_addProp_36 : decode cX1_addProp 36 = .ok (.iload_n 2, 1) := by decide +kernel
theorem dX1_addProp_37 : decode cX1_addProp 37 = .ok (.iastore, 1) := by decide +kernel
theorem dX1_addProp_38 : decode cX1_addProp 38 = .ok (.aload_n 0, 1) := by decide +kernel
theorem dX1_addProp_39 : decode cX1_addProp 39 = .ok (.getfield 15, 3) := by decide +kernel
theorem dX1_addProp_42 : decode cX1_addProp 42 = .ok (.getfield 110, 3) := by decide +kernel
theorem dX1_addProp_45 : decode cX1_addProp 45 = .ok (.iload 5, 2) := by decide +kernel
theorem dX1_addProp_47 : decode cX1_addProp 47 = .ok (.iload_n 3, 1) := by decide +kernel
theorem dX1_addProp_48 : decode cX1_addProp 48 = .ok (.iastore, 1) := by decide +kernel
theorem dX1_addProp_49 : decode cX1_addProp 49 = .ok (.aload_n 0, 1) := by decide +kernel
theorem dX1_addProp_50 : decode cX1_addProp 50 = .ok (.getfield 15, 3) := by decide +kernel
theorem dX1_addProp_53 : decode cX1_addProp 53 = .ok (.getfield 113, 3) := by decide +kernel
theorem dX1_addProp_56 : decode cX1_addProp 56 = .ok (.iload 5, 2) := by decide +kernel
theorem dX1_addProp_58 : decode cX1_addProp 58 = .ok (.iconst (-1), 1) := by decide +kernel
theorem dX1_addProp_59 : decode cX1_addProp 59 = .ok (.iastore, 1) := by decide +kernel
theorem dX1_addProp_60 : decode cX1_addProp 60 = .ok (.aload_n 0, 1) := by decide +kernel
theorem dX1_addProp_61 : decode cX1_addProp 61 = .ok (.getfield 15, 3) := by decide +kernel
theorem dX1_addProp_64 : decode cX1_addProp 64 = .ok (.iload 5, 2) := by decide +kernel
theorem dX1_addProp_66 : decode cX1_addProp 66 = .ok (.iconst 1, 1) := by decide +kernel
theorem dX1_addProp_67 : decode cX1_addProp 67 = .ok (.iadd, 1) := by decide +kernel
theorem dX1_addProp_68 : decode cX1_addProp 68 = .ok (.putfield 41, 3) := by decide +kernel
theorem dX1_addProp_71 : decode cX1_addProp 71 = .ok (.iload 4, 2) := by decide +kernel
theorem dX1_addProp_73 : decode cX1_addProp 73 = .ok (.iconst (-1), 1) := by decide +kernel
theorem dX1_addProp_74 : decode cX1_addProp 74 = .ok (.if_icmp .eq 14, 3) := by decide +kernel
theorem dX1_addProp_77 : decode cX1_addProp 77 = .ok (.aload_n 0, 1) := by decide +kernel
theorem dX1_addProp_78 : decode cX1_addProp 78 = .ok (.getfield 15, 3) := by decide +kernel
theorem dX1_addProp_81 : decode cX1_addProp 81 = .ok (.iload 5, 2) := by decide +kernel
theorem dX1_addProp_83 : decode cX1_addProp 83 = .ok (.iload 4, 2) := by decide +kernel
theorem dX1_addProp_85 : decode cX1_addProp 85 = .ok (.invokevirtual 116, 3) := by decide +kernel
theorem dX1_addProp_88 : decode cX1_addProp 88 = .ok (.return_, 1) := by decide +kernel
theorem dX1_readAccused_0 : decode cX1_readAccused 0 = .ok (.aload_n 0, 1) := by decide +kernel
theorem dX1_readAccused_1 : decode cX1_readAccused 1 = .ok (.getfield 9, 3) := by decide +kernel
theorem dX1_readAccused_4 : decode cX1_readAccused 4 = .ok (.invokevirtual 80, 3) := by decide +kernel
theorem dX1_readAccused_7 : decode cX1_readAccused 7 = .ok (.aload_n 0, 1) := by decide +kernel
theorem dX1_readAccused_8 : decode cX1_readAccused 8 = .ok (.getfield 9, 3) := by decide +kernel
theorem dX1_readAccused_11 : decode cX1_readAccused 11 = .ok (.ldc2_w 120, 3) := by decide +kernel
theorem dX1_readAccused_14 : decode cX1_readAccused 14 = .ok (.invokevirtual 60, 3) := by decide +kernel
theorem dX1_readAccused_17 : decode cX1_readAccused 17 = .ok (.ifCond .eq 13, 3) := by decide +kernel
theorem dX1_readAccused_20 : decode cX1_readAccused 20 = .ok (.aload_n 0, 1) := by decide +kernel
theorem dX1_readAccused_21 : decode cX1_readAccused 21 = .ok (.iconst 1, 1) := by decide +kernel
theorem dX1_readAccused_22 : decode cX1_readAccused 22 = .ok (.bipush 60, 2) := by decide +kernel
theorem dX1_readAccused_24 : decode cX1_readAccused 24 = .ok (.invokevirtual 63, 3) := by decide +kernel
theorem dX1_readAccused_27 : decode cX1_readAccused 27 = .ok (.goto 4, 3) := by decide +kernel
theorem dX1_readAccused_30 : decode cX1_readAccused 30 = .ok (.iconst (-1), 1) := by decide +kernel
theorem dX1_readAccused_31 : decode cX1_readAccused 31 = .ok (.istore_n 1, 1) := by decide +kernel
theorem dX1_readAccused_32 : decode cX1_readAccused 32 = .ok (.iload_n 1, 1) := by decide +kernel
theorem dX1_readAccused_33 : decode cX1_readAccused 33 = .ok (.iconst (-1), 1) := by decide +kernel
theorem dX1_readAccused_34 : decode cX1_readAccused 34 = .ok (.if_icmp .ne 5, 3) := by decide +kernel
theorem dX1_readAccused_37 : decode cX1_readAccused 37 = .ok (.iconst 0, 1) := by decide +kernel
theorem dX1_readAccused_38 : decode cX1_readAccused 38 = .ok (.ireturn, 1) := by decide +kernel
theorem dX1_readAccused_39 : decode cX1_readAccused 39 = .ok (.iconst 0, 1) := by decide +kernel
theorem dX1_readAccused_40 : decode cX1_readAccused 40 = .ok (.istore_n 2, 1) := by decide +kernel
theorem dX1_readAccused_41 : decode cX1_readAccused 41 = .ok (.aload_n 0, 1) := by decide +kernel
theorem dX1_readAccused_42 : decode cX1_readAccused 42 = .ok (.getfield 9, 3) := by decide +kernel
theorem dX1_readAccused_45 : decode cX1_readAccused 45 = .ok (.ldc2_w 122, 3) := by decide +kernel
theorem dX1_readAccused_48 : decode cX1_readAccused 48 = .ok (.invokevirtual 60, 3) := by decide +kernel
theorem dX1_readAccused_51 : decode cX1_readAccused 51 = .ok (.ifCond .eq 25, 3) := by decide +kernel
theorem dX1_readAccused_54 : decode cX1_readAccused 54 = .ok (.aload_n 0, 1) := by decide +kernel
theorem dX1_readAccused_55 : decode cX1_readAccused 55 = .ok (.getfield 9, 3) := by decide +kernel
theorem dX1_readAccused_58 : decode cX1_readAccused 58 = .ok (.invokevirtual 124, 3) := by decide +kernel
theorem dX1_readAccused_61 : decode cX1_readAccused 61 = .ok (.istore_n 2, 1) := by decide +kernel
theorem dX1_readAccused_62 : decode cX1_readAccused 62 = .ok (.iload_n 2, 1) := by decide +kernel
theorem dX1_readAccused_63 : decode cX1_readAccused 63 = .ok (.iconst (-1), 1) := by decide +kernel
theorem dX1_readAccused_64 : decode cX1_readAccused 64 = .ok (.if_icmp .ne 5, 3) := by decide +kernel
theorem dX1_readAccused_67 : decode cX1_readAccused 67 = .ok (.iconst 0, 1) := by decide +kernel
theorem dX1_readAccused_68 : decode cX1_readAccused 68 = .ok (.ireturn, 1) := by decide +kernel
theorem dX1_readAccused_69 : decode cX1_readAccused 69 = .ok (.aload_n 0, 1) := by decide +kernel
theorem dX1_readAccused_70 : decode cX1_readAccused 70 = .ok (.getfield 9, 3) := by decide +kernel
theorem dX1_readAccused_73 : decode cX1_readAccused 73 = .ok (.invokevirtual 80, 3) := by decide +kernel
theorem dX1_readAccused_76 : decode cX1_readAccused 76 = .ok (.iconst 0, 1) := by decide +kernel
theorem dX1_readAccused_77 : decode cX1_readAccused 77 = .ok (.istore_n 3, 1) := by decide +kernel
theorem dX1_readAccused_78 : decode cX1_readAccused 78 = .ok (.aload_n 0, 1) := by decide +kernel
theorem dX1_readAccused_79 : decode cX1_readAccused 79 = .ok (.getfield 9, 3) := by decide +kernel
theorem dX1_readAccused_82 : decode cX1_readAccused 82 = .ok (.ldc2_w 127, 3) := by decide +kernel
theorem dX1_readAccused_85 : decode cX1_readAccused 85 = .ok (.invokevirtual 60, 3) := by decide +kernel
theorem dX1_readAccused_88 : decode cX1_readAccused 88 = .ok (.ifCond .eq 32, 3) := by decide +kernel
theorem dX1_readAccused_91 : decode cX1_readAccused 91 = .ok (.aload_n 0, 1) := by decide +kernel
theorem dX1_readAccused_92 : decode cX1_readAccused 92 = .ok (.iconst 0, 1) := by decide +kernel
theorem dX1_readAccused_93 : decode cX1_readAccused 93 = .ok (.aload_n 0, 1) := by decide +kernel
theorem dX1_readAccused_94 : decode cX1_readAccused 94 = .ok (.getfield 15, 3) := by decide +kernel
theorem dX1_readAccused_97 : decode cX1_readAccused 97 = .ok (.getfield 41, 3) := by decide +kernel
theorem dX1_readAccused_100 : decode cX1_readAccused 100 = .ok (.iconst 1, 1) := by decide +kernel
theorem dX1_readAccused_101 : decode cX1_readAccused 101 = .ok (.isub, 1) := by decide +kernel
theorem dX1_readAccused_102 : decode cX1_readAccused 102 = .ok (.invokevirtual 63, 3) := by decide +kernel
theorem dX1_readAccused_105 : decode cX1_readAccused 105 = .ok (.istore 4, 2) := by decide +kernel
theorem dX1_readAccused_107 : decode cX1_readAccused 107 = .ok (.iload 4, 2) := by decide +kernel
theorem dX1_readAccused_109 : decode cX1_readAccused 109 = .ok (.iconst (-1), 1) := by decide +kernel
theorem dX1_readAccused_110 : decode cX1_readAccused 110 = .ok (.if_icmp .ne 5, 3) := by decide +kernel
theorem dX1_readAccused_113 : decode cX1_readAccused 113 = .ok (.iconst 0, 1) := by decide +kernel
theorem dX1_readAccused_114 : decode cX1_readAccused 114 = .ok (.ireturn, 1) := by decide +kernel
theorem dX1_readAccused_115 : decode cX1_readAccused 115 = .ok (.iconst 1, 1) := by decide +kernel
theorem dX1_readAccused_116 : decode cX1_readAccused 116 = .ok (.iload 4, 2) := by decide +kernel
theorem dX1_readAccused_118 : decode cX1_readAccused 118 = .ok (.ishl, 1) := by decide +kernel
theorem dX1_readAccused_119 : decode cX1_readAccused 119 = .ok (.istore_n 3, 1) := by decide +kernel
theorem dX1_readAccused_120 : decode cX1_readAccused 120 = .ok (.aload_n 0, 1) := by decide +kernel
theorem dX1_readAccused_121 : decode cX1_readAccused 121 = .ok (.iload_n 1, 1) := by decide +kernel
theorem dX1_readAccused_122 : decode cX1_readAccused 122 = .ok (.iload_n 2, 1) := by decide +kernel
theorem dX1_readAccused_123 : decode cX1_readAccused 123 = .ok (.iload_n 3, 1) := by decide +kernel
theorem dX1_readAccused_124 : decode cX1_readAccused 124 = .ok (.invokevirtual 129, 3) := by decide +kernel
theorem dX1_readAccused_127 : decode cX1_readAccused 127 = .ok (.iconst 1, 1) := by decide +kernel
theorem dX1_readAccused_128 : decode cX1_readAccused 128 = .ok (.ireturn, 1) := by decide +kernel
theorem dX1_addAccused_0 : decode cX1_addAccused 0 = .ok (.aload_n 0, 1) := by decide +kernel
theorem dX1_addAccused_1 : decode cX1_addAccused 1 = .ok (.getfield 15, 3) := by decide +kernel
theorem dX1_addAccused_4 : decode cX1_addAccused 4 = .ok (.getfield 52, 3) := by decide +kernel
theorem dX1_addAccused_7 : decode cX1_addAccused 7 = .ok (.istore 4, 2) := by decide +kernel
theorem dX1_addAccused_9 : decode cX1_addAccused 9 = .ok (.iload 4, 2) := by decide +kernel
theorem dX1_addAccused_11 : decode cX1_addAccused 11 = .ok (.bipush 6, 2) := by decide +kernel
theorem dX1_addAccused_13 : decode cX1_addAccused 13 = .ok (.if_icmp .ge 58, 3) := by decide +kernel
theorem dX1_addAccused_16 : decode cX1_addAccused 16 = .ok (.aload_n 0, 1) := by decide +kernel
theorem dX1_addAccused_17 : decode cX1_addAccused 17 = .ok (.getfield 15, 3) := by decide +kernel
theorem dX1_addAccused_20 : decode cX1_addAccused 20 = .ok (.getfield 133, 3) := by decide +kernel
theorem dX1_addAccused_23 : decode cX1_addAccused 23 = .ok (.iload 4, 2) := by decide +kernel
theorem dX1_addAccused_25 : decode cX1_addAccused 25 = .ok (.iload_n 1, 1) := by decide +kernel
theorem dX1_addAccused_26 : decode cX1_addAccused 26 = .ok (.iastore, 1) := by decide +kernel
theorem dX1_addAccused_27 : decode cX1_addAccused 27 = .ok (.aload_n 0, 1) := by decide +kernel
theorem dX1_addAccused_28 : decode cX1_addAccused 28 = .ok (.getfield 15, 3) := by decide +kernel
theorem dX1_addAccused_31 : decode cX1_addAccused 31 = .ok (.getfield 136, 3) := by decide +kernel
theorem dX1_addAccused_34 : decode cX1_addAccused 34 = .ok (.iload 4, 2) := by decide +kernel
theorem dX1_addAccused_36 : decode cX1_addAccused 36 = .ok (.iload_n 2, 1) := by decide +kernel
theorem dX1_addAccused_37 : decode cX1_addAccused 37 = .ok (.iastore, 1) := by decide +kernel
theorem dX1_addAccused_38 : decode cX1_addAccused 38 = .ok (.aload_n 0, 1) := by decide +kernel
theorem dX1_addAccused_39 : decode cX1_addAccused 39 = .ok (.getfield 15, 3) := by decide +kernel
theorem dX1_addAccused_42 : decode cX1_addAccused 42 = .ok (.getfield 138, 3) := by decide +kernel
theorem dX1_addAccused_45 : decode cX1_addAccused 45 = .ok (.iload 4, 2) := by decide +kernel
theorem dX1_addAccused_47 : decode cX1_addAccused 47 = .ok (.iload_n 3, 1) := by decide +kernel
theorem dX1_addAccused_48 : decode cX1_addAccused 48 = .ok (.iastore, 1) := by decide +kernel
theorem dX1_addAccused_49 : decode cX1_addAccused 49 = .ok (.aload_n 0, 1) := by decide +kernel
theorem dX1_addAccused_50 : decode cX1_addAccused 50 = .ok (.getfield 15, 3) := by decide +kernel
theorem dX1_addAccused_53 : decode cX1_addAccused 53 = .ok (.getfield 141, 3) := by decide +kernel
theorem dX1_addAccused_56 : decode cX1_addAccused 56 = .ok (.iload 4, 2) := by decide +kernel
theorem dX1_addAccused_58 : decode cX1_addAccused 58 = .ok (.iconst 0, 1) := by decide +kernel
theorem dX1_addAccused_59 : decode cX1_addAccused 59 = .ok (.iastore, 1) := by decide +kernel
theorem dX1_addAccused_60 : decode cX1_addAccused 60 = .ok (.aload_n 0, 1) := by decide +kernel
theorem dX1_addAccused_61 : decode cX1_addAccused 61 = .ok (.getfield 15, 3) := by decide +kernel
theorem dX1_addAccused_64 : decode cX1_addAccused 64 = .ok (.iload 4, 2) := by decide +kernel
theorem dX1_addAccused_66 : decode cX1_addAccused 66 = .ok (.iconst 1, 1) := by decide +kernel
theorem dX1_addAccused_67 : decode cX1_addAccused 67 = .ok (.iadd, 1) := by decide +kernel
theorem dX1_addAccused_68 : decode cX1_addAccused 68 = .ok (.putfield 52, 3) := by decide +kernel
theorem dX1_addAccused_71 : decode cX1_addAccused 71 = .ok (.return_, 1) := by decide +kernel
theorem dX1_takeNumber_0 : decode cX1_takeNumber 0 = .ok (.aload_n 0, 1) := by decide +kernel
theorem dX1_takeNumber_1 : decode cX1_takeNumber 1 = .ok (.getfield 9, 3) := by decide +kernel
theorem dX1_takeNumber_4 : decode cX1_takeNumber 4 = .ok (.iload_n 1, 1) := by decide +kernel
theorem dX1_takeNumber_5 : decode cX1_takeNumber 5 = .ok (.iload_n 2, 1) := by decide +kernel
theorem dX1_takeNumber_6 : decode cX1_takeNumber 6 = .ok (.invokevirtual 91, 3) := by decide +kernel
theorem dX1_takeNumber_9 : decode cX1_takeNumber 9 = .ok (.istore_n 3, 1) := by decide +kernel
theorem dX1_takeNumber_10 : decode cX1_takeNumber 10 = .ok (.iload_n 3, 1) := by decide +kernel
theorem dX1_takeNumber_11 : decode cX1_takeNumber 11 = .ok (.iconst (-1), 1) := by decide +kernel
theorem dX1_takeNumber_12 : decode cX1_takeNumber 12 = .ok (.if_icmp .eq 10, 3) := by decide +kernel
theorem dX1_takeNumber_15 : decode cX1_takeNumber 15 = .ok (.aload_n 0, 1) := by decide +kernel
theorem dX1_takeNumber_16 : decode cX1_takeNumber 16 = .ok (.getfield 9, 3) := by decide +kernel
theorem dX1_takeNumber_19 : decode cX1_takeNumber 19 = .ok (.invokevirtual 80, 3) := by decide +kernel
theorem dX1_takeNumber_22 : decode cX1_takeNumber 22 = .ok (.iload_n 3, 1) := by decide +kernel
theorem dX1_takeNumber_23 : decode cX1_takeNumber 23 = .ok (.ireturn, 1) := by decide +kernel
theorem dX2_init_0 : decode cX2_init 0 = .ok (.aload_n 0, 1) := by decide +kernel
theorem dX2_init_1 : decode cX2_init 1 = .ok (.invokespecial 1, 3) := by decide +kernel
theorem dX2_init_4 : decode cX2_init 4 = .ok (.aload_n 0, 1) := by decide +kernel
theorem dX2_init_5 : decode cX2_init 5 = .ok (.iload_n 1, 1) := by decide +kernel
theorem dX2_init_6 : decode cX2_init 6 = .ok (.putfield 7, 3) := by decide +kernel
theorem dX2_init_9 : decode cX2_init 9 = .ok (.aload_n 0, 1) := by decide +kernel
theorem dX2_init_10 : decode cX2_init 10 = .ok (.iload_n 2, 1) := by decide +kernel
theorem dX2_init_11 : decode cX2_init 11 = .ok (.putfield 13, 3) := by decide +kernel
theorem dX2_init_14 : decode cX2_init 14 = .ok (.aload_n 0, 1) := by decide +kernel
theorem dX2_init_15 : decode cX2_init 15 = .ok (.aload_n 3, 1) := by decide +kernel
theorem dX2_init_16 : decode cX2_init 16 = .ok (.putfield 17, 3) := by decide +kernel
theorem dX2_init_19 : decode cX2_init 19 = .ok (.aload_n 0, 1) := by decide +kernel
theorem dX2_init_20 : decode cX2_init 20 = .ok (.aload 4, 2) := by decide +kernel
theorem dX2_init_22 : decode cX2_init 22 = .ok (.putfield 21, 3) := by decide +kernel
theorem dX2_init_25 : decode cX2_init 25 = .ok (.aload_n 0, 1) := by decide +kernel
theorem dX2_init_26 : decode cX2_init 26 = .ok (.aload 5, 2) := by decide +kernel
theorem dX2_init_28 : decode cX2_init 28 = .ok (.putfield 24, 3) := by decide +kernel
theorem dX2_init_31 : decode cX2_init 31 = .ok (.aload_n 0, 1) := by decide +kernel
theorem dX2_init_32 : decode cX2_init 32 = .ok (.aload 6, 2) := by decide +kernel
theorem dX2_init_34 : decode cX2_init 34 = .ok (.putfield 27, 3) := by decide +kernel
theorem dX2_init_37 : decode cX2_init 37 = .ok (.return_, 1) := by decide +kernel
theorem dX2_frightsBy_0 : decode cX2_frightsBy 0 = .ok (.aload_n 1, 1) := by decide +kernel
theorem dX2_frightsBy_1 : decode cX2_frightsBy 1 = .ok (.iconst 2, 1) := by decide +kernel
theorem dX2_frightsBy_2 : decode cX2_frightsBy 2 = .ok (.iaload, 1) := by decide +kernel
theorem dX2_frightsBy_3 : decode cX2_frightsBy 3 = .ok (.aload_n 1, 1) := by decide +kernel
theorem dX2_frightsBy_4 : decode cX2_frightsBy 4 = .ok (.iconst 3, 1) := by decide +kernel
theorem dX2_frightsBy_5 : decode cX2_frightsBy 5 = .ok (.iaload, 1) := by decide +kernel
theorem dX2_frightsBy_6 : decode cX2_frightsBy 6 = .ok (.bipush 10, 2) := by decide +kernel
theorem dX2_frightsBy_8 : decode cX2_frightsBy 8 = .ok (.idiv, 1) := by decide +kernel
theorem dX2_frightsBy_9 : decode cX2_frightsBy 9 = .ok (.isub, 1) := by decide +kernel
theorem dX2_frightsBy_10 : decode cX2_frightsBy 10 = .ok (.istore_n 2, 1) := by decide +kernel
theorem dX2_frightsBy_11 : decode cX2_frightsBy 11 = .ok (.iconst 0, 1) := by decide +kernel
theorem dX2_frightsBy_12 : decode cX2_frightsBy 12 = .ok (.istore_n 3, 1) := by decide +kernel
theorem dX2_frightsBy_13 : decode cX2_frightsBy 13 = .ok (.iload_n 3, 1) := by decide +kernel
theorem dX2_frightsBy_14 : decode cX2_frightsBy 14 = .ok (.aload_n 0, 1) := by decide +kernel
theorem dX2_frightsBy_15 : decode cX2_frightsBy 15 = .ok (.getfield 7, 3) := by decide +kernel
theorem dX2_frightsBy_18 : decode cX2_frightsBy 18 = .ok (.if_icmp .ge 56, 3) := by decide +kernel
theorem dX2_frightsBy_21 : decode cX2_frightsBy 21 = .ok (.aload_n 0, 1) := by decide +kernel
theorem dX2_frightsBy_22 : decode cX2_frightsBy 22 = .ok (.getfield 17, 3) := by decide +kernel
theorem dX2_frightsBy_25 : decode cX2_frightsBy 25 = .ok (.iload_n 3, 1) := by decide +kernel
theorem dX2_frightsBy_26 : decode cX2_frightsBy 26 = .ok (.iaload, 1) := by decide +kernel
theorem dX2_frightsBy_27 : decode cX2_frightsBy 27 = .ok (.iconst 2, 1) := by decide +kernel
theorem dX2_frightsBy_28 : decode cX2_frightsBy 28 = .ok (.if_icmp .eq 40, 3) := by decide +kernel
theorem dX2_frightsBy_31 : decode cX2_frightsBy 31 = .ok (.aload_n 0, 1) := by decide +kernel
theorem dX2_frightsBy_32 : decode cX2_frightsBy 32 = .ok (.iload_n 3, 1) := by decide +kernel
theorem dX2_frightsBy_33 : decode cX2_frightsBy 33 = .ok (.aload_n 1, 1) := by decide +kernel
theorem dX2_frightsBy_34 : decode cX2_frightsBy 34 = .ok (.invokevirtual 30, 3) := by decide +kernel
theorem dX2_frightsBy_37 : decode cX2_frightsBy 37 = .ok (.ifCond .eq 31, 3) := by decide +kernel
theorem dX2_frightsBy_40 : decode cX2_frightsBy 40 = .ok (.iload_n 2, 1) := by decide +kernel
theorem dX2_frightsBy_41 : decode cX2_frightsBy 41 = .ok (.aload_n 0, 1) := by decide +kernel
theorem dX2_frightsBy_42 : decode cX2_frightsBy 42 = .ok (.getfield 17, 3) := by decide +kernel
theorem dX2_frightsBy_45 : decode cX2_frightsBy 45 = .ok (.iload_n 3, 1) := by decide +kernel
theorem dX2_frightsBy_46 : decode cX2_frightsBy 46 = .ok (.iaload, 1) := by decide +kernel
theorem dX2_frightsBy_47 : decode cX2_frightsBy 47 = .ok (.ifCond .ne 12, 3) := by decide +kernel
theorem dX2_frightsBy_50 : decode cX2_frightsBy 50 = .ok (.aload_n 0, 1) := by decide +kernel
theorem dX2_frightsBy_51 : decode cX2_frightsBy 51 = .ok (.getfield 21, 3) := by decide +kernel
theorem dX2_frightsBy_54 : decode cX2_frightsBy 54 = .ok (.iload_n 3, 1) := by decide +kernel
theorem dX2_frightsBy_55 : decode cX2_frightsBy 55 = .ok (.iaload, 1) := by decide +kernel
theorem dX2_frightsBy_56 : decode cX2_frightsBy 56 = .ok (.goto 10, 3) := by decide +kernel
theorem dX2_frightsBy_59 : decode cX2_frightsBy 59 = .ok (.aload_n 0, 1) := by decide +kernel
theorem dX2_frightsBy_60 : decode cX2_frightsBy 60 = .ok (.getfield 21, 3) := by decide +kernel
theorem dX2_frightsBy_63 : decode cX2_frightsBy 63 = .ok (.iload_n 3, 1) := by decide +kernel
theorem dX2_frightsBy_64 : decode cX2_frightsBy 64 = .ok (.iaload, 1) := by decide +kernel
theorem dX2_frightsBy_65 : decode cX2_frightsBy 65 = .ok (.ineg, 1) := by decide +kernel
theorem dX2_frightsBy_66 : decode cX2_frightsBy 66 = .ok (.iadd, 1) := by decide +kernel
theorem dX2_frightsBy_67 : decode cX2_frightsBy 67 = .ok (.istore_n 2, 1) := by decide +kernel
theorem dX2_frightsBy_68 : decode cX2_frightsBy 68 = .ok (.iinc 3 1, 3) := by decide +kernel
theorem dX2_frightsBy_71 : decode cX2_frightsBy 71 = .ok (.goto (-58), 3) := by decide +kernel
theorem dX2_frightsBy_74 : decode cX2_frightsBy 74 = .ok (.iconst 0, 1) := by decide +kernel
theorem dX2_frightsBy_75 : decode cX2_frightsBy 75 = .ok (.iload_n 2, 1) := by decide +kernel
theorem dX2_frightsBy_76 : decode cX2_frightsBy 76 = .ok (.invokestatic 34, 3) := by decide +kernel
theorem dX2_frightsBy_79 : decode cX2_frightsBy 79 = .ok (.ireturn, 1) := by decide +kernel
theorem dX2_wearsBy_0 : decode cX2_wearsBy 0 = .ok (.iconst 1, 1) := by decide +kernel
theorem dX2_wearsBy_1 : decode cX2_wearsBy 1 = .ok (.istore_n 2, 1) := by decide +kernel
theorem dX2_wearsBy_2 : decode cX2_wearsBy 2 = .ok (.iconst 0, 1) := by decide +kernel
theorem dX2_wearsBy_3 : decode cX2_wearsBy 3 = .ok (.istore_n 3, 1) := by decide +kernel
theorem dX2_wearsBy_4 : decode cX2_wearsBy 4 = .ok (.iload_n 3, 1) := by decide +kernel
theorem dX2_wearsBy_5 : decode cX2_wearsBy 5 = .ok (.aload_n 0, 1) := by decide +kernel
theorem dX2_wearsBy_6 : decode cX2_wearsBy 6 = .ok (.getfield 7, 3) := by decide +kernel
theorem dX2_wearsBy_9 : decode cX2_wearsBy 9 = .ok (.if_icmp .ge 37, 3) := by decide +kernel
theorem dX2_wearsBy_12 : decode cX2_wearsBy 12 = .ok (.aload_n 0, 1) := by decide +kernel
theorem dX2_wearsBy_13 : decode cX2_wearsBy 13 = .ok (.getfield 17, 3) := by decide +kernel
theorem dX2_wearsBy_16 : decode cX2_wearsBy 16 = .ok (.iload_n 3, 1) := by decide +kernel
theorem dX2_wearsBy_17 : decode cX2_wearsBy 17 = .ok (.iaload, 1) := by decide +kernel
theorem dX2_wearsBy_18 : decode cX2_wearsBy 18 = .ok (.iconst 2, 1) := by decide +kernel
theorem dX2_wearsBy_19 : decode cX2_wearsBy 19 = .ok (.if_icmp .ne 21, 3) := by decide +kernel
theorem dX2_wearsBy_22 : decode cX2_wearsBy 22 = .ok (.aload_n 0, 1) := by decide +kernel
theorem dX2_wearsBy_23 : decode cX2_wearsBy 23 = .ok (.iload_n 3, 1) := by decide +kernel
theorem dX2_wearsBy_24 : decode cX2_wearsBy 24 = .ok (.aload_n 1, 1) := by decide +kernel
theorem dX2_wearsBy_25 : decode cX2_wearsBy 25 = .ok (.invokevirtual 30, 3) := by decide +kernel
theorem dX2_wearsBy_28 : decode cX2_wearsBy 28 = .ok (.ifCond .eq 12, 3) := by decide +kernel
theorem dX2_wearsBy_31 : decode cX2_wearsBy 31 = .ok (.iload_n 2, 1) := by decide +kernel
theorem dX2_wearsBy_32 : decode cX2_wearsBy 32 = .ok (.aload_n 0, 1) := by decide +kernel
theorem dX2_wearsBy_33 : decode cX2_wearsBy 33 = .ok (.getfield 21, 3) := by decide +kernel
theorem dX2_wearsBy_36 : decode cX2_wearsBy 36 = .ok (.iload_n 3, 1) := by decide +kernel
theorem dX2_wearsBy_37 : decode cX2_wearsBy 37 = .ok (.iaload, 1) := by decide +kernel
theorem dX2_wearsBy_38 : decode cX2_wearsBy 38 = .ok (.iadd, 1) := by decide +kernel
theorem dX2_wearsBy_39 : decode cX2_wearsBy 39 = .ok (.istore_n 2, 1) := by decide +kernel
theorem dX2_wearsBy_40 : decode cX2_wearsBy 40 = .ok (.iinc 3 1, 3) := by decide +kernel
theorem dX2_wearsBy_43 : decode cX2_wearsBy 43 = .ok (.goto (-39), 3) := by decide +kernel
theorem dX2_wearsBy_46 : decode cX2_wearsBy 46 = .ok (.iload_n 2, 1) := by decide +kernel
theorem dX2_wearsBy_47 : decode cX2_wearsBy 47 = .ok (.ireturn, 1) := by decide +kernel
theorem dX2_holds_0 : decode cX2_holds 0 = .ok (.aload_n 0, 1) := by decide +kernel
theorem dX2_holds_1 : decode cX2_holds 1 = .ok (.getfield 24, 3) := by decide +kernel
theorem dX2_holds_4 : decode cX2_holds 4 = .ok (.iload_n 1, 1) := by decide +kernel
theorem dX2_holds_5 : decode cX2_holds 5 = .ok (.iconst 1, 1) := by decide +kernel
theorem dX2_holds_6 : decode cX2_holds 6 = .ok (.iadd, 1) := by decide +kernel
theorem dX2_holds_7 : decode cX2_holds 7 = .ok (.iaload, 1) := by decide +kernel
theorem dX2_holds_8 : decode cX2_holds 8 = .ok (.istore_n 3, 1) := by decide +kernel
theorem dX2_holds_9 : decode cX2_holds 9 = .ok (.iconst 1, 1) := by decide +kernel
theorem dX2_holds_10 : decode cX2_holds 10 = .ok (.istore 4, 2) := by decide +kernel
theorem dX2_holds_12 : decode cX2_holds 12 = .ok (.aload_n 0, 1) := by decide +kernel
theorem dX2_holds_13 : decode cX2_holds 13 = .ok (.getfield 24, 3) := by decide +kernel
theorem dX2_holds_16 : decode cX2_holds 16 = .ok (.iload_n 1, 1) := by decide +kernel
theorem dX2_holds_17 : decode cX2_holds 17 = .ok (.iaload, 1) := by decide +kernel
theorem dX2_holds_18 : decode cX2_holds 18 = .ok (.istore 5, 2) := by decide +kernel
theorem dX2_holds_20 : decode cX2_holds 20 = .ok (.iload 5, 2) := by decide +kernel
theorem dX2_holds_22 : decode cX2_holds 22 = .ok (.iload_n 3, 1) := by decide +kernel
theorem dX2_holds_23 : decode cX2_holds 23 = .ok (.if_icmp .ge 223, 3) := by decide +kernel
theorem dX2_holds_26 : decode cX2_holds 26 = .ok (.aload_n 0, 1) := by decide +kernel
theorem dX2_holds_27 : decode cX2_holds 27 = .ok (.getfield 27, 3) := by decide +kernel
theorem dX2_holds_30 : decode cX2_holds 30 = .ok (.iload 5, 2) := by decide +kernel
theorem dX2_holds_32 : decode cX2_holds 32 = .ok (.iaload, 1) := by decide +kernel
theorem dX2_holds_33 : decode cX2_holds 33 = .ok (.istore 6, 2) := by decide +kernel
theorem dX2_holds_35 : decode cX2_holds 35 = .ok (.iinc 5 1, 3) := by decide +kernel
theorem dX2_holds_38 : decode cX2_holds 38 = .ok (.iload 6, 2) := by decide +kernel
theorem dX2_holds_40 : decode cX2_holds 40 = .ok (.ifCond .ne 12, 3) := by decide +kernel
theorem dX2_holds_43 : decode cX2_holds 43 = .ok (.iload 4, 2) := by decide +kernel
theorem dX2_holds_45 : decode cX2_holds 45 = .ok (.iconst 1, 1) := by decide +kernel
theorem dX2_holds_46 : decode cX2_holds 46 = .ok (.ixor, 1) := by decide +kernel
theorem dX2_holds_47 : decode cX2_holds 47 = .ok (.istore 4, 2) := by decide +kernel
theorem dX2_holds_49 : decode cX2_holds 49 = .ok (.goto 194, 3) := by decide +kernel
theorem dX2_holds_52 : decode cX2_holds 52 = .ok (.iload 6, 2) := by decide +kernel
theorem dX2_holds_54 : decode cX2_holds 54 = .ok (.iconst 1, 1) := by decide +kernel
theorem dX2_holds_55 : decode cX2_holds 55 = .ok (.if_icmp .ne 18, 3) := by decide +kernel
theorem dX2_holds_58 : decode cX2_holds 58 = .ok (.iload 4, 2) := by decide +kernel
theorem dX2_holds_60 : decode cX2_holds 60 = .ok (.iconst 1, 1) := by decide +kernel
theorem dX2_holds_61 : decode cX2_holds 61 = .ok (.ishr, 1) := by decide +kernel
theorem dX2_holds_62 : decode cX2_holds 62 = .ok (.iload 4, 2) := by decide +kernel
theorem dX2_holds_64 : decode cX2_holds 64 = .ok (.bipush (-2), 2) := by decide +kernel
theorem dX2_holds_66 : decode cX2_holds 66 = .ok (.ior, 1) := by decide +kernel
theorem dX2_holds_67 : decode cX2_holds 67 = .ok (.iand, 1) := by decide +kernel
theorem dX2_holds_68 : decode cX2_holds 68 = .ok (.istore 4, 2) := by decide +kernel
theorem dX2_holds_70 : decode cX2_holds 70 = .ok (.goto 173, 3) := by decide +kernel
theorem dX2_holds_73 : decode cX2_holds 73 = .ok (.iload 6, 2) := by decide +kernel
theorem dX2_holds_75 : decode cX2_holds 75 = .ok (.iconst 2, 1) := by decide +kernel
theorem dX2_holds_76 : decode cX2_holds 76 = .ok (.if_icmp .ne 17, 3) := by decide +kernel
theorem dX2_holds_79 : decode cX2_holds 79 = .ok (.iload 4, 2) := by decide +kernel
theorem dX2_holds_81 : decode cX2_holds 81 = .ok (.iconst 1, 1) := by decide +kernel
theorem dX2_holds_82 : decode cX2_holds 82 = .ok (.ishr, 1) := by decide +kernel
theorem dX2_holds_83 : decode cX2_holds 83 = .ok (.iload 4, 2) := by decide +kernel
theorem dX2_holds_85 : decode cX2_holds 85 = .ok (.iconst 1, 1) := by decide +kernel
theorem dX2_holds_86 : decode cX2_holds 86 = .ok (.iand, 1) := by decide +kernel
theorem dX2_holds_87 : decode cX2_holds 87 = .ok (.ior, 1) := by decide +kernel
theorem dX2_holds_88 : decode cX2_holds 88 = .ok (.istore 4, 2) := by decide +kernel
theorem dX2_holds_90 : decode cX2_holds 90 = .ok (.goto 153, 3) := by decide +kernel
theorem dX2_holds_93 : decode cX2_holds 93 = .ok (.iload 6, 2) := by decide +kernel
theorem dX2_holds_95 : decode cX2_holds 95 = .ok (.iconst 3, 1) := by decide +kernel
theorem dX2_holds_96 : decode cX2_holds 96 = .ok (.if_icmp .ne 25, 3) := by decide +kernel
theorem dX2_holds_99 : decode cX2_holds 99 = .ok (.iload 4, 2) := by decide +kernel
theorem dX2_holds_101 : decode cX2_holds 101 = .ok (.iconst 1, 1) := by decide +kernel
theorem dX2_holds_102 : decode cX2_holds 102 = .ok (.ishl, 1) := by decide +kernel
theorem dX2_holds_103 : decode cX2_holds 103 = .ok (.aload_n 2, 1) := by decide +kernel
theorem dX2_holds_104 : decode cX2_holds 104 = .ok (.aload_n 0, 1) := by decide +kernel
theorem dX2_holds_105 : decode cX2_holds 105 = .ok (.getfield 27, 3) := by decide +kernel
theorem dX2_holds_108 : decode cX2_holds 108 = .ok (.iload 5, 2) := by decide +kernel
theorem dX2_holds_110 : decode cX2_holds 110 = .ok (.iaload, 1) := by decide +kernel
theorem dX2_holds_111 : decode cX2_holds 111 = .ok (.iaload, 1) := by decide +kernel
theorem dX2_holds_112 : decode cX2_holds 112 = .ok (.ior, 1) := by decide +kernel
theorem dX2_holds_113 : decode cX2_holds 113 = .ok (.istore 4, 2) := by decide +kernel
theorem dX2_holds_115 : decode cX2_holds 115 = .ok (.iinc 5 1, 3) := by decide +kernel
theorem dX2_holds_118 : decode cX2_holds 118 = .ok (.goto 125, 3) := by decide +kernel
theorem dX2_holds_121 : decode cX2_holds 121 = .ok (.aload_n 0, 1) := by decide +kernel
theorem dX2_holds_122 : decode cX2_holds 122 = .ok (.getfield 27, 3) := by decide +kernel
theorem dX2_holds_125 : decode cX2_holds 125 = .ok (.iload 5, 2) := by decide +kernel
theorem dX2_holds_127 : decode cX2_holds 127 = .ok (.iaload, 1) := by decide +kernel
theorem dX2_holds_128 : decode cX2_holds 128 = .ok (.istore 7, 2) := by decide +kernel
theorem dX2_holds_130 : decode cX2_holds 130 = .ok (.iload 5, 2) := by decide +kernel
theorem dX2_holds_132 : decode cX2_holds 132 = .ok (.iconst 1, 1) := by decide +kernel
theorem dX2_holds_133 : decode cX2_holds 133 = .ok (.iadd, 1) := by decide +kernel
theorem dX2_holds_134 : decode cX2_holds 134 = .ok (.aload_n 0, 1) := by decide +kernel
theorem dX2_holds_135 : decode cX2_holds 135 = .ok (.getfield 27, 3) := by decide +kernel
theorem dX2_holds_138 : decode cX2_holds 138 = .ok (.iload 5, 2) := by decide +kernel
theorem dX2_holds_140 : decode cX2_holds 140 = .ok (.iconst 1, 1) := by decide +kernel
theorem dX2_holds_141 : decode cX2_holds 141 = .ok (.iadd, 1) := by decide +kernel
theorem dX2_holds_142 : decode cX2_holds 142 = .ok (.iaload, 1) := by decide +kernel
theorem dX2_holds_143 : decode cX2_holds 143 = .ok (.iadd, 1) := by decide +kernel
theorem dX2_holds_144 : decode cX2_holds 144 = .ok (.istore 8, 2) := by decide +kernel
theorem dX2_holds_146 : decode cX2_holds 146 = .ok (.iinc 5 2, 3) := by decide +kernel
theorem dX2_holds_149 : decode cX2_holds 149 = .ok (.iload 5, 2) := by decide +kernel
theorem dX2_holds_151 : decode cX2_holds 151 = .ok (.iload 8, 2) := by decide +kernel
theorem dX2_holds_153 : decode cX2_holds 153 = .ok (.if_icmp .gt 42, 3) := by decide +kernel
theorem dX2_holds_156 : decode cX2_holds 156 = .ok (.aload_n 0, 1) := by decide +kernel
theorem dX2_holds_157 : decode cX2_holds 157 = .ok (.getfield 27, 3) := by decide +kernel
theorem dX2_holds_160 : decode cX2_holds 160 = .ok (.iload 5, 2) := by decide +kernel
theorem dX2_holds_162 : decode cX2_holds 162 = .ok (.iaload, 1) := by decide +kernel
theorem dX2_holds_163 : decode cX2_holds 163 = .ok (.istore 9, 2) := by decide +kernel
theorem dX2_holds_165 : decode cX2_holds 165 = .ok (.iload 7, 2) := by decide +kernel
theorem dX2_holds_167 : decode cX2_holds 167 = .ok (.iload 9, 2) := by decide +kernel
theorem dX2_holds_169 : decode cX2_holds 169 = .ok (.ifCond .lt 10, 3) := by decide +kernel
theorem dX2_holds_172 : decode cX2_holds 172 = .ok (.aload_n 2, 1) := by decide +kernel
theorem dX2_holds_173 : decode cX2_holds 173 = .ok (.iload 9, 2) := by decide +kernel
theorem dX2_holds_175 : decode cX2_holds 175 = .ok (.iaload, 1) := by decide +kernel
theorem dX2_holds_176 : decode cX2_holds 176 = .ok (.goto 10, 3) := by decide +kernel
theorem dX2_holds_179 : decode cX2_holds 179 = .ok (.aload_n 2, 1) := by decide +kernel
theorem dX2_holds_180 : decode cX2_holds 180 = .ok (.iload 9, 2) := by decide +kernel
theorem dX2_holds_182 : decode cX2_holds 182 = .ok (.iconst (-1), 1) := by decide +kernel
theorem dX2_holds_183 : decode cX2_holds 183 = .ok (.ixor, 1) := by decide +kernel
theorem dX2_holds_184 : decode cX2_holds 184 = .ok (.iaload, 1) := by decide +kernel
theorem dX2_holds_185 : decode cX2_holds 185 = .ok (.ineg, 1) := by decide +kernel
theorem dX2_holds_186 : decode cX2_holds 186 = .ok (.iadd, 1) := by decide +kernel
theorem dX2_holds_187 : decode cX2_holds 187 = .ok (.istore 7, 2) := by decide +kernel
theorem dX2_holds_189 : decode cX2_holds 189 = .ok (.iinc 5 1, 3) := by decide +kernel
theorem dX2_holds_192 : decode cX2_holds 192 = .ok (.goto (-43), 3) := by decide +kernel
theorem dX2_holds_195 : decode cX2_holds 195 = .ok (.iload 6, 2) := by decide +kernel
theorem dX2_holds_197 : decode cX2_holds 197 = .ok (.iconst 4, 1) := by decide +kernel
theorem dX2_holds_198 : decode cX2_holds 198 = .ok (.if_icmp .ne 16, 3) := by decide +kernel
theorem dX2_holds_201 : decode cX2_holds 201 = .ok (.iload 7, 2) := by decide +kernel
theorem dX2_holds_203 : decode cX2_holds 203 = .ok (.ifCond .ge 7, 3) := by decide +kernel
theorem dX2_holds_206 : decode cX2_holds 206 = .ok (.iconst 1, 1) := by decide +kernel
theorem dX2_holds_207 : decode cX2_holds 207 = .ok (.goto 17, 3) := by decide +kernel
theorem dX2_holds_210 : decode cX2_holds 210 = .ok (.iconst 0, 1) := by decide +kernel
theorem dX2_holds_211 : decode cX2_holds 211 = .ok (.goto 13, 3) := by decide +kernel
theorem dX2_holds_214 : decode cX2_holds 214 = .ok (.iload 7, 2) := by decide +kernel
theorem dX2_holds_216 : decode cX2_holds 216 = .ok (.ifCond .le 7, 3) := by decide +kernel
theorem dX2_holds_219 : decode cX2_holds 219 = .ok (.iconst 1, 1) := by decide +kernel
theorem dX2_holds_220 : decode cX2_holds 220 = .ok (.goto 4, 3) := by decide +kernel
theorem dX2_holds_223 : decode cX2_holds 223 = .ok (.iconst 0, 1) := by decide +kernel
theorem dX2_holds_224 : decode cX2_holds 224 = .ok (.istore 9, 2) := by decide +kernel
theorem dX2_holds_226 : decode cX2_holds 226 = .ok (.iload 4, 2) := by decide +kernel
theorem dX2_holds_228 : decode cX2_holds 228 = .ok (.iconst 1, 1) := by decide +kernel
theorem dX2_holds_229 : decode cX2_holds 229 = .ok (.ishl, 1) := by decide +kernel
theorem dX2_holds_230 : decode cX2_holds 230 = .ok (.iload 9, 2) := by decide +kernel
theorem dX2_holds_232 : decode cX2_holds 232 = .ok (.ifCond .eq 7, 3) := by decide +kernel
theorem dX2_holds_235 : decode cX2_holds 235 = .ok (.iconst 1, 1) := by decide +kernel
theorem dX2_holds_236 : decode cX2_holds 236 = .ok (.goto 4, 3) := by decide +kernel
theorem dX2_holds_239 : decode cX2_holds 239 = .ok (.iconst 0, 1) := by decide +kernel
theorem dX2_holds_240 : decode cX2_holds 240 = .ok (.ior, 1) := by decide +kernel
theorem dX2_holds_241 : decode cX2_holds 241 = .ok (.istore 4, 2) := by decide +kernel
theorem dX2_holds_243 : decode cX2_holds 243 = .ok (.goto (-223), 3) := by decide +kernel
theorem dX2_holds_246 : decode cX2_holds 246 = .ok (.iload 4, 2) := by decide +kernel
theorem dX2_holds_248 : decode cX2_holds 248 = .ok (.iconst 1, 1) := by decide +kernel
theorem dX2_holds_249 : decode cX2_holds 249 = .ok (.iand, 1) := by decide +kernel
theorem dX2_holds_250 : decode cX2_holds 250 = .ok (.iconst 1, 1) := by decide +kernel
theorem dX2_holds_251 : decode cX2_holds 251 = .ok (.if_icmp .ne 7, 3) := by decide +kernel
theorem dX2_holds_254 : decode cX2_holds 254 = .ok (.iconst 1, 1) := by decide +kernel
theorem dX2_holds_255 : decode cX2_holds 255 = .ok (.goto 4, 3) := by decide +kernel
theorem dX2_holds_258 : decode cX2_holds 258 = .ok (.iconst 0, 1) := by decide +kernel
theorem dX2_holds_259 : decode cX2_holds 259 = .ok (.ireturn, 1) := by decide +kernel
theorem dX3_init_0 : decode cX3_init 0 = .ok (.aload_n 0, 1) := by decide +kernel
theorem dX3_init_1 : decode cX3_init 1 = .ok (.invokespecial 3, 3) := by decide +kernel
theorem dX3_init_4 : decode cX3_init 4 = .ok (.aload_n 0, 1) := by decide +kernel
theorem dX3_init_5 : decode cX3_init 5 = .ok (.iconst 0, 1) := by decide +kernel
theorem dX3_init_6 : decode cX3_init 6 = .ok (.putfield 9, 3) := by decide +kernel
theorem dX3_init_9 : decode cX3_init 9 = .ok (.aload_n 0, 1) := by decide +kernel
theorem dX3_init_10 : decode cX3_init 10 = .ok (.iconst 0, 1) := by decide +kernel
theorem dX3_init_11 : decode cX3_init 11 = .ok (.putfield 15, 3) := by decide +kernel
theorem dX3_init_14 : decode cX3_init 14 = .ok (.aload_n 0, 1) := by decide +kernel
theorem dX3_init_15 : decode cX3_init 15 = .ok (.bipush 12, 2) := by decide +kernel
theorem dX3_init_17 : decode cX3_init 17 = .ok (.newarray .int, 2) := by decide +kernel
theorem dX3_init_19 : decode cX3_init 19 = .ok (.putfield 20, 3) := by decide +kernel
theorem dX3_init_22 : decode cX3_init 22 = .ok (.aload_n 0, 1) := by decide +kernel
theorem dX3_init_23 : decode cX3_init 23 = .ok (.bipush 12, 2) := by decide +kernel
theorem dX3_init_25 : decode cX3_init 25 = .ok (.newarray .int, 2) := by decide +kernel
theorem dX3_init_27 : decode cX3_init 27 = .ok (.putfield 24, 3) := by decide +kernel
theorem dX3_init_30 : decode cX3_init 30 = .ok (.aload_n 0, 1) := by decide +kernel
theorem dX3_init_31 : decode cX3_init 31 = .ok (.bipush 13, 2) := by decide +kernel
theorem dX3_init_33 : decode cX3_init 33 = .ok (.newarray .int, 2) := by decide +kernel
theorem dX3_init_35 : decode cX3_init 35 = .ok (.putfield 27, 3) := by decide +kernel
theorem dX3_init_38 : decode cX3_init 38 = .ok (.aload_n 0, 1) := by decide +kernel
theorem dX3_init_39 : decode cX3_init 39 = .ok (.sipush 408, 3) := by decide +kernel
theorem dX3_init_42 : decode cX3_init 42 = .ok (.newarray .int, 2) := by decide +kernel
theorem dX3_init_44 : decode cX3_init 44 = .ok (.putfield 30, 3) := by decide +kernel
theorem dX3_init_47 : decode cX3_init 47 = .ok (.aload_n 0, 1) := by decide +kernel
theorem dX3_init_48 : decode cX3_init 48 = .ok (.aload_n 1, 1) := by decide +kernel
theorem dX3_init_49 : decode cX3_init 49 = .ok (.putfield 33, 3) := by decide +kernel
theorem dX3_init_52 : decode cX3_init 52 = .ok (.return_, 1) := by decide +kernel
theorem dX3_read_0 : decode cX3_read 0 = .ok (.aload_n 0, 1) := by decide +kernel
theorem dX3_read_1 : decode cX3_read 1 = .ok (.iconst 0, 1) := by decide +kernel
theorem dX3_read_2 : decode cX3_read 2 = .ok (.putfield 9, 3) := by decide +kernel
theorem dX3_read_5 : decode cX3_read 5 = .ok (.aload_n 0, 1) := by decide +kernel
theorem dX3_read_6 : decode cX3_read 6 = .ok (.iconst 0, 1) := by decide +kernel
theorem dX3_read_7 : decode cX3_read 7 = .ok (.putfield 15, 3) := by decide +kernel
theorem dX3_read_10 : decode cX3_read 10 = .ok (.aload_n 0, 1) := by decide +kernel
theorem dX3_read_11 : decode cX3_read 11 = .ok (.getfield 33, 3) := by decide +kernel
theorem dX3_read_14 : decode cX3_read 14 = .ok (.invokevirtual 37, 3) := by decide +kernel
theorem dX3_read_17 : decode cX3_read 17 = .ok (.aload_n 0, 1) := by decide +kernel
theorem dX3_read_18 : decode cX3_read 18 = .ok (.getfield 33, 3) := by decide +kernel
theorem dX3_read_21 : decode cX3_read 21 = .ok (.invokevirtual 42, 3) := by decide +kernel
theorem dX3_read_24 : decode cX3_read 24 = .ok (.ifCond .eq 8, 3) := by decide +kernel
theorem dX3_read_27 : decode cX3_read 27 = .ok (.aload_n 0, 1) := by decide +kernel
theorem dX3_read_28 : decode cX3_read 28 = .ok (.invokevirtual 46, 3) := by decide +kernel
theorem dX3_read_31 : decode cX3_read 31 = .ok (.areturn, 1) := by decide +kernel
theorem dX3_read_32 : decode cX3_read 32 = .ok (.iconst 0, 1) := by decide +kernel
theorem dX3_read_33 : decode cX3_read 33 = .ok (.istore_n 1, 1) := by decide +kernel
theorem dX3_read_34 : decode cX3_read 34 = .ok (.iload_n 1, 1) := by decide +kernel
theorem dX3_read_35 : decode cX3_read 35 = .ok (.bipush 12, 2) := by decide +kernel
theorem dX3_read_37 : decode cX3_read 37 = .ok (.if_icmp .ge 68, 3) := by decide +kernel
theorem dX3_read_40 : decode cX3_read 40 = .ok (.aload_n 0, 1) := by decide +kernel
theorem dX3_read_41 : decode cX3_read 41 = .ok (.iload_n 1, 1) := by decide +kernel
theorem dX3_read_42 : decode cX3_read 42 = .ok (.invokevirtual 50, 3) := by decide +kernel
theorem dX3_read_45 : decode cX3_read 45 = .ok (.ifCond .ne 5, 3) := by decide +kernel
theorem dX3_read_48 : decode cX3_read 48 = .ok (.aconst_null, 1) := by decide +kernel
theorem dX3_read_49 : decode cX3_read 49 = .ok (.areturn, 1) := by decide +kernel
theorem dX3_read_50 : decode cX3_read 50 = .ok (.aload_n 0, 1) := by decide +kernel
theorem dX3_read_51 : decode cX3_read 51 = .ok (.iload_n 1, 1) := by decide +kernel
theorem dX3_read_52 : decode cX3_read 52 = .ok (.iconst 1, 1) := by decide +kernel
theorem dX3_read_53 : decode cX3_read 53 = .ok (.iadd, 1) := by decide +kernel
theorem dX3_read_54 : decode cX3_read 54 = .ok (.putfield 9, 3) := by decide +kernel
theorem dX3_read_57 : decode cX3_read 57 = .ok (.aload_n 0, 1) := by decide +kernel
theorem dX3_read_58 : decode cX3_read 58 = .ok (.getfield 27, 3) := by decide +kernel
theorem dX3_read_61 : decode cX3_read 61 = .ok (.aload_n 0, 1) := by decide +kernel
theorem dX3_read_62 : decode cX3_read 62 = .ok (.getfield 9, 3) := by decide +kernel
theorem dX3_read_65 : decode cX3_read 65 = .ok (.aload_n 0, 1) := by decide +kernel
theorem dX3_read_66 : decode cX3_read 66 = .ok (.getfield 15, 3) := by decide +kernel
theorem dX3_read_69 : decode cX3_read 69 = .ok (.iastore, 1) := by decide +kernel
theorem dX3_read_70 : decode cX3_read 70 = .ok (.aload_n 0, 1) := by decide +kernel
theorem dX3_read_71 : decode cX3_read 71 = .ok (.getfield 33, 3) := by decide +kernel
theorem dX3_read_74 : decode cX3_read 74 = .ok (.invokevirtual 42, 3) := by decide +kernel
theorem dX3_read_77 : decode cX3_read 77 = .ok (.ifCond .eq 8, 3) := by decide +kernel
theorem dX3_read_80 : decode cX3_read 80 = .ok (.aload_n 0, 1) := by decide +kernel
theorem dX3_read_81 : decode cX3_read 81 = .ok (.invokevirtual 46, 3) := by decide +kernel
theorem dX3_read_84 : decode cX3_read 84 = .ok (.areturn, 1) := by decide +kernel
theorem dX3_read_85 : decode cX3_read 85 = .ok (.aload_n 0, 1) := by decide +kernel
theorem dX3_read_86 : decode cX3_read 86 = .ok (.getfield 33, 3) := by decide +kernel
theorem dX3_read_89 : decode cX3_read 89 = .ok (.bipush 59, 2) := by decide +kernel
theorem dX3_read_91 : decode cX3_read 91 = .ok (.invokevirtual 54, 3) := by decide +kernel
theorem dX3_read_94 : decode cX3_read 94 = .ok (.ifCond .ne 5, 3) := by decide +kernel
theorem dX3_read_97 : decode cX3_read 97 = .ok (.aconst_null, 1) := by decide +kernel
theorem dX3_read_98 : decode cX3_read 98 = .ok (.areturn, 1) := by decide +kernel
theorem dX3_read_99 : decode cX3_read 99 = .ok (.iinc 1 1, 3) := by decide +kernel
theorem dX3_read_102 : decode cX3_read 102 = .ok (.goto (-68), 3) := by decide +kernel
theorem dX3_read_105 : decode cX3_read 105 = .ok (.aconst_null, 1) := by decide +kernel
theorem dX3_read_106 : decode cX3_read 106 = .ok (.areturn, 1) := by decide +kernel
theorem dX3_made_0 : decode cX3_made 0 = .ok (.new 18, 3) := by decide +kernel
theorem dX3_made_3 : decode cX3_made 3 = .ok (.dup, 1) := by decide +kernel
theorem dX3_made_4 : decode cX3_made 4 = .ok (.aload_n 0, 1) := by decide +kernel
theorem dX3_made_5 : decode cX3_made 5 = .ok (.getfield 9, 3) := by decide +kernel
theorem dX3_made_8 : decode cX3_made 8 = .ok (.iconst 1, 1) := by decide +kernel
theorem dX3_made_9 : decode cX3_made 9 = .ok (.aload_n 0, 1) := by decide +kernel
theorem dX3_made_10 : decode cX3_made 10 = .ok (.getfield 20, 3) := by decide +kernel
theorem dX3_made_13 : decode cX3_made 13 = .ok (.aload_n 0, 1) := by decide +kernel
theorem dX3_made_14 : decode cX3_made 14 = .ok (.getfield 9, 3) := by decide +kernel
theorem dX3_made_17 : decode cX3_made 17 = .ok (.invokestatic 58, 3) := by decide +kernel
theorem dX3_made_20 : decode cX3_made 20 = .ok (.aload_n 0, 1) := by decide +kernel
theorem dX3_made_21 : decode cX3_made 21 = .ok (.getfield 24, 3) := by decide +kernel
theorem dX3_made_24 : decode cX3_made 24 = .ok (.aload_n 0, 1) := by decide +kernel
theorem dX3_made_25 : decode cX3_made 25 = .ok (.getfield 9, 3) := by decide +kernel
theorem dX3_made_28 : decode cX3_made 28 = .ok (.invokestatic 58, 3) := by decide +kernel
theorem dX3_made_31 : decode cX3_made 31 = .ok (.aload_n 0, 1) := by decide +kernel
theorem dX3_made_32 : decode cX3_made 32 = .ok (.getfield 27, 3) := by decide +kernel
theorem dX3_made_35 : decode cX3_made 35 = .ok (.aload_n 0, 1) := by decide +kernel
theorem dX3_made_36 : decode cX3_made 36 = .ok (.getfield 9, 3) := by decide +kernel
theorem dX3_made_39 : decode cX3_made 39 = .ok (.iconst 1, 1) := by decide +kernel
theorem dX3_made_40 : decode cX3_made 40 = .ok (.iadd, 1) := by decide +kernel
theorem dX3_made_41 : decode cX3_made 41 = .ok (.invokestatic 58, 3) := by decide +kernel
theorem dX3_made_44 : decode cX3_made 44 = .ok (.aload_n 0, 1) := by decide +kernel
theorem dX3_made_45 : decode cX3_made 45 = .ok (.getfield 30, 3) := by decide +kernel
theorem dX3_made_48 : decode cX3_made 48 = .ok (.aload_n 0, 1) := by decide +kernel
theorem dX3_made_49 : decode cX3_made 49 = .ok (.getfield 15, 3) := by decide +kernel
theorem dX3_made_52 : decode cX3_made 52 = .ok (.invokestatic 58, 3) := by decide +kernel
theorem dX3_made_55 : decode cX3_made 55 = .ok (.invokespecial 64, 3) := by decide +kernel
theorem dX3_made_58 : decode cX3_made 58 = .ok (.areturn, 1) := by decide +kernel
theorem dX3_readLine_0 : decode cX3_readLine 0 = .ok (.aload_n 0, 1) := by decide +kernel
theorem dX3_readLine_1 : decode cX3_readLine 1 = .ok (.getfield 33, 3) := by decide +kernel
theorem dX3_readLine_4 : decode cX3_readLine 4 = .ok (.ldc2_w 67, 3) := by decide +kernel
theorem dX3_readLine_7 : decode cX3_readLine 7 = .ok (.invokevirtual 69, 3) := by decide +kernel
theorem dX3_readLine_10 : decode cX3_readLine 10 = .ok (.ifCond .eq 13, 3) := by decide +kernel
theorem dX3_readLine_13 : decode cX3_readLine 13 = .ok (.aload_n 0, 1) := by decide +kernel
theorem dX3_readLine_14 : decode cX3_readLine 14 = .ok (.getfield 20, 3) := by decide +kernel
theorem dX3_readLine_17 : decode cX3_readLine 17 = .ok (.iload_n 1, 1) := by decide +kernel
theorem dX3_readLine_18 : decode cX3_readLine 18 = .ok (.iconst 0, 1) := by decide +kernel
theorem dX3_readLine_19 : decode cX3_readLine 19 = .ok (.iastore, 1) := by decide +kernel
theorem dX3_readLine_20 : decode cX3_readLine 20 = .ok (.goto 51, 3) := by decide +kernel
theorem dX3_readLine_23 : decode cX3_readLine 23 = .ok (.aload_n 0, 1) := by decide +kernel
theorem dX3_readLine_24 : decode cX3_readLine 24 = .ok (.getfield 33, 3) := by decide +kernel
theorem dX3_readLine_27 : decode cX3_readLine 27 = .ok (.ldc2_w 73, 3) := by decide +kernel
theorem dX3_readLine_30 : decode cX3_readLine 30 = .ok (.invokevirtual 69, 3) := by decide +kernel
theorem dX3_readLine_33 : decode cX3_readLine 33 = .ok (.ifCond .eq 13, 3) := by decide +kernel
theorem dX3_readLine_36 : decode cX3_readLine 36 = .ok (.aload_n 0, 1) := by decide +kernel
theorem dX3_readLine_37 : decode cX3_readLine 37 = .ok (.getfield 20, 3) := by decide +kernel
theorem dX3_readLine_40 : decode cX3_readLine 40 = .ok (.iload_n 1, 1) := by decide +kernel
theorem dX3_readLine_41 : decode cX3_readLine 41 = .ok (.iconst 1, 1) := by decide +kernel
theorem dX3_readLine_42 : decode cX3_readLine 42 = .ok (.iastore, 1) := by decide +kernel
theorem dX3_readLine_43 : decode cX3_readLine 43 = .ok (.goto 28, 3) := by decide +kernel
theorem dX3_readLine_46 : decode cX3_readLine 46 = .ok (.aload_n 0, 1) := by decide +kernel
theorem dX3_readLine_47 : decode cX3_readLine 47 = .ok (.getfield 33, 3) := by decide +kernel
theorem dX3_readLine_50 : decode cX3_readLine 50 = .ok (.ldc2_w 75, 3) := by decide +kernel
theorem dX3_readLine_53 : decode cX3_readLine 53 = .ok (.invokevirtual 69, 3) := by decide +kernel
theorem dX3_readLine_56 : decode cX3_readLine 56 = .ok (.ifCond .eq 13, 3) := by decide +kernel
theorem dX3_readLine_59 : decode cX3_readLine 59 = .ok (.aload_n 0, 1) := by decide +kernel
theorem dX3_readLine_60 : decode cX3_readLine 60 = .ok (.getfield 20, 3) := by decide +kernel
theorem dX3_readLine_63 : decode cX3_readLine 63 = .ok (.iload_n 1, 1) := by decide +kernel
theorem dX3_readLine_64 : decode cX3_readLine 64 = .ok (.iconst 2, 1) := by decide +kernel
theorem dX3_readLine_65 : decode cX3_readLine 65 = .ok (.iastore, 1) := by decide +kernel
theorem dX3_readLine_66 : decode cX3_readLine 66 = .ok (.goto 5, 3) := by decide +kernel
theorem dX3_readLine_69 : decode cX3_readLine 69 = .ok (.iconst 0, 1) := by decide +kernel
theorem dX3_readLine_70 : decode cX3_readLine 70 = .ok (.ireturn, 1) := by decide +kernel
theorem dX3_readLine_71 : decode cX3_readLine 71 = .ok (.aload_n 0, 1) := by decide +kernel
theorem dX3_readLine_72 : decode cX3_readLine 72 = .ok (.getfield 33, 3) := by decide +kernel
theorem dX3_readLine_75 : decode cX3_readLine 75 = .ok (.iconst 0, 1) := by decide +kernel
theorem dX3_readLine_76 : decode cX3_readLine 76 = .ok (.bipush 30, 2) := by decide +kernel
theorem dX3_readLine_78 : decode cX3_readLine 78 = .ok (.invokevirtual 77, 3) := by decide +kernel
theorem dX3_readLine_81 : decode cX3_readLine 81 = .ok (.istore_n 2, 1) := by decide +kernel
theorem dX3_readLine_82 : decode cX3_readLine 82 = .ok (.iload_n 2, 1) := by decide +kernel
theorem dX3_readLine_83 : decode cX3_readLine 83 = .ok (.iconst (-1), 1) := by decide +kernel
theorem dX3_readLine_84 : decode cX3_readLine 84 = .ok (.if_icmp .ne 5, 3) := by decide +kernel
theorem dX3_readLine_87 : decode cX3_readLine 87 = .ok (.iconst 0, 1) := by decide +kernel
theorem dX3_readLine_88 : decode cX3_readLine 88 = .ok (.ireturn, 1) := by decide +kernel
theorem dX3_readLine_89 : decode cX3_readLine 89 = .ok (.aload_n 0, 1) := by decide +kernel
theorem dX3_readLine_90 : decode cX3_readLine 90 = .ok (.getfield 24, 3) := by decide +kernel
theorem dX3_readLine_93 : decode cX3_readLine 93 = .ok (.iload_n 1, 1) := by decide +kernel
theorem dX3_readLine_94 : decode cX3_readLine 94 = .ok (.iload_n 2, 1) := by decide +kernel
theorem dX3_readLine_95 : decode cX3_readLine 95 = .ok (.iastore, 1) := by decide +kernel
theorem dX3_readLine_96 : decode cX3_readLine 96 = .ok (.aload_n 0, 1) := by decide +kernel
theorem dX3_readLine_97 : decode cX3_readLine 97 = .ok (.getfield 33, 3) := by decide +kernel
theorem dX3_readLine_100 : decode cX3_readLine 100 = .ok (.invokevirtual 81, 3) := by decide +kernel
theorem dX3_readLine_103 : decode cX3_readLine 103 = .ok (.aload_n 0, 1) := by decide +kernel
theorem dX3_readLine_104 : decode cX3_readLine 104 = .ok (.getfield 33, 3) := by decide +kernel
theorem dX3_readLine_107 : decode cX3_readLine 107 = .ok (.ldc2_w 84, 3) := by decide +kernel
theorem dX3_readLine_110 : decode cX3_readLine 110 = .ok (.invokevirtual 69, 3) := by decide +kernel
theorem dX3_readLine_113 : decode cX3_readLine 113 = .ok (.ifCond .eq 11, 3) := by decide +kernel
theorem dX3_readLine_116 : decode cX3_readLine 116 = .ok (.aload_n 0, 1) := by decide +kernel
theorem dX3_readLine_117 : decode cX3_readLine 117 = .ok (.iconst 0, 1) := by decide +kernel
theorem dX3_readLine_118 : decode cX3_readLine 118 = .ok (.invokevirtual 86, 3) := by decide +kernel
theorem dX3_readLine_121 : decode cX3_readLine 121 = .ok (.ifCond .eq 7, 3) := by decide +kernel
theorem dX3_readLine_124 : decode cX3_readLine 124 = .ok (.iconst 1, 1) := by decide +kernel
theorem dX3_readLine_125 : decode cX3_readLine 125 = .ok (.goto 4, 3) := by decide +kernel
theorem dX3_readLine_128 : decode cX3_readLine 128 = .ok (.iconst 0, 1) := by decide +kernel
theorem dX3_readLine_129 : decode cX3_readLine 129 = .ok (.ireturn, 1) := by decide +kernel
theorem dX3_readCondition_0 : decode cX3_readCondition 0 = .ok (.iconst 0, 1) := by decide +kernel
theorem dX3_readCondition_1 : decode cX3_readCondition 1 = .ok (.istore_n 2, 1) := by decide +kernel
theorem dX3_readCondition_2 : decode cX3_readCondition 2 = .ok (.iconst 0, 1) := by decide +kernel
theorem dX3_readCondition_3 : decode cX3_readCondition 3 = .ok (.istore_n 3, 1) := by decide +kernel
theorem dX3_readCondition_4 : decode cX3_readCondition 4 = .ok (.iload_n 3, 1) := by decide +kernel
theorem dX3_readCondition_5 : decode cX3_readCondition 5 = .ok (.sipush 400, 3) := by decide +kernel
theorem dX3_readCondition_8 : decode cX3_readCondition 8 = .ok (.if_icmp .ge 98, 3) := by decide +kernel
theorem dX3_readCondition_11 : decode cX3_readCondition 11 = .ok (.aload_n 0, 1) := by decide +kernel
theorem dX3_readCondition_12 : decode cX3_readCondition 12 = .ok (.iload_n 1, 1) := by decide +kernel
theorem dX3_readCondition_13 : decode cX3_readCondition 13 = .ok (.invokevirtual 89, 3) := by decide +kernel
theorem dX3_readCondition_16 : decode cX3_readCondition 16 = .ok (.ifCond .ne 5, 3) := by decide +kernel
theorem dX3_readCondition_19 : decode cX3_readCondition 19 = .ok (.iconst 0, 1) := by decide +kernel
theorem dX3_readCondition_20 : decode cX3_readCondition 20 = .ok (.ireturn, 1) := by decide +kernel
theorem dX3_readCondition_21 : decode cX3_readCondition 21 = .ok (.iconst 0, 1) := by decide +kernel
theorem dX3_readCondition_22 : decode cX3_readCondition 22 = .ok (.istore 4, 2) := by decide +kernel
theorem dX3_readCondition_24 : decode cX3_readCondition 24 = .ok (.iload 4, 2) := by decide +kernel
theorem dX3_readCondition_26 : decode cX3_readCondition 26 = .ok (.sipush 400, 3) := by decide +kernel
theorem dX3_readCondition_29 : decode cX3_readCondition 29 = .ok (.if_icmp .ge 40, 3) := by decide +kernel
theorem dX3_readCondition_32 : decode cX3_readCondition 32 = .ok (.aload_n 0, 1) := by decide +kernel
theorem dX3_readCondition_33 : decode cX3_readCondition 33 = .ok (.getfield 33, 3) := by decide +kernel
theorem dX3_readCondition_36 : decode cX3_readCondition 36 = .ok (.ldc2_w 92, 3) := by decide +kernel
theorem dX3_readCondition_39 : decode cX3_readCondition 39 = .ok (.invokevirtual 69, 3) := by decide +kernel
theorem dX3_readCondition_42 : decode cX3_readCondition 42 = .ok (.ifCond .eq 27, 3) := by decide +kernel
theorem dX3_readCondition_45 : decode cX3_readCondition 45 = .ok (.aload_n 0, 1) := by decide +kernel
theorem dX3_readCondition_46 : decode cX3_readCondition 46 = .ok (.iload_n 1, 1) := by decide +kernel
theorem dX3_readCondition_47 : decode cX3_readCondition 47 = .ok (.invokevirtual 89, 3) := by decide +kernel
theorem dX3_readCondition_50 : decode cX3_readCondition 50 = .ok (.ifCond .eq 11, 3) := by decide +kernel
theorem dX3_readCondition_53 : decode cX3_readCondition 53 = .ok (.aload_n 0, 1) := by decide +kernel
theorem dX3_readCondition_54 : decode cX3_readCondition 54 = .ok (.iconst 1, 1) := by decide +kernel
theorem dX3_readCondition_55 : decode cX3_readCondition 55 = .ok (.invokevirtual 94, 3) := by decide +kernel
theorem dX3_readCondition_58 : decode cX3_readCondition 58 = .ok (.ifCond .ne 5, 3) := by decide +kernel
theorem dX3_readCondition_61 : decode cX3_readCondition 61 = .ok (.iconst 0, 1) := by decide +kernel
theorem dX3_readCondition_62 : decode cX3_readCondition 62 = .ok (.ireturn, 1) := by decide +kernel
theorem dX3_readCondition_63 : decode cX3_readCondition 63 = .ok (.iinc 4 1, 3) := by decide +kernel
theorem dX3_readCondition_66 : decode cX3_readCondition 66 = .ok (.goto (-42), 3) := by decide +kernel
theorem dX3_readCondition_69 : decode cX3_readCondition 69 = .ok (.iload_n 2, 1) := by decide +kernel
theorem dX3_readCondition_70 : decode cX3_readCondition 70 = .ok (.ifCond .eq 13, 3) := by decide +kernel
theorem dX3_readCondition_73 : decode cX3_readCondition 73 = .ok (.aload_n 0, 1) := by decide +kernel
theorem dX3_readCondition_74 : decode cX3_readCondition 74 = .ok (.iconst 2, 1) := by decide +kernel
theorem dX3_readCondition_75 : decode cX3_readCondition 75 = .ok (.invokevirtual 94, 3) := by decide +kernel
theorem dX3_readCondition_78 : decode cX3_readCondition 78 = .ok (.ifCond .ne 5, 3) := by decide +kernel
theorem dX3_readCondition_81 : decode cX3_readCondition 81 = .ok (.iconst 0, 1) := by decide +kernel
theorem dX3_readCondition_82 : decode cX3_readCondition 82 = .ok (.ireturn, 1) := by decide +kernel
theorem dX3_readCondition_83 : decode cX3_readCondition 83 = .ok (.iconst 1, 1) := by decide +kernel
theorem dX3_readCondition_84 : decode cX3_readCondition 84 = .ok (.istore_n 2, 1) := by decide +kernel
theorem dX3_readCondition_85 : decode cX3_readCondition 85 = .ok (.aload_n 0, 1) := by decide +kernel
theorem dX3_readCondition_86 : decode cX3_readCondition 86 = .ok (.getfield 33, 3) := by decide +kernel
theorem dX3_readCondition_89 : decode cX3_readCondition 89 = .ok (.ldc2_w 97, 3) := by decide +kernel
theorem dX3_readCondition_92 : decode cX3_readCondition 92 = .ok (.invokevirtual 69, 3) := by decide +kernel
theorem dX3_readCondition_95 : decode cX3_readCondition 95 = .ok (.ifCond .ne 5, 3) := by decide +kernel
theorem dX3_readCondition_98 : decode cX3_readCondition 98 = .ok (.iconst 1, 1) := by decide +kernel
theorem dX3_readCondition_99 : decode cX3_readCondition 99 = .ok (.ireturn, 1) := by decide +kernel
theorem dX3_readCondition_100 : decode cX3_readCondition 100 = .ok (.iinc 3 1, 3) := by decide +kernel
theorem dX3_readCondition_103 : decode cX3_readCondition 103 = .ok (.goto (-99), 3) := by decide +kernel
theorem dX3_readCondition_106 : decode cX3_readCondition 106 = .ok (.iconst 0, 1) := by decide +kernel
theorem dX3_readCondition_107 : decode cX3_readCondition 107 = .ok (.ireturn, 1) := by decide +kernel
theorem dX3_readAtom_0 : decode cX3_readAtom 0 = .ok (.aload_n 0, 1) := by decide +kernel
theorem dX3_readAtom_1 : decode cX3_readAtom 1 = .ok (.getfield 33, 3) := by decide +kernel
theorem dX3_readAtom_4 : decode cX3_readAtom 4 = .ok (.ldc2_w 99, 3) := by decide +kernel
theorem dX3_readAtom_7 : decode cX3_readAtom 7 = .ok (.invokevirtual 101, 3) := by decide +kernel
theorem dX3_readAtom_10 : decode cX3_readAtom 10 = .ok (.istore_n 2, 1) := by decide +kernel
theorem dX3_readAtom_11 : decode cX3_readAtom 11 = .ok (.iload_n 2, 1) := by decide +kernel
theorem dX3_readAtom_12 : decode cX3_readAtom 12 = .ok (.ifCond .ne 15, 3) := by decide +kernel
theorem dX3_readAtom_15 : decode cX3_readAtom 15 = .ok (.aload_n 0, 1) := by decide +kernel
theorem dX3_readAtom_16 : decode cX3_readAtom 16 = .ok (.getfield 33, 3) := by decide +kernel
theorem dX3_readAtom_19 : decode cX3_readAtom 19 = .ok (.bipush 40, 2) := by decide +kernel
theorem dX3_readAtom_21 : decode cX3_readAtom 21 = .ok (.invokevirtual 104, 3) := by decide +kernel
theorem dX3_readAtom_24 : decode cX3_readAtom 24 = .ok (.ifCond .eq 74, 3) := by decide +kernel
theorem dX3_readAtom_27 : decode cX3_readAtom 27 = .ok (.iload_n 1, 1) := by decide +kernel
theorem dX3_readAtom_28 : decode cX3_readAtom 28 = .ok (.bipush 6, 2) := by decide +kernel
theorem dX3_readAtom_30 : decode cX3_readAtom 30 = .ok (.if_icmp .lt 5, 3) := by decide +kernel
theorem dX3_readAtom_33 : decode cX3_readAtom 33 = .ok (.iconst 0, 1) := by decide +kernel
theorem dX3_readAtom_34 : decode cX3_readAtom 34 = .ok (.ireturn, 1) := by decide +kernel
theorem dX3_readAtom_35 : decode cX3_readAtom 35 = .ok (.aload_n 0, 1) := by decide +kernel
theorem dX3_readAtom_36 : decode cX3_readAtom 36 = .ok (.getfield 33, 3) := by decide +kernel
theorem dX3_readAtom_39 : decode cX3_readAtom 39 = .ok (.invokevirtual 81, 3) := by decide +kernel
theorem dX3_readAtom_42 : decode cX3_readAtom 42 = .ok (.iload_n 2, 1) := by decide +kernel
theorem dX3_readAtom_43 : decode cX3_readAtom 43 = .ok (.ifCond .eq 27, 3) := by decide +kernel
theorem dX3_readAtom_46 : decode cX3_readAtom 46 = .ok (.aload_n 0, 1) := by decide +kernel
theorem dX3_readAtom_47 : decode cX3_readAtom 47 = .ok (.iload_n 1, 1) := by decide +kernel
theorem dX3_readAtom_48 : decode cX3_readAtom 48 = .ok (.iconst 1, 1) := by decide +kernel
theorem dX3_readAtom_49 : decode cX3_readAtom 49 = .ok (.iadd, 1) := by decide +kernel
theorem dX3_readAtom_50 : decode cX3_readAtom 50 = .ok (.invokevirtual 89, 3) := by decide +kernel
theorem dX3_readAtom_53 : decode cX3_readAtom 53 = .ok (.ifCond .eq 15, 3) := by decide +kernel
theorem dX3_readAtom_56 : decode cX3_readAtom 56 = .ok (.aload_n 0, 1) := by decide +kernel
theorem dX3_readAtom_57 : decode cX3_readAtom 57 = .ok (.iconst 0, 1) := by decide +kernel
theorem dX3_readAtom_58 : decode cX3_readAtom 58 = .ok (.invokevirtual 94, 3) := by decide +kernel
theorem dX3_readAtom_61 : decode cX3_readAtom 61 = .ok (.ifCond .eq 7, 3) := by decide +kernel
theorem dX3_readAtom_64 : decode cX3_readAtom 64 = .ok (.iconst 1, 1) := by decide +kernel
theorem dX3_readAtom_65 : decode cX3_readAtom 65 = .ok (.goto 4, 3) := by decide +kernel
theorem dX3_readAtom_68 : decode cX3_readAtom 68 = .ok (.iconst 0, 1) := by decide +kernel
theorem dX3_readAtom_69 : decode cX3_readAtom 69 = .ok (.ireturn, 1) := by decide +kernel
theorem dX3_readAtom_70 : decode cX3_readAtom 70 = .ok (.aload_n 0, 1) := by decide +kernel
theorem dX3_readAtom_71 : decode cX3_readAtom 71 = .ok (.iload_n 1, 1) := by decide +kernel
theorem dX3_readAtom_72 : decode cX3_readAtom 72 = .ok (.iconst 1, 1) := by decide +kernel
theorem dX3_readAtom_73 : decode cX3_readAtom 73 = .ok (.iadd, 1) := by decide +kernel
theorem dX3_readAtom_74 : decode cX3_readAtom 74 = .ok (.invokevirtual 86, 3) := by decide +kernel
theorem dX3_readAtom_77 : decode cX3_readAtom 77 = .ok (.ifCond .eq 19, 3) := by decide +kernel
theorem dX3_readAtom_80 : decode cX3_readAtom 80 = .ok (.aload_n 0, 1) := by decide +kernel
theorem dX3_readAtom_81 : decode cX3_readAtom 81 = .ok (.getfield 33, 3) := by decide +kernel
theorem dX3_readAtom_84 : decode cX3_readAtom 84 = .ok (.bipush 41, 2) := by decide +kernel
theorem dX3_readAtom_86 : decode cX3_readAtom 86 = .ok (.invokevirtual 54, 3) := by decide +kernel
theorem dX3_readAtom_89 : decode cX3_readAtom 89 = .ok (.ifCond .eq 7, 3) := by decide +kernel
theorem dX3_readAtom_92 : decode cX3_readAtom 92 = .ok (.iconst 1, 1) := by decide +kernel
theorem dX3_readAtom_93 : decode cX3_readAtom 93 = .ok (.goto 4, 3) := by decide +kernel
theorem dX3_readAtom_96 : decode cX3_readAtom 96 = .ok (.iconst 0, 1) := by decide +kernel
theorem dX3_readAtom_97 : decode cX3_readAtom 97 = .ok (.ireturn, 1) := by decide +kernel
theorem dX3_readAtom_98 : decode cX3_readAtom 98 = .ok (.aload_n 0, 1) := by decide +kernel
theorem dX3_readAtom_99 : decode cX3_readAtom 99 = .ok (.getfield 33, 3) := by decide +kernel
theorem dX3_readAtom_102 : decode cX3_readAtom 102 = .ok (.ldc2_w 107, 3) := by decide +kernel
theorem dX3_readAtom_105 : decode cX3_readAtom 105 = .ok (.invokevirtual 69, 3) := by decide +kernel
theorem dX3_readAtom_108 : decode cX3_readAtom 108 = .ok (.ifCond .eq 26, 3) := by decide +kernel
theorem dX3_readAtom_111 : decode cX3_readAtom 111 = .ok (.aload_n 0, 1) := by decide +kernel
theorem dX3_readAtom_112 : decode cX3_readAtom 112 = .ok (.iconst 3, 1) := by decide +kernel
theorem dX3_readAtom_113 : decode cX3_readAtom 113 = .ok (.invokevirtual 94, 3) := by decide +kernel
theorem dX3_readAtom_116 : decode cX3_readAtom 116 = .ok (.ifCond .eq 16, 3) := by decide +kernel
theorem dX3_readAtom_119 : decode cX3_readAtom 119 = .ok (.aload_n 0, 1) := by decide +kernel
theorem dX3_readAtom_120 : decode cX3_readAtom 120 = .ok (.bipush 6, 2) := by decide +kernel
theorem dX3_readAtom_122 : decode cX3_readAtom 122 = .ok (.invokevirtual 94, 3) := by decide +kernel
theorem dX3_readAtom_125 : decode cX3_readAtom 125 = .ok (.ifCond .eq 7, 3) := by decide +kernel
theorem dX3_readAtom_128 : decode cX3_readAtom 128 = .ok (.iconst 1, 1) := by decide +kernel
theorem dX3_readAtom_129 : decode cX3_readAtom 129 = .ok (.goto 4, 3) := by decide +kernel
theorem dX3_readAtom_132 : decode cX3_readAtom 132 = .ok (.iconst 0, 1) := by decide +kernel
theorem dX3_readAtom_133 : decode cX3_readAtom 133 = .ok (.ireturn, 1) := by decide +kernel
theorem dX3_readAtom_134 : decode cX3_readAtom 134 = .ok (.aload_n 0, 1) := by decide +kernel
theorem dX3_readAtom_135 : decode cX3_readAtom 135 = .ok (.getfield 33, 3) := by decide +kernel
theorem dX3_readAtom_138 : decode cX3_readAtom 138 = .ok (.ldc2_w 109, 3) := by decide +kernel
theorem dX3_readAtom_141 : decode cX3_readAtom 141 = .ok (.invokevirtual 69, 3) := by decide +kernel
theorem dX3_readAtom_144 : decode cX3_readAtom 144 = .ok (.ifCond .eq 26, 3) := by decide +kernel
theorem dX3_readAtom_147 : decode cX3_readAtom 147 = .ok (.aload_n 0, 1) := by decide +kernel
theorem dX3_readAtom_148 : decode cX3_readAtom 148 = .ok (.iconst 3, 1) := by decide +kernel
theorem dX3_readAtom_149 : decode cX3_readAtom 149 = .ok (.invokevirtual 94, 3) := by decide +kernel
theorem dX3_readAtom_152 : decode cX3_readAtom 152 = .ok (.ifCond .eq 16, 3) := by decide +kernel
theorem dX3_readAtom_155 : decode cX3_readAtom 155 = .ok (.aload_n 0, 1) := by decide +kernel
theorem dX3_readAtom_156 : decode cX3_readAtom 156 = .ok (.bipush 7, 2) := by decide +kernel
theorem dX3_readAtom_158 : decode cX3_readAtom 158 = .ok (.invokevirtual 94, 3) := by decide +kernel
theorem dX3_readAtom_161 : decode cX3_readAtom 161 = .ok (.ifCond .eq 7, 3) := by decide +kernel
theorem dX3_readAtom_164 : decode cX3_readAtom 164 = .ok (.iconst 1, 1) := by decide +kernel
theorem dX3_readAtom_165 : decode cX3_readAtom 165 = .ok (.goto 4, 3) := by decide +kernel
theorem dX3_readAtom_168 : decode cX3_readAtom 168 = .ok (.iconst 0, 1) := by decide +kernel
theorem dX3_readAtom_169 : decode cX3_readAtom 169 = .ok (.ireturn, 1) := by decide +kernel
theorem dX3_readAtom_170 : decode cX3_readAtom 170 = .ok (.aload_n 0, 1) := by decide +kernel
theorem dX3_readAtom_171 : decode cX3_readAtom 171 = .ok (.invokevirtual 111, 3) := by decide +kernel
theorem dX3_readAtom_174 : decode cX3_readAtom 174 = .ok (.ireturn, 1) := by decide +kernel
theorem dX3_readComparison_0 : decode cX3_readComparison 0 = .ok (.aload_n 0, 1) := by decide +kernel
theorem dX3_readComparison_1 : decode cX3_readComparison 1 = .ok (.getfield 15, 3) := by decide +kernel
theorem dX3_readComparison_4 : decode cX3_readComparison 4 = .ok (.istore_n 1, 1) := by decide +kernel
theorem dX3_readComparison_5 : decode cX3_readComparison 5 = .ok (.aload_n 0, 1) := by decide +kernel
theorem dX3_readComparison_6 : decode cX3_readComparison 6 = .ok (.iconst 4, 1) := by decide +kernel
theorem dX3_readComparison_7 : decode cX3_readComparison 7 = .ok (.invokevirtual 94, 3) := by decide +kernel
theorem dX3_readComparison_10 : decode cX3_readComparison 10 = .ok (.ifCond .eq 19, 3) := by decide +kernel
theorem dX3_readComparison_13 : decode cX3_readComparison 13 = .ok (.aload_n 0, 1) := by decide +kernel
theorem dX3_readComparison_14 : decode cX3_readComparison 14 = .ok (.iconst 0, 1) := by decide +kernel
theorem dX3_readComparison_15 : decode cX3_readComparison 15 = .ok (.invokevirtual 94, 3) := by decide +kernel
theorem dX3_readComparison_18 : decode cX3_readComparison 18 = .ok (.ifCond .eq 11, 3) := by decide +kernel
theorem dX3_readComparison_21 : decode cX3_readComparison 21 = .ok (.aload_n 0, 1) := by decide +kernel
theorem dX3_readComparison_22 : decode cX3_readComparison 22 = .ok (.iconst 0, 1) := by decide +kernel
theorem dX3_readComparison_23 : decode cX3_readComparison 23 = .ok (.invokevirtual 94, 3) := by decide +kernel
theorem dX3_readComparison_26 : decode cX3_readComparison 26 = .ok (.ifCond .ne 5, 3) := by decide +kernel
theorem dX3_readComparison_29 : decode cX3_readComparison 29 = .ok (.iconst 0, 1) := by decide +kernel
theorem dX3_readComparison_30 : decode cX3_readComparison 30 = .ok (.ireturn, 1) := by decide +kernel
theorem dX3_readComparison_31 : decode cX3_readComparison 31 = .ok (.iconst 0, 1) := by decide +kernel
theorem dX3_readComparison_32 : decode cX3_readComparison 32 = .ok (.istore_n 2, 1) := by decide +kernel
theorem dX3_readComparison_33 : decode cX3_readComparison 33 = .ok (.iconst 0, 1) := by decide +kernel
theorem dX3_readComparison_34 : decode cX3_readComparison 34 = .ok (.istore_n 3, 1) := by decide +kernel
theorem dX3_readComparison_35 : decode cX3_readComparison 35 = .ok (.iload_n 3, 1) := by decide +kernel
theorem dX3_readComparison_36 : decode cX3_readComparison 36 = .ok (.sipush 400, 3) := by decide +kernel
theorem dX3_readComparison_39 : decode cX3_readComparison 39 = .ok (.if_icmp .ge 86, 3) := by decide +kernel
theorem dX3_readComparison_42 : decode cX3_readComparison 42 = .ok (.aload_n 0, 1) := by decide +kernel
theorem dX3_readComparison_43 : decode cX3_readComparison 43 = .ok (.iload_n 1, 1) := by decide +kernel
theorem dX3_readComparison_44 : decode cX3_readComparison 44 = .ok (.iload_n 2, 1) := by decide +kernel
theorem dX3_readComparison_45 : decode cX3_readComparison 45 = .ok (.invokevirtual 114, 3) := by decide +kernel
theorem dX3_readComparison_48 : decode cX3_readComparison 48 = .ok (.ifCond .ne 5, 3) := by decide +kernel
theorem dX3_readComparison_51 : decode cX3_readComparison 51 = .ok (.iconst 0, 1) := by decide +kernel
theorem dX3_readComparison_52 : decode cX3_readComparison 52 = .ok (.ireturn, 1) := by decide +kernel
theorem dX3_readComparison_53 : decode cX3_readComparison 53 = .ok (.aload_n 0, 1) := by decide +kernel
theorem dX3_readComparison_54 : decode cX3_readComparison 54 = .ok (.getfield 33, 3) := by decide +kernel
theorem dX3_readComparison_57 : decode cX3_readComparison 57 = .ok (.bipush 43, 2) := by decide +kernel
theorem dX3_readComparison_59 : decode cX3_readComparison 59 = .ok (.invokevirtual 54, 3) := by decide +kernel
theorem dX3_readComparison_62 : decode cX3_readComparison 62 = .ok (.ifCond .eq 6, 3) := by decide +kernel
theorem dX3_readComparison_65 : decode cX3_readComparison 65 = .ok (.goto 54, 3) := by decide +kernel
theorem dX3_readComparison_68 : decode cX3_readComparison 68 = .ok (.iload_n 2, 1) := by decide +kernel
theorem dX3_readComparison_69 : decode cX3_readComparison 69 = .ok (.ifCond .eq 5, 3) := by decide +kernel
theorem dX3_readComparison_72 : decode cX3_readComparison 72 = .ok (.iconst 1, 1) := by decide +kernel
theorem dX3_readComparison_73 : decode cX3_readComparison 73 = .ok (.ireturn, 1) := by decide +kernel
theorem dX3_readComparison_74 : decode cX3_readComparison 74 = .ok (.aload_n 0, 1) := by decide +kernel
theorem dX3_readComparison_75 : decode cX3_readComparison 75 = .ok (.getfield 33, 3) := by decide +kernel
theorem dX3_readComparison_78 : decode cX3_readComparison 78 = .ok (.bipush 62, 2) := by decide +kernel
theorem dX3_readComparison_80 : decode cX3_readComparison 80 = .ok (.invokevirtual 104, 3) := by decide +kernel
theorem dX3_readComparison_83 : decode cX3_readComparison 83 = .ok (.ifCond .eq 13, 3) := by decide +kernel
theorem dX3_readComparison_86 : decode cX3_readComparison 86 = .ok (.aload_n 0, 1) := by decide +kernel
theorem dX3_readComparison_87 : decode cX3_readComparison 87 = .ok (.getfield 30, 3) := by decide +kernel
theorem dX3_readComparison_90 : decode cX3_readComparison 90 = .ok (.iload_n 1, 1) := by decide +kernel
theorem dX3_readComparison_91 : decode cX3_readComparison 91 = .ok (.iconst 5, 1) := by decide +kernel
theorem dX3_readComparison_92 : decode cX3_readComparison 92 = .ok (.iastore, 1) := by decide +kernel
theorem dX3_readComparison_93 : decode cX3_readComparison 93 = .ok (.goto 17, 3) := by decide +kernel
theorem dX3_readComparison_96 : decode cX3_readComparison 96 = .ok (.aload_n 0, 1) := by decide +kernel
theorem dX3_readComparison_97 : decode cX3_readComparison 97 = .ok (.getfield 33, 3) := by decide +kernel
theorem dX3_readComparison_100 : decode cX3_readComparison 100 = .ok (.bipush 60, 2) := by decide +kernel
theorem dX3_readComparison_102 : decode cX3_readComparison 102 = .ok (.invokevirtual 104, 3) := by decide +kernel
theorem dX3_readComparison_105 : decode cX3_readComparison 105 = .ok (.ifCond .ne 5, 3) := by decide +kernel
theorem dX3_readComparison_108 : decode cX3_readComparison 108 = .ok (.iconst 0, 1) := by decide +kernel
theorem dX3_readComparison_109 : decode cX3_readComparison 109 = .ok (.ireturn, 1) := by decide +kernel
theorem dX3_readComparison_110 : decode cX3_readComparison 110 = .ok (.aload_n 0, 1) := by decide +kernel
theorem dX3_readComparison_111 : decode cX3_readComparison 111 = .ok (.getfield 33, 3) := by decide +kernel
theorem dX3_readComparison_114 : decode cX3_readComparison 114 = .ok (.invokevirtual 81, 3) := by decide +kernel
theorem dX3_readComparison_117 : decode cX3_readComparison 117 = .ok (.iconst 1, 1) := by decide +kernel
theorem dX3_readComparison_118 : decode cX3_readComparison 118 = .ok (.istore_n 2, 1) := by decide +kernel
theorem dX3_readComparison_119 : decode cX3_readComparison 119 = .ok (.iinc 3 1, 3) := by decide +kernel
theorem dX3_readComparison_122 : decode cX3_readComparison 122 = .ok (.goto (-87), 3) := by decide +kernel
theorem dX3_readComparison_125 : decode cX3_readComparison 125 = .ok (.iconst 0, 1) := by decide +kernel
theorem dX3_readComparison_126 : decode cX3_readComparison 126 = .ok (.ireturn, 1) := by decide +kernel
theorem dX3_readPart_0 : decode cX3_readPart 0 = .ok (.aload_n 0, 1) := by decide +kernel
theorem dX3_readPart_1 : decode cX3_readPart 1 = .ok (.getfield 33, 3) := by decide +kernel
theorem dX3_readPart_4 : decode cX3_readPart 4 = .ok (.iconst 0, 1) := by decide +kernel
theorem dX3_readPart_5 : decode cX3_readPart 5 = .ok (.sipush 999, 3) := by decide +kernel
theorem dX3_readPart_8 : decode cX3_readPart 8 = .ok (.invokevirtual 77, 3) := by decide +kernel
theorem dX3_readPart_11 : decode cX3_readPart 11 = .ok (.istore_n 3, 1) := by decide +kernel
theorem dX3_readPart_12 : decode cX3_readPart 12 = .ok (.iload_n 3, 1) := by decide +kernel
theorem dX3_readPart_13 : decode cX3_readPart 13 = .ok (.iconst (-1), 1) := by decide +kernel
theorem dX3_readPart_14 : decode cX3_readPart 14 = .ok (.if_icmp .eq 33, 3) := by decide +kernel
theorem dX3_readPart_17 : decode cX3_readPart 17 = .ok (.aload_n 0, 1) := by decide +kernel
theorem dX3_readPart_18 : decode cX3_readPart 18 = .ok (.getfield 30, 3) := by decide +kernel
theorem dX3_readPart_21 : decode cX3_readPart 21 = .ok (.iload_n 1, 1) := by decide +kernel
theorem dX3_readPart_22 : decode cX3_readPart 22 = .ok (.iconst 1, 1) := by decide +kernel
theorem dX3_readPart_23 : decode cX3_readPart 23 = .ok (.iadd, 1) := by decide +kernel
theorem dX3_readPart_24 : decode cX3_readPart 24 = .ok (.dup2, 1) := by decide +kernel
theorem dX3_readPart_25 : decode cX3_readPart 25 = .ok (.iaload, 1) := by decide +kernel
theorem dX3_readPart_26 : decode cX3_readPart 26 = .ok (.iload_n 2, 1) := by decide +kernel
theorem dX3_readPart_27 : decode cX3_readPart 27 = .ok (.ifCond .eq 8, 3) := by decide +kernel
theorem dX3_readPart_30 : decode cX3_readPart 30 = .ok (.iload_n 3, 1) := by decide +kernel
theorem dX3_readPart_31 : decode cX3_readPart 31 = .ok (.ineg, 1) := by decide +kernel
theorem dX3_readPart_32 : decode cX3_readPart 32 = .ok (.goto 4, 3) := by decide +kernel
theorem dX3_readPart_35 : decode cX3_readPart 35 = .ok (.iload_n 3, 1) := by decide +kernel
theorem dX3_readPart_36 : decode cX3_readPart 36 = .ok (.iadd, 1) := by decide +kernel
theorem dX3_readPart_37 : decode cX3_readPart 37 = .ok (.iastore, 1) := by decide +kernel
theorem dX3_readPart_38 : decode cX3_readPart 38 = .ok (.aload_n 0, 1) := by decide +kernel
theorem dX3_readPart_39 : decode cX3_readPart 39 = .ok (.getfield 33, 3) := by decide +kernel
theorem dX3_readPart_42 : decode cX3_readPart 42 = .ok (.invokevirtual 81, 3) := by decide +kernel
theorem dX3_readPart_45 : decode cX3_readPart 45 = .ok (.iconst 1, 1) := by decide +kernel
theorem dX3_readPart_46 : decode cX3_readPart 46 = .ok (.ireturn, 1) := by decide +kernel
theorem dX3_readPart_47 : decode cX3_readPart 47 = .ok (.aload_n 0, 1) := by decide +kernel
theorem dX3_readPart_48 : decode cX3_readPart 48 = .ok (.getfield 33, 3) := by decide +kernel
theorem dX3_readPart_51 : decode cX3_readPart 51 = .ok (.ldc2_w 118, 3) := by decide +kernel
theorem dX3_readPart_54 : decode cX3_readPart 54 = .ok (.invokevirtual 101, 3) := by decide +kernel
theorem dX3_readPart_57 : decode cX3_readPart 57 = .ok (.ifCond .eq 7, 3) := by decide +kernel
theorem dX3_readPart_60 : decode cX3_readPart 60 = .ok (.iconst 0, 1) := by decide +kernel
theorem dX3_readPart_61 : decode cX3_readPart 61 = .ok (.goto 89, 3) := by decide +kernel
theorem dX3_readPart_64 : decode cX3_readPart 64 = .ok (.aload_n 0, 1) := by decide +kernel
theorem dX3_readPart_65 : decode cX3_readPart 65 = .ok (.getfield 33, 3) := by decide +kernel
theorem dX3_readPart_68 : decode cX3_readPart 68 = .ok (.ldc2_w 120, 3) := by decide +kernel
theorem dX3_readPart_71 : decode cX3_readPart 71 = .ok (.invokevirtual 101, 3) := by decide +kernel
theorem dX3_readPart_74 : decode cX3_readPart 74 = .ok (.ifCond .eq 7, 3) := by decide +kernel
theorem dX3_readPart_77 : decode cX3_readPart 77 = .ok (.iconst 1, 1) := by decide +kernel
theorem dX3_readPart_78 : decode cX3_readPart 78 = .ok (.goto 72, 3) := by decide +kernel
theorem dX3_readPart_81 : decode cX3_readPart 81 = .ok (.aload_n 0, 1) := by decide +kernel
theorem dX3_readPart_82 : decode cX3_readPart 82 = .ok (.getfield 33, 3) := by decide +kernel
theorem dX3_readPart_85 : decode cX3_readPart 85 = .ok (.ldc2_w 122, 3) := by decide +kernel
theorem dX3_readPart_88 : decode cX3_readPart 88 = .ok (.invokevirtual 101, 3) := by decide +kernel
theorem dX3_readPart_91 : decode cX3_readPart 91 = .ok (.ifCond .eq 7, 3) := by decide +kernel
theorem dX3_readPart_94 : decode cX3_readPart 94 = .ok (.iconst 2, 1) := by decide +kernel
theorem dX3_readPart_95 : decode cX3_readPart 95 = .ok (.goto 55, 3) := by decide +kernel
theorem dX3_readPart_98 : decode cX3_readPart 98 = .ok (.aload_n 0, 1) := by decide +kernel
theorem dX3_readPart_99 : decode cX3_readPart 99 = .ok (.getfield 33, 3) := by decide +kernel
theorem dX3_readPart_102 : decode cX3_readPart 102 = .ok (.ldc2_w 124, 3) := by decide +kernel
theorem dX3_readPart_105 : decode cX3_readPart 105 = .ok (.invokevirtual 101, 3) := by decide +kernel
theorem dX3_readPart_108 : decode cX3_readPart 108 = .ok (.ifCond .eq 7, 3) := by decide +kernel
theorem dX3_readPart_111 : decode cX3_readPart 111 = .ok (.iconst 3, 1) := by decide +kernel
theorem dX3_readPart_112 : decode cX3_readPart 112 = .ok (.goto 38, 3) := by decide +kernel
theorem dX3_readPart_115 : decode cX3_readPart 115 = .ok (.aload_n 0, 1) := by decide +kernel
theorem dX3_readPart_116 : decode cX3_readPart 116 = .ok (.getfield 33, 3) := by decide +kernel
theorem dX3_readPart_119 : decode cX3_readPart 119 = .ok (.ldc2_w 126, 3) := by decide +kernel
theorem dX3_readPart_122 : decode cX3_readPart 122 = .ok (.invokevirtual 101, 3) := by decide +kernel
theorem dX3_readPart_125 : decode cX3_readPart 125 = .ok (.ifCond .eq 7, 3) := by decide +kernel
theorem dX3_readPart_128 : decode cX3_readPart 128 = .ok (.iconst 4, 1) := by decide +kernel
theorem dX3_readPart_129 : decode cX3_readPart 129 = .ok (.goto 21, 3) := by decide +kernel
theorem dX3_readPart_132 : decode cX3_readPart 132 = .ok (.aload_n 0, 1) := by decide +kernel
theorem dX3_readPart_133 : decode cX3_readPart 133 = .ok (.getfield 33, 3) := by decide +kernel
theorem dX3_readPart_136 : decode cX3_readPart 136 = .ok (.ldc2_w 128, 3) := by decide +kernel
theorem dX3_readPart_139 : decode cX3_readPart 139 = .ok (.invokevirtual 101, 3) := by decide +kernel
theorem dX3_readPart_142 : decode cX3_readPart 142 = .ok (.ifCond .eq 7, 3) := by decide +kernel
theorem dX3_readPart_145 : decode cX3_readPart 145 = .ok (.iconst 5, 1) := by decide +kernel
theorem dX3_readPart_146 : decode cX3_readPart 146 = .ok (.goto 4, 3) := by decide +kernel
theorem dX3_readPart_149 : decode cX3_readPart 149 = .ok (.iconst (-1), 1) := by decide +kernel
theorem dX3_readPart_150 : decode cX3_readPart 150 = .ok (.istore 4, 2) := by decide +kernel
theorem dX3_readPart_152 : decode cX3_readPart 152 = .ok (.iload 4, 2) := by decide +kernel
theorem dX3_readPart_154 : decode cX3_readPart 154 = .ok (.iconst (-1), 1) := by decide +kernel
theorem dX3_readPart_155 : decode cX3_readPart 155 = .ok (.if_icmp .eq 23, 3) := by decide +kernel
theorem dX3_readPart_158 : decode cX3_readPart 158 = .ok (.aload_n 0, 1) := by decide +kernel
theorem dX3_readPart_159 : decode cX3_readPart 159 = .ok (.iload_n 2, 1) := by decide +kernel
theorem dX3_readPart_160 : decode cX3_readPart 160 = .ok (.ifCond .eq 10, 3) := by decide +kernel
theorem dX3_readPart_163 : decode cX3_readPart 163 = .ok (.iload 4, 2) := by decide +kernel
theorem dX3_readPart_165 : decode cX3_readPart 165 = .ok (.iconst (-1), 1) := by decide +kernel
theorem dX3_readPart_166 : decode cX3_readPart 166 = .ok (.ixor, 1) := by decide +kernel
theorem dX3_readPart_167 : decode cX3_readPart 167 = .ok (.goto 5, 3) := by decide +kernel
theorem dX3_readPart_170 : decode cX3_readPart 170 = .ok (.iload 4, 2) := by decide +kernel
theorem dX3_readPart_172 : decode cX3_readPart 172 = .ok (.invokevirtual 94, 3) := by decide +kernel
theorem dX3_readPart_175 : decode cX3_readPart 175 = .ok (.ifCond .ne 5, 3) := by decide +kernel
theorem dX3_readPart_178 : decode cX3_readPart 178 = .ok (.iconst 0, 1) := by decide +kernel
theorem dX3_readPart_179 : decode cX3_readPart 179 = .ok (.ireturn, 1) := by decide +kernel
theorem dX3_readPart_180 : decode cX3_readPart 180 = .ok (.aload_n 0, 1) := by decide +kernel
theorem dX3_readPart_181 : decode cX3_readPart 181 = .ok (.getfield 30, 3) := by decide +kernel
theorem dX3_readPart_184 : decode cX3_readPart 184 = .ok (.iload_n 1, 1) := by decide +kernel
theorem dX3_readPart_185 : decode cX3_readPart 185 = .ok (.iconst 2, 1) := by decide +kernel
theorem dX3_readPart_186 : decode cX3_readPart 186 = .ok (.iadd, 1) := by decide +kernel
theorem dX3_readPart_187 : decode cX3_readPart 187 = .ok (.dup2, 1) := by decide +kernel
theorem dX3_readPart_188 : decode cX3_readPart 188 = .ok (.iaload, 1) := by decide +kernel
theorem dX3_readPart_189 : decode cX3_readPart 189 = .ok (.iconst 1, 1) := by decide +kernel
theorem dX3_readPart_190 : decode cX3_readPart 190 = .ok (.iadd, 1) := by decide +kernel
theorem dX3_readPart_191 : decode cX3_readPart 191 = .ok (.iastore, 1) := by decide +kernel
theorem dX3_readPart_192 : decode cX3_readPart 192 = .ok (.aload_n 0, 1) := by decide +kernel
theorem dX3_readPart_193 : decode cX3_readPart 193 = .ok (.getfield 33, 3) := by decide +kernel
theorem dX3_readPart_196 : decode cX3_readPart 196 = .ok (.invokevirtual 81, 3) := by decide +kernel
theorem dX3_readPart_199 : decode cX3_readPart 199 = .ok (.iconst 1, 1) := by decide +kernel
theorem dX3_readPart_200 : decode cX3_readPart 200 = .ok (.ireturn, 1) := by decide +kernel
theorem dX3_write_0 : decode cX3_write 0 = .ok (.aload_n 0, 1) := by decide +kernel
theorem dX3_write_1 : decode cX3_write 1 = .ok (.getfield 15, 3) := by decide +kernel
theorem dX3_write_4 : decode cX3_write 4 = .ok (.sipush 408, 3) := by decide +kernel
theorem dX3_write_7 : decode cX3_write 7 = .ok (.if_icmp .lt 5, 3) := by decide +kernel
theorem dX3_write_10 : decode cX3_write 10 = .ok (.iconst 0, 1) := by decide +kernel
theorem dX3_write_11 : decode cX3_write 11 = .ok (.ireturn, 1) := by decide +kernel
theorem dX3_write_12 : decode cX3_write 12 = .ok (.aload_n 0, 1) := by decide +kernel
theorem dX3_write_13 : decode cX3_write 13 = .ok (.getfield 30, 3) := by decide +kernel
theorem dX3_write_16 : decode cX3_write 16 = .ok (.aload_n 0, 1) := by decide +kernel
theorem dX3_write_17 : decode cX3_write 17 = .ok (.getfield 15, 3) := by decide +kernel
theorem dX3_write_20 : decode cX3_write 20 = .ok (.iload_n 1, 1) := by decide +kernel
theorem dX3_write_21 : decode cX3_write 21 = .ok (.iastore, 1) := by decide +kernel
theorem dX3_write_22 : decode cX3_write 22 = .ok (.aload_n 0, 1) := by decide +kernel
theorem dX3_write_23 : decode cX3_write 23 = .ok (.dup, 1) := by decide +kernel
theorem dX3_write_24 : decode cX3_write 24 = .ok (.getfield 15, 3) := by decide +kernel
theorem dX3_write_27 : decode cX3_write 27 = .ok (.iconst 1, 1) := by decide +kernel
theorem dX3_write_28 : decode cX3_write 28 = .ok (.iadd, 1) := by decide +kernel
theorem dX3_write_29 : decode cX3_write 29 = .ok (.putfield 15, 3) := by decide +kernel
theorem dX3_write_32 : decode cX3_write 32 = .ok (.iconst 1, 1) := by decide +kernel
theorem dX3_write_33 : decode cX3_write 33 = .ok (.ireturn, 1) := by decide +kernel
theorem dX4_init_0 : decode cX4_init 0 = .ok (.aload_n 0, 1) := by decide +kernel
theorem dX4_init_1 : decode cX4_init 1 = .ok (.invokespecial 3, 3) := by decide +kernel
theorem dX4_init_4 : decode cX4_init 4 = .ok (.aload_n 0, 1) := by decide +kernel
theorem dX4_init_5 : decode cX4_init 5 = .ok (.iconst 0, 1) := by decide +kernel
theorem dX4_init_6 : decode cX4_init 6 = .ok (.putfield 9, 3) := by decide +kernel
theorem dX4_init_9 : decode cX4_init 9 = .ok (.aload_n 0, 1) := by decide +kernel
theorem dX4_init_10 : decode cX4_init 10 = .ok (.iconst 0, 1) := by decide +kernel
theorem dX4_init_11 : decode cX4_init 11 = .ok (.putfield 15, 3) := by decide +kernel
theorem dX4_init_14 : decode cX4_init 14 = .ok (.aload_n 0, 1) := by decide +kernel
theorem dX4_init_15 : decode cX4_init 15 = .ok (.sipush 240, 3) := by decide +kernel
theorem dX4_init_18 : decode cX4_init 18 = .ok (.newarray .int, 2) := by decide +kernel
theorem dX4_init_20 : decode cX4_init 20 = .ok (.putfield 18, 3) := by decide +kernel
theorem dX4_init_23 : decode cX4_init 23 = .ok (.return_, 1) := by decide +kernel
theorem dX4_add_0 : decode cX4_add 0 = .ok (.aload_n 0, 1) := by decide +kernel
theorem dX4_add_1 : decode cX4_add 1 = .ok (.getfield 15, 3) := by decide +kernel
theorem dX4_add_4 : decode cX4_add 4 = .ok (.iconst 4, 1) := by decide +kernel
theorem dX4_add_5 : decode cX4_add 5 = .ok (.imul, 1) := by decide +kernel
theorem dX4_add_6 : decode cX4_add 6 = .ok (.istore 5, 2) := by decide +kernel
theorem dX4_add_8 : decode cX4_add 8 = .ok (.aload_n 0, 1) := by decide +kernel
theorem dX4_add_9 : decode cX4_add 9 = .ok (.getfield 18, 3) := by decide +kernel
theorem dX4_add_12 : decode cX4_add 12 = .ok (.iload 5, 2) := by decide +kernel
theorem dX4_add_14 : decode cX4_add 14 = .ok (.iload_n 1, 1) := by decide +kernel
theorem dX4_add_15 : decode cX4_add 15 = .ok (.iastore, 1) := by decide +kernel
theorem dX4_add_16 : decode cX4_add 16 = .ok (.aload_n 0, 1) := by decide +kernel
theorem dX4_add_17 : decode cX4_add 17 = .ok (.getfield 18, 3) := by decide +kernel
theorem dX4_add_20 : decode cX4_add 20 = .ok (.iload 5, 2) := by decide +kernel
theorem dX4_add_22 : decode cX4_add 22 = .ok (.iconst 1, 1) := by decide +kernel
theorem dX4_add_23 : decode cX4_add 23 = .ok (.iadd, 1) := by decide +kernel
theorem dX4_add_24 : decode cX4_add 24 = .ok (.iload_n 2, 1) := by decide +kernel
theorem dX4_add_25 : decode cX4_add 25 = .ok (.iastore, 1) := by decide +kernel
theorem dX4_add_26 : decode cX4_add 26 = .ok (.aload_n 0, 1) := by decide +kernel
theorem dX4_add_27 : decode cX4_add 27 = .ok (.getfield 18, 3) := by decide +kernel
theorem dX4_add_30 : decode cX4_add 30 = .ok (.iload 5, 2) := by decide +kernel
theorem dX4_add_32 : decode cX4_add 32 = .ok (.iconst 2, 1) := by decide +kernel
theorem dX4_add_33 : decode cX4_add 33 = .ok (.iadd, 1) := by decide +kernel
theorem dX4_add_34 : decode cX4_add 34 = .ok (.iload_n 3, 1) := by decide +kernel
theorem dX4_add_35 : decode cX4_add 35 = .ok (.iastore, 1) := by decide +kernel
theorem dX4_add_36 : decode cX4_add 36 = .ok (.aload_n 0, 1) := by decide +kernel
theorem dX4_add_37 : decode cX4_add 37 = .ok (.getfield 18, 3) := by decide +kernel
theorem dX4_add_40 : decode cX4_add 40 = .ok (.iload 5, 2) := by decide +kernel
theorem dX4_add_42 : decode cX4_add 42 = .ok (.iconst 3, 1) := by decide +kernel
theorem dX4_add_43 : decode cX4_add 43 = .ok (.iadd, 1) := by decide +kernel
theorem dX4_add_44 : decode cX4_add 44 = .ok (.iload 4, 2) := by decide +kernel
theorem dX4_add_46 : decode cX4_add 46 = .ok (.iastore, 1) := by decide +kernel
theorem dX4_add_47 : decode cX4_add 47 = .ok (.aload_n 0, 1) := by decide +kernel
theorem dX4_add_48 : decode cX4_add 48 = .ok (.aload_n 0, 1) := by decide +kernel
theorem dX4_add_49 : decode cX4_add 49 = .ok (.getfield 15, 3) := by decide +kernel
theorem dX4_add_52 : decode cX4_add 52 = .ok (.iconst 1, 1) := by decide +kernel
theorem dX4_add_53 : decode cX4_add 53 = .ok (.iadd, 1) := by decide +kernel
theorem dX4_add_54 : decode cX4_add 54 = .ok (.bipush 60, 2) := by decide +kernel
theorem dX4_add_56 : decode cX4_add 56 = .ok (.irem, 1) := by decide +kernel
theorem dX4_add_57 : decode cX4_add 57 = .ok (.putfield 15, 3) := by decide +kernel
theorem dX4_add_60 : decode cX4_add 60 = .ok (.aload_n 0, 1) := by decide +kernel
theorem dX4_add_61 : decode cX4_add 61 = .ok (.bipush 60, 2) := by decide +kernel
theorem dX4_add_63 : decode cX4_add 63 = .ok (.aload_n 0, 1) := by decide +kernel
theorem dX4_add_64 : decode cX4_add 64 = .ok (.getfield 9, 3) := by decide +kernel
theorem dX4_add_67 : decode cX4_add 67 = .ok (.iconst 1, 1) := by decide +kernel
theorem dX4_add_68 : decode cX4_add 68 = .ok (.iadd, 1) := by decide +kernel
theorem dX4_add_69 : decode cX4_add 69 = .ok (.invokestatic 22, 3) := by decide +kernel
theorem dX4_add_72 : decode cX4_add 72 = .ok (.putfield 9, 3) := by decide +kernel
theorem dX4_add_75 : decode cX4_add 75 = .ok (.return_, 1) := by decide +kernel
theorem dX4_cell_0 : decode cX4_cell 0 = .ok (.iload_n 1, 1) := by decide +kernel
theorem dX4_cell_1 : decode cX4_cell 1 = .ok (.ifCond .lt 20, 3) := by decide +kernel
theorem dX4_cell_4 : decode cX4_cell 4 = .ok (.iload_n 1, 1) := by decide +kernel
theorem dX4_cell_5 : decode cX4_cell 5 = .ok (.aload_n 0, 1) := by decide +kernel
theorem dX4_cell_6 : decode cX4_cell 6 = .ok (.getfield 9, 3) := by decide +kernel
theorem dX4_cell_9 : decode cX4_cell 9 = .ok (.if_icmp .ge 12, 3) := by decide +kernel
theorem dX4_cell_12 : decode cX4_cell 12 = .ok (.iload_n 2, 1) := by decide +kernel
theorem dX4_cell_13 : decode cX4_cell 13 = .ok (.ifCond .lt 8, 3) := by decide +kernel
theorem dX4_cell_16 : decode cX4_cell 16 = .ok (.iload_n 2, 1) := by decide +kernel
theorem dX4_cell_17 : decode cX4_cell 17 = .ok (.iconst 4, 1) := by decide +kernel
theorem dX4_cell_18 : decode cX4_cell 18 = .ok (.if_icmp .lt 5, 3) := by decide +kernel
theorem dX4_cell_21 : decode cX4_cell 21 = .ok (.iconst (-1), 1) := by decide +kernel
theorem dX4_cell_22 : decode cX4_cell 22 = .ok (.ireturn, 1) := by decide +kernel
theorem dX4_cell_23 : decode cX4_cell 23 = .ok (.aload_n 0, 1) := by decide +kernel
theorem dX4_cell_24 : decode cX4_cell 24 = .ok (.getfield 15, 3) := by decide +kernel
theorem dX4_cell_27 : decode cX4_cell 27 = .ok (.bipush 60, 2) := by decide +kernel
theorem dX4_cell_29 : decode cX4_cell 29 = .ok (.iadd, 1) := by decide +kernel
theorem dX4_cell_30 : decode cX4_cell 30 = .ok (.iconst 1, 1) := by decide +kernel
theorem dX4_cell_31 : decode cX4_cell 31 = .ok (.isub, 1) := by decide +kernel
theorem dX4_cell_32 : decode cX4_cell 32 = .ok (.iload_n 1, 1) := by decide +kernel
theorem dX4_cell_33 : decode cX4_cell 33 = .ok (.isub, 1) := by decide +kernel
theorem dX4_cell_34 : decode cX4_cell 34 = .ok (.bipush 60, 2) := by decide +kernel
theorem dX4_cell_36 : decode cX4_cell 36 = .ok (.irem, 1) := by decide +kernel
theorem dX4_cell_37 : decode cX4_cell 37 = .ok (.istore_n 3, 1) := by decide +kernel
theorem dX4_cell_38 : decode cX4_cell 38 = .ok (.aload_n 0, 1) := by decide +kernel
theorem dX4_cell_39 : decode cX4_cell 39 = .ok (.getfield 18, 3) := by decide +kernel
theorem dX4_cell_42 : decode cX4_cell 42 = .ok (.iload_n 3, 1) := by decide +kernel
theorem dX4_cell_43 : decode cX4_cell 43 = .ok (.iconst 4, 1) := by decide +kernel
theorem dX4_cell_44 : decode cX4_cell 44 = .ok (.imul, 1) := by decide +kernel
theorem dX4_cell_45 : decode cX4_cell 45 = .ok (.iload_n 2, 1) := by decide +kernel
theorem dX4_cell_46 : decode cX4_cell 46 = .ok (.iadd, 1) := by decide +kernel
theorem dX4_cell_47 : decode cX4_cell 47 = .ok (.iaload, 1) := by decide +kernel
theorem dX4_cell_48 : decode cX4_cell 48 = .ok (.ireturn, 1) := by decide +kernel
theorem dX4_become_0 : decode cX4_become 0 = .ok (.aload_n 0, 1) := by decide +kernel
theorem dX4_become_1 : decode cX4_become 1 = .ok (.aload_n 1, 1) := by decide +kernel
theorem dX4_become_2 : decode cX4_become 2 = .ok (.getfield 9, 3) := by decide +kernel
theorem dX4_become_5 : decode cX4_become 5 = .ok (.putfield 9, 3) := by decide +kernel
theorem dX4_become_8 : decode cX4_become 8 = .ok (.aload_n 0, 1) := by decide +kernel
theorem dX4_become_9 : decode cX4_become 9 = .ok (.aload_n 1, 1) := by decide +kernel
theorem dX4_become_10 : decode cX4_become 10 = .ok (.getfield 15, 3) := by decide +kernel
theorem dX4_become_13 : decode cX4_become 13 = .ok (.putfield 15, 3) := by decide +kernel
theorem dX4_become_16 : decode cX4_become 16 = .ok (.aload_n 1, 1) := by decide +kernel
theorem dX4_become_17 : decode cX4_become 17 = .ok (.getfield 18, 3) := by decide +kernel
theorem dX4_become_20 : decode cX4_become 20 = .ok (.iconst 0, 1) := by decide +kernel
theorem dX4_become_21 : decode cX4_become 21 = .ok (.aload_n 0, 1) := by decide +kernel
theorem dX4_become_22 : decode cX4_become 22 = .ok (.getfield 18, 3) := by decide +kernel
theorem dX4_become_25 : decode cX4_become 25 = .ok (.iconst 0, 1) := by decide +kernel
theorem dX4_become_26 : decode cX4_become 26 = .ok (.sipush 240, 3) := by decide +kernel
theorem dX4_become_29 : decode cX4_become 29 = .ok (.invokestatic 28, 3) := by decide +kernel
theorem dX4_become_32 : decode cX4_become 32 = .ok (.return_, 1) := by decide +kernel
theorem dX5_init_0 : decode cX5_init 0 = .ok (.aload_n 0, 1) := by decide +kernel
theorem dX5_init_1 : decode cX5_init 1 = .ok (.invokespecial 1, 3) := by decide +kernel
theorem dX5_init_4 : decode cX5_init 4 = .ok (.aload_n 0, 1) := by decide +kernel
theorem dX5_init_5 : decode cX5_init 5 = .ok (.iconst 0, 1) := by decide +kernel
theorem dX5_init_6 : decode cX5_init 6 = .ok (.putfield 7, 3) := by decide +kernel
theorem dX5_init_9 : decode cX5_init 9 = .ok (.aload_n 0, 1) := by decide +kernel
theorem dX5_init_10 : decode cX5_init 10 = .ok (.iconst 0, 1) := by decide +kernel
theorem dX5_init_11 : decode cX5_init 11 = .ok (.putfield 13, 3) := by decide +kernel
theorem dX5_init_14 : decode cX5_init 14 = .ok (.aload_n 0, 1) := by decide +kernel
theorem dX5_init_15 : decode cX5_init 15 = .ok (.bipush 12, 2) := by decide +kernel
theorem dX5_init_17 : decode cX5_init 17 = .ok (.anewarray 16, 3) := by decide +kernel
theorem dX5_init_20 : decode cX5_init 20 = .ok (.putfield 18, 3) := by decide +kernel
theorem dX5_init_23 : decode cX5_init 23 = .ok (.iconst 0, 1) := by decide +kernel
theorem dX5_init_24 : decode cX5_init 24 = .ok (.istore_n 2, 1) := by decide +kernel
theorem dX5_init_25 : decode cX5_init 25 = .ok (.iload_n 2, 1) := by decide +kernel
theorem dX5_init_26 : decode cX5_init 26 = .ok (.bipush 12, 2) := by decide +kernel
theorem dX5_init_28 : decode cX5_init 28 = .ok (.if_icmp .ge 23, 3) := by decide +kernel
theorem dX5_init_31 : decode cX5_init 31 = .ok (.aload_n 0, 1) := by decide +kernel
theorem dX5_init_32 : decode cX5_init 32 = .ok (.getfield 18, 3) := by decide +kernel
theorem dX5_init_35 : decode cX5_init 35 = .ok (.iload_n 2, 1) := by decide +kernel
theorem dX5_init_36 : decode cX5_init 36 = .ok (.new 16, 3) := by decide +kernel
theorem dX5_init_39 : decode cX5_init 39 = .ok (.dup, 1) := by decide +kernel
theorem dX5_init_40 : decode cX5_init 40 = .ok (.aload_n 1, 1) := by decide +kernel
theorem dX5_init_41 : decode cX5_init 41 = .ok (.invokespecial 22, 3) := by decide +kernel
theorem dX5_init_44 : decode cX5_init 44 = .ok (.aastore, 1) := by decide +kernel
theorem dX5_init_45 : decode cX5_init 45 = .ok (.iinc 2 1, 3) := by decide +kernel
theorem dX5_init_48 : decode cX5_init 48 = .ok (.goto (-23), 3) := by decide +kernel
theorem dX5_init_51 : decode cX5_init 51 = .ok (.return_, 1) := by decide +kernel
theorem dX5_remember_0 : decode cX5_remember 0 = .ok (.aload_n 0, 1) := by decide +kernel
theorem dX5_remember_1 : decode cX5_remember 1 = .ok (.getfield 18, 3) := by decide +kernel
theorem dX5_remember_4 : decode cX5_remember 4 = .ok (.aload_n 0, 1) := by decide +kernel
theorem dX5_remember_5 : decode cX5_remember 5 = .ok (.getfield 13, 3) := by decide +kernel
theorem dX5_remember_8 : decode cX5_remember 8 = .ok (.aaload, 1) := by decide +kernel
theorem dX5_remember_9 : decode cX5_remember 9 = .ok (.aload_n 1, 1) := by decide +kernel
theorem dX5_remember_10 : decode cX5_remember 10 = .ok (.invokevirtual 25, 3) := by decide +kernel
theorem dX5_remember_13 : decode cX5_remember 13 = .ok (.aload_n 0, 1) := by decide +kernel
theorem dX5_remember_14 : decode cX5_remember 14 = .ok (.aload_n 0, 1) := by decide +kernel
theorem dX5_remember_15 : decode cX5_remember 15 = .ok (.getfield 13, 3) := by decide +kernel
theorem dX5_remember_18 : decode cX5_remember 18 = .ok (.iconst 1, 1) := by decide +kernel
theorem dX5_remember_19 : decode cX5_remember 19 = .ok (.iadd, 1) := by decide +kernel
theorem dX5_remember_20 : decode cX5_remember 20 = .ok (.bipush 12, 2) := by decide +kernel
theorem dX5_remember_22 : decode cX5_remember 22 = .ok (.irem, 1) := by decide +kernel
theorem dX5_remember_23 : decode cX5_remember 23 = .ok (.putfield 13, 3) := by decide +kernel
theorem dX5_remember_26 : decode cX5_remember 26 = .ok (.aload_n 0, 1) := by decide +kernel
theorem dX5_remember_27 : decode cX5_remember 27 = .ok (.bipush 12, 2) := by decide +kernel
theorem dX5_remember_29 : decode cX5_remember 29 = .ok (.aload_n 0, 1) := by decide +kernel
theorem dX5_remember_30 : decode cX5_remember 30 = .ok (.getfield 7, 3) := by decide +kernel
theorem dX5_remember_33 : decode cX5_remember 33 = .ok (.iconst 1, 1) := by decide +kernel
theorem dX5_remember_34 : decode cX5_remember 34 = .ok (.iadd, 1) := by decide +kernel
theorem dX5_remember_35 : decode cX5_remember 35 = .ok (.invokestatic 29, 3) := by decide +kernel
theorem dX5_remember_38 : decode cX5_remember 38 = .ok (.putfield 7, 3) := by decide +kernel
theorem dX5_remember_41 : decode cX5_remember 41 = .ok (.return_, 1) := by decide +kernel
theorem dX5_takeBack_0 : decode cX5_takeBack 0 = .ok (.aload_n 0, 1) := by decide +kernel
theorem dX5_takeBack_1 : decode cX5_takeBack 1 = .ok (.getfield 7, 3) := by decide +kernel
theorem dX5_takeBack_4 : decode cX5_takeBack 4 = .ok (.ifCond .ne 5, 3) := by decide +kernel
theorem dX5_takeBack_7 : decode cX5_takeBack 7 = .ok (.iconst 0, 1) := by decide +kernel
theorem dX5_takeBack_8 : decode cX5_takeBack 8 = .ok (.ireturn, 1) := by decide +kernel
theorem dX5_takeBack_9 : decode cX5_takeBack 9 = .ok (.aload_n 0, 1) := by decide +kernel
theorem dX5_takeBack_10 : decode cX5_takeBack 10 = .ok (.aload_n 0, 1) := by decide +kernel
theorem dX5_takeBack_11 : decode cX5_takeBack 11 = .ok (.getfield 13, 3) := by decide +kernel
theorem dX5_takeBack_14 : decode cX5_takeBack 14 = .ok (.bipush 12, 2) := by decide +kernel
theorem dX5_takeBack_16 : decode cX5_takeBack 16 = .ok (.iadd, 1) := by decide +kernel
theorem dX5_takeBack_17 : decode cX5_takeBack 17 = .ok (.iconst 1, 1) := by decide +kernel
theorem dX5_takeBack_18 : decode cX5_takeBack 18 = .ok (.isub, 1) := by decide +kernel
theorem dX5_takeBack_19 : decode cX5_takeBack 19 = .ok (.bipush 12, 2) := by decide +kernel
theorem dX5_takeBack_21 : decode cX5_takeBack 21 = .ok (.irem, 1) := by decide +kernel
theorem dX5_takeBack_22 : decode cX5_takeBack 22 = .ok (.putfield 13, 3) := by decide +kernel
theorem dX5_takeBack_25 : decode cX5_takeBack 25 = .ok (.aload_n 0, 1) := by decide +kernel
theorem dX5_takeBack_26 : decode cX5_takeBack 26 = .ok (.dup, 1) := by decide +kernel
theorem dX5_takeBack_27 : decode cX5_takeBack 27 = .ok (.getfield 7, 3) := by decide +kernel
theorem dX5_takeBack_30 : decode cX5_takeBack 30 = .ok (.iconst 1, 1) := by decide +kernel
theorem dX5_takeBack_31 : decode cX5_takeBack 31 = .ok (.isub, 1) := by decide +kernel
theorem dX5_takeBack_32 : decode cX5_takeBack 32 = .ok (.putfield 7, 3) := by decide +kernel
theorem dX5_takeBack_35 : decode cX5_takeBack 35 = .ok (.aload_n 1, 1) := by decide +kernel
theorem dX5_takeBack_36 : decode cX5_takeBack 36 = .ok (.aload_n 0, 1) := by decide +kernel
theorem dX5_takeBack_37 : decode cX5_takeBack 37 = .ok (.getfield 18, 3) := by decide +kernel
theorem dX5_takeBack_40 : decode cX5_takeBack 40 = .ok (.aload_n 0, 1) := by decide +kernel
theorem dX5_takeBack_41 : decode cX5_takeBack 41 = .ok (.getfield 13, 3) := by decide +kernel
theorem dX5_takeBack_44 : decode cX5_takeBack 44 = .ok (.aaload, 1) := by decide +kernel
theorem dX5_takeBack_45 : decode cX5_takeBack 45 = .ok (.invokevirtual 25, 3) := by decide +kernel
theorem dX5_takeBack_48 : decode cX5_takeBack 48 = .ok (.iconst 1, 1) := by decide +kernel
theorem dX5_takeBack_49 : decode cX5_takeBack 49 = .ok (.ireturn, 1) := by decide +kernel
theorem dX5_forget_0 : decode cX5_forget 0 = .ok (.aload_n 0, 1) := by decide +kernel
theorem dX5_forget_1 : decode cX5_forget 1 = .ok (.iconst 0, 1) := by decide +kernel
theorem dX5_forget_2 : decode cX5_forget 2 = .ok (.putfield 7, 3) := by decide +kernel
theorem dX5_forget_5 : decode cX5_forget 5 = .ok (.return_, 1) := by decide +kernel
theorem dX6_init_0 : decode cX6_init 0 = .ok (.aload_n 0, 1) := by decide +kernel
theorem dX6_init_1 : decode cX6_init 1 = .ok (.invokespecial 3, 3) := by decide +kernel
theorem dX6_init_4 : decode cX6_init 4 = .ok (.aload_n 0, 1) := by decide +kernel
theorem dX6_init_5 : decode cX6_init 5 = .ok (.bipush 10, 2) := by decide +kernel
theorem dX6_init_7 : decode cX6_init 7 = .ok (.newarray .int, 2) := by decide +kernel
theorem dX6_init_9 : decode cX6_init 9 = .ok (.putfield 9, 3) := by decide +kernel
theorem dX6_init_12 : decode cX6_init 12 = .ok (.aload_n 0, 1) := by decide +kernel
theorem dX6_init_13 : decode cX6_init 13 = .ok (.bipush 8, 2) := by decide +kernel
theorem dX6_init_15 : decode cX6_init 15 = .ok (.newarray .int, 2) := by decide +kernel
theorem dX6_init_17 : decode cX6_init 17 = .ok (.putfield 15, 3) := by decide +kernel
theorem dX6_init_20 : decode cX6_init 20 = .ok (.aload_n 0, 1) := by decide +kernel
theorem dX6_init_21 : decode cX6_init 21 = .ok (.iconst 0, 1) := by decide +kernel
theorem dX6_init_22 : decode cX6_init 22 = .ok (.putfield 18, 3) := by decide +kernel
theorem dX6_init_25 : decode cX6_init 25 = .ok (.aload_n 0, 1) := by decide +kernel
theorem dX6_init_26 : decode cX6_init 26 = .ok (.iconst 0, 1) := by decide +kernel
theorem dX6_init_27 : decode cX6_init 27 = .ok (.putfield 22, 3) := by decide +kernel
theorem dX6_init_30 : decode cX6_init 30 = .ok (.aload_n 0, 1) := by decide +kernel
theorem dX6_init_31 : decode cX6_init 31 = .ok (.iconst 0, 1) := by decide +kernel
theorem dX6_init_32 : decode cX6_init 32 = .ok (.putfield 25, 3) := by decide +kernel
theorem dX6_init_35 : decode cX6_init 35 = .ok (.aload_n 0, 1) := by decide +kernel
theorem dX6_init_36 : decode cX6_init 36 = .ok (.iconst (-1), 1) := by decide +kernel
theorem dX6_init_37 : decode cX6_init 37 = .ok (.putfield 28, 3) := by decide +kernel
theorem dX6_init_40 : decode cX6_init 40 = .ok (.aload_n 0, 1) := by decide +kernel
theorem dX6_init_41 : decode cX6_init 41 = .ok (.iconst 1, 1) := by decide +kernel
theorem dX6_init_42 : decode cX6_init 42 = .ok (.putfield 31, 3) := by decide +kernel
theorem dX6_init_45 : decode cX6_init 45 = .ok (.aload_n 0, 1) := by decide +kernel
theorem dX6_init_46 : decode cX6_init 46 = .ok (.iconst (-1), 1) := by decide +kernel
theorem dX6_init_47 : decode cX6_init 47 = .ok (.putfield 34, 3) := by decide +kernel
theorem dX6_init_50 : decode cX6_init 50 = .ok (.aload_n 0, 1) := by decide +kernel
theorem dX6_init_51 : decode cX6_init 51 = .ok (.iconst 0, 1) := by decide +kernel
theorem dX6_init_52 : decode cX6_init 52 = .ok (.putfield 37, 3) := by decide +kernel
theorem dX6_init_55 : decode cX6_init 55 = .ok (.aload_n 0, 1) := by decide +kernel
theorem dX6_init_56 : decode cX6_init 56 = .ok (.bipush 10, 2) := by decide +kernel
theorem dX6_init_58 : decode cX6_init 58 = .ok (.newarray .int, 2) := by decide +kernel
theorem dX6_init_60 : decode cX6_init 60 = .ok (.putfield 40, 3) := by decide +kernel
theorem dX6_init_63 : decode cX6_init 63 = .ok (.aload_n 0, 1) := by decide +kernel
theorem dX6_init_64 : decode cX6_init 64 = .ok (.bipush 10, 2) := by decide +kernel
theorem dX6_init_66 : decode cX6_init 66 = .ok (.newarray .int, 2) := by decide +kernel
theorem dX6_init_68 : decode cX6_init 68 = .ok (.putfield 43, 3) := by decide +kernel
theorem dX6_init_71 : decode cX6_init 71 = .ok (.aload_n 0, 1) := by decide +kernel
theorem dX6_init_72 : decode cX6_init 72 = .ok (.iconst 0, 1) := by decide +kernel
theorem dX6_init_73 : decode cX6_init 73 = .ok (.putfield 46, 3) := by decide +kernel
theorem dX6_init_76 : decode cX6_init 76 = .ok (.aload_n 0, 1) := by decide +kernel
theorem dX6_init_77 : decode cX6_init 77 = .ok (.iconst 0, 1) := by decide +kernel
theorem dX6_init_78 : decode cX6_init 78 = .ok (.putfield 50, 3) := by decide +kernel
theorem dX6_init_81 : decode cX6_init 81 = .ok (.aload_n 0, 1) := by decide +kernel
theorem dX6_init_82 : decode cX6_init 82 = .ok (.bipush 8, 2) := by decide +kernel
theorem dX6_init_84 : decode cX6_init 84 = .ok (.newarray .int, 2) := by decide +kernel
theorem dX6_init_86 : decode cX6_init 86 = .ok (.putfield 55, 3) := by decide +kernel
theorem dX6_init_89 : decode cX6_init 89 = .ok (.aload_n 0, 1) := by decide +kernel
theorem dX6_init_90 : decode cX6_init 90 = .ok (.aload_n 1, 1) := by decide +kernel
theorem dX6_init_91 : decode cX6_init 91 = .ok (.putfield 58, 3) := by decide +kernel
theorem dX6_init_94 : decode cX6_init 94 = .ok (.return_, 1) := by decide +kernel
theorem dX6_lay_0 : decode cX6_lay 0 = .ok (.aload_n 0, 1) := by decide +kernel
theorem dX6_lay_1 : decode cX6_lay 1 = .ok (.getfield 58, 3) := by decide +kernel
theorem dX6_lay_4 : decode cX6_lay 4 = .ok (.getfield 62, 3) := by decide +kernel
theorem dX6_lay_7 : decode cX6_lay 7 = .ok (.iconst 0, 1) := by decide +kernel
theorem dX6_lay_8 : decode cX6_lay 8 = .ok (.aload_n 0, 1) := by decide +kernel
theorem dX6_lay_9 : decode cX6_lay 9 = .ok (.getfield 9, 3) := by decide +kernel
theorem dX6_lay_12 : decode cX6_lay 12 = .ok (.iconst 0, 1) := by decide +kernel
theorem dX6_lay_13 : decode cX6_lay 13 = .ok (.bipush 10, 2) := by decide +kernel
theorem dX6_lay_15 : decode cX6_lay 15 = .ok (.invokestatic 65, 3) := by decide +kernel
theorem dX6_lay_18 : decode cX6_lay 18 = .ok (.aload_n 0, 1) := by decide +kernel
theorem dX6_lay_19 : decode cX6_lay 19 = .ok (.getfield 58, 3) := by decide +kernel
theorem dX6_lay_22 : decode cX6_lay 22 = .ok (.getfield 71, 3) := by decide +kernel
theorem dX6_lay_25 : decode cX6_lay 25 = .ok (.iconst 0, 1) := by decide +kernel
theorem dX6_lay_26 : decode cX6_lay 26 = .ok (.aload_n 0, 1) := by decide +kernel
theorem dX6_lay_27 : decode cX6_lay 27 = .ok (.getfield 15, 3) := by decide +kernel
theorem dX6_lay_30 : decode cX6_lay 30 = .ok (.iconst 0, 1) := by decide +kernel
theorem dX6_lay_31 : decode cX6_lay 31 = .ok (.bipush 8, 2) := by decide +kernel
theorem dX6_lay_33 : decode cX6_lay 33 = .ok (.invokestatic 65, 3) := by decide +kernel
theorem dX6_lay_36 : decode cX6_lay 36 = .ok (.aload_n 0, 1) := by decide +kernel
theorem dX6_lay_37 : decode cX6_lay 37 = .ok (.iconst (-1), 1) := by decide +kernel
theorem dX6_lay_38 : decode cX6_lay 38 = .ok (.putfield 28, 3) := by decide +kernel
theorem dX6_lay_41 : decode cX6_lay 41 = .ok (.return_, 1) := by decide +kernel
theorem dX6_takeDown_0 : decode cX6_takeDown 0 = .ok (.iconst 0, 1) := by decide +kernel
theorem dX6_takeDown_1 : decode cX6_takeDown 1 = .ok (.istore_n 2, 1) := by decide +kernel
theorem dX6_takeDown_2 : decode cX6_takeDown 2 = .ok (.iload_n 2, 1) := by decide +kernel
theorem dX6_takeDown_3 : decode cX6_takeDown 3 = .ok (.bipush 10, 2) := by decide +kernel
theorem dX6_takeDown_5 : decode cX6_takeDown 5 = .ok (.if_icmp .ge 39, 3) := by decide +kernel
theorem dX6_takeDown_8 : decode cX6_takeDown 8 = .ok (.aload_n 0, 1) := by decide +kernel
theorem dX6_takeDown_9 : decode cX6_takeDown 9 = .ok (.getfield 9, 3) := by decide +kernel
theorem dX6_takeDown_12 : decode cX6_takeDown 12 = .ok (.iload_n 2, 1) := by decide +kernel
theorem dX6_takeDown_13 : decode cX6_takeDown 13 = .ok (.iaload, 1) := by decide +kernel
theorem dX6_takeDown_14 : decode cX6_takeDown 14 = .ok (.ifCond .lt 24, 3) := by decide +kernel
theorem dX6_takeDown_17 : decode cX6_takeDown 17 = .ok (.iload_n 1, 1) := by decide +kernel
theorem dX6_takeDown_18 : decode cX6_takeDown 18 = .ok (.aload_n 0, 1) := by decide +kernel
theorem dX6_takeDown_19 : decode cX6_takeDown 19 = .ok (.getfield 9, 3) := by decide +kernel
theorem dX6_takeDown_22 : decode cX6_takeDown 22 = .ok (.iload_n 2, 1) := by decide +kernel
theorem dX6_takeDown_23 : decode cX6_takeDown 23 = .ok (.iaload, 1) := by decide +kernel
theorem dX6_takeDown_24 : decode cX6_takeDown 24 = .ok (.ishr, 1) := by decide +kernel
theorem dX6_takeDown_25 : decode cX6_takeDown 25 = .ok (.iconst 1, 1) := by decide +kernel
theorem dX6_takeDown_26 : decode cX6_takeDown 26 = .ok (.iand, 1) := by decide +kernel
theorem dX6_takeDown_27 : decode cX6_takeDown 27 = .ok (.iconst 1, 1) := by decide +kernel
theorem dX6_takeDown_28 : decode cX6_takeDown 28 = .ok (.if_icmp .ne 10, 3) := by decide +kernel
theorem dX6_takeDown_31 : decode cX6_takeDown 31 = .ok (.aload_n 0, 1) := by decide +kernel
theorem dX6_takeDown_32 : decode cX6_takeDown 32 = .ok (.getfield 9, 3) := by decide +kernel
theorem dX6_takeDown_35 : decode cX6_takeDown 35 = .ok (.iload_n 2, 1) := by decide +kernel
theorem dX6_takeDown_36 : decode cX6_takeDown 36 = .ok (.iconst (-1), 1) := by decide +kernel
theorem dX6_takeDown_37 : decode cX6_takeDown 37 = .ok (.iastore, 1) := by decide +kernel
theorem dX6_takeDown_38 : decode cX6_takeDown 38 = .ok (.iinc 2 1, 3) := by decide +kernel
theorem dX6_takeDown_41 : decode cX6_takeDown 41 = .ok (.goto (-39), 3) := by decide +kernel
theorem dX6_takeDown_44 : decode cX6_takeDown 44 = .ok (.return_, 1) := by decide +kernel
theorem dX6_changeAbout_0 : decode cX6_changeAbout 0 = .ok (.aload_n 0, 1) := by decide +kernel
theorem dX6_changeAbout_1 : decode cX6_changeAbout 1 = .ok (.getfield 9, 3) := by decide +kernel
theorem dX6_changeAbout_4 : decode cX6_changeAbout 4 = .ok (.iload_n 1, 1) := by decide +kernel
theorem dX6_changeAbout_5 : decode cX6_changeAbout 5 = .ok (.iaload, 1) := by decide +kernel
theorem dX6_changeAbout_6 : decode cX6_changeAbout 6 = .ok (.istore_n 3, 1) := by decide +kernel
theorem dX6_changeAbout_7 : decode cX6_changeAbout 7 = .ok (.aload_n 0, 1) := by decide +kernel
theorem dX6_changeAbout_8 : decode cX6_changeAbout 8 = .ok (.getfield 9, 3) := by decide +kernel
theorem dX6_changeAbout_11 : decode cX6_changeAbout 11 = .ok (.iload_n 1, 1) := by decide +kernel
theorem dX6_changeAbout_12 : decode cX6_changeAbout 12 = .ok (.aload_n 0, 1) := by decide +kernel
theorem dX6_changeAbout_13 : decode cX6_changeAbout 13 = .ok (.getfield 9, 3) := by decide +kernel
theorem dX6_changeAbout_16 : decode cX6_changeAbout 16 = .ok (.iload_n 2, 1) := by decide +kernel
theorem dX6_changeAbout_17 : decode cX6_changeAbout 17 = .ok (.iaload, 1) := by decide +kernel
theorem dX6_changeAbout_18 : decode cX6_changeAbout 18 = .ok (.iastore, 1) := by decide +kernel
theorem dX6_changeAbout_19 : decode cX6_changeAbout 19 = .ok (.aload_n 0, 1) := by decide +kernel
theorem dX6_changeAbout_20 : decode cX6_changeAbout 20 = .ok (.getfield 9, 3) := by decide +kernel
theorem dX6_changeAbout_23 : decode cX6_changeAbout 23 = .ok (.iload_n 2, 1) := by decide +kernel
theorem dX6_changeAbout_24 : decode cX6_changeAbout 24 = .ok (.iload_n 3, 1) := by decide +kernel
theorem dX6_changeAbout_25 : decode cX6_changeAbout 25 = .ok (.iastore, 1) := by decide +kernel
theorem dX6_changeAbout_26 : decode cX6_changeAbout 26 = .ok (.return_, 1) := by decide +kernel
theorem dX6_board_0 : decode cX6_board 0 = .ok (.aload_n 0, 1) := by decide +kernel
theorem dX6_board_1 : decode cX6_board 1 = .ok (.aload_n 0, 1) := by decide +kernel
theorem dX6_board_2 : decode cX6_board 2 = .ok (.getfield 58, 3) := by decide +kernel
theorem dX6_board_5 : decode cX6_board 5 = .ok (.getfield 72, 3) := by decide +kernel
theorem dX6_board_8 : decode cX6_board 8 = .ok (.iload_n 1, 1) := by decide +kernel
theorem dX6_board_9 : decode cX6_board 9 = .ok (.iaload, 1) := by decide +kernel
theorem dX6_board_10 : decode cX6_board 10 = .ok (.aload_n 0, 1) := by decide +kernel
theorem dX6_board_11 : decode cX6_board 11 = .ok (.getfield 58, 3) := by decide +kernel
theorem dX6_board_14 : decode cX6_board 14 = .ok (.getfield 74, 3) := by decide +kernel
theorem dX6_board_17 : decode cX6_board 17 = .ok (.iload_n 1, 1) := by decide +kernel
theorem dX6_board_18 : decode cX6_board 18 = .ok (.iaload, 1) := by decide +kernel
theorem dX6_board_19 : decode cX6_board 19 = .ok (.aload_n 0, 1) := by decide +kernel
theorem dX6_board_20 : decode cX6_board 20 = .ok (.getfield 58, 3) := by decide +kernel
theorem dX6_board_23 : decode cX6_board 23 = .ok (.getfield 76, 3) := by decide +kernel
theorem dX6_board_26 : decode cX6_board 26 = .ok (.iload_n 1, 1) := by decide +kernel
theorem dX6_board_27 : decode cX6_board 27 = .ok (.iaload, 1) := by decide +kernel
theorem dX6_board_28 : decode cX6_board 28 = .ok (.invokevirtual 78, 3) := by decide +kernel
theorem dX6_board_31 : decode cX6_board 31 = .ok (.return_, 1) := by decide +kernel
theorem dX6_boardStranger_0 : decode cX6_boardStranger 0 = .ok (.aload_n 0, 1) := by decide +kernel
theorem dX6_boardStranger_1 : decode cX6_boardStranger 1 = .ok (.iload_n 1, 1) := by decide +kernel
theorem dX6_boardStranger_2 : decode cX6_boardStranger 2 = .ok (.putfield 18, 3) := by decide +kernel
theorem dX6_boardStranger_5 : decode cX6_boardStranger 5 = .ok (.aload_n 0, 1) := by decide +kernel
theorem dX6_boardStranger_6 : decode cX6_boardStranger 6 = .ok (.iload_n 2, 1) := by decide +kernel
theorem dX6_boardStranger_7 : decode cX6_boardStranger 7 = .ok (.putfield 22, 3) := by decide +kernel
theorem dX6_boardStranger_10 : decode cX6_boardStranger 10 = .ok (.aload_n 0, 1) := by decide +kernel
theorem dX6_boardStranger_11 : decode cX6_boardStranger 11 = .ok (.iload_n 3, 1) := by decide +kernel
theorem dX6_boardStranger_12 : decode cX6_boardStranger 12 = .ok (.putfield 25, 3) := by decide +kernel
theorem dX6_boardStranger_15 : decode cX6_boardStranger 15 = .ok (.return_, 1) := by decide +kernel
theorem dX6_straightOn_0 : decode cX6_straightOn 0 = .ok (.aload_n 0, 1) := by decide +kernel
theorem dX6_straightOn_1 : decode cX6_straightOn 1 = .ok (.iconst 0, 1) := by decide +kernel
theorem dX6_straightOn_2 : decode cX6_straightOn 2 = .ok (.iconst 0, 1) := by decide +kernel
theorem dX6_straightOn_3 : decode cX6_straightOn 3 = .ok (.invokevirtual 82, 3) := by decide +kernel
theorem dX6_straightOn_6 : decode cX6_straightOn 6 = .ok (.return_, 1) := by decide +kernel
theorem dX6_byDraws_0 : decode cX6_byDraws 0 = .ok (.aload_n 0, 1) := by decide +kernel
theorem dX6_byDraws_1 : decode cX6_byDraws 1 = .ok (.iconst 1, 1) := by decide +kernel
theorem dX6_byDraws_2 : decode cX6_byDraws 2 = .ok (.iconst 0, 1) := by decide +kernel
theorem dX6_byDraws_3 : decode cX6_byDraws 3 = .ok (.invokevirtual 82, 3) := by decide +kernel
theorem dX6_byDraws_6 : decode cX6_byDraws 6 = .ok (.return_, 1) := by decide +kernel
theorem dX6_toTheEnd_0 : decode cX6_toTheEnd 0 = .ok (.aload_n 0, 1) := by decide +kernel
theorem dX6_toTheEnd_1 : decode cX6_toTheEnd 1 = .ok (.iconst 0, 1) := by decide +kernel
theorem dX6_toTheEnd_2 : decode cX6_toTheEnd 2 = .ok (.iconst 1, 1) := by decide +kernel
theorem dX6_toTheEnd_3 : decode cX6_toTheEnd 3 = .ok (.invokevirtual 82, 3) := by decide +kernel
theorem dX6_toTheEnd_6 : decode cX6_toTheEnd 6 = .ok (.return_, 1) := by decide +kernel
theorem dX6_go_0 : decode cX6_go 0 = .ok (.aload_n 0, 1) := by decide +kernel
theorem dX6_go_1 : decode cX6_go 1 = .ok (.invokevirtual 86, 3) := by decide +kernel
theorem dX6_go_4 : decode cX6_go 4 = .ok (.aload_n 0, 1) := by decide +kernel
theorem dX6_go_5 : decode cX6_go 5 = .ok (.iload_n 1, 1) := by decide +kernel
theorem dX6_go_6 : decode cX6_go 6 = .ok (.putfield 46, 3) := by decide +kernel
theorem dX6_go_9 : decode cX6_go 9 = .ok (.aload_n 0, 1) := by decide +kernel
theorem dX6_go_10 : decode cX6_go 10 = .ok (.iload_n 2, 1) := by decide +kernel
theorem dX6_go_11 : decode cX6_go 11 = .ok (.putfield 50, 3) := by decide +kernel
theorem dX6_go_14 : decode cX6_go 14 = .ok (.iconst 0, 1) := by decide +kernel
theorem dX6_go_15 : decode cX6_go 15 = .ok (.istore_n 3, 1) := by decide +kernel
theorem dX6_go_16 : decode cX6_go 16 = .ok (.iload_n 3, 1) := by decide +kernel
theorem dX6_go_17 : decode cX6_go 17 = .ok (.bipush 10, 2) := by decide +kernel
theorem dX6_go_19 : decode cX6_go 19 = .ok (.if_icmp .ge 23, 3) := by decide +kernel
theorem dX6_go_22 : decode cX6_go 22 = .ok (.aload_n 0, 1) := by decide +kernel
theorem dX6_go_23 : decode cX6_go 23 = .ok (.getfield 34, 3) := by decide +kernel
theorem dX6_go_26 : decode cX6_go 26 = .ok (.iconst (-1), 1) := by decide +kernel
theorem dX6_go_27 : decode cX6_go 27 = .ok (.if_icmp .ne 15, 3) := by decide +kernel
theorem dX6_go_30 : decode cX6_go 30 = .ok (.aload_n 0, 1) := by decide +kernel
theorem dX6_go_31 : decode cX6_go 31 = .ok (.iload_n 3, 1) := by decide +kernel
theorem dX6_go_32 : decode cX6_go 32 = .ok (.invokevirtual 89, 3) := by decide +kernel
theorem dX6_go_35 : decode cX6_go 35 = .ok (.pop, 1) := by decide +kernel
theorem dX6_go_36 : decode cX6_go 36 = .ok (.iinc 3 1, 3) := by decide +kernel
theorem dX6_go_39 : decode cX6_go 39 = .ok (.goto (-23), 3) := by decide +kernel
theorem dX6_go_42 : decode cX6_go 42 = .ok (.return_, 1) := by decide +kernel
theorem dX6_start_0 : decode cX6_start 0 = .ok (.aload_n 0, 1) := by decide +kernel
theorem dX6_start_1 : decode cX6_start 1 = .ok (.iconst (-1), 1) := by decide +kernel
theorem dX6_start_2 : decode cX6_start 2 = .ok (.putfield 34, 3) := by decide +kernel
theorem dX6_start_5 : decode cX6_start 5 = .ok (.aload_n 0, 1) := by decide +kernel
theorem dX6_start_6 : decode cX6_start 6 = .ok (.iconst 0, 1) := by decide +kernel
theorem dX6_start_7 : decode cX6_start 7 = .ok (.putfield 37, 3) := by decide +kernel
theorem dX6_start_10 : decode cX6_start 10 = .ok (.aload_n 0, 1) := by decide +kernel
theorem dX6_start_11 : decode cX6_start 11 = .ok (.iconst 0, 1) := by decide +kernel
theorem dX6_start_12 : decode cX6_start 12 = .ok (.putfield 46, 3) := by decide +kernel
theorem dX6_start_15 : decode cX6_start 15 = .ok (.aload_n 0, 1) := by decide +kernel
theorem dX6_start_16 : decode cX6_start 16 = .ok (.iconst 0, 1) := by decide +kernel
theorem dX6_start_17 : decode cX6_start 17 = .ok (.putfield 50, 3) := by decide +kernel
theorem dX6_start_20 : decode cX6_start 20 = .ok (.aload_n 0, 1) := by decide +kernel
theorem dX6_start_21 : decode cX6_start 21 = .ok (.getfield 40, 3) := by decide +kernel
theorem dX6_start_24 : decode cX6_start 24 = .ok (.iconst (-1), 1) := by decide +kernel
theorem dX6_start_25 : decode cX6_start 25 = .ok (.invokestatic 93, 3) := by decide +kernel
theorem dX6_start_28 : decode cX6_start 28 = .ok (.aload_n 0, 1) := by decide +kernel
theorem dX6_start_29 : decode cX6_start 29 = .ok (.getfield 43, 3) := by decide +kernel
theorem dX6_start_32 : decode cX6_start 32 = .ok (.iconst 0, 1) := by decide +kernel
theorem dX6_start_33 : decode cX6_start 33 = .ok (.invokestatic 93, 3) := by decide +kernel
theorem dX6_start_36 : decode cX6_start 36 = .ok (.return_, 1) := by decide +kernel
theorem dX6_screamsIn_0 : decode cX6_screamsIn 0 = .ok (.aload_n 0, 1) := by decide +kernel
theorem dX6_screamsIn_1 : decode cX6_screamsIn 1 = .ok (.getfield 34, 3) := by decide +kernel
theorem dX6_screamsIn_4 : decode cX6_screamsIn 4 = .ok (.iconst (-1), 1) := by decide +kernel
theorem dX6_screamsIn_5 : decode cX6_screamsIn 5 = .ok (.if_icmp .eq 5, 3) := by decide +kernel
theorem dX6_screamsIn_8 : decode cX6_screamsIn 8 = .ok (.iconst 0, 1) := by decide +kernel
theorem dX6_screamsIn_9 : decode cX6_screamsIn 9 = .ok (.ireturn, 1) := by decide +kernel
theorem dX6_screamsIn_10 : decode cX6_screamsIn 10 = .ok (.aload_n 0, 1) := by decide +kernel
theorem dX6_screamsIn_11 : decode cX6_screamsIn 11 = .ok (.getfield 9, 3) := by decide +kernel
theorem dX6_screamsIn_14 : decode cX6_screamsIn 14 = .ok (.iload_n 1, 1) := by decide +kernel
theorem dX6_screamsIn_15 : decode cX6_screamsIn 15 = .ok (.iaload, 1) := by decide +kernel
theorem dX6_screamsIn_16 : decode cX6_screamsIn 16 = .ok (.ifCond .ge 26, 3) := by decide +kernel
theorem dX6_screamsIn_19 : decode cX6_screamsIn 19 = .ok (.aload_n 0, 1) := by decide +kernel
theorem dX6_screamsIn_20 : decode cX6_screamsIn 20 = .ok (.iconst 0, 1) := by decide +kernel
theorem dX6_screamsIn_21 : decode cX6_screamsIn 21 = .ok (.aload_n 0, 1) := by decide +kernel
theorem dX6_screamsIn_22 : decode cX6_screamsIn 22 = .ok (.getfield 37, 3) := by decide +kernel
theorem dX6_screamsIn_25 : decode cX6_screamsIn 25 = .ok (.aload_n 0, 1) := by decide +kernel
theorem dX6_screamsIn_26 : decode cX6_screamsIn 26 = .ok (.getfield 58, 3) := by decide +kernel
theorem dX6_screamsIn_29 : decode cX6_screamsIn 29 = .ok (.getfield 99, 3) := by decide +kernel
theorem dX6_screamsIn_32 : decode cX6_screamsIn 32 = .ok (.isub, 1) := by decide +kernel
theorem dX6_screamsIn_33 : decode cX6_screamsIn 33 = .ok (.invokestatic 102, 3) := by decide +kernel
theorem dX6_screamsIn_36 : decode cX6_screamsIn 36 = .ok (.putfield 37, 3) := by decide +kernel
theorem dX6_screamsIn_39 : decode cX6_screamsIn 39 = .ok (.goto 73, 3) := by decide +kernel
theorem dX6_screamsIn_42 : decode cX6_screamsIn 42 = .ok (.aload_n 0, 1) := by decide +kernel
theorem dX6_screamsIn_43 : decode cX6_screamsIn 43 = .ok (.getfield 9, 3) := by decide +kernel
theorem dX6_screamsIn_46 : decode cX6_screamsIn 46 = .ok (.iload_n 1, 1) := by decide +kernel
theorem dX6_screamsIn_47 : decode cX6_screamsIn 47 = .ok (.iaload, 1) := by decide +kernel
theorem dX6_screamsIn_48 : decode cX6_screamsIn 48 = .ok (.aload_n 0, 1) := by decide +kernel
theorem dX6_screamsIn_49 : decode cX6_screamsIn 49 = .ok (.getfield 28, 3) := by decide +kernel
theorem dX6_screamsIn_52 : decode cX6_screamsIn 52 = .ok (.if_icmp .ne 7, 3) := by decide +kernel
theorem dX6_screamsIn_55 : decode cX6_screamsIn 55 = .ok (.iconst 0, 1) := by decide +kernel
theorem dX6_screamsIn_56 : decode cX6_screamsIn 56 = .ok (.goto 22, 3) := by decide +kernel
theorem dX6_screamsIn_59 : decode cX6_screamsIn 59 = .ok (.aload_n 0, 1) := by decide +kernel
theorem dX6_screamsIn_60 : decode cX6_screamsIn 60 = .ok (.getfield 58, 3) := by decide +kernel
theorem dX6_screamsIn_63 : decode cX6_screamsIn 63 = .ok (.getfield 108, 3) := by decide +kernel
theorem dX6_screamsIn_66 : decode cX6_screamsIn 66 = .ok (.aload_n 0, 1) := by decide +kernel
theorem dX6_screamsIn_67 : decode cX6_screamsIn 67 = .ok (.iload_n 1, 1) := by decide +kernel
theorem dX6_screamsIn_68 : decode cX6_screamsIn 68 = .ok (.aload_n 0, 1) := by decide +kernel
theorem dX6_screamsIn_69 : decode cX6_screamsIn 69 = .ok (.getfield 37, 3) := by decide +kernel
theorem dX6_screamsIn_72 : decode cX6_screamsIn 72 = .ok (.invokevirtual 112, 3) := by decide +kernel
theorem dX6_screamsIn_75 : decode cX6_screamsIn 75 = .ok (.invokevirtual 116, 3) := by decide +kernel
theorem dX6_screamsIn_78 : decode cX6_screamsIn 78 = .ok (.istore_n 2, 1) := by decide +kernel
theorem dX6_screamsIn_79 : decode cX6_screamsIn 79 = .ok (.aload_n 0, 1) := by decide +kernel
theorem dX6_screamsIn_80 : decode cX6_screamsIn 80 = .ok (.getfield 43, 3) := by decide +kernel
theorem dX6_screamsIn_83 : decode cX6_screamsIn 83 = .ok (.iload_n 1, 1) := by decide +kernel
theorem dX6_screamsIn_84 : decode cX6_screamsIn 84 = .ok (.iload_n 2, 1) := by decide +kernel
theorem dX6_screamsIn_85 : decode cX6_screamsIn 85 = .ok (.iastore, 1) := by decide +kernel
theorem dX6_screamsIn_86 : decode cX6_screamsIn 86 = .ok (.aload_n 0, 1) := by decide +kernel
theorem dX6_screamsIn_87 : decode cX6_screamsIn 87 = .ok (.dup, 1) := by decide +kernel
theorem dX6_screamsIn_88 : decode cX6_screamsIn 88 = .ok (.getfield 37, 3) := by decide +kernel
theorem dX6_screamsIn_91 : decode cX6_screamsIn 91 = .ok (.iload_n 2, 1) := by decide +kernel
theorem dX6_screamsIn_92 : decode cX6_screamsIn 92 = .ok (.aload_n 0, 1) := by decide +kernel
theorem dX6_screamsIn_93 : decode cX6_screamsIn 93 = .ok (.getfield 46, 3) := by decide +kernel
theorem dX6_screamsIn_96 : decode cX6_screamsIn 96 = .ok (.ifCond .eq 10, 3) := by decide +kernel
theorem dX6_screamsIn_99 : decode cX6_screamsIn 99 = .ok (.aload_n 0, 1) := by decide +kernel
theorem dX6_screamsIn_100 : decode cX6_screamsIn 100 = .ok (.invokevirtual 120, 3) := by decide +kernel
theorem dX6_screamsIn_103 : decode cX6_screamsIn 103 = .ok (.goto 4, 3) := by decide +kernel
theorem dX6_screamsIn_106 : decode cX6_screamsIn 106 = .ok (.iconst 1, 1) := by decide +kernel
theorem dX6_screamsIn_107 : decode cX6_screamsIn 107 = .ok (.iadd, 1) := by decide +kernel
theorem dX6_screamsIn_108 : decode cX6_screamsIn 108 = .ok (.iadd, 1) := by decide +kernel
theorem dX6_screamsIn_109 : decode cX6_screamsIn 109 = .ok (.putfield 37, 3) := by decide +kernel
theorem dX6_screamsIn_112 : decode cX6_screamsIn 112 = .ok (.aload_n 0, 1) := by decide +kernel
theorem dX6_screamsIn_113 : decode cX6_screamsIn 113 = .ok (.getfield 40, 3) := by decide +kernel
theorem dX6_screamsIn_116 : decode cX6_screamsIn 116 = .ok (.iload_n 1, 1) := by decide +kernel
theorem dX6_screamsIn_117 : decode cX6_screamsIn 117 = .ok (.aload_n 0, 1) := by decide +kernel
theorem dX6_screamsIn_118 : decode cX6_screamsIn 118 = .ok (.getfield 37, 3) := by decide +kernel
theorem dX6_screamsIn_121 : decode cX6_screamsIn 121 = .ok (.iastore, 1) := by decide +kernel
theorem dX6_screamsIn_122 : decode cX6_screamsIn 122 = .ok (.aload_n 0, 1) := by decide +kernel
theorem dX6_screamsIn_123 : decode cX6_screamsIn 123 = .ok (.getfield 37, 3) := by decide +kernel
theorem dX6_screamsIn_126 : decode cX6_screamsIn 126 = .ok (.aload_n 0, 1) := by decide +kernel
theorem dX6_screamsIn_127 : decode cX6_screamsIn 127 = .ok (.getfield 22, 3) := by decide +kernel
theorem dX6_screamsIn_130 : decode cX6_screamsIn 130 = .ok (.if_icmp .le 15, 3) := by decide +kernel
theorem dX6_screamsIn_133 : decode cX6_screamsIn 133 = .ok (.aload_n 0, 1) := by decide +kernel
theorem dX6_screamsIn_134 : decode cX6_screamsIn 134 = .ok (.getfield 50, 3) := by decide +kernel
theorem dX6_screamsIn_137 : decode cX6_screamsIn 137 = .ok (.ifCond .ne 8, 3) := by decide +kernel
theorem dX6_screamsIn_140 : decode cX6_screamsIn 140 = .ok (.aload_n 0, 1) := by decide +kernel
theorem dX6_screamsIn_141 : decode cX6_screamsIn 141 = .ok (.iload_n 1, 1) := by decide +kernel
theorem dX6_screamsIn_142 : decode cX6_screamsIn 142 = .ok (.putfield 34, 3) := by decide +kernel
theorem dX6_screamsIn_145 : decode cX6_screamsIn 145 = .ok (.aload_n 0, 1) := by decide +kernel
theorem dX6_screamsIn_146 : decode cX6_screamsIn 146 = .ok (.getfield 34, 3) := by decide +kernel
theorem dX6_screamsIn_149 : decode cX6_screamsIn 149 = .ok (.iconst (-1), 1) := by decide +kernel
theorem dX6_screamsIn_150 : decode cX6_screamsIn 150 = .ok (.if_icmp .eq 7, 3) := by decide +kernel
theorem dX6_screamsIn_153 : decode cX6_screamsIn 153 = .ok (.iconst 1, 1) := by decide +kernel
theorem dX6_screamsIn_154 : decode cX6_screamsIn 154 = .ok (.goto 4, 3) := by decide +kernel
theorem dX6_screamsIn_157 : decode cX6_screamsIn 157 = .ok (.iconst 0, 1) := by decide +kernel
theorem dX6_screamsIn_158 : decode cX6_screamsIn 158 = .ok (.ireturn, 1) := by decide +kernel
theorem dX6_hear_0 : decode cX6_hear 0 = .ok (.aload_n 0, 1) := by decide +kernel
theorem dX6_hear_1 : decode cX6_hear 1 = .ok (.getfield 34, 3) := by decide +kernel
theorem dX6_hear_4 : decode cX6_hear 4 = .ok (.iconst (-1), 1) := by decide +kernel
theorem dX6_hear_5 : decode cX6_hear 5 = .ok (.if_icmp .ne 29, 3) := by decide +kernel
theorem dX6_hear_8 : decode cX6_hear 8 = .ok (.aload_n 0, 1) := by decide +kernel
theorem dX6_hear_9 : decode cX6_hear 9 = .ok (.dup, 1) := by decide +kernel
theorem dX6_hear_10 : decode cX6_hear 10 = .ok (.getfield 37, 3) := by decide +kernel
theorem dX6_hear_13 : decode cX6_hear 13 = .ok (.iload_n 2, 1) := by decide +kernel
theorem dX6_hear_14 : decode cX6_hear 14 = .ok (.iadd, 1) := by decide +kernel
theorem dX6_hear_15 : decode cX6_hear 15 = .ok (.putfield 37, 3) := by decide +kernel
theorem dX6_hear_18 : decode cX6_hear 18 = .ok (.aload_n 0, 1) := by decide +kernel
theorem dX6_hear_19 : decode cX6_hear 19 = .ok (.getfield 37, 3) := by decide +kernel
theorem dX6_hear_22 : decode cX6_hear 22 = .ok (.aload_n 0, 1) := by decide +kernel
theorem dX6_hear_23 : decode cX6_hear 23 = .ok (.getfield 22, 3) := by decide +kernel
theorem dX6_hear_26 : decode cX6_hear 26 = .ok (.if_icmp .le 8, 3) := by decide +kernel
theorem dX6_hear_29 : decode cX6_hear 29 = .ok (.aload_n 0, 1) := by decide +kernel
theorem dX6_hear_30 : decode cX6_hear 30 = .ok (.iload_n 1, 1) := by decide +kernel
theorem dX6_hear_31 : decode cX6_hear 31 = .ok (.putfield 34, 3) := by decide +kernel
theorem dX6_hear_34 : decode cX6_hear 34 = .ok (.return_, 1) := by decide +kernel
theorem dX6_wearOn_0 : decode cX6_wearOn 0 = .ok (.iconst 0, 1) := by decide +kernel
theorem dX6_wearOn_1 : decode cX6_wearOn 1 = .ok (.istore_n 1, 1) := by decide +kernel
theorem dX6_wearOn_2 : decode cX6_wearOn 2 = .ok (.iconst 0, 1) := by decide +kernel
theorem dX6_wearOn_3 : decode cX6_wearOn 3 = .ok (.istore_n 2, 1) := by decide +kernel
theorem dX6_wearOn_4 : decode cX6_wearOn 4 = .ok (.iload_n 2, 1) := by decide +kernel
theorem dX6_wearOn_5 : decode cX6_wearOn 5 = .ok (.bipush 10, 2) := by decide +kernel
theorem dX6_wearOn_7 : decode cX6_wearOn 7 = .ok (.if_icmp .ge 75, 3) := by decide +kernel
theorem dX6_wearOn_10 : decode cX6_wearOn 10 = .ok (.aload_n 0, 1) := by decide +kernel
theorem dX6_wearOn_11 : decode cX6_wearOn 11 = .ok (.getfield 40, 3) := by decide +kernel
theorem dX6_wearOn_14 : decode cX6_wearOn 14 = .ok (.iload_n 2, 1) := by decide +kernel
theorem dX6_wearOn_15 : decode cX6_wearOn 15 = .ok (.iaload, 1) := by decide +kernel
theorem dX6_wearOn_16 : decode cX6_wearOn 16 = .ok (.iconst (-1), 1) := by decide +kernel
theorem dX6_wearOn_17 : decode cX6_wearOn 17 = .ok (.if_icmp .eq 65, 3) := by decide +kernel
theorem dX6_wearOn_20 : decode cX6_wearOn 20 = .ok (.aload_n 0, 1) := by decide +kernel
theorem dX6_wearOn_21 : decode cX6_wearOn 21 = .ok (.getfield 9, 3) := by decide +kernel
theorem dX6_wearOn_24 : decode cX6_wearOn 24 = .ok (.iload_n 2, 1) := by decide +kernel
theorem dX6_wearOn_25 : decode cX6_wearOn 25 = .ok (.iaload, 1) := by decide +kernel
theorem dX6_wearOn_26 : decode cX6_wearOn 26 = .ok (.istore_n 3, 1) := by decide +kernel
theorem dX6_wearOn_27 : decode cX6_wearOn 27 = .ok (.iload_n 3, 1) := by decide +kernel
theorem dX6_wearOn_28 : decode cX6_wearOn 28 = .ok (.ifCond .lt 41, 3) := by decide +kernel
theorem dX6_wearOn_31 : decode cX6_wearOn 31 = .ok (.aload_n 0, 1) := by decide +kernel
theorem dX6_wearOn_32 : decode cX6_wearOn 32 = .ok (.getfield 58, 3) := by decide +kernel
theorem dX6_wearOn_35 : decode cX6_wearOn 35 = .ok (.getfield 108, 3) := by decide +kernel
theorem dX6_wearOn_38 : decode cX6_wearOn 38 = .ok (.aload_n 0, 1) := by decide +kernel
theorem dX6_wearOn_39 : decode cX6_wearOn 39 = .ok (.iload_n 2, 1) := by decide +kernel
theorem dX6_wearOn_40 : decode cX6_wearOn 40 = .ok (.iload_n 1, 1) := by decide +kernel
theorem dX6_wearOn_41 : decode cX6_wearOn 41 = .ok (.invokevirtual 112, 3) := by decide +kernel
theorem dX6_wearOn_44 : decode cX6_wearOn 44 = .ok (.invokevirtual 124, 3) := by decide +kernel
theorem dX6_wearOn_47 : decode cX6_wearOn 47 = .ok (.istore 4, 2) := by decide +kernel
theorem dX6_wearOn_49 : decode cX6_wearOn 49 = .ok (.aload_n 0, 1) := by decide +kernel
theorem dX6_wearOn_50 : decode cX6_wearOn 50 = .ok (.getfield 15, 3) := by decide +kernel
theorem dX6_wearOn_53 : decode cX6_wearOn 53 = .ok (.iload_n 3, 1) := by decide +kernel
theorem dX6_wearOn_54 : decode cX6_wearOn 54 = .ok (.bipush 99, 2) := by decide +kernel
theorem dX6_wearOn_56 : decode cX6_wearOn 56 = .ok (.aload_n 0, 1) := by decide +kernel
theorem dX6_wearOn_57 : decode cX6_wearOn 57 = .ok (.getfield 15, 3) := by decide +kernel
theorem dX6_wearOn_60 : decode cX6_wearOn 60 = .ok (.iload_n 3, 1) := by decide +kernel
theorem dX6_wearOn_61 : decode cX6_wearOn 61 = .ok (.iaload, 1) := by decide +kernel
theorem dX6_wearOn_62 : decode cX6_wearOn 62 = .ok (.iload 4, 2) := by decide +kernel
theorem dX6_wearOn_64 : decode cX6_wearOn 64 = .ok (.iadd, 1) := by decide +kernel
theorem dX6_wearOn_65 : decode cX6_wearOn 65 = .ok (.invokestatic 127, 3) := by decide +kernel
theorem dX6_wearOn_68 : decode cX6_wearOn 68 = .ok (.iastore, 1) := by decide +kernel
theorem dX6_wearOn_69 : decode cX6_wearOn 69 = .ok (.aload_n 0, 1) := by decide +kernel
theorem dX6_wearOn_70 : decode cX6_wearOn 70 = .ok (.getfield 40, 3) := by decide +kernel
theorem dX6_wearOn_73 : decode cX6_wearOn 73 = .ok (.iload_n 2, 1) := by decide +kernel
theorem dX6_wearOn_74 : decode cX6_wearOn 74 = .ok (.iaload, 1) := by decide +kernel
theorem dX6_wearOn_75 : decode cX6_wearOn 75 = .ok (.istore_n 1, 1) := by decide +kernel
theorem dX6_wearOn_76 : decode cX6_wearOn 76 = .ok (.iinc 2 1, 3) := by decide +kernel
theorem dX6_wearOn_79 : decode cX6_wearOn 79 = .ok (.goto (-75), 3) := by decide +kernel
theorem dX6_wearOn_82 : decode cX6_wearOn 82 = .ok (.iconst 0, 1) := by decide +kernel
theorem dX6_wearOn_83 : decode cX6_wearOn 83 = .ok (.istore_n 2, 1) := by decide +kernel
theorem dX6_wearOn_84 : decode cX6_wearOn 84 = .ok (.iload_n 2, 1) := by decide +kernel
theorem dX6_wearOn_85 : decode cX6_wearOn 85 = .ok (.bipush 10, 2) := by decide +kernel
theorem dX6_wearOn_87 : decode cX6_wearOn 87 = .ok (.if_icmp .ge 49, 3) := by decide +kernel
theorem dX6_wearOn_90 : decode cX6_wearOn 90 = .ok (.aload_n 0, 1) := by decide +kernel
theorem dX6_wearOn_91 : decode cX6_wearOn 91 = .ok (.getfield 40, 3) := by decide +kernel
theorem dX6_wearOn_94 : decode cX6_wearOn 94 = .ok (.iload_n 2, 1) := by decide +kernel
theorem dX6_wearOn_95 : decode cX6_wearOn 95 = .ok (.iaload, 1) := by decide +kernel
theorem dX6_wearOn_96 : decode cX6_wearOn 96 = .ok (.iconst (-1), 1) := by decide +kernel
theorem dX6_wearOn_97 : decode cX6_wearOn 97 = .ok (.if_icmp .eq 39, 3) := by decide +kernel
theorem dX6_wearOn_100 : decode cX6_wearOn 100 = .ok (.aload_n 0, 1) := by decide +kernel
theorem dX6_wearOn_101 : decode cX6_wearOn 101 = .ok (.dup, 1) := by decide +kernel
theorem dX6_wearOn_102 : decode cX6_wearOn 102 = .ok (.getfield 25, 3) := by decide +kernel
theorem dX6_wearOn_105 : decode cX6_wearOn 105 = .ok (.aload_n 0, 1) := by decide +kernel
theorem dX6_wearOn_106 : decode cX6_wearOn 106 = .ok (.getfield 9, 3) := by decide +kernel
theorem dX6_wearOn_109 : decode cX6_wearOn 109 = .ok (.iload_n 2, 1) := by decide +kernel
theorem dX6_wearOn_110 : decode cX6_wearOn 110 = .ok (.iaload, 1) := by decide +kernel
theorem dX6_wearOn_111 : decode cX6_wearOn 111 = .ok (.ifCond .lt 14, 3) := by decide +kernel
theorem dX6_wearOn_114 : decode cX6_wearOn 114 = .ok (.iconst 1, 1) := by decide +kernel
theorem dX6_wearOn_115 : decode cX6_wearOn 115 = .ok (.aload_n 0, 1) := by decide +kernel
theorem dX6_wearOn_116 : decode cX6_wearOn 116 = .ok (.getfield 9, 3) := by decide +kernel
theorem dX6_wearOn_119 : decode cX6_wearOn 119 = .ok (.iload_n 2, 1) := by decide +kernel
theorem dX6_wearOn_120 : decode cX6_wearOn 120 = .ok (.iaload, 1) := by decide +kernel
theorem dX6_wearOn_121 : decode cX6_wearOn 121 = .ok (.ishl, 1) := by decide +kernel
theorem dX6_wearOn_122 : decode cX6_wearOn 122 = .ok (.goto 4, 3) := by decide +kernel
theorem dX6_wearOn_125 : decode cX6_wearOn 125 = .ok (.iconst 0, 1) := by decide +kernel
theorem dX6_wearOn_126 : decode cX6_wearOn 126 = .ok (.ior, 1) := by decide +kernel
theorem dX6_wearOn_127 : decode cX6_wearOn 127 = .ok (.putfield 25, 3) := by decide +kernel
theorem dX6_wearOn_130 : decode cX6_wearOn 130 = .ok (.iinc 2 1, 3) := by decide +kernel
theorem dX6_wearOn_133 : decode cX6_wearOn 133 = .ok (.goto (-49), 3) := by decide +kernel
theorem dX6_wearOn_136 : decode cX6_wearOn 136 = .ok (.return_, 1) := by decide +kernel
theorem dX6_meet_0 : decode cX6_meet 0 = .ok (.aload_n 0, 1) := by decide +kernel
theorem dX6_meet_1 : decode cX6_meet 1 = .ok (.getfield 9, 3) := by decide +kernel
theorem dX6_meet_4 : decode cX6_meet 4 = .ok (.iload_n 1, 1) := by decide +kernel
theorem dX6_meet_5 : decode cX6_meet 5 = .ok (.iaload, 1) := by decide +kernel
theorem dX6_meet_6 : decode cX6_meet 6 = .ok (.istore_n 3, 1) := by decide +kernel
theorem dX6_meet_7 : decode cX6_meet 7 = .ok (.iload_n 3, 1) := by decide +kernel
theorem dX6_meet_8 : decode cX6_meet 8 = .ok (.ifCond .lt 99, 3) := by decide +kernel
theorem dX6_meet_11 : decode cX6_meet 11 = .ok (.aload_n 0, 1) := by decide +kernel
theorem dX6_meet_12 : decode cX6_meet 12 = .ok (.getfield 55, 3) := by decide +kernel
theorem dX6_meet_15 : decode cX6_meet 15 = .ok (.iconst 0, 1) := by decide +kernel
theorem dX6_meet_16 : decode cX6_meet 16 = .ok (.iload_n 3, 1) := by decide +kernel
theorem dX6_meet_17 : decode cX6_meet 17 = .ok (.iastore, 1) := by decide +kernel
theorem dX6_meet_18 : decode cX6_meet 18 = .ok (.aload_n 0, 1) := by decide +kernel
theorem dX6_meet_19 : decode cX6_meet 19 = .ok (.getfield 55, 3) := by decide +kernel
theorem dX6_meet_22 : decode cX6_meet 22 = .ok (.iconst 1, 1) := by decide +kernel
theorem dX6_meet_23 : decode cX6_meet 23 = .ok (.iload_n 1, 1) := by decide +kernel
theorem dX6_meet_24 : decode cX6_meet 24 = .ok (.iastore, 1) := by decide +kernel
theorem dX6_meet_25 : decode cX6_meet 25 = .ok (.aload_n 0, 1) := by decide +kernel
theorem dX6_meet_26 : decode cX6_meet 26 = .ok (.getfield 55, 3) := by decide +kernel
theorem dX6_meet_29 : decode cX6_meet 29 = .ok (.iconst 2, 1) := by decide +kernel
theorem dX6_meet_30 : decode cX6_meet 30 = .ok (.aload_n 0, 1) := by decide +kernel
theorem dX6_meet_31 : decode cX6_meet 31 = .ok (.getfield 58, 3) := by decide +kernel
theorem dX6_meet_34 : decode cX6_meet 34 = .ok (.getfield 130, 3) := by decide +kernel
theorem dX6_meet_37 : decode cX6_meet 37 = .ok (.iload_n 3, 1) := by decide +kernel
theorem dX6_meet_38 : decode cX6_meet 38 = .ok (.iaload, 1) := by decide +kernel
theorem dX6_meet_39 : decode cX6_meet 39 = .ok (.iastore, 1) := by decide +kernel
theorem dX6_meet_40 : decode cX6_meet 40 = .ok (.aload_n 0, 1) := by decide +kernel
theorem dX6_meet_41 : decode cX6_meet 41 = .ok (.getfield 55, 3) := by decide +kernel
theorem dX6_meet_44 : decode cX6_meet 44 = .ok (.iconst 3, 1) := by decide +kernel
theorem dX6_meet_45 : decode cX6_meet 45 = .ok (.aload_n 0, 1) := by decide +kernel
theorem dX6_meet_46 : decode cX6_meet 46 = .ok (.getfield 15, 3) := by decide +kernel
theorem dX6_meet_49 : decode cX6_meet 49 = .ok (.iload_n 3, 1) := by decide +kernel
theorem dX6_meet_50 : decode cX6_meet 50 = .ok (.iaload, 1) := by decide +kernel
theorem dX6_meet_51 : decode cX6_meet 51 = .ok (.iastore, 1) := by decide +kernel
theorem dX6_meet_52 : decode cX6_meet 52 = .ok (.aload_n 0, 1) := by decide +kernel
theorem dX6_meet_53 : decode cX6_meet 53 = .ok (.getfield 55, 3) := by decide +kernel
theorem dX6_meet_56 : decode cX6_meet 56 = .ok (.iconst 4, 1) := by decide +kernel
theorem dX6_meet_57 : decode cX6_meet 57 = .ok (.iload_n 2, 1) := by decide +kernel
theorem dX6_meet_58 : decode cX6_meet 58 = .ok (.iastore, 1) := by decide +kernel
theorem dX6_meet_59 : decode cX6_meet 59 = .ok (.aload_n 0, 1) := by decide +kernel
theorem dX6_meet_60 : decode cX6_meet 60 = .ok (.getfield 55, 3) := by decide +kernel
theorem dX6_meet_63 : decode cX6_meet 63 = .ok (.iconst 5, 1) := by decide +kernel
theorem dX6_meet_64 : decode cX6_meet 64 = .ok (.aload_n 0, 1) := by decide +kernel
theorem dX6_meet_65 : decode cX6_meet 65 = .ok (.getfield 22, 3) := by decide +kernel
theorem dX6_meet_68 : decode cX6_meet 68 = .ok (.iastore, 1) := by decide +kernel
theorem dX6_meet_69 : decode cX6_meet 69 = .ok (.aload_n 0, 1) := by decide +kernel
theorem dX6_meet_70 : decode cX6_meet 70 = .ok (.getfield 55, 3) := by decide +kernel
theorem dX6_meet_73 : decode cX6_meet 73 = .ok (.bipush 6, 2) := by decide +kernel
theorem dX6_meet_75 : decode cX6_meet 75 = .ok (.aload_n 0, 1) := by decide +kernel
theorem dX6_meet_76 : decode cX6_meet 76 = .ok (.getfield 25, 3) := by decide +kernel
theorem dX6_meet_79 : decode cX6_meet 79 = .ok (.iload_n 3, 1) := by decide +kernel
theorem dX6_meet_80 : decode cX6_meet 80 = .ok (.ishr, 1) := by decide +kernel
theorem dX6_meet_81 : decode cX6_meet 81 = .ok (.iconst 1, 1) := by decide +kernel
theorem dX6_meet_82 : decode cX6_meet 82 = .ok (.iand, 1) := by decide +kernel
theorem dX6_meet_83 : decode cX6_meet 83 = .ok (.iastore, 1) := by decide +kernel
theorem dX6_meet_84 : decode cX6_meet 84 = .ok (.aload_n 0, 1) := by decide +kernel
theorem dX6_meet_85 : decode cX6_meet 85 = .ok (.getfield 55, 3) := by decide +kernel
theorem dX6_meet_88 : decode cX6_meet 88 = .ok (.bipush 7, 2) := by decide +kernel
theorem dX6_meet_90 : decode cX6_meet 90 = .ok (.aload_n 0, 1) := by decide +kernel
theorem dX6_meet_91 : decode cX6_meet 91 = .ok (.getfield 18, 3) := by decide +kernel
theorem dX6_meet_94 : decode cX6_meet 94 = .ok (.aload_n 0, 1) := by decide +kernel
theorem dX6_meet_95 : decode cX6_meet 95 = .ok (.getfield 58, 3) := by decide +kernel
theorem dX6_meet_98 : decode cX6_meet 98 = .ok (.getfield 133, 3) := by decide +kernel
theorem dX6_meet_101 : decode cX6_meet 101 = .ok (.iload_n 3, 1) := by decide +kernel
theorem dX6_meet_102 : decode cX6_meet 102 = .ok (.iaload, 1) := by decide +kernel
theorem dX6_meet_103 : decode cX6_meet 103 = .ok (.ishr, 1) := by decide +kernel
theorem dX6_meet_104 : decode cX6_meet 104 = .ok (.iconst 1, 1) := by decide +kernel
theorem dX6_meet_105 : decode cX6_meet 105 = .ok (.iand, 1) := by decide +kernel
theorem dX6_meet_106 : decode cX6_meet 106 = .ok (.iastore, 1) := by decide +kernel
theorem dX6_meet_107 : decode cX6_meet 107 = .ok (.aload_n 0, 1) := by decide +kernel
theorem dX6_meet_108 : decode cX6_meet 108 = .ok (.getfield 55, 3) := by decide +kernel
theorem dX6_meet_111 : decode cX6_meet 111 = .ok (.areturn, 1) := by decide +kernel
theorem dX6_drawJolt_0 : decode cX6_drawJolt 0 = .ok (.aload_n 0, 1) := by decide +kernel
theorem dX6_drawJolt_1 : decode cX6_drawJolt 1 = .ok (.ldc 136, 2) := by decide +kernel
theorem dX6_drawJolt_3 : decode cX6_drawJolt 3 = .ok (.aload_n 0, 1) := by decide +kernel
theorem dX6_drawJolt_4 : decode cX6_drawJolt 4 = .ok (.getfield 31, 3) := by decide +kernel
theorem dX6_drawJolt_7 : decode cX6_drawJolt 7 = .ok (.imul, 1) := by decide +kernel
theorem dX6_drawJolt_8 : decode cX6_drawJolt 8 = .ok (.sipush 12345, 3) := by decide +kernel
theorem dX6_drawJolt_11 : decode cX6_drawJolt 11 = .ok (.iadd, 1) := by decide +kernel
theorem dX6_drawJolt_12 : decode cX6_drawJolt 12 = .ok (.putfield 31, 3) := by decide +kernel
theorem dX6_drawJolt_15 : decode cX6_drawJolt 15 = .ok (.aload_n 0, 1) := by decide +kernel
theorem dX6_drawJolt_16 : decode cX6_drawJolt 16 = .ok (.getfield 31, 3) := by decide +kernel
theorem dX6_drawJolt_19 : decode cX6_drawJolt 19 = .ok (.bipush 16, 2) := by decide +kernel
theorem dX6_drawJolt_21 : decode cX6_drawJolt 21 = .ok (.ishr, 1) := by decide +kernel
theorem dX6_drawJolt_22 : decode cX6_drawJolt 22 = .ok (.sipush 32767, 3) := by decide +kernel
theorem dX6_drawJolt_25 : decode cX6_drawJolt 25 = .ok (.iand, 1) := by decide +kernel
theorem dX6_drawJolt_26 : decode cX6_drawJolt 26 = .ok (.iconst 3, 1) := by decide +kernel
theorem dX6_drawJolt_27 : decode cX6_drawJolt 27 = .ok (.irem, 1) := by decide +kernel
theorem dX6_drawJolt_28 : decode cX6_drawJolt 28 = .ok (.ireturn, 1) := by decide +kernel
theorem dX7_init_0 : decode cX7_init 0 = .ok (.aload_n 0, 1) := by decide +kernel
theorem dX7_init_1 : decode cX7_init 1 = .ok (.invokespecial 5, 3) := by decide +kernel
theorem dX7_init_4 : decode cX7_init 4 = .ok (.aload_n 0, 1) := by decide +kernel
theorem dX7_init_5 : decode cX7_init 5 = .ok (.bipush 64, 2) := by decide +kernel
theorem dX7_init_7 : decode cX7_init 7 = .ok (.newarray .boolean, 2) := by decide +kernel
theorem dX7_init_9 : decode cX7_init 9 = .ok (.putfield 13, 3) := by decide +kernel
theorem dX7_init_12 : decode cX7_init 12 = .ok (.aload_n 0, 1) := by decide +kernel
theorem dX7_init_13 : decode cX7_init 13 = .ok (.sipush 640, 3) := by decide +kernel
theorem dX7_init_16 : decode cX7_init 16 = .ok (.newarray .int, 2) := by decide +kernel
theorem dX7_init_18 : decode cX7_init 18 = .ok (.putfield 17, 3) := by decide +kernel
theorem dX7_init_21 : decode cX7_init 21 = .ok (.aload_n 0, 1) := by decide +kernel
theorem dX7_init_22 : decode cX7_init 22 = .ok (.sipush 381, 3) := by decide +kernel
theorem dX7_init_25 : decode cX7_init 25 = .ok (.newarray .int, 2) := by decide +kernel
theorem dX7_init_27 : decode cX7_init 27 = .ok (.putfield 21, 3) := by decide +kernel
theorem dX7_init_30 : decode cX7_init 30 = .ok (.return_, 1) := by decide +kernel
theorem dX7_sift_0 : decode cX7_sift 0 = .ok (.iconst 0, 1) := by decide +kernel
theorem dX7_sift_1 : decode cX7_sift 1 = .ok (.istore 4, 2) := by decide +kernel
theorem dX7_sift_3 : decode cX7_sift 3 = .ok (.iload 4, 2) := by decide +kernel
theorem dX7_sift_5 : decode cX7_sift 5 = .ok (.bipush 64, 2) := by decide +kernel
theorem dX7_sift_7 : decode cX7_sift 7 = .ok (.if_icmp .ge 114, 3) := by decide +kernel
theorem dX7_sift_10 : decode cX7_sift 10 = .ok (.aload_n 1, 1) := by decide +kernel
theorem dX7_sift_11 : decode cX7_sift 11 = .ok (.iload 4, 2) := by decide +kernel
theorem dX7_sift_13 : decode cX7_sift 13 = .ok (.iload_n 2, 1) := by decide +kernel
theorem dX7_sift_14 : decode cX7_sift 14 = .ok (.iconst 0, 1) := by decide +kernel
theorem dX7_sift_15 : decode cX7_sift 15 = .ok (.invokevirtual 24, 3) := by decide +kernel
theorem dX7_sift_18 : decode cX7_sift 18 = .ok (.aload_n 1, 1) := by decide +kernel
theorem dX7_sift_19 : decode cX7_sift 19 = .ok (.invokevirtual 30, 3) := by decide +kernel
theorem dX7_sift_22 : decode cX7_sift 22 = .ok (.aload_n 1, 1) := by decide +kernel
theorem dX7_sift_23 : decode cX7_sift 23 = .ok (.getfield 33, 3) := by decide +kernel
theorem dX7_sift_26 : decode cX7_sift 26 = .ok (.iconst 0, 1) := by decide +kernel
theorem dX7_sift_27 : decode cX7_sift 27 = .ok (.aload_n 0, 1) := by decide +kernel
theorem dX7_sift_28 : decode cX7_sift 28 = .ok (.getfield 17, 3) := by decide +kernel
theorem dX7_sift_31 : decode cX7_sift 31 = .ok (.iload 4, 2) := by decide +kernel
theorem dX7_sift_33 : decode cX7_sift 33 = .ok (.bipush 10, 2) := by decide +kernel
theorem dX7_sift_35 : decode cX7_sift 35 = .ok (.imul, 1) := by decide +kernel
theorem dX7_sift_36 : decode cX7_sift 36 = .ok (.bipush 10, 2) := by decide +kernel
theorem dX7_sift_38 : decode cX7_sift 38 = .ok (.invokestatic 34, 3) := by decide +kernel
theorem dX7_sift_41 : decode cX7_sift 41 = .ok (.aload_n 0, 1) := by decide +kernel
theorem dX7_sift_42 : decode cX7_sift 42 = .ok (.getfield 13, 3) := by decide +kernel
theorem dX7_sift_45 : decode cX7_sift 45 = .ok (.iload 4, 2) := by decide +kernel
theorem dX7_sift_47 : decode cX7_sift 47 = .ok (.iconst 1, 1) := by decide +kernel
theorem dX7_sift_48 : decode cX7_sift 48 = .ok (.bastore, 1) := by decide +kernel
theorem dX7_sift_49 : decode cX7_sift 49 = .ok (.iconst 0, 1) := by decide +kernel
theorem dX7_sift_50 : decode cX7_sift 50 = .ok (.istore 5, 2) := by decide +kernel
theorem dX7_sift_52 : decode cX7_sift 52 = .ok (.iload 5, 2) := by decide +kernel
theorem dX7_sift_54 : decode cX7_sift 54 = .ok (.iconst 1, 1) := by decide +kernel
theorem dX7_sift_55 : decode cX7_sift 55 = .ok (.iadd, 1) := by decide +kernel
theorem dX7_sift_56 : decode cX7_sift 56 = .ok (.aload_n 3, 1) := by decide +kernel
theorem dX7_sift_57 : decode cX7_sift 57 = .ok (.getfield 40, 3) := by decide +kernel
theorem dX7_sift_60 : decode cX7_sift 60 = .ok (.if_icmp .ge 55, 3) := by decide +kernel
theorem dX7_sift_63 : decode cX7_sift 63 = .ok (.aload_n 3, 1) := by decide +kernel
theorem dX7_sift_64 : decode cX7_sift 64 = .ok (.iload 5, 2) := by decide +kernel
theorem dX7_sift_66 : decode cX7_sift 66 = .ok (.invokevirtual 46, 3) := by decide +kernel
theorem dX7_sift_69 : decode cX7_sift 69 = .ok (.istore 6, 2) := by decide +kernel
theorem dX7_sift_71 : decode cX7_sift 71 = .ok (.iload 6, 2) := by decide +kernel
theorem dX7_sift_73 : decode cX7_sift 73 = .ok (.ifCond .lt 28, 3) := by decide +kernel
theorem dX7_sift_76 : decode cX7_sift 76 = .ok (.iload 6, 2) := by decide +kernel
theorem dX7_sift_78 : decode cX7_sift 78 = .ok (.bipush 10, 2) := by decide +kernel
theorem dX7_sift_80 : decode cX7_sift 80 = .ok (.if_icmp .ge 21, 3) := by decide +kernel
theorem dX7_sift_83 : decode cX7_sift 83 = .ok (.aload_n 1, 1) := by decide +kernel
theorem dX7_sift_84 : decode cX7_sift 84 = .ok (.getfield 33, 3) := by decide +kernel
theorem dX7_sift_87 : decode cX7_sift 87 = .ok (.iload 6, 2) := by decide +kernel
theorem dX7_sift_89 : decode cX7_sift 89 = .ok (.iaload, 1) := by decide +kernel
theorem dX7_sift_90 : decode cX7_sift 90 = .ok (.aload_n 3, 1) := by decide +kernel
theorem dX7_sift_91 : decode cX7_sift 91 = .ok (.iload 5, 2) := by decide +kernel
theorem dX7_sift_93 : decode cX7_sift 93 = .ok (.iconst 1, 1) := by decide +kernel
theorem dX7_sift_94 : decode cX7_sift 94 = .ok (.iadd, 1) := by decide +kernel
theorem dX7_sift_95 : decode cX7_sift 95 = .ok (.invokevirtual 46, 3) := by decide +kernel
theorem dX7_sift_98 : decode cX7_sift 98 = .ok (.if_icmp .eq 11, 3) := by decide +kernel
theorem dX7_sift_101 : decode cX7_sift 101 = .ok (.aload_n 0, 1) := by decide +kernel
theorem dX7_sift_102 : decode cX7_sift 102 = .ok (.getfield 13, 3) := by decide +kernel
theorem dX7_sift_105 : decode cX7_sift 105 = .ok (.iload 4, 2) := by decide +kernel
theorem dX7_sift_107 : decode cX7_sift 107 = .ok (.iconst 0, 1) := by decide +kernel
theorem dX7_sift_108 : decode cX7_sift 108 = .ok (.bastore, 1) := by decide +kernel
theorem dX7_sift_109 : decode cX7_sift 109 = .ok (.iinc 5 2, 3) := by decide +kernel
theorem dX7_sift_112 : decode cX7_sift 112 = .ok (.goto (-60), 3) := by decide +kernel
theorem dX7_sift_115 : decode cX7_sift 115 = .ok (.iinc 4 1, 3) := by decide +kernel
theorem dX7_sift_118 : decode cX7_sift 118 = .ok (.goto (-115), 3) := by decide +kernel
theorem dX7_sift_121 : decode cX7_sift 121 = .ok (.return_, 1) := by decide +kernel
theorem dX7_howMany_0 : decode cX7_howMany 0 = .ok (.iconst 0, 1) := by decide +kernel
theorem dX7_howMany_1 : decode cX7_howMany 1 = .ok (.istore_n 1, 1) := by decide +kernel
theorem dX7_howMany_2 : decode cX7_howMany 2 = .ok (.iconst 0, 1) := by decide +kernel
theorem dX7_howMany_3 : decode cX7_howMany 3 = .ok (.istore_n 2, 1) := by decide +kernel
theorem dX7_howMany_4 : decode cX7_howMany 4 = .ok (.iload_n 2, 1) := by decide +kernel
theorem dX7_howMany_5 : decode cX7_howMany 5 = .ok (.bipush 64, 2) := by decide +kernel
theorem dX7_howMany_7 : decode cX7_howMany 7 = .ok (.if_icmp .ge 26, 3) := by decide +kernel
theorem dX7_howMany_10 : decode cX7_howMany 10 = .ok (.iload_n 1, 1) := by decide +kernel
theorem dX7_howMany_11 : decode cX7_howMany 11 = .ok (.aload_n 0, 1) := by decide +kernel
theorem dX7_howMany_12 : decode cX7_howMany 12 = .ok (.getfield 13, 3) := by decide +kernel
theorem dX7_howMany_15 : decode cX7_howMany 15 = .ok (.iload_n 2, 1) := by decide +kernel
theorem dX7_howMany_16 : decode cX7_howMany 16 = .ok (.baload, 1) := by decide +kernel
theorem dX7_howMany_17 : decode cX7_howMany 17 = .ok (.ifCond .eq 7, 3) := by decide +kernel
theorem dX7_howMany_20 : decode cX7_howMany 20 = .ok (.iconst 1, 1) := by decide +kernel
theorem dX7_howMany_21 : decode cX7_howMany 21 = .ok (.goto 4, 3) := by decide +kernel
theorem dX7_howMany_24 : decode cX7_howMany 24 = .ok (.iconst 0, 1) := by decide +kernel
theorem dX7_howMany_25 : decode cX7_howMany 25 = .ok (.iadd, 1) := by decide +kernel
theorem dX7_howMany_26 : decode cX7_howMany 26 = .ok (.istore_n 1, 1) := by decide +kernel
theorem dX7_howMany_27 : decode cX7_howMany 27 = .ok (.iinc 2 1, 3) := by decide +kernel
theorem dX7_howMany_30 : decode cX7_howMany 30 = .ok (.goto (-26), 3) := by decide +kernel
theorem dX7_howMany_33 : decode cX7_howMany 33 = .ok (.iload_n 1, 1) := by decide +kernel
theorem dX7_howMany_34 : decode cX7_howMany 34 = .ok (.ireturn, 1) := by decide +kernel
theorem dX7_deedsOfAll_0 : decode cX7_deedsOfAll 0 = .ok (.bipush 63, 2) := by decide +kernel
theorem dX7_deedsOfAll_2 : decode cX7_deedsOfAll 2 = .ok (.istore_n 1, 1) := by decide +kernel
theorem dX7_deedsOfAll_3 : decode cX7_deedsOfAll 3 = .ok (.iconst 0, 1) := by decide +kernel
theorem dX7_deedsOfAll_4 : decode cX7_deedsOfAll 4 = .ok (.istore_n 2, 1) := by decide +kernel
theorem dX7_deedsOfAll_5 : decode cX7_deedsOfAll 5 = .ok (.iconst 0, 1) := by decide +kernel
theorem dX7_deedsOfAll_6 : decode cX7_deedsOfAll 6 = .ok (.istore_n 3, 1) := by decide +kernel
theorem dX7_deedsOfAll_7 : decode cX7_deedsOfAll 7 = .ok (.iload_n 3, 1) := by decide +kernel
theorem dX7_deedsOfAll_8 : decode cX7_deedsOfAll 8 = .ok (.bipush 64, 2) := by decide +kernel
theorem dX7_deedsOfAll_10 : decode cX7_deedsOfAll 10 = .ok (.if_icmp .ge 24, 3) := by decide +kernel
theorem dX7_deedsOfAll_13 : decode cX7_deedsOfAll 13 = .ok (.aload_n 0, 1) := by decide +kernel
theorem dX7_deedsOfAll_14 : decode cX7_deedsOfAll 14 = .ok (.getfield 13, 3) := by decide +kernel
theorem dX7_deedsOfAll_17 : decode cX7_deedsOfAll 17 = .ok (.iload_n 3, 1) := by decide +kernel
theorem dX7_deedsOfAll_18 : decode cX7_deedsOfAll 18 = .ok (.baload, 1) := by decide +kernel
theorem dX7_deedsOfAll_19 : decode cX7_deedsOfAll 19 = .ok (.ifCond .eq 9, 3) := by decide +kernel
theorem dX7_deedsOfAll_22 : decode cX7_deedsOfAll 22 = .ok (.iload_n 1, 1) := by decide +kernel
theorem dX7_deedsOfAll_23 : decode cX7_deedsOfAll 23 = .ok (.iload_n 3, 1) := by decide +kernel
theorem dX7_deedsOfAll_24 : decode cX7_deedsOfAll 24 = .ok (.iand, 1) := by decide +kernel
theorem dX7_deedsOfAll_25 : decode cX7_deedsOfAll 25 = .ok (.istore_n 1, 1) := by decide +kernel
theorem dX7_deedsOfAll_26 : decode cX7_deedsOfAll 26 = .ok (.iconst 1, 1) := by decide +kernel
theorem dX7_deedsOfAll_27 : decode cX7_deedsOfAll 27 = .ok (.istore_n 2, 1) := by decide +kernel
theorem dX7_deedsOfAll_28 : decode cX7_deedsOfAll 28 = .ok (.iinc 3 1, 3) := by decide +kernel
theorem dX7_deedsOfAll_31 : decode cX7_deedsOfAll 31 = .ok (.goto (-24), 3) := by decide +kernel
theorem dX7_deedsOfAll_34 : decode cX7_deedsOfAll 34 = .ok (.iload_n 2, 1) := by decide +kernel
theorem dX7_deedsOfAll_35 : decode cX7_deedsOfAll 35 = .ok (.ifCond .eq 7, 3) := by decide +kernel
theorem dX7_deedsOfAll_38 : decode cX7_deedsOfAll 38 = .ok (.iload_n 1, 1) := by decide +kernel
theorem dX7_deedsOfAll_39 : decode cX7_deedsOfAll 39 = .ok (.goto 4, 3) := by decide +kernel
theorem dX7_deedsOfAll_42 : decode cX7_deedsOfAll 42 = .ok (.iconst 0, 1) := by decide +kernel
theorem dX7_deedsOfAll_43 : decode cX7_deedsOfAll 43 = .ok (.ireturn, 1) := by decide +kernel
theorem dX7_bestSlot_0 : decode cX7_bestSlot 0 = .ok (.aload_n 0, 1) := by decide +kernel
theorem dX7_bestSlot_1 : decode cX7_bestSlot 1 = .ok (.invokevirtual 50, 3) := by decide +kernel
theorem dX7_bestSlot_4 : decode cX7_bestSlot 4 = .ok (.iconst 2, 1) := by decide +kernel
theorem dX7_bestSlot_5 : decode cX7_bestSlot 5 = .ok (.if_icmp .ge 5, 3) := by decide +kernel
theorem dX7_bestSlot_8 : decode cX7_bestSlot 8 = .ok (.iconst (-1), 1) := by decide +kernel
theorem dX7_bestSlot_9 : decode cX7_bestSlot 9 = .ok (.ireturn, 1) := by decide +kernel
theorem dX7_bestSlot_10 : decode cX7_bestSlot 10 = .ok (.iconst (-1), 1) := by decide +kernel
theorem dX7_bestSlot_11 : decode cX7_bestSlot 11 = .ok (.istore_n 2, 1) := by decide +kernel
theorem dX7_bestSlot_12 : decode cX7_bestSlot 12 = .ok (.iconst 0, 1) := by decide +kernel
theorem dX7_bestSlot_13 : decode cX7_bestSlot 13 = .ok (.istore_n 3, 1) := by decide +kernel
theorem dX7_bestSlot_14 : decode cX7_bestSlot 14 = .ok (.iconst 0, 1) := by decide +kernel
theorem dX7_bestSlot_15 : decode cX7_bestSlot 15 = .ok (.istore 4, 2) := by decide +kernel
theorem dX7_bestSlot_17 : decode cX7_bestSlot 17 = .ok (.iload 4, 2) := by decide +kernel
theorem dX7_bestSlot_19 : decode cX7_bestSlot 19 = .ok (.bipush 10, 2) := by decide +kernel
theorem dX7_bestSlot_21 : decode cX7_bestSlot 21 = .ok (.if_icmp .ge 41, 3) := by decide +kernel
theorem dX7_bestSlot_24 : decode cX7_bestSlot 24 = .ok (.aload_n 1, 1) := by decide +kernel
theorem dX7_bestSlot_25 : decode cX7_bestSlot 25 = .ok (.iload 4, 2) := by decide +kernel
theorem dX7_bestSlot_27 : decode cX7_bestSlot 27 = .ok (.iaload, 1) := by decide +kernel
theorem dX7_bestSlot_28 : decode cX7_bestSlot 28 = .ok (.ifCond .lt 28, 3) := by decide +kernel
theorem dX7_bestSlot_31 : decode cX7_bestSlot 31 = .ok (.aload_n 0, 1) := by decide +kernel
theorem dX7_bestSlot_32 : decode cX7_bestSlot 32 = .ok (.iload 4, 2) := by decide +kernel
theorem dX7_bestSlot_34 : decode cX7_bestSlot 34 = .ok (.invokevirtual 54, 3) := by decide +kernel
theorem dX7_bestSlot_37 : decode cX7_bestSlot 37 = .ok (.istore 5, 2) := by decide +kernel
theorem dX7_bestSlot_39 : decode cX7_bestSlot 39 = .ok (.iload_n 2, 1) := by decide +kernel
theorem dX7_bestSlot_40 : decode cX7_bestSlot 40 = .ok (.iconst (-1), 1) := by decide +kernel
theorem dX7_bestSlot_41 : decode cX7_bestSlot 41 = .ok (.if_icmp .eq 9, 3) := by decide +kernel
theorem dX7_bestSlot_44 : decode cX7_bestSlot 44 = .ok (.iload 5, 2) := by decide +kernel
theorem dX7_bestSlot_46 : decode cX7_bestSlot 46 = .ok (.iload_n 3, 1) := by decide +kernel
theorem dX7_bestSlot_47 : decode cX7_bestSlot 47 = .ok (.if_icmp .ge 9, 3) := by decide +kernel
theorem dX7_bestSlot_50 : decode cX7_bestSlot 50 = .ok (.iload 5, 2) := by decide +kernel
theorem dX7_bestSlot_52 : decode cX7_bestSlot 52 = .ok (.istore_n 3, 1) := by decide +kernel
theorem dX7_bestSlot_53 : decode cX7_bestSlot 53 = .ok (.iload 4, 2) := by decide +kernel
theorem dX7_bestSlot_55 : decode cX7_bestSlot 55 = .ok (.istore_n 2, 1) := by decide +kernel
theorem dX7_bestSlot_56 : decode cX7_bestSlot 56 = .ok (.iinc 4 1, 3) := by decide +kernel
theorem dX7_bestSlot_59 : decode cX7_bestSlot 59 = .ok (.goto (-42), 3) := by decide +kernel
theorem dX7_bestSlot_62 : decode cX7_bestSlot 62 = .ok (.iload_n 2, 1) := by decide +kernel
theorem dX7_bestSlot_63 : decode cX7_bestSlot 63 = .ok (.ireturn, 1) := by decide +kernel
theorem dX7_greatestPart_0 : decode cX7_greatestPart 0 = .ok (.aload_n 0, 1) := by decide +kernel
theorem dX7_greatestPart_1 : decode cX7_greatestPart 1 = .ok (.getfield 21, 3) := by decide +kernel
theorem dX7_greatestPart_4 : decode cX7_greatestPart 4 = .ok (.iconst 0, 1) := by decide +kernel
theorem dX7_greatestPart_5 : decode cX7_greatestPart 5 = .ok (.invokestatic 57, 3) := by decide +kernel
theorem dX7_greatestPart_8 : decode cX7_greatestPart 8 = .ok (.iconst 0, 1) := by decide +kernel
theorem dX7_greatestPart_9 : decode cX7_greatestPart 9 = .ok (.istore_n 2, 1) := by decide +kernel
theorem dX7_greatestPart_10 : decode cX7_greatestPart 10 = .ok (.iconst 0, 1) := by decide +kernel
theorem dX7_greatestPart_11 : decode cX7_greatestPart 11 = .ok (.istore_n 3, 1) := by decide +kernel
theorem dX7_greatestPart_12 : decode cX7_greatestPart 12 = .ok (.iload_n 3, 1) := by decide +kernel
theorem dX7_greatestPart_13 : decode cX7_greatestPart 13 = .ok (.bipush 64, 2) := by decide +kernel
theorem dX7_greatestPart_15 : decode cX7_greatestPart 15 = .ok (.if_icmp .ge 67, 3) := by decide +kernel
theorem dX7_greatestPart_18 : decode cX7_greatestPart 18 = .ok (.aload_n 0, 1) := by decide +kernel
theorem dX7_greatestPart_19 : decode cX7_greatestPart 19 = .ok (.getfield 17, 3) := by decide +kernel
theorem dX7_greatestPart_22 : decode cX7_greatestPart 22 = .ok (.iload_n 3, 1) := by decide +kernel
theorem dX7_greatestPart_23 : decode cX7_greatestPart 23 = .ok (.bipush 10, 2) := by decide +kernel
theorem dX7_greatestPart_25 : decode cX7_greatestPart 25 = .ok (.imul, 1) := by decide +kernel
theorem dX7_greatestPart_26 : decode cX7_greatestPart 26 = .ok (.iload_n 1, 1) := by decide +kernel
theorem dX7_greatestPart_27 : decode cX7_greatestPart 27 = .ok (.iadd, 1) := by decide +kernel
theorem dX7_greatestPart_28 : decode cX7_greatestPart 28 = .ok (.iaload, 1) := by decide +kernel
theorem dX7_greatestPart_29 : decode cX7_greatestPart 29 = .ok (.istore 4, 2) := by decide +kernel
theorem dX7_greatestPart_31 : decode cX7_greatestPart 31 = .ok (.aload_n 0, 1) := by decide +kernel
theorem dX7_greatestPart_32 : decode cX7_greatestPart 32 = .ok (.getfield 13, 3) := by decide +kernel
theorem dX7_greatestPart_35 : decode cX7_greatestPart 35 = .ok (.iload_n 3, 1) := by decide +kernel
theorem dX7_greatestPart_36 : decode cX7_greatestPart 36 = .ok (.baload, 1) := by decide +kernel
theorem dX7_greatestPart_37 : decode cX7_greatestPart 37 = .ok (.ifCond .eq 39, 3) := by decide +kernel
theorem dX7_greatestPart_40 : decode cX7_greatestPart 40 = .ok (.iload 4, 2) := by decide +kernel
theorem dX7_greatestPart_42 : decode cX7_greatestPart 42 = .ok (.ifCond .lt 34, 3) := by decide +kernel
theorem dX7_greatestPart_45 : decode cX7_greatestPart 45 = .ok (.iload 4, 2) := by decide +kernel
theorem dX7_greatestPart_47 : decode cX7_greatestPart 47 = .ok (.sipush 380, 3) := by decide +kernel
theorem dX7_greatestPart_50 : decode cX7_greatestPart 50 = .ok (.if_icmp .gt 26, 3) := by decide +kernel
theorem dX7_greatestPart_53 : decode cX7_greatestPart 53 = .ok (.aload_n 0, 1) := by decide +kernel
theorem dX7_greatestPart_54 : decode cX7_greatestPart 54 = .ok (.getfield 21, 3) := by decide +kernel
theorem dX7_greatestPart_57 : decode cX7_greatestPart 57 = .ok (.iload 4, 2) := by decide +kernel
theorem dX7_greatestPart_59 : decode cX7_greatestPart 59 = .ok (.dup2, 1) := by decide +kernel
theorem dX7_greatestPart_60 : decode cX7_greatestPart 60 = .ok (.iaload, 1) := by decide +kernel
theorem dX7_greatestPart_61 : decode cX7_greatestPart 61 = .ok (.iconst 1, 1) := by decide +kernel
theorem dX7_greatestPart_62 : decode cX7_greatestPart 62 = .ok (.iadd, 1) := by decide +kernel
theorem dX7_greatestPart_63 : decode cX7_greatestPart 63 = .ok (.iastore, 1) := by decide +kernel
theorem dX7_greatestPart_64 : decode cX7_greatestPart 64 = .ok (.iload_n 2, 1) := by decide +kernel
theorem dX7_greatestPart_65 : decode cX7_greatestPart 65 = .ok (.aload_n 0, 1) := by decide +kernel
theorem dX7_greatestPart_66 : decode cX7_greatestPart 66 = .ok (.getfield 21, 3) := by decide +kernel
theorem dX7_greatestPart_69 : decode cX7_greatestPart 69 = .ok (.iload 4, 2) := by decide +kernel
theorem dX7_greatestPart_71 : decode cX7_greatestPart 71 = .ok (.iaload, 1) := by decide +kernel
theorem dX7_greatestPart_72 : decode cX7_greatestPart 72 = .ok (.invokestatic 63, 3) := by decide +kernel
theorem dX7_greatestPart_75 : decode cX7_greatestPart 75 = .ok (.istore_n 2, 1) := by decide +kernel
theorem dX7_greatestPart_76 : decode cX7_greatestPart 76 = .ok (.iinc 3 1, 3) := by decide +kernel
theorem dX7_greatestPart_79 : decode cX7_greatestPart 79 = .ok (.goto (-67), 3) := by decide +kernel
theorem dX7_greatestPart_82 : decode cX7_greatestPart 82 = .ok (.iload_n 2, 1) := by decide +kernel
theorem dX7_greatestPart_83 : decode cX7_greatestPart 83 = .ok (.ireturn, 1) := by decide +kernel
theorem dX8_init_0 : decode cX8_init 0 = .ok (.aload_n 0, 1) := by decide +kernel
theorem dX8_init_1 : decode cX8_init 1 = .ok (.invokespecial 3, 3) := by decide +kernel
theorem dX8_init_4 : decode cX8_init 4 = .ok (.aload_n 0, 1) := by decide +kernel
theorem dX8_init_5 : decode cX8_init 5 = .ok (.iconst 0, 1) := by decide +kernel
theorem dX8_init_6 : decode cX8_init 6 = .ok (.putfield 9, 3) := by decide +kernel
theorem dX8_init_9 : decode cX8_init 9 = .ok (.aload_n 0, 1) := by decide +kernel
theorem dX8_init_10 : decode cX8_init 10 = .ok (.iconst 0, 1) := by decide +kernel
theorem dX8_init_11 : decode cX8_init 11 = .ok (.putfield 15, 3) := by decide +kernel
theorem dX8_init_14 : decode cX8_init 14 = .ok (.aload_n 0, 1) := by decide +kernel
theorem dX8_init_15 : decode cX8_init 15 = .ok (.iconst 0, 1) := by decide +kernel
theorem dX8_init_16 : decode cX8_init 16 = .ok (.putfield 18, 3) := by decide +kernel
theorem dX8_init_19 : decode cX8_init 19 = .ok (.aload_n 0, 1) := by decide +kernel
theorem dX8_init_20 : decode cX8_init 20 = .ok (.iconst 0, 1) := by decide +kernel
theorem dX8_init_21 : decode cX8_init 21 = .ok (.putfield 21, 3) := by decide +kernel
theorem dX8_init_24 : decode cX8_init 24 = .ok (.aload_n 0, 1) := by decide +kernel
theorem dX8_init_25 : decode cX8_init 25 = .ok (.lconst 0, 1) := by decide +kernel
theorem dX8_init_26 : decode cX8_init 26 = .ok (.putfield 24, 3) := by decide +kernel
theorem dX8_init_29 : decode cX8_init 29 = .ok (.aload_n 0, 1) := by decide +kernel
theorem dX8_init_30 : decode cX8_init 30 = .ok (.sipush 400, 3) := by decide +kernel
theorem dX8_init_33 : decode cX8_init 33 = .ok (.newarray .int, 2) := by decide +kernel
theorem dX8_init_35 : decode cX8_init 35 = .ok (.putfield 28, 3) := by decide +kernel
theorem dX8_init_38 : decode cX8_init 38 = .ok (.return_, 1) := by decide +kernel
theorem dX8_hasRoom_0 : decode cX8_hasRoom 0 = .ok (.aload_n 0, 1) := by decide +kernel
theorem dX8_hasRoom_1 : decode cX8_hasRoom 1 = .ok (.getfield 9, 3) := by decide +kernel
theorem dX8_hasRoom_4 : decode cX8_hasRoom 4 = .ok (.iload_n 1, 1) := by decide +kernel
theorem dX8_hasRoom_5 : decode cX8_hasRoom 5 = .ok (.iadd, 1) := by decide +kernel
theorem dX8_hasRoom_6 : decode cX8_hasRoom 6 = .ok (.sipush 400, 3) := by decide +kernel
theorem dX8_hasRoom_9 : decode cX8_hasRoom 9 = .ok (.if_icmp .gt 7, 3) := by decide +kernel
theorem dX8_hasRoom_12 : decode cX8_hasRoom 12 = .ok (.iconst 1, 1) := by decide +kernel
theorem dX8_hasRoom_13 : decode cX8_hasRoom 13 = .ok (.goto 4, 3) := by decide +kernel
theorem dX8_hasRoom_16 : decode cX8_hasRoom 16 = .ok (.iconst 0, 1) := by decide +kernel
theorem dX8_hasRoom_17 : decode cX8_hasRoom 17 = .ok (.ireturn, 1) := by decide +kernel
theorem dX8_put_0 : decode cX8_put 0 = .ok (.aload_n 0, 1) := by decide +kernel
theorem dX8_put_1 : decode cX8_put 1 = .ok (.iconst 4, 1) := by decide +kernel
theorem dX8_put_2 : decode cX8_put 2 = .ok (.invokevirtual 32, 3) := by decide +kernel
theorem dX8_put_5 : decode cX8_put 5 = .ok (.ifCond .eq 42, 3) := by decide +kernel
theorem dX8_put_8 : decode cX8_put 8 = .ok (.bipush 24, 2) := by decide +kernel
theorem dX8_put_10 : decode cX8_put 10 = .ok (.istore_n 2, 1) := by decide +kernel
theorem dX8_put_11 : decode cX8_put 11 = .ok (.iload_n 2, 1) := by decide +kernel
theorem dX8_put_12 : decode cX8_put 12 = .ok (.ifCond .lt 35, 3) := by decide +kernel
theorem dX8_put_15 : decode cX8_put 15 = .ok (.aload_n 0, 1) := by decide +kernel
theorem dX8_put_16 : decode cX8_put 16 = .ok (.getfield 28, 3) := by decide +kernel
theorem dX8_put_19 : decode cX8_put 19 = .ok (.aload_n 0, 1) := by decide +kernel
theorem dX8_put_20 : decode cX8_put 20 = .ok (.getfield 9, 3) := by decide +kernel
theorem dX8_put_23 : decode cX8_put 23 = .ok (.iload_n 1, 1) := by decide +kernel
theorem dX8_put_24 : decode cX8_put 24 = .ok (.iload_n 2, 1) := by decide +kernel
theorem dX8_put_25 : decode cX8_put 25 = .ok (.ishr, 1) := by decide +kernel
theorem dX8_put_26 : decode cX8_put 26 = .ok (.sipush 255, 3) := by decide +kernel
theorem dX8_put_29 : decode cX8_put 29 = .ok (.iand, 1) := by decide +kernel
theorem dX8_put_30 : decode cX8_put 30 = .ok (.iastore, 1) := by decide +kernel
theorem dX8_put_31 : decode cX8_put 31 = .ok (.aload_n 0, 1) := by decide +kernel
theorem dX8_put_32 : decode cX8_put 32 = .ok (.dup, 1) := by decide +kernel
theorem dX8_put_33 : decode cX8_put 33 = .ok (.getfield 9, 3) := by decide +kernel
theorem dX8_put_36 : decode cX8_put 36 = .ok (.iconst 1, 1) := by decide +kernel
theorem dX8_put_37 : decode cX8_put 37 = .ok (.iadd, 1) := by decide +kernel
theorem dX8_put_38 : decode cX8_put 38 = .ok (.putfield 9, 3) := by decide +kernel
theorem dX8_put_41 : decode cX8_put 41 = .ok (.iinc 2 (-8), 3) := by decide +kernel
theorem dX8_put_44 : decode cX8_put 44 = .ok (.goto (-33), 3) := by decide +kernel
theorem dX8_put_47 : decode cX8_put 47 = .ok (.return_, 1) := by decide +kernel
theorem dX8_tellsFrights_0 : decode cX8_tellsFrights 0 = .ok (.aload_n 0, 1) := by decide +kernel
theorem dX8_tellsFrights_1 : decode cX8_tellsFrights 1 = .ok (.getfield 9, 3) := by decide +kernel
theorem dX8_tellsFrights_4 : decode cX8_tellsFrights 4 = .ok (.bipush 40, 2) := by decide +kernel
theorem dX8_tellsFrights_6 : decode cX8_tellsFrights 6 = .ok (.if_icmp .gt 12, 3) := by decide +kernel
theorem dX8_tellsFrights_9 : decode cX8_tellsFrights 9 = .ok (.aload_n 0, 1) := by decide +kernel
theorem dX8_tellsFrights_10 : decode cX8_tellsFrights 10 = .ok (.getfield 9, 3) := by decide +kernel
theorem dX8_tellsFrights_13 : decode cX8_tellsFrights 13 = .ok (.iconst 2, 1) := by decide +kernel
theorem dX8_tellsFrights_14 : decode cX8_tellsFrights 14 = .ok (.irem, 1) := by decide +kernel
theorem dX8_tellsFrights_15 : decode cX8_tellsFrights 15 = .ok (.ifCond .eq 5, 3) := by decide +kernel
theorem dX8_tellsFrights_18 : decode cX8_tellsFrights 18 = .ok (.iconst 0, 1) := by decide +kernel
theorem dX8_tellsFrights_19 : decode cX8_tellsFrights 19 = .ok (.ireturn, 1) := by decide +kernel
theorem dX8_tellsFrights_20 : decode cX8_tellsFrights 20 = .ok (.iconst 0, 1) := by decide +kernel
theorem dX8_tellsFrights_21 : decode cX8_tellsFrights 21 = .ok (.istore_n 1, 1) := by decide +kernel
theorem dX8_tellsFrights_22 : decode cX8_tellsFrights 22 = .ok (.iload_n 1, 1) := by decide +kernel
theorem dX8_tellsFrights_23 : decode cX8_tellsFrights 23 = .ok (.aload_n 0, 1) := by decide +kernel
theorem dX8_tellsFrights_24 : decode cX8_tellsFrights 24 = .ok (.getfield 9, 3) := by decide +kernel
theorem dX8_tellsFrights_27 : decode cX8_tellsFrights 27 = .ok (.if_icmp .ge 22, 3) := by decide +kernel
theorem dX8_tellsFrights_30 : decode cX8_tellsFrights 30 = .ok (.aload_n 0, 1) := by decide +kernel
theorem dX8_tellsFrights_31 : decode cX8_tellsFrights 31 = .ok (.getfield 28, 3) := by decide +kernel
theorem dX8_tellsFrights_34 : decode cX8_tellsFrights 34 = .ok (.iload_n 1, 1) := by decide +kernel
theorem dX8_tellsFrights_35 : decode cX8_tellsFrights 35 = .ok (.iaload, 1) := by decide +kernel
theorem dX8_tellsFrights_36 : decode cX8_tellsFrights 36 = .ok (.bipush 10, 2) := by decide +kernel
theorem dX8_tellsFrights_38 : decode cX8_tellsFrights 38 = .ok (.if_icmp .lt 5, 3) := by decide +kernel
theorem dX8_tellsFrights_41 : decode cX8_tellsFrights 41 = .ok (.iconst 0, 1) := by decide +kernel
theorem dX8_tellsFrights_42 : decode cX8_tellsFrights 42 = .ok (.ireturn, 1) := by decide +kernel
theorem dX8_tellsFrights_43 : decode cX8_tellsFrights 43 = .ok (.iinc 1 2, 3) := by decide +kernel
theorem dX8_tellsFrights_46 : decode cX8_tellsFrights 46 = .ok (.goto (-24), 3) := by decide +kernel
theorem dX8_tellsFrights_49 : decode cX8_tellsFrights 49 = .ok (.iconst 1, 1) := by decide +kernel
theorem dX8_tellsFrights_50 : decode cX8_tellsFrights 50 = .ok (.ireturn, 1) := by decide +kernel
theorem dX8_byteAt_0 : decode cX8_byteAt 0 = .ok (.iload_n 1, 1) := by decide +kernel
theorem dX8_byteAt_1 : decode cX8_byteAt 1 = .ok (.ifCond .lt 20, 3) := by decide +kernel
theorem dX8_byteAt_4 : decode cX8_byteAt 4 = .ok (.iload_n 1, 1) := by decide +kernel
theorem dX8_byteAt_5 : decode cX8_byteAt 5 = .ok (.aload_n 0, 1) := by decide +kernel
theorem dX8_byteAt_6 : decode cX8_byteAt 6 = .ok (.getfield 9, 3) := by decide +kernel
theorem dX8_byteAt_9 : decode cX8_byteAt 9 = .ok (.if_icmp .ge 12, 3) := by decide +kernel
theorem dX8_byteAt_12 : decode cX8_byteAt 12 = .ok (.aload_n 0, 1) := by decide +kernel
theorem dX8_byteAt_13 : decode cX8_byteAt 13 = .ok (.getfield 28, 3) := by decide +kernel
theorem dX8_byteAt_16 : decode cX8_byteAt 16 = .ok (.iload_n 1, 1) := by decide +kernel
theorem dX8_byteAt_17 : decode cX8_byteAt 17 = .ok (.iaload, 1) := by decide +kernel
theorem dX8_byteAt_18 : decode cX8_byteAt 18 = .ok (.goto 4, 3) := by decide +kernel
theorem dX8_byteAt_21 : decode cX8_byteAt 21 = .ok (.iconst (-1), 1) := by decide +kernel
theorem dX8_byteAt_22 : decode cX8_byteAt 22 = .ok (.ireturn, 1) := by decide +kernel
theorem dX8_open_0 : decode cX8_open 0 = .ok (.aload_n 0, 1) := by decide +kernel
theorem dX8_open_1 : decode cX8_open 1 = .ok (.iconst 0, 1) := by decide +kernel
theorem dX8_open_2 : decode cX8_open 2 = .ok (.putfield 18, 3) := by decide +kernel
theorem dX8_open_5 : decode cX8_open 5 = .ok (.aload_n 0, 1) := by decide +kernel
theorem dX8_open_6 : decode cX8_open 6 = .ok (.invokevirtual 36, 3) := by decide +kernel
theorem dX8_open_9 : decode cX8_open 9 = .ok (.return_, 1) := by decide +kernel
theorem dX8_advance_0 : decode cX8_advance 0 = .ok (.aload_n 0, 1) := by decide +kernel
theorem dX8_advance_1 : decode cX8_advance 1 = .ok (.aload_n 0, 1) := by decide +kernel
theorem dX8_advance_2 : decode cX8_advance 2 = .ok (.getfield 18, 3) := by decide +kernel
theorem dX8_advance_5 : decode cX8_advance 5 = .ok (.putfield 15, 3) := by decide +kernel
theorem dX8_advance_8 : decode cX8_advance 8 = .ok (.aload_n 0, 1) := by decide +kernel
theorem dX8_advance_9 : decode cX8_advance 9 = .ok (.getfield 15, 3) := by decide +kernel
theorem dX8_advance_12 : decode cX8_advance 12 = .ok (.aload_n 0, 1) := by decide +kernel
theorem dX8_advance_13 : decode cX8_advance 13 = .ok (.getfield 9, 3) := by decide +kernel
theorem dX8_advance_16 : decode cX8_advance 16 = .ok (.if_icmp .ge 30, 3) := by decide +kernel
theorem dX8_advance_19 : decode cX8_advance 19 = .ok (.aload_n 0, 1) := by decide +kernel
theorem dX8_advance_20 : decode cX8_advance 20 = .ok (.getfield 28, 3) := by decide +kernel
theorem dX8_advance_23 : decode cX8_advance 23 = .ok (.aload_n 0, 1) := by decide +kernel
theorem dX8_advance_24 : decode cX8_advance 24 = .ok (.getfield 15, 3) := by decide +kernel
theorem dX8_advance_27 : decode cX8_advance 27 = .ok (.iaload, 1) := by decide +kernel
theorem dX8_advance_28 : decode cX8_advance 28 = .ok (.bipush 32, 2) := by decide +kernel
theorem dX8_advance_30 : decode cX8_advance 30 = .ok (.if_icmp .ne 16, 3) := by decide +kernel
theorem dX8_advance_33 : decode cX8_advance 33 = .ok (.aload_n 0, 1) := by decide +kernel
theorem dX8_advance_34 : decode cX8_advance 34 = .ok (.dup, 1) := by decide +kernel
theorem dX8_advance_35 : decode cX8_advance 35 = .ok (.getfield 15, 3) := by decide +kernel
theorem dX8_advance_38 : decode cX8_advance 38 = .ok (.iconst 1, 1) := by decide +kernel
theorem dX8_advance_39 : decode cX8_advance 39 = .ok (.iadd, 1) := by decide +kernel
theorem dX8_advance_40 : decode cX8_advance 40 = .ok (.putfield 15, 3) := by decide +kernel
theorem dX8_advance_43 : decode cX8_advance 43 = .ok (.goto (-35), 3) := by decide +kernel
theorem dX8_advance_46 : decode cX8_advance 46 = .ok (.aload_n 0, 1) := by decide +kernel
theorem dX8_advance_47 : decode cX8_advance 47 = .ok (.aload_n 0, 1) := by decide +kernel
theorem dX8_advance_48 : decode cX8_advance 48 = .ok (.getfield 15, 3) := by decide +kernel
theorem dX8_advance_51 : decode cX8_advance 51 = .ok (.putfield 18, 3) := by decide +kernel
theorem dX8_advance_54 : decode cX8_advance 54 = .ok (.aload_n 0, 1) := by decide +kernel
theorem dX8_advance_55 : decode cX8_advance 55 = .ok (.lconst 0, 1) := by decide +kernel
theorem dX8_advance_56 : decode cX8_advance 56 = .ok (.putfield 24, 3) := by decide +kernel
theorem dX8_advance_59 : decode cX8_advance 59 = .ok (.aload_n 0, 1) := by decide +kernel
theorem dX8_advance_60 : decode cX8_advance 60 = .ok (.getfield 15, 3) := by decide +kernel
theorem dX8_advance_63 : decode cX8_advance 63 = .ok (.aload_n 0, 1) := by decide +kernel
theorem dX8_advance_64 : decode cX8_advance 64 = .ok (.getfield 9, 3) := by decide +kernel
theorem dX8_advance_67 : decode cX8_advance 67 = .ok (.if_icmp .lt 11, 3) := by decide +kernel
theorem dX8_advance_70 : decode cX8_advance 70 = .ok (.aload_n 0, 1) := by decide +kernel
theorem dX8_advance_71 : decode cX8_advance 71 = .ok (.iconst 0, 1) := by decide +kernel
theorem dX8_advance_72 : decode cX8_advance 72 = .ok (.putfield 21, 3) := by decide +kernel
theorem dX8_advance_75 : decode cX8_advance 75 = .ok (.goto 210, 3) := by decide +kernel
theorem dX8_advance_78 : decode cX8_advance 78 = .ok (.aload_n 0, 1) := by decide +kernel
theorem dX8_advance_79 : decode cX8_advance 79 = .ok (.getfield 28, 3) := by decide +kernel
theorem dX8_advance_82 : decode cX8_advance 82 = .ok (.aload_n 0, 1) := by decide +kernel
theorem dX8_advance_83 : decode cX8_advance 83 = .ok (.getfield 15, 3) := by decide +kernel
theorem dX8_advance_86 : decode cX8_advance 86 = .ok (.iaload, 1) := by decide +kernel
theorem dX8_advance_87 : decode cX8_advance 87 = .ok (.bipush 97, 2) := by decide +kernel
theorem dX8_advance_89 : decode cX8_advance 89 = .ok (.if_icmp .lt 96, 3) := by decide +kernel
theorem dX8_advance_92 : decode cX8_advance 92 = .ok (.aload_n 0, 1) := by decide +kernel
theorem dX8_advance_93 : decode cX8_advance 93 = .ok (.getfield 28, 3) := by decide +kernel
theorem dX8_advance_96 : decode cX8_advance 96 = .ok (.aload_n 0, 1) := by decide +kernel
theorem dX8_advance_97 : decode cX8_advance 97 = .ok (.getfield 15, 3) := by decide +kernel
theorem dX8_advance_100 : decode cX8_advance 100 = .ok (.iaload, 1) := by decide +kernel
theorem dX8_advance_101 : decode cX8_advance 101 = .ok (.bipush 122, 2) := by decide +kernel
theorem dX8_advance_103 : decode cX8_advance 103 = .ok (.if_icmp .gt 82, 3) := by decide +kernel
theorem dX8_advance_106 : decode cX8_advance 106 = .ok (.aload_n 0, 1) := by decide +kernel
theorem dX8_advance_107 : decode cX8_advance 107 = .ok (.iconst 1, 1) := by decide +kernel
theorem dX8_advance_108 : decode cX8_advance 108 = .ok (.putfield 21, 3) := by decide +kernel
theorem dX8_advance_111 : decode cX8_advance 111 = .ok (.aload_n 0, 1) := by decide +kernel
theorem dX8_advance_112 : decode cX8_advance 112 = .ok (.getfield 18, 3) := by decide +kernel
theorem dX8_advance_115 : decode cX8_advance 115 = .ok (.aload_n 0, 1) := by decide +kernel
theorem dX8_advance_116 : decode cX8_advance 116 = .ok (.getfield 9, 3) := by decide +kernel
theorem dX8_advance_119 : decode cX8_advance 119 = .ok (.if_icmp .ge 166, 3) := by decide +kernel
theorem dX8_advance_122 : decode cX8_advance 122 = .ok (.aload_n 0, 1) := by decide +kernel
theorem dX8_advance_123 : decode cX8_advance 123 = .ok (.getfield 28, 3) := by decide +kernel
theorem dX8_advance_126 : decode cX8_advance 126 = .ok (.aload_n 0, 1) := by decide +kernel
theorem dX8_advance_127 : decode cX8_advance 127 = .ok (.getfield 18, 3) := by decide +kernel
theorem dX8_advance_130 : decode cX8_advance 130 = .ok (.iaload, 1) := by decide +kernel
theorem dX8_advance_131 : decode cX8_advance 131 = .ok (.bipush 97, 2) := by decide +kernel
theorem dX8_advance_133 : decode cX8_advance 133 = .ok (.if_icmp .lt 152, 3) := by decide +kernel
theorem dX8_advance_136 : decode cX8_advance 136 = .ok (.aload_n 0, 1) := by decide +kernel
theorem dX8_advance_137 : decode cX8_advance 137 = .ok (.getfield 28, 3) := by decide +kernel
theorem dX8_advance_140 : decode cX8_advance 140 = .ok (.aload_n 0, 1) := by decide +kernel
theorem dX8_advance_141 : decode cX8_advance 141 = .ok (.getfield 18, 3) := by decide +kernel
theorem dX8_advance_144 : decode cX8_advance 144 = .ok (.iaload, 1) := by decide +kernel
theorem dX8_advance_145 : decode cX8_advance 145 = .ok (.bipush 122, 2) := by decide +kernel
theorem dX8_advance_147 : decode cX8_advance 147 = .ok (.if_icmp .gt 138, 3) := by decide +kernel
theorem dX8_advance_150 : decode cX8_advance 150 = .ok (.aload_n 0, 1) := by decide +kernel
theorem dX8_advance_151 : decode cX8_advance 151 = .ok (.aload_n 0, 1) := by decide +kernel
theorem dX8_advance_152 : decode cX8_advance 152 = .ok (.getfield 24, 3) := by decide +kernel
theorem dX8_advance_155 : decode cX8_advance 155 = .ok (.bipush 8, 2) := by decide +kernel
theorem dX8_advance_157 : decode cX8_advance 157 = .ok (.lshl, 1) := by decide +kernel
theorem dX8_advance_158 : decode cX8_advance 158 = .ok (.aload_n 0, 1) := by decide +kernel
theorem dX8_advance_159 : decode cX8_advance 159 = .ok (.getfield 28, 3) := by decide +kernel
theorem dX8_advance_162 : decode cX8_advance 162 = .ok (.aload_n 0, 1) := by decide +kernel
theorem dX8_advance_163 : decode cX8_advance 163 = .ok (.getfield 18, 3) := by decide +kernel
theorem dX8_advance_166 : decode cX8_advance 166 = .ok (.iaload, 1) := by decide +kernel
theorem dX8_advance_167 : decode cX8_advance 167 = .ok (.i2l, 1) := by decide +kernel
theorem dX8_advance_168 : decode cX8_advance 168 = .ok (.lor, 1) := by decide +kernel
theorem dX8_advance_169 : decode cX8_advance 169 = .ok (.putfield 24, 3) := by decide +kernel
theorem dX8_advance_172 : decode cX8_advance 172 = .ok (.aload_n 0, 1) := by decide +kernel
theorem dX8_advance_173 : decode cX8_advance 173 = .ok (.dup, 1) := by decide +kernel
theorem dX8_advance_174 : decode cX8_advance 174 = .ok (.getfield 18, 3) := by decide +kernel
theorem dX8_advance_177 : decode cX8_advance 177 = .ok (.iconst 1, 1) := by decide +kernel
theorem dX8_advance_178 : decode cX8_advance 178 = .ok (.iadd, 1) := by decide +kernel
theorem dX8_advance_179 : decode cX8_advance 179 = .ok (.putfield 18, 3) := by decide +kernel
theorem dX8_advance_182 : decode cX8_advance 182 = .ok (.goto (-71), 3) := by decide +kernel
theorem dX8_advance_185 : decode cX8_advance 185 = .ok (.aload_n 0, 1) := by decide +kernel
theorem dX8_advance_186 : decode cX8_advance 186 = .ok (.getfield 28, 3) := by decide +kernel
theorem dX8_advance_189 : decode cX8_advance 189 = .ok (.aload_n 0, 1) := by decide +kernel
theorem dX8_advance_190 : decode cX8_advance 190 = .ok (.getfield 15, 3) := by decide +kernel
theorem dX8_advance_193 : decode cX8_advance 193 = .ok (.iaload, 1) := by decide +kernel
theorem dX8_advance_194 : decode cX8_advance 194 = .ok (.bipush 48, 2) := by decide +kernel
theorem dX8_advance_196 : decode cX8_advance 196 = .ok (.if_icmp .lt 74, 3) := by decide +kernel
theorem dX8_advance_199 : decode cX8_advance 199 = .ok (.aload_n 0, 1) := by decide +kernel
theorem dX8_advance_200 : decode cX8_advance 200 = .ok (.getfield 28, 3) := by decide +kernel
theorem dX8_advance_203 : decode cX8_advance 203 = .ok (.aload_n 0, 1) := by decide +kernel
theorem dX8_advance_204 : decode cX8_advance 204 = .ok (.getfield 15, 3) := by decide +kernel
theorem dX8_advance_207 : decode cX8_advance 207 = .ok (.iaload, 1) := by decide +kernel
theorem dX8_advance_208 : decode cX8_advance 208 = .ok (.bipush 57, 2) := by decide +kernel
theorem dX8_advance_210 : decode cX8_advance 210 = .ok (.if_icmp .gt 60, 3) := by decide +kernel
theorem dX8_advance_213 : decode cX8_advance 213 = .ok (.aload_n 0, 1) := by decide +kernel
theorem dX8_advance_214 : decode cX8_advance 214 = .ok (.iconst 2, 1) := by decide +kernel
theorem dX8_advance_215 : decode cX8_advance 215 = .ok (.putfield 21, 3) := by decide +kernel
theorem dX8_advance_218 : decode cX8_advance 218 = .ok (.aload_n 0, 1) := by decide +kernel
theorem dX8_advance_219 : decode cX8_advance 219 = .ok (.getfield 18, 3) := by decide +kernel
theorem dX8_advance_222 : decode cX8_advance 222 = .ok (.aload_n 0, 1) := by decide +kernel
theorem dX8_advance_223 : decode cX8_advance 223 = .ok (.getfield 9, 3) := by decide +kernel
theorem dX8_advance_226 : decode cX8_advance 226 = .ok (.if_icmp .ge 59, 3) := by decide +kernel
theorem dX8_advance_229 : decode cX8_advance 229 = .ok (.aload_n 0, 1) := by decide +kernel
theorem dX8_advance_230 : decode cX8_advance 230 = .ok (.getfield 28, 3) := by decide +kernel
theorem dX8_advance_233 : decode cX8_advance 233 = .ok (.aload_n 0, 1) := by decide +kernel
theorem dX8_advance_234 : decode cX8_advance 234 = .ok (.getfield 18, 3) := by decide +kernel
theorem dX8_advance_237 : decode cX8_advance 237 = .ok (.iaload, 1) := by decide +kernel
theorem dX8_advance_238 : decode cX8_advance 238 = .ok (.bipush 48, 2) := by decide +kernel
theorem dX8_advance_240 : decode cX8_advance 240 = .ok (.if_icmp .lt 45, 3) := by decide +kernel
theorem dX8_advance_243 : decode cX8_advance 243 = .ok (.aload_n 0, 1) := by decide +kernel
theorem dX8_advance_244 : decode cX8_advance 244 = .ok (.getfield 28, 3) := by decide +kernel
theorem dX8_advance_247 : decode cX8_advance 247 = .ok (.aload_n 0, 1) := by decide +kernel
theorem dX8_advance_248 : decode cX8_advance 248 = .ok (.getfield 18, 3) := by decide +kernel
theorem dX8_advance_251 : decode cX8_advance 251 = .ok (.iaload, 1) := by decide +kernel
theorem dX8_advance_252 : decode cX8_advance 252 = .ok (.bipush 57, 2) := by decide +kernel
theorem dX8_advance_254 : decode cX8_advance 254 = .ok (.if_icmp .gt 31, 3) := by decide +kernel
theorem dX8_advance_257 : decode cX8_advance 257 = .ok (.aload_n 0, 1) := by decide +kernel
theorem dX8_advance_258 : decode cX8_advance 258 = .ok (.dup, 1) := by decide +kernel
theorem dX8_advance_259 : decode cX8_advance 259 = .ok (.getfield 18, 3) := by decide +kernel
theorem dX8_advance_262 : decode cX8_advance 262 = .ok (.iconst 1, 1) := by decide +kernel
theorem dX8_advance_263 : decode cX8_advance 263 = .ok (.iadd, 1) := by decide +kernel
theorem dX8_advance_264 : decode cX8_advance 264 = .ok (.putfield 18, 3) := by decide +kernel
theorem dX8_advance_267 : decode cX8_advance 267 = .ok (.goto (-49), 3) := by decide +kernel
theorem dX8_advance_270 : decode cX8_advance 270 = .ok (.aload_n 0, 1) := by decide +kernel
theorem dX8_advance_271 : decode cX8_advance 271 = .ok (.iconst 3, 1) := by decide +kernel
theorem dX8_advance_272 : decode cX8_advance 272 = .ok (.putfield 21, 3) := by decide +kernel
theorem dX8_advance_275 : decode cX8_advance 275 = .ok (.aload_n 0, 1) := by decide +kernel
theorem dX8_advance_276 : decode cX8_advance 276 = .ok (.dup, 1) := by decide +kernel
theorem dX8_advance_277 : decode cX8_advance 277 = .ok (.getfield 18, 3) := by decide +kernel
theorem dX8_advance_280 : decode cX8_advance 280 = .ok (.iconst 1, 1) := by decide +kernel
theorem dX8_advance_281 : decode cX8_advance 281 = .ok (.iadd, 1) := by decide +kernel
theorem dX8_advance_282 : decode cX8_advance 282 = .ok (.putfield 18, 3) := by decide +kernel
theorem dX8_advance_285 : decode cX8_advance 285 = .ok (.return_, 1) := by decide +kernel
theorem dX8_isEnded_0 : decode cX8_isEnded 0 = .ok (.aload_n 0, 1) := by decide +kernel
theorem dX8_isEnded_1 : decode cX8_isEnded 1 = .ok (.getfield 21, 3) := by decide +kernel
theorem dX8_isEnded_4 : decode cX8_isEnded 4 = .ok (.ifCond .ne 7, 3) := by decide +kernel
theorem dX8_isEnded_7 : decode cX8_isEnded 7 = .ok (.iconst 1, 1) := by decide +kernel
theorem dX8_isEnded_8 : decode cX8_isEnded 8 = .ok (.goto 4, 3) := by decide +kernel
theorem dX8_isEnded_11 : decode cX8_isEnded 11 = .ok (.iconst 0, 1) := by decide +kernel
theorem dX8_isEnded_12 : decode cX8_isEnded 12 = .ok (.ireturn, 1) := by decide +kernel
theorem dX8_isWord_0 : decode cX8_isWord 0 = .ok (.aload_n 0, 1) := by decide +kernel
theorem dX8_isWord_1 : decode cX8_isWord 1 = .ok (.getfield 24, 3) := by decide +kernel
theorem dX8_isWord_4 : decode cX8_isWord 4 = .ok (.lload_n 1, 1) := by decide +kernel
theorem dX8_isWord_5 : decode cX8_isWord 5 = .ok (.lcmp, 1) := by decide +kernel
theorem dX8_isWord_6 : decode cX8_isWord 6 = .ok (.ifCond .ne 7, 3) := by decide +kernel
theorem dX8_isWord_9 : decode cX8_isWord 9 = .ok (.iconst 1, 1) := by decide +kernel
theorem dX8_isWord_10 : decode cX8_isWord 10 = .ok (.goto 4, 3) := by decide +kernel
theorem dX8_isWord_13 : decode cX8_isWord 13 = .ok (.iconst 0, 1) := by decide +kernel
theorem dX8_isWord_14 : decode cX8_isWord 14 = .ok (.ireturn, 1) := by decide +kernel
theorem dX8_isSign_0 : decode cX8_isSign 0 = .ok (.aload_n 0, 1) := by decide +kernel
theorem dX8_isSign_1 : decode cX8_isSign 1 = .ok (.getfield 21, 3) := by decide +kernel
theorem dX8_isSign_4 : decode cX8_isSign 4 = .ok (.iconst 3, 1) := by decide +kernel
theorem dX8_isSign_5 : decode cX8_isSign 5 = .ok (.if_icmp .ne 20, 3) := by decide +kernel
theorem dX8_isSign_8 : decode cX8_isSign 8 = .ok (.aload_n 0, 1) := by decide +kernel
theorem dX8_isSign_9 : decode cX8_isSign 9 = .ok (.getfield 28, 3) := by decide +kernel
theorem dX8_isSign_12 : decode cX8_isSign 12 = .ok (.aload_n 0, 1) := by decide +kernel
theorem dX8_isSign_13 : decode cX8_isSign 13 = .ok (.getfield 15, 3) := by decide +kernel
theorem dX8_isSign_16 : decode cX8_isSign 16 = .ok (.iaload, 1) := by decide +kernel
theorem dX8_isSign_17 : decode cX8_isSign 17 = .ok (.iload_n 1, 1) := by decide +kernel
theorem dX8_isSign_18 : decode cX8_isSign 18 = .ok (.if_icmp .ne 7, 3) := by decide +kernel
theorem dX8_isSign_21 : decode cX8_isSign 21 = .ok (.iconst 1, 1) := by decide +kernel
theorem dX8_isSign_22 : decode cX8_isSign 22 = .ok (.goto 4, 3) := by decide +kernel
theorem dX8_isSign_25 : decode cX8_isSign 25 = .ok (.iconst 0, 1) := by decide +kernel
theorem dX8_isSign_26 : decode cX8_isSign 26 = .ok (.ireturn, 1) := by decide +kernel
theorem dX8_takeWord_0 : decode cX8_takeWord 0 = .ok (.aload_n 0, 1) := by decide +kernel
theorem dX8_takeWord_1 : decode cX8_takeWord 1 = .ok (.lload_n 1, 1) := by decide +kernel
theorem dX8_takeWord_2 : decode cX8_takeWord 2 = .ok (.invokevirtual 39, 3) := by decide +kernel
theorem dX8_takeWord_5 : decode cX8_takeWord 5 = .ok (.istore_n 3, 1) := by decide +kernel
theorem dX8_takeWord_6 : decode cX8_takeWord 6 = .ok (.iload_n 3, 1) := by decide +kernel
theorem dX8_takeWord_7 : decode cX8_takeWord 7 = .ok (.ifCond .eq 7, 3) := by decide +kernel
theorem dX8_takeWord_10 : decode cX8_takeWord 10 = .ok (.aload_n 0, 1) := by decide +kernel
theorem dX8_takeWord_11 : decode cX8_takeWord 11 = .ok (.invokevirtual 36, 3) := by decide +kernel
theorem dX8_takeWord_14 : decode cX8_takeWord 14 = .ok (.iload_n 3, 1) := by decide +kernel
theorem dX8_takeWord_15 : decode cX8_takeWord 15 = .ok (.ireturn, 1) := by decide +kernel
theorem dX8_takeSign_0 : decode cX8_takeSign 0 = .ok (.aload_n 0, 1) := by decide +kernel
theorem dX8_takeSign_1 : decode cX8_takeSign 1 = .ok (.iload_n 1, 1) := by decide +kernel
theorem dX8_takeSign_2 : decode cX8_takeSign 2 = .ok (.invokevirtual 43, 3) := by decide +kernel
theorem dX8_takeSign_5 : decode cX8_takeSign 5 = .ok (.istore_n 2, 1) := by decide +kernel
theorem dX8_takeSign_6 : decode cX8_takeSign 6 = .ok (.iload_n 2, 1) := by decide +kernel
theorem dX8_takeSign_7 : decode cX8_takeSign 7 = .ok (.ifCond .eq 7, 3) := by decide +kernel
theorem dX8_takeSign_10 : decode cX8_takeSign 10 = .ok (.aload_n 0, 1) := by decide +kernel
theorem dX8_takeSign_11 : decode cX8_takeSign 11 = .ok (.invokevirtual 36, 3) := by decide +kernel
theorem dX8_takeSign_14 : decode cX8_takeSign 14 = .ok (.iload_n 2, 1) := by decide +kernel
theorem dX8_takeSign_15 : decode cX8_takeSign 15 = .ok (.ireturn, 1) := by decide +kernel
theorem dX8_number_0 : decode cX8_number 0 = .ok (.aload_n 0, 1) := by decide +kernel
theorem dX8_number_1 : decode cX8_number 1 = .ok (.getfield 21, 3) := by decide +kernel
theorem dX8_number_4 : decode cX8_number 4 = .ok (.iconst 2, 1) := by decide +kernel
theorem dX8_number_5 : decode cX8_number 5 = .ok (.if_icmp .ne 16, 3) := by decide +kernel
theorem dX8_number_8 : decode cX8_number 8 = .ok (.aload_n 0, 1) := by decide +kernel
theorem dX8_number_9 : decode cX8_number 9 = .ok (.getfield 18, 3) := by decide +kernel
theorem dX8_number_12 : decode cX8_number 12 = .ok (.aload_n 0, 1) := by decide +kernel
theorem dX8_number_13 : decode cX8_number 13 = .ok (.getfield 15, 3) := by decide +kernel
theorem dX8_number_16 : decode cX8_number 16 = .ok (.isub, 1) := by decide +kernel
theorem dX8_number_17 : decode cX8_number 17 = .ok (.iconst 3, 1) := by decide +kernel
theorem dX8_number_18 : decode cX8_number 18 = .ok (.if_icmp .le 5, 3) := by decide +kernel
theorem dX8_number_21 : decode cX8_number 21 = .ok (.iconst (-1), 1) := by decide +kernel
theorem dX8_number_22 : decode cX8_number 22 = .ok (.ireturn, 1) := by decide +kernel
theorem dX8_number_23 : decode cX8_number 23 = .ok (.iconst 0, 1) := by decide +kernel
theorem dX8_number_24 : decode cX8_number 24 = .ok (.istore_n 3, 1) := by decide +kernel
theorem dX8_number_25 : decode cX8_number 25 = .ok (.aload_n 0, 1) := by decide +kernel
theorem dX8_number_26 : decode cX8_number 26 = .ok (.getfield 15, 3) := by decide +kernel
theorem dX8_number_29 : decode cX8_number 29 = .ok (.istore 4, 2) := by decide +kernel
theorem dX8_number_31 : decode cX8_number 31 = .ok (.iload 4, 2) := by decide +kernel
theorem dX8_number_33 : decode cX8_number 33 = .ok (.aload_n 0, 1) := by decide +kernel
theorem dX8_number_34 : decode cX8_number 34 = .ok (.getfield 18, 3) := by decide +kernel
theorem dX8_number_37 : decode cX8_number 37 = .ok (.if_icmp .ge 25, 3) := by decide +kernel
theorem dX8_number_40 : decode cX8_number 40 = .ok (.iload_n 3, 1) := by decide +kernel
theorem dX8_number_41 : decode cX8_number 41 = .ok (.bipush 10, 2) := by decide +kernel
theorem dX8_number_43 : decode cX8_number 43 = .ok (.imul, 1) := by decide +kernel
theorem dX8_number_44 : decode cX8_number 44 = .ok (.aload_n 0, 1) := by decide +kernel
theorem dX8_number_45 : decode cX8_number 45 = .ok (.getfield 28, 3) := by decide +kernel
theorem dX8_number_48 : decode cX8_number 48 = .ok (.iload 4, 2) := by decide +kernel
theorem dX8_number_50 : decode cX8_number 50 = .ok (.iaload, 1) := by decide +kernel
theorem dX8_number_51 : decode cX8_number 51 = .ok (.iadd, 1) := by decide +kernel
theorem dX8_number_52 : decode cX8_number 52 = .ok (.bipush 48, 2) := by decide +kernel
theorem dX8_number_54 : decode cX8_number 54 = .ok (.isub, 1) := by decide +kernel
theorem dX8_number_55 : decode cX8_number 55 = .ok (.istore_n 3, 1) := by decide +kernel
theorem dX8_number_56 : decode cX8_number 56 = .ok (.iinc 4 1, 3) := by decide +kernel
theorem dX8_number_59 : decode cX8_number 59 = .ok (.goto (-28), 3) := by decide +kernel
theorem dX8_number_62 : decode cX8_number 62 = .ok (.iload_n 3, 1) := by decide +kernel
theorem dX8_number_63 : decode cX8_number 63 = .ok (.iload_n 1, 1) := by decide +kernel
theorem dX8_number_64 : decode cX8_number 64 = .ok (.if_icmp .lt 12, 3) := by decide +kernel
theorem dX8_number_67 : decode cX8_number 67 = .ok (.iload_n 3, 1) := by decide +kernel
theorem dX8_number_68 : decode cX8_number 68 = .ok (.iload_n 2, 1) := by decide +kernel
theorem dX8_number_69 : decode cX8_number 69 = .ok (.if_icmp .gt 7, 3) := by decide +kernel
theorem dX8_number_72 : decode cX8_number 72 = .ok (.iload_n 3, 1) := by decide +kernel
theorem dX8_number_73 : decode cX8_number 73 = .ok (.goto 4, 3) := by decide +kernel
theorem dX8_number_76 : decode cX8_number 76 = .ok (.iconst (-1), 1) := by decide +kernel
theorem dX8_number_77 : decode cX8_number 77 = .ok (.ireturn, 1) := by decide +kernel
theorem dX8_letter_0 : decode cX8_letter 0 = .ok (.aload_n 0, 1) := by decide +kernel
theorem dX8_letter_1 : decode cX8_letter 1 = .ok (.getfield 21, 3) := by decide +kernel
theorem dX8_letter_4 : decode cX8_letter 4 = .ok (.iconst 1, 1) := by decide +kernel
theorem dX8_letter_5 : decode cX8_letter 5 = .ok (.if_icmp .ne 34, 3) := by decide +kernel
theorem dX8_letter_8 : decode cX8_letter 8 = .ok (.aload_n 0, 1) := by decide +kernel
theorem dX8_letter_9 : decode cX8_letter 9 = .ok (.getfield 18, 3) := by decide +kernel
theorem dX8_letter_12 : decode cX8_letter 12 = .ok (.aload_n 0, 1) := by decide +kernel
theorem dX8_letter_13 : decode cX8_letter 13 = .ok (.getfield 15, 3) := by decide +kernel
theorem dX8_letter_16 : decode cX8_letter 16 = .ok (.isub, 1) := by decide +kernel
theorem dX8_letter_17 : decode cX8_letter 17 = .ok (.iconst 1, 1) := by decide +kernel
theorem dX8_letter_18 : decode cX8_letter 18 = .ok (.if_icmp .ne 21, 3) := by decide +kernel
theorem dX8_letter_21 : decode cX8_letter 21 = .ok (.aload_n 0, 1) := by decide +kernel
theorem dX8_letter_22 : decode cX8_letter 22 = .ok (.getfield 28, 3) := by decide +kernel
theorem dX8_letter_25 : decode cX8_letter 25 = .ok (.aload_n 0, 1) := by decide +kernel
theorem dX8_letter_26 : decode cX8_letter 26 = .ok (.getfield 15, 3) := by decide +kernel
theorem dX8_letter_29 : decode cX8_letter 29 = .ok (.iaload, 1) := by decide +kernel
theorem dX8_letter_30 : decode cX8_letter 30 = .ok (.bipush 103, 2) := by decide +kernel
theorem dX8_letter_32 : decode cX8_letter 32 = .ok (.if_icmp .ge 7, 3) := by decide +kernel
theorem dX8_letter_35 : decode cX8_letter 35 = .ok (.iconst 1, 1) := by decide +kernel
theorem dX8_letter_36 : decode cX8_letter 36 = .ok (.goto 4, 3) := by decide +kernel
theorem dX8_letter_39 : decode cX8_letter 39 = .ok (.iconst 0, 1) := by decide +kernel
theorem dX8_letter_40 : decode cX8_letter 40 = .ok (.istore_n 1, 1) := by decide +kernel
theorem dX8_letter_41 : decode cX8_letter 41 = .ok (.iload_n 1, 1) := by decide +kernel
theorem dX8_letter_42 : decode cX8_letter 42 = .ok (.ifCond .eq 18, 3) := by decide +kernel
theorem dX8_letter_45 : decode cX8_letter 45 = .ok (.aload_n 0, 1) := by decide +kernel
theorem dX8_letter_46 : decode cX8_letter 46 = .ok (.getfield 28, 3) := by decide +kernel
theorem dX8_letter_49 : decode cX8_letter 49 = .ok (.aload_n 0, 1) := by decide +kernel
theorem dX8_letter_50 : decode cX8_letter 50 = .ok (.getfield 15, 3) := by decide +kernel
theorem dX8_letter_53 : decode cX8_letter 53 = .ok (.iaload, 1) := by decide +kernel
theorem dX8_letter_54 : decode cX8_letter 54 = .ok (.bipush 97, 2) := by decide +kernel
theorem dX8_letter_56 : decode cX8_letter 56 = .ok (.isub, 1) := by decide +kernel
theorem dX8_letter_57 : decode cX8_letter 57 = .ok (.goto 4, 3) := by decide +kernel
theorem dX8_letter_60 : decode cX8_letter 60 = .ok (.iconst (-1), 1) := by decide +kernel
theorem dX8_letter_61 : decode cX8_letter 61 = .ok (.ireturn, 1) := by decide +kernel
theorem dX8_deeds_0 : decode cX8_deeds 0 = .ok (.aload_n 0, 1) := by decide +kernel
theorem dX8_deeds_1 : decode cX8_deeds 1 = .ok (.getfield 21, 3) := by decide +kernel
theorem dX8_deeds_4 : decode cX8_deeds 4 = .ok (.iconst 1, 1) := by decide +kernel
theorem dX8_deeds_5 : decode cX8_deeds 5 = .ok (.if_icmp .eq 5, 3) := by decide +kernel
theorem dX8_deeds_8 : decode cX8_deeds 8 = .ok (.iconst (-1), 1) := by decide +kernel
theorem dX8_deeds_9 : decode cX8_deeds 9 = .ok (.ireturn, 1) := by decide +kernel
theorem dX8_deeds_10 : decode cX8_deeds 10 = .ok (.iconst 0, 1) := by decide +kernel
theorem dX8_deeds_11 : decode cX8_deeds 11 = .ok (.istore_n 1, 1) := by decide +kernel
theorem dX8_deeds_12 : decode cX8_deeds 12 = .ok (.aload_n 0, 1) := by decide +kernel
theorem dX8_deeds_13 : decode cX8_deeds 13 = .ok (.getfield 15, 3) := by decide +kernel
theorem dX8_deeds_16 : decode cX8_deeds 16 = .ok (.istore_n 2, 1) := by decide +kernel
theorem dX8_deeds_17 : decode cX8_deeds 17 = .ok (.iload_n 2, 1) := by decide +kernel
theorem dX8_deeds_18 : decode cX8_deeds 18 = .ok (.aload_n 0, 1) := by decide +kernel
theorem dX8_deeds_19 : decode cX8_deeds 19 = .ok (.getfield 18, 3) := by decide +kernel
theorem dX8_deeds_22 : decode cX8_deeds 22 = .ok (.if_icmp .ge 42, 3) := by decide +kernel
theorem dX8_deeds_25 : decode cX8_deeds 25 = .ok (.aload_n 0, 1) := by decide +kernel
theorem dX8_deeds_26 : decode cX8_deeds 26 = .ok (.getfield 28, 3) := by decide +kernel
theorem dX8_deeds_29 : decode cX8_deeds 29 = .ok (.iload_n 2, 1) := by decide +kernel
theorem dX8_deeds_30 : decode cX8_deeds 30 = .ok (.iaload, 1) := by decide +kernel
theorem dX8_deeds_31 : decode cX8_deeds 31 = .ok (.bipush 97, 2) := by decide +kernel
theorem dX8_deeds_33 : decode cX8_deeds 33 = .ok (.isub, 1) := by decide +kernel
theorem dX8_deeds_34 : decode cX8_deeds 34 = .ok (.istore_n 3, 1) := by decide +kernel
theorem dX8_deeds_35 : decode cX8_deeds 35 = .ok (.iload_n 3, 1) := by decide +kernel
theorem dX8_deeds_36 : decode cX8_deeds 36 = .ok (.bipush 6, 2) := by decide +kernel
theorem dX8_deeds_38 : decode cX8_deeds 38 = .ok (.if_icmp .ge 12, 3) := by decide +kernel
theorem dX8_deeds_41 : decode cX8_deeds 41 = .ok (.iload_n 1, 1) := by decide +kernel
theorem dX8_deeds_42 : decode cX8_deeds 42 = .ok (.iload_n 3, 1) := by decide +kernel
theorem dX8_deeds_43 : decode cX8_deeds 43 = .ok (.ishr, 1) := by decide +kernel
theorem dX8_deeds_44 : decode cX8_deeds 44 = .ok (.iconst 1, 1) := by decide +kernel
theorem dX8_deeds_45 : decode cX8_deeds 45 = .ok (.iand, 1) := by decide +kernel
theorem dX8_deeds_46 : decode cX8_deeds 46 = .ok (.iconst 1, 1) := by decide +kernel
theorem dX8_deeds_47 : decode cX8_deeds 47 = .ok (.if_icmp .ne 5, 3) := by decide +kernel
theorem dX8_deeds_50 : decode cX8_deeds 50 = .ok (.iconst (-1), 1) := by decide +kernel
theorem dX8_deeds_51 : decode cX8_deeds 51 = .ok (.ireturn, 1) := by decide +kernel
theorem dX8_deeds_52 : decode cX8_deeds 52 = .ok (.iload_n 1, 1) := by decide +kernel
theorem dX8_deeds_53 : decode cX8_deeds 53 = .ok (.iconst 1, 1) := by decide +kernel
theorem dX8_deeds_54 : decode cX8_deeds 54 = .ok (.iload_n 3, 1) := by decide +kernel
theorem dX8_deeds_55 : decode cX8_deeds 55 = .ok (.ishl, 1) := by decide +kernel
theorem dX8_deeds_56 : decode cX8_deeds 56 = .ok (.ior, 1) := by decide +kernel
theorem dX8_deeds_57 : decode cX8_deeds 57 = .ok (.istore_n 1, 1) := by decide +kernel
theorem dX8_deeds_58 : decode cX8_deeds 58 = .ok (.iinc 2 1, 3) := by decide +kernel
theorem dX8_deeds_61 : decode cX8_deeds 61 = .ok (.goto (-44), 3) := by decide +kernel
theorem dX8_deeds_64 : decode cX8_deeds 64 = .ok (.iload_n 1, 1) := by decide +kernel
theorem dX8_deeds_65 : decode cX8_deeds 65 = .ok (.ireturn, 1) := by decide +kernel
theorem dX9_init_0 : decode cX9_init 0 = .ok (.aload_n 0, 1) := by decide +kernel
theorem dX9_init_1 : decode cX9_init 1 = .ok (.invokespecial 3, 3) := by decide +kernel
theorem dX9_init_4 : decode cX9_init 4 = .ok (.aload_n 0, 1) := by decide +kernel
theorem dX9_init_5 : decode cX9_init 5 = .ok (.iconst 0, 1) := by decide +kernel
theorem dX9_init_6 : decode cX9_init 6 = .ok (.putfield 9, 3) := by decide +kernel
theorem dX9_init_9 : decode cX9_init 9 = .ok (.aload_n 0, 1) := by decide +kernel
theorem dX9_init_10 : decode cX9_init 10 = .ok (.bipush 10, 2) := by decide +kernel
theorem dX9_init_12 : decode cX9_init 12 = .ok (.newarray .int, 2) := by decide +kernel
theorem dX9_init_14 : decode cX9_init 14 = .ok (.putfield 15, 3) := by decide +kernel
theorem dX9_init_17 : decode cX9_init 17 = .ok (.aload_n 0, 1) := by decide +kernel
theorem dX9_init_18 : decode cX9_init 18 = .ok (.iconst 1, 1) := by decide +kernel
theorem dX9_init_19 : decode cX9_init 19 = .ok (.putfield 19, 3) := by decide +kernel
theorem dX9_init_22 : decode cX9_init 22 = .ok (.aload_n 0, 1) := by decide +kernel
theorem dX9_init_23 : decode cX9_init 23 = .ok (.iconst 0, 1) := by decide +kernel
theorem dX9_init_24 : decode cX9_init 24 = .ok (.putfield 22, 3) := by decide +kernel
theorem dX9_init_27 : decode cX9_init 27 = .ok (.aload_n 0, 1) := by decide +kernel
theorem dX9_init_28 : decode cX9_init 28 = .ok (.bipush 61, 2) := by decide +kernel
theorem dX9_init_30 : decode cX9_init 30 = .ok (.newarray .int, 2) := by decide +kernel
theorem dX9_init_32 : decode cX9_init 32 = .ok (.putfield 25, 3) := by decide +kernel
theorem dX9_init_35 : decode cX9_init 35 = .ok (.aload_n 0, 1) := by decide +kernel
theorem dX9_init_36 : decode cX9_init 36 = .ok (.bipush 61, 2) := by decide +kernel
theorem dX9_init_38 : decode cX9_init 38 = .ok (.newarray .int, 2) := by decide +kernel
theorem dX9_init_40 : decode cX9_init 40 = .ok (.putfield 28, 3) := by decide +kernel
theorem dX9_init_43 : decode cX9_init 43 = .ok (.aload_n 0, 1) := by decide +kernel
theorem dX9_init_44 : decode cX9_init 44 = .ok (.aload_n 1, 1) := by decide +kernel
theorem dX9_init_45 : decode cX9_init 45 = .ok (.putfield 31, 3) := by decide +kernel
theorem dX9_init_48 : decode cX9_init 48 = .ok (.aload_n 0, 1) := by decide +kernel
theorem dX9_init_49 : decode cX9_init 49 = .ok (.aload_n 2, 1) := by decide +kernel
theorem dX9_init_50 : decode cX9_init 50 = .ok (.putfield 35, 3) := by decide +kernel
theorem dX9_init_53 : decode cX9_init 53 = .ok (.return_, 1) := by decide +kernel
theorem dX9_oddsOf_0 : decode cX9_oddsOf 0 = .ok (.aload_n 0, 1) := by decide +kernel
theorem dX9_oddsOf_1 : decode cX9_oddsOf 1 = .ok (.iload_n 1, 1) := by decide +kernel
theorem dX9_oddsOf_2 : decode cX9_oddsOf 2 = .ok (.invokevirtual 39, 3) := by decide +kernel
theorem dX9_oddsOf_5 : decode cX9_oddsOf 5 = .ok (.aload_n 0, 1) := by decide +kernel
theorem dX9_oddsOf_6 : decode cX9_oddsOf 6 = .ok (.getfield 19, 3) := by decide +kernel
theorem dX9_oddsOf_9 : decode cX9_oddsOf 9 = .ok (.ifCond .ne 7, 3) := by decide +kernel
theorem dX9_oddsOf_12 : decode cX9_oddsOf 12 = .ok (.iconst 0, 1) := by decide +kernel
theorem dX9_oddsOf_13 : decode cX9_oddsOf 13 = .ok (.goto 16, 3) := by decide +kernel
theorem dX9_oddsOf_16 : decode cX9_oddsOf 16 = .ok (.aload_n 0, 1) := by decide +kernel
theorem dX9_oddsOf_17 : decode cX9_oddsOf 17 = .ok (.getfield 9, 3) := by decide +kernel
theorem dX9_oddsOf_20 : decode cX9_oddsOf 20 = .ok (.sipush 10000, 3) := by decide +kernel
theorem dX9_oddsOf_23 : decode cX9_oddsOf 23 = .ok (.imul, 1) := by decide +kernel
theorem dX9_oddsOf_24 : decode cX9_oddsOf 24 = .ok (.aload_n 0, 1) := by decide +kernel
theorem dX9_oddsOf_25 : decode cX9_oddsOf 25 = .ok (.getfield 19, 3) := by decide +kernel
theorem dX9_oddsOf_28 : decode cX9_oddsOf 28 = .ok (.idiv, 1) := by decide +kernel
theorem dX9_oddsOf_29 : decode cX9_oddsOf 29 = .ok (.ireturn, 1) := by decide +kernel
theorem dX9_countOf_0 : decode cX9_countOf 0 = .ok (.aload_n 0, 1) := by decide +kernel
theorem dX9_countOf_1 : decode cX9_countOf 1 = .ok (.getfield 35, 3) := by decide +kernel
theorem dX9_countOf_4 : decode cX9_countOf 4 = .ok (.iload_n 1, 1) := by decide +kernel
theorem dX9_countOf_5 : decode cX9_countOf 5 = .ok (.invokevirtual 43, 3) := by decide +kernel
theorem dX9_countOf_8 : decode cX9_countOf 8 = .ok (.aload_n 0, 1) := by decide +kernel
theorem dX9_countOf_9 : decode cX9_countOf 9 = .ok (.iconst 1, 1) := by decide +kernel
theorem dX9_countOf_10 : decode cX9_countOf 10 = .ok (.putfield 19, 3) := by decide +kernel
theorem dX9_countOf_13 : decode cX9_countOf 13 = .ok (.iconst 0, 1) := by decide +kernel
theorem dX9_countOf_14 : decode cX9_countOf 14 = .ok (.istore_n 2, 1) := by decide +kernel
theorem dX9_countOf_15 : decode cX9_countOf 15 = .ok (.iload_n 2, 1) := by decide +kernel
theorem dX9_countOf_16 : decode cX9_countOf 16 = .ok (.bipush 10, 2) := by decide +kernel
theorem dX9_countOf_18 : decode cX9_countOf 18 = .ok (.if_icmp .ge 35, 3) := by decide +kernel
theorem dX9_countOf_21 : decode cX9_countOf 21 = .ok (.aload_n 0, 1) := by decide +kernel
theorem dX9_countOf_22 : decode cX9_countOf 22 = .ok (.dup, 1) := by decide +kernel
theorem dX9_countOf_23 : decode cX9_countOf 23 = .ok (.getfield 19, 3) := by decide +kernel
theorem dX9_countOf_26 : decode cX9_countOf 26 = .ok (.aload_n 0, 1) := by decide +kernel
theorem dX9_countOf_27 : decode cX9_countOf 27 = .ok (.getfield 35, 3) := by decide +kernel
theorem dX9_countOf_30 : decode cX9_countOf 30 = .ok (.getfield 48, 3) := by decide +kernel
theorem dX9_countOf_33 : decode cX9_countOf 33 = .ok (.iload_n 2, 1) := by decide +kernel
theorem dX9_countOf_34 : decode cX9_countOf 34 = .ok (.iaload, 1) := by decide +kernel
theorem dX9_countOf_35 : decode cX9_countOf 35 = .ok (.ifCond .lt 7, 3) := by decide +kernel
theorem dX9_countOf_38 : decode cX9_countOf 38 = .ok (.iconst 3, 1) := by decide +kernel
theorem dX9_countOf_39 : decode cX9_countOf 39 = .ok (.goto 4, 3) := by decide +kernel
theorem dX9_countOf_42 : decode cX9_countOf 42 = .ok (.iconst 1, 1) := by decide +kernel
theorem dX9_countOf_43 : decode cX9_countOf 43 = .ok (.imul, 1) := by decide +kernel
theorem dX9_countOf_44 : decode cX9_countOf 44 = .ok (.putfield 19, 3) := by decide +kernel
theorem dX9_countOf_47 : decode cX9_countOf 47 = .ok (.iinc 2 1, 3) := by decide +kernel
theorem dX9_countOf_50 : decode cX9_countOf 50 = .ok (.goto (-35), 3) := by decide +kernel
theorem dX9_countOf_53 : decode cX9_countOf 53 = .ok (.aload_n 0, 1) := by decide +kernel
theorem dX9_countOf_54 : decode cX9_countOf 54 = .ok (.iconst 0, 1) := by decide +kernel
theorem dX9_countOf_55 : decode cX9_countOf 55 = .ok (.putfield 9, 3) := by decide +kernel
theorem dX9_countOf_58 : decode cX9_countOf 58 = .ok (.aload_n 0, 1) := by decide +kernel
theorem dX9_countOf_59 : decode cX9_countOf 59 = .ok (.getfield 25, 3) := by decide +kernel
theorem dX9_countOf_62 : decode cX9_countOf 62 = .ok (.iconst 0, 1) := by decide +kernel
theorem dX9_countOf_63 : decode cX9_countOf 63 = .ok (.iconst 1, 1) := by decide +kernel
theorem dX9_countOf_64 : decode cX9_countOf 64 = .ok (.iastore, 1) := by decide +kernel
theorem dX9_countOf_65 : decode cX9_countOf 65 = .ok (.aload_n 0, 1) := by decide +kernel
theorem dX9_countOf_66 : decode cX9_countOf 66 = .ok (.iconst 0, 1) := by decide +kernel
theorem dX9_countOf_67 : decode cX9_countOf 67 = .ok (.putfield 22, 3) := by decide +kernel
theorem dX9_countOf_70 : decode cX9_countOf 70 = .ok (.aload_n 0, 1) := by decide +kernel
theorem dX9_countOf_71 : decode cX9_countOf 71 = .ok (.getfield 19, 3) := by decide +kernel
theorem dX9_countOf_74 : decode cX9_countOf 74 = .ok (.istore_n 2, 1) := by decide +kernel
theorem dX9_countOf_75 : decode cX9_countOf 75 = .ok (.iconst 0, 1) := by decide +kernel
theorem dX9_countOf_76 : decode cX9_countOf 76 = .ok (.istore_n 3, 1) := by decide +kernel
theorem dX9_countOf_77 : decode cX9_countOf 77 = .ok (.iload_n 3, 1) := by decide +kernel
theorem dX9_countOf_78 : decode cX9_countOf 78 = .ok (.bipush 10, 2) := by decide +kernel
theorem dX9_countOf_80 : decode cX9_countOf 80 = .ok (.if_icmp .ge 67, 3) := by decide +kernel
theorem dX9_countOf_83 : decode cX9_countOf 83 = .ok (.aload_n 0, 1) := by decide +kernel
theorem dX9_countOf_84 : decode cX9_countOf 84 = .ok (.getfield 15, 3) := by decide +kernel
theorem dX9_countOf_87 : decode cX9_countOf 87 = .ok (.iload_n 3, 1) := by decide +kernel
theorem dX9_countOf_88 : decode cX9_countOf 88 = .ok (.iconst 0, 1) := by decide +kernel
theorem dX9_countOf_89 : decode cX9_countOf 89 = .ok (.iastore, 1) := by decide +kernel
theorem dX9_countOf_90 : decode cX9_countOf 90 = .ok (.aload_n 0, 1) := by decide +kernel
theorem dX9_countOf_91 : decode cX9_countOf 91 = .ok (.getfield 35, 3) := by decide +kernel
theorem dX9_countOf_94 : decode cX9_countOf 94 = .ok (.getfield 48, 3) := by decide +kernel
theorem dX9_countOf_97 : decode cX9_countOf 97 = .ok (.iload_n 3, 1) := by decide +kernel
theorem dX9_countOf_98 : decode cX9_countOf 98 = .ok (.iaload, 1) := by decide +kernel
theorem dX9_countOf_99 : decode cX9_countOf 99 = .ok (.ifCond .ge 10, 3) := by decide +kernel
theorem dX9_countOf_102 : decode cX9_countOf 102 = .ok (.aload_n 0, 1) := by decide +kernel
theorem dX9_countOf_103 : decode cX9_countOf 103 = .ok (.invokevirtual 51, 3) := by decide +kernel
theorem dX9_countOf_106 : decode cX9_countOf 106 = .ok (.goto 35, 3) := by decide +kernel
theorem dX9_countOf_109 : decode cX9_countOf 109 = .ok (.iload_n 2, 1) := by decide +kernel
theorem dX9_countOf_110 : decode cX9_countOf 110 = .ok (.iconst 3, 1) := by decide +kernel
theorem dX9_countOf_111 : decode cX9_countOf 111 = .ok (.idiv, 1) := by decide +kernel
theorem dX9_countOf_112 : decode cX9_countOf 112 = .ok (.istore_n 2, 1) := by decide +kernel
theorem dX9_countOf_113 : decode cX9_countOf 113 = .ok (.aload_n 0, 1) := by decide +kernel
theorem dX9_countOf_114 : decode cX9_countOf 114 = .ok (.getfield 15, 3) := by decide +kernel
theorem dX9_countOf_117 : decode cX9_countOf 117 = .ok (.iload_n 3, 1) := by decide +kernel
theorem dX9_countOf_118 : decode cX9_countOf 118 = .ok (.aload_n 0, 1) := by decide +kernel
theorem dX9_countOf_119 : decode cX9_countOf 119 = .ok (.iload_n 3, 1) := by decide +kernel
theorem dX9_countOf_120 : decode cX9_countOf 120 = .ok (.invokevirtual 54, 3) := by decide +kernel
theorem dX9_countOf_123 : decode cX9_countOf 123 = .ok (.iload_n 2, 1) := by decide +kernel
theorem dX9_countOf_124 : decode cX9_countOf 124 = .ok (.imul, 1) := by decide +kernel
theorem dX9_countOf_125 : decode cX9_countOf 125 = .ok (.iastore, 1) := by decide +kernel
theorem dX9_countOf_126 : decode cX9_countOf 126 = .ok (.aload_n 0, 1) := by decide +kernel
theorem dX9_countOf_127 : decode cX9_countOf 127 = .ok (.dup, 1) := by decide +kernel
theorem dX9_countOf_128 : decode cX9_countOf 128 = .ok (.getfield 9, 3) := by decide +kernel
theorem dX9_countOf_131 : decode cX9_countOf 131 = .ok (.aload_n 0, 1) := by decide +kernel
theorem dX9_countOf_132 : decode cX9_countOf 132 = .ok (.getfield 15, 3) := by decide +kernel
theorem dX9_countOf_135 : decode cX9_countOf 135 = .ok (.iload_n 3, 1) := by decide +kernel
theorem dX9_countOf_136 : decode cX9_countOf 136 = .ok (.iaload, 1) := by decide +kernel
theorem dX9_countOf_137 : decode cX9_countOf 137 = .ok (.iadd, 1) := by decide +kernel
theorem dX9_countOf_138 : decode cX9_countOf 138 = .ok (.putfield 9, 3) := by decide +kernel
theorem dX9_countOf_141 : decode cX9_countOf 141 = .ok (.iinc 3 1, 3) := by decide +kernel
theorem dX9_countOf_144 : decode cX9_countOf 144 = .ok (.goto (-67), 3) := by decide +kernel
theorem dX9_countOf_147 : decode cX9_countOf 147 = .ok (.aload_n 0, 1) := by decide +kernel
theorem dX9_countOf_148 : decode cX9_countOf 148 = .ok (.getfield 25, 3) := by decide +kernel
theorem dX9_countOf_151 : decode cX9_countOf 151 = .ok (.iconst 0, 1) := by decide +kernel
theorem dX9_countOf_152 : decode cX9_countOf 152 = .ok (.invokestatic 58, 3) := by decide +kernel
theorem dX9_countOf_155 : decode cX9_countOf 155 = .ok (.return_, 1) := by decide +kernel
theorem dX9_ease_0 : decode cX9_ease 0 = .ok (.aload_n 0, 1) := by decide +kernel
theorem dX9_ease_1 : decode cX9_ease 1 = .ok (.getfield 31, 3) := by decide +kernel
theorem dX9_ease_4 : decode cX9_ease 4 = .ok (.getfield 64, 3) := by decide +kernel
theorem dX9_ease_7 : decode cX9_ease 7 = .ok (.istore_n 1, 1) := by decide +kernel
theorem dX9_ease_8 : decode cX9_ease 8 = .ok (.iconst 1, 1) := by decide +kernel
theorem dX9_ease_9 : decode cX9_ease 9 = .ok (.istore_n 2, 1) := by decide +kernel
theorem dX9_ease_10 : decode cX9_ease 10 = .ok (.iload_n 2, 1) := by decide +kernel
theorem dX9_ease_11 : decode cX9_ease 11 = .ok (.aload_n 0, 1) := by decide +kernel
theorem dX9_ease_12 : decode cX9_ease 12 = .ok (.getfield 22, 3) := by decide +kernel
theorem dX9_ease_15 : decode cX9_ease 15 = .ok (.if_icmp .gt 43, 3) := by decide +kernel
theorem dX9_ease_18 : decode cX9_ease 18 = .ok (.iload_n 1, 1) := by decide +kernel
theorem dX9_ease_19 : decode cX9_ease 19 = .ok (.ifCond .le 39, 3) := by decide +kernel
theorem dX9_ease_22 : decode cX9_ease 22 = .ok (.aload_n 0, 1) := by decide +kernel
theorem dX9_ease_23 : decode cX9_ease 23 = .ok (.getfield 25, 3) := by decide +kernel
theorem dX9_ease_26 : decode cX9_ease 26 = .ok (.iload_n 2, 1) := by decide +kernel
theorem dX9_ease_27 : decode cX9_ease 27 = .ok (.iaload, 1) := by decide +kernel
theorem dX9_ease_28 : decode cX9_ease 28 = .ok (.istore_n 3, 1) := by decide +kernel
theorem dX9_ease_29 : decode cX9_ease 29 = .ok (.aload_n 0, 1) := by decide +kernel
theorem dX9_ease_30 : decode cX9_ease 30 = .ok (.getfield 25, 3) := by decide +kernel
theorem dX9_ease_33 : decode cX9_ease 33 = .ok (.iload_n 2, 1) := by decide +kernel
theorem dX9_ease_34 : decode cX9_ease 34 = .ok (.iconst 0, 1) := by decide +kernel
theorem dX9_ease_35 : decode cX9_ease 35 = .ok (.iastore, 1) := by decide +kernel
theorem dX9_ease_36 : decode cX9_ease 36 = .ok (.aload_n 0, 1) := by decide +kernel
theorem dX9_ease_37 : decode cX9_ease 37 = .ok (.getfield 25, 3) := by decide +kernel
theorem dX9_ease_40 : decode cX9_ease 40 = .ok (.iconst 0, 1) := by decide +kernel
theorem dX9_ease_41 : decode cX9_ease 41 = .ok (.iload_n 2, 1) := by decide +kernel
theorem dX9_ease_42 : decode cX9_ease 42 = .ok (.iload_n 1, 1) := by decide +kernel
theorem dX9_ease_43 : decode cX9_ease 43 = .ok (.isub, 1) := by decide +kernel
theorem dX9_ease_44 : decode cX9_ease 44 = .ok (.invokestatic 69, 3) := by decide +kernel
theorem dX9_ease_47 : decode cX9_ease 47 = .ok (.dup2, 1) := by decide +kernel
theorem dX9_ease_48 : decode cX9_ease 48 = .ok (.iaload, 1) := by decide +kernel
theorem dX9_ease_49 : decode cX9_ease 49 = .ok (.iload_n 3, 1) := by decide +kernel
theorem dX9_ease_50 : decode cX9_ease 50 = .ok (.iadd, 1) := by decide +kernel
theorem dX9_ease_51 : decode cX9_ease 51 = .ok (.iastore, 1) := by decide +kernel
theorem dX9_ease_52 : decode cX9_ease 52 = .ok (.iinc 2 1, 3) := by decide +kernel
theorem dX9_ease_55 : decode cX9_ease 55 = .ok (.goto (-45), 3) := by decide +kernel
theorem dX9_ease_58 : decode cX9_ease 58 = .ok (.aload_n 0, 1) := by decide +kernel
theorem dX9_ease_59 : decode cX9_ease 59 = .ok (.iconst 0, 1) := by decide +kernel
theorem dX9_ease_60 : decode cX9_ease 60 = .ok (.aload_n 0, 1) := by decide +kernel
theorem dX9_ease_61 : decode cX9_ease 61 = .ok (.getfield 22, 3) := by decide +kernel
theorem dX9_ease_64 : decode cX9_ease 64 = .ok (.iload_n 1, 1) := by decide +kernel
theorem dX9_ease_65 : decode cX9_ease 65 = .ok (.isub, 1) := by decide +kernel
theorem dX9_ease_66 : decode cX9_ease 66 = .ok (.invokestatic 69, 3) := by decide +kernel
theorem dX9_ease_69 : decode cX9_ease 69 = .ok (.putfield 22, 3) := by decide +kernel
theorem dX9_ease_72 : decode cX9_ease 72 = .ok (.return_, 1) := by decide +kernel
theorem dX9_spread_0 : decode cX9_spread 0 = .ok (.aload_n 0, 1) := by decide +kernel
theorem dX9_spread_1 : decode cX9_spread 1 = .ok (.getfield 35, 3) := by decide +kernel
theorem dX9_spread_4 : decode cX9_spread 4 = .ok (.getfield 75, 3) := by decide +kernel
theorem dX9_spread_7 : decode cX9_spread 7 = .ok (.bipush 60, 2) := by decide +kernel
theorem dX9_spread_9 : decode cX9_spread 9 = .ok (.invokestatic 78, 3) := by decide +kernel
theorem dX9_spread_12 : decode cX9_spread 12 = .ok (.istore_n 2, 1) := by decide +kernel
theorem dX9_spread_13 : decode cX9_spread 13 = .ok (.iconst 0, 1) := by decide +kernel
theorem dX9_spread_14 : decode cX9_spread 14 = .ok (.istore_n 3, 1) := by decide +kernel
theorem dX9_spread_15 : decode cX9_spread 15 = .ok (.iconst 0, 1) := by decide +kernel
theorem dX9_spread_16 : decode cX9_spread 16 = .ok (.istore 4, 2) := by decide +kernel
theorem dX9_spread_18 : decode cX9_spread 18 = .ok (.iconst 0, 1) := by decide +kernel
theorem dX9_spread_19 : decode cX9_spread 19 = .ok (.istore 5, 2) := by decide +kernel
theorem dX9_spread_21 : decode cX9_spread 21 = .ok (.iload 5, 2) := by decide +kernel
theorem dX9_spread_23 : decode cX9_spread 23 = .ok (.aload_n 0, 1) := by decide +kernel
theorem dX9_spread_24 : decode cX9_spread 24 = .ok (.getfield 22, 3) := by decide +kernel
theorem dX9_spread_27 : decode cX9_spread 27 = .ok (.if_icmp .gt 118, 3) := by decide +kernel
theorem dX9_spread_30 : decode cX9_spread 30 = .ok (.aload_n 0, 1) := by decide +kernel
theorem dX9_spread_31 : decode cX9_spread 31 = .ok (.getfield 25, 3) := by decide +kernel
theorem dX9_spread_34 : decode cX9_spread 34 = .ok (.iload 5, 2) := by decide +kernel
theorem dX9_spread_36 : decode cX9_spread 36 = .ok (.iaload, 1) := by decide +kernel
theorem dX9_spread_37 : decode cX9_spread 37 = .ok (.istore 6, 2) := by decide +kernel
theorem dX9_spread_39 : decode cX9_spread 39 = .ok (.aload_n 0, 1) := by decide +kernel
theorem dX9_spread_40 : decode cX9_spread 40 = .ok (.getfield 25, 3) := by decide +kernel
theorem dX9_spread_43 : decode cX9_spread 43 = .ok (.iload 5, 2) := by decide +kernel
theorem dX9_spread_45 : decode cX9_spread 45 = .ok (.iconst 0, 1) := by decide +kernel
theorem dX9_spread_46 : decode cX9_spread 46 = .ok (.iastore, 1) := by decide +kernel
theorem dX9_spread_47 : decode cX9_spread 47 = .ok (.iload 6, 2) := by decide +kernel
theorem dX9_spread_49 : decode cX9_spread 49 = .ok (.ifCond .ne 6, 3) := by decide +kernel
theorem dX9_spread_52 : decode cX9_spread 52 = .ok (.goto 87, 3) := by decide +kernel
theorem dX9_spread_55 : decode cX9_spread 55 = .ok (.iload 5, 2) := by decide +kernel
theorem dX9_spread_57 : decode cX9_spread 57 = .ok (.aload_n 0, 1) := by decide +kernel
theorem dX9_spread_58 : decode cX9_spread 58 = .ok (.getfield 31, 3) := by decide +kernel
theorem dX9_spread_61 : decode cX9_spread 61 = .ok (.getfield 81, 3) := by decide +kernel
theorem dX9_spread_64 : decode cX9_spread 64 = .ok (.aload_n 0, 1) := by decide +kernel
theorem dX9_spread_65 : decode cX9_spread 65 = .ok (.getfield 35, 3) := by decide +kernel
theorem dX9_spread_68 : decode cX9_spread 68 = .ok (.iload_n 1, 1) := by decide +kernel
theorem dX9_spread_69 : decode cX9_spread 69 = .ok (.iload 5, 2) := by decide +kernel
theorem dX9_spread_71 : decode cX9_spread 71 = .ok (.invokevirtual 85, 3) := by decide +kernel
theorem dX9_spread_74 : decode cX9_spread 74 = .ok (.invokevirtual 89, 3) := by decide +kernel
theorem dX9_spread_77 : decode cX9_spread 77 = .ok (.iadd, 1) := by decide +kernel
theorem dX9_spread_78 : decode cX9_spread 78 = .ok (.istore 7, 2) := by decide +kernel
theorem dX9_spread_80 : decode cX9_spread 80 = .ok (.iconst 0, 1) := by decide +kernel
theorem dX9_spread_81 : decode cX9_spread 81 = .ok (.istore 8, 2) := by decide +kernel
theorem dX9_spread_83 : decode cX9_spread 83 = .ok (.iload 8, 2) := by decide +kernel
theorem dX9_spread_85 : decode cX9_spread 85 = .ok (.iconst 3, 1) := by decide +kernel
theorem dX9_spread_86 : decode cX9_spread 86 = .ok (.if_icmp .ge 53, 3) := by decide +kernel
theorem dX9_spread_89 : decode cX9_spread 89 = .ok (.iload 7, 2) := by decide +kernel
theorem dX9_spread_91 : decode cX9_spread 91 = .ok (.iload 8, 2) := by decide +kernel
theorem dX9_spread_93 : decode cX9_spread 93 = .ok (.iadd, 1) := by decide +kernel
theorem dX9_spread_94 : decode cX9_spread 94 = .ok (.iload_n 2, 1) := by decide +kernel
theorem dX9_spread_95 : decode cX9_spread 95 = .ok (.if_icmp .le 11, 3) := by decide +kernel
theorem dX9_spread_98 : decode cX9_spread 98 = .ok (.iload_n 3, 1) := by decide +kernel
theorem dX9_spread_99 : decode cX9_spread 99 = .ok (.iload 6, 2) := by decide +kernel
theorem dX9_spread_101 : decode cX9_spread 101 = .ok (.iadd, 1) := by decide +kernel
theorem dX9_spread_102 : decode cX9_spread 102 = .ok (.istore_n 3, 1) := by decide +kernel
theorem dX9_spread_103 : decode cX9_spread 103 = .ok (.goto 30, 3) := by decide +kernel
theorem dX9_spread_106 : decode cX9_spread 106 = .ok (.aload_n 0, 1) := by decide +kernel
theorem dX9_spread_107 : decode cX9_spread 107 = .ok (.getfield 28, 3) := by decide +kernel
theorem dX9_spread_110 : decode cX9_spread 110 = .ok (.iload 7, 2) := by decide +kernel
theorem dX9_spread_112 : decode cX9_spread 112 = .ok (.iload 8, 2) := by decide +kernel
theorem dX9_spread_114 : decode cX9_spread 114 = .ok (.iadd, 1) := by decide +kernel
theorem dX9_spread_115 : decode cX9_spread 115 = .ok (.dup2, 1) := by decide +kernel
theorem dX9_spread_116 : decode cX9_spread 116 = .ok (.iaload, 1) := by decide +kernel
theorem dX9_spread_117 : decode cX9_spread 117 = .ok (.iload 6, 2) := by decide +kernel
theorem dX9_spread_119 : decode cX9_spread 119 = .ok (.iadd, 1) := by decide +kernel
theorem dX9_spread_120 : decode cX9_spread 120 = .ok (.iastore, 1) := by decide +kernel
theorem dX9_spread_121 : decode cX9_spread 121 = .ok (.iload 4, 2) := by decide +kernel
theorem dX9_spread_123 : decode cX9_spread 123 = .ok (.iload 7, 2) := by decide +kernel
theorem dX9_spread_125 : decode cX9_spread 125 = .ok (.iload 8, 2) := by decide +kernel
theorem dX9_spread_127 : decode cX9_spread 127 = .ok (.iadd, 1) := by decide +kernel
theorem dX9_spread_128 : decode cX9_spread 128 = .ok (.invokestatic 69, 3) := by decide +kernel
theorem dX9_spread_131 : decode cX9_spread 131 = .ok (.istore 4, 2) := by decide +kernel
theorem dX9_spread_133 : decode cX9_spread 133 = .ok (.iinc 8 1, 3) := by decide +kernel
theorem dX9_spread_136 : decode cX9_spread 136 = .ok (.goto (-53), 3) := by decide +kernel
theorem dX9_spread_139 : decode cX9_spread 139 = .ok (.iinc 5 1, 3) := by decide +kernel
theorem dX9_spread_142 : decode cX9_spread 142 = .ok (.goto (-121), 3) := by decide +kernel
theorem dX9_spread_145 : decode cX9_spread 145 = .ok (.aload_n 0, 1) := by decide +kernel
theorem dX9_spread_146 : decode cX9_spread 146 = .ok (.iload 4, 2) := by decide +kernel
theorem dX9_spread_148 : decode cX9_spread 148 = .ok (.putfield 22, 3) := by decide +kernel
theorem dX9_spread_151 : decode cX9_spread 151 = .ok (.aload_n 0, 1) := by decide +kernel
theorem dX9_spread_152 : decode cX9_spread 152 = .ok (.getfield 25, 3) := by decide +kernel
theorem dX9_spread_155 : decode cX9_spread 155 = .ok (.astore 5, 2) := by decide +kernel
theorem dX9_spread_157 : decode cX9_spread 157 = .ok (.aload_n 0, 1) := by decide +kernel
theorem dX9_spread_158 : decode cX9_spread 158 = .ok (.aload_n 0, 1) := by decide +kernel
theorem dX9_spread_159 : decode cX9_spread 159 = .ok (.getfield 28, 3) := by decide +kernel
theorem dX9_spread_162 : decode cX9_spread 162 = .ok (.putfield 25, 3) := by decide +kernel
theorem dX9_spread_165 : decode cX9_spread 165 = .ok (.aload_n 0, 1) := by decide +kernel
theorem dX9_spread_166 : decode cX9_spread 166 = .ok (.aload 5, 2) := by decide +kernel
theorem dX9_spread_168 : decode cX9_spread 168 = .ok (.putfield 28, 3) := by decide +kernel
theorem dX9_spread_171 : decode cX9_spread 171 = .ok (.iload_n 3, 1) := by decide +kernel
theorem dX9_spread_172 : decode cX9_spread 172 = .ok (.ireturn, 1) := by decide +kernel
