theorem dX5_isSo_110 : decode cX5_isSo 110 = .ok (.invokevirtual 106, 3) := by decide +kernel
theorem dX5_isSo_113 : decode cX5_isSo 113 = .ok (.ireturn, 1) := by decide +kernel
theorem dX5_ownersOfOne_0 : decode cX5_ownersOfOne 0 = .ok (.iconst 0, 1) := by decide +kernel
theorem dX5_ownersOfOne_1 : decode cX5_ownersOfOne 1 = .ok (.istore 4, 2) := by decide +kernel
theorem dX5_ownersOfOne_3 : decode cX5_ownersOfOne 3 = .ok (.iconst 0, 1) := by decide +kernel
theorem dX5_ownersOfOne_4 : decode cX5_ownersOfOne 4 = .ok (.istore 5, 2) := by decide +kernel
theorem dX5_ownersOfOne_6 : decode cX5_ownersOfOne 6 = .ok (.iload 5, 2) := by decide +kernel
theorem dX5_ownersOfOne_8 : decode cX5_ownersOfOne 8 = .ok (.iload_n 2, 1) := by decide +kernel
theorem dX5_ownersOfOne_9 : decode cX5_ownersOfOne 9 = .ok (.if_icmp .ge 29, 3) := by decide +kernel
theorem dX5_ownersOfOne_12 : decode cX5_ownersOfOne 12 = .ok (.aload_n 0, 1) := by decide +kernel
theorem dX5_ownersOfOne_13 : decode cX5_ownersOfOne 13 = .ok (.aload_n 1, 1) := by decide +kernel
theorem dX5_ownersOfOne_14 : decode cX5_ownersOfOne 14 = .ok (.iload 5, 2) := by decide +kernel
theorem dX5_ownersOfOne_16 : decode cX5_ownersOfOne 16 = .ok (.iload_n 3, 1) := by decide +kernel
theorem dX5_ownersOfOne_17 : decode cX5_ownersOfOne 17 = .ok (.invokevirtual 91, 3) := by decide +kernel
theorem dX5_ownersOfOne_20 : decode cX5_ownersOfOne 20 = .ok (.ifCond .eq 12, 3) := by decide +kernel
theorem dX5_ownersOfOne_23 : decode cX5_ownersOfOne 23 = .ok (.iload 4, 2) := by decide +kernel
theorem dX5_ownersOfOne_25 : decode cX5_ownersOfOne 25 = .ok (.iconst 1, 1) := by decide +kernel
theorem dX5_ownersOfOne_26 : decode cX5_ownersOfOne 26 = .ok (.iload 5, 2) := by decide +kernel
theorem dX5_ownersOfOne_28 : decode cX5_ownersOfOne 28 = .ok (.ishl, 1) := by decide +kernel
theorem dX5_ownersOfOne_29 : decode cX5_ownersOfOne 29 = .ok (.ior, 1) := by decide +kernel
theorem dX5_ownersOfOne_30 : decode cX5_ownersOfOne 30 = .ok (.istore 4, 2) := by decide +kernel
theorem dX5_ownersOfOne_32 : decode cX5_ownersOfOne 32 = .ok (.iinc 5 1, 3) := by decide +kernel
theorem dX5_ownersOfOne_35 : decode cX5_ownersOfOne 35 = .ok (.goto (-29), 3) := by decide +kernel
theorem dX5_ownersOfOne_38 : decode cX5_ownersOfOne 38 = .ok (.iload 4, 2) := by decide +kernel
theorem dX5_ownersOfOne_40 : decode cX5_ownersOfOne 40 = .ok (.ireturn, 1) := by decide +kernel
theorem dX5_ownersOf_0 : decode cX5_ownersOf 0 = .ok (.iconst 0, 1) := by decide +kernel
theorem dX5_ownersOf_1 : decode cX5_ownersOf 1 = .ok (.istore_n 3, 1) := by decide +kernel
theorem dX5_ownersOf_2 : decode cX5_ownersOf 2 = .ok (.iconst 0, 1) := by decide +kernel
theorem dX5_ownersOf_3 : decode cX5_ownersOf 3 = .ok (.istore 4, 2) := by decide +kernel
theorem dX5_ownersOf_5 : decode cX5_ownersOf 5 = .ok (.iload 4, 2) := by decide +kernel
theorem dX5_ownersOf_7 : decode cX5_ownersOf 7 = .ok (.aload_n 0, 1) := by decide +kernel
theorem dX5_ownersOf_8 : decode cX5_ownersOf 8 = .ok (.getfield 15, 3) := by decide +kernel
theorem dX5_ownersOf_11 : decode cX5_ownersOf 11 = .ok (.if_icmp .ge 152, 3) := by decide +kernel
theorem dX5_ownersOf_14 : decode cX5_ownersOf 14 = .ok (.aload_n 0, 1) := by decide +kernel
theorem dX5_ownersOf_15 : decode cX5_ownersOf 15 = .ok (.getfield 18, 3) := by decide +kernel
theorem dX5_ownersOf_18 : decode cX5_ownersOf 18 = .ok (.iload 4, 2) := by decide +kernel
theorem dX5_ownersOf_20 : decode cX5_ownersOf 20 = .ok (.iaload, 1) := by decide +kernel
theorem dX5_ownersOf_21 : decode cX5_ownersOf 21 = .ok (.bipush 17, 2) := by decide +kernel
theorem dX5_ownersOf_23 : decode cX5_ownersOf 23 = .ok (.if_icmp .ne 28, 3) := by decide +kernel
theorem dX5_ownersOf_26 : decode cX5_ownersOf 26 = .ok (.iload_n 3, 1) := by decide +kernel
theorem dX5_ownersOf_27 : decode cX5_ownersOf 27 = .ok (.ifCond .le 24, 3) := by decide +kernel
theorem dX5_ownersOf_30 : decode cX5_ownersOf 30 = .ok (.aload_n 0, 1) := by decide +kernel
theorem dX5_ownersOf_31 : decode cX5_ownersOf 31 = .ok (.getfield 28, 3) := by decide +kernel
theorem dX5_ownersOf_34 : decode cX5_ownersOf 34 = .ok (.iload_n 3, 1) := by decide +kernel
theorem dX5_ownersOf_35 : decode cX5_ownersOf 35 = .ok (.iconst 1, 1) := by decide +kernel
theorem dX5_ownersOf_36 : decode cX5_ownersOf 36 = .ok (.isub, 1) := by decide +kernel
theorem dX5_ownersOf_37 : decode cX5_ownersOf 37 = .ok (.aload_n 0, 1) := by decide +kernel
theorem dX5_ownersOf_38 : decode cX5_ownersOf 38 = .ok (.getfield 28, 3) := by decide +kernel
theorem dX5_ownersOf_41 : decode cX5_ownersOf 41 = .ok (.iload_n 3, 1) := by decide +kernel
theorem dX5_ownersOf_42 : decode cX5_ownersOf 42 = .ok (.iconst 1, 1) := by decide +kernel
theorem dX5_ownersOf_43 : decode cX5_ownersOf 43 = .ok (.isub, 1) := by decide +kernel
theorem dX5_ownersOf_44 : decode cX5_ownersOf 44 = .ok (.iaload, 1) := by decide +kernel
theorem dX5_ownersOf_45 : decode cX5_ownersOf 45 = .ok (.iconst (-1), 1) := by decide +kernel
theorem dX5_ownersOf_46 : decode cX5_ownersOf 46 = .ok (.ixor, 1) := by decide +kernel
theorem dX5_ownersOf_47 : decode cX5_ownersOf 47 = .ok (.iastore, 1) := by decide +kernel
theorem dX5_ownersOf_48 : decode cX5_ownersOf 48 = .ok (.goto 109, 3) := by decide +kernel
theorem dX5_ownersOf_51 : decode cX5_ownersOf 51 = .ok (.aload_n 0, 1) := by decide +kernel
theorem dX5_ownersOf_52 : decode cX5_ownersOf 52 = .ok (.getfield 18, 3) := by decide +kernel
theorem dX5_ownersOf_55 : decode cX5_ownersOf 55 = .ok (.iload 4, 2) := by decide +kernel
theorem dX5_ownersOf_57 : decode cX5_ownersOf 57 = .ok (.iaload, 1) := by decide +kernel
theorem dX5_ownersOf_58 : decode cX5_ownersOf 58 = .ok (.bipush 16, 2) := by decide +kernel
theorem dX5_ownersOf_60 : decode cX5_ownersOf 60 = .ok (.if_icmp .ne 31, 3) := by decide +kernel
theorem dX5_ownersOf_63 : decode cX5_ownersOf 63 = .ok (.iload_n 3, 1) := by decide +kernel
theorem dX5_ownersOf_64 : decode cX5_ownersOf 64 = .ok (.iconst 1, 1) := by decide +kernel
theorem dX5_ownersOf_65 : decode cX5_ownersOf 65 = .ok (.if_icmp .le 26, 3) := by decide +kernel
theorem dX5_ownersOf_68 : decode cX5_ownersOf 68 = .ok (.iinc 3 (-1), 3) := by decide +kernel
theorem dX5_ownersOf_71 : decode cX5_ownersOf 71 = .ok (.aload_n 0, 1) := by decide +kernel
theorem dX5_ownersOf_72 : decode cX5_ownersOf 72 = .ok (.getfield 28, 3) := by decide +kernel
theorem dX5_ownersOf_75 : decode cX5_ownersOf 75 = .ok (.iload_n 3, 1) := by decide +kernel
theorem dX5_ownersOf_76 : decode cX5_ownersOf 76 = .ok (.iconst 1, 1) := by decide +kernel
theorem dX5_ownersOf_77 : decode cX5_ownersOf 77 = .ok (.isub, 1) := by decide +kernel
theorem dX5_ownersOf_78 : decode cX5_ownersOf 78 = .ok (.dup2, 1) := by decide +kernel
theorem dX5_ownersOf_79 : decode cX5_ownersOf 79 = .ok (.iaload, 1) := by decide +kernel
theorem dX5_ownersOf_80 : decode cX5_ownersOf 80 = .ok (.aload_n 0, 1) := by decide +kernel
theorem dX5_ownersOf_81 : decode cX5_ownersOf 81 = .ok (.getfield 28, 3) := by decide +kernel
theorem dX5_ownersOf_84 : decode cX5_ownersOf 84 = .ok (.iload_n 3, 1) := by decide +kernel
theorem dX5_ownersOf_85 : decode cX5_ownersOf 85 = .ok (.iaload, 1) := by decide +kernel
theorem dX5_ownersOf_86 : decode cX5_ownersOf 86 = .ok (.iand, 1) := by decide +kernel
theorem dX5_ownersOf_87 : decode cX5_ownersOf 87 = .ok (.iastore, 1) := by decide +kernel
theorem dX5_ownersOf_88 : decode cX5_ownersOf 88 = .ok (.goto 69, 3) := by decide +kernel
theorem dX5_ownersOf_91 : decode cX5_ownersOf 91 = .ok (.aload_n 0, 1) := by decide +kernel
theorem dX5_ownersOf_92 : decode cX5_ownersOf 92 = .ok (.getfield 18, 3) := by decide +kernel
theorem dX5_ownersOf_95 : decode cX5_ownersOf 95 = .ok (.iload 4, 2) := by decide +kernel
theorem dX5_ownersOf_97 : decode cX5_ownersOf 97 = .ok (.iaload, 1) := by decide +kernel
theorem dX5_ownersOf_98 : decode cX5_ownersOf 98 = .ok (.bipush 15, 2) := by decide +kernel
theorem dX5_ownersOf_100 : decode cX5_ownersOf 100 = .ok (.if_icmp .ne 31, 3) := by decide +kernel
theorem dX5_ownersOf_103 : decode cX5_ownersOf 103 = .ok (.iload_n 3, 1) := by decide +kernel
theorem dX5_ownersOf_104 : decode cX5_ownersOf 104 = .ok (.iconst 1, 1) := by decide +kernel
theorem dX5_ownersOf_105 : decode cX5_ownersOf 105 = .ok (.if_icmp .le 26, 3) := by decide +kernel
theorem dX5_ownersOf_108 : decode cX5_ownersOf 108 = .ok (.iinc 3 (-1), 3) := by decide +kernel
theorem dX5_ownersOf_111 : decode cX5_ownersOf 111 = .ok (.aload_n 0, 1) := by decide +kernel
theorem dX5_ownersOf_112 : decode cX5_ownersOf 112 = .ok (.getfield 28, 3) := by decide +kernel
theorem dX5_ownersOf_115 : decode cX5_ownersOf 115 = .ok (.iload_n 3, 1) := by decide +kernel
theorem dX5_ownersOf_116 : decode cX5_ownersOf 116 = .ok (.iconst 1, 1) := by decide +kernel
theorem dX5_ownersOf_117 : decode cX5_ownersOf 117 = .ok (.isub, 1) := by decide +kernel
theorem dX5_ownersOf_118 : decode cX5_ownersOf 118 = .ok (.dup2, 1) := by decide +kernel
theorem dX5_ownersOf_119 : decode cX5_ownersOf 119 = .ok (.iaload, 1) := by decide +kernel
theorem dX5_ownersOf_120 : decode cX5_ownersOf 120 = .ok (.aload_n 0, 1) := by decide +kernel
theorem dX5_ownersOf_121 : decode cX5_ownersOf 121 = .ok (.getfield 28, 3) := by decide +kernel
theorem dX5_ownersOf_124 : decode cX5_ownersOf 124 = .ok (.iload_n 3, 1) := by decide +kernel
theorem dX5_ownersOf_125 : decode cX5_ownersOf 125 = .ok (.iaload, 1) := by decide +kernel
theorem dX5_ownersOf_126 : decode cX5_ownersOf 126 = .ok (.ior, 1) := by decide +kernel
theorem dX5_ownersOf_127 : decode cX5_ownersOf 127 = .ok (.iastore, 1) := by decide +kernel
theorem dX5_ownersOf_128 : decode cX5_ownersOf 128 = .ok (.goto 29, 3) := by decide +kernel
theorem dX5_ownersOf_131 : decode cX5_ownersOf 131 = .ok (.iload_n 3, 1) := by decide +kernel
theorem dX5_ownersOf_132 : decode cX5_ownersOf 132 = .ok (.aload_n 0, 1) := by decide +kernel
theorem dX5_ownersOf_133 : decode cX5_ownersOf 133 = .ok (.getfield 28, 3) := by decide +kernel
theorem dX5_ownersOf_136 : decode cX5_ownersOf 136 = .ok (.arraylength, 1) := by decide +kernel
theorem dX5_ownersOf_137 : decode cX5_ownersOf 137 = .ok (.if_icmp .ge 20, 3) := by decide +kernel
theorem dX5_ownersOf_140 : decode cX5_ownersOf 140 = .ok (.aload_n 0, 1) := by decide +kernel
theorem dX5_ownersOf_141 : decode cX5_ownersOf 141 = .ok (.getfield 28, 3) := by decide +kernel
theorem dX5_ownersOf_144 : decode cX5_ownersOf 144 = .ok (.iload_n 3, 1) := by decide +kernel
theorem dX5_ownersOf_145 : decode cX5_ownersOf 145 = .ok (.aload_n 0, 1) := by decide +kernel
theorem dX5_ownersOf_146 : decode cX5_ownersOf 146 = .ok (.aload_n 1, 1) := by decide +kernel
theorem dX5_ownersOf_147 : decode cX5_ownersOf 147 = .ok (.iload_n 2, 1) := by decide +kernel
theorem dX5_ownersOf_148 : decode cX5_ownersOf 148 = .ok (.iload 4, 2) := by decide +kernel
theorem dX5_ownersOf_150 : decode cX5_ownersOf 150 = .ok (.invokevirtual 87, 3) := by decide +kernel
theorem dX5_ownersOf_153 : decode cX5_ownersOf 153 = .ok (.iastore, 1) := by decide +kernel
theorem dX5_ownersOf_154 : decode cX5_ownersOf 154 = .ok (.iinc 3 1, 3) := by decide +kernel
theorem dX5_ownersOf_157 : decode cX5_ownersOf 157 = .ok (.iinc 4 1, 3) := by decide +kernel
theorem dX5_ownersOf_160 : decode cX5_ownersOf 160 = .ok (.goto (-155), 3) := by decide +kernel
theorem dX5_ownersOf_163 : decode cX5_ownersOf 163 = .ok (.iload_n 3, 1) := by decide +kernel
theorem dX5_ownersOf_164 : decode cX5_ownersOf 164 = .ok (.ifCond .le 18, 3) := by decide +kernel
theorem dX5_ownersOf_167 : decode cX5_ownersOf 167 = .ok (.aload_n 0, 1) := by decide +kernel
theorem dX5_ownersOf_168 : decode cX5_ownersOf 168 = .ok (.getfield 28, 3) := by decide +kernel
theorem dX5_ownersOf_171 : decode cX5_ownersOf 171 = .ok (.iconst 0, 1) := by decide +kernel
theorem dX5_ownersOf_172 : decode cX5_ownersOf 172 = .ok (.iaload, 1) := by decide +kernel
theorem dX5_ownersOf_173 : decode cX5_ownersOf 173 = .ok (.iconst 1, 1) := by decide +kernel
theorem dX5_ownersOf_174 : decode cX5_ownersOf 174 = .ok (.iload_n 2, 1) := by decide +kernel
theorem dX5_ownersOf_175 : decode cX5_ownersOf 175 = .ok (.ishl, 1) := by decide +kernel
theorem dX5_ownersOf_176 : decode cX5_ownersOf 176 = .ok (.iconst 1, 1) := by decide +kernel
theorem dX5_ownersOf_177 : decode cX5_ownersOf 177 = .ok (.isub, 1) := by decide +kernel
theorem dX5_ownersOf_178 : decode cX5_ownersOf 178 = .ok (.iand, 1) := by decide +kernel
theorem dX5_ownersOf_179 : decode cX5_ownersOf 179 = .ok (.goto 4, 3) := by decide +kernel
theorem dX5_ownersOf_182 : decode cX5_ownersOf 182 = .ok (.iconst 0, 1) := by decide +kernel
theorem dX5_ownersOf_183 : decode cX5_ownersOf 183 = .ok (.ireturn, 1) := by decide +kernel
theorem dX10_said_0 : decode cX10_said 0 = .ok (.aload_n 0, 1) := by decide +kernel
theorem dX10_said_1 : decode cX10_said 1 = .ok (.getfield 30, 3) := by decide +kernel
theorem dX10_said_4 : decode cX10_said 4 = .ok (.getfield 140, 3) := by decide +kernel
theorem dX10_said_7 : decode cX10_said 7 = .ok (.getfield 143, 3) := by decide +kernel
theorem dX10_said_10 : decode cX10_said 10 = .ok (.ifCond .ne 5, 3) := by decide +kernel
theorem dX10_said_13 : decode cX10_said 13 = .ok (.iconst (-1), 1) := by decide +kernel
theorem dX10_said_14 : decode cX10_said 14 = .ok (.ireturn, 1) := by decide +kernel
theorem dX10_said_15 : decode cX10_said 15 = .ok (.aload_n 0, 1) := by decide +kernel
theorem dX10_said_16 : decode cX10_said 16 = .ok (.getfield 30, 3) := by decide +kernel
theorem dX10_said_19 : decode cX10_said 19 = .ok (.getfield 140, 3) := by decide +kernel
theorem dX10_said_22 : decode cX10_said 22 = .ok (.aload_n 0, 1) := by decide +kernel
theorem dX10_said_23 : decode cX10_said 23 = .ok (.getfield 30, 3) := by decide +kernel
theorem dX10_said_26 : decode cX10_said 26 = .ok (.getfield 127, 3) := by decide +kernel
theorem dX10_said_29 : decode cX10_said 29 = .ok (.aload_n 0, 1) := by decide +kernel
theorem dX10_said_30 : decode cX10_said 30 = .ok (.getfield 30, 3) := by decide +kernel
theorem dX10_said_33 : decode cX10_said 33 = .ok (.getfield 124, 3) := by decide +kernel
theorem dX10_said_36 : decode cX10_said 36 = .ok (.getfield 174, 3) := by decide +kernel
theorem dX10_said_39 : decode cX10_said 39 = .ok (.getfield 253, 3) := by decide +kernel
theorem dX10_said_42 : decode cX10_said 42 = .ok (.invokevirtual 384, 3) := by decide +kernel
theorem dX10_said_45 : decode cX10_said 45 = .ok (.istore_n 2, 1) := by decide +kernel
theorem dX10_said_46 : decode cX10_said 46 = .ok (.iload_n 1, 1) := by decide +kernel
theorem dX10_said_47 : decode cX10_said 47 = .ok (.iconst (-1), 1) := by decide +kernel
theorem dX10_said_48 : decode cX10_said 48 = .ok (.if_icmp .ne 8, 3) := by decide +kernel
theorem dX10_said_51 : decode cX10_said 51 = .ok (.iload_n 2, 1) := by decide +kernel
theorem dX10_said_52 : decode cX10_said 52 = .ok (.invokestatic 235, 3) := by decide +kernel
theorem dX10_said_55 : decode cX10_said 55 = .ok (.ireturn, 1) := by decide +kernel
theorem dX10_said_56 : decode cX10_said 56 = .ok (.iconst 0, 1) := by decide +kernel
theorem dX10_said_57 : decode cX10_said 57 = .ok (.istore_n 3, 1) := by decide +kernel
theorem dX10_said_58 : decode cX10_said 58 = .ok (.iconst 0, 1) := by decide +kernel
theorem dX10_said_59 : decode cX10_said 59 = .ok (.istore 4, 2) := by decide +kernel
theorem dX10_said_61 : decode cX10_said 61 = .ok (.iload 4, 2) := by decide +kernel
theorem dX10_said_63 : decode cX10_said 63 = .ok (.bipush 8, 2) := by decide +kernel
theorem dX10_said_65 : decode cX10_said 65 = .ok (.if_icmp .ge 30, 3) := by decide +kernel
theorem dX10_said_68 : decode cX10_said 68 = .ok (.iload_n 2, 1) := by decide +kernel
theorem dX10_said_69 : decode cX10_said 69 = .ok (.iload 4, 2) := by decide +kernel
theorem dX10_said_71 : decode cX10_said 71 = .ok (.ishr, 1) := by decide +kernel
theorem dX10_said_72 : decode cX10_said 72 = .ok (.iconst 1, 1) := by decide +kernel
theorem dX10_said_73 : decode cX10_said 73 = .ok (.iand, 1) := by decide +kernel
theorem dX10_said_74 : decode cX10_said 74 = .ok (.iconst 1, 1) := by decide +kernel
theorem dX10_said_75 : decode cX10_said 75 = .ok (.if_icmp .ne 14, 3) := by decide +kernel
theorem dX10_said_78 : decode cX10_said 78 = .ok (.iload_n 3, 1) := by decide +kernel
theorem dX10_said_79 : decode cX10_said 79 = .ok (.iload_n 1, 1) := by decide +kernel
theorem dX10_said_80 : decode cX10_said 80 = .ok (.if_icmp .ne 6, 3) := by decide +kernel
theorem dX10_said_83 : decode cX10_said 83 = .ok (.iload 4, 2) := by decide +kernel
theorem dX10_said_85 : decode cX10_said 85 = .ok (.ireturn, 1) := by decide +kernel
theorem dX10_said_86 : decode cX10_said 86 = .ok (.iinc 3 1, 3) := by decide +kernel
theorem dX10_said_89 : decode cX10_said 89 = .ok (.iinc 4 1, 3) := by decide +kernel
theorem dX10_said_92 : decode cX10_said 92 = .ok (.goto (-31), 3) := by decide +kernel
theorem dX10_said_95 : decode cX10_said 95 = .ok (.iconst (-1), 1) := by decide +kernel
theorem dX10_said_96 : decode cX10_said 96 = .ok (.ireturn, 1) := by decide +kernel
theorem dX1_copy_0 : decode cX1_copy 0 = .ok (.aload_n 0, 1) := by decide +kernel
theorem dX1_copy_1 : decode cX1_copy 1 = .ok (.aload_n 1, 1) := by decide +kernel
theorem dX1_copy_2 : decode cX1_copy 2 = .ok (.getfield 9, 3) := by decide +kernel
theorem dX1_copy_5 : decode cX1_copy 5 = .ok (.putfield 9, 3) := by decide +kernel
theorem dX1_copy_8 : decode cX1_copy 8 = .ok (.aload_n 0, 1) := by decide +kernel
theorem dX1_copy_9 : decode cX1_copy 9 = .ok (.aload_n 1, 1) := by decide +kernel
theorem dX1_copy_10 : decode cX1_copy 10 = .ok (.getfield 15, 3) := by decide +kernel
theorem dX1_copy_13 : decode cX1_copy 13 = .ok (.putfield 15, 3) := by decide +kernel
theorem dX1_copy_16 : decode cX1_copy 16 = .ok (.aload_n 1, 1) := by decide +kernel
theorem dX1_copy_17 : decode cX1_copy 17 = .ok (.getfield 18, 3) := by decide +kernel
theorem dX1_copy_20 : decode cX1_copy 20 = .ok (.iconst 0, 1) := by decide +kernel
theorem dX1_copy_21 : decode cX1_copy 21 = .ok (.aload_n 0, 1) := by decide +kernel
theorem dX1_copy_22 : decode cX1_copy 22 = .ok (.getfield 18, 3) := by decide +kernel
theorem dX1_copy_25 : decode cX1_copy 25 = .ok (.iconst 0, 1) := by decide +kernel
theorem dX1_copy_26 : decode cX1_copy 26 = .ok (.bipush 8, 2) := by decide +kernel
theorem dX1_copy_28 : decode cX1_copy 28 = .ok (.invokestatic 46, 3) := by decide +kernel
theorem dX1_copy_31 : decode cX1_copy 31 = .ok (.aload_n 1, 1) := by decide +kernel
theorem dX1_copy_32 : decode cX1_copy 32 = .ok (.getfield 22, 3) := by decide +kernel
theorem dX1_copy_35 : decode cX1_copy 35 = .ok (.iconst 0, 1) := by decide +kernel
theorem dX1_copy_36 : decode cX1_copy 36 = .ok (.aload_n 0, 1) := by decide +kernel
theorem dX1_copy_37 : decode cX1_copy 37 = .ok (.getfield 22, 3) := by decide +kernel
theorem dX1_copy_40 : decode cX1_copy 40 = .ok (.iconst 0, 1) := by decide +kernel
theorem dX1_copy_41 : decode cX1_copy 41 = .ok (.bipush 8, 2) := by decide +kernel
theorem dX1_copy_43 : decode cX1_copy 43 = .ok (.invokestatic 46, 3) := by decide +kernel
theorem dX1_copy_46 : decode cX1_copy 46 = .ok (.aload_n 1, 1) := by decide +kernel
theorem dX1_copy_47 : decode cX1_copy 47 = .ok (.getfield 25, 3) := by decide +kernel
theorem dX1_copy_50 : decode cX1_copy 50 = .ok (.iconst 0, 1) := by decide +kernel
theorem dX1_copy_51 : decode cX1_copy 51 = .ok (.aload_n 0, 1) := by decide +kernel
theorem dX1_copy_52 : decode cX1_copy 52 = .ok (.getfield 25, 3) := by decide +kernel
theorem dX1_copy_55 : decode cX1_copy 55 = .ok (.iconst 0, 1) := by decide +kernel
theorem dX1_copy_56 : decode cX1_copy 56 = .ok (.bipush 8, 2) := by decide +kernel
theorem dX1_copy_58 : decode cX1_copy 58 = .ok (.invokestatic 46, 3) := by decide +kernel
theorem dX1_copy_61 : decode cX1_copy 61 = .ok (.aload_n 1, 1) := by decide +kernel
theorem dX1_copy_62 : decode cX1_copy 62 = .ok (.getfield 28, 3) := by decide +kernel
theorem dX1_copy_65 : decode cX1_copy 65 = .ok (.iconst 0, 1) := by decide +kernel
theorem dX1_copy_66 : decode cX1_copy 66 = .ok (.aload_n 0, 1) := by decide +kernel
theorem dX1_copy_67 : decode cX1_copy 67 = .ok (.getfield 28, 3) := by decide +kernel
theorem dX1_copy_70 : decode cX1_copy 70 = .ok (.iconst 0, 1) := by decide +kernel
theorem dX1_copy_71 : decode cX1_copy 71 = .ok (.bipush 8, 2) := by decide +kernel
theorem dX1_copy_73 : decode cX1_copy 73 = .ok (.invokestatic 46, 3) := by decide +kernel
theorem dX1_copy_76 : decode cX1_copy 76 = .ok (.aload_n 1, 1) := by decide +kernel
theorem dX1_copy_77 : decode cX1_copy 77 = .ok (.getfield 31, 3) := by decide +kernel
theorem dX1_copy_80 : decode cX1_copy 80 = .ok (.iconst 0, 1) := by decide +kernel
theorem dX1_copy_81 : decode cX1_copy 81 = .ok (.aload_n 0, 1) := by decide +kernel
theorem dX1_copy_82 : decode cX1_copy 82 = .ok (.getfield 31, 3) := by decide +kernel
theorem dX1_copy_85 : decode cX1_copy 85 = .ok (.iconst 0, 1) := by decide +kernel
theorem dX1_copy_86 : decode cX1_copy 86 = .ok (.bipush 8, 2) := by decide +kernel
theorem dX1_copy_88 : decode cX1_copy 88 = .ok (.invokestatic 46, 3) := by decide +kernel
theorem dX1_copy_91 : decode cX1_copy 91 = .ok (.aload_n 1, 1) := by decide +kernel
theorem dX1_copy_92 : decode cX1_copy 92 = .ok (.getfield 34, 3) := by decide +kernel
theorem dX1_copy_95 : decode cX1_copy 95 = .ok (.iconst 0, 1) := by decide +kernel
theorem dX1_copy_96 : decode cX1_copy 96 = .ok (.aload_n 0, 1) := by decide +kernel
theorem dX1_copy_97 : decode cX1_copy 97 = .ok (.getfield 34, 3) := by decide +kernel
theorem dX1_copy_100 : decode cX1_copy 100 = .ok (.iconst 0, 1) := by decide +kernel
theorem dX1_copy_101 : decode cX1_copy 101 = .ok (.bipush 8, 2) := by decide +kernel
theorem dX1_copy_103 : decode cX1_copy 103 = .ok (.invokestatic 46, 3) := by decide +kernel
theorem dX1_copy_106 : decode cX1_copy 106 = .ok (.aload_n 1, 1) := by decide +kernel
theorem dX1_copy_107 : decode cX1_copy 107 = .ok (.getfield 37, 3) := by decide +kernel
theorem dX1_copy_110 : decode cX1_copy 110 = .ok (.iconst 0, 1) := by decide +kernel
theorem dX1_copy_111 : decode cX1_copy 111 = .ok (.aload_n 0, 1) := by decide +kernel
theorem dX1_copy_112 : decode cX1_copy 112 = .ok (.getfield 37, 3) := by decide +kernel
theorem dX1_copy_115 : decode cX1_copy 115 = .ok (.iconst 0, 1) := by decide +kernel
theorem dX1_copy_116 : decode cX1_copy 116 = .ok (.bipush 8, 2) := by decide +kernel
theorem dX1_copy_118 : decode cX1_copy 118 = .ok (.invokestatic 46, 3) := by decide +kernel
theorem dX1_copy_121 : decode cX1_copy 121 = .ok (.aload_n 1, 1) := by decide +kernel
theorem dX1_copy_122 : decode cX1_copy 122 = .ok (.getfield 40, 3) := by decide +kernel
theorem dX1_copy_125 : decode cX1_copy 125 = .ok (.iconst 0, 1) := by decide +kernel
theorem dX1_copy_126 : decode cX1_copy 126 = .ok (.aload_n 0, 1) := by decide +kernel
theorem dX1_copy_127 : decode cX1_copy 127 = .ok (.getfield 40, 3) := by decide +kernel
theorem dX1_copy_130 : decode cX1_copy 130 = .ok (.iconst 0, 1) := by decide +kernel
theorem dX1_copy_131 : decode cX1_copy 131 = .ok (.bipush 8, 2) := by decide +kernel
theorem dX1_copy_133 : decode cX1_copy 133 = .ok (.invokestatic 46, 3) := by decide +kernel
theorem dX1_copy_136 : decode cX1_copy 136 = .ok (.aload_n 1, 1) := by decide +kernel
theorem dX1_copy_137 : decode cX1_copy 137 = .ok (.getfield 43, 3) := by decide +kernel
theorem dX1_copy_140 : decode cX1_copy 140 = .ok (.iconst 0, 1) := by decide +kernel
theorem dX1_copy_141 : decode cX1_copy 141 = .ok (.aload_n 0, 1) := by decide +kernel
theorem dX1_copy_142 : decode cX1_copy 142 = .ok (.getfield 43, 3) := by decide +kernel
theorem dX1_copy_145 : decode cX1_copy 145 = .ok (.iconst 0, 1) := by decide +kernel
theorem dX1_copy_146 : decode cX1_copy 146 = .ok (.bipush 8, 2) := by decide +kernel
theorem dX1_copy_148 : decode cX1_copy 148 = .ok (.invokestatic 46, 3) := by decide +kernel
theorem dX1_copy_151 : decode cX1_copy 151 = .ok (.return_, 1) := by decide +kernel
theorem dX0_copy_0 : decode cX0_copy 0 = .ok (.aload_n 0, 1) := by decide +kernel
theorem dX0_copy_1 : decode cX0_copy 1 = .ok (.aload_n 1, 1) := by decide +kernel
theorem dX0_copy_2 : decode cX0_copy 2 = .ok (.getfield 9, 3) := by decide +kernel
theorem dX0_copy_5 : decode cX0_copy 5 = .ok (.putfield 9, 3) := by decide +kernel
theorem dX0_copy_8 : decode cX0_copy 8 = .ok (.aload_n 0, 1) := by decide +kernel
theorem dX0_copy_9 : decode cX0_copy 9 = .ok (.aload_n 1, 1) := by decide +kernel
theorem dX0_copy_10 : decode cX0_copy 10 = .ok (.getfield 15, 3) := by decide +kernel
theorem dX0_copy_13 : decode cX0_copy 13 = .ok (.putfield 15, 3) := by decide +kernel
theorem dX0_copy_16 : decode cX0_copy 16 = .ok (.aload_n 0, 1) := by decide +kernel
theorem dX0_copy_17 : decode cX0_copy 17 = .ok (.aload_n 1, 1) := by decide +kernel
theorem dX0_copy_18 : decode cX0_copy 18 = .ok (.getfield 18, 3) := by decide +kernel
theorem dX0_copy_21 : decode cX0_copy 21 = .ok (.putfield 18, 3) := by decide +kernel
theorem dX0_copy_24 : decode cX0_copy 24 = .ok (.aload_n 0, 1) := by decide +kernel
theorem dX0_copy_25 : decode cX0_copy 25 = .ok (.aload_n 1, 1) := by decide +kernel
theorem dX0_copy_26 : decode cX0_copy 26 = .ok (.getfield 21, 3) := by decide +kernel
theorem dX0_copy_29 : decode cX0_copy 29 = .ok (.putfield 21, 3) := by decide +kernel
theorem dX0_copy_32 : decode cX0_copy 32 = .ok (.aload_n 0, 1) := by decide +kernel
theorem dX0_copy_33 : decode cX0_copy 33 = .ok (.aload_n 1, 1) := by decide +kernel
theorem dX0_copy_34 : decode cX0_copy 34 = .ok (.getfield 24, 3) := by decide +kernel
theorem dX0_copy_37 : decode cX0_copy 37 = .ok (.putfield 24, 3) := by decide +kernel
theorem dX0_copy_40 : decode cX0_copy 40 = .ok (.aload_n 0, 1) := by decide +kernel
theorem dX0_copy_41 : decode cX0_copy 41 = .ok (.aload_n 1, 1) := by decide +kernel
theorem dX0_copy_42 : decode cX0_copy 42 = .ok (.getfield 27, 3) := by decide +kernel
theorem dX0_copy_45 : decode cX0_copy 45 = .ok (.putfield 27, 3) := by decide +kernel
theorem dX0_copy_48 : decode cX0_copy 48 = .ok (.aload_n 0, 1) := by decide +kernel
theorem dX0_copy_49 : decode cX0_copy 49 = .ok (.aload_n 1, 1) := by decide +kernel
theorem dX0_copy_50 : decode cX0_copy 50 = .ok (.getfield 30, 3) := by decide +kernel
theorem dX0_copy_53 : decode cX0_copy 53 = .ok (.putfield 30, 3) := by decide +kernel
theorem dX0_copy_56 : decode cX0_copy 56 = .ok (.aload_n 0, 1) := by decide +kernel
theorem dX0_copy_57 : decode cX0_copy 57 = .ok (.aload_n 1, 1) := by decide +kernel
theorem dX0_copy_58 : decode cX0_copy 58 = .ok (.getfield 33, 3) := by decide +kernel
theorem dX0_copy_61 : decode cX0_copy 61 = .ok (.putfield 33, 3) := by decide +kernel
theorem dX0_copy_64 : decode cX0_copy 64 = .ok (.aload_n 0, 1) := by decide +kernel
theorem dX0_copy_65 : decode cX0_copy 65 = .ok (.aload_n 1, 1) := by decide +kernel
theorem dX0_copy_66 : decode cX0_copy 66 = .ok (.getfield 37, 3) := by decide +kernel
theorem dX0_copy_69 : decode cX0_copy 69 = .ok (.putfield 37, 3) := by decide +kernel
theorem dX0_copy_72 : decode cX0_copy 72 = .ok (.aload_n 0, 1) := by decide +kernel
theorem dX0_copy_73 : decode cX0_copy 73 = .ok (.aload_n 1, 1) := by decide +kernel
theorem dX0_copy_74 : decode cX0_copy 74 = .ok (.getfield 40, 3) := by decide +kernel
theorem dX0_copy_77 : decode cX0_copy 77 = .ok (.putfield 40, 3) := by decide +kernel
theorem dX0_copy_80 : decode cX0_copy 80 = .ok (.aload_n 0, 1) := by decide +kernel
theorem dX0_copy_81 : decode cX0_copy 81 = .ok (.getfield 46, 3) := by decide +kernel
theorem dX0_copy_84 : decode cX0_copy 84 = .ok (.aload_n 1, 1) := by decide +kernel
theorem dX0_copy_85 : decode cX0_copy 85 = .ok (.getfield 46, 3) := by decide +kernel
theorem dX0_copy_88 : decode cX0_copy 88 = .ok (.invokevirtual 69, 3) := by decide +kernel
theorem dX0_copy_91 : decode cX0_copy 91 = .ok (.aload_n 1, 1) := by decide +kernel
theorem dX0_copy_92 : decode cX0_copy 92 = .ok (.getfield 50, 3) := by decide +kernel
theorem dX0_copy_95 : decode cX0_copy 95 = .ok (.iconst 0, 1) := by decide +kernel
theorem dX0_copy_96 : decode cX0_copy 96 = .ok (.aload_n 0, 1) := by decide +kernel
theorem dX0_copy_97 : decode cX0_copy 97 = .ok (.getfield 50, 3) := by decide +kernel
theorem dX0_copy_100 : decode cX0_copy 100 = .ok (.iconst 0, 1) := by decide +kernel
theorem dX0_copy_101 : decode cX0_copy 101 = .ok (.bipush 100, 2) := by decide +kernel
theorem dX0_copy_103 : decode cX0_copy 103 = .ok (.invokestatic 73, 3) := by decide +kernel
theorem dX0_copy_106 : decode cX0_copy 106 = .ok (.aload_n 1, 1) := by decide +kernel
theorem dX0_copy_107 : decode cX0_copy 107 = .ok (.getfield 54, 3) := by decide +kernel
theorem dX0_copy_110 : decode cX0_copy 110 = .ok (.iconst 0, 1) := by decide +kernel
theorem dX0_copy_111 : decode cX0_copy 111 = .ok (.aload_n 0, 1) := by decide +kernel
theorem dX0_copy_112 : decode cX0_copy 112 = .ok (.getfield 54, 3) := by decide +kernel
theorem dX0_copy_115 : decode cX0_copy 115 = .ok (.iconst 0, 1) := by decide +kernel
theorem dX0_copy_116 : decode cX0_copy 116 = .ok (.bipush 100, 2) := by decide +kernel
theorem dX0_copy_118 : decode cX0_copy 118 = .ok (.invokestatic 73, 3) := by decide +kernel
theorem dX0_copy_121 : decode cX0_copy 121 = .ok (.aload_n 1, 1) := by decide +kernel
theorem dX0_copy_122 : decode cX0_copy 122 = .ok (.getfield 57, 3) := by decide +kernel
theorem dX0_copy_125 : decode cX0_copy 125 = .ok (.iconst 0, 1) := by decide +kernel
theorem dX0_copy_126 : decode cX0_copy 126 = .ok (.aload_n 0, 1) := by decide +kernel
theorem dX0_copy_127 : decode cX0_copy 127 = .ok (.getfield 57, 3) := by decide +kernel
theorem dX0_copy_130 : decode cX0_copy 130 = .ok (.iconst 0, 1) := by decide +kernel
theorem dX0_copy_131 : decode cX0_copy 131 = .ok (.bipush 12, 2) := by decide +kernel
theorem dX0_copy_133 : decode cX0_copy 133 = .ok (.invokestatic 73, 3) := by decide +kernel
theorem dX0_copy_136 : decode cX0_copy 136 = .ok (.aload_n 1, 1) := by decide +kernel
theorem dX0_copy_137 : decode cX0_copy 137 = .ok (.getfield 60, 3) := by decide +kernel
theorem dX0_copy_140 : decode cX0_copy 140 = .ok (.iconst 0, 1) := by decide +kernel
theorem dX0_copy_141 : decode cX0_copy 141 = .ok (.aload_n 0, 1) := by decide +kernel
theorem dX0_copy_142 : decode cX0_copy 142 = .ok (.getfield 60, 3) := by decide +kernel
theorem dX0_copy_145 : decode cX0_copy 145 = .ok (.iconst 0, 1) := by decide +kernel
theorem dX0_copy_146 : decode cX0_copy 146 = .ok (.bipush 48, 2) := by decide +kernel
theorem dX0_copy_148 : decode cX0_copy 148 = .ok (.invokestatic 73, 3) := by decide +kernel
theorem dX0_copy_151 : decode cX0_copy 151 = .ok (.aload_n 1, 1) := by decide +kernel
theorem dX0_copy_152 : decode cX0_copy 152 = .ok (.getfield 63, 3) := by decide +kernel
theorem dX0_copy_155 : decode cX0_copy 155 = .ok (.iconst 0, 1) := by decide +kernel
theorem dX0_copy_156 : decode cX0_copy 156 = .ok (.aload_n 0, 1) := by decide +kernel
theorem dX0_copy_157 : decode cX0_copy 157 = .ok (.getfield 63, 3) := by decide +kernel
theorem dX0_copy_160 : decode cX0_copy 160 = .ok (.iconst 0, 1) := by decide +kernel
theorem dX0_copy_161 : decode cX0_copy 161 = .ok (.bipush 48, 2) := by decide +kernel
theorem dX0_copy_163 : decode cX0_copy 163 = .ok (.invokestatic 73, 3) := by decide +kernel
theorem dX0_copy_166 : decode cX0_copy 166 = .ok (.return_, 1) := by decide +kernel
theorem dX3_copy_0 : decode cX3_copy 0 = .ok (.aload_n 0, 1) := by decide +kernel
theorem dX3_copy_1 : decode cX3_copy 1 = .ok (.aload_n 1, 1) := by decide +kernel
theorem dX3_copy_2 : decode cX3_copy 2 = .ok (.getfield 9, 3) := by decide +kernel
theorem dX3_copy_5 : decode cX3_copy 5 = .ok (.putfield 9, 3) := by decide +kernel
theorem dX3_copy_8 : decode cX3_copy 8 = .ok (.aload_n 1, 1) := by decide +kernel
theorem dX3_copy_9 : decode cX3_copy 9 = .ok (.getfield 15, 3) := by decide +kernel
theorem dX3_copy_12 : decode cX3_copy 12 = .ok (.iconst 0, 1) := by decide +kernel
theorem dX3_copy_13 : decode cX3_copy 13 = .ok (.aload_n 0, 1) := by decide +kernel
theorem dX3_copy_14 : decode cX3_copy 14 = .ok (.getfield 15, 3) := by decide +kernel
theorem dX3_copy_17 : decode cX3_copy 17 = .ok (.iconst 0, 1) := by decide +kernel
theorem dX3_copy_18 : decode cX3_copy 18 = .ok (.bipush 30, 2) := by decide +kernel
theorem dX3_copy_20 : decode cX3_copy 20 = .ok (.invokestatic 25, 3) := by decide +kernel
theorem dX3_copy_23 : decode cX3_copy 23 = .ok (.aload_n 1, 1) := by decide +kernel
theorem dX3_copy_24 : decode cX3_copy 24 = .ok (.getfield 19, 3) := by decide +kernel
theorem dX3_copy_27 : decode cX3_copy 27 = .ok (.iconst 0, 1) := by decide +kernel
theorem dX3_copy_28 : decode cX3_copy 28 = .ok (.aload_n 0, 1) := by decide +kernel
theorem dX3_copy_29 : decode cX3_copy 29 = .ok (.getfield 19, 3) := by decide +kernel
theorem dX3_copy_32 : decode cX3_copy 32 = .ok (.iconst 0, 1) := by decide +kernel
theorem dX3_copy_33 : decode cX3_copy 33 = .ok (.bipush 30, 2) := by decide +kernel
theorem dX3_copy_35 : decode cX3_copy 35 = .ok (.invokestatic 25, 3) := by decide +kernel
theorem dX3_copy_38 : decode cX3_copy 38 = .ok (.aload_n 1, 1) := by decide +kernel
theorem dX3_copy_39 : decode cX3_copy 39 = .ok (.getfield 22, 3) := by decide +kernel
theorem dX3_copy_42 : decode cX3_copy 42 = .ok (.iconst 0, 1) := by decide +kernel
theorem dX3_copy_43 : decode cX3_copy 43 = .ok (.aload_n 0, 1) := by decide +kernel
theorem dX3_copy_44 : decode cX3_copy 44 = .ok (.getfield 22, 3) := by decide +kernel
theorem dX3_copy_47 : decode cX3_copy 47 = .ok (.iconst 0, 1) := by decide +kernel
theorem dX3_copy_48 : decode cX3_copy 48 = .ok (.bipush 30, 2) := by decide +kernel
theorem dX3_copy_50 : decode cX3_copy 50 = .ok (.invokestatic 25, 3) := by decide +kernel
theorem dX3_copy_53 : decode cX3_copy 53 = .ok (.return_, 1) := by decide +kernel
theorem dX5_copy_0 : decode cX5_copy 0 = .ok (.aload_n 0, 1) := by decide +kernel
theorem dX5_copy_1 : decode cX5_copy 1 = .ok (.aload_n 1, 1) := by decide +kernel
theorem dX5_copy_2 : decode cX5_copy 2 = .ok (.getfield 9, 3) := by decide +kernel
theorem dX5_copy_5 : decode cX5_copy 5 = .ok (.putfield 9, 3) := by decide +kernel
theorem dX5_copy_8 : decode cX5_copy 8 = .ok (.aload_n 0, 1) := by decide +kernel
theorem dX5_copy_9 : decode cX5_copy 9 = .ok (.aload_n 1, 1) := by decide +kernel
theorem dX5_copy_10 : decode cX5_copy 10 = .ok (.getfield 15, 3) := by decide +kernel
theorem dX5_copy_13 : decode cX5_copy 13 = .ok (.putfield 15, 3) := by decide +kernel
theorem dX5_copy_16 : decode cX5_copy 16 = .ok (.aload_n 1, 1) := by decide +kernel
theorem dX5_copy_17 : decode cX5_copy 17 = .ok (.getfield 18, 3) := by decide +kernel
theorem dX5_copy_20 : decode cX5_copy 20 = .ok (.iconst 0, 1) := by decide +kernel
theorem dX5_copy_21 : decode cX5_copy 21 = .ok (.aload_n 0, 1) := by decide +kernel
theorem dX5_copy_22 : decode cX5_copy 22 = .ok (.getfield 18, 3) := by decide +kernel
theorem dX5_copy_25 : decode cX5_copy 25 = .ok (.iconst 0, 1) := by decide +kernel
theorem dX5_copy_26 : decode cX5_copy 26 = .ok (.bipush 40, 2) := by decide +kernel
theorem dX5_copy_28 : decode cX5_copy 28 = .ok (.invokestatic 31, 3) := by decide +kernel
theorem dX5_copy_31 : decode cX5_copy 31 = .ok (.aload_n 1, 1) := by decide +kernel
theorem dX5_copy_32 : decode cX5_copy 32 = .ok (.getfield 22, 3) := by decide +kernel
theorem dX5_copy_35 : decode cX5_copy 35 = .ok (.iconst 0, 1) := by decide +kernel
theorem dX5_copy_36 : decode cX5_copy 36 = .ok (.aload_n 0, 1) := by decide +kernel
theorem dX5_copy_37 : decode cX5_copy 37 = .ok (.getfield 22, 3) := by decide +kernel
theorem dX5_copy_40 : decode cX5_copy 40 = .ok (.iconst 0, 1) := by decide +kernel
theorem dX5_copy_41 : decode cX5_copy 41 = .ok (.bipush 40, 2) := by decide +kernel
theorem dX5_copy_43 : decode cX5_copy 43 = .ok (.invokestatic 31, 3) := by decide +kernel
theorem dX5_copy_46 : decode cX5_copy 46 = .ok (.aload_n 1, 1) := by decide +kernel
theorem dX5_copy_47 : decode cX5_copy 47 = .ok (.getfield 25, 3) := by decide +kernel
theorem dX5_copy_50 : decode cX5_copy 50 = .ok (.iconst 0, 1) := by decide +kernel
theorem dX5_copy_51 : decode cX5_copy 51 = .ok (.aload_n 0, 1) := by decide +kernel
theorem dX5_copy_52 : decode cX5_copy 52 = .ok (.getfield 25, 3) := by decide +kernel
theorem dX5_copy_55 : decode cX5_copy 55 = .ok (.iconst 0, 1) := by decide +kernel
theorem dX5_copy_56 : decode cX5_copy 56 = .ok (.bipush 40, 2) := by decide +kernel
theorem dX5_copy_58 : decode cX5_copy 58 = .ok (.invokestatic 31, 3) := by decide +kernel
theorem dX5_copy_61 : decode cX5_copy 61 = .ok (.return_, 1) := by decide +kernel
theorem dX8_copy_0 : decode cX8_copy 0 = .ok (.aload_n 0, 1) := by decide +kernel
theorem dX8_copy_1 : decode cX8_copy 1 = .ok (.getfield 16, 3) := by decide +kernel
theorem dX8_copy_4 : decode cX8_copy 4 = .ok (.aload_n 1, 1) := by decide +kernel
theorem dX8_copy_5 : decode cX8_copy 5 = .ok (.getfield 16, 3) := by decide +kernel
theorem dX8_copy_8 : decode cX8_copy 8 = .ok (.invokevirtual 41, 3) := by decide +kernel
theorem dX8_copy_11 : decode cX8_copy 11 = .ok (.aload_n 0, 1) := by decide +kernel
theorem dX8_copy_12 : decode cX8_copy 12 = .ok (.getfield 23, 3) := by decide +kernel
theorem dX8_copy_15 : decode cX8_copy 15 = .ok (.aload_n 1, 1) := by decide +kernel
theorem dX8_copy_16 : decode cX8_copy 16 = .ok (.getfield 23, 3) := by decide +kernel
theorem dX8_copy_19 : decode cX8_copy 19 = .ok (.invokevirtual 45, 3) := by decide +kernel
theorem dX8_copy_22 : decode cX8_copy 22 = .ok (.aload_n 0, 1) := by decide +kernel
theorem dX8_copy_23 : decode cX8_copy 23 = .ok (.getfield 30, 3) := by decide +kernel
theorem dX8_copy_26 : decode cX8_copy 26 = .ok (.aload_n 1, 1) := by decide +kernel
theorem dX8_copy_27 : decode cX8_copy 27 = .ok (.getfield 30, 3) := by decide +kernel
theorem dX8_copy_30 : decode cX8_copy 30 = .ok (.invokevirtual 48, 3) := by decide +kernel
theorem dX8_copy_33 : decode cX8_copy 33 = .ok (.aload_n 0, 1) := by decide +kernel
theorem dX8_copy_34 : decode cX8_copy 34 = .ok (.getfield 37, 3) := by decide +kernel
theorem dX8_copy_37 : decode cX8_copy 37 = .ok (.aload_n 1, 1) := by decide +kernel
theorem dX8_copy_38 : decode cX8_copy 38 = .ok (.getfield 37, 3) := by decide +kernel
theorem dX8_copy_41 : decode cX8_copy 41 = .ok (.invokevirtual 51, 3) := by decide +kernel
theorem dX8_copy_44 : decode cX8_copy 44 = .ok (.return_, 1) := by decide +kernel
theorem dX10_image_0 : decode cX10_image 0 = .ok (.iload_n 1, 1) := by decide +kernel
theorem dX10_image_1 : decode cX10_image 1 = .ok (.ifCond .lt 8, 3) := by decide +kernel
theorem dX10_image_4 : decode cX10_image 4 = .ok (.iload_n 1, 1) := by decide +kernel
theorem dX10_image_5 : decode cX10_image 5 = .ok (.iconst 2, 1) := by decide +kernel
theorem dX10_image_6 : decode cX10_image 6 = .ok (.if_icmp .lt 5, 3) := by decide +kernel
theorem dX10_image_9 : decode cX10_image 9 = .ok (.iconst 0, 1) := by decide +kernel
theorem dX10_image_10 : decode cX10_image 10 = .ok (.ireturn, 1) := by decide +kernel
theorem dX10_image_11 : decode cX10_image 11 = .ok (.aload_n 0, 1) := by decide +kernel
theorem dX10_image_12 : decode cX10_image 12 = .ok (.getfield 34, 3) := by decide +kernel
theorem dX10_image_15 : decode cX10_image 15 = .ok (.iload_n 1, 1) := by decide +kernel
theorem dX10_image_16 : decode cX10_image 16 = .ok (.aaload, 1) := by decide +kernel
theorem dX10_image_17 : decode cX10_image 17 = .ok (.aload_n 0, 1) := by decide +kernel
theorem dX10_image_18 : decode cX10_image 18 = .ok (.getfield 30, 3) := by decide +kernel
theorem dX10_image_21 : decode cX10_image 21 = .ok (.invokevirtual 388, 3) := by decide +kernel
theorem dX10_image_24 : decode cX10_image 24 = .ok (.aload_n 0, 1) := by decide +kernel
theorem dX10_image_25 : decode cX10_image 25 = .ok (.getfield 34, 3) := by decide +kernel
theorem dX10_image_28 : decode cX10_image 28 = .ok (.iload_n 1, 1) := by decide +kernel
theorem dX10_image_29 : decode cX10_image 29 = .ok (.aaload, 1) := by decide +kernel
theorem dX10_image_30 : decode cX10_image 30 = .ok (.iconst 1, 1) := by decide +kernel
theorem dX10_image_31 : decode cX10_image 31 = .ok (.putfield 391, 3) := by decide +kernel
theorem dX10_image_34 : decode cX10_image 34 = .ok (.iconst 1, 1) := by decide +kernel
theorem dX10_image_35 : decode cX10_image 35 = .ok (.ireturn, 1) := by decide +kernel
theorem dX10_restore_0 : decode cX10_restore 0 = .ok (.iload_n 1, 1) := by decide +kernel
theorem dX10_restore_1 : decode cX10_restore 1 = .ok (.ifCond .lt 20, 3) := by decide +kernel
theorem dX10_restore_4 : decode cX10_restore 4 = .ok (.iload_n 1, 1) := by decide +kernel
theorem dX10_restore_5 : decode cX10_restore 5 = .ok (.iconst 2, 1) := by decide +kernel
theorem dX10_restore_6 : decode cX10_restore 6 = .ok (.if_icmp .ge 15, 3) := by decide +kernel
theorem dX10_restore_9 : decode cX10_restore 9 = .ok (.aload_n 0, 1) := by decide +kernel
theorem dX10_restore_10 : decode cX10_restore 10 = .ok (.getfield 34, 3) := by decide +kernel
theorem dX10_restore_13 : decode cX10_restore 13 = .ok (.iload_n 1, 1) := by decide +kernel
theorem dX10_restore_14 : decode cX10_restore 14 = .ok (.aaload, 1) := by decide +kernel
theorem dX10_restore_15 : decode cX10_restore 15 = .ok (.getfield 391, 3) := by decide +kernel
theorem dX10_restore_18 : decode cX10_restore 18 = .ok (.ifCond .ne 5, 3) := by decide +kernel
theorem dX10_restore_21 : decode cX10_restore 21 = .ok (.iconst 0, 1) := by decide +kernel
theorem dX10_restore_22 : decode cX10_restore 22 = .ok (.ireturn, 1) := by decide +kernel
theorem dX10_restore_23 : decode cX10_restore 23 = .ok (.aload_n 0, 1) := by decide +kernel
theorem dX10_restore_24 : decode cX10_restore 24 = .ok (.getfield 30, 3) := by decide +kernel
theorem dX10_restore_27 : decode cX10_restore 27 = .ok (.aload_n 0, 1) := by decide +kernel
theorem dX10_restore_28 : decode cX10_restore 28 = .ok (.getfield 34, 3) := by decide +kernel
theorem dX10_restore_31 : decode cX10_restore 31 = .ok (.iload_n 1, 1) := by decide +kernel
theorem dX10_restore_32 : decode cX10_restore 32 = .ok (.aaload, 1) := by decide +kernel
theorem dX10_restore_33 : decode cX10_restore 33 = .ok (.invokevirtual 388, 3) := by decide +kernel
theorem dX10_restore_36 : decode cX10_restore 36 = .ok (.aload_n 0, 1) := by decide +kernel
theorem dX10_restore_37 : decode cX10_restore 37 = .ok (.getfield 62, 3) := by decide +kernel
theorem dX10_restore_40 : decode cX10_restore 40 = .ok (.invokevirtual 146, 3) := by decide +kernel
theorem dX10_restore_43 : decode cX10_restore 43 = .ok (.aload_n 0, 1) := by decide +kernel
theorem dX10_restore_44 : decode cX10_restore 44 = .ok (.getfield 76, 3) := by decide +kernel
theorem dX10_restore_47 : decode cX10_restore 47 = .ok (.iconst 0, 1) := by decide +kernel
theorem dX10_restore_48 : decode cX10_restore 48 = .ok (.putfield 149, 3) := by decide +kernel
theorem dX10_restore_51 : decode cX10_restore 51 = .ok (.iconst 1, 1) := by decide +kernel
theorem dX10_restore_52 : decode cX10_restore 52 = .ok (.ireturn, 1) := by decide +kernel
theorem dX11_thrown_0 : decode cX11_thrown 0 = .ok (.aload_n 0, 1) := by decide +kernel
theorem dX11_thrown_1 : decode cX11_thrown 1 = .ok (.getfield 1, 3) := by decide +kernel
theorem dX11_thrown_4 : decode cX11_thrown 4 = .ok (.ireturn, 1) := by decide +kernel
theorem dX11_four_0 : decode cX11_four 0 = .ok (.bipush 24, 2) := by decide +kernel
theorem dX11_four_2 : decode cX11_four 2 = .ok (.istore_n 2, 1) := by decide +kernel
theorem dX11_four_3 : decode cX11_four 3 = .ok (.iload_n 2, 1) := by decide +kernel
theorem dX11_four_4 : decode cX11_four 4 = .ok (.ifCond .lt 32, 3) := by decide +kernel
theorem dX11_four_7 : decode cX11_four 7 = .ok (.aload_n 0, 1) := by decide +kernel
theorem dX11_four_8 : decode cX11_four 8 = .ok (.getfield 14, 3) := by decide +kernel
theorem dX11_four_11 : decode cX11_four 11 = .ok (.aload_n 0, 1) := by decide +kernel
theorem dX11_four_12 : decode cX11_four 12 = .ok (.getfield 7, 3) := by decide +kernel
theorem dX11_four_15 : decode cX11_four 15 = .ok (.iload_n 1, 1) := by decide +kernel
theorem dX11_four_16 : decode cX11_four 16 = .ok (.iload_n 2, 1) := by decide +kernel
theorem dX11_four_17 : decode cX11_four 17 = .ok (.ishr, 1) := by decide +kernel
theorem dX11_four_18 : decode cX11_four 18 = .ok (.i2b, 1) := by decide +kernel
theorem dX11_four_19 : decode cX11_four 19 = .ok (.bastore, 1) := by decide +kernel
theorem dX11_four_20 : decode cX11_four 20 = .ok (.aload_n 0, 1) := by decide +kernel
theorem dX11_four_21 : decode cX11_four 21 = .ok (.dup, 1) := by decide +kernel
theorem dX11_four_22 : decode cX11_four 22 = .ok (.getfield 7, 3) := by decide +kernel
theorem dX11_four_25 : decode cX11_four 25 = .ok (.iconst 1, 1) := by decide +kernel
theorem dX11_four_26 : decode cX11_four 26 = .ok (.iadd, 1) := by decide +kernel
theorem dX11_four_27 : decode cX11_four 27 = .ok (.putfield 7, 3) := by decide +kernel
theorem dX11_four_30 : decode cX11_four 30 = .ok (.iinc 2 (-8), 3) := by decide +kernel
theorem dX11_four_33 : decode cX11_four 33 = .ok (.goto (-30), 3) := by decide +kernel
theorem dX11_four_36 : decode cX11_four 36 = .ok (.return_, 1) := by decide +kernel
theorem dX11_feed_0 : decode cX11_feed 0 = .ok (.aload_n 0, 1) := by decide +kernel
theorem dX11_feed_1 : decode cX11_feed 1 = .ok (.iconst 0, 1) := by decide +kernel
theorem dX11_feed_2 : decode cX11_feed 2 = .ok (.putfield 1, 3) := by decide +kernel
theorem dX11_feed_5 : decode cX11_feed 5 = .ok (.aload_n 0, 1) := by decide +kernel
theorem dX11_feed_6 : decode cX11_feed 6 = .ok (.getfield 7, 3) := by decide +kernel
theorem dX11_feed_9 : decode cX11_feed 9 = .ok (.bipush 20, 2) := by decide +kernel
theorem dX11_feed_11 : decode cX11_feed 11 = .ok (.iadd, 1) := by decide +kernel
theorem dX11_feed_12 : decode cX11_feed 12 = .ok (.sipush 940, 3) := by decide +kernel
theorem dX11_feed_15 : decode cX11_feed 15 = .ok (.if_icmp .le 5, 3) := by decide +kernel
theorem dX11_feed_18 : decode cX11_feed 18 = .ok (.iconst (-1), 1) := by decide +kernel
theorem dX11_feed_19 : decode cX11_feed 19 = .ok (.ireturn, 1) := by decide +kernel
theorem dX11_feed_20 : decode cX11_feed 20 = .ok (.aload_n 0, 1) := by decide +kernel
theorem dX11_feed_21 : decode cX11_feed 21 = .ok (.iload_n 1, 1) := by decide +kernel
theorem dX11_feed_22 : decode cX11_feed 22 = .ok (.invokevirtual 10, 3) := by decide +kernel
theorem dX11_feed_25 : decode cX11_feed 25 = .ok (.aload_n 0, 1) := by decide +kernel
theorem dX11_feed_26 : decode cX11_feed 26 = .ok (.iload_n 2, 1) := by decide +kernel
theorem dX11_feed_27 : decode cX11_feed 27 = .ok (.invokevirtual 10, 3) := by decide +kernel
theorem dX11_feed_30 : decode cX11_feed 30 = .ok (.aload_n 0, 1) := by decide +kernel
theorem dX11_feed_31 : decode cX11_feed 31 = .ok (.iload_n 3, 1) := by decide +kernel
theorem dX11_feed_32 : decode cX11_feed 32 = .ok (.invokevirtual 10, 3) := by decide +kernel
theorem dX11_feed_35 : decode cX11_feed 35 = .ok (.aload_n 0, 1) := by decide +kernel
theorem dX11_feed_36 : decode cX11_feed 36 = .ok (.iload 4, 2) := by decide +kernel
theorem dX11_feed_38 : decode cX11_feed 38 = .ok (.invokevirtual 10, 3) := by decide +kernel
theorem dX11_feed_41 : decode cX11_feed 41 = .ok (.aload_n 0, 1) := by decide +kernel
theorem dX11_feed_42 : decode cX11_feed 42 = .ok (.iload 5, 2) := by decide +kernel
theorem dX11_feed_44 : decode cX11_feed 44 = .ok (.invokevirtual 10, 3) := by decide +kernel
theorem dX11_feed_47 : decode cX11_feed 47 = .ok (.aload_n 0, 1) := by decide +kernel
theorem dX11_feed_48 : decode cX11_feed 48 = .ok (.getfield 7, 3) := by decide +kernel
theorem dX11_feed_51 : decode cX11_feed 51 = .ok (.ireturn, 1) := by decide +kernel
theorem dX11_end_0 : decode cX11_end 0 = .ok (.aload_n 0, 1) := by decide +kernel
theorem dX11_end_1 : decode cX11_end 1 = .ok (.iconst 0, 1) := by decide +kernel
theorem dX11_end_2 : decode cX11_end 2 = .ok (.putfield 1, 3) := by decide +kernel
theorem dX11_end_5 : decode cX11_end 5 = .ok (.iload_n 1, 1) := by decide +kernel
theorem dX11_end_6 : decode cX11_end 6 = .ok (.ifCond .lt 11, 3) := by decide +kernel
theorem dX11_end_9 : decode cX11_end 9 = .ok (.iload_n 1, 1) := by decide +kernel
theorem dX11_end_10 : decode cX11_end 10 = .ok (.aload_n 0, 1) := by decide +kernel
theorem dX11_end_11 : decode cX11_end 11 = .ok (.getfield 7, 3) := by decide +kernel
theorem dX11_end_14 : decode cX11_end 14 = .ok (.if_icmp .le 5, 3) := by decide +kernel
theorem dX11_end_17 : decode cX11_end 17 = .ok (.iconst 0, 1) := by decide +kernel
theorem dX11_end_18 : decode cX11_end 18 = .ok (.ireturn, 1) := by decide +kernel
theorem dX11_end_19 : decode cX11_end 19 = .ok (.aload_n 0, 1) := by decide +kernel
theorem dX11_end_20 : decode cX11_end 20 = .ok (.iload_n 1, 1) := by decide +kernel
theorem dX11_end_21 : decode cX11_end 21 = .ok (.putfield 7, 3) := by decide +kernel
theorem dX11_end_24 : decode cX11_end 24 = .ok (.iconst 1, 1) := by decide +kernel
theorem dX11_end_25 : decode cX11_end 25 = .ok (.ireturn, 1) := by decide +kernel
theorem dX11_taken_0 : decode cX11_taken 0 = .ok (.aload_n 0, 1) := by decide +kernel
theorem dX11_taken_1 : decode cX11_taken 1 = .ok (.aload_n 0, 1) := by decide +kernel
theorem dX11_taken_2 : decode cX11_taken 2 = .ok (.getfield 7, 3) := by decide +kernel
theorem dX11_taken_5 : decode cX11_taken 5 = .ok (.putfield 18, 3) := by decide +kernel
theorem dX11_taken_8 : decode cX11_taken 8 = .ok (.aload_n 0, 1) := by decide +kernel
theorem dX11_taken_9 : decode cX11_taken 9 = .ok (.iconst 0, 1) := by decide +kernel
theorem dX11_taken_10 : decode cX11_taken 10 = .ok (.putfield 7, 3) := by decide +kernel
theorem dX11_taken_13 : decode cX11_taken 13 = .ok (.aload_n 0, 1) := by decide +kernel
theorem dX11_taken_14 : decode cX11_taken 14 = .ok (.iconst 0, 1) := by decide +kernel
theorem dX11_taken_15 : decode cX11_taken 15 = .ok (.putfield 21, 3) := by decide +kernel
theorem dX11_taken_18 : decode cX11_taken 18 = .ok (.aload_n 0, 1) := by decide +kernel
theorem dX11_taken_19 : decode cX11_taken 19 = .ok (.iload_n 1, 1) := by decide +kernel
theorem dX11_taken_20 : decode cX11_taken 20 = .ok (.putfield 24, 3) := by decide +kernel
theorem dX11_taken_23 : decode cX11_taken 23 = .ok (.return_, 1) := by decide +kernel
theorem dX11_peek_0 : decode cX11_peek 0 = .ok (.aload_n 0, 1) := by decide +kernel
theorem dX11_peek_1 : decode cX11_peek 1 = .ok (.getfield 21, 3) := by decide +kernel
theorem dX11_peek_4 : decode cX11_peek 4 = .ok (.aload_n 0, 1) := by decide +kernel
theorem dX11_peek_5 : decode cX11_peek 5 = .ok (.getfield 18, 3) := by decide +kernel
theorem dX11_peek_8 : decode cX11_peek 8 = .ok (.if_icmp .ge 19, 3) := by decide +kernel
theorem dX11_peek_11 : decode cX11_peek 11 = .ok (.aload_n 0, 1) := by decide +kernel
theorem dX11_peek_12 : decode cX11_peek 12 = .ok (.getfield 14, 3) := by decide +kernel
theorem dX11_peek_15 : decode cX11_peek 15 = .ok (.aload_n 0, 1) := by decide +kernel
theorem dX11_peek_16 : decode cX11_peek 16 = .ok (.getfield 21, 3) := by decide +kernel
theorem dX11_peek_19 : decode cX11_peek 19 = .ok (.baload, 1) := by decide +kernel
theorem dX11_peek_20 : decode cX11_peek 20 = .ok (.sipush 255, 3) := by decide +kernel
theorem dX11_peek_23 : decode cX11_peek 23 = .ok (.iand, 1) := by decide +kernel
theorem dX11_peek_24 : decode cX11_peek 24 = .ok (.goto 4, 3) := by decide +kernel
theorem dX11_peek_27 : decode cX11_peek 27 = .ok (.iconst (-1), 1) := by decide +kernel
theorem dX11_peek_28 : decode cX11_peek 28 = .ok (.ireturn, 1) := by decide +kernel
theorem dX11_isSmall_0 : decode cX11_isSmall 0 = .ok (.iload_n 0, 1) := by decide +kernel
theorem dX11_isSmall_1 : decode cX11_isSmall 1 = .ok (.bipush 97, 2) := by decide +kernel
theorem dX11_isSmall_3 : decode cX11_isSmall 3 = .ok (.if_icmp .lt 13, 3) := by decide +kernel
theorem dX11_isSmall_6 : decode cX11_isSmall 6 = .ok (.iload_n 0, 1) := by decide +kernel
theorem dX11_isSmall_7 : decode cX11_isSmall 7 = .ok (.bipush 122, 2) := by decide +kernel
theorem dX11_isSmall_9 : decode cX11_isSmall 9 = .ok (.if_icmp .gt 7, 3) := by decide +kernel
theorem dX11_isSmall_12 : decode cX11_isSmall 12 = .ok (.iconst 1, 1) := by decide +kernel
theorem dX11_isSmall_13 : decode cX11_isSmall 13 = .ok (.goto 4, 3) := by decide +kernel
theorem dX11_isSmall_16 : decode cX11_isSmall 16 = .ok (.iconst 0, 1) := by decide +kernel
theorem dX11_isSmall_17 : decode cX11_isSmall 17 = .ok (.ireturn, 1) := by decide +kernel
theorem dX11_isDigit_0 : decode cX11_isDigit 0 = .ok (.iload_n 0, 1) := by decide +kernel
theorem dX11_isDigit_1 : decode cX11_isDigit 1 = .ok (.bipush 48, 2) := by decide +kernel
theorem dX11_isDigit_3 : decode cX11_isDigit 3 = .ok (.if_icmp .lt 13, 3) := by decide +kernel
theorem dX11_isDigit_6 : decode cX11_isDigit 6 = .ok (.iload_n 0, 1) := by decide +kernel
theorem dX11_isDigit_7 : decode cX11_isDigit 7 = .ok (.bipush 57, 2) := by decide +kernel
theorem dX11_isDigit_9 : decode cX11_isDigit 9 = .ok (.if_icmp .gt 7, 3) := by decide +kernel
theorem dX11_isDigit_12 : decode cX11_isDigit 12 = .ok (.iconst 1, 1) := by decide +kernel
theorem dX11_isDigit_13 : decode cX11_isDigit 13 = .ok (.goto 4, 3) := by decide +kernel
theorem dX11_isDigit_16 : decode cX11_isDigit 16 = .ok (.iconst 0, 1) := by decide +kernel
theorem dX11_isDigit_17 : decode cX11_isDigit 17 = .ok (.ireturn, 1) := by decide +kernel
theorem dX11_next_0 : decode cX11_next 0 = .ok (.aload_n 0, 1) := by decide +kernel
theorem dX11_next_1 : decode cX11_next 1 = .ok (.invokevirtual 138, 3) := by decide +kernel
theorem dX11_next_4 : decode cX11_next 4 = .ok (.bipush 32, 2) := by decide +kernel
theorem dX11_next_6 : decode cX11_next 6 = .ok (.if_icmp .eq 12, 3) := by decide +kernel
theorem dX11_next_9 : decode cX11_next 9 = .ok (.aload_n 0, 1) := by decide +kernel
theorem dX11_next_10 : decode cX11_next 10 = .ok (.invokevirtual 138, 3) := by decide +kernel
theorem dX11_next_13 : decode cX11_next 13 = .ok (.bipush 10, 2) := by decide +kernel
theorem dX11_next_15 : decode cX11_next 15 = .ok (.if_icmp .ne 16, 3) := by decide +kernel
theorem dX11_next_18 : decode cX11_next 18 = .ok (.aload_n 0, 1) := by decide +kernel
theorem dX11_next_19 : decode cX11_next 19 = .ok (.dup, 1) := by decide +kernel
theorem dX11_next_20 : decode cX11_next 20 = .ok (.getfield 21, 3) := by decide +kernel
theorem dX11_next_23 : decode cX11_next 23 = .ok (.iconst 1, 1) := by decide +kernel
theorem dX11_next_24 : decode cX11_next 24 = .ok (.iadd, 1) := by decide +kernel
theorem dX11_next_25 : decode cX11_next 25 = .ok (.putfield 21, 3) := by decide +kernel
theorem dX11_next_28 : decode cX11_next 28 = .ok (.goto (-28), 3) := by decide +kernel
theorem dX11_next_31 : decode cX11_next 31 = .ok (.aload_n 0, 1) := by decide +kernel
theorem dX11_next_32 : decode cX11_next 32 = .ok (.aload_n 0, 1) := by decide +kernel
theorem dX11_next_33 : decode cX11_next 33 = .ok (.getfield 21, 3) := by decide +kernel
theorem dX11_next_36 : decode cX11_next 36 = .ok (.putfield 142, 3) := by decide +kernel
theorem dX11_next_39 : decode cX11_next 39 = .ok (.aload_n 0, 1) := by decide +kernel
theorem dX11_next_40 : decode cX11_next 40 = .ok (.iconst 0, 1) := by decide +kernel
theorem dX11_next_41 : decode cX11_next 41 = .ok (.putfield 145, 3) := by decide +kernel
theorem dX11_next_44 : decode cX11_next 44 = .ok (.aload_n 0, 1) := by decide +kernel
theorem dX11_next_45 : decode cX11_next 45 = .ok (.getfield 18, 3) := by decide +kernel
theorem dX11_next_48 : decode cX11_next 48 = .ok (.aload_n 0, 1) := by decide +kernel
theorem dX11_next_49 : decode cX11_next 49 = .ok (.getfield 24, 3) := by decide +kernel
theorem dX11_next_52 : decode cX11_next 52 = .ok (.if_icmp .le 28, 3) := by decide +kernel
theorem dX11_next_55 : decode cX11_next 55 = .ok (.aload_n 0, 1) := by decide +kernel
theorem dX11_next_56 : decode cX11_next 56 = .ok (.getfield 21, 3) := by decide +kernel
theorem dX11_next_59 : decode cX11_next 59 = .ok (.aload_n 0, 1) := by decide +kernel
theorem dX11_next_60 : decode cX11_next 60 = .ok (.getfield 24, 3) := by decide +kernel
theorem dX11_next_63 : decode cX11_next 63 = .ok (.if_icmp .lt 17, 3) := by decide +kernel
theorem dX11_next_66 : decode cX11_next 66 = .ok (.aload_n 0, 1) := by decide +kernel
theorem dX11_next_67 : decode cX11_next 67 = .ok (.aload_n 0, 1) := by decide +kernel
theorem dX11_next_68 : decode cX11_next 68 = .ok (.getfield 24, 3) := by decide +kernel
theorem dX11_next_71 : decode cX11_next 71 = .ok (.putfield 142, 3) := by decide +kernel
theorem dX11_next_74 : decode cX11_next 74 = .ok (.aload_n 0, 1) := by decide +kernel
theorem dX11_next_75 : decode cX11_next 75 = .ok (.iconst 4, 1) := by decide +kernel
theorem dX11_next_76 : decode cX11_next 76 = .ok (.putfield 148, 3) := by decide +kernel
theorem dX11_next_79 : decode cX11_next 79 = .ok (.return_, 1) := by decide +kernel
theorem dX11_next_80 : decode cX11_next 80 = .ok (.aload_n 0, 1) := by decide +kernel
theorem dX11_next_81 : decode cX11_next 81 = .ok (.invokevirtual 138, 3) := by decide +kernel
theorem dX11_next_84 : decode cX11_next 84 = .ok (.istore_n 1, 1) := by decide +kernel
theorem dX11_next_85 : decode cX11_next 85 = .ok (.iload_n 1, 1) := by decide +kernel
theorem dX11_next_86 : decode cX11_next 86 = .ok (.ifCond .ge 9, 3) := by decide +kernel
theorem dX11_next_89 : decode cX11_next 89 = .ok (.aload_n 0, 1) := by decide +kernel
theorem dX11_next_90 : decode cX11_next 90 = .ok (.iconst 0, 1) := by decide +kernel
theorem dX11_next_91 : decode cX11_next 91 = .ok (.putfield 148, 3) := by decide +kernel
theorem dX11_next_94 : decode cX11_next 94 = .ok (.return_, 1) := by decide +kernel
theorem dX11_next_95 : decode cX11_next 95 = .ok (.iload_n 1, 1) := by decide +kernel
theorem dX11_next_96 : decode cX11_next 96 = .ok (.invokestatic 151, 3) := by decide +kernel
theorem dX11_next_99 : decode cX11_next 99 = .ok (.ifCond .ne 65, 3) := by decide +kernel
theorem dX11_next_102 : decode cX11_next 102 = .ok (.iload_n 1, 1) := by decide +kernel
theorem dX11_next_103 : decode cX11_next 103 = .ok (.invokestatic 155, 3) := by decide +kernel
theorem dX11_next_106 : decode cX11_next 106 = .ok (.ifCond .ne 58, 3) := by decide +kernel
theorem dX11_next_109 : decode cX11_next 109 = .ok (.aload_n 0, 1) := by decide +kernel
theorem dX11_next_110 : decode cX11_next 110 = .ok (.iload_n 1, 1) := by decide +kernel
theorem dX11_next_111 : decode cX11_next 111 = .ok (.bipush 59, 2) := by decide +kernel
theorem dX11_next_113 : decode cX11_next 113 = .ok (.if_icmp .eq 27, 3) := by decide +kernel
theorem dX11_next_116 : decode cX11_next 116 = .ok (.iload_n 1, 1) := by decide +kernel
theorem dX11_next_117 : decode cX11_next 117 = .ok (.bipush 40, 2) := by decide +kernel
theorem dX11_next_119 : decode cX11_next 119 = .ok (.if_icmp .eq 21, 3) := by decide +kernel
theorem dX11_next_122 : decode cX11_next 122 = .ok (.iload_n 1, 1) := by decide +kernel
theorem dX11_next_123 : decode cX11_next 123 = .ok (.bipush 41, 2) := by decide +kernel
theorem dX11_next_125 : decode cX11_next 125 = .ok (.if_icmp .eq 15, 3) := by decide +kernel
theorem dX11_next_128 : decode cX11_next 128 = .ok (.iload_n 1, 1) := by decide +kernel
theorem dX11_next_129 : decode cX11_next 129 = .ok (.bipush 60, 2) := by decide +kernel
theorem dX11_next_131 : decode cX11_next 131 = .ok (.if_icmp .lt 13, 3) := by decide +kernel
theorem dX11_next_134 : decode cX11_next 134 = .ok (.iload_n 1, 1) := by decide +kernel
theorem dX11_next_135 : decode cX11_next 135 = .ok (.bipush 62, 2) := by decide +kernel
theorem dX11_next_137 : decode cX11_next 137 = .ok (.if_icmp .gt 7, 3) := by decide +kernel
theorem dX11_next_140 : decode cX11_next 140 = .ok (.iconst 3, 1) := by decide +kernel
theorem dX11_next_141 : decode cX11_next 141 = .ok (.goto 4, 3) := by decide +kernel
theorem dX11_next_144 : decode cX11_next 144 = .ok (.iconst 4, 1) := by decide +kernel
theorem dX11_next_145 : decode cX11_next 145 = .ok (.putfield 148, 3) := by decide +kernel
theorem dX11_next_148 : decode cX11_next 148 = .ok (.aload_n 0, 1) := by decide +kernel
theorem dX11_next_149 : decode cX11_next 149 = .ok (.iload_n 1, 1) := by decide +kernel
theorem dX11_next_150 : decode cX11_next 150 = .ok (.putfield 158, 3) := by decide +kernel
theorem dX11_next_153 : decode cX11_next 153 = .ok (.aload_n 0, 1) := by decide +kernel
theorem dX11_next_154 : decode cX11_next 154 = .ok (.dup, 1) := by decide +kernel
theorem dX11_next_155 : decode cX11_next 155 = .ok (.getfield 21, 3) := by decide +kernel
theorem dX11_next_158 : decode cX11_next 158 = .ok (.iconst 1, 1) := by decide +kernel
theorem dX11_next_159 : decode cX11_next 159 = .ok (.iadd, 1) := by decide +kernel
theorem dX11_next_160 : decode cX11_next 160 = .ok (.putfield 21, 3) := by decide +kernel
theorem dX11_next_163 : decode cX11_next 163 = .ok (.return_, 1) := by decide +kernel
theorem dX11_next_164 : decode cX11_next 164 = .ok (.iload_n 1, 1) := by decide +kernel
theorem dX11_next_165 : decode cX11_next 165 = .ok (.invokestatic 151, 3) := by decide +kernel
theorem dX11_next_168 : decode cX11_next 168 = .ok (.istore_n 2, 1) := by decide +kernel
theorem dX11_next_169 : decode cX11_next 169 = .ok (.iconst 1, 1) := by decide +kernel
theorem dX11_next_170 : decode cX11_next 170 = .ok (.istore_n 3, 1) := by decide +kernel
theorem dX11_next_171 : decode cX11_next 171 = .ok (.aload_n 0, 1) := by decide +kernel
theorem dX11_next_172 : decode cX11_next 172 = .ok (.lconst 0, 1) := by decide +kernel
theorem dX11_next_173 : decode cX11_next 173 = .ok (.putfield 161, 3) := by decide +kernel
theorem dX11_next_176 : decode cX11_next 176 = .ok (.aload_n 0, 1) := by decide +kernel
theorem dX11_next_177 : decode cX11_next 177 = .ok (.iconst 0, 1) := by decide +kernel
theorem dX11_next_178 : decode cX11_next 178 = .ok (.putfield 158, 3) := by decide +kernel
theorem dX11_next_181 : decode cX11_next 181 = .ok (.aload_n 0, 1) := by decide +kernel
theorem dX11_next_182 : decode cX11_next 182 = .ok (.invokevirtual 138, 3) := by decide +kernel
theorem dX11_next_185 : decode cX11_next 185 = .ok (.invokestatic 151, 3) := by decide +kernel
theorem dX11_next_188 : decode cX11_next 188 = .ok (.ifCond .ne 13, 3) := by decide +kernel
theorem dX11_next_191 : decode cX11_next 191 = .ok (.aload_n 0, 1) := by decide +kernel
theorem dX11_next_192 : decode cX11_next 192 = .ok (.invokevirtual 138, 3) := by decide +kernel
theorem dX11_next_195 : decode cX11_next 195 = .ok (.invokestatic 155, 3) := by decide +kernel
theorem dX11_next_198 : decode cX11_next 198 = .ok (.ifCond .eq 100, 3) := by decide +kernel
theorem dX11_next_201 : decode cX11_next 201 = .ok (.iload_n 3, 1) := by decide +kernel
theorem dX11_next_202 : decode cX11_next 202 = .ok (.ifCond .eq 18, 3) := by decide +kernel
theorem dX11_next_205 : decode cX11_next 205 = .ok (.aload_n 0, 1) := by decide +kernel
theorem dX11_next_206 : decode cX11_next 206 = .ok (.invokevirtual 138, 3) := by decide +kernel
theorem dX11_next_209 : decode cX11_next 209 = .ok (.invokestatic 151, 3) := by decide +kernel
theorem dX11_next_212 : decode cX11_next 212 = .ok (.iload_n 2, 1) := by decide +kernel
theorem dX11_next_213 : decode cX11_next 213 = .ok (.if_icmp .ne 7, 3) := by decide +kernel
theorem dX11_next_216 : decode cX11_next 216 = .ok (.iconst 1, 1) := by decide +kernel
theorem dX11_next_217 : decode cX11_next 217 = .ok (.goto 4, 3) := by decide +kernel
theorem dX11_next_220 : decode cX11_next 220 = .ok (.iconst 0, 1) := by decide +kernel
theorem dX11_next_221 : decode cX11_next 221 = .ok (.istore_n 3, 1) := by decide +kernel
theorem dX11_next_222 : decode cX11_next 222 = .ok (.aload_n 0, 1) := by decide +kernel
theorem dX11_next_223 : decode cX11_next 223 = .ok (.getfield 145, 3) := by decide +kernel
theorem dX11_next_226 : decode cX11_next 226 = .ok (.bipush 6, 2) := by decide +kernel
theorem dX11_next_228 : decode cX11_next 228 = .ok (.if_icmp .ge 20, 3) := by decide +kernel
theorem dX11_next_231 : decode cX11_next 231 = .ok (.aload_n 0, 1) := by decide +kernel
theorem dX11_next_232 : decode cX11_next 232 = .ok (.aload_n 0, 1) := by decide +kernel
theorem dX11_next_233 : decode cX11_next 233 = .ok (.getfield 161, 3) := by decide +kernel
theorem dX11_next_236 : decode cX11_next 236 = .ok (.bipush 8, 2) := by decide +kernel
theorem dX11_next_238 : decode cX11_next 238 = .ok (.lshl, 1) := by decide +kernel
theorem dX11_next_239 : decode cX11_next 239 = .ok (.aload_n 0, 1) := by decide +kernel
theorem dX11_next_240 : decode cX11_next 240 = .ok (.invokevirtual 138, 3) := by decide +kernel
theorem dX11_next_243 : decode cX11_next 243 = .ok (.i2l, 1) := by decide +kernel
theorem dX11_next_244 : decode cX11_next 244 = .ok (.lor, 1) := by decide +kernel
theorem dX11_next_245 : decode cX11_next 245 = .ok (.putfield 161, 3) := by decide +kernel
theorem dX11_next_248 : decode cX11_next 248 = .ok (.aload_n 0, 1) := by decide +kernel
theorem dX11_next_249 : decode cX11_next 249 = .ok (.getfield 145, 3) := by decide +kernel
theorem dX11_next_252 : decode cX11_next 252 = .ok (.iconst 3, 1) := by decide +kernel
theorem dX11_next_253 : decode cX11_next 253 = .ok (.if_icmp .ge 22, 3) := by decide +kernel
theorem dX11_next_256 : decode cX11_next 256 = .ok (.aload_n 0, 1) := by decide +kernel
theorem dX11_next_257 : decode cX11_next 257 = .ok (.bipush 10, 2) := by decide +kernel
theorem dX11_next_259 : decode cX11_next 259 = .ok (.aload_n 0, 1) := by decide +kernel
theorem dX11_next_260 : decode cX11_next 260 = .ok (.getfield 158, 3) := by decide +kernel
theorem dX11_next_263 : decode cX11_next 263 = .ok (.imul, 1) := by decide +kernel
theorem dX11_next_264 : decode cX11_next 264 = .ok (.aload_n 0, 1) := by decide +kernel
theorem dX11_next_265 : decode cX11_next 265 = .ok (.invokevirtual 138, 3) := by decide +kernel
theorem dX11_next_268 : decode cX11_next 268 = .ok (.iadd, 1) := by decide +kernel
theorem dX11_next_269 : decode cX11_next 269 = .ok (.bipush 48, 2) := by decide +kernel
theorem dX11_next_271 : decode cX11_next 271 = .ok (.isub, 1) := by decide +kernel
theorem dX11_next_272 : decode cX11_next 272 = .ok (.putfield 158, 3) := by decide +kernel
theorem dX11_next_275 : decode cX11_next 275 = .ok (.aload_n 0, 1) := by decide +kernel
theorem dX11_next_276 : decode cX11_next 276 = .ok (.dup, 1) := by decide +kernel
theorem dX11_next_277 : decode cX11_next 277 = .ok (.getfield 145, 3) := by decide +kernel
theorem dX11_next_280 : decode cX11_next 280 = .ok (.iconst 1, 1) := by decide +kernel
theorem dX11_next_281 : decode cX11_next 281 = .ok (.iadd, 1) := by decide +kernel
theorem dX11_next_282 : decode cX11_next 282 = .ok (.putfield 145, 3) := by decide +kernel
theorem dX11_next_285 : decode cX11_next 285 = .ok (.aload_n 0, 1) := by decide +kernel
theorem dX11_next_286 : decode cX11_next 286 = .ok (.dup, 1) := by decide +kernel
theorem dX11_next_287 : decode cX11_next 287 = .ok (.getfield 21, 3) := by decide +kernel
theorem dX11_next_290 : decode cX11_next 290 = .ok (.iconst 1, 1) := by decide +kernel
theorem dX11_next_291 : decode cX11_next 291 = .ok (.iadd, 1) := by decide +kernel
theorem dX11_next_292 : decode cX11_next 292 = .ok (.putfield 21, 3) := by decide +kernel
theorem dX11_next_295 : decode cX11_next 295 = .ok (.goto (-114), 3) := by decide +kernel
theorem dX11_next_298 : decode cX11_next 298 = .ok (.aload_n 0, 1) := by decide +kernel
theorem dX11_next_299 : decode cX11_next 299 = .ok (.iload_n 3, 1) := by decide +kernel
theorem dX11_next_300 : decode cX11_next 300 = .ok (.ifCond .eq 20, 3) := by decide +kernel
theorem dX11_next_303 : decode cX11_next 303 = .ok (.aload_n 0, 1) := by decide +kernel
theorem dX11_next_304 : decode cX11_next 304 = .ok (.getfield 145, 3) := by decide +kernel
theorem dX11_next_307 : decode cX11_next 307 = .ok (.iload_n 2, 1) := by decide +kernel
theorem dX11_next_308 : decode cX11_next 308 = .ok (.ifCond .eq 8, 3) := by decide +kernel
theorem dX11_next_311 : decode cX11_next 311 = .ok (.bipush 6, 2) := by decide +kernel
theorem dX11_next_313 : decode cX11_next 313 = .ok (.goto 4, 3) := by decide +kernel
theorem dX11_next_316 : decode cX11_next 316 = .ok (.iconst 3, 1) := by decide +kernel
theorem dX11_next_317 : decode cX11_next 317 = .ok (.if_icmp .le 7, 3) := by decide +kernel
theorem dX11_next_320 : decode cX11_next 320 = .ok (.iconst 4, 1) := by decide +kernel
theorem dX11_next_321 : decode cX11_next 321 = .ok (.goto 12, 3) := by decide +kernel
theorem dX11_next_324 : decode cX11_next 324 = .ok (.iload_n 2, 1) := by decide +kernel
theorem dX11_next_325 : decode cX11_next 325 = .ok (.ifCond .eq 7, 3) := by decide +kernel
theorem dX11_next_328 : decode cX11_next 328 = .ok (.iconst 1, 1) := by decide +kernel
theorem dX11_next_329 : decode cX11_next 329 = .ok (.goto 4, 3) := by decide +kernel
theorem dX11_next_332 : decode cX11_next 332 = .ok (.iconst 2, 1) := by decide +kernel
theorem dX11_next_333 : decode cX11_next 333 = .ok (.putfield 148, 3) := by decide +kernel
theorem dX11_next_336 : decode cX11_next 336 = .ok (.return_, 1) := by decide +kernel
theorem dX11_isWord_0 : decode cX11_isWord 0 = .ok (.aload_n 0, 1) := by decide +kernel
theorem dX11_isWord_1 : decode cX11_isWord 1 = .ok (.getfield 148, 3) := by decide +kernel
theorem dX11_isWord_4 : decode cX11_isWord 4 = .ok (.iconst 1, 1) := by decide +kernel
theorem dX11_isWord_5 : decode cX11_isWord 5 = .ok (.if_icmp .ne 16, 3) := by decide +kernel
theorem dX11_isWord_8 : decode cX11_isWord 8 = .ok (.aload_n 0, 1) := by decide +kernel
theorem dX11_isWord_9 : decode cX11_isWord 9 = .ok (.getfield 161, 3) := by decide +kernel
theorem dX11_isWord_12 : decode cX11_isWord 12 = .ok (.lload_n 1, 1) := by decide +kernel
theorem dX11_isWord_13 : decode cX11_isWord 13 = .ok (.lcmp, 1) := by decide +kernel
theorem dX11_isWord_14 : decode cX11_isWord 14 = .ok (.ifCond .ne 7, 3) := by decide +kernel
theorem dX11_isWord_17 : decode cX11_isWord 17 = .ok (.iconst 1, 1) := by decide +kernel
theorem dX11_isWord_18 : decode cX11_isWord 18 = .ok (.goto 4, 3) := by decide +kernel
theorem dX11_isWord_21 : decode cX11_isWord 21 = .ok (.iconst 0, 1) := by decide +kernel
theorem dX11_isWord_22 : decode cX11_isWord 22 = .ok (.ireturn, 1) := by decide +kernel
theorem dX11_isIn_0 : decode cX11_isIn 0 = .ok (.iload_n 0, 1) := by decide +kernel
theorem dX11_isIn_1 : decode cX11_isIn 1 = .ok (.iload_n 1, 1) := by decide +kernel
theorem dX11_isIn_2 : decode cX11_isIn 2 = .ok (.if_icmp .lt 12, 3) := by decide +kernel
theorem dX11_isIn_5 : decode cX11_isIn 5 = .ok (.iload_n 0, 1) := by decide +kernel
theorem dX11_isIn_6 : decode cX11_isIn 6 = .ok (.iload_n 2, 1) := by decide +kernel
theorem dX11_isIn_7 : decode cX11_isIn 7 = .ok (.if_icmp .gt 7, 3) := by decide +kernel
theorem dX11_isIn_10 : decode cX11_isIn 10 = .ok (.iconst 1, 1) := by decide +kernel
theorem dX11_isIn_11 : decode cX11_isIn 11 = .ok (.goto 4, 3) := by decide +kernel
theorem dX11_isIn_14 : decode cX11_isIn 14 = .ok (.iconst 0, 1) := by decide +kernel
theorem dX11_isIn_15 : decode cX11_isIn 15 = .ok (.ireturn, 1) := by decide +kernel
theorem dX11_bad_0 : decode cX11_bad 0 = .ok (.aload_n 0, 1) := by decide +kernel
theorem dX11_bad_1 : decode cX11_bad 1 = .ok (.iload_n 1, 1) := by decide +kernel
theorem dX11_bad_2 : decode cX11_bad 2 = .ok (.putfield 165, 3) := by decide +kernel
theorem dX11_bad_5 : decode cX11_bad 5 = .ok (.aload_n 0, 1) := by decide +kernel
theorem dX11_bad_6 : decode cX11_bad 6 = .ok (.aload_n 0, 1) := by decide +kernel
theorem dX11_bad_7 : decode cX11_bad 7 = .ok (.getfield 142, 3) := by decide +kernel
theorem dX11_bad_10 : decode cX11_bad 10 = .ok (.putfield 168, 3) := by decide +kernel
theorem dX11_bad_13 : decode cX11_bad 13 = .ok (.iconst 0, 1) := by decide +kernel
theorem dX11_bad_14 : decode cX11_bad 14 = .ok (.ireturn, 1) := by decide +kernel
theorem dX11_takes_0 : decode cX11_takes 0 = .ok (.aload_n 0, 1) := by decide +kernel
theorem dX11_takes_1 : decode cX11_takes 1 = .ok (.getfield 148, 3) := by decide +kernel
theorem dX11_takes_4 : decode cX11_takes 4 = .ok (.iconst 2, 1) := by decide +kernel
theorem dX11_takes_5 : decode cX11_takes 5 = .ok (.if_icmp .eq 9, 3) := by decide +kernel
theorem dX11_takes_8 : decode cX11_takes 8 = .ok (.aload_n 0, 1) := by decide +kernel
theorem dX11_takes_9 : decode cX11_takes 9 = .ok (.iconst 1, 1) := by decide +kernel
theorem dX11_takes_10 : decode cX11_takes 10 = .ok (.invokevirtual 174, 3) := by decide +kernel
theorem dX11_takes_13 : decode cX11_takes 13 = .ok (.ireturn, 1) := by decide +kernel
theorem dX11_takes_14 : decode cX11_takes 14 = .ok (.aload_n 0, 1) := by decide +kernel
theorem dX11_takes_15 : decode cX11_takes 15 = .ok (.getfield 158, 3) := by decide +kernel
theorem dX11_takes_18 : decode cX11_takes 18 = .ok (.iload_n 1, 1) := by decide +kernel
theorem dX11_takes_19 : decode cX11_takes 19 = .ok (.iload_n 2, 1) := by decide +kernel
theorem dX11_takes_20 : decode cX11_takes 20 = .ok (.invokestatic 180, 3) := by decide +kernel
theorem dX11_takes_23 : decode cX11_takes 23 = .ok (.ifCond .ne 9, 3) := by decide +kernel
theorem dX11_takes_26 : decode cX11_takes 26 = .ok (.aload_n 0, 1) := by decide +kernel
theorem dX11_takes_27 : decode cX11_takes 27 = .ok (.iconst 2, 1) := by decide +kernel
theorem dX11_takes_28 : decode cX11_takes 28 = .ok (.invokevirtual 174, 3) := by decide +kernel
theorem dX11_takes_31 : decode cX11_takes 31 = .ok (.ireturn, 1) := by decide +kernel
theorem dX11_takes_32 : decode cX11_takes 32 = .ok (.aload_n 0, 1) := by decide +kernel
theorem dX11_takes_33 : decode cX11_takes 33 = .ok (.aload_n 0, 1) := by decide +kernel
theorem dX11_takes_34 : decode cX11_takes 34 = .ok (.getfield 158, 3) := by decide +kernel
theorem dX11_takes_37 : decode cX11_takes 37 = .ok (.putfield 184, 3) := by decide +kernel
theorem dX11_takes_40 : decode cX11_takes 40 = .ok (.aload_n 0, 1) := by decide +kernel
theorem dX11_takes_41 : decode cX11_takes 41 = .ok (.invokevirtual 177, 3) := by decide +kernel
theorem dX11_takes_44 : decode cX11_takes 44 = .ok (.iconst 1, 1) := by decide +kernel
theorem dX11_takes_45 : decode cX11_takes 45 = .ok (.ireturn, 1) := by decide +kernel
theorem dX11_isName_0 : decode cX11_isName 0 = .ok (.aload_n 0, 1) := by decide +kernel
theorem dX11_isName_1 : decode cX11_isName 1 = .ok (.getfield 148, 3) := by decide +kernel
theorem dX11_isName_4 : decode cX11_isName 4 = .ok (.iconst 1, 1) := by decide +kernel
theorem dX11_isName_5 : decode cX11_isName 5 = .ok (.if_icmp .ne 7, 3) := by decide +kernel
theorem dX11_isName_8 : decode cX11_isName 8 = .ok (.iconst 1, 1) := by decide +kernel
theorem dX11_isName_9 : decode cX11_isName 9 = .ok (.goto 4, 3) := by decide +kernel
theorem dX11_isName_12 : decode cX11_isName 12 = .ok (.iconst 0, 1) := by decide +kernel
theorem dX11_isName_13 : decode cX11_isName 13 = .ok (.istore_n 1, 1) := by decide +kernel
theorem dX11_isName_14 : decode cX11_isName 14 = .ok (.iconst 0, 1) := by decide +kernel
theorem dX11_isName_15 : decode cX11_isName 15 = .ok (.istore_n 2, 1) := by decide +kernel
theorem dX11_isName_16 : decode cX11_isName 16 = .ok (.iload_n 2, 1) := by decide +kernel
theorem dX11_isName_17 : decode cX11_isName 17 = .ok (.bipush 24, 2) := by decide +kernel
theorem dX11_isName_19 : decode cX11_isName 19 = .ok (.if_icmp .ge 33, 3) := by decide +kernel
theorem dX11_isName_22 : decode cX11_isName 22 = .ok (.iload_n 1, 1) := by decide +kernel
theorem dX11_isName_23 : decode cX11_isName 23 = .ok (.ifCond .eq 21, 3) := by decide +kernel
theorem dX11_isName_26 : decode cX11_isName 26 = .ok (.aload_n 0, 1) := by decide +kernel
theorem dX11_isName_27 : decode cX11_isName 27 = .ok (.getfield 161, 3) := by decide +kernel
theorem dX11_isName_30 : decode cX11_isName 30 = .ok (.aload_n 0, 1) := by decide +kernel
theorem dX11_isName_31 : decode cX11_isName 31 = .ok (.getfield 47, 3) := by decide +kernel
theorem dX11_isName_34 : decode cX11_isName 34 = .ok (.iload_n 2, 1) := by decide +kernel
theorem dX11_isName_35 : decode cX11_isName 35 = .ok (.laload, 1) := by decide +kernel
theorem dX11_isName_36 : decode cX11_isName 36 = .ok (.lcmp, 1) := by decide +kernel
theorem dX11_isName_37 : decode cX11_isName 37 = .ok (.ifCond .eq 7, 3) := by decide +kernel
theorem dX11_isName_40 : decode cX11_isName 40 = .ok (.iconst 1, 1) := by decide +kernel
theorem dX11_isName_41 : decode cX11_isName 41 = .ok (.goto 4, 3) := by decide +kernel
theorem dX11_isName_44 : decode cX11_isName 44 = .ok (.iconst 0, 1) := by decide +kernel
theorem dX11_isName_45 : decode cX11_isName 45 = .ok (.istore_n 1, 1) := by decide +kernel
theorem dX11_isName_46 : decode cX11_isName 46 = .ok (.iinc 2 1, 3) := by decide +kernel
theorem dX11_isName_49 : decode cX11_isName 49 = .ok (.goto (-33), 3) := by decide +kernel
theorem dX11_isName_52 : decode cX11_isName 52 = .ok (.iload_n 1, 1) := by decide +kernel
theorem dX11_isName_53 : decode cX11_isName 53 = .ok (.ireturn, 1) := by decide +kernel
theorem dX11_find_0 : decode cX11_find 0 = .ok (.iconst 0, 1) := by decide +kernel
theorem dX11_find_1 : decode cX11_find 1 = .ok (.istore_n 3, 1) := by decide +kernel
theorem dX11_find_2 : decode cX11_find 2 = .ok (.iload_n 3, 1) := by decide +kernel
theorem dX11_find_3 : decode cX11_find 3 = .ok (.iload_n 2, 1) := by decide +kernel
theorem dX11_find_4 : decode cX11_find 4 = .ok (.if_icmp .ge 27, 3) := by decide +kernel
theorem dX11_find_7 : decode cX11_find 7 = .ok (.aload_n 0, 1) := by decide +kernel
theorem dX11_find_8 : decode cX11_find 8 = .ok (.getfield 43, 3) := by decide +kernel
theorem dX11_find_11 : decode cX11_find 11 = .ok (.iload_n 1, 1) := by decide +kernel
theorem dX11_find_12 : decode cX11_find 12 = .ok (.iload_n 3, 1) := by decide +kernel
theorem dX11_find_13 : decode cX11_find 13 = .ok (.iadd, 1) := by decide +kernel
theorem dX11_find_14 : decode cX11_find 14 = .ok (.laload, 1) := by decide +kernel
theorem dX11_find_15 : decode cX11_find 15 = .ok (.aload_n 0, 1) := by decide +kernel
theorem dX11_find_16 : decode cX11_find 16 = .ok (.getfield 161, 3) := by decide +kernel
theorem dX11_find_19 : decode cX11_find 19 = .ok (.lcmp, 1) := by decide +kernel
theorem dX11_find_20 : decode cX11_find 20 = .ok (.ifCond .ne 5, 3) := by decide +kernel
theorem dX11_find_23 : decode cX11_find 23 = .ok (.iload_n 3, 1) := by decide +kernel
theorem dX11_find_24 : decode cX11_find 24 = .ok (.ireturn, 1) := by decide +kernel
theorem dX11_find_25 : decode cX11_find 25 = .ok (.iinc 3 1, 3) := by decide +kernel
theorem dX11_find_28 : decode cX11_find 28 = .ok (.goto (-26), 3) := by decide +kernel
theorem dX11_find_31 : decode cX11_find 31 = .ok (.iconst (-1), 1) := by decide +kernel
theorem dX11_find_32 : decode cX11_find 32 = .ok (.ireturn, 1) := by decide +kernel
theorem dX11_bitOf_0 : decode cX11_bitOf 0 = .ok (.iload_n 0, 1) := by decide +kernel
theorem dX11_bitOf_1 : decode cX11_bitOf 1 = .ok (.iload_n 1, 1) := by decide +kernel
theorem dX11_bitOf_2 : decode cX11_bitOf 2 = .ok (.ishr, 1) := by decide +kernel
theorem dX11_bitOf_3 : decode cX11_bitOf 3 = .ok (.iconst 1, 1) := by decide +kernel
theorem dX11_bitOf_4 : decode cX11_bitOf 4 = .ok (.iand, 1) := by decide +kernel
theorem dX11_bitOf_5 : decode cX11_bitOf 5 = .ok (.iconst 1, 1) := by decide +kernel
theorem dX11_bitOf_6 : decode cX11_bitOf 6 = .ok (.if_icmp .ne 7, 3) := by decide +kernel
theorem dX11_bitOf_9 : decode cX11_bitOf 9 = .ok (.iconst 1, 1) := by decide +kernel
theorem dX11_bitOf_10 : decode cX11_bitOf 10 = .ok (.goto 4, 3) := by decide +kernel
theorem dX11_bitOf_13 : decode cX11_bitOf 13 = .ok (.iconst 0, 1) := by decide +kernel
theorem dX11_bitOf_14 : decode cX11_bitOf 14 = .ok (.ireturn, 1) := by decide +kernel
theorem dX11_takesOwner_0 : decode cX11_takesOwner 0 = .ok (.aload_n 0, 1) := by decide +kernel
theorem dX11_takesOwner_1 : decode cX11_takesOwner 1 = .ok (.invokevirtual 230, 3) := by decide +kernel
theorem dX11_takesOwner_4 : decode cX11_takesOwner 4 = .ok (.ifCond .ne 9, 3) := by decide +kernel
theorem dX11_takesOwner_7 : decode cX11_takesOwner 7 = .ok (.aload_n 0, 1) := by decide +kernel
theorem dX11_takesOwner_8 : decode cX11_takesOwner 8 = .ok (.iconst 1, 1) := by decide +kernel
theorem dX11_takesOwner_9 : decode cX11_takesOwner 9 = .ok (.invokevirtual 174, 3) := by decide +kernel
theorem dX11_takesOwner_12 : decode cX11_takesOwner 12 = .ok (.ireturn, 1) := by decide +kernel
theorem dX11_takesOwner_13 : decode cX11_takesOwner 13 = .ok (.aload_n 0, 1) := by decide +kernel
theorem dX11_takesOwner_14 : decode cX11_takesOwner 14 = .ok (.bipush 8, 2) := by decide +kernel
theorem dX11_takesOwner_16 : decode cX11_takesOwner 16 = .ok (.aload_n 0, 1) := by decide +kernel
theorem dX11_takesOwner_17 : decode cX11_takesOwner 17 = .ok (.getfield 37, 3) := by decide +kernel
theorem dX11_takesOwner_20 : decode cX11_takesOwner 20 = .ok (.iconst 2, 1) := by decide +kernel
theorem dX11_takesOwner_21 : decode cX11_takesOwner 21 = .ok (.iaload, 1) := by decide +kernel
theorem dX11_takesOwner_22 : decode cX11_takesOwner 22 = .ok (.invokevirtual 233, 3) := by decide +kernel
theorem dX11_takesOwner_25 : decode cX11_takesOwner 25 = .ok (.istore_n 2, 1) := by decide +kernel
theorem dX11_takesOwner_26 : decode cX11_takesOwner 26 = .ok (.iload_n 2, 1) := by decide +kernel
theorem dX11_takesOwner_27 : decode cX11_takesOwner 27 = .ok (.ifCond .lt 11, 3) := by decide +kernel
theorem dX11_takesOwner_30 : decode cX11_takesOwner 30 = .ok (.iload_n 1, 1) := by decide +kernel
theorem dX11_takesOwner_31 : decode cX11_takesOwner 31 = .ok (.iload_n 2, 1) := by decide +kernel
theorem dX11_takesOwner_32 : decode cX11_takesOwner 32 = .ok (.invokestatic 237, 3) := by decide +kernel
theorem dX11_takesOwner_35 : decode cX11_takesOwner 35 = .ok (.ifCond .eq 9, 3) := by decide +kernel
theorem dX11_takesOwner_38 : decode cX11_takesOwner 38 = .ok (.aload_n 0, 1) := by decide +kernel
theorem dX11_takesOwner_39 : decode cX11_takesOwner 39 = .ok (.iconst 3, 1) := by decide +kernel
theorem dX11_takesOwner_40 : decode cX11_takesOwner 40 = .ok (.invokevirtual 174, 3) := by decide +kernel
theorem dX11_takesOwner_43 : decode cX11_takesOwner 43 = .ok (.ireturn, 1) := by decide +kernel
theorem dX11_takesOwner_44 : decode cX11_takesOwner 44 = .ok (.aload_n 0, 1) := by decide +kernel
theorem dX11_takesOwner_45 : decode cX11_takesOwner 45 = .ok (.iload_n 2, 1) := by decide +kernel
theorem dX11_takesOwner_46 : decode cX11_takesOwner 46 = .ok (.putfield 184, 3) := by decide +kernel
theorem dX11_takesOwner_49 : decode cX11_takesOwner 49 = .ok (.aload_n 0, 1) := by decide +kernel
theorem dX11_takesOwner_50 : decode cX11_takesOwner 50 = .ok (.invokevirtual 177, 3) := by decide +kernel
theorem dX11_takesOwner_53 : decode cX11_takesOwner 53 = .ok (.iconst 1, 1) := by decide +kernel
theorem dX11_takesOwner_54 : decode cX11_takesOwner 54 = .ok (.ireturn, 1) := by decide +kernel
theorem dX11_looksAtCell_0 : decode cX11_looksAtCell 0 = .ok (.aload_n 0, 1) := by decide +kernel
theorem dX11_looksAtCell_1 : decode cX11_looksAtCell 1 = .ok (.iconst 0, 1) := by decide +kernel
theorem dX11_looksAtCell_2 : decode cX11_looksAtCell 2 = .ok (.aload_n 0, 1) := by decide +kernel
theorem dX11_looksAtCell_3 : decode cX11_looksAtCell 3 = .ok (.getfield 37, 3) := by decide +kernel
theorem dX11_looksAtCell_6 : decode cX11_looksAtCell 6 = .ok (.iconst 0, 1) := by decide +kernel
theorem dX11_looksAtCell_7 : decode cX11_looksAtCell 7 = .ok (.iaload, 1) := by decide +kernel
theorem dX11_looksAtCell_8 : decode cX11_looksAtCell 8 = .ok (.iconst 1, 1) := by decide +kernel
theorem dX11_looksAtCell_9 : decode cX11_looksAtCell 9 = .ok (.isub, 1) := by decide +kernel
theorem dX11_looksAtCell_10 : decode cX11_looksAtCell 10 = .ok (.invokevirtual 195, 3) := by decide +kernel
theorem dX11_looksAtCell_13 : decode cX11_looksAtCell 13 = .ok (.ifCond .ne 5, 3) := by decide +kernel
theorem dX11_looksAtCell_16 : decode cX11_looksAtCell 16 = .ok (.iconst 0, 1) := by decide +kernel
theorem dX11_looksAtCell_17 : decode cX11_looksAtCell 17 = .ok (.ireturn, 1) := by decide +kernel
theorem dX11_looksAtCell_18 : decode cX11_looksAtCell 18 = .ok (.aload_n 0, 1) := by decide +kernel
theorem dX11_looksAtCell_19 : decode cX11_looksAtCell 19 = .ok (.aload_n 0, 1) := by decide +kernel
theorem dX11_looksAtCell_20 : decode cX11_looksAtCell 20 = .ok (.getfield 184, 3) := by decide +kernel
theorem dX11_looksAtCell_23 : decode cX11_looksAtCell 23 = .ok (.putfield 240, 3) := by decide +kernel
theorem dX11_looksAtCell_26 : decode cX11_looksAtCell 26 = .ok (.aload_n 0, 1) := by decide +kernel
theorem dX11_looksAtCell_27 : decode cX11_looksAtCell 27 = .ok (.getfield 148, 3) := by decide +kernel
theorem dX11_looksAtCell_30 : decode cX11_looksAtCell 30 = .ok (.iconst 2, 1) := by decide +kernel
theorem dX11_looksAtCell_31 : decode cX11_looksAtCell 31 = .ok (.if_icmp .eq 9, 3) := by decide +kernel
theorem dX11_looksAtCell_34 : decode cX11_looksAtCell 34 = .ok (.aload_n 0, 1) := by decide +kernel
theorem dX11_looksAtCell_35 : decode cX11_looksAtCell 35 = .ok (.iconst 1, 1) := by decide +kernel
theorem dX11_looksAtCell_36 : decode cX11_looksAtCell 36 = .ok (.invokevirtual 174, 3) := by decide +kernel
theorem dX11_looksAtCell_39 : decode cX11_looksAtCell 39 = .ok (.ireturn, 1) := by decide +kernel
theorem dX11_looksAtCell_40 : decode cX11_looksAtCell 40 = .ok (.aload_n 0, 1) := by decide +kernel
theorem dX11_looksAtCell_41 : decode cX11_looksAtCell 41 = .ok (.getfield 158, 3) := by decide +kernel
theorem dX11_looksAtCell_44 : decode cX11_looksAtCell 44 = .ok (.aload_n 0, 1) := by decide +kernel
theorem dX11_looksAtCell_45 : decode cX11_looksAtCell 45 = .ok (.getfield 37, 3) := by decide +kernel
theorem dX11_looksAtCell_48 : decode cX11_looksAtCell 48 = .ok (.iconst 1, 1) := by decide +kernel
theorem dX11_looksAtCell_49 : decode cX11_looksAtCell 49 = .ok (.iaload, 1) := by decide +kernel
theorem dX11_looksAtCell_50 : decode cX11_looksAtCell 50 = .ok (.if_icmp .lt 9, 3) := by decide +kernel
theorem dX11_looksAtCell_53 : decode cX11_looksAtCell 53 = .ok (.aload_n 0, 1) := by decide +kernel
theorem dX11_looksAtCell_54 : decode cX11_looksAtCell 54 = .ok (.iconst 2, 1) := by decide +kernel
theorem dX11_looksAtCell_55 : decode cX11_looksAtCell 55 = .ok (.invokevirtual 174, 3) := by decide +kernel
theorem dX11_looksAtCell_58 : decode cX11_looksAtCell 58 = .ok (.ireturn, 1) := by decide +kernel
theorem dX11_looksAtCell_59 : decode cX11_looksAtCell 59 = .ok (.aload_n 0, 1) := by decide +kernel
theorem dX11_looksAtCell_60 : decode cX11_looksAtCell 60 = .ok (.bipush 10, 2) := by decide +kernel
theorem dX11_looksAtCell_62 : decode cX11_looksAtCell 62 = .ok (.aload_n 0, 1) := by decide +kernel
theorem dX11_looksAtCell_63 : decode cX11_looksAtCell 63 = .ok (.getfield 158, 3) := by decide +kernel
theorem dX11_looksAtCell_66 : decode cX11_looksAtCell 66 = .ok (.imul, 1) := by decide +kernel
theorem dX11_looksAtCell_67 : decode cX11_looksAtCell 67 = .ok (.aload_n 0, 1) := by decide +kernel
theorem dX11_looksAtCell_68 : decode cX11_looksAtCell 68 = .ok (.getfield 240, 3) := by decide +kernel
theorem dX11_looksAtCell_71 : decode cX11_looksAtCell 71 = .ok (.iadd, 1) := by decide +kernel
theorem dX11_looksAtCell_72 : decode cX11_looksAtCell 72 = .ok (.putfield 184, 3) := by decide +kernel
theorem dX11_looksAtCell_75 : decode cX11_looksAtCell 75 = .ok (.iconst 1, 1) := by decide +kernel
theorem dX11_looksAtCell_76 : decode cX11_looksAtCell 76 = .ok (.ireturn, 1) := by decide +kernel
theorem dX11_readPlot_0 : decode cX11_readPlot 0 = .ok (.aload_n 0, 1) := by decide +kernel
theorem dX11_readPlot_1 : decode cX11_readPlot 1 = .ok (.invokevirtual 177, 3) := by decide +kernel
theorem dX11_readPlot_4 : decode cX11_readPlot 4 = .ok (.iconst 0, 1) := by decide +kernel
theorem dX11_readPlot_5 : decode cX11_readPlot 5 = .ok (.istore_n 1, 1) := by decide +kernel
theorem dX11_readPlot_6 : decode cX11_readPlot 6 = .ok (.iconst 0, 1) := by decide +kernel
theorem dX11_readPlot_7 : decode cX11_readPlot 7 = .ok (.istore_n 2, 1) := by decide +kernel
theorem dX11_readPlot_8 : decode cX11_readPlot 8 = .ok (.iload_n 2, 1) := by decide +kernel
theorem dX11_readPlot_9 : decode cX11_readPlot 9 = .ok (.bipush 8, 2) := by decide +kernel
theorem dX11_readPlot_11 : decode cX11_readPlot 11 = .ok (.if_icmp .ge 31, 3) := by decide +kernel
theorem dX11_readPlot_14 : decode cX11_readPlot 14 = .ok (.iload_n 1, 1) := by decide +kernel
theorem dX11_readPlot_15 : decode cX11_readPlot 15 = .ok (.aload_n 0, 1) := by decide +kernel
theorem dX11_readPlot_16 : decode cX11_readPlot 16 = .ok (.getfield 37, 3) := by decide +kernel
theorem dX11_readPlot_19 : decode cX11_readPlot 19 = .ok (.bipush 55, 2) := by decide +kernel
theorem dX11_readPlot_21 : decode cX11_readPlot 21 = .ok (.iload_n 2, 1) := by decide +kernel
theorem dX11_readPlot_22 : decode cX11_readPlot 22 = .ok (.iadd, 1) := by decide +kernel
theorem dX11_readPlot_23 : decode cX11_readPlot 23 = .ok (.iaload, 1) := by decide +kernel
theorem dX11_readPlot_24 : decode cX11_readPlot 24 = .ok (.ifCond .le 9, 3) := by decide +kernel
theorem dX11_readPlot_27 : decode cX11_readPlot 27 = .ok (.iconst 1, 1) := by decide +kernel
theorem dX11_readPlot_28 : decode cX11_readPlot 28 = .ok (.iload_n 2, 1) := by decide +kernel
theorem dX11_readPlot_29 : decode cX11_readPlot 29 = .ok (.ishl, 1) := by decide +kernel
theorem dX11_readPlot_30 : decode cX11_readPlot 30 = .ok (.goto 4, 3) := by decide +kernel
theorem dX11_readPlot_33 : decode cX11_readPlot 33 = .ok (.iconst 0, 1) := by decide +kernel
theorem dX11_readPlot_34 : decode cX11_readPlot 34 = .ok (.ior, 1) := by decide +kernel
theorem dX11_readPlot_35 : decode cX11_readPlot 35 = .ok (.istore_n 1, 1) := by decide +kernel
theorem dX11_readPlot_36 : decode cX11_readPlot 36 = .ok (.iinc 2 1, 3) := by decide +kernel
theorem dX11_readPlot_39 : decode cX11_readPlot 39 = .ok (.goto (-31), 3) := by decide +kernel
theorem dX11_readPlot_42 : decode cX11_readPlot 42 = .ok (.aload_n 0, 1) := by decide +kernel
theorem dX11_readPlot_43 : decode cX11_readPlot 43 = .ok (.iload_n 1, 1) := by decide +kernel
theorem dX11_readPlot_44 : decode cX11_readPlot 44 = .ok (.invokevirtual 206, 3) := by decide +kernel
theorem dX11_readPlot_47 : decode cX11_readPlot 47 = .ok (.ifCond .ne 5, 3) := by decide +kernel
theorem dX11_readPlot_50 : decode cX11_readPlot 50 = .ok (.iconst 0, 1) := by decide +kernel
theorem dX11_readPlot_51 : decode cX11_readPlot 51 = .ok (.ireturn, 1) := by decide +kernel
theorem dX11_readPlot_52 : decode cX11_readPlot 52 = .ok (.aload_n 0, 1) := by decide +kernel
theorem dX11_readPlot_53 : decode cX11_readPlot 53 = .ok (.getfield 184, 3) := by decide +kernel
theorem dX11_readPlot_56 : decode cX11_readPlot 56 = .ok (.istore_n 2, 1) := by decide +kernel
theorem dX11_readPlot_57 : decode cX11_readPlot 57 = .ok (.aload_n 0, 1) := by decide +kernel
theorem dX11_readPlot_58 : decode cX11_readPlot 58 = .ok (.invokevirtual 243, 3) := by decide +kernel
theorem dX11_readPlot_61 : decode cX11_readPlot 61 = .ok (.ifCond .ne 5, 3) := by decide +kernel
theorem dX11_readPlot_64 : decode cX11_readPlot 64 = .ok (.iconst 0, 1) := by decide +kernel
theorem dX11_readPlot_65 : decode cX11_readPlot 65 = .ok (.ireturn, 1) := by decide +kernel
theorem dX11_readPlot_66 : decode cX11_readPlot 66 = .ok (.iconst 0, 1) := by decide +kernel
theorem dX11_readPlot_67 : decode cX11_readPlot 67 = .ok (.istore_n 3, 1) := by decide +kernel
theorem dX11_readPlot_68 : decode cX11_readPlot 68 = .ok (.iload_n 3, 1) := by decide +kernel
theorem dX11_readPlot_69 : decode cX11_readPlot 69 = .ok (.bipush 8, 2) := by decide +kernel
theorem dX11_readPlot_71 : decode cX11_readPlot 71 = .ok (.if_icmp .ge 33, 3) := by decide +kernel
theorem dX11_readPlot_74 : decode cX11_readPlot 74 = .ok (.aload_n 0, 1) := by decide +kernel
theorem dX11_readPlot_75 : decode cX11_readPlot 75 = .ok (.getfield 37, 3) := by decide +kernel
theorem dX11_readPlot_78 : decode cX11_readPlot 78 = .ok (.bipush 55, 2) := by decide +kernel
theorem dX11_readPlot_80 : decode cX11_readPlot 80 = .ok (.iload_n 3, 1) := by decide +kernel
theorem dX11_readPlot_81 : decode cX11_readPlot 81 = .ok (.iadd, 1) := by decide +kernel
theorem dX11_readPlot_82 : decode cX11_readPlot 82 = .ok (.iaload, 1) := by decide +kernel
theorem dX11_readPlot_83 : decode cX11_readPlot 83 = .ok (.aload_n 0, 1) := by decide +kernel
theorem dX11_readPlot_84 : decode cX11_readPlot 84 = .ok (.getfield 184, 3) := by decide +kernel
theorem dX11_readPlot_87 : decode cX11_readPlot 87 = .ok (.iconst 1, 1) := by decide +kernel
theorem dX11_readPlot_88 : decode cX11_readPlot 88 = .ok (.iadd, 1) := by decide +kernel
theorem dX11_readPlot_89 : decode cX11_readPlot 89 = .ok (.if_icmp .ne 9, 3) := by decide +kernel
theorem dX11_readPlot_92 : decode cX11_readPlot 92 = .ok (.aload_n 0, 1) := by decide +kernel
theorem dX11_readPlot_93 : decode cX11_readPlot 93 = .ok (.iconst 3, 1) := by decide +kernel
theorem dX11_readPlot_94 : decode cX11_readPlot 94 = .ok (.invokevirtual 174, 3) := by decide +kernel
theorem dX11_readPlot_97 : decode cX11_readPlot 97 = .ok (.ireturn, 1) := by decide +kernel
theorem dX11_readPlot_98 : decode cX11_readPlot 98 = .ok (.iinc 3 1, 3) := by decide +kernel
theorem dX11_readPlot_101 : decode cX11_readPlot 101 = .ok (.goto (-33), 3) := by decide +kernel
theorem dX11_readPlot_104 : decode cX11_readPlot 104 = .ok (.aload_n 0, 1) := by decide +kernel
theorem dX11_readPlot_105 : decode cX11_readPlot 105 = .ok (.getfield 37, 3) := by decide +kernel
theorem dX11_readPlot_108 : decode cX11_readPlot 108 = .ok (.bipush 55, 2) := by decide +kernel
theorem dX11_readPlot_110 : decode cX11_readPlot 110 = .ok (.iload_n 2, 1) := by decide +kernel
theorem dX11_readPlot_111 : decode cX11_readPlot 111 = .ok (.iadd, 1) := by decide +kernel
theorem dX11_readPlot_112 : decode cX11_readPlot 112 = .ok (.aload_n 0, 1) := by decide +kernel
theorem dX11_readPlot_113 : decode cX11_readPlot 113 = .ok (.getfield 184, 3) := by decide +kernel
theorem dX11_readPlot_116 : decode cX11_readPlot 116 = .ok (.iconst 1, 1) := by decide +kernel
theorem dX11_readPlot_117 : decode cX11_readPlot 117 = .ok (.iadd, 1) := by decide +kernel
theorem dX11_readPlot_118 : decode cX11_readPlot 118 = .ok (.iastore, 1) := by decide +kernel
theorem dX11_readPlot_119 : decode cX11_readPlot 119 = .ok (.aload_n 0, 1) := by decide +kernel
theorem dX11_readPlot_120 : decode cX11_readPlot 120 = .ok (.invokevirtual 177, 3) := by decide +kernel
theorem dX11_readPlot_123 : decode cX11_readPlot 123 = .ok (.iconst 1, 1) := by decide +kernel
theorem dX11_readPlot_124 : decode cX11_readPlot 124 = .ok (.ireturn, 1) := by decide +kernel
theorem dX11_readPact_0 : decode cX11_readPact 0 = .ok (.aload_n 0, 1) := by decide +kernel
theorem dX11_readPact_1 : decode cX11_readPact 1 = .ok (.invokevirtual 177, 3) := by decide +kernel
theorem dX11_readPact_4 : decode cX11_readPact 4 = .ok (.iconst 0, 1) := by decide +kernel
theorem dX11_readPact_5 : decode cX11_readPact 5 = .ok (.istore_n 1, 1) := by decide +kernel
theorem dX11_readPact_6 : decode cX11_readPact 6 = .ok (.iconst 0, 1) := by decide +kernel
theorem dX11_readPact_7 : decode cX11_readPact 7 = .ok (.istore_n 2, 1) := by decide +kernel
theorem dX11_readPact_8 : decode cX11_readPact 8 = .ok (.iload_n 2, 1) := by decide +kernel
theorem dX11_readPact_9 : decode cX11_readPact 9 = .ok (.bipush 8, 2) := by decide +kernel
theorem dX11_readPact_11 : decode cX11_readPact 11 = .ok (.if_icmp .ge 31, 3) := by decide +kernel
theorem dX11_readPact_14 : decode cX11_readPact 14 = .ok (.iload_n 1, 1) := by decide +kernel
theorem dX11_readPact_15 : decode cX11_readPact 15 = .ok (.aload_n 0, 1) := by decide +kernel
theorem dX11_readPact_16 : decode cX11_readPact 16 = .ok (.getfield 37, 3) := by decide +kernel
theorem dX11_readPact_19 : decode cX11_readPact 19 = .ok (.bipush 47, 2) := by decide +kernel
theorem dX11_readPact_21 : decode cX11_readPact 21 = .ok (.iload_n 2, 1) := by decide +kernel
theorem dX11_readPact_22 : decode cX11_readPact 22 = .ok (.iadd, 1) := by decide +kernel
theorem dX11_readPact_23 : decode cX11_readPact 23 = .ok (.iaload, 1) := by decide +kernel
theorem dX11_readPact_24 : decode cX11_readPact 24 = .ok (.ifCond .le 9, 3) := by decide +kernel
theorem dX11_readPact_27 : decode cX11_readPact 27 = .ok (.iconst 1, 1) := by decide +kernel
theorem dX11_readPact_28 : decode cX11_readPact 28 = .ok (.iload_n 2, 1) := by decide +kernel
theorem dX11_readPact_29 : decode cX11_readPact 29 = .ok (.ishl, 1) := by decide +kernel
theorem dX11_readPact_30 : decode cX11_readPact 30 = .ok (.goto 4, 3) := by decide +kernel
theorem dX11_readPact_33 : decode cX11_readPact 33 = .ok (.iconst 0, 1) := by decide +kernel
theorem dX11_readPact_34 : decode cX11_readPact 34 = .ok (.ior, 1) := by decide +kernel
theorem dX11_readPact_35 : decode cX11_readPact 35 = .ok (.istore_n 1, 1) := by decide +kernel
theorem dX11_readPact_36 : decode cX11_readPact 36 = .ok (.iinc 2 1, 3) := by decide +kernel
theorem dX11_readPact_39 : decode cX11_readPact 39 = .ok (.goto (-31), 3) := by decide +kernel
theorem dX11_readPact_42 : decode cX11_readPact 42 = .ok (.aload_n 0, 1) := by decide +kernel
theorem dX11_readPact_43 : decode cX11_readPact 43 = .ok (.iload_n 1, 1) := by decide +kernel
theorem dX11_readPact_44 : decode cX11_readPact 44 = .ok (.invokevirtual 206, 3) := by decide +kernel
theorem dX11_readPact_47 : decode cX11_readPact 47 = .ok (.ifCond .ne 5, 3) := by decide +kernel
theorem dX11_readPact_50 : decode cX11_readPact 50 = .ok (.iconst 0, 1) := by decide +kernel
theorem dX11_readPact_51 : decode cX11_readPact 51 = .ok (.ireturn, 1) := by decide +kernel
theorem dX11_readPact_52 : decode cX11_readPact 52 = .ok (.aload_n 0, 1) := by decide +kernel
theorem dX11_readPact_53 : decode cX11_readPact 53 = .ok (.getfield 184, 3) := by decide +kernel
theorem dX11_readPact_56 : decode cX11_readPact 56 = .ok (.istore_n 2, 1) := by decide +kernel
theorem dX11_readPact_57 : decode cX11_readPact 57 = .ok (.aload_n 0, 1) := by decide +kernel
theorem dX11_readPact_58 : decode cX11_readPact 58 = .ok (.iconst 1, 1) := by decide +kernel
theorem dX11_readPact_59 : decode cX11_readPact 59 = .ok (.iload_n 2, 1) := by decide +kernel
theorem dX11_readPact_60 : decode cX11_readPact 60 = .ok (.ishl, 1) := by decide +kernel
theorem dX11_readPact_61 : decode cX11_readPact 61 = .ok (.invokevirtual 206, 3) := by decide +kernel
theorem dX11_readPact_64 : decode cX11_readPact 64 = .ok (.ifCond .ne 5, 3) := by decide +kernel
theorem dX11_readPact_67 : decode cX11_readPact 67 = .ok (.iconst 0, 1) := by decide +kernel
theorem dX11_readPact_68 : decode cX11_readPact 68 = .ok (.ireturn, 1) := by decide +kernel
theorem dX11_readPact_69 : decode cX11_readPact 69 = .ok (.aload_n 0, 1) := by decide +kernel
theorem dX11_readPact_70 : decode cX11_readPact 70 = .ok (.getfield 37, 3) := by decide +kernel
theorem dX11_readPact_73 : decode cX11_readPact 73 = .ok (.bipush 47, 2) := by decide +kernel
theorem dX11_readPact_75 : decode cX11_readPact 75 = .ok (.iload_n 2, 1) := by decide +kernel
theorem dX11_readPact_76 : decode cX11_readPact 76 = .ok (.iadd, 1) := by decide +kernel
theorem dX11_readPact_77 : decode cX11_readPact 77 = .ok (.aload_n 0, 1) := by decide +kernel
theorem dX11_readPact_78 : decode cX11_readPact 78 = .ok (.getfield 184, 3) := by decide +kernel
theorem dX11_readPact_81 : decode cX11_readPact 81 = .ok (.iconst 1, 1) := by decide +kernel
theorem dX11_readPact_82 : decode cX11_readPact 82 = .ok (.iadd, 1) := by decide +kernel
theorem dX11_readPact_83 : decode cX11_readPact 83 = .ok (.iastore, 1) := by decide +kernel
theorem dX11_readPact_84 : decode cX11_readPact 84 = .ok (.iconst 1, 1) := by decide +kernel
theorem dX11_readPact_85 : decode cX11_readPact 85 = .ok (.ireturn, 1) := by decide +kernel
theorem dX11_readGust_0 : decode cX11_readGust 0 = .ok (.aload_n 0, 1) := by decide +kernel
theorem dX11_readGust_1 : decode cX11_readGust 1 = .ok (.getfield 37, 3) := by decide +kernel
theorem dX11_readGust_4 : decode cX11_readGust 4 = .ok (.iconst 4, 1) := by decide +kernel
theorem dX11_readGust_5 : decode cX11_readGust 5 = .ok (.iaload, 1) := by decide +kernel
theorem dX11_readGust_6 : decode cX11_readGust 6 = .ok (.bipush 30, 2) := by decide +kernel
theorem dX11_readGust_8 : decode cX11_readGust 8 = .ok (.if_icmp .ne 9, 3) := by decide +kernel
theorem dX11_readGust_11 : decode cX11_readGust 11 = .ok (.aload_n 0, 1) := by decide +kernel
theorem dX11_readGust_12 : decode cX11_readGust 12 = .ok (.iconst 4, 1) := by decide +kernel
theorem dX11_readGust_13 : decode cX11_readGust 13 = .ok (.invokevirtual 174, 3) := by decide +kernel
theorem dX11_readGust_16 : decode cX11_readGust 16 = .ok (.ireturn, 1) := by decide +kernel
theorem dX11_readGust_17 : decode cX11_readGust 17 = .ok (.aload_n 0, 1) := by decide +kernel
theorem dX11_readGust_18 : decode cX11_readGust 18 = .ok (.invokevirtual 177, 3) := by decide +kernel
theorem dX11_readGust_21 : decode cX11_readGust 21 = .ok (.aload_n 0, 1) := by decide +kernel
theorem dX11_readGust_22 : decode cX11_readGust 22 = .ok (.getfield 148, 3) := by decide +kernel
theorem dX11_readGust_25 : decode cX11_readGust 25 = .ok (.iconst 2, 1) := by decide +kernel
theorem dX11_readGust_26 : decode cX11_readGust 26 = .ok (.if_icmp .eq 9, 3) := by decide +kernel
theorem dX11_readGust_29 : decode cX11_readGust 29 = .ok (.aload_n 0, 1) := by decide +kernel
theorem dX11_readGust_30 : decode cX11_readGust 30 = .ok (.iconst 1, 1) := by decide +kernel
theorem dX11_readGust_31 : decode cX11_readGust 31 = .ok (.invokevirtual 174, 3) := by decide +kernel
theorem dX11_readGust_34 : decode cX11_readGust 34 = .ok (.ireturn, 1) := by decide +kernel
theorem dX11_readGust_35 : decode cX11_readGust 35 = .ok (.aload_n 0, 1) := by decide +kernel
theorem dX11_readGust_36 : decode cX11_readGust 36 = .ok (.getfield 158, 3) := by decide +kernel
theorem dX11_readGust_39 : decode cX11_readGust 39 = .ok (.bipush 47, 2) := by decide +kernel
theorem dX11_readGust_41 : decode cX11_readGust 41 = .ok (.if_icmp .le 9, 3) := by decide +kernel
theorem dX11_readGust_44 : decode cX11_readGust 44 = .ok (.aload_n 0, 1) := by decide +kernel
theorem dX11_readGust_45 : decode cX11_readGust 45 = .ok (.iconst 2, 1) := by decide +kernel
theorem dX11_readGust_46 : decode cX11_readGust 46 = .ok (.invokevirtual 174, 3) := by decide +kernel
theorem dX11_readGust_49 : decode cX11_readGust 49 = .ok (.ireturn, 1) := by decide +kernel
theorem dX11_readGust_50 : decode cX11_readGust 50 = .ok (.aload_n 0, 1) := by decide +kernel
theorem dX11_readGust_51 : decode cX11_readGust 51 = .ok (.getfield 158, 3) := by decide +kernel
theorem dX11_readGust_54 : decode cX11_readGust 54 = .ok (.istore_n 1, 1) := by decide +kernel
theorem dX11_readGust_55 : decode cX11_readGust 55 = .ok (.aload_n 0, 1) := by decide +kernel
theorem dX11_readGust_56 : decode cX11_readGust 56 = .ok (.getfield 37, 3) := by decide +kernel
theorem dX11_readGust_59 : decode cX11_readGust 59 = .ok (.sipush 223, 3) := by decide +kernel
theorem dX11_readGust_62 : decode cX11_readGust 62 = .ok (.iload_n 1, 1) := by decide +kernel
theorem dX11_readGust_63 : decode cX11_readGust 63 = .ok (.iadd, 1) := by decide +kernel
theorem dX11_readGust_64 : decode cX11_readGust 64 = .ok (.iaload, 1) := by decide +kernel
theorem dX11_readGust_65 : decode cX11_readGust 65 = .ok (.ifCond .le 9, 3) := by decide +kernel
theorem dX11_readGust_68 : decode cX11_readGust 68 = .ok (.aload_n 0, 1) := by decide +kernel
theorem dX11_readGust_69 : decode cX11_readGust 69 = .ok (.iconst 3, 1) := by decide +kernel
theorem dX11_readGust_70 : decode cX11_readGust 70 = .ok (.invokevirtual 174, 3) := by decide +kernel
theorem dX11_readGust_73 : decode cX11_readGust 73 = .ok (.ireturn, 1) := by decide +kernel
theorem dX11_readGust_74 : decode cX11_readGust 74 = .ok (.aload_n 0, 1) := by decide +kernel
theorem dX11_readGust_75 : decode cX11_readGust 75 = .ok (.invokevirtual 177, 3) := by decide +kernel
theorem dX11_readGust_78 : decode cX11_readGust 78 = .ok (.aload_n 0, 1) := by decide +kernel
theorem dX11_readGust_79 : decode cX11_readGust 79 = .ok (.iconst 0, 1) := by decide +kernel
theorem dX11_readGust_80 : decode cX11_readGust 80 = .ok (.bipush 7, 2) := by decide +kernel
theorem dX11_readGust_82 : decode cX11_readGust 82 = .ok (.invokevirtual 195, 3) := by decide +kernel
theorem dX11_readGust_85 : decode cX11_readGust 85 = .ok (.ifCond .ne 5, 3) := by decide +kernel
theorem dX11_readGust_88 : decode cX11_readGust 88 = .ok (.iconst 0, 1) := by decide +kernel
theorem dX11_readGust_89 : decode cX11_readGust 89 = .ok (.ireturn, 1) := by decide +kernel
theorem dX11_readGust_90 : decode cX11_readGust 90 = .ok (.aload_n 0, 1) := by decide +kernel
theorem dX11_readGust_91 : decode cX11_readGust 91 = .ok (.getfield 37, 3) := by decide +kernel
theorem dX11_readGust_94 : decode cX11_readGust 94 = .ok (.sipush 175, 3) := by decide +kernel
theorem dX11_readGust_97 : decode cX11_readGust 97 = .ok (.iload_n 1, 1) := by decide +kernel
theorem dX11_readGust_98 : decode cX11_readGust 98 = .ok (.iadd, 1) := by decide +kernel
theorem dX11_readGust_99 : decode cX11_readGust 99 = .ok (.aload_n 0, 1) := by decide +kernel
theorem dX11_readGust_100 : decode cX11_readGust 100 = .ok (.getfield 184, 3) := by decide +kernel
theorem dX11_readGust_103 : decode cX11_readGust 103 = .ok (.iastore, 1) := by decide +kernel
theorem dX11_readGust_104 : decode cX11_readGust 104 = .ok (.aload_n 0, 1) := by decide +kernel
theorem dX11_readGust_105 : decode cX11_readGust 105 = .ok (.iconst 1, 1) := by decide +kernel
theorem dX11_readGust_106 : decode cX11_readGust 106 = .ok (.bipush 9, 2) := by decide +kernel
theorem dX11_readGust_108 : decode cX11_readGust 108 = .ok (.invokevirtual 195, 3) := by decide +kernel
theorem dX11_readGust_111 : decode cX11_readGust 111 = .ok (.ifCond .ne 5, 3) := by decide +kernel
theorem dX11_readGust_114 : decode cX11_readGust 114 = .ok (.iconst 0, 1) := by decide +kernel
theorem dX11_readGust_115 : decode cX11_readGust 115 = .ok (.ireturn, 1) := by decide +kernel
theorem dX11_readGust_116 : decode cX11_readGust 116 = .ok (.aload_n 0, 1) := by decide +kernel
theorem dX11_readGust_117 : decode cX11_readGust 117 = .ok (.getfield 37, 3) := by decide +kernel
theorem dX11_readGust_120 : decode cX11_readGust 120 = .ok (.sipush 223, 3) := by decide +kernel
theorem dX11_readGust_123 : decode cX11_readGust 123 = .ok (.iload_n 1, 1) := by decide +kernel
theorem dX11_readGust_124 : decode cX11_readGust 124 = .ok (.iadd, 1) := by decide +kernel
theorem dX11_readGust_125 : decode cX11_readGust 125 = .ok (.aload_n 0, 1) := by decide +kernel
theorem dX11_readGust_126 : decode cX11_readGust 126 = .ok (.getfield 184, 3) := by decide +kernel
theorem dX11_readGust_129 : decode cX11_readGust 129 = .ok (.iastore, 1) := by decide +kernel
theorem dX11_readGust_130 : decode cX11_readGust 130 = .ok (.aload_n 0, 1) := by decide +kernel
theorem dX11_readGust_131 : decode cX11_readGust 131 = .ok (.getfield 37, 3) := by decide +kernel
theorem dX11_readGust_134 : decode cX11_readGust 134 = .ok (.iconst 4, 1) := by decide +kernel
theorem dX11_readGust_135 : decode cX11_readGust 135 = .ok (.dup2, 1) := by decide +kernel
theorem dX11_readGust_136 : decode cX11_readGust 136 = .ok (.iaload, 1) := by decide +kernel
theorem dX11_readGust_137 : decode cX11_readGust 137 = .ok (.iconst 1, 1) := by decide +kernel
theorem dX11_readGust_138 : decode cX11_readGust 138 = .ok (.iadd, 1) := by decide +kernel
theorem dX11_readGust_139 : decode cX11_readGust 139 = .ok (.iastore, 1) := by decide +kernel
theorem dX11_readGust_140 : decode cX11_readGust 140 = .ok (.iconst 1, 1) := by decide +kernel
theorem dX11_readGust_141 : decode cX11_readGust 141 = .ok (.ireturn, 1) := by decide +kernel
theorem dX11_readEddy_0 : decode cX11_readEddy 0 = .ok (.aload_n 0, 1) := by decide +kernel
theorem dX11_readEddy_1 : decode cX11_readEddy 1 = .ok (.getfield 246, 3) := by decide +kernel
theorem dX11_readEddy_4 : decode cX11_readEddy 4 = .ok (.bipush 8, 2) := by decide +kernel
theorem dX11_readEddy_6 : decode cX11_readEddy 6 = .ok (.if_icmp .ne 9, 3) := by decide +kernel
theorem dX11_readEddy_9 : decode cX11_readEddy 9 = .ok (.aload_n 0, 1) := by decide +kernel
theorem dX11_readEddy_10 : decode cX11_readEddy 10 = .ok (.iconst 4, 1) := by decide +kernel
theorem dX11_readEddy_11 : decode cX11_readEddy 11 = .ok (.invokevirtual 174, 3) := by decide +kernel
theorem dX11_readEddy_14 : decode cX11_readEddy 14 = .ok (.ireturn, 1) := by decide +kernel
theorem dX11_readEddy_15 : decode cX11_readEddy 15 = .ok (.aload_n 0, 1) := by decide +kernel
theorem dX11_readEddy_16 : decode cX11_readEddy 16 = .ok (.dup, 1) := by decide +kernel
theorem dX11_readEddy_17 : decode cX11_readEddy 17 = .ok (.getfield 246, 3) := by decide +kernel
theorem dX11_readEddy_20 : decode cX11_readEddy 20 = .ok (.iconst 1, 1) := by decide +kernel
theorem dX11_readEddy_21 : decode cX11_readEddy 21 = .ok (.iadd, 1) := by decide +kernel
theorem dX11_readEddy_22 : decode cX11_readEddy 22 = .ok (.putfield 246, 3) := by decide +kernel
theorem dX11_readEddy_25 : decode cX11_readEddy 25 = .ok (.aload_n 0, 1) := by decide +kernel
theorem dX11_readEddy_26 : decode cX11_readEddy 26 = .ok (.invokevirtual 177, 3) := by decide +kernel
theorem dX11_readEddy_29 : decode cX11_readEddy 29 = .ok (.aload_n 0, 1) := by decide +kernel
theorem dX11_readEddy_30 : decode cX11_readEddy 30 = .ok (.invokevirtual 243, 3) := by decide +kernel
theorem dX11_readEddy_33 : decode cX11_readEddy 33 = .ok (.ifCond .ne 5, 3) := by decide +kernel
theorem dX11_readEddy_36 : decode cX11_readEddy 36 = .ok (.iconst 0, 1) := by decide +kernel
theorem dX11_readEddy_37 : decode cX11_readEddy 37 = .ok (.ireturn, 1) := by decide +kernel
theorem dX11_readEddy_38 : decode cX11_readEddy 38 = .ok (.aload_n 0, 1) := by decide +kernel
theorem dX11_readEddy_39 : decode cX11_readEddy 39 = .ok (.getfield 184, 3) := by decide +kernel
theorem dX11_readEddy_42 : decode cX11_readEddy 42 = .ok (.istore_n 1, 1) := by decide +kernel
theorem dX11_readEddy_43 : decode cX11_readEddy 43 = .ok (.aload_n 0, 1) := by decide +kernel
theorem dX11_readEddy_44 : decode cX11_readEddy 44 = .ok (.getfield 37, 3) := by decide +kernel
theorem dX11_readEddy_47 : decode cX11_readEddy 47 = .ok (.bipush 75, 2) := by decide +kernel
theorem dX11_readEddy_49 : decode cX11_readEddy 49 = .ok (.iload_n 1, 1) := by decide +kernel
theorem dX11_readEddy_50 : decode cX11_readEddy 50 = .ok (.iadd, 1) := by decide +kernel
theorem dX11_readEddy_51 : decode cX11_readEddy 51 = .ok (.iaload, 1) := by decide +kernel
theorem dX11_readEddy_52 : decode cX11_readEddy 52 = .ok (.ifCond .le 9, 3) := by decide +kernel
theorem dX11_readEddy_55 : decode cX11_readEddy 55 = .ok (.aload_n 0, 1) := by decide +kernel
theorem dX11_readEddy_56 : decode cX11_readEddy 56 = .ok (.iconst 3, 1) := by decide +kernel
theorem dX11_readEddy_57 : decode cX11_readEddy 57 = .ok (.invokevirtual 174, 3) := by decide +kernel
theorem dX11_readEddy_60 : decode cX11_readEddy 60 = .ok (.ireturn, 1) := by decide +kernel
theorem dX11_readEddy_61 : decode cX11_readEddy 61 = .ok (.aload_n 0, 1) := by decide +kernel
theorem dX11_readEddy_62 : decode cX11_readEddy 62 = .ok (.invokevirtual 177, 3) := by decide +kernel
theorem dX11_readEddy_65 : decode cX11_readEddy 65 = .ok (.aload_n 0, 1) := by decide +kernel
theorem dX11_readEddy_66 : decode cX11_readEddy 66 = .ok (.iconst 1, 1) := by decide +kernel
theorem dX11_readEddy_67 : decode cX11_readEddy 67 = .ok (.bipush 7, 2) := by decide +kernel
theorem dX11_readEddy_69 : decode cX11_readEddy 69 = .ok (.invokevirtual 195, 3) := by decide +kernel
theorem dX11_readEddy_72 : decode cX11_readEddy 72 = .ok (.ifCond .ne 5, 3) := by decide +kernel
theorem dX11_readEddy_75 : decode cX11_readEddy 75 = .ok (.iconst 0, 1) := by decide +kernel
theorem dX11_readEddy_76 : decode cX11_readEddy 76 = .ok (.ireturn, 1) := by decide +kernel
theorem dX11_readEddy_77 : decode cX11_readEddy 77 = .ok (.aload_n 0, 1) := by decide +kernel
theorem dX11_readEddy_78 : decode cX11_readEddy 78 = .ok (.getfield 37, 3) := by decide +kernel
theorem dX11_readEddy_81 : decode cX11_readEddy 81 = .ok (.bipush 75, 2) := by decide +kernel
theorem dX11_readEddy_83 : decode cX11_readEddy 83 = .ok (.iload_n 1, 1) := by decide +kernel
theorem dX11_readEddy_84 : decode cX11_readEddy 84 = .ok (.iadd, 1) := by decide +kernel
theorem dX11_readEddy_85 : decode cX11_readEddy 85 = .ok (.aload_n 0, 1) := by decide +kernel
theorem dX11_readEddy_86 : decode cX11_readEddy 86 = .ok (.getfield 184, 3) := by decide +kernel
theorem dX11_readEddy_89 : decode cX11_readEddy 89 = .ok (.iastore, 1) := by decide +kernel
theorem dX11_readEddy_90 : decode cX11_readEddy 90 = .ok (.iconst 1, 1) := by decide +kernel
theorem dX11_readEddy_91 : decode cX11_readEddy 91 = .ok (.ireturn, 1) := by decide +kernel
theorem dX11_takesFree_0 : decode cX11_takesFree 0 = .ok (.aload_n 0, 1) := by decide +kernel
theorem dX11_takesFree_1 : decode cX11_takesFree 1 = .ok (.invokevirtual 243, 3) := by decide +kernel
theorem dX11_takesFree_4 : decode cX11_takesFree 4 = .ok (.ifCond .ne 5, 3) := by decide +kernel
theorem dX11_takesFree_7 : decode cX11_takesFree 7 = .ok (.iconst 0, 1) := by decide +kernel
theorem dX11_takesFree_8 : decode cX11_takesFree 8 = .ok (.ireturn, 1) := by decide +kernel
theorem dX11_takesFree_9 : decode cX11_takesFree 9 = .ok (.aload_n 0, 1) := by decide +kernel
theorem dX11_takesFree_10 : decode cX11_takesFree 10 = .ok (.getfield 37, 3) := by decide +kernel
theorem dX11_takesFree_13 : decode cX11_takesFree 13 = .ok (.sipush 271, 3) := by decide +kernel
theorem dX11_takesFree_16 : decode cX11_takesFree 16 = .ok (.aload_n 0, 1) := by decide +kernel
theorem dX11_takesFree_17 : decode cX11_takesFree 17 = .ok (.getfield 184, 3) := by decide +kernel
theorem dX11_takesFree_20 : decode cX11_takesFree 20 = .ok (.iadd, 1) := by decide +kernel
theorem dX11_takesFree_21 : decode cX11_takesFree 21 = .ok (.iaload, 1) := by decide +kernel
theorem dX11_takesFree_22 : decode cX11_takesFree 22 = .ok (.ifCond .ne 7, 3) := by decide +kernel
theorem dX11_takesFree_25 : decode cX11_takesFree 25 = .ok (.iconst 1, 1) := by decide +kernel
theorem dX11_takesFree_26 : decode cX11_takesFree 26 = .ok (.goto 4, 3) := by decide +kernel
theorem dX11_takesFree_29 : decode cX11_takesFree 29 = .ok (.iconst 0, 1) := by decide +kernel
theorem dX11_takesFree_30 : decode cX11_takesFree 30 = .ok (.istore_n 1, 1) := by decide +kernel
theorem dX11_takesFree_31 : decode cX11_takesFree 31 = .ok (.iconst 0, 1) := by decide +kernel
theorem dX11_takesFree_32 : decode cX11_takesFree 32 = .ok (.istore_n 2, 1) := by decide +kernel
theorem dX11_takesFree_33 : decode cX11_takesFree 33 = .ok (.iload_n 2, 1) := by decide +kernel
theorem dX11_takesFree_34 : decode cX11_takesFree 34 = .ok (.aload_n 0, 1) := by decide +kernel
theorem dX11_takesFree_35 : decode cX11_takesFree 35 = .ok (.getfield 37, 3) := by decide +kernel
theorem dX11_takesFree_38 : decode cX11_takesFree 38 = .ok (.iconst 2, 1) := by decide +kernel
theorem dX11_takesFree_39 : decode cX11_takesFree 39 = .ok (.iaload, 1) := by decide +kernel
theorem dX11_takesFree_40 : decode cX11_takesFree 40 = .ok (.if_icmp .ge 35, 3) := by decide +kernel
theorem dX11_takesFree_43 : decode cX11_takesFree 43 = .ok (.iload_n 1, 1) := by decide +kernel
theorem dX11_takesFree_44 : decode cX11_takesFree 44 = .ok (.ifCond .eq 23, 3) := by decide +kernel
theorem dX11_takesFree_47 : decode cX11_takesFree 47 = .ok (.aload_n 0, 1) := by decide +kernel
theorem dX11_takesFree_48 : decode cX11_takesFree 48 = .ok (.getfield 37, 3) := by decide +kernel
theorem dX11_takesFree_51 : decode cX11_takesFree 51 = .ok (.bipush 7, 2) := by decide +kernel
theorem dX11_takesFree_53 : decode cX11_takesFree 53 = .ok (.iload_n 2, 1) := by decide +kernel
theorem dX11_takesFree_54 : decode cX11_takesFree 54 = .ok (.iadd, 1) := by decide +kernel
theorem dX11_takesFree_55 : decode cX11_takesFree 55 = .ok (.iaload, 1) := by decide +kernel
theorem dX11_takesFree_56 : decode cX11_takesFree 56 = .ok (.aload_n 0, 1) := by decide +kernel
theorem dX11_takesFree_57 : decode cX11_takesFree 57 = .ok (.getfield 184, 3) := by decide +kernel
theorem dX11_takesFree_60 : decode cX11_takesFree 60 = .ok (.if_icmp .eq 7, 3) := by decide +kernel
theorem dX11_takesFree_63 : decode cX11_takesFree 63 = .ok (.iconst 1, 1) := by decide +kernel
theorem dX11_takesFree_64 : decode cX11_takesFree 64 = .ok (.goto 4, 3) := by decide +kernel
theorem dX11_takesFree_67 : decode cX11_takesFree 67 = .ok (.iconst 0, 1) := by decide +kernel
theorem dX11_takesFree_68 : decode cX11_takesFree 68 = .ok (.istore_n 1, 1) := by decide +kernel
theorem dX11_takesFree_69 : decode cX11_takesFree 69 = .ok (.iinc 2 1, 3) := by decide +kernel
theorem dX11_takesFree_72 : decode cX11_takesFree 72 = .ok (.goto (-39), 3) := by decide +kernel
theorem dX11_takesFree_75 : decode cX11_takesFree 75 = .ok (.iconst 0, 1) := by decide +kernel
theorem dX11_takesFree_76 : decode cX11_takesFree 76 = .ok (.istore_n 2, 1) := by decide +kernel
theorem dX11_takesFree_77 : decode cX11_takesFree 77 = .ok (.iload_n 2, 1) := by decide +kernel
theorem dX11_takesFree_78 : decode cX11_takesFree 78 = .ok (.aload_n 0, 1) := by decide +kernel
theorem dX11_takesFree_79 : decode cX11_takesFree 79 = .ok (.getfield 37, 3) := by decide +kernel
theorem dX11_takesFree_82 : decode cX11_takesFree 82 = .ok (.iconst 3, 1) := by decide +kernel
theorem dX11_takesFree_83 : decode cX11_takesFree 83 = .ok (.iaload, 1) := by decide +kernel
theorem dX11_takesFree_84 : decode cX11_takesFree 84 = .ok (.if_icmp .ge 35, 3) := by decide +kernel
theorem dX11_takesFree_87 : decode cX11_takesFree 87 = .ok (.iload_n 1, 1) := by decide +kernel
theorem dX11_takesFree_88 : decode cX11_takesFree 88 = .ok (.ifCond .eq 23, 3) := by decide +kernel
theorem dX11_takesFree_91 : decode cX11_takesFree 91 = .ok (.aload_n 0, 1) := by decide +kernel
theorem dX11_takesFree_92 : decode cX11_takesFree 92 = .ok (.getfield 37, 3) := by decide +kernel
theorem dX11_takesFree_95 : decode cX11_takesFree 95 = .ok (.bipush 63, 2) := by decide +kernel
theorem dX11_takesFree_97 : decode cX11_takesFree 97 = .ok (.iload_n 2, 1) := by decide +kernel
theorem dX11_takesFree_98 : decode cX11_takesFree 98 = .ok (.iadd, 1) := by decide +kernel
theorem dX11_takesFree_99 : decode cX11_takesFree 99 = .ok (.iaload, 1) := by decide +kernel
theorem dX11_takesFree_100 : decode cX11_takesFree 100 = .ok (.aload_n 0, 1) := by decide +kernel
theorem dX11_takesFree_101 : decode cX11_takesFree 101 = .ok (.getfield 184, 3) := by decide +kernel
theorem dX11_takesFree_104 : decode cX11_takesFree 104 = .ok (.if_icmp .eq 7, 3) := by decide +kernel
theorem dX11_takesFree_107 : decode cX11_takesFree 107 = .ok (.iconst 1, 1) := by decide +kernel
theorem dX11_takesFree_108 : decode cX11_takesFree 108 = .ok (.goto 4, 3) := by decide +kernel
theorem dX11_takesFree_111 : decode cX11_takesFree 111 = .ok (.iconst 0, 1) := by decide +kernel
theorem dX11_takesFree_112 : decode cX11_takesFree 112 = .ok (.istore_n 1, 1) := by decide +kernel
theorem dX11_takesFree_113 : decode cX11_takesFree 113 = .ok (.iinc 2 1, 3) := by decide +kernel
theorem dX11_takesFree_116 : decode cX11_takesFree 116 = .ok (.goto (-39), 3) := by decide +kernel
theorem dX11_takesFree_119 : decode cX11_takesFree 119 = .ok (.iload_n 1, 1) := by decide +kernel
theorem dX11_takesFree_120 : decode cX11_takesFree 120 = .ok (.ifCond .ne 9, 3) := by decide +kernel
theorem dX11_takesFree_123 : decode cX11_takesFree 123 = .ok (.aload_n 0, 1) := by decide +kernel
theorem dX11_takesFree_124 : decode cX11_takesFree 124 = .ok (.iconst 3, 1) := by decide +kernel
theorem dX11_takesFree_125 : decode cX11_takesFree 125 = .ok (.invokevirtual 174, 3) := by decide +kernel
theorem dX11_takesFree_128 : decode cX11_takesFree 128 = .ok (.ireturn, 1) := by decide +kernel
theorem dX11_takesFree_129 : decode cX11_takesFree 129 = .ok (.aload_n 0, 1) := by decide +kernel
theorem dX11_takesFree_130 : decode cX11_takesFree 130 = .ok (.invokevirtual 177, 3) := by decide +kernel
theorem dX11_takesFree_133 : decode cX11_takesFree 133 = .ok (.iconst 1, 1) := by decide +kernel
theorem dX11_takesFree_134 : decode cX11_takesFree 134 = .ok (.ireturn, 1) := by decide +kernel
theorem dX11_readOwner_0 : decode cX11_readOwner 0 = .ok (.aload_n 0, 1) := by decide +kernel
theorem dX11_readOwner_1 : decode cX11_readOwner 1 = .ok (.getfield 37, 3) := by decide +kernel
theorem dX11_readOwner_4 : decode cX11_readOwner 4 = .ok (.iconst 2, 1) := by decide +kernel
theorem dX11_readOwner_5 : decode cX11_readOwner 5 = .ok (.iaload, 1) := by decide +kernel
theorem dX11_readOwner_6 : decode cX11_readOwner 6 = .ok (.istore_n 1, 1) := by decide +kernel
theorem dX11_readOwner_7 : decode cX11_readOwner 7 = .ok (.iload_n 1, 1) := by decide +kernel
theorem dX11_readOwner_8 : decode cX11_readOwner 8 = .ok (.bipush 8, 2) := by decide +kernel
theorem dX11_readOwner_10 : decode cX11_readOwner 10 = .ok (.if_icmp .ne 9, 3) := by decide +kernel
theorem dX11_readOwner_13 : decode cX11_readOwner 13 = .ok (.aload_n 0, 1) := by decide +kernel
theorem dX11_readOwner_14 : decode cX11_readOwner 14 = .ok (.iconst 4, 1) := by decide +kernel
theorem dX11_readOwner_15 : decode cX11_readOwner 15 = .ok (.invokevirtual 174, 3) := by decide +kernel
theorem dX11_readOwner_18 : decode cX11_readOwner 18 = .ok (.ireturn, 1) := by decide +kernel
theorem dX11_readOwner_19 : decode cX11_readOwner 19 = .ok (.aload_n 0, 1) := by decide +kernel
theorem dX11_readOwner_20 : decode cX11_readOwner 20 = .ok (.invokevirtual 177, 3) := by decide +kernel
theorem dX11_readOwner_23 : decode cX11_readOwner 23 = .ok (.aload_n 0, 1) := by decide +kernel
theorem dX11_readOwner_24 : decode cX11_readOwner 24 = .ok (.invokevirtual 230, 3) := by decide +kernel
theorem dX11_readOwner_27 : decode cX11_readOwner 27 = .ok (.ifCond .ne 9, 3) := by decide +kernel
theorem dX11_readOwner_30 : decode cX11_readOwner 30 = .ok (.aload_n 0, 1) := by decide +kernel
theorem dX11_readOwner_31 : decode cX11_readOwner 31 = .ok (.iconst 1, 1) := by decide +kernel
theorem dX11_readOwner_32 : decode cX11_readOwner 32 = .ok (.invokevirtual 174, 3) := by decide +kernel
theorem dX11_readOwner_35 : decode cX11_readOwner 35 = .ok (.ireturn, 1) := by decide +kernel
theorem dX11_readOwner_36 : decode cX11_readOwner 36 = .ok (.aload_n 0, 1) := by decide +kernel
theorem dX11_readOwner_37 : decode cX11_readOwner 37 = .ok (.bipush 8, 2) := by decide +kernel
theorem dX11_readOwner_39 : decode cX11_readOwner 39 = .ok (.iload_n 1, 1) := by decide +kernel
theorem dX11_readOwner_40 : decode cX11_readOwner 40 = .ok (.invokevirtual 233, 3) := by decide +kernel
theorem dX11_readOwner_43 : decode cX11_readOwner 43 = .ok (.ifCond .lt 9, 3) := by decide +kernel
theorem dX11_readOwner_46 : decode cX11_readOwner 46 = .ok (.aload_n 0, 1) := by decide +kernel
theorem dX11_readOwner_47 : decode cX11_readOwner 47 = .ok (.iconst 3, 1) := by decide +kernel
theorem dX11_readOwner_48 : decode cX11_readOwner 48 = .ok (.invokevirtual 174, 3) := by decide +kernel
theorem dX11_readOwner_51 : decode cX11_readOwner 51 = .ok (.ireturn, 1) := by decide +kernel
theorem dX11_readOwner_52 : decode cX11_readOwner 52 = .ok (.aload_n 0, 1) := by decide +kernel
theorem dX11_readOwner_53 : decode cX11_readOwner 53 = .ok (.getfield 43, 3) := by decide +kernel
theorem dX11_readOwner_56 : decode cX11_readOwner 56 = .ok (.bipush 8, 2) := by decide +kernel
theorem dX11_readOwner_58 : decode cX11_readOwner 58 = .ok (.iload_n 1, 1) := by decide +kernel
theorem dX11_readOwner_59 : decode cX11_readOwner 59 = .ok (.iadd, 1) := by decide +kernel
theorem dX11_readOwner_60 : decode cX11_readOwner 60 = .ok (.aload_n 0, 1) := by decide +kernel
theorem dX11_readOwner_61 : decode cX11_readOwner 61 = .ok (.getfield 161, 3) := by decide +kernel
theorem dX11_readOwner_64 : decode cX11_readOwner 64 = .ok (.lastore, 1) := by decide +kernel
theorem dX11_readOwner_65 : decode cX11_readOwner 65 = .ok (.aload_n 0, 1) := by decide +kernel
theorem dX11_readOwner_66 : decode cX11_readOwner 66 = .ok (.invokevirtual 177, 3) := by decide +kernel
theorem dX11_readOwner_69 : decode cX11_readOwner 69 = .ok (.aload_n 0, 1) := by decide +kernel
theorem dX11_readOwner_70 : decode cX11_readOwner 70 = .ok (.invokevirtual 209, 3) := by decide +kernel
theorem dX11_readOwner_73 : decode cX11_readOwner 73 = .ok (.ifCond .ne 5, 3) := by decide +kernel
theorem dX11_readOwner_76 : decode cX11_readOwner 76 = .ok (.iconst 0, 1) := by decide +kernel
theorem dX11_readOwner_77 : decode cX11_readOwner 77 = .ok (.ireturn, 1) := by decide +kernel
theorem dX11_readOwner_78 : decode cX11_readOwner 78 = .ok (.aload_n 0, 1) := by decide +kernel
theorem dX11_readOwner_79 : decode cX11_readOwner 79 = .ok (.getfield 37, 3) := by decide +kernel
theorem dX11_readOwner_82 : decode cX11_readOwner 82 = .ok (.bipush 7, 2) := by decide +kernel
theorem dX11_readOwner_84 : decode cX11_readOwner 84 = .ok (.iload_n 1, 1) := by decide +kernel
theorem dX11_readOwner_85 : decode cX11_readOwner 85 = .ok (.iadd, 1) := by decide +kernel
theorem dX11_readOwner_86 : decode cX11_readOwner 86 = .ok (.aload_n 0, 1) := by decide +kernel
theorem dX11_readOwner_87 : decode cX11_readOwner 87 = .ok (.getfield 184, 3) := by decide +kernel
theorem dX11_readOwner_90 : decode cX11_readOwner 90 = .ok (.iastore, 1) := by decide +kernel
theorem dX11_readOwner_91 : decode cX11_readOwner 91 = .ok (.aload_n 0, 1) := by decide +kernel
theorem dX11_readOwner_92 : decode cX11_readOwner 92 = .ok (.iconst 0, 1) := by decide +kernel
theorem dX11_readOwner_93 : decode cX11_readOwner 93 = .ok (.sipush 999, 3) := by decide +kernel
theorem dX11_readOwner_96 : decode cX11_readOwner 96 = .ok (.invokevirtual 195, 3) := by decide +kernel
theorem dX11_readOwner_99 : decode cX11_readOwner 99 = .ok (.ifCond .ne 5, 3) := by decide +kernel
theorem dX11_readOwner_102 : decode cX11_readOwner 102 = .ok (.iconst 0, 1) := by decide +kernel
theorem dX11_readOwner_103 : decode cX11_readOwner 103 = .ok (.ireturn, 1) := by decide +kernel
theorem dX11_readOwner_104 : decode cX11_readOwner 104 = .ok (.aload_n 0, 1) := by decide +kernel
theorem dX11_readOwner_105 : decode cX11_readOwner 105 = .ok (.getfield 37, 3) := by decide +kernel
theorem dX11_readOwner_108 : decode cX11_readOwner 108 = .ok (.bipush 15, 2) := by decide +kernel
theorem dX11_readOwner_110 : decode cX11_readOwner 110 = .ok (.iload_n 1, 1) := by decide +kernel
theorem dX11_readOwner_111 : decode cX11_readOwner 111 = .ok (.iadd, 1) := by decide +kernel
theorem dX11_readOwner_112 : decode cX11_readOwner 112 = .ok (.aload_n 0, 1) := by decide +kernel
theorem dX11_readOwner_113 : decode cX11_readOwner 113 = .ok (.getfield 184, 3) := by decide +kernel
theorem dX11_readOwner_116 : decode cX11_readOwner 116 = .ok (.iastore, 1) := by decide +kernel
theorem dX11_readOwner_117 : decode cX11_readOwner 117 = .ok (.aload_n 0, 1) := by decide +kernel
theorem dX11_readOwner_118 : decode cX11_readOwner 118 = .ok (.iconst 1, 1) := by decide +kernel
theorem dX11_readOwner_119 : decode cX11_readOwner 119 = .ok (.bipush 99, 2) := by decide +kernel
theorem dX11_readOwner_121 : decode cX11_readOwner 121 = .ok (.invokevirtual 195, 3) := by decide +kernel
theorem dX11_readOwner_124 : decode cX11_readOwner 124 = .ok (.ifCond .ne 5, 3) := by decide +kernel
theorem dX11_readOwner_127 : decode cX11_readOwner 127 = .ok (.iconst 0, 1) := by decide +kernel
theorem dX11_readOwner_128 : decode cX11_readOwner 128 = .ok (.ireturn, 1) := by decide +kernel
theorem dX11_readOwner_129 : decode cX11_readOwner 129 = .ok (.aload_n 0, 1) := by decide +kernel
theorem dX11_readOwner_130 : decode cX11_readOwner 130 = .ok (.getfield 37, 3) := by decide +kernel
theorem dX11_readOwner_133 : decode cX11_readOwner 133 = .ok (.bipush 23, 2) := by decide +kernel
theorem dX11_readOwner_135 : decode cX11_readOwner 135 = .ok (.iload_n 1, 1) := by decide +kernel
theorem dX11_readOwner_136 : decode cX11_readOwner 136 = .ok (.iadd, 1) := by decide +kernel
theorem dX11_readOwner_137 : decode cX11_readOwner 137 = .ok (.aload_n 0, 1) := by decide +kernel
theorem dX11_readOwner_138 : decode cX11_readOwner 138 = .ok (.getfield 184, 3) := by decide +kernel
theorem dX11_readOwner_141 : decode cX11_readOwner 141 = .ok (.iastore, 1) := by decide +kernel
theorem dX11_readOwner_142 : decode cX11_readOwner 142 = .ok (.aload_n 0, 1) := by decide +kernel
theorem dX11_readOwner_143 : decode cX11_readOwner 143 = .ok (.iconst 0, 1) := by decide +kernel
theorem dX11_readOwner_144 : decode cX11_readOwner 144 = .ok (.bipush 9, 2) := by decide +kernel
theorem dX11_readOwner_146 : decode cX11_readOwner 146 = .ok (.invokevirtual 195, 3) := by decide +kernel
theorem dX11_readOwner_149 : decode cX11_readOwner 149 = .ok (.ifCond .ne 5, 3) := by decide +kernel
theorem dX11_readOwner_152 : decode cX11_readOwner 152 = .ok (.iconst 0, 1) := by decide +kernel
theorem dX11_readOwner_153 : decode cX11_readOwner 153 = .ok (.ireturn, 1) := by decide +kernel
theorem dX11_readOwner_154 : decode cX11_readOwner 154 = .ok (.aload_n 0, 1) := by decide +kernel
theorem dX11_readOwner_155 : decode cX11_readOwner 155 = .ok (.getfield 37, 3) := by decide +kernel
theorem dX11_readOwner_158 : decode cX11_readOwner 158 = .ok (.bipush 31, 2) := by decide +kernel
theorem dX11_readOwner_160 : decode cX11_readOwner 160 = .ok (.iload_n 1, 1) := by decide +kernel
theorem dX11_readOwner_161 : decode cX11_readOwner 161 = .ok (.iadd, 1) := by decide +kernel
theorem dX11_readOwner_162 : decode cX11_readOwner 162 = .ok (.aload_n 0, 1) := by decide +kernel
theorem dX11_readOwner_163 : decode cX11_readOwner 163 = .ok (.getfield 184, 3) := by decide +kernel
theorem dX11_readOwner_166 : decode cX11_readOwner 166 = .ok (.iastore, 1) := by decide +kernel
theorem dX11_readOwner_167 : decode cX11_readOwner 167 = .ok (.aload_n 0, 1) := by decide +kernel
theorem dX11_readOwner_168 : decode cX11_readOwner 168 = .ok (.getfield 37, 3) := by decide +kernel
theorem dX11_readOwner_171 : decode cX11_readOwner 171 = .ok (.iconst 2, 1) := by decide +kernel
theorem dX11_readOwner_172 : decode cX11_readOwner 172 = .ok (.dup2, 1) := by decide +kernel
theorem dX11_readOwner_173 : decode cX11_readOwner 173 = .ok (.iaload, 1) := by decide +kernel
theorem dX11_readOwner_174 : decode cX11_readOwner 174 = .ok (.iconst 1, 1) := by decide +kernel
theorem dX11_readOwner_175 : decode cX11_readOwner 175 = .ok (.iadd, 1) := by decide +kernel
theorem dX11_readOwner_176 : decode cX11_readOwner 176 = .ok (.iastore, 1) := by decide +kernel
theorem dX11_readOwner_177 : decode cX11_readOwner 177 = .ok (.iconst 1, 1) := by decide +kernel
theorem dX11_readOwner_178 : decode cX11_readOwner 178 = .ok (.ireturn, 1) := by decide +kernel
theorem dX11_line_0 : decode cX11_line 0 = .ok (.aload_n 0, 1) := by decide +kernel
theorem dX11_line_1 : decode cX11_line 1 = .ok (.ldc2_w 90, 3) := by decide +kernel
theorem dX11_line_4 : decode cX11_line 4 = .ok (.invokevirtual 187, 3) := by decide +kernel
theorem dX11_line_7 : decode cX11_line 7 = .ok (.ifCond .eq 64, 3) := by decide +kernel
theorem dX11_line_10 : decode cX11_line 10 = .ok (.aload_n 0, 1) := by decide +kernel
theorem dX11_line_11 : decode cX11_line 11 = .ok (.getfield 191, 3) := by decide +kernel
theorem dX11_line_14 : decode cX11_line 14 = .ok (.ifCond .eq 9, 3) := by decide +kernel
theorem dX11_line_17 : decode cX11_line 17 = .ok (.aload_n 0, 1) := by decide +kernel
theorem dX11_line_18 : decode cX11_line 18 = .ok (.iconst 3, 1) := by decide +kernel
theorem dX11_line_19 : decode cX11_line 19 = .ok (.invokevirtual 174, 3) := by decide +kernel
theorem dX11_line_22 : decode cX11_line 22 = .ok (.ireturn, 1) := by decide +kernel
theorem dX11_line_23 : decode cX11_line 23 = .ok (.aload_n 0, 1) := by decide +kernel
theorem dX11_line_24 : decode cX11_line 24 = .ok (.iconst 1, 1) := by decide +kernel
theorem dX11_line_25 : decode cX11_line 25 = .ok (.putfield 191, 3) := by decide +kernel
theorem dX11_line_28 : decode cX11_line 28 = .ok (.aload_n 0, 1) := by decide +kernel
theorem dX11_line_29 : decode cX11_line 29 = .ok (.invokevirtual 177, 3) := by decide +kernel
theorem dX11_line_32 : decode cX11_line 32 = .ok (.iconst 0, 1) := by decide +kernel
theorem dX11_line_33 : decode cX11_line 33 = .ok (.istore_n 1, 1) := by decide +kernel
theorem dX11_line_34 : decode cX11_line 34 = .ok (.iload_n 1, 1) := by decide +kernel
theorem dX11_line_35 : decode cX11_line 35 = .ok (.iconst 2, 1) := by decide +kernel
theorem dX11_line_36 : decode cX11_line 36 = .ok (.if_icmp .ge 33, 3) := by decide +kernel
theorem dX11_line_39 : decode cX11_line 39 = .ok (.aload_n 0, 1) := by decide +kernel
theorem dX11_line_40 : decode cX11_line 40 = .ok (.iconst 2, 1) := by decide +kernel
theorem dX11_line_41 : decode cX11_line 41 = .ok (.bipush 10, 2) := by decide +kernel
theorem dX11_line_43 : decode cX11_line 43 = .ok (.invokevirtual 195, 3) := by decide +kernel
theorem dX11_line_46 : decode cX11_line 46 = .ok (.ifCond .ne 5, 3) := by decide +kernel
theorem dX11_line_49 : decode cX11_line 49 = .ok (.iconst 0, 1) := by decide +kernel
theorem dX11_line_50 : decode cX11_line 50 = .ok (.ireturn, 1) := by decide +kernel
theorem dX11_line_51 : decode cX11_line 51 = .ok (.aload_n 0, 1) := by decide +kernel
theorem dX11_line_52 : decode cX11_line 52 = .ok (.getfield 37, 3) := by decide +kernel
theorem dX11_line_55 : decode cX11_line 55 = .ok (.iconst 0, 1) := by decide +kernel
theorem dX11_line_56 : decode cX11_line 56 = .ok (.iload_n 1, 1) := by decide +kernel
theorem dX11_line_57 : decode cX11_line 57 = .ok (.iadd, 1) := by decide +kernel
theorem dX11_line_58 : decode cX11_line 58 = .ok (.aload_n 0, 1) := by decide +kernel
theorem dX11_line_59 : decode cX11_line 59 = .ok (.getfield 184, 3) := by decide +kernel
theorem dX11_line_62 : decode cX11_line 62 = .ok (.iastore, 1) := by decide +kernel
theorem dX11_line_63 : decode cX11_line 63 = .ok (.iinc 1 1, 3) := by decide +kernel
theorem dX11_line_66 : decode cX11_line 66 = .ok (.goto (-32), 3) := by decide +kernel
theorem dX11_line_69 : decode cX11_line 69 = .ok (.iconst 1, 1) := by decide +kernel
theorem dX11_line_70 : decode cX11_line 70 = .ok (.ireturn, 1) := by decide +kernel
theorem dX11_line_71 : decode cX11_line 71 = .ok (.aload_n 0, 1) := by decide +kernel
theorem dX11_line_72 : decode cX11_line 72 = .ok (.ldc2_w 92, 3) := by decide +kernel
theorem dX11_line_75 : decode cX11_line 75 = .ok (.invokevirtual 187, 3) := by decide +kernel
theorem dX11_line_78 : decode cX11_line 78 = .ok (.ifCond .eq 8, 3) := by decide +kernel
theorem dX11_line_81 : decode cX11_line 81 = .ok (.aload_n 0, 1) := by decide +kernel
theorem dX11_line_82 : decode cX11_line 82 = .ok (.invokevirtual 199, 3) := by decide +kernel
theorem dX11_line_85 : decode cX11_line 85 = .ok (.ireturn, 1) := by decide +kernel
theorem dX11_line_86 : decode cX11_line 86 = .ok (.aload_n 0, 1) := by decide +kernel
theorem dX11_line_87 : decode cX11_line 87 = .ok (.ldc2_w 94, 3) := by decide +kernel
theorem dX11_line_90 : decode cX11_line 90 = .ok (.invokevirtual 187, 3) := by decide +kernel
theorem dX11_line_93 : decode cX11_line 93 = .ok (.ifCond .eq 64, 3) := by decide +kernel
theorem dX11_line_96 : decode cX11_line 96 = .ok (.aload_n 0, 1) := by decide +kernel
theorem dX11_line_97 : decode cX11_line 97 = .ok (.invokevirtual 177, 3) := by decide +kernel
theorem dX11_line_100 : decode cX11_line 100 = .ok (.aload_n 0, 1) := by decide +kernel
theorem dX11_line_101 : decode cX11_line 101 = .ok (.aload_n 0, 1) := by decide +kernel
theorem dX11_line_102 : decode cX11_line 102 = .ok (.getfield 203, 3) := by decide +kernel
theorem dX11_line_105 : decode cX11_line 105 = .ok (.invokevirtual 206, 3) := by decide +kernel
theorem dX11_line_108 : decode cX11_line 108 = .ok (.ifCond .ne 5, 3) := by decide +kernel
theorem dX11_line_111 : decode cX11_line 111 = .ok (.iconst 0, 1) := by decide +kernel
theorem dX11_line_112 : decode cX11_line 112 = .ok (.ireturn, 1) := by decide +kernel
theorem dX11_line_113 : decode cX11_line 113 = .ok (.aload_n 0, 1) := by decide +kernel
theorem dX11_line_114 : decode cX11_line 114 = .ok (.getfield 184, 3) := by decide +kernel
theorem dX11_line_117 : decode cX11_line 117 = .ok (.istore_n 1, 1) := by decide +kernel
theorem dX11_line_118 : decode cX11_line 118 = .ok (.aload_n 0, 1) := by decide +kernel
