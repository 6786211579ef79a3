theorem dX9_gale_46 : decode cX9_gale 46 = .ok (.aload_n 2, 1) := by decide +kernel
theorem dX9_gale_47 : decode cX9_gale 47 = .ok (.getfield 77, 3) := by decide +kernel
theorem dX9_gale_50 : decode cX9_gale 50 = .ok (.iload 7, 2) := by decide +kernel
theorem dX9_gale_52 : decode cX9_gale 52 = .ok (.iaload, 1) := by decide +kernel
theorem dX9_gale_53 : decode cX9_gale 53 = .ok (.invokestatic 25, 3) := by decide +kernel
theorem dX9_gale_56 : decode cX9_gale 56 = .ok (.istore 8, 2) := by decide +kernel
theorem dX9_gale_58 : decode cX9_gale 58 = .ok (.aload_n 2, 1) := by decide +kernel
theorem dX9_gale_59 : decode cX9_gale 59 = .ok (.getfield 77, 3) := by decide +kernel
theorem dX9_gale_62 : decode cX9_gale 62 = .ok (.iload 7, 2) := by decide +kernel
theorem dX9_gale_64 : decode cX9_gale 64 = .ok (.dup2, 1) := by decide +kernel
theorem dX9_gale_65 : decode cX9_gale 65 = .ok (.iaload, 1) := by decide +kernel
theorem dX9_gale_66 : decode cX9_gale 66 = .ok (.iload 8, 2) := by decide +kernel
theorem dX9_gale_68 : decode cX9_gale 68 = .ok (.isub, 1) := by decide +kernel
theorem dX9_gale_69 : decode cX9_gale 69 = .ok (.iastore, 1) := by decide +kernel
theorem dX9_gale_70 : decode cX9_gale 70 = .ok (.aload_n 2, 1) := by decide +kernel
theorem dX9_gale_71 : decode cX9_gale 71 = .ok (.getfield 80, 3) := by decide +kernel
theorem dX9_gale_74 : decode cX9_gale 74 = .ok (.iload 7, 2) := by decide +kernel
theorem dX9_gale_76 : decode cX9_gale 76 = .ok (.dup2, 1) := by decide +kernel
theorem dX9_gale_77 : decode cX9_gale 77 = .ok (.iaload, 1) := by decide +kernel
theorem dX9_gale_78 : decode cX9_gale 78 = .ok (.iload 8, 2) := by decide +kernel
theorem dX9_gale_80 : decode cX9_gale 80 = .ok (.iadd, 1) := by decide +kernel
theorem dX9_gale_81 : decode cX9_gale 81 = .ok (.iastore, 1) := by decide +kernel
theorem dX9_gale_82 : decode cX9_gale 82 = .ok (.iload 6, 2) := by decide +kernel
theorem dX9_gale_84 : decode cX9_gale 84 = .ok (.iload 8, 2) := by decide +kernel
theorem dX9_gale_86 : decode cX9_gale 86 = .ok (.iadd, 1) := by decide +kernel
theorem dX9_gale_87 : decode cX9_gale 87 = .ok (.istore 6, 2) := by decide +kernel
theorem dX9_gale_89 : decode cX9_gale 89 = .ok (.iinc 7 1, 3) := by decide +kernel
theorem dX9_gale_92 : decode cX9_gale 92 = .ok (.goto (-70), 3) := by decide +kernel
theorem dX9_gale_95 : decode cX9_gale 95 = .ok (.iload 5, 2) := by decide +kernel
theorem dX9_gale_97 : decode cX9_gale 97 = .ok (.ifCond .ne 17, 3) := by decide +kernel
theorem dX9_gale_100 : decode cX9_gale 100 = .ok (.aload_n 2, 1) := by decide +kernel
theorem dX9_gale_101 : decode cX9_gale 101 = .ok (.dup, 1) := by decide +kernel
theorem dX9_gale_102 : decode cX9_gale 102 = .ok (.getfield 83, 3) := by decide +kernel
theorem dX9_gale_105 : decode cX9_gale 105 = .ok (.iload 6, 2) := by decide +kernel
theorem dX9_gale_107 : decode cX9_gale 107 = .ok (.iadd, 1) := by decide +kernel
theorem dX9_gale_108 : decode cX9_gale 108 = .ok (.putfield 83, 3) := by decide +kernel
theorem dX9_gale_111 : decode cX9_gale 111 = .ok (.goto 78, 3) := by decide +kernel
theorem dX9_gale_114 : decode cX9_gale 114 = .ok (.aload_n 0, 1) := by decide +kernel
theorem dX9_gale_115 : decode cX9_gale 115 = .ok (.aload_n 1, 1) := by decide +kernel
theorem dX9_gale_116 : decode cX9_gale 116 = .ok (.getfield 31, 3) := by decide +kernel
theorem dX9_gale_119 : decode cX9_gale 119 = .ok (.iload 5, 2) := by decide +kernel
theorem dX9_gale_121 : decode cX9_gale 121 = .ok (.iload 6, 2) := by decide +kernel
theorem dX9_gale_123 : decode cX9_gale 123 = .ok (.invokevirtual 86, 3) := by decide +kernel
theorem dX9_gale_126 : decode cX9_gale 126 = .ok (.aload_n 0, 1) := by decide +kernel
theorem dX9_gale_127 : decode cX9_gale 127 = .ok (.aload_n 1, 1) := by decide +kernel
theorem dX9_gale_128 : decode cX9_gale 128 = .ok (.getfield 31, 3) := by decide +kernel
theorem dX9_gale_131 : decode cX9_gale 131 = .ok (.invokevirtual 90, 3) := by decide +kernel
theorem dX9_gale_134 : decode cX9_gale 134 = .ok (.iconst 0, 1) := by decide +kernel
theorem dX9_gale_135 : decode cX9_gale 135 = .ok (.istore 7, 2) := by decide +kernel
theorem dX9_gale_137 : decode cX9_gale 137 = .ok (.iload 7, 2) := by decide +kernel
theorem dX9_gale_139 : decode cX9_gale 139 = .ok (.aload_n 1, 1) := by decide +kernel
theorem dX9_gale_140 : decode cX9_gale 140 = .ok (.getfield 31, 3) := by decide +kernel
theorem dX9_gale_143 : decode cX9_gale 143 = .ok (.getfield 37, 3) := by decide +kernel
theorem dX9_gale_146 : decode cX9_gale 146 = .ok (.if_icmp .ge 43, 3) := by decide +kernel
theorem dX9_gale_149 : decode cX9_gale 149 = .ok (.aload_n 2, 1) := by decide +kernel
theorem dX9_gale_150 : decode cX9_gale 150 = .ok (.getfield 77, 3) := by decide +kernel
theorem dX9_gale_153 : decode cX9_gale 153 = .ok (.iload 7, 2) := by decide +kernel
theorem dX9_gale_155 : decode cX9_gale 155 = .ok (.dup2, 1) := by decide +kernel
theorem dX9_gale_156 : decode cX9_gale 156 = .ok (.iaload, 1) := by decide +kernel
theorem dX9_gale_157 : decode cX9_gale 157 = .ok (.aload_n 0, 1) := by decide +kernel
theorem dX9_gale_158 : decode cX9_gale 158 = .ok (.getfield 18, 3) := by decide +kernel
theorem dX9_gale_161 : decode cX9_gale 161 = .ok (.iload 7, 2) := by decide +kernel
theorem dX9_gale_163 : decode cX9_gale 163 = .ok (.iaload, 1) := by decide +kernel
theorem dX9_gale_164 : decode cX9_gale 164 = .ok (.iadd, 1) := by decide +kernel
theorem dX9_gale_165 : decode cX9_gale 165 = .ok (.iastore, 1) := by decide +kernel
theorem dX9_gale_166 : decode cX9_gale 166 = .ok (.aload_n 2, 1) := by decide +kernel
theorem dX9_gale_167 : decode cX9_gale 167 = .ok (.getfield 94, 3) := by decide +kernel
theorem dX9_gale_170 : decode cX9_gale 170 = .ok (.iload 7, 2) := by decide +kernel
theorem dX9_gale_172 : decode cX9_gale 172 = .ok (.dup2, 1) := by decide +kernel
theorem dX9_gale_173 : decode cX9_gale 173 = .ok (.iaload, 1) := by decide +kernel
theorem dX9_gale_174 : decode cX9_gale 174 = .ok (.aload_n 0, 1) := by decide +kernel
theorem dX9_gale_175 : decode cX9_gale 175 = .ok (.getfield 18, 3) := by decide +kernel
theorem dX9_gale_178 : decode cX9_gale 178 = .ok (.iload 7, 2) := by decide +kernel
theorem dX9_gale_180 : decode cX9_gale 180 = .ok (.iaload, 1) := by decide +kernel
theorem dX9_gale_181 : decode cX9_gale 181 = .ok (.iadd, 1) := by decide +kernel
theorem dX9_gale_182 : decode cX9_gale 182 = .ok (.iastore, 1) := by decide +kernel
theorem dX9_gale_183 : decode cX9_gale 183 = .ok (.iinc 7 1, 3) := by decide +kernel
theorem dX9_gale_186 : decode cX9_gale 186 = .ok (.goto (-49), 3) := by decide +kernel
theorem dX9_gale_189 : decode cX9_gale 189 = .ok (.return_, 1) := by decide +kernel
theorem dX9_share_0 : decode cX9_share 0 = .ok (.iconst 0, 1) := by decide +kernel
theorem dX9_share_1 : decode cX9_share 1 = .ok (.istore 4, 2) := by decide +kernel
theorem dX9_share_3 : decode cX9_share 3 = .ok (.iconst 0, 1) := by decide +kernel
theorem dX9_share_4 : decode cX9_share 4 = .ok (.istore 5, 2) := by decide +kernel
theorem dX9_share_6 : decode cX9_share 6 = .ok (.iload 5, 2) := by decide +kernel
theorem dX9_share_8 : decode cX9_share 8 = .ok (.aload_n 1, 1) := by decide +kernel
theorem dX9_share_9 : decode cX9_share 9 = .ok (.getfield 37, 3) := by decide +kernel
theorem dX9_share_12 : decode cX9_share 12 = .ok (.if_icmp .ge 28, 3) := by decide +kernel
theorem dX9_share_15 : decode cX9_share 15 = .ok (.iload 4, 2) := by decide +kernel
theorem dX9_share_17 : decode cX9_share 17 = .ok (.iload_n 2, 1) := by decide +kernel
theorem dX9_share_18 : decode cX9_share 18 = .ok (.iload 5, 2) := by decide +kernel
theorem dX9_share_20 : decode cX9_share 20 = .ok (.ishr, 1) := by decide +kernel
theorem dX9_share_21 : decode cX9_share 21 = .ok (.iconst 1, 1) := by decide +kernel
theorem dX9_share_22 : decode cX9_share 22 = .ok (.iand, 1) := by decide +kernel
theorem dX9_share_23 : decode cX9_share 23 = .ok (.aload_n 1, 1) := by decide +kernel
theorem dX9_share_24 : decode cX9_share 24 = .ok (.getfield 97, 3) := by decide +kernel
theorem dX9_share_27 : decode cX9_share 27 = .ok (.iload 5, 2) := by decide +kernel
theorem dX9_share_29 : decode cX9_share 29 = .ok (.iaload, 1) := by decide +kernel
theorem dX9_share_30 : decode cX9_share 30 = .ok (.imul, 1) := by decide +kernel
theorem dX9_share_31 : decode cX9_share 31 = .ok (.iadd, 1) := by decide +kernel
theorem dX9_share_32 : decode cX9_share 32 = .ok (.istore 4, 2) := by decide +kernel
theorem dX9_share_34 : decode cX9_share 34 = .ok (.iinc 5 1, 3) := by decide +kernel
theorem dX9_share_37 : decode cX9_share 37 = .ok (.goto (-31), 3) := by decide +kernel
theorem dX9_share_40 : decode cX9_share 40 = .ok (.iload_n 3, 1) := by decide +kernel
theorem dX9_share_41 : decode cX9_share 41 = .ok (.istore 5, 2) := by decide +kernel
theorem dX9_share_43 : decode cX9_share 43 = .ok (.iconst 0, 1) := by decide +kernel
theorem dX9_share_44 : decode cX9_share 44 = .ok (.istore 6, 2) := by decide +kernel
theorem dX9_share_46 : decode cX9_share 46 = .ok (.iload 6, 2) := by decide +kernel
theorem dX9_share_48 : decode cX9_share 48 = .ok (.aload_n 1, 1) := by decide +kernel
theorem dX9_share_49 : decode cX9_share 49 = .ok (.getfield 37, 3) := by decide +kernel
theorem dX9_share_52 : decode cX9_share 52 = .ok (.if_icmp .ge 90, 3) := by decide +kernel
theorem dX9_share_55 : decode cX9_share 55 = .ok (.aload_n 0, 1) := by decide +kernel
theorem dX9_share_56 : decode cX9_share 56 = .ok (.getfield 9, 3) := by decide +kernel
theorem dX9_share_59 : decode cX9_share 59 = .ok (.iload 6, 2) := by decide +kernel
theorem dX9_share_61 : decode cX9_share 61 = .ok (.iconst 0, 1) := by decide +kernel
theorem dX9_share_62 : decode cX9_share 62 = .ok (.iastore, 1) := by decide +kernel
theorem dX9_share_63 : decode cX9_share 63 = .ok (.aload_n 0, 1) := by decide +kernel
theorem dX9_share_64 : decode cX9_share 64 = .ok (.getfield 15, 3) := by decide +kernel
theorem dX9_share_67 : decode cX9_share 67 = .ok (.iload 6, 2) := by decide +kernel
theorem dX9_share_69 : decode cX9_share 69 = .ok (.iconst (-1), 1) := by decide +kernel
theorem dX9_share_70 : decode cX9_share 70 = .ok (.iastore, 1) := by decide +kernel
theorem dX9_share_71 : decode cX9_share 71 = .ok (.iload_n 2, 1) := by decide +kernel
theorem dX9_share_72 : decode cX9_share 72 = .ok (.iload 6, 2) := by decide +kernel
theorem dX9_share_74 : decode cX9_share 74 = .ok (.ishr, 1) := by decide +kernel
theorem dX9_share_75 : decode cX9_share 75 = .ok (.iconst 1, 1) := by decide +kernel
theorem dX9_share_76 : decode cX9_share 76 = .ok (.iand, 1) := by decide +kernel
theorem dX9_share_77 : decode cX9_share 77 = .ok (.iconst 1, 1) := by decide +kernel
theorem dX9_share_78 : decode cX9_share 78 = .ok (.if_icmp .ne 58, 3) := by decide +kernel
theorem dX9_share_81 : decode cX9_share 81 = .ok (.iload 4, 2) := by decide +kernel
theorem dX9_share_83 : decode cX9_share 83 = .ok (.ifCond .le 53, 3) := by decide +kernel
theorem dX9_share_86 : decode cX9_share 86 = .ok (.aload_n 0, 1) := by decide +kernel
theorem dX9_share_87 : decode cX9_share 87 = .ok (.getfield 9, 3) := by decide +kernel
theorem dX9_share_90 : decode cX9_share 90 = .ok (.iload 6, 2) := by decide +kernel
theorem dX9_share_92 : decode cX9_share 92 = .ok (.iload_n 3, 1) := by decide +kernel
theorem dX9_share_93 : decode cX9_share 93 = .ok (.aload_n 1, 1) := by decide +kernel
theorem dX9_share_94 : decode cX9_share 94 = .ok (.getfield 97, 3) := by decide +kernel
theorem dX9_share_97 : decode cX9_share 97 = .ok (.iload 6, 2) := by decide +kernel
theorem dX9_share_99 : decode cX9_share 99 = .ok (.iaload, 1) := by decide +kernel
theorem dX9_share_100 : decode cX9_share 100 = .ok (.imul, 1) := by decide +kernel
theorem dX9_share_101 : decode cX9_share 101 = .ok (.iload 4, 2) := by decide +kernel
theorem dX9_share_103 : decode cX9_share 103 = .ok (.idiv, 1) := by decide +kernel
theorem dX9_share_104 : decode cX9_share 104 = .ok (.iastore, 1) := by decide +kernel
theorem dX9_share_105 : decode cX9_share 105 = .ok (.aload_n 0, 1) := by decide +kernel
theorem dX9_share_106 : decode cX9_share 106 = .ok (.getfield 15, 3) := by decide +kernel
theorem dX9_share_109 : decode cX9_share 109 = .ok (.iload 6, 2) := by decide +kernel
theorem dX9_share_111 : decode cX9_share 111 = .ok (.iload_n 3, 1) := by decide +kernel
theorem dX9_share_112 : decode cX9_share 112 = .ok (.aload_n 1, 1) := by decide +kernel
theorem dX9_share_113 : decode cX9_share 113 = .ok (.getfield 97, 3) := by decide +kernel
theorem dX9_share_116 : decode cX9_share 116 = .ok (.iload 6, 2) := by decide +kernel
theorem dX9_share_118 : decode cX9_share 118 = .ok (.iaload, 1) := by decide +kernel
theorem dX9_share_119 : decode cX9_share 119 = .ok (.imul, 1) := by decide +kernel
theorem dX9_share_120 : decode cX9_share 120 = .ok (.iload 4, 2) := by decide +kernel
theorem dX9_share_122 : decode cX9_share 122 = .ok (.irem, 1) := by decide +kernel
theorem dX9_share_123 : decode cX9_share 123 = .ok (.iastore, 1) := by decide +kernel
theorem dX9_share_124 : decode cX9_share 124 = .ok (.iload 5, 2) := by decide +kernel
theorem dX9_share_126 : decode cX9_share 126 = .ok (.aload_n 0, 1) := by decide +kernel
theorem dX9_share_127 : decode cX9_share 127 = .ok (.getfield 9, 3) := by decide +kernel
theorem dX9_share_130 : decode cX9_share 130 = .ok (.iload 6, 2) := by decide +kernel
theorem dX9_share_132 : decode cX9_share 132 = .ok (.iaload, 1) := by decide +kernel
theorem dX9_share_133 : decode cX9_share 133 = .ok (.isub, 1) := by decide +kernel
theorem dX9_share_134 : decode cX9_share 134 = .ok (.istore 5, 2) := by decide +kernel
theorem dX9_share_136 : decode cX9_share 136 = .ok (.iinc 6 1, 3) := by decide +kernel
theorem dX9_share_139 : decode cX9_share 139 = .ok (.goto (-93), 3) := by decide +kernel
theorem dX9_share_142 : decode cX9_share 142 = .ok (.iconst 0, 1) := by decide +kernel
theorem dX9_share_143 : decode cX9_share 143 = .ok (.istore 6, 2) := by decide +kernel
theorem dX9_share_145 : decode cX9_share 145 = .ok (.iload 6, 2) := by decide +kernel
theorem dX9_share_147 : decode cX9_share 147 = .ok (.iload 5, 2) := by decide +kernel
theorem dX9_share_149 : decode cX9_share 149 = .ok (.if_icmp .ge 17, 3) := by decide +kernel
theorem dX9_share_152 : decode cX9_share 152 = .ok (.aload_n 0, 1) := by decide +kernel
theorem dX9_share_153 : decode cX9_share 153 = .ok (.aload_n 1, 1) := by decide +kernel
theorem dX9_share_154 : decode cX9_share 154 = .ok (.getfield 37, 3) := by decide +kernel
theorem dX9_share_157 : decode cX9_share 157 = .ok (.invokevirtual 99, 3) := by decide +kernel
theorem dX9_share_160 : decode cX9_share 160 = .ok (.iinc 6 1, 3) := by decide +kernel
theorem dX9_share_163 : decode cX9_share 163 = .ok (.goto (-18), 3) := by decide +kernel
theorem dX9_share_166 : decode cX9_share 166 = .ok (.return_, 1) := by decide +kernel
theorem dX9_giveToGreatestRest_0 : decode cX9_giveToGreatestRest 0 = .ok (.iconst 0, 1) := by decide +kernel
theorem dX9_giveToGreatestRest_1 : decode cX9_giveToGreatestRest 1 = .ok (.istore_n 2, 1) := by decide +kernel
theorem dX9_giveToGreatestRest_2 : decode cX9_giveToGreatestRest 2 = .ok (.iconst 1, 1) := by decide +kernel
theorem dX9_giveToGreatestRest_3 : decode cX9_giveToGreatestRest 3 = .ok (.istore_n 3, 1) := by decide +kernel
theorem dX9_giveToGreatestRest_4 : decode cX9_giveToGreatestRest 4 = .ok (.iload_n 3, 1) := by decide +kernel
theorem dX9_giveToGreatestRest_5 : decode cX9_giveToGreatestRest 5 = .ok (.iload_n 1, 1) := by decide +kernel
theorem dX9_giveToGreatestRest_6 : decode cX9_giveToGreatestRest 6 = .ok (.if_icmp .ge 26, 3) := by decide +kernel
theorem dX9_giveToGreatestRest_9 : decode cX9_giveToGreatestRest 9 = .ok (.aload_n 0, 1) := by decide +kernel
theorem dX9_giveToGreatestRest_10 : decode cX9_giveToGreatestRest 10 = .ok (.getfield 15, 3) := by decide +kernel
theorem dX9_giveToGreatestRest_13 : decode cX9_giveToGreatestRest 13 = .ok (.iload_n 3, 1) := by decide +kernel
theorem dX9_giveToGreatestRest_14 : decode cX9_giveToGreatestRest 14 = .ok (.iaload, 1) := by decide +kernel
theorem dX9_giveToGreatestRest_15 : decode cX9_giveToGreatestRest 15 = .ok (.aload_n 0, 1) := by decide +kernel
theorem dX9_giveToGreatestRest_16 : decode cX9_giveToGreatestRest 16 = .ok (.getfield 15, 3) := by decide +kernel
theorem dX9_giveToGreatestRest_19 : decode cX9_giveToGreatestRest 19 = .ok (.iload_n 2, 1) := by decide +kernel
theorem dX9_giveToGreatestRest_20 : decode cX9_giveToGreatestRest 20 = .ok (.iaload, 1) := by decide +kernel
theorem dX9_giveToGreatestRest_21 : decode cX9_giveToGreatestRest 21 = .ok (.if_icmp .le 5, 3) := by decide +kernel
theorem dX9_giveToGreatestRest_24 : decode cX9_giveToGreatestRest 24 = .ok (.iload_n 3, 1) := by decide +kernel
theorem dX9_giveToGreatestRest_25 : decode cX9_giveToGreatestRest 25 = .ok (.istore_n 2, 1) := by decide +kernel
theorem dX9_giveToGreatestRest_26 : decode cX9_giveToGreatestRest 26 = .ok (.iinc 3 1, 3) := by decide +kernel
theorem dX9_giveToGreatestRest_29 : decode cX9_giveToGreatestRest 29 = .ok (.goto (-25), 3) := by decide +kernel
theorem dX9_giveToGreatestRest_32 : decode cX9_giveToGreatestRest 32 = .ok (.aload_n 0, 1) := by decide +kernel
theorem dX9_giveToGreatestRest_33 : decode cX9_giveToGreatestRest 33 = .ok (.getfield 9, 3) := by decide +kernel
theorem dX9_giveToGreatestRest_36 : decode cX9_giveToGreatestRest 36 = .ok (.iload_n 2, 1) := by decide +kernel
theorem dX9_giveToGreatestRest_37 : decode cX9_giveToGreatestRest 37 = .ok (.dup2, 1) := by decide +kernel
theorem dX9_giveToGreatestRest_38 : decode cX9_giveToGreatestRest 38 = .ok (.iaload, 1) := by decide +kernel
theorem dX9_giveToGreatestRest_39 : decode cX9_giveToGreatestRest 39 = .ok (.iconst 1, 1) := by decide +kernel
theorem dX9_giveToGreatestRest_40 : decode cX9_giveToGreatestRest 40 = .ok (.iadd, 1) := by decide +kernel
theorem dX9_giveToGreatestRest_41 : decode cX9_giveToGreatestRest 41 = .ok (.iastore, 1) := by decide +kernel
theorem dX9_giveToGreatestRest_42 : decode cX9_giveToGreatestRest 42 = .ok (.aload_n 0, 1) := by decide +kernel
theorem dX9_giveToGreatestRest_43 : decode cX9_giveToGreatestRest 43 = .ok (.getfield 15, 3) := by decide +kernel
theorem dX9_giveToGreatestRest_46 : decode cX9_giveToGreatestRest 46 = .ok (.iload_n 2, 1) := by decide +kernel
theorem dX9_giveToGreatestRest_47 : decode cX9_giveToGreatestRest 47 = .ok (.iconst (-1), 1) := by decide +kernel
theorem dX9_giveToGreatestRest_48 : decode cX9_giveToGreatestRest 48 = .ok (.iastore, 1) := by decide +kernel
theorem dX9_giveToGreatestRest_49 : decode cX9_giveToGreatestRest 49 = .ok (.return_, 1) := by decide +kernel
theorem dX9_payPacts_0 : decode cX9_payPacts 0 = .ok (.iconst 0, 1) := by decide +kernel
theorem dX9_payPacts_1 : decode cX9_payPacts 1 = .ok (.istore_n 2, 1) := by decide +kernel
theorem dX9_payPacts_2 : decode cX9_payPacts 2 = .ok (.iload_n 2, 1) := by decide +kernel
theorem dX9_payPacts_3 : decode cX9_payPacts 3 = .ok (.aload_n 1, 1) := by decide +kernel
theorem dX9_payPacts_4 : decode cX9_payPacts 4 = .ok (.getfield 37, 3) := by decide +kernel
theorem dX9_payPacts_7 : decode cX9_payPacts 7 = .ok (.if_icmp .ge 21, 3) := by decide +kernel
theorem dX9_payPacts_10 : decode cX9_payPacts 10 = .ok (.aload_n 0, 1) := by decide +kernel
theorem dX9_payPacts_11 : decode cX9_payPacts 11 = .ok (.getfield 18, 3) := by decide +kernel
theorem dX9_payPacts_14 : decode cX9_payPacts 14 = .ok (.iload_n 2, 1) := by decide +kernel
theorem dX9_payPacts_15 : decode cX9_payPacts 15 = .ok (.aload_n 0, 1) := by decide +kernel
theorem dX9_payPacts_16 : decode cX9_payPacts 16 = .ok (.getfield 9, 3) := by decide +kernel
theorem dX9_payPacts_19 : decode cX9_payPacts 19 = .ok (.iload_n 2, 1) := by decide +kernel
theorem dX9_payPacts_20 : decode cX9_payPacts 20 = .ok (.iaload, 1) := by decide +kernel
theorem dX9_payPacts_21 : decode cX9_payPacts 21 = .ok (.iastore, 1) := by decide +kernel
theorem dX9_payPacts_22 : decode cX9_payPacts 22 = .ok (.iinc 2 1, 3) := by decide +kernel
theorem dX9_payPacts_25 : decode cX9_payPacts 25 = .ok (.goto (-23), 3) := by decide +kernel
theorem dX9_payPacts_28 : decode cX9_payPacts 28 = .ok (.iconst 0, 1) := by decide +kernel
theorem dX9_payPacts_29 : decode cX9_payPacts 29 = .ok (.istore_n 2, 1) := by decide +kernel
theorem dX9_payPacts_30 : decode cX9_payPacts 30 = .ok (.iload_n 2, 1) := by decide +kernel
theorem dX9_payPacts_31 : decode cX9_payPacts 31 = .ok (.aload_n 1, 1) := by decide +kernel
theorem dX9_payPacts_32 : decode cX9_payPacts 32 = .ok (.getfield 37, 3) := by decide +kernel
theorem dX9_payPacts_35 : decode cX9_payPacts 35 = .ok (.if_icmp .ge 62, 3) := by decide +kernel
theorem dX9_payPacts_38 : decode cX9_payPacts 38 = .ok (.aload_n 1, 1) := by decide +kernel
theorem dX9_payPacts_39 : decode cX9_payPacts 39 = .ok (.getfield 103, 3) := by decide +kernel
theorem dX9_payPacts_42 : decode cX9_payPacts 42 = .ok (.iload_n 2, 1) := by decide +kernel
theorem dX9_payPacts_43 : decode cX9_payPacts 43 = .ok (.iaload, 1) := by decide +kernel
theorem dX9_payPacts_44 : decode cX9_payPacts 44 = .ok (.istore_n 3, 1) := by decide +kernel
theorem dX9_payPacts_45 : decode cX9_payPacts 45 = .ok (.iload_n 3, 1) := by decide +kernel
theorem dX9_payPacts_46 : decode cX9_payPacts 46 = .ok (.ifCond .lt 45, 3) := by decide +kernel
theorem dX9_payPacts_49 : decode cX9_payPacts 49 = .ok (.iload_n 3, 1) := by decide +kernel
theorem dX9_payPacts_50 : decode cX9_payPacts 50 = .ok (.aload_n 1, 1) := by decide +kernel
theorem dX9_payPacts_51 : decode cX9_payPacts 51 = .ok (.getfield 37, 3) := by decide +kernel
theorem dX9_payPacts_54 : decode cX9_payPacts 54 = .ok (.if_icmp .ge 37, 3) := by decide +kernel
theorem dX9_payPacts_57 : decode cX9_payPacts 57 = .ok (.aload_n 0, 1) := by decide +kernel
theorem dX9_payPacts_58 : decode cX9_payPacts 58 = .ok (.getfield 18, 3) := by decide +kernel
theorem dX9_payPacts_61 : decode cX9_payPacts 61 = .ok (.iload_n 2, 1) := by decide +kernel
theorem dX9_payPacts_62 : decode cX9_payPacts 62 = .ok (.dup2, 1) := by decide +kernel
theorem dX9_payPacts_63 : decode cX9_payPacts 63 = .ok (.iaload, 1) := by decide +kernel
theorem dX9_payPacts_64 : decode cX9_payPacts 64 = .ok (.aload_n 0, 1) := by decide +kernel
theorem dX9_payPacts_65 : decode cX9_payPacts 65 = .ok (.getfield 9, 3) := by decide +kernel
theorem dX9_payPacts_68 : decode cX9_payPacts 68 = .ok (.iload_n 2, 1) := by decide +kernel
theorem dX9_payPacts_69 : decode cX9_payPacts 69 = .ok (.iaload, 1) := by decide +kernel
theorem dX9_payPacts_70 : decode cX9_payPacts 70 = .ok (.iconst 3, 1) := by decide +kernel
theorem dX9_payPacts_71 : decode cX9_payPacts 71 = .ok (.idiv, 1) := by decide +kernel
theorem dX9_payPacts_72 : decode cX9_payPacts 72 = .ok (.isub, 1) := by decide +kernel
theorem dX9_payPacts_73 : decode cX9_payPacts 73 = .ok (.iastore, 1) := by decide +kernel
theorem dX9_payPacts_74 : decode cX9_payPacts 74 = .ok (.aload_n 0, 1) := by decide +kernel
theorem dX9_payPacts_75 : decode cX9_payPacts 75 = .ok (.getfield 18, 3) := by decide +kernel
theorem dX9_payPacts_78 : decode cX9_payPacts 78 = .ok (.iload_n 3, 1) := by decide +kernel
theorem dX9_payPacts_79 : decode cX9_payPacts 79 = .ok (.dup2, 1) := by decide +kernel
theorem dX9_payPacts_80 : decode cX9_payPacts 80 = .ok (.iaload, 1) := by decide +kernel
theorem dX9_payPacts_81 : decode cX9_payPacts 81 = .ok (.aload_n 0, 1) := by decide +kernel
theorem dX9_payPacts_82 : decode cX9_payPacts 82 = .ok (.getfield 9, 3) := by decide +kernel
theorem dX9_payPacts_85 : decode cX9_payPacts 85 = .ok (.iload_n 2, 1) := by decide +kernel
theorem dX9_payPacts_86 : decode cX9_payPacts 86 = .ok (.iaload, 1) := by decide +kernel
theorem dX9_payPacts_87 : decode cX9_payPacts 87 = .ok (.iconst 3, 1) := by decide +kernel
theorem dX9_payPacts_88 : decode cX9_payPacts 88 = .ok (.idiv, 1) := by decide +kernel
theorem dX9_payPacts_89 : decode cX9_payPacts 89 = .ok (.iadd, 1) := by decide +kernel
theorem dX9_payPacts_90 : decode cX9_payPacts 90 = .ok (.iastore, 1) := by decide +kernel
theorem dX9_payPacts_91 : decode cX9_payPacts 91 = .ok (.iinc 2 1, 3) := by decide +kernel
theorem dX9_payPacts_94 : decode cX9_payPacts 94 = .ok (.goto (-64), 3) := by decide +kernel
theorem dX9_payPacts_97 : decode cX9_payPacts 97 = .ok (.return_, 1) := by decide +kernel
theorem dX9_calm_0 : decode cX9_calm 0 = .ok (.aload_n 1, 1) := by decide +kernel
theorem dX9_calm_1 : decode cX9_calm 1 = .ok (.getfield 106, 3) := by decide +kernel
theorem dX9_calm_4 : decode cX9_calm 4 = .ok (.istore_n 3, 1) := by decide +kernel
theorem dX9_calm_5 : decode cX9_calm 5 = .ok (.iconst 0, 1) := by decide +kernel
theorem dX9_calm_6 : decode cX9_calm 6 = .ok (.istore 4, 2) := by decide +kernel
theorem dX9_calm_8 : decode cX9_calm 8 = .ok (.iload 4, 2) := by decide +kernel
theorem dX9_calm_10 : decode cX9_calm 10 = .ok (.aload_n 1, 1) := by decide +kernel
theorem dX9_calm_11 : decode cX9_calm 11 = .ok (.getfield 31, 3) := by decide +kernel
theorem dX9_calm_14 : decode cX9_calm 14 = .ok (.getfield 37, 3) := by decide +kernel
theorem dX9_calm_17 : decode cX9_calm 17 = .ok (.if_icmp .ge 85, 3) := by decide +kernel
theorem dX9_calm_20 : decode cX9_calm 20 = .ok (.iload_n 3, 1) := by decide +kernel
theorem dX9_calm_21 : decode cX9_calm 21 = .ok (.ifCond .le 81, 3) := by decide +kernel
theorem dX9_calm_24 : decode cX9_calm 24 = .ok (.aload_n 1, 1) := by decide +kernel
theorem dX9_calm_25 : decode cX9_calm 25 = .ok (.getfield 31, 3) := by decide +kernel
theorem dX9_calm_28 : decode cX9_calm 28 = .ok (.getfield 109, 3) := by decide +kernel
theorem dX9_calm_31 : decode cX9_calm 31 = .ok (.iload 4, 2) := by decide +kernel
theorem dX9_calm_33 : decode cX9_calm 33 = .ok (.iaload, 1) := by decide +kernel
theorem dX9_calm_34 : decode cX9_calm 34 = .ok (.istore 5, 2) := by decide +kernel
theorem dX9_calm_36 : decode cX9_calm 36 = .ok (.iload_n 3, 1) := by decide +kernel
theorem dX9_calm_37 : decode cX9_calm 37 = .ok (.aload_n 1, 1) := by decide +kernel
theorem dX9_calm_38 : decode cX9_calm 38 = .ok (.getfield 112, 3) := by decide +kernel
theorem dX9_calm_41 : decode cX9_calm 41 = .ok (.aload_n 2, 1) := by decide +kernel
theorem dX9_calm_42 : decode cX9_calm 42 = .ok (.getfield 77, 3) := by decide +kernel
theorem dX9_calm_45 : decode cX9_calm 45 = .ok (.iload 5, 2) := by decide +kernel
theorem dX9_calm_47 : decode cX9_calm 47 = .ok (.iaload, 1) := by decide +kernel
theorem dX9_calm_48 : decode cX9_calm 48 = .ok (.invokestatic 25, 3) := by decide +kernel
theorem dX9_calm_51 : decode cX9_calm 51 = .ok (.invokestatic 25, 3) := by decide +kernel
theorem dX9_calm_54 : decode cX9_calm 54 = .ok (.istore 6, 2) := by decide +kernel
theorem dX9_calm_56 : decode cX9_calm 56 = .ok (.aload_n 2, 1) := by decide +kernel
theorem dX9_calm_57 : decode cX9_calm 57 = .ok (.getfield 77, 3) := by decide +kernel
theorem dX9_calm_60 : decode cX9_calm 60 = .ok (.iload 5, 2) := by decide +kernel
theorem dX9_calm_62 : decode cX9_calm 62 = .ok (.dup2, 1) := by decide +kernel
theorem dX9_calm_63 : decode cX9_calm 63 = .ok (.iaload, 1) := by decide +kernel
theorem dX9_calm_64 : decode cX9_calm 64 = .ok (.iload 6, 2) := by decide +kernel
theorem dX9_calm_66 : decode cX9_calm 66 = .ok (.isub, 1) := by decide +kernel
theorem dX9_calm_67 : decode cX9_calm 67 = .ok (.iastore, 1) := by decide +kernel
theorem dX9_calm_68 : decode cX9_calm 68 = .ok (.aload_n 2, 1) := by decide +kernel
theorem dX9_calm_69 : decode cX9_calm 69 = .ok (.getfield 115, 3) := by decide +kernel
theorem dX9_calm_72 : decode cX9_calm 72 = .ok (.iload 5, 2) := by decide +kernel
theorem dX9_calm_74 : decode cX9_calm 74 = .ok (.dup2, 1) := by decide +kernel
theorem dX9_calm_75 : decode cX9_calm 75 = .ok (.iaload, 1) := by decide +kernel
theorem dX9_calm_76 : decode cX9_calm 76 = .ok (.iload 6, 2) := by decide +kernel
theorem dX9_calm_78 : decode cX9_calm 78 = .ok (.iadd, 1) := by decide +kernel
theorem dX9_calm_79 : decode cX9_calm 79 = .ok (.iastore, 1) := by decide +kernel
theorem dX9_calm_80 : decode cX9_calm 80 = .ok (.aload_n 2, 1) := by decide +kernel
theorem dX9_calm_81 : decode cX9_calm 81 = .ok (.dup, 1) := by decide +kernel
theorem dX9_calm_82 : decode cX9_calm 82 = .ok (.getfield 118, 3) := by decide +kernel
theorem dX9_calm_85 : decode cX9_calm 85 = .ok (.iload 6, 2) := by decide +kernel
theorem dX9_calm_87 : decode cX9_calm 87 = .ok (.iadd, 1) := by decide +kernel
theorem dX9_calm_88 : decode cX9_calm 88 = .ok (.putfield 118, 3) := by decide +kernel
theorem dX9_calm_91 : decode cX9_calm 91 = .ok (.iload_n 3, 1) := by decide +kernel
theorem dX9_calm_92 : decode cX9_calm 92 = .ok (.iload 6, 2) := by decide +kernel
theorem dX9_calm_94 : decode cX9_calm 94 = .ok (.isub, 1) := by decide +kernel
theorem dX9_calm_95 : decode cX9_calm 95 = .ok (.istore_n 3, 1) := by decide +kernel
theorem dX9_calm_96 : decode cX9_calm 96 = .ok (.iinc 4 1, 3) := by decide +kernel
theorem dX9_calm_99 : decode cX9_calm 99 = .ok (.goto (-91), 3) := by decide +kernel
theorem dX9_calm_102 : decode cX9_calm 102 = .ok (.return_, 1) := by decide +kernel
theorem dX9_pass_0 : decode cX9_pass 0 = .ok (.iconst 0, 1) := by decide +kernel
theorem dX9_pass_1 : decode cX9_pass 1 = .ok (.istore 4, 2) := by decide +kernel
theorem dX9_pass_3 : decode cX9_pass 3 = .ok (.iload 4, 2) := by decide +kernel
theorem dX9_pass_5 : decode cX9_pass 5 = .ok (.iload_n 3, 1) := by decide +kernel
theorem dX9_pass_6 : decode cX9_pass 6 = .ok (.if_icmp .ge 70, 3) := by decide +kernel
theorem dX9_pass_9 : decode cX9_pass 9 = .ok (.aload_n 2, 1) := by decide +kernel
theorem dX9_pass_10 : decode cX9_pass 10 = .ok (.getfield 121, 3) := by decide +kernel
theorem dX9_pass_13 : decode cX9_pass 13 = .ok (.bipush 48, 2) := by decide +kernel
theorem dX9_pass_15 : decode cX9_pass 15 = .ok (.if_icmp .ge 61, 3) := by decide +kernel
theorem dX9_pass_18 : decode cX9_pass 18 = .ok (.aload_n 1, 1) := by decide +kernel
theorem dX9_pass_19 : decode cX9_pass 19 = .ok (.getfield 124, 3) := by decide +kernel
theorem dX9_pass_22 : decode cX9_pass 22 = .ok (.aload_n 2, 1) := by decide +kernel
theorem dX9_pass_23 : decode cX9_pass 23 = .ok (.getfield 121, 3) := by decide +kernel
theorem dX9_pass_26 : decode cX9_pass 26 = .ok (.iaload, 1) := by decide +kernel
theorem dX9_pass_27 : decode cX9_pass 27 = .ok (.istore 5, 2) := by decide +kernel
theorem dX9_pass_29 : decode cX9_pass 29 = .ok (.iload 5, 2) := by decide +kernel
theorem dX9_pass_31 : decode cX9_pass 31 = .ok (.ifCond .le 23, 3) := by decide +kernel
theorem dX9_pass_34 : decode cX9_pass 34 = .ok (.aload_n 0, 1) := by decide +kernel
theorem dX9_pass_35 : decode cX9_pass 35 = .ok (.aload_n 1, 1) := by decide +kernel
theorem dX9_pass_36 : decode cX9_pass 36 = .ok (.aload_n 2, 1) := by decide +kernel
theorem dX9_pass_37 : decode cX9_pass 37 = .ok (.aload_n 1, 1) := by decide +kernel
theorem dX9_pass_38 : decode cX9_pass 38 = .ok (.getfield 127, 3) := by decide +kernel
theorem dX9_pass_41 : decode cX9_pass 41 = .ok (.aload_n 2, 1) := by decide +kernel
theorem dX9_pass_42 : decode cX9_pass 42 = .ok (.getfield 121, 3) := by decide +kernel
theorem dX9_pass_45 : decode cX9_pass 45 = .ok (.iaload, 1) := by decide +kernel
theorem dX9_pass_46 : decode cX9_pass 46 = .ok (.iload 5, 2) := by decide +kernel
theorem dX9_pass_48 : decode cX9_pass 48 = .ok (.invokevirtual 130, 3) := by decide +kernel
theorem dX9_pass_51 : decode cX9_pass 51 = .ok (.goto 9, 3) := by decide +kernel
theorem dX9_pass_54 : decode cX9_pass 54 = .ok (.aload_n 0, 1) := by decide +kernel
theorem dX9_pass_55 : decode cX9_pass 55 = .ok (.aload_n 1, 1) := by decide +kernel
theorem dX9_pass_56 : decode cX9_pass 56 = .ok (.aload_n 2, 1) := by decide +kernel
theorem dX9_pass_57 : decode cX9_pass 57 = .ok (.invokevirtual 134, 3) := by decide +kernel
theorem dX9_pass_60 : decode cX9_pass 60 = .ok (.aload_n 2, 1) := by decide +kernel
theorem dX9_pass_61 : decode cX9_pass 61 = .ok (.dup, 1) := by decide +kernel
theorem dX9_pass_62 : decode cX9_pass 62 = .ok (.getfield 121, 3) := by decide +kernel
theorem dX9_pass_65 : decode cX9_pass 65 = .ok (.iconst 1, 1) := by decide +kernel
theorem dX9_pass_66 : decode cX9_pass 66 = .ok (.iadd, 1) := by decide +kernel
theorem dX9_pass_67 : decode cX9_pass 67 = .ok (.putfield 121, 3) := by decide +kernel
theorem dX9_pass_70 : decode cX9_pass 70 = .ok (.iinc 4 1, 3) := by decide +kernel
theorem dX9_pass_73 : decode cX9_pass 73 = .ok (.goto (-70), 3) := by decide +kernel
theorem dX9_pass_76 : decode cX9_pass 76 = .ok (.iload 4, 2) := by decide +kernel
theorem dX9_pass_78 : decode cX9_pass 78 = .ok (.ireturn, 1) := by decide +kernel
theorem dX9_passDrawn_0 : decode cX9_passDrawn 0 = .ok (.aload_n 0, 1) := by decide +kernel
theorem dX9_passDrawn_1 : decode cX9_passDrawn 1 = .ok (.iload 4, 2) := by decide +kernel
theorem dX9_passDrawn_3 : decode cX9_passDrawn 3 = .ok (.putfield 21, 3) := by decide +kernel
theorem dX9_passDrawn_6 : decode cX9_passDrawn 6 = .ok (.iconst 0, 1) := by decide +kernel
theorem dX9_passDrawn_7 : decode cX9_passDrawn 7 = .ok (.istore 5, 2) := by decide +kernel
theorem dX9_passDrawn_9 : decode cX9_passDrawn 9 = .ok (.iload 5, 2) := by decide +kernel
theorem dX9_passDrawn_11 : decode cX9_passDrawn 11 = .ok (.iload_n 3, 1) := by decide +kernel
theorem dX9_passDrawn_12 : decode cX9_passDrawn 12 = .ok (.if_icmp .ge 45, 3) := by decide +kernel
theorem dX9_passDrawn_15 : decode cX9_passDrawn 15 = .ok (.aload_n 0, 1) := by decide +kernel
theorem dX9_passDrawn_16 : decode cX9_passDrawn 16 = .ok (.bipush 10, 2) := by decide +kernel
theorem dX9_passDrawn_18 : decode cX9_passDrawn 18 = .ok (.invokevirtual 138, 3) := by decide +kernel
theorem dX9_passDrawn_21 : decode cX9_passDrawn 21 = .ok (.istore 6, 2) := by decide +kernel
theorem dX9_passDrawn_23 : decode cX9_passDrawn 23 = .ok (.iload 6, 2) := by decide +kernel
theorem dX9_passDrawn_25 : decode cX9_passDrawn 25 = .ok (.ifCond .le 20, 3) := by decide +kernel
theorem dX9_passDrawn_28 : decode cX9_passDrawn 28 = .ok (.aload_n 0, 1) := by decide +kernel
theorem dX9_passDrawn_29 : decode cX9_passDrawn 29 = .ok (.aload_n 1, 1) := by decide +kernel
theorem dX9_passDrawn_30 : decode cX9_passDrawn 30 = .ok (.aload_n 2, 1) := by decide +kernel
theorem dX9_passDrawn_31 : decode cX9_passDrawn 31 = .ok (.aload_n 0, 1) := by decide +kernel
theorem dX9_passDrawn_32 : decode cX9_passDrawn 32 = .ok (.bipush 8, 2) := by decide +kernel
theorem dX9_passDrawn_34 : decode cX9_passDrawn 34 = .ok (.invokevirtual 138, 3) := by decide +kernel
theorem dX9_passDrawn_37 : decode cX9_passDrawn 37 = .ok (.iload 6, 2) := by decide +kernel
theorem dX9_passDrawn_39 : decode cX9_passDrawn 39 = .ok (.invokevirtual 130, 3) := by decide +kernel
theorem dX9_passDrawn_42 : decode cX9_passDrawn 42 = .ok (.goto 9, 3) := by decide +kernel
theorem dX9_passDrawn_45 : decode cX9_passDrawn 45 = .ok (.aload_n 0, 1) := by decide +kernel
theorem dX9_passDrawn_46 : decode cX9_passDrawn 46 = .ok (.aload_n 1, 1) := by decide +kernel
theorem dX9_passDrawn_47 : decode cX9_passDrawn 47 = .ok (.aload_n 2, 1) := by decide +kernel
theorem dX9_passDrawn_48 : decode cX9_passDrawn 48 = .ok (.invokevirtual 134, 3) := by decide +kernel
theorem dX9_passDrawn_51 : decode cX9_passDrawn 51 = .ok (.iinc 5 1, 3) := by decide +kernel
theorem dX9_passDrawn_54 : decode cX9_passDrawn 54 = .ok (.goto (-45), 3) := by decide +kernel
theorem dX9_passDrawn_57 : decode cX9_passDrawn 57 = .ok (.return_, 1) := by decide +kernel
theorem dX9_draw_0 : decode cX9_draw 0 = .ok (.aload_n 0, 1) := by decide +kernel
theorem dX9_draw_1 : decode cX9_draw 1 = .ok (.aload_n 0, 1) := by decide +kernel
theorem dX9_draw_2 : decode cX9_draw 2 = .ok (.getfield 21, 3) := by decide +kernel
theorem dX9_draw_5 : decode cX9_draw 5 = .ok (.ldc 142, 2) := by decide +kernel
theorem dX9_draw_7 : decode cX9_draw 7 = .ok (.imul, 1) := by decide +kernel
theorem dX9_draw_8 : decode cX9_draw 8 = .ok (.sipush 12345, 3) := by decide +kernel
theorem dX9_draw_11 : decode cX9_draw 11 = .ok (.iadd, 1) := by decide +kernel
theorem dX9_draw_12 : decode cX9_draw 12 = .ok (.putfield 21, 3) := by decide +kernel
theorem dX9_draw_15 : decode cX9_draw 15 = .ok (.iload_n 1, 1) := by decide +kernel
theorem dX9_draw_16 : decode cX9_draw 16 = .ok (.ifCond .le 15, 3) := by decide +kernel
theorem dX9_draw_19 : decode cX9_draw 19 = .ok (.aload_n 0, 1) := by decide +kernel
theorem dX9_draw_20 : decode cX9_draw 20 = .ok (.getfield 21, 3) := by decide +kernel
theorem dX9_draw_23 : decode cX9_draw 23 = .ok (.bipush 8, 2) := by decide +kernel
theorem dX9_draw_25 : decode cX9_draw 25 = .ok (.iushr, 1) := by decide +kernel
theorem dX9_draw_26 : decode cX9_draw 26 = .ok (.iload_n 1, 1) := by decide +kernel
theorem dX9_draw_27 : decode cX9_draw 27 = .ok (.irem, 1) := by decide +kernel
theorem dX9_draw_28 : decode cX9_draw 28 = .ok (.goto 4, 3) := by decide +kernel
theorem dX9_draw_31 : decode cX9_draw 31 = .ok (.iconst 0, 1) := by decide +kernel
theorem dX9_draw_32 : decode cX9_draw 32 = .ok (.ireturn, 1) := by decide +kernel
theorem dX9_pointsBehind_0 : decode cX9_pointsBehind 0 = .ok (.aload_n 1, 1) := by decide +kernel
theorem dX9_pointsBehind_1 : decode cX9_pointsBehind 1 = .ok (.getfield 31, 3) := by decide +kernel
theorem dX9_pointsBehind_4 : decode cX9_pointsBehind 4 = .ok (.getfield 143, 3) := by decide +kernel
theorem dX9_pointsBehind_7 : decode cX9_pointsBehind 7 = .ok (.iload_n 2, 1) := by decide +kernel
theorem dX9_pointsBehind_8 : decode cX9_pointsBehind 8 = .ok (.iaload, 1) := by decide +kernel
theorem dX9_pointsBehind_9 : decode cX9_pointsBehind 9 = .ok (.istore 5, 2) := by decide +kernel
theorem dX9_pointsBehind_11 : decode cX9_pointsBehind 11 = .ok (.aload_n 1, 1) := by decide +kernel
theorem dX9_pointsBehind_12 : decode cX9_pointsBehind 12 = .ok (.getfield 31, 3) := by decide +kernel
theorem dX9_pointsBehind_15 : decode cX9_pointsBehind 15 = .ok (.getfield 144, 3) := by decide +kernel
theorem dX9_pointsBehind_18 : decode cX9_pointsBehind 18 = .ok (.iload_n 2, 1) := by decide +kernel
theorem dX9_pointsBehind_19 : decode cX9_pointsBehind 19 = .ok (.iaload, 1) := by decide +kernel
theorem dX9_pointsBehind_20 : decode cX9_pointsBehind 20 = .ok (.istore 6, 2) := by decide +kernel
theorem dX9_pointsBehind_22 : decode cX9_pointsBehind 22 = .ok (.aload_n 1, 1) := by decide +kernel
theorem dX9_pointsBehind_23 : decode cX9_pointsBehind 23 = .ok (.getfield 31, 3) := by decide +kernel
theorem dX9_pointsBehind_26 : decode cX9_pointsBehind 26 = .ok (.getfield 42, 3) := by decide +kernel
theorem dX9_pointsBehind_29 : decode cX9_pointsBehind 29 = .ok (.iload_n 2, 1) := by decide +kernel
theorem dX9_pointsBehind_30 : decode cX9_pointsBehind 30 = .ok (.iaload, 1) := by decide +kernel
theorem dX9_pointsBehind_31 : decode cX9_pointsBehind 31 = .ok (.istore 7, 2) := by decide +kernel
theorem dX9_pointsBehind_33 : decode cX9_pointsBehind 33 = .ok (.iconst 0, 1) := by decide +kernel
theorem dX9_pointsBehind_34 : decode cX9_pointsBehind 34 = .ok (.istore 8, 2) := by decide +kernel
theorem dX9_pointsBehind_36 : decode cX9_pointsBehind 36 = .ok (.iload 8, 2) := by decide +kernel
theorem dX9_pointsBehind_38 : decode cX9_pointsBehind 38 = .ok (.iload 4, 2) := by decide +kernel
theorem dX9_pointsBehind_40 : decode cX9_pointsBehind 40 = .ok (.if_icmp .ge 84, 3) := by decide +kernel
theorem dX9_pointsBehind_43 : decode cX9_pointsBehind 43 = .ok (.iload 8, 2) := by decide +kernel
theorem dX9_pointsBehind_45 : decode cX9_pointsBehind 45 = .ok (.bipush 48, 2) := by decide +kernel
theorem dX9_pointsBehind_47 : decode cX9_pointsBehind 47 = .ok (.if_icmp .ge 77, 3) := by decide +kernel
theorem dX9_pointsBehind_50 : decode cX9_pointsBehind 50 = .ok (.iload 8, 2) := by decide +kernel
theorem dX9_pointsBehind_52 : decode cX9_pointsBehind 52 = .ok (.iload_n 3, 1) := by decide +kernel
theorem dX9_pointsBehind_53 : decode cX9_pointsBehind 53 = .ok (.if_icmp .ne 6, 3) := by decide +kernel
theorem dX9_pointsBehind_56 : decode cX9_pointsBehind 56 = .ok (.iconst 0, 1) := by decide +kernel
theorem dX9_pointsBehind_57 : decode cX9_pointsBehind 57 = .ok (.istore 6, 2) := by decide +kernel
theorem dX9_pointsBehind_59 : decode cX9_pointsBehind 59 = .ok (.aload_n 1, 1) := by decide +kernel
theorem dX9_pointsBehind_60 : decode cX9_pointsBehind 60 = .ok (.getfield 124, 3) := by decide +kernel
theorem dX9_pointsBehind_63 : decode cX9_pointsBehind 63 = .ok (.iload 8, 2) := by decide +kernel
theorem dX9_pointsBehind_65 : decode cX9_pointsBehind 65 = .ok (.iaload, 1) := by decide +kernel
theorem dX9_pointsBehind_66 : decode cX9_pointsBehind 66 = .ok (.istore 9, 2) := by decide +kernel
theorem dX9_pointsBehind_68 : decode cX9_pointsBehind 68 = .ok (.iload 9, 2) := by decide +kernel
theorem dX9_pointsBehind_70 : decode cX9_pointsBehind 70 = .ok (.ifCond .le 48, 3) := by decide +kernel
theorem dX9_pointsBehind_73 : decode cX9_pointsBehind 73 = .ok (.aload_n 1, 1) := by decide +kernel
theorem dX9_pointsBehind_74 : decode cX9_pointsBehind 74 = .ok (.getfield 127, 3) := by decide +kernel
theorem dX9_pointsBehind_77 : decode cX9_pointsBehind 77 = .ok (.iload 8, 2) := by decide +kernel
theorem dX9_pointsBehind_79 : decode cX9_pointsBehind 79 = .ok (.iaload, 1) := by decide +kernel
theorem dX9_pointsBehind_80 : decode cX9_pointsBehind 80 = .ok (.istore 10, 2) := by decide +kernel
theorem dX9_pointsBehind_82 : decode cX9_pointsBehind 82 = .ok (.aload_n 1, 1) := by decide +kernel
theorem dX9_pointsBehind_83 : decode cX9_pointsBehind 83 = .ok (.aload_n 1, 1) := by decide +kernel
theorem dX9_pointsBehind_84 : decode cX9_pointsBehind 84 = .ok (.getfield 145, 3) := by decide +kernel
theorem dX9_pointsBehind_87 : decode cX9_pointsBehind 87 = .ok (.iload 7, 2) := by decide +kernel
theorem dX9_pointsBehind_89 : decode cX9_pointsBehind 89 = .ok (.iload 10, 2) := by decide +kernel
theorem dX9_pointsBehind_91 : decode cX9_pointsBehind 91 = .ok (.iload 9, 2) := by decide +kernel
theorem dX9_pointsBehind_93 : decode cX9_pointsBehind 93 = .ok (.invokevirtual 53, 3) := by decide +kernel
theorem dX9_pointsBehind_96 : decode cX9_pointsBehind 96 = .ok (.istore 11, 2) := by decide +kernel
theorem dX9_pointsBehind_98 : decode cX9_pointsBehind 98 = .ok (.iload 5, 2) := by decide +kernel
theorem dX9_pointsBehind_100 : decode cX9_pointsBehind 100 = .ok (.aload_n 1, 1) := by decide +kernel
theorem dX9_pointsBehind_101 : decode cX9_pointsBehind 101 = .ok (.iload 7, 2) := by decide +kernel
theorem dX9_pointsBehind_103 : decode cX9_pointsBehind 103 = .ok (.iload 10, 2) := by decide +kernel
theorem dX9_pointsBehind_105 : decode cX9_pointsBehind 105 = .ok (.invokevirtual 45, 3) := by decide +kernel
theorem dX9_pointsBehind_108 : decode cX9_pointsBehind 108 = .ok (.iload 11, 2) := by decide +kernel
theorem dX9_pointsBehind_110 : decode cX9_pointsBehind 110 = .ok (.iload 6, 2) := by decide +kernel
theorem dX9_pointsBehind_112 : decode cX9_pointsBehind 112 = .ok (.isub, 1) := by decide +kernel
theorem dX9_pointsBehind_113 : decode cX9_pointsBehind 113 = .ok (.invokestatic 66, 3) := by decide +kernel
theorem dX9_pointsBehind_116 : decode cX9_pointsBehind 116 = .ok (.istore 5, 2) := by decide +kernel
theorem dX9_pointsBehind_118 : decode cX9_pointsBehind 118 = .ok (.iinc 8 1, 3) := by decide +kernel
theorem dX9_pointsBehind_121 : decode cX9_pointsBehind 121 = .ok (.goto (-85), 3) := by decide +kernel
theorem dX9_pointsBehind_124 : decode cX9_pointsBehind 124 = .ok (.iload 5, 2) := by decide +kernel
theorem dX9_pointsBehind_126 : decode cX9_pointsBehind 126 = .ok (.ireturn, 1) := by decide +kernel
theorem dX11_thrown_0 : decode cX11_thrown 0 = .ok (.aload_n 0, 1) := by decide +kernel
theorem dX11_thrown_1 : decode cX11_thrown 1 = .ok (.getfield 1, 3) := by decide +kernel
theorem dX11_thrown_4 : decode cX11_thrown 4 = .ok (.ireturn, 1) := by decide +kernel
theorem dX11_throwsIf_0 : decode cX11_throwsIf 0 = .ok (.aload_n 0, 1) := by decide +kernel
theorem dX11_throwsIf_1 : decode cX11_throwsIf 1 = .ok (.iload_n 1, 1) := by decide +kernel
theorem dX11_throwsIf_2 : decode cX11_throwsIf 2 = .ok (.ifCond .eq 7, 3) := by decide +kernel
theorem dX11_throwsIf_5 : decode cX11_throwsIf 5 = .ok (.iconst 1, 1) := by decide +kernel
theorem dX11_throwsIf_6 : decode cX11_throwsIf 6 = .ok (.goto 4, 3) := by decide +kernel
theorem dX11_throwsIf_9 : decode cX11_throwsIf 9 = .ok (.iconst 0, 1) := by decide +kernel
theorem dX11_throwsIf_10 : decode cX11_throwsIf 10 = .ok (.putfield 1, 3) := by decide +kernel
theorem dX11_throwsIf_13 : decode cX11_throwsIf 13 = .ok (.iload_n 1, 1) := by decide +kernel
theorem dX11_throwsIf_14 : decode cX11_throwsIf 14 = .ok (.ireturn, 1) := by decide +kernel
theorem dX11_feed_0 : decode cX11_feed 0 = .ok (.aload_n 0, 1) := by decide +kernel
theorem dX11_feed_1 : decode cX11_feed 1 = .ok (.iconst 0, 1) := by decide +kernel
theorem dX11_feed_2 : decode cX11_feed 2 = .ok (.putfield 1, 3) := by decide +kernel
theorem dX11_feed_5 : decode cX11_feed 5 = .ok (.aload_n 0, 1) := by decide +kernel
theorem dX11_feed_6 : decode cX11_feed 6 = .ok (.getfield 7, 3) := by decide +kernel
theorem dX11_feed_9 : decode cX11_feed 9 = .ok (.bipush 20, 2) := by decide +kernel
theorem dX11_feed_11 : decode cX11_feed 11 = .ok (.iadd, 1) := by decide +kernel
theorem dX11_feed_12 : decode cX11_feed 12 = .ok (.sipush 940, 3) := by decide +kernel
theorem dX11_feed_15 : decode cX11_feed 15 = .ok (.if_icmp .le 5, 3) := by decide +kernel
theorem dX11_feed_18 : decode cX11_feed 18 = .ok (.iconst (-1), 1) := by decide +kernel
theorem dX11_feed_19 : decode cX11_feed 19 = .ok (.ireturn, 1) := by decide +kernel
theorem dX11_feed_20 : decode cX11_feed 20 = .ok (.aload_n 0, 1) := by decide +kernel
theorem dX11_feed_21 : decode cX11_feed 21 = .ok (.iload_n 1, 1) := by decide +kernel
theorem dX11_feed_22 : decode cX11_feed 22 = .ok (.invokevirtual 10, 3) := by decide +kernel
theorem dX11_feed_25 : decode cX11_feed 25 = .ok (.aload_n 0, 1) := by decide +kernel
theorem dX11_feed_26 : decode cX11_feed 26 = .ok (.iload_n 2, 1) := by decide +kernel
theorem dX11_feed_27 : decode cX11_feed 27 = .ok (.invokevirtual 10, 3) := by decide +kernel
theorem dX11_feed_30 : decode cX11_feed 30 = .ok (.aload_n 0, 1) := by decide +kernel
theorem dX11_feed_31 : decode cX11_feed 31 = .ok (.iload_n 3, 1) := by decide +kernel
theorem dX11_feed_32 : decode cX11_feed 32 = .ok (.invokevirtual 10, 3) := by decide +kernel
theorem dX11_feed_35 : decode cX11_feed 35 = .ok (.aload_n 0, 1) := by decide +kernel
theorem dX11_feed_36 : decode cX11_feed 36 = .ok (.iload 4, 2) := by decide +kernel
theorem dX11_feed_38 : decode cX11_feed 38 = .ok (.invokevirtual 10, 3) := by decide +kernel
theorem dX11_feed_41 : decode cX11_feed 41 = .ok (.aload_n 0, 1) := by decide +kernel
theorem dX11_feed_42 : decode cX11_feed 42 = .ok (.iload 5, 2) := by decide +kernel
theorem dX11_feed_44 : decode cX11_feed 44 = .ok (.invokevirtual 10, 3) := by decide +kernel
theorem dX11_feed_47 : decode cX11_feed 47 = .ok (.aload_n 0, 1) := by decide +kernel
theorem dX11_feed_48 : decode cX11_feed 48 = .ok (.getfield 7, 3) := by decide +kernel
theorem dX11_feed_51 : decode cX11_feed 51 = .ok (.ireturn, 1) := by decide +kernel
theorem dX11_four_0 : decode cX11_four 0 = .ok (.bipush 24, 2) := by decide +kernel
theorem dX11_four_2 : decode cX11_four 2 = .ok (.istore_n 2, 1) := by decide +kernel
theorem dX11_four_3 : decode cX11_four 3 = .ok (.iload_n 2, 1) := by decide +kernel
theorem dX11_four_4 : decode cX11_four 4 = .ok (.ifCond .lt 32, 3) := by decide +kernel
theorem dX11_four_7 : decode cX11_four 7 = .ok (.aload_n 0, 1) := by decide +kernel
theorem dX11_four_8 : decode cX11_four 8 = .ok (.getfield 14, 3) := by decide +kernel
theorem dX11_four_11 : decode cX11_four 11 = .ok (.aload_n 0, 1) := by decide +kernel
theorem dX11_four_12 : decode cX11_four 12 = .ok (.getfield 7, 3) := by decide +kernel
theorem dX11_four_15 : decode cX11_four 15 = .ok (.iload_n 1, 1) := by decide +kernel
theorem dX11_four_16 : decode cX11_four 16 = .ok (.iload_n 2, 1) := by decide +kernel
theorem dX11_four_17 : decode cX11_four 17 = .ok (.ishr, 1) := by decide +kernel
theorem dX11_four_18 : decode cX11_four 18 = .ok (.i2b, 1) := by decide +kernel
theorem dX11_four_19 : decode cX11_four 19 = .ok (.bastore, 1) := by decide +kernel
theorem dX11_four_20 : decode cX11_four 20 = .ok (.aload_n 0, 1) := by decide +kernel
theorem dX11_four_21 : decode cX11_four 21 = .ok (.dup, 1) := by decide +kernel
theorem dX11_four_22 : decode cX11_four 22 = .ok (.getfield 7, 3) := by decide +kernel
theorem dX11_four_25 : decode cX11_four 25 = .ok (.iconst 1, 1) := by decide +kernel
theorem dX11_four_26 : decode cX11_four 26 = .ok (.iadd, 1) := by decide +kernel
theorem dX11_four_27 : decode cX11_four 27 = .ok (.putfield 7, 3) := by decide +kernel
theorem dX11_four_30 : decode cX11_four 30 = .ok (.iinc 2 (-8), 3) := by decide +kernel
theorem dX11_four_33 : decode cX11_four 33 = .ok (.goto (-30), 3) := by decide +kernel
theorem dX11_four_36 : decode cX11_four 36 = .ok (.return_, 1) := by decide +kernel
theorem dX11_end_0 : decode cX11_end 0 = .ok (.aload_n 0, 1) := by decide +kernel
theorem dX11_end_1 : decode cX11_end 1 = .ok (.iconst 0, 1) := by decide +kernel
theorem dX11_end_2 : decode cX11_end 2 = .ok (.putfield 1, 3) := by decide +kernel
theorem dX11_end_5 : decode cX11_end 5 = .ok (.iload_n 1, 1) := by decide +kernel
theorem dX11_end_6 : decode cX11_end 6 = .ok (.ifCond .lt 11, 3) := by decide +kernel
theorem dX11_end_9 : decode cX11_end 9 = .ok (.iload_n 1, 1) := by decide +kernel
theorem dX11_end_10 : decode cX11_end 10 = .ok (.aload_n 0, 1) := by decide +kernel
theorem dX11_end_11 : decode cX11_end 11 = .ok (.getfield 7, 3) := by decide +kernel
theorem dX11_end_14 : decode cX11_end 14 = .ok (.if_icmp .le 5, 3) := by decide +kernel
theorem dX11_end_17 : decode cX11_end 17 = .ok (.iconst 0, 1) := by decide +kernel
theorem dX11_end_18 : decode cX11_end 18 = .ok (.ireturn, 1) := by decide +kernel
theorem dX11_end_19 : decode cX11_end 19 = .ok (.aload_n 0, 1) := by decide +kernel
theorem dX11_end_20 : decode cX11_end 20 = .ok (.iload_n 1, 1) := by decide +kernel
theorem dX11_end_21 : decode cX11_end 21 = .ok (.putfield 7, 3) := by decide +kernel
theorem dX11_end_24 : decode cX11_end 24 = .ok (.iconst 1, 1) := by decide +kernel
theorem dX11_end_25 : decode cX11_end 25 = .ok (.ireturn, 1) := by decide +kernel
theorem dX11_taken_0 : decode cX11_taken 0 = .ok (.aload_n 0, 1) := by decide +kernel
theorem dX11_taken_1 : decode cX11_taken 1 = .ok (.aload_n 0, 1) := by decide +kernel
theorem dX11_taken_2 : decode cX11_taken 2 = .ok (.getfield 7, 3) := by decide +kernel
theorem dX11_taken_5 : decode cX11_taken 5 = .ok (.putfield 18, 3) := by decide +kernel
theorem dX11_taken_8 : decode cX11_taken 8 = .ok (.aload_n 0, 1) := by decide +kernel
theorem dX11_taken_9 : decode cX11_taken 9 = .ok (.iconst 0, 1) := by decide +kernel
theorem dX11_taken_10 : decode cX11_taken 10 = .ok (.putfield 7, 3) := by decide +kernel
theorem dX11_taken_13 : decode cX11_taken 13 = .ok (.aload_n 0, 1) := by decide +kernel
theorem dX11_taken_14 : decode cX11_taken 14 = .ok (.iconst 0, 1) := by decide +kernel
theorem dX11_taken_15 : decode cX11_taken 15 = .ok (.putfield 21, 3) := by decide +kernel
theorem dX11_taken_18 : decode cX11_taken 18 = .ok (.aload_n 0, 1) := by decide +kernel
theorem dX11_taken_19 : decode cX11_taken 19 = .ok (.iload_n 1, 1) := by decide +kernel
theorem dX11_taken_20 : decode cX11_taken 20 = .ok (.putfield 24, 3) := by decide +kernel
theorem dX11_taken_23 : decode cX11_taken 23 = .ok (.return_, 1) := by decide +kernel
theorem dX11_isIn_0 : decode cX11_isIn 0 = .ok (.iload_n 0, 1) := by decide +kernel
theorem dX11_isIn_1 : decode cX11_isIn 1 = .ok (.iload_n 1, 1) := by decide +kernel
theorem dX11_isIn_2 : decode cX11_isIn 2 = .ok (.if_icmp .lt 12, 3) := by decide +kernel
theorem dX11_isIn_5 : decode cX11_isIn 5 = .ok (.iload_n 0, 1) := by decide +kernel
theorem dX11_isIn_6 : decode cX11_isIn 6 = .ok (.iload_n 2, 1) := by decide +kernel
theorem dX11_isIn_7 : decode cX11_isIn 7 = .ok (.if_icmp .gt 7, 3) := by decide +kernel
theorem dX11_isIn_10 : decode cX11_isIn 10 = .ok (.iconst 1, 1) := by decide +kernel
theorem dX11_isIn_11 : decode cX11_isIn 11 = .ok (.goto 4, 3) := by decide +kernel
theorem dX11_isIn_14 : decode cX11_isIn 14 = .ok (.iconst 0, 1) := by decide +kernel
theorem dX11_isIn_15 : decode cX11_isIn 15 = .ok (.ireturn, 1) := by decide +kernel
theorem dX11_bitOf_0 : decode cX11_bitOf 0 = .ok (.iload_n 0, 1) := by decide +kernel
theorem dX11_bitOf_1 : decode cX11_bitOf 1 = .ok (.iload_n 1, 1) := by decide +kernel
theorem dX11_bitOf_2 : decode cX11_bitOf 2 = .ok (.ishr, 1) := by decide +kernel
theorem dX11_bitOf_3 : decode cX11_bitOf 3 = .ok (.iconst 1, 1) := by decide +kernel
theorem dX11_bitOf_4 : decode cX11_bitOf 4 = .ok (.iand, 1) := by decide +kernel
theorem dX11_bitOf_5 : decode cX11_bitOf 5 = .ok (.iconst 1, 1) := by decide +kernel
theorem dX11_bitOf_6 : decode cX11_bitOf 6 = .ok (.if_icmp .ne 7, 3) := by decide +kernel
theorem dX11_bitOf_9 : decode cX11_bitOf 9 = .ok (.iconst 1, 1) := by decide +kernel
theorem dX11_bitOf_10 : decode cX11_bitOf 10 = .ok (.goto 4, 3) := by decide +kernel
theorem dX11_bitOf_13 : decode cX11_bitOf 13 = .ok (.iconst 0, 1) := by decide +kernel
theorem dX11_bitOf_14 : decode cX11_bitOf 14 = .ok (.ireturn, 1) := by decide +kernel
theorem dX11_octet_0 : decode cX11_octet 0 = .ok (.aload_n 0, 1) := by decide +kernel
theorem dX11_octet_1 : decode cX11_octet 1 = .ok (.getfield 14, 3) := by decide +kernel
theorem dX11_octet_4 : decode cX11_octet 4 = .ok (.iload_n 1, 1) := by decide +kernel
theorem dX11_octet_5 : decode cX11_octet 5 = .ok (.baload, 1) := by decide +kernel
theorem dX11_octet_6 : decode cX11_octet 6 = .ok (.sipush 255, 3) := by decide +kernel
theorem dX11_octet_9 : decode cX11_octet 9 = .ok (.iand, 1) := by decide +kernel
theorem dX11_octet_10 : decode cX11_octet 10 = .ok (.ireturn, 1) := by decide +kernel
theorem dX11_peek_0 : decode cX11_peek 0 = .ok (.aload_n 0, 1) := by decide +kernel
theorem dX11_peek_1 : decode cX11_peek 1 = .ok (.getfield 21, 3) := by decide +kernel
theorem dX11_peek_4 : decode cX11_peek 4 = .ok (.aload_n 0, 1) := by decide +kernel
theorem dX11_peek_5 : decode cX11_peek 5 = .ok (.getfield 18, 3) := by decide +kernel
theorem dX11_peek_8 : decode cX11_peek 8 = .ok (.if_icmp .ge 19, 3) := by decide +kernel
theorem dX11_peek_11 : decode cX11_peek 11 = .ok (.aload_n 0, 1) := by decide +kernel
theorem dX11_peek_12 : decode cX11_peek 12 = .ok (.getfield 14, 3) := by decide +kernel
theorem dX11_peek_15 : decode cX11_peek 15 = .ok (.aload_n 0, 1) := by decide +kernel
theorem dX11_peek_16 : decode cX11_peek 16 = .ok (.getfield 21, 3) := by decide +kernel
theorem dX11_peek_19 : decode cX11_peek 19 = .ok (.baload, 1) := by decide +kernel
theorem dX11_peek_20 : decode cX11_peek 20 = .ok (.sipush 255, 3) := by decide +kernel
theorem dX11_peek_23 : decode cX11_peek 23 = .ok (.iand, 1) := by decide +kernel
theorem dX11_peek_24 : decode cX11_peek 24 = .ok (.goto 4, 3) := by decide +kernel
theorem dX11_peek_27 : decode cX11_peek 27 = .ok (.iconst (-1), 1) := by decide +kernel
theorem dX11_peek_28 : decode cX11_peek 28 = .ok (.ireturn, 1) := by decide +kernel
theorem dX11_isSmall_0 : decode cX11_isSmall 0 = .ok (.iload_n 0, 1) := by decide +kernel
theorem dX11_isSmall_1 : decode cX11_isSmall 1 = .ok (.bipush 97, 2) := by decide +kernel
theorem dX11_isSmall_3 : decode cX11_isSmall 3 = .ok (.if_icmp .lt 13, 3) := by decide +kernel
theorem dX11_isSmall_6 : decode cX11_isSmall 6 = .ok (.iload_n 0, 1) := by decide +kernel
theorem dX11_isSmall_7 : decode cX11_isSmall 7 = .ok (.bipush 122, 2) := by decide +kernel
theorem dX11_isSmall_9 : decode cX11_isSmall 9 = .ok (.if_icmp .gt 7, 3) := by decide +kernel
theorem dX11_isSmall_12 : decode cX11_isSmall 12 = .ok (.iconst 1, 1) := by decide +kernel
theorem dX11_isSmall_13 : decode cX11_isSmall 13 = .ok (.goto 4, 3) := by decide +kernel
theorem dX11_isSmall_16 : decode cX11_isSmall 16 = .ok (.iconst 0, 1) := by decide +kernel
theorem dX11_isSmall_17 : decode cX11_isSmall 17 = .ok (.ireturn, 1) := by decide +kernel
theorem dX11_isDigit_0 : decode cX11_isDigit 0 = .ok (.iload_n 0, 1) := by decide +kernel
theorem dX11_isDigit_1 : decode cX11_isDigit 1 = .ok (.bipush 48, 2) := by decide +kernel
theorem dX11_isDigit_3 : decode cX11_isDigit 3 = .ok (.if_icmp .lt 13, 3) := by decide +kernel
theorem dX11_isDigit_6 : decode cX11_isDigit 6 = .ok (.iload_n 0, 1) := by decide +kernel
theorem dX11_isDigit_7 : decode cX11_isDigit 7 = .ok (.bipush 57, 2) := by decide +kernel
theorem dX11_isDigit_9 : decode cX11_isDigit 9 = .ok (.if_icmp .gt 7, 3) := by decide +kernel
theorem dX11_isDigit_12 : decode cX11_isDigit 12 = .ok (.iconst 1, 1) := by decide +kernel
theorem dX11_isDigit_13 : decode cX11_isDigit 13 = .ok (.goto 4, 3) := by decide +kernel
theorem dX11_isDigit_16 : decode cX11_isDigit 16 = .ok (.iconst 0, 1) := by decide +kernel
theorem dX11_isDigit_17 : decode cX11_isDigit 17 = .ok (.ireturn, 1) := by decide +kernel
theorem dX11_next_0 : decode cX11_next 0 = .ok (.aload_n 0, 1) := by decide +kernel
theorem dX11_next_1 : decode cX11_next 1 = .ok (.invokevirtual 138, 3) := by decide +kernel
theorem dX11_next_4 : decode cX11_next 4 = .ok (.bipush 32, 2) := by decide +kernel
theorem dX11_next_6 : decode cX11_next 6 = .ok (.if_icmp .eq 12, 3) := by decide +kernel
theorem dX11_next_9 : decode cX11_next 9 = .ok (.aload_n 0, 1) := by decide +kernel
theorem dX11_next_10 : decode cX11_next 10 = .ok (.invokevirtual 138, 3) := by decide +kernel
theorem dX11_next_13 : decode cX11_next 13 = .ok (.bipush 10, 2) := by decide +kernel
theorem dX11_next_15 : decode cX11_next 15 = .ok (.if_icmp .ne 16, 3) := by decide +kernel
theorem dX11_next_18 : decode cX11_next 18 = .ok (.aload_n 0, 1) := by decide +kernel
theorem dX11_next_19 : decode cX11_next 19 = .ok (.dup, 1) := by decide +kernel
theorem dX11_next_20 : decode cX11_next 20 = .ok (.getfield 21, 3) := by decide +kernel
theorem dX11_next_23 : decode cX11_next 23 = .ok (.iconst 1, 1) := by decide +kernel
theorem dX11_next_24 : decode cX11_next 24 = .ok (.iadd, 1) := by decide +kernel
theorem dX11_next_25 : decode cX11_next 25 = .ok (.putfield 21, 3) := by decide +kernel
theorem dX11_next_28 : decode cX11_next 28 = .ok (.goto (-28), 3) := by decide +kernel
theorem dX11_next_31 : decode cX11_next 31 = .ok (.aload_n 0, 1) := by decide +kernel
theorem dX11_next_32 : decode cX11_next 32 = .ok (.aload_n 0, 1) := by decide +kernel
theorem dX11_next_33 : decode cX11_next 33 = .ok (.getfield 21, 3) := by decide +kernel
theorem dX11_next_36 : decode cX11_next 36 = .ok (.putfield 142, 3) := by decide +kernel
theorem dX11_next_39 : decode cX11_next 39 = .ok (.aload_n 0, 1) := by decide +kernel
theorem dX11_next_40 : decode cX11_next 40 = .ok (.iconst 0, 1) := by decide +kernel
theorem dX11_next_41 : decode cX11_next 41 = .ok (.putfield 145, 3) := by decide +kernel
theorem dX11_next_44 : decode cX11_next 44 = .ok (.aload_n 0, 1) := by decide +kernel
theorem dX11_next_45 : decode cX11_next 45 = .ok (.getfield 18, 3) := by decide +kernel
theorem dX11_next_48 : decode cX11_next 48 = .ok (.aload_n 0, 1) := by decide +kernel
theorem dX11_next_49 : decode cX11_next 49 = .ok (.getfield 24, 3) := by decide +kernel
theorem dX11_next_52 : decode cX11_next 52 = .ok (.if_icmp .le 28, 3) := by decide +kernel
theorem dX11_next_55 : decode cX11_next 55 = .ok (.aload_n 0, 1) := by decide +kernel
theorem dX11_next_56 : decode cX11_next 56 = .ok (.getfield 21, 3) := by decide +kernel
theorem dX11_next_59 : decode cX11_next 59 = .ok (.aload_n 0, 1) := by decide +kernel
theorem dX11_next_60 : decode cX11_next 60 = .ok (.getfield 24, 3) := by decide +kernel
theorem dX11_next_63 : decode cX11_next 63 = .ok (.if_icmp .lt 17, 3) := by decide +kernel
theorem dX11_next_66 : decode cX11_next 66 = .ok (.aload_n 0, 1) := by decide +kernel
theorem dX11_next_67 : decode cX11_next 67 = .ok (.aload_n 0, 1) := by decide +kernel
theorem dX11_next_68 : decode cX11_next 68 = .ok (.getfield 24, 3) := by decide +kernel
theorem dX11_next_71 : decode cX11_next 71 = .ok (.putfield 142, 3) := by decide +kernel
theorem dX11_next_74 : decode cX11_next 74 = .ok (.aload_n 0, 1) := by decide +kernel
theorem dX11_next_75 : decode cX11_next 75 = .ok (.iconst 4, 1) := by decide +kernel
theorem dX11_next_76 : decode cX11_next 76 = .ok (.putfield 148, 3) := by decide +kernel
theorem dX11_next_79 : decode cX11_next 79 = .ok (.return_, 1) := by decide +kernel
theorem dX11_next_80 : decode cX11_next 80 = .ok (.aload_n 0, 1) := by decide +kernel
theorem dX11_next_81 : decode cX11_next 81 = .ok (.invokevirtual 138, 3) := by decide +kernel
theorem dX11_next_84 : decode cX11_next 84 = .ok (.istore_n 1, 1) := by decide +kernel
theorem dX11_next_85 : decode cX11_next 85 = .ok (.iload_n 1, 1) := by decide +kernel
theorem dX11_next_86 : decode cX11_next 86 = .ok (.ifCond .ge 9, 3) := by decide +kernel
theorem dX11_next_89 : decode cX11_next 89 = .ok (.aload_n 0, 1) := by decide +kernel
theorem dX11_next_90 : decode cX11_next 90 = .ok (.iconst 0, 1) := by decide +kernel
theorem dX11_next_91 : decode cX11_next 91 = .ok (.putfield 148, 3) := by decide +kernel
theorem dX11_next_94 : decode cX11_next 94 = .ok (.return_, 1) := by decide +kernel
theorem dX11_next_95 : decode cX11_next 95 = .ok (.iload_n 1, 1) := by decide +kernel
theorem dX11_next_96 : decode cX11_next 96 = .ok (.invokestatic 151, 3) := by decide +kernel
theorem dX11_next_99 : decode cX11_next 99 = .ok (.ifCond .ne 65, 3) := by decide +kernel
theorem dX11_next_102 : decode cX11_next 102 = .ok (.iload_n 1, 1) := by decide +kernel
theorem dX11_next_103 : decode cX11_next 103 = .ok (.invokestatic 155, 3) := by decide +kernel
theorem dX11_next_106 : decode cX11_next 106 = .ok (.ifCond .ne 58, 3) := by decide +kernel
theorem dX11_next_109 : decode cX11_next 109 = .ok (.aload_n 0, 1) := by decide +kernel
theorem dX11_next_110 : decode cX11_next 110 = .ok (.iload_n 1, 1) := by decide +kernel
theorem dX11_next_111 : decode cX11_next 111 = .ok (.bipush 59, 2) := by decide +kernel
theorem dX11_next_113 : decode cX11_next 113 = .ok (.if_icmp .eq 27, 3) := by decide +kernel
theorem dX11_next_116 : decode cX11_next 116 = .ok (.iload_n 1, 1) := by decide +kernel
theorem dX11_next_117 : decode cX11_next 117 = .ok (.bipush 40, 2) := by decide +kernel
theorem dX11_next_119 : decode cX11_next 119 = .ok (.if_icmp .eq 21, 3) := by decide +kernel
theorem dX11_next_122 : decode cX11_next 122 = .ok (.iload_n 1, 1) := by decide +kernel
theorem dX11_next_123 : decode cX11_next 123 = .ok (.bipush 41, 2) := by decide +kernel
theorem dX11_next_125 : decode cX11_next 125 = .ok (.if_icmp .eq 15, 3) := by decide +kernel
theorem dX11_next_128 : decode cX11_next 128 = .ok (.iload_n 1, 1) := by decide +kernel
theorem dX11_next_129 : decode cX11_next 129 = .ok (.bipush 60, 2) := by decide +kernel
theorem dX11_next_131 : decode cX11_next 131 = .ok (.if_icmp .lt 13, 3) := by decide +kernel
theorem dX11_next_134 : decode cX11_next 134 = .ok (.iload_n 1, 1) := by decide +kernel
theorem dX11_next_135 : decode cX11_next 135 = .ok (.bipush 62, 2) := by decide +kernel
theorem dX11_next_137 : decode cX11_next 137 = .ok (.if_icmp .gt 7, 3) := by decide +kernel
theorem dX11_next_140 : decode cX11_next 140 = .ok (.iconst 3, 1) := by decide +kernel
theorem dX11_next_141 : decode cX11_next 141 = .ok (.goto 4, 3) := by decide +kernel
theorem dX11_next_144 : decode cX11_next 144 = .ok (.iconst 4, 1) := by decide +kernel
theorem dX11_next_145 : decode cX11_next 145 = .ok (.putfield 148, 3) := by decide +kernel
theorem dX11_next_148 : decode cX11_next 148 = .ok (.aload_n 0, 1) := by decide +kernel
theorem dX11_next_149 : decode cX11_next 149 = .ok (.iload_n 1, 1) := by decide +kernel
theorem dX11_next_150 : decode cX11_next 150 = .ok (.putfield 158, 3) := by decide +kernel
theorem dX11_next_153 : decode cX11_next 153 = .ok (.aload_n 0, 1) := by decide +kernel
theorem dX11_next_154 : decode cX11_next 154 = .ok (.dup, 1) := by decide +kernel
theorem dX11_next_155 : decode cX11_next 155 = .ok (.getfield 21, 3) := by decide +kernel
theorem dX11_next_158 : decode cX11_next 158 = .ok (.iconst 1, 1) := by decide +kernel
theorem dX11_next_159 : decode cX11_next 159 = .ok (.iadd, 1) := by decide +kernel
theorem dX11_next_160 : decode cX11_next 160 = .ok (.putfield 21, 3) := by decide +kernel
theorem dX11_next_163 : decode cX11_next 163 = .ok (.return_, 1) := by decide +kernel
theorem dX11_next_164 : decode cX11_next 164 = .ok (.iload_n 1, 1) := by decide +kernel
theorem dX11_next_165 : decode cX11_next 165 = .ok (.invokestatic 151, 3) := by decide +kernel
theorem dX11_next_168 : decode cX11_next 168 = .ok (.istore_n 2, 1) := by decide +kernel
theorem dX11_next_169 : decode cX11_next 169 = .ok (.iconst 1, 1) := by decide +kernel
theorem dX11_next_170 : decode cX11_next 170 = .ok (.istore_n 3, 1) := by decide +kernel
theorem dX11_next_171 : decode cX11_next 171 = .ok (.aload_n 0, 1) := by decide +kernel
theorem dX11_next_172 : decode cX11_next 172 = .ok (.lconst 0, 1) := by decide +kernel
theorem dX11_next_173 : decode cX11_next 173 = .ok (.putfield 161, 3) := by decide +kernel
theorem dX11_next_176 : decode cX11_next 176 = .ok (.aload_n 0, 1) := by decide +kernel
theorem dX11_next_177 : decode cX11_next 177 = .ok (.iconst 0, 1) := by decide +kernel
theorem dX11_next_178 : decode cX11_next 178 = .ok (.putfield 158, 3) := by decide +kernel
theorem dX11_next_181 : decode cX11_next 181 = .ok (.aload_n 0, 1) := by decide +kernel
theorem dX11_next_182 : decode cX11_next 182 = .ok (.invokevirtual 138, 3) := by decide +kernel
theorem dX11_next_185 : decode cX11_next 185 = .ok (.invokestatic 151, 3) := by decide +kernel
theorem dX11_next_188 : decode cX11_next 188 = .ok (.ifCond .ne 13, 3) := by decide +kernel
theorem dX11_next_191 : decode cX11_next 191 = .ok (.aload_n 0, 1) := by decide +kernel
theorem dX11_next_192 : decode cX11_next 192 = .ok (.invokevirtual 138, 3) := by decide +kernel
theorem dX11_next_195 : decode cX11_next 195 = .ok (.invokestatic 155, 3) := by decide +kernel
theorem dX11_next_198 : decode cX11_next 198 = .ok (.ifCond .eq 100, 3) := by decide +kernel
theorem dX11_next_201 : decode cX11_next 201 = .ok (.iload_n 3, 1) := by decide +kernel
theorem dX11_next_202 : decode cX11_next 202 = .ok (.ifCond .eq 18, 3) := by decide +kernel
theorem dX11_next_205 : decode cX11_next 205 = .ok (.aload_n 0, 1) := by decide +kernel
theorem dX11_next_206 : decode cX11_next 206 = .ok (.invokevirtual 138, 3) := by decide +kernel
theorem dX11_next_209 : decode cX11_next 209 = .ok (.invokestatic 151, 3) := by decide +kernel
theorem dX11_next_212 : decode cX11_next 212 = .ok (.iload_n 2, 1) := by decide +kernel
theorem dX11_next_213 : decode cX11_next 213 = .ok (.if_icmp .ne 7, 3) := by decide +kernel
theorem dX11_next_216 : decode cX11_next 216 = .ok (.iconst 1, 1) := by decide +kernel
theorem dX11_next_217 : decode cX11_next 217 = .ok (.goto 4, 3) := by decide +kernel
theorem dX11_next_220 : decode cX11_next 220 = .ok (.iconst 0, 1) := by decide +kernel
theorem dX11_next_221 : decode cX11_next 221 = .ok (.istore_n 3, 1) := by decide +kernel
theorem dX11_next_222 : decode cX11_next 222 = .ok (.aload_n 0, 1) := by decide +kernel
theorem dX11_next_223 : decode cX11_next 223 = .ok (.getfield 145, 3) := by decide +kernel
theorem dX11_next_226 : decode cX11_next 226 = .ok (.bipush 6, 2) := by decide +kernel
theorem dX11_next_228 : decode cX11_next 228 = .ok (.if_icmp .ge 20, 3) := by decide +kernel
theorem dX11_next_231 : decode cX11_next 231 = .ok (.aload_n 0, 1) := by decide +kernel
theorem dX11_next_232 : decode cX11_next 232 = .ok (.aload_n 0, 1) := by decide +kernel
theorem dX11_next_233 : decode cX11_next 233 = .ok (.getfield 161, 3) := by decide +kernel
theorem dX11_next_236 : decode cX11_next 236 = .ok (.bipush 8, 2) := by decide +kernel
theorem dX11_next_238 : decode cX11_next 238 = .ok (.lshl, 1) := by decide +kernel
theorem dX11_next_239 : decode cX11_next 239 = .ok (.aload_n 0, 1) := by decide +kernel
theorem dX11_next_240 : decode cX11_next 240 = .ok (.invokevirtual 138, 3) := by decide +kernel
theorem dX11_next_243 : decode cX11_next 243 = .ok (.i2l, 1) := by decide +kernel
theorem dX11_next_244 : decode cX11_next 244 = .ok (.lor, 1) := by decide +kernel
theorem dX11_next_245 : decode cX11_next 245 = .ok (.putfield 161, 3) := by decide +kernel
theorem dX11_next_248 : decode cX11_next 248 = .ok (.aload_n 0, 1) := by decide +kernel
theorem dX11_next_249 : decode cX11_next 249 = .ok (.getfield 145, 3) := by decide +kernel
theorem dX11_next_252 : decode cX11_next 252 = .ok (.iconst 3, 1) := by decide +kernel
theorem dX11_next_253 : decode cX11_next 253 = .ok (.if_icmp .ge 22, 3) := by decide +kernel
theorem dX11_next_256 : decode cX11_next 256 = .ok (.aload_n 0, 1) := by decide +kernel
theorem dX11_next_257 : decode cX11_next 257 = .ok (.bipush 10, 2) := by decide +kernel
theorem dX11_next_259 : decode cX11_next 259 = .ok (.aload_n 0, 1) := by decide +kernel
theorem dX11_next_260 : decode cX11_next 260 = .ok (.getfield 158, 3) := by decide +kernel
theorem dX11_next_263 : decode cX11_next 263 = .ok (.imul, 1) := by decide +kernel
theorem dX11_next_264 : decode cX11_next 264 = .ok (.aload_n 0, 1) := by decide +kernel
theorem dX11_next_265 : decode cX11_next 265 = .ok (.invokevirtual 138, 3) := by decide +kernel
theorem dX11_next_268 : decode cX11_next 268 = .ok (.iadd, 1) := by decide +kernel
theorem dX11_next_269 : decode cX11_next 269 = .ok (.bipush 48, 2) := by decide +kernel
theorem dX11_next_271 : decode cX11_next 271 = .ok (.isub, 1) := by decide +kernel
theorem dX11_next_272 : decode cX11_next 272 = .ok (.putfield 158, 3) := by decide +kernel
theorem dX11_next_275 : decode cX11_next 275 = .ok (.aload_n 0, 1) := by decide +kernel
theorem dX11_next_276 : decode cX11_next 276 = .ok (.dup, 1) := by decide +kernel
theorem dX11_next_277 : decode cX11_next 277 = .ok (.getfield 145, 3) := by decide +kernel
theorem dX11_next_280 : decode cX11_next 280 = .ok (.iconst 1, 1) := by decide +kernel
theorem dX11_next_281 : decode cX11_next 281 = .ok (.iadd, 1) := by decide +kernel
theorem dX11_next_282 : decode cX11_next 282 = .ok (.putfield 145, 3) := by decide +kernel
theorem dX11_next_285 : decode cX11_next 285 = .ok (.aload_n 0, 1) := by decide +kernel
theorem dX11_next_286 : decode cX11_next 286 = .ok (.dup, 1) := by decide +kernel
theorem dX11_next_287 : decode cX11_next 287 = .ok (.getfield 21, 3) := by decide +kernel
theorem dX11_next_290 : decode cX11_next 290 = .ok (.iconst 1, 1) := by decide +kernel
theorem dX11_next_291 : decode cX11_next 291 = .ok (.iadd, 1) := by decide +kernel
theorem dX11_next_292 : decode cX11_next 292 = .ok (.putfield 21, 3) := by decide +kernel
theorem dX11_next_295 : decode cX11_next 295 = .ok (.goto (-114), 3) := by decide +kernel
theorem dX11_next_298 : decode cX11_next 298 = .ok (.aload_n 0, 1) := by decide +kernel
theorem dX11_next_299 : decode cX11_next 299 = .ok (.iload_n 3, 1) := by decide +kernel
theorem dX11_next_300 : decode cX11_next 300 = .ok (.ifCond .eq 20, 3) := by decide +kernel
theorem dX11_next_303 : decode cX11_next 303 = .ok (.aload_n 0, 1) := by decide +kernel
theorem dX11_next_304 : decode cX11_next 304 = .ok (.getfield 145, 3) := by decide +kernel
theorem dX11_next_307 : decode cX11_next 307 = .ok (.iload_n 2, 1) := by decide +kernel
theorem dX11_next_308 : decode cX11_next 308 = .ok (.ifCond .eq 8, 3) := by decide +kernel
theorem dX11_next_311 : decode cX11_next 311 = .ok (.bipush 6, 2) := by decide +kernel
theorem dX11_next_313 : decode cX11_next 313 = .ok (.goto 4, 3) := by decide +kernel
theorem dX11_next_316 : decode cX11_next 316 = .ok (.iconst 3, 1) := by decide +kernel
theorem dX11_next_317 : decode cX11_next 317 = .ok (.if_icmp .le 7, 3) := by decide +kernel
theorem dX11_next_320 : decode cX11_next 320 = .ok (.iconst 4, 1) := by decide +kernel
theorem dX11_next_321 : decode cX11_next 321 = .ok (.goto 12, 3) := by decide +kernel
theorem dX11_next_324 : decode cX11_next 324 = .ok (.iload_n 2, 1) := by decide +kernel
theorem dX11_next_325 : decode cX11_next 325 = .ok (.ifCond .eq 7, 3) := by decide +kernel
theorem dX11_next_328 : decode cX11_next 328 = .ok (.iconst 1, 1) := by decide +kernel
theorem dX11_next_329 : decode cX11_next 329 = .ok (.goto 4, 3) := by decide +kernel
theorem dX11_next_332 : decode cX11_next 332 = .ok (.iconst 2, 1) := by decide +kernel
theorem dX11_next_333 : decode cX11_next 333 = .ok (.putfield 148, 3) := by decide +kernel
theorem dX11_next_336 : decode cX11_next 336 = .ok (.return_, 1) := by decide +kernel
theorem dX11_bad_0 : decode cX11_bad 0 = .ok (.aload_n 0, 1) := by decide +kernel
theorem dX11_bad_1 : decode cX11_bad 1 = .ok (.iload_n 1, 1) := by decide +kernel
theorem dX11_bad_2 : decode cX11_bad 2 = .ok (.putfield 165, 3) := by decide +kernel
theorem dX11_bad_5 : decode cX11_bad 5 = .ok (.aload_n 0, 1) := by decide +kernel
theorem dX11_bad_6 : decode cX11_bad 6 = .ok (.aload_n 0, 1) := by decide +kernel
theorem dX11_bad_7 : decode cX11_bad 7 = .ok (.getfield 142, 3) := by decide +kernel
theorem dX11_bad_10 : decode cX11_bad 10 = .ok (.putfield 168, 3) := by decide +kernel
theorem dX11_bad_13 : decode cX11_bad 13 = .ok (.iconst 0, 1) := by decide +kernel
theorem dX11_bad_14 : decode cX11_bad 14 = .ok (.ireturn, 1) := by decide +kernel
theorem dX11_isWord_0 : decode cX11_isWord 0 = .ok (.aload_n 0, 1) := by decide +kernel
theorem dX11_isWord_1 : decode cX11_isWord 1 = .ok (.getfield 148, 3) := by decide +kernel
theorem dX11_isWord_4 : decode cX11_isWord 4 = .ok (.iconst 1, 1) := by decide +kernel
theorem dX11_isWord_5 : decode cX11_isWord 5 = .ok (.if_icmp .ne 16, 3) := by decide +kernel
theorem dX11_isWord_8 : decode cX11_isWord 8 = .ok (.aload_n 0, 1) := by decide +kernel
theorem dX11_isWord_9 : decode cX11_isWord 9 = .ok (.getfield 161, 3) := by decide +kernel
theorem dX11_isWord_12 : decode cX11_isWord 12 = .ok (.lload_n 1, 1) := by decide +kernel
theorem dX11_isWord_13 : decode cX11_isWord 13 = .ok (.lcmp, 1) := by decide +kernel
theorem dX11_isWord_14 : decode cX11_isWord 14 = .ok (.ifCond .ne 7, 3) := by decide +kernel
theorem dX11_isWord_17 : decode cX11_isWord 17 = .ok (.iconst 1, 1) := by decide +kernel
theorem dX11_isWord_18 : decode cX11_isWord 18 = .ok (.goto 4, 3) := by decide +kernel
theorem dX11_isWord_21 : decode cX11_isWord 21 = .ok (.iconst 0, 1) := by decide +kernel
theorem dX11_isWord_22 : decode cX11_isWord 22 = .ok (.ireturn, 1) := by decide +kernel
theorem dX11_isSign_0 : decode cX11_isSign 0 = .ok (.aload_n 0, 1) := by decide +kernel
theorem dX11_isSign_1 : decode cX11_isSign 1 = .ok (.getfield 148, 3) := by decide +kernel
theorem dX11_isSign_4 : decode cX11_isSign 4 = .ok (.iconst 3, 1) := by decide +kernel
theorem dX11_isSign_5 : decode cX11_isSign 5 = .ok (.if_icmp .ne 15, 3) := by decide +kernel
theorem dX11_isSign_8 : decode cX11_isSign 8 = .ok (.aload_n 0, 1) := by decide +kernel
theorem dX11_isSign_9 : decode cX11_isSign 9 = .ok (.getfield 158, 3) := by decide +kernel
theorem dX11_isSign_12 : decode cX11_isSign 12 = .ok (.iload_n 1, 1) := by decide +kernel
theorem dX11_isSign_13 : decode cX11_isSign 13 = .ok (.if_icmp .ne 7, 3) := by decide +kernel
theorem dX11_isSign_16 : decode cX11_isSign 16 = .ok (.iconst 1, 1) := by decide +kernel
theorem dX11_isSign_17 : decode cX11_isSign 17 = .ok (.goto 4, 3) := by decide +kernel
theorem dX11_isSign_20 : decode cX11_isSign 20 = .ok (.iconst 0, 1) := by decide +kernel
theorem dX11_isSign_21 : decode cX11_isSign 21 = .ok (.ireturn, 1) := by decide +kernel
theorem dX11_sign_0 : decode cX11_sign 0 = .ok (.aload_n 0, 1) := by decide +kernel
theorem dX11_sign_1 : decode cX11_sign 1 = .ok (.iload_n 1, 1) := by decide +kernel
theorem dX11_sign_2 : decode cX11_sign 2 = .ok (.invokevirtual 171, 3) := by decide +kernel
theorem dX11_sign_5 : decode cX11_sign 5 = .ok (.ifCond .ne 9, 3) := by decide +kernel
theorem dX11_sign_8 : decode cX11_sign 8 = .ok (.aload_n 0, 1) := by decide +kernel
theorem dX11_sign_9 : decode cX11_sign 9 = .ok (.iconst 1, 1) := by decide +kernel
theorem dX11_sign_10 : decode cX11_sign 10 = .ok (.invokevirtual 174, 3) := by decide +kernel
theorem dX11_sign_13 : decode cX11_sign 13 = .ok (.ireturn, 1) := by decide +kernel
theorem dX11_sign_14 : decode cX11_sign 14 = .ok (.aload_n 0, 1) := by decide +kernel
theorem dX11_sign_15 : decode cX11_sign 15 = .ok (.invokevirtual 177, 3) := by decide +kernel
theorem dX11_sign_18 : decode cX11_sign 18 = .ok (.iconst 1, 1) := by decide +kernel
theorem dX11_sign_19 : decode cX11_sign 19 = .ok (.ireturn, 1) := by decide +kernel
theorem dX11_isName_0 : decode cX11_isName 0 = .ok (.aload_n 0, 1) := by decide +kernel
theorem dX11_isName_1 : decode cX11_isName 1 = .ok (.getfield 148, 3) := by decide +kernel
theorem dX11_isName_4 : decode cX11_isName 4 = .ok (.iconst 1, 1) := by decide +kernel
theorem dX11_isName_5 : decode cX11_isName 5 = .ok (.if_icmp .ne 7, 3) := by decide +kernel
theorem dX11_isName_8 : decode cX11_isName 8 = .ok (.iconst 1, 1) := by decide +kernel
theorem dX11_isName_9 : decode cX11_isName 9 = .ok (.goto 4, 3) := by decide +kernel
theorem dX11_isName_12 : decode cX11_isName 12 = .ok (.iconst 0, 1) := by decide +kernel
theorem dX11_isName_13 : decode cX11_isName 13 = .ok (.istore_n 1, 1) := by decide +kernel
theorem dX11_isName_14 : decode cX11_isName 14 = .ok (.iconst 0, 1) := by decide +kernel
theorem dX11_isName_15 : decode cX11_isName 15 = .ok (.istore_n 2, 1) := by decide +kernel
theorem dX11_isName_16 : decode cX11_isName 16 = .ok (.iload_n 2, 1) := by decide +kernel
theorem dX11_isName_17 : decode cX11_isName 17 = .ok (.bipush 24, 2) := by decide +kernel
theorem dX11_isName_19 : decode cX11_isName 19 = .ok (.if_icmp .ge 33, 3) := by decide +kernel
theorem dX11_isName_22 : decode cX11_isName 22 = .ok (.iload_n 1, 1) := by decide +kernel
theorem dX11_isName_23 : decode cX11_isName 23 = .ok (.ifCond .eq 21, 3) := by decide +kernel
theorem dX11_isName_26 : decode cX11_isName 26 = .ok (.aload_n 0, 1) := by decide +kernel
theorem dX11_isName_27 : decode cX11_isName 27 = .ok (.getfield 161, 3) := by decide +kernel
theorem dX11_isName_30 : decode cX11_isName 30 = .ok (.aload_n 0, 1) := by decide +kernel
theorem dX11_isName_31 : decode cX11_isName 31 = .ok (.getfield 47, 3) := by decide +kernel
theorem dX11_isName_34 : decode cX11_isName 34 = .ok (.iload_n 2, 1) := by decide +kernel
theorem dX11_isName_35 : decode cX11_isName 35 = .ok (.laload, 1) := by decide +kernel
theorem dX11_isName_36 : decode cX11_isName 36 = .ok (.lcmp, 1) := by decide +kernel
theorem dX11_isName_37 : decode cX11_isName 37 = .ok (.ifCond .eq 7, 3) := by decide +kernel
theorem dX11_isName_40 : decode cX11_isName 40 = .ok (.iconst 1, 1) := by decide +kernel
theorem dX11_isName_41 : decode cX11_isName 41 = .ok (.goto 4, 3) := by decide +kernel
theorem dX11_isName_44 : decode cX11_isName 44 = .ok (.iconst 0, 1) := by decide +kernel
theorem dX11_isName_45 : decode cX11_isName 45 = .ok (.istore_n 1, 1) := by decide +kernel
theorem dX11_isName_46 : decode cX11_isName 46 = .ok (.iinc 2 1, 3) := by decide +kernel
theorem dX11_isName_49 : decode cX11_isName 49 = .ok (.goto (-33), 3) := by decide +kernel
theorem dX11_isName_52 : decode cX11_isName 52 = .ok (.iload_n 1, 1) := by decide +kernel
theorem dX11_isName_53 : decode cX11_isName 53 = .ok (.ireturn, 1) := by decide +kernel
theorem dX11_takes_0 : decode cX11_takes 0 = .ok (.aload_n 0, 1) := by decide +kernel
theorem dX11_takes_1 : decode cX11_takes 1 = .ok (.getfield 148, 3) := by decide +kernel
theorem dX11_takes_4 : decode cX11_takes 4 = .ok (.iconst 2, 1) := by decide +kernel
theorem dX11_takes_5 : decode cX11_takes 5 = .ok (.if_icmp .eq 9, 3) := by decide +kernel
theorem dX11_takes_8 : decode cX11_takes 8 = .ok (.aload_n 0, 1) := by decide +kernel
theorem dX11_takes_9 : decode cX11_takes 9 = .ok (.iconst 1, 1) := by decide +kernel
theorem dX11_takes_10 : decode cX11_takes 10 = .ok (.invokevirtual 174, 3) := by decide +kernel
theorem dX11_takes_13 : decode cX11_takes 13 = .ok (.ireturn, 1) := by decide +kernel
theorem dX11_takes_14 : decode cX11_takes 14 = .ok (.aload_n 0, 1) := by decide +kernel
theorem dX11_takes_15 : decode cX11_takes 15 = .ok (.getfield 158, 3) := by decide +kernel
theorem dX11_takes_18 : decode cX11_takes 18 = .ok (.iload_n 1, 1) := by decide +kernel
theorem dX11_takes_19 : decode cX11_takes 19 = .ok (.iload_n 2, 1) := by decide +kernel
theorem dX11_takes_20 : decode cX11_takes 20 = .ok (.invokestatic 180, 3) := by decide +kernel
theorem dX11_takes_23 : decode cX11_takes 23 = .ok (.ifCond .ne 9, 3) := by decide +kernel
theorem dX11_takes_26 : decode cX11_takes 26 = .ok (.aload_n 0, 1) := by decide +kernel
theorem dX11_takes_27 : decode cX11_takes 27 = .ok (.iconst 2, 1) := by decide +kernel
theorem dX11_takes_28 : decode cX11_takes 28 = .ok (.invokevirtual 174, 3) := by decide +kernel
theorem dX11_takes_31 : decode cX11_takes 31 = .ok (.ireturn, 1) := by decide +kernel
theorem dX11_takes_32 : decode cX11_takes 32 = .ok (.aload_n 0, 1) := by decide +kernel
theorem dX11_takes_33 : decode cX11_takes 33 = .ok (.aload_n 0, 1) := by decide +kernel
theorem dX11_takes_34 : decode cX11_takes 34 = .ok (.getfield 158, 3) := by decide +kernel
theorem dX11_takes_37 : decode cX11_takes 37 = .ok (.putfield 184, 3) := by decide +kernel
theorem dX11_takes_40 : decode cX11_takes 40 = .ok (.aload_n 0, 1) := by decide +kernel
theorem dX11_takes_41 : decode cX11_takes 41 = .ok (.invokevirtual 177, 3) := by decide +kernel
theorem dX11_takes_44 : decode cX11_takes 44 = .ok (.iconst 1, 1) := by decide +kernel
theorem dX11_takes_45 : decode cX11_takes 45 = .ok (.ireturn, 1) := by decide +kernel
theorem dX11_find_0 : decode cX11_find 0 = .ok (.iconst 0, 1) := by decide +kernel
theorem dX11_find_1 : decode cX11_find 1 = .ok (.istore_n 3, 1) := by decide +kernel
theorem dX11_find_2 : decode cX11_find 2 = .ok (.iload_n 3, 1) := by decide +kernel
theorem dX11_find_3 : decode cX11_find 3 = .ok (.iload_n 2, 1) := by decide +kernel
theorem dX11_find_4 : decode cX11_find 4 = .ok (.if_icmp .ge 27, 3) := by decide +kernel
theorem dX11_find_7 : decode cX11_find 7 = .ok (.aload_n 0, 1) := by decide +kernel
theorem dX11_find_8 : decode cX11_find 8 = .ok (.getfield 43, 3) := by decide +kernel
theorem dX11_find_11 : decode cX11_find 11 = .ok (.iload_n 1, 1) := by decide +kernel
theorem dX11_find_12 : decode cX11_find 12 = .ok (.iload_n 3, 1) := by decide +kernel
theorem dX11_find_13 : decode cX11_find 13 = .ok (.iadd, 1) := by decide +kernel
theorem dX11_find_14 : decode cX11_find 14 = .ok (.laload, 1) := by decide +kernel
theorem dX11_find_15 : decode cX11_find 15 = .ok (.aload_n 0, 1) := by decide +kernel
theorem dX11_find_16 : decode cX11_find 16 = .ok (.getfield 161, 3) := by decide +kernel
theorem dX11_find_19 : decode cX11_find 19 = .ok (.lcmp, 1) := by decide +kernel
theorem dX11_find_20 : decode cX11_find 20 = .ok (.ifCond .ne 5, 3) := by decide +kernel
theorem dX11_find_23 : decode cX11_find 23 = .ok (.iload_n 3, 1) := by decide +kernel
theorem dX11_find_24 : decode cX11_find 24 = .ok (.ireturn, 1) := by decide +kernel
theorem dX11_find_25 : decode cX11_find 25 = .ok (.iinc 3 1, 3) := by decide +kernel
theorem dX11_find_28 : decode cX11_find 28 = .ok (.goto (-26), 3) := by decide +kernel
theorem dX11_find_31 : decode cX11_find 31 = .ok (.iconst (-1), 1) := by decide +kernel
theorem dX11_find_32 : decode cX11_find 32 = .ok (.ireturn, 1) := by decide +kernel
theorem dX11_line_0 : decode cX11_line 0 = .ok (.aload_n 0, 1) := by decide +kernel
theorem dX11_line_1 : decode cX11_line 1 = .ok (.ldc2_w 90, 3) := by decide +kernel
theorem dX11_line_4 : decode cX11_line 4 = .ok (.invokevirtual 187, 3) := by decide +kernel
theorem dX11_line_7 : decode cX11_line 7 = .ok (.ifCond .eq 64, 3) := by decide +kernel
theorem dX11_line_10 : decode cX11_line 10 = .ok (.aload_n 0, 1) := by decide +kernel
theorem dX11_line_11 : decode cX11_line 11 = .ok (.getfield 191, 3) := by decide +kernel
theorem dX11_line_14 : decode cX11_line 14 = .ok (.ifCond .eq 9, 3) := by decide +kernel
theorem dX11_line_17 : decode cX11_line 17 = .ok (.aload_n 0, 1) := by decide +kernel
theorem dX11_line_18 : decode cX11_line 18 = .ok (.iconst 3, 1) := by decide +kernel
theorem dX11_line_19 : decode cX11_line 19 = .ok (.invokevirtual 174, 3) := by decide +kernel
theorem dX11_line_22 : decode cX11_line 22 = .ok (.ireturn, 1) := by decide +kernel
theorem dX11_line_23 : decode cX11_line 23 = .ok (.aload_n 0, 1) := by decide +kernel
theorem dX11_line_24 : decode cX11_line 24 = .ok (.iconst 1, 1) := by decide +kernel
theorem dX11_line_25 : decode cX11_line 25 = .ok (.putfield 191, 3) := by decide +kernel
theorem dX11_line_28 : decode cX11_line 28 = .ok (.aload_n 0, 1) := by decide +kernel
theorem dX11_line_29 : decode cX11_line 29 = .ok (.invokevirtual 177, 3) := by decide +kernel
theorem dX11_line_32 : decode cX11_line 32 = .ok (.iconst 0, 1) := by decide +kernel
theorem dX11_line_33 : decode cX11_line 33 = .ok (.istore_n 1, 1) := by decide +kernel
theorem dX11_line_34 : decode cX11_line 34 = .ok (.iload_n 1, 1) := by decide +kernel
theorem dX11_line_35 : decode cX11_line 35 = .ok (.iconst 2, 1) := by decide +kernel
theorem dX11_line_36 : decode cX11_line 36 = .ok (.if_icmp .ge 33, 3) := by decide +kernel
theorem dX11_line_39 : decode cX11_line 39 = .ok (.aload_n 0, 1) := by decide +kernel
theorem dX11_line_40 : decode cX11_line 40 = .ok (.iconst 2, 1) := by decide +kernel
theorem dX11_line_41 : decode cX11_line 41 = .ok (.bipush 10, 2) := by decide +kernel
theorem dX11_line_43 : decode cX11_line 43 = .ok (.invokevirtual 195, 3) := by decide +kernel
theorem dX11_line_46 : decode cX11_line 46 = .ok (.ifCond .ne 5, 3) := by decide +kernel
theorem dX11_line_49 : decode cX11_line 49 = .ok (.iconst 0, 1) := by decide +kernel
theorem dX11_line_50 : decode cX11_line 50 = .ok (.ireturn, 1) := by decide +kernel
theorem dX11_line_51 : decode cX11_line 51 = .ok (.aload_n 0, 1) := by decide +kernel
theorem dX11_line_52 : decode cX11_line 52 = .ok (.getfield 37, 3) := by decide +kernel
theorem dX11_line_55 : decode cX11_line 55 = .ok (.iconst 0, 1) := by decide +kernel
theorem dX11_line_56 : decode cX11_line 56 = .ok (.iload_n 1, 1) := by decide +kernel
theorem dX11_line_57 : decode cX11_line 57 = .ok (.iadd, 1) := by decide +kernel
theorem dX11_line_58 : decode cX11_line 58 = .ok (.aload_n 0, 1) := by decide +kernel
theorem dX11_line_59 : decode cX11_line 59 = .ok (.getfield 184, 3) := by decide +kernel
theorem dX11_line_62 : decode cX11_line 62 = .ok (.iastore, 1) := by decide +kernel
theorem dX11_line_63 : decode cX11_line 63 = .ok (.iinc 1 1, 3) := by decide +kernel
theorem dX11_line_66 : decode cX11_line 66 = .ok (.goto (-32), 3) := by decide +kernel
theorem dX11_line_69 : decode cX11_line 69 = .ok (.iconst 1, 1) := by decide +kernel
theorem dX11_line_70 : decode cX11_line 70 = .ok (.ireturn, 1) := by decide +kernel
theorem dX11_line_71 : decode cX11_line 71 = .ok (.aload_n 0, 1) := by decide +kernel
theorem dX11_line_72 : decode cX11_line 72 = .ok (.ldc2_w 92, 3) := by decide +kernel
theorem dX11_line_75 : decode cX11_line 75 = .ok (.invokevirtual 187, 3) := by decide +kernel
theorem dX11_line_78 : decode cX11_line 78 = .ok (.ifCond .eq 8, 3) := by decide +kernel
theorem dX11_line_81 : decode cX11_line 81 = .ok (.aload_n 0, 1) := by decide +kernel
theorem dX11_line_82 : decode cX11_line 82 = .ok (.invokevirtual 199, 3) := by decide +kernel
theorem dX11_line_85 : decode cX11_line 85 = .ok (.ireturn, 1) := by decide +kernel
theorem dX11_line_86 : decode cX11_line 86 = .ok (.aload_n 0, 1) := by decide +kernel
theorem dX11_line_87 : decode cX11_line 87 = .ok (.ldc2_w 94, 3) := by decide +kernel
theorem dX11_line_90 : decode cX11_line 90 = .ok (.invokevirtual 187, 3) := by decide +kernel
theorem dX11_line_93 : decode cX11_line 93 = .ok (.ifCond .eq 64, 3) := by decide +kernel
theorem dX11_line_96 : decode cX11_line 96 = .ok (.aload_n 0, 1) := by decide +kernel
theorem dX11_line_97 : decode cX11_line 97 = .ok (.invokevirtual 177, 3) := by decide +kernel
theorem dX11_line_100 : decode cX11_line 100 = .ok (.aload_n 0, 1) := by decide +kernel
theorem dX11_line_101 : decode cX11_line 101 = .ok (.aload_n 0, 1) := by decide +kernel
theorem dX11_line_102 : decode cX11_line 102 = .ok (.getfield 203, 3) := by decide +kernel
theorem dX11_line_105 : decode cX11_line 105 = .ok (.invokevirtual 206, 3) := by decide +kernel
theorem dX11_line_108 : decode cX11_line 108 = .ok (.ifCond .ne 5, 3) := by decide +kernel
theorem dX11_line_111 : decode cX11_line 111 = .ok (.iconst 0, 1) := by decide +kernel
theorem dX11_line_112 : decode cX11_line 112 = .ok (.ireturn, 1) := by decide +kernel
theorem dX11_line_113 : decode cX11_line 113 = .ok (.aload_n 0, 1) := by decide +kernel
theorem dX11_line_114 : decode cX11_line 114 = .ok (.getfield 184, 3) := by decide +kernel
theorem dX11_line_117 : decode cX11_line 117 = .ok (.istore_n 1, 1) := by decide +kernel
theorem dX11_line_118 : decode cX11_line 118 = .ok (.aload_n 0, 1) := by decide +kernel
theorem dX11_line_119 : decode cX11_line 119 = .ok (.dup, 1) := by decide +kernel
theorem dX11_line_120 : decode cX11_line 120 = .ok (.getfield 203, 3) := by decide +kernel
theorem dX11_line_123 : decode cX11_line 123 = .ok (.iconst 1, 1) := by decide +kernel
theorem dX11_line_124 : decode cX11_line 124 = .ok (.iload_n 1, 1) := by decide +kernel
theorem dX11_line_125 : decode cX11_line 125 = .ok (.ishl, 1) := by decide +kernel
theorem dX11_line_126 : decode cX11_line 126 = .ok (.ior, 1) := by decide +kernel
theorem dX11_line_127 : decode cX11_line 127 = .ok (.putfield 203, 3) := by decide +kernel
theorem dX11_line_130 : decode cX11_line 130 = .ok (.aload_n 0, 1) := by decide +kernel
theorem dX11_line_131 : decode cX11_line 131 = .ok (.iconst 0, 1) := by decide +kernel
theorem dX11_line_132 : decode cX11_line 132 = .ok (.bipush 7, 2) := by decide +kernel
theorem dX11_line_134 : decode cX11_line 134 = .ok (.invokevirtual 195, 3) := by decide +kernel
theorem dX11_line_137 : decode cX11_line 137 = .ok (.ifCond .ne 5, 3) := by decide +kernel
theorem dX11_line_140 : decode cX11_line 140 = .ok (.iconst 0, 1) := by decide +kernel
theorem dX11_line_141 : decode cX11_line 141 = .ok (.ireturn, 1) := by decide +kernel
theorem dX11_line_142 : decode cX11_line 142 = .ok (.aload_n 0, 1) := by decide +kernel
theorem dX11_line_143 : decode cX11_line 143 = .ok (.getfield 37, 3) := by decide +kernel
theorem dX11_line_146 : decode cX11_line 146 = .ok (.bipush 39, 2) := by decide +kernel
theorem dX11_line_148 : decode cX11_line 148 = .ok (.iload_n 1, 1) := by decide +kernel
theorem dX11_line_149 : decode cX11_line 149 = .ok (.iadd, 1) := by decide +kernel
theorem dX11_line_150 : decode cX11_line 150 = .ok (.aload_n 0, 1) := by decide +kernel
theorem dX11_line_151 : decode cX11_line 151 = .ok (.getfield 184, 3) := by decide +kernel
theorem dX11_line_154 : decode cX11_line 154 = .ok (.iastore, 1) := by decide +kernel
theorem dX11_line_155 : decode cX11_line 155 = .ok (.iconst 1, 1) := by decide +kernel
theorem dX11_line_156 : decode cX11_line 156 = .ok (.ireturn, 1) := by decide +kernel
theorem dX11_line_157 : decode cX11_line 157 = .ok (.aload_n 0, 1) := by decide +kernel
theorem dX11_line_158 : decode cX11_line 158 = .ok (.ldc2_w 96, 3) := by decide +kernel
theorem dX11_line_161 : decode cX11_line 161 = .ok (.invokevirtual 187, 3) := by decide +kernel
theorem dX11_line_164 : decode cX11_line 164 = .ok (.ifCond .eq 63, 3) := by decide +kernel
theorem dX11_line_167 : decode cX11_line 167 = .ok (.aload_n 0, 1) := by decide +kernel
theorem dX11_line_168 : decode cX11_line 168 = .ok (.getfield 37, 3) := by decide +kernel
theorem dX11_line_171 : decode cX11_line 171 = .ok (.iconst 3, 1) := by decide +kernel
theorem dX11_line_172 : decode cX11_line 172 = .ok (.iaload, 1) := by decide +kernel
theorem dX11_line_173 : decode cX11_line 173 = .ok (.bipush 12, 2) := by decide +kernel
theorem dX11_line_175 : decode cX11_line 175 = .ok (.if_icmp .ne 9, 3) := by decide +kernel
theorem dX11_line_178 : decode cX11_line 178 = .ok (.aload_n 0, 1) := by decide +kernel
theorem dX11_line_179 : decode cX11_line 179 = .ok (.iconst 4, 1) := by decide +kernel
theorem dX11_line_180 : decode cX11_line 180 = .ok (.invokevirtual 174, 3) := by decide +kernel
theorem dX11_line_183 : decode cX11_line 183 = .ok (.ireturn, 1) := by decide +kernel
theorem dX11_line_184 : decode cX11_line 184 = .ok (.aload_n 0, 1) := by decide +kernel
theorem dX11_line_185 : decode cX11_line 185 = .ok (.invokevirtual 177, 3) := by decide +kernel
theorem dX11_line_188 : decode cX11_line 188 = .ok (.aload_n 0, 1) := by decide +kernel
theorem dX11_line_189 : decode cX11_line 189 = .ok (.invokevirtual 209, 3) := by decide +kernel
theorem dX11_line_192 : decode cX11_line 192 = .ok (.ifCond .ne 5, 3) := by decide +kernel
theorem dX11_line_195 : decode cX11_line 195 = .ok (.iconst 0, 1) := by decide +kernel
theorem dX11_line_196 : decode cX11_line 196 = .ok (.ireturn, 1) := by decide +kernel
theorem dX11_line_197 : decode cX11_line 197 = .ok (.aload_n 0, 1) := by decide +kernel
theorem dX11_line_198 : decode cX11_line 198 = .ok (.getfield 37, 3) := by decide +kernel
theorem dX11_line_201 : decode cX11_line 201 = .ok (.bipush 63, 2) := by decide +kernel
theorem dX11_line_203 : decode cX11_line 203 = .ok (.aload_n 0, 1) := by decide +kernel
theorem dX11_line_204 : decode cX11_line 204 = .ok (.getfield 37, 3) := by decide +kernel
theorem dX11_line_207 : decode cX11_line 207 = .ok (.iconst 3, 1) := by decide +kernel
theorem dX11_line_208 : decode cX11_line 208 = .ok (.iaload, 1) := by decide +kernel
theorem dX11_line_209 : decode cX11_line 209 = .ok (.iadd, 1) := by decide +kernel
theorem dX11_line_210 : decode cX11_line 210 = .ok (.aload_n 0, 1) := by decide +kernel
theorem dX11_line_211 : decode cX11_line 211 = .ok (.getfield 184, 3) := by decide +kernel
theorem dX11_line_214 : decode cX11_line 214 = .ok (.iastore, 1) := by decide +kernel
theorem dX11_line_215 : decode cX11_line 215 = .ok (.aload_n 0, 1) := by decide +kernel
theorem dX11_line_216 : decode cX11_line 216 = .ok (.getfield 37, 3) := by decide +kernel
theorem dX11_line_219 : decode cX11_line 219 = .ok (.iconst 3, 1) := by decide +kernel
theorem dX11_line_220 : decode cX11_line 220 = .ok (.dup2, 1) := by decide +kernel
theorem dX11_line_221 : decode cX11_line 221 = .ok (.iaload, 1) := by decide +kernel
theorem dX11_line_222 : decode cX11_line 222 = .ok (.iconst 1, 1) := by decide +kernel
theorem dX11_line_223 : decode cX11_line 223 = .ok (.iadd, 1) := by decide +kernel
theorem dX11_line_224 : decode cX11_line 224 = .ok (.iastore, 1) := by decide +kernel
theorem dX11_line_225 : decode cX11_line 225 = .ok (.iconst 1, 1) := by decide +kernel
theorem dX11_line_226 : decode cX11_line 226 = .ok (.ireturn, 1) := by decide +kernel
theorem dX11_line_227 : decode cX11_line 227 = .ok (.aload_n 0, 1) := by decide +kernel
theorem dX11_line_228 : decode cX11_line 228 = .ok (.ldc2_w 98, 3) := by decide +kernel
theorem dX11_line_231 : decode cX11_line 231 = .ok (.invokevirtual 187, 3) := by decide +kernel
theorem dX11_line_234 : decode cX11_line 234 = .ok (.ifCond .eq 57, 3) := by decide +kernel
theorem dX11_line_237 : decode cX11_line 237 = .ok (.aload_n 0, 1) := by decide +kernel
theorem dX11_line_238 : decode cX11_line 238 = .ok (.getfield 212, 3) := by decide +kernel
theorem dX11_line_241 : decode cX11_line 241 = .ok (.bipush 12, 2) := by decide +kernel
theorem dX11_line_243 : decode cX11_line 243 = .ok (.if_icmp .ne 9, 3) := by decide +kernel
theorem dX11_line_246 : decode cX11_line 246 = .ok (.aload_n 0, 1) := by decide +kernel
theorem dX11_line_247 : decode cX11_line 247 = .ok (.iconst 4, 1) := by decide +kernel
theorem dX11_line_248 : decode cX11_line 248 = .ok (.invokevirtual 174, 3) := by decide +kernel
theorem dX11_line_251 : decode cX11_line 251 = .ok (.ireturn, 1) := by decide +kernel
theorem dX11_line_252 : decode cX11_line 252 = .ok (.aload_n 0, 1) := by decide +kernel
theorem dX11_line_253 : decode cX11_line 253 = .ok (.invokevirtual 177, 3) := by decide +kernel
theorem dX11_line_256 : decode cX11_line 256 = .ok (.aload_n 0, 1) := by decide +kernel
theorem dX11_line_257 : decode cX11_line 257 = .ok (.invokevirtual 209, 3) := by decide +kernel
theorem dX11_line_260 : decode cX11_line 260 = .ok (.ifCond .ne 5, 3) := by decide +kernel
theorem dX11_line_263 : decode cX11_line 263 = .ok (.iconst 0, 1) := by decide +kernel
theorem dX11_line_264 : decode cX11_line 264 = .ok (.ireturn, 1) := by decide +kernel
theorem dX11_line_265 : decode cX11_line 265 = .ok (.aload_n 0, 1) := by decide +kernel
theorem dX11_line_266 : decode cX11_line 266 = .ok (.getfield 37, 3) := by decide +kernel
theorem dX11_line_269 : decode cX11_line 269 = .ok (.sipush 271, 3) := by decide +kernel
theorem dX11_line_272 : decode cX11_line 272 = .ok (.aload_n 0, 1) := by decide +kernel
theorem dX11_line_273 : decode cX11_line 273 = .ok (.getfield 184, 3) := by decide +kernel
theorem dX11_line_276 : decode cX11_line 276 = .ok (.iadd, 1) := by decide +kernel
theorem dX11_line_277 : decode cX11_line 277 = .ok (.iconst 1, 1) := by decide +kernel
theorem dX11_line_278 : decode cX11_line 278 = .ok (.iastore, 1) := by decide +kernel
theorem dX11_line_279 : decode cX11_line 279 = .ok (.aload_n 0, 1) := by decide +kernel
theorem dX11_line_280 : decode cX11_line 280 = .ok (.dup, 1) := by decide +kernel
theorem dX11_line_281 : decode cX11_line 281 = .ok (.getfield 212, 3) := by decide +kernel
theorem dX11_line_284 : decode cX11_line 284 = .ok (.iconst 1, 1) := by decide +kernel
theorem dX11_line_285 : decode cX11_line 285 = .ok (.iadd, 1) := by decide +kernel
theorem dX11_line_286 : decode cX11_line 286 = .ok (.putfield 212, 3) := by decide +kernel
theorem dX11_line_289 : decode cX11_line 289 = .ok (.iconst 1, 1) := by decide +kernel
theorem dX11_line_290 : decode cX11_line 290 = .ok (.ireturn, 1) := by decide +kernel
theorem dX11_line_291 : decode cX11_line 291 = .ok (.aload_n 0, 1) := by decide +kernel
theorem dX11_line_292 : decode cX11_line 292 = .ok (.ldc2_w 100, 3) := by decide +kernel
theorem dX11_line_295 : decode cX11_line 295 = .ok (.invokevirtual 187, 3) := by decide +kernel
theorem dX11_line_298 : decode cX11_line 298 = .ok (.ifCond .eq 8, 3) := by decide +kernel
theorem dX11_line_301 : decode cX11_line 301 = .ok (.aload_n 0, 1) := by decide +kernel
theorem dX11_line_302 : decode cX11_line 302 = .ok (.invokevirtual 215, 3) := by decide +kernel
theorem dX11_line_305 : decode cX11_line 305 = .ok (.ireturn, 1) := by decide +kernel
theorem dX11_line_306 : decode cX11_line 306 = .ok (.aload_n 0, 1) := by decide +kernel
theorem dX11_line_307 : decode cX11_line 307 = .ok (.ldc2_w 102, 3) := by decide +kernel
theorem dX11_line_310 : decode cX11_line 310 = .ok (.invokevirtual 187, 3) := by decide +kernel
theorem dX11_line_313 : decode cX11_line 313 = .ok (.ifCond .eq 8, 3) := by decide +kernel
theorem dX11_line_316 : decode cX11_line 316 = .ok (.aload_n 0, 1) := by decide +kernel
theorem dX11_line_317 : decode cX11_line 317 = .ok (.invokevirtual 218, 3) := by decide +kernel
theorem dX11_line_320 : decode cX11_line 320 = .ok (.ireturn, 1) := by decide +kernel
theorem dX11_line_321 : decode cX11_line 321 = .ok (.aload_n 0, 1) := by decide +kernel
theorem dX11_line_322 : decode cX11_line 322 = .ok (.ldc2_w 104, 3) := by decide +kernel
theorem dX11_line_325 : decode cX11_line 325 = .ok (.invokevirtual 187, 3) := by decide +kernel
theorem dX11_line_328 : decode cX11_line 328 = .ok (.ifCond .eq 8, 3) := by decide +kernel
theorem dX11_line_331 : decode cX11_line 331 = .ok (.aload_n 0, 1) := by decide +kernel
theorem dX11_line_332 : decode cX11_line 332 = .ok (.invokevirtual 221, 3) := by decide +kernel
theorem dX11_line_335 : decode cX11_line 335 = .ok (.ireturn, 1) := by decide +kernel
theorem dX11_line_336 : decode cX11_line 336 = .ok (.aload_n 0, 1) := by decide +kernel
theorem dX11_line_337 : decode cX11_line 337 = .ok (.ldc2_w 106, 3) := by decide +kernel
theorem dX11_line_340 : decode cX11_line 340 = .ok (.invokevirtual 187, 3) := by decide +kernel
theorem dX11_line_343 : decode cX11_line 343 = .ok (.ifCond .eq 8, 3) := by decide +kernel
theorem dX11_line_346 : decode cX11_line 346 = .ok (.aload_n 0, 1) := by decide +kernel
theorem dX11_line_347 : decode cX11_line 347 = .ok (.invokevirtual 224, 3) := by decide +kernel
theorem dX11_line_350 : decode cX11_line 350 = .ok (.ireturn, 1) := by decide +kernel
theorem dX11_line_351 : decode cX11_line 351 = .ok (.aload_n 0, 1) := by decide +kernel
theorem dX11_line_352 : decode cX11_line 352 = .ok (.ldc2_w 108, 3) := by decide +kernel
theorem dX11_line_355 : decode cX11_line 355 = .ok (.invokevirtual 187, 3) := by decide +kernel
theorem dX11_line_358 : decode cX11_line 358 = .ok (.ifCond .ne 9, 3) := by decide +kernel
theorem dX11_line_361 : decode cX11_line 361 = .ok (.aload_n 0, 1) := by decide +kernel
theorem dX11_line_362 : decode cX11_line 362 = .ok (.iconst 1, 1) := by decide +kernel
theorem dX11_line_363 : decode cX11_line 363 = .ok (.invokevirtual 174, 3) := by decide +kernel
theorem dX11_line_366 : decode cX11_line 366 = .ok (.ireturn, 1) := by decide +kernel
theorem dX11_line_367 : decode cX11_line 367 = .ok (.aload_n 0, 1) := by decide +kernel
theorem dX11_line_368 : decode cX11_line 368 = .ok (.getfield 227, 3) := by decide +kernel
theorem dX11_line_371 : decode cX11_line 371 = .ok (.ifCond .eq 9, 3) := by decide +kernel
theorem dX11_line_374 : decode cX11_line 374 = .ok (.aload_n 0, 1) := by decide +kernel
theorem dX11_line_375 : decode cX11_line 375 = .ok (.iconst 3, 1) := by decide +kernel
theorem dX11_line_376 : decode cX11_line 376 = .ok (.invokevirtual 174, 3) := by decide +kernel
theorem dX11_line_379 : decode cX11_line 379 = .ok (.ireturn, 1) := by decide +kernel
theorem dX11_line_380 : decode cX11_line 380 = .ok (.aload_n 0, 1) := by decide +kernel
theorem dX11_line_381 : decode cX11_line 381 = .ok (.iconst 1, 1) := by decide +kernel
theorem dX11_line_382 : decode cX11_line 382 = .ok (.putfield 227, 3) := by decide +kernel
theorem dX11_line_385 : decode cX11_line 385 = .ok (.aload_n 0, 1) := by decide +kernel
theorem dX11_line_386 : decode cX11_line 386 = .ok (.invokevirtual 177, 3) := by decide +kernel
theorem dX11_line_389 : decode cX11_line 389 = .ok (.aload_n 0, 1) := by decide +kernel
theorem dX11_line_390 : decode cX11_line 390 = .ok (.iconst 0, 1) := by decide +kernel
theorem dX11_line_391 : decode cX11_line 391 = .ok (.bipush 99, 2) := by decide +kernel
theorem dX11_line_393 : decode cX11_line 393 = .ok (.invokevirtual 195, 3) := by decide +kernel
theorem dX11_line_396 : decode cX11_line 396 = .ok (.ifCond .ne 5, 3) := by decide +kernel
theorem dX11_line_399 : decode cX11_line 399 = .ok (.iconst 0, 1) := by decide +kernel
theorem dX11_line_400 : decode cX11_line 400 = .ok (.ireturn, 1) := by decide +kernel
theorem dX11_line_401 : decode cX11_line 401 = .ok (.aload_n 0, 1) := by decide +kernel
theorem dX11_line_402 : decode cX11_line 402 = .ok (.getfield 37, 3) := by decide +kernel
theorem dX11_line_405 : decode cX11_line 405 = .ok (.iconst 5, 1) := by decide +kernel
theorem dX11_line_406 : decode cX11_line 406 = .ok (.aload_n 0, 1) := by decide +kernel
theorem dX11_line_407 : decode cX11_line 407 = .ok (.getfield 184, 3) := by decide +kernel
theorem dX11_line_410 : decode cX11_line 410 = .ok (.iastore, 1) := by decide +kernel
theorem dX11_line_411 : decode cX11_line 411 = .ok (.aload_n 0, 1) := by decide +kernel
theorem dX11_line_412 : decode cX11_line 412 = .ok (.iconst 0, 1) := by decide +kernel
theorem dX11_line_413 : decode cX11_line 413 = .ok (.sipush 999, 3) := by decide +kernel
theorem dX11_line_416 : decode cX11_line 416 = .ok (.invokevirtual 195, 3) := by decide +kernel
theorem dX11_line_419 : decode cX11_line 419 = .ok (.ifCond .ne 5, 3) := by decide +kernel
theorem dX11_line_422 : decode cX11_line 422 = .ok (.iconst 0, 1) := by decide +kernel
theorem dX11_line_423 : decode cX11_line 423 = .ok (.ireturn, 1) := by decide +kernel
theorem dX11_line_424 : decode cX11_line 424 = .ok (.aload_n 0, 1) := by decide +kernel
theorem dX11_line_425 : decode cX11_line 425 = .ok (.getfield 37, 3) := by decide +kernel
theorem dX11_line_428 : decode cX11_line 428 = .ok (.bipush 6, 2) := by decide +kernel
theorem dX11_line_430 : decode cX11_line 430 = .ok (.aload_n 0, 1) := by decide +kernel
theorem dX11_line_431 : decode cX11_line 431 = .ok (.getfield 184, 3) := by decide +kernel
theorem dX11_line_434 : decode cX11_line 434 = .ok (.iastore, 1) := by decide +kernel
theorem dX11_line_435 : decode cX11_line 435 = .ok (.iconst 1, 1) := by decide +kernel
theorem dX11_line_436 : decode cX11_line 436 = .ok (.ireturn, 1) := by decide +kernel
theorem dX11_takesOwner_0 : decode cX11_takesOwner 0 = .ok (.aload_n 0, 1) := by decide +kernel
theorem dX11_takesOwner_1 : decode cX11_takesOwner 1 = .ok (.invokevirtual 230, 3) := by decide +kernel
theorem dX11_takesOwner_4 : decode cX11_takesOwner 4 = .ok (.ifCond .ne 9, 3) := by decide +kernel
theorem dX11_takesOwner_7 : decode cX11_takesOwner 7 = .ok (.aload_n 0, 1) := by decide +kernel
theorem dX11_takesOwner_8 : decode cX11_takesOwner 8 = .ok (.iconst 1, 1) := by decide +kernel
theorem dX11_takesOwner_9 : decode cX11_takesOwner 9 = .ok (.invokevirtual 174, 3) := by decide +kernel
theorem dX11_takesOwner_12 : decode cX11_takesOwner 12 = .ok (.ireturn, 1) := by decide +kernel
theorem dX11_takesOwner_13 : decode cX11_takesOwner 13 = .ok (.aload_n 0, 1) := by decide +kernel
theorem dX11_takesOwner_14 : decode cX11_takesOwner 14 = .ok (.bipush 8, 2) := by decide +kernel
theorem dX11_takesOwner_16 : decode cX11_takesOwner 16 = .ok (.aload_n 0, 1) := by decide +kernel
theorem dX11_takesOwner_17 : decode cX11_takesOwner 17 = .ok (.getfield 37, 3) := by decide +kernel
theorem dX11_takesOwner_20 : decode cX11_takesOwner 20 = .ok (.iconst 2, 1) := by decide +kernel
theorem dX11_takesOwner_21 : decode cX11_takesOwner 21 = .ok (.iaload, 1) := by decide +kernel
theorem dX11_takesOwner_22 : decode cX11_takesOwner 22 = .ok (.invokevirtual 233, 3) := by decide +kernel
theorem dX11_takesOwner_25 : decode cX11_takesOwner 25 = .ok (.istore_n 2, 1) := by decide +kernel
theorem dX11_takesOwner_26 : decode cX11_takesOwner 26 = .ok (.iload_n 2, 1) := by decide +kernel
theorem dX11_takesOwner_27 : decode cX11_takesOwner 27 = .ok (.ifCond .lt 11, 3) := by decide +kernel
theorem dX11_takesOwner_30 : decode cX11_takesOwner 30 = .ok (.iload_n 1, 1) := by decide +kernel
theorem dX11_takesOwner_31 : decode cX11_takesOwner 31 = .ok (.iload_n 2, 1) := by decide +kernel
theorem dX11_takesOwner_32 : decode cX11_takesOwner 32 = .ok (.invokestatic 237, 3) := by decide +kernel
theorem dX11_takesOwner_35 : decode cX11_takesOwner 35 = .ok (.ifCond .eq 9, 3) := by decide +kernel
theorem dX11_takesOwner_38 : decode cX11_takesOwner 38 = .ok (.aload_n 0, 1) := by decide +kernel
theorem dX11_takesOwner_39 : decode cX11_takesOwner 39 = .ok (.iconst 3, 1) := by decide +kernel
theorem dX11_takesOwner_40 : decode cX11_takesOwner 40 = .ok (.invokevirtual 174, 3) := by decide +kernel
theorem dX11_takesOwner_43 : decode cX11_takesOwner 43 = .ok (.ireturn, 1) := by decide +kernel
theorem dX11_takesOwner_44 : decode cX11_takesOwner 44 = .ok (.aload_n 0, 1) := by decide +kernel
theorem dX11_takesOwner_45 : decode cX11_takesOwner 45 = .ok (.iload_n 2, 1) := by decide +kernel
theorem dX11_takesOwner_46 : decode cX11_takesOwner 46 = .ok (.putfield 184, 3) := by decide +kernel
theorem dX11_takesOwner_49 : decode cX11_takesOwner 49 = .ok (.aload_n 0, 1) := by decide +kernel
theorem dX11_takesOwner_50 : decode cX11_takesOwner 50 = .ok (.invokevirtual 177, 3) := by decide +kernel
theorem dX11_takesOwner_53 : decode cX11_takesOwner 53 = .ok (.iconst 1, 1) := by decide +kernel
theorem dX11_takesOwner_54 : decode cX11_takesOwner 54 = .ok (.ireturn, 1) := by decide +kernel
theorem dX11_looksAtCell_0 : decode cX11_looksAtCell 0 = .ok (.aload_n 0, 1) := by decide +kernel
theorem dX11_looksAtCell_1 : decode cX11_looksAtCell 1 = .ok (.iconst 0, 1) := by decide +kernel
theorem dX11_looksAtCell_2 : decode cX11_looksAtCell 2 = .ok (.aload_n 0, 1) := by decide +kernel
theorem dX11_looksAtCell_3 : decode cX11_looksAtCell 3 = .ok (.getfield 37, 3) := by decide +kernel
theorem dX11_looksAtCell_6 : decode cX11_looksAtCell 6 = .ok (.iconst 0, 1) := by decide +kernel
theorem dX11_looksAtCell_7 : decode cX11_looksAtCell 7 = .ok (.iaload, 1) := by decide +kernel
theorem dX11_looksAtCell_8 : decode cX11_looksAtCell 8 = .ok (.iconst 1, 1) := by decide +kernel
theorem dX11_looksAtCell_9 : decode cX11_looksAtCell 9 = .ok (.isub, 1) := by decide +kernel
theorem dX11_looksAtCell_10 : decode cX11_looksAtCell 10 = .ok (.invokevirtual 195, 3) := by decide +kernel
theorem dX11_looksAtCell_13 : decode cX11_looksAtCell 13 = .ok (.ifCond .ne 5, 3) := by decide +kernel
theorem dX11_looksAtCell_16 : decode cX11_looksAtCell 16 = .ok (.iconst 0, 1) := by decide +kernel
theorem dX11_looksAtCell_17 : decode cX11_looksAtCell 17 = .ok (.ireturn, 1) := by decide +kernel
theorem dX11_looksAtCell_18 : decode cX11_looksAtCell 18 = .ok (.aload_n 0, 1) := by decide +kernel
theorem dX11_looksAtCell_19 : decode cX11_looksAtCell 19 = .ok (.aload_n 0, 1) := by decide +kernel
theorem dX11_looksAtCell_20 : decode cX11_looksAtCell 20 = .ok (.getfield 184, 3) := by decide +kernel
theorem dX11_looksAtCell_23 : decode cX11_looksAtCell 23 = .ok (.putfield 240, 3) := by decide +kernel
theorem dX11_looksAtCell_26 : decode cX11_looksAtCell 26 = .ok (.aload_n 0, 1) := by decide +kernel
theorem dX11_looksAtCell_27 : decode cX11_looksAtCell 27 = .ok (.getfield 148, 3) := by decide +kernel
theorem dX11_looksAtCell_30 : decode cX11_looksAtCell 30 = .ok (.iconst 2, 1) := by decide +kernel
theorem dX11_looksAtCell_31 : decode cX11_looksAtCell 31 = .ok (.if_icmp .eq 9, 3) := by decide +kernel
theorem dX11_looksAtCell_34 : decode cX11_looksAtCell 34 = .ok (.aload_n 0, 1) := by decide +kernel
theorem dX11_looksAtCell_35 : decode cX11_looksAtCell 35 = .ok (.iconst 1, 1) := by decide +kernel
theorem dX11_looksAtCell_36 : decode cX11_looksAtCell 36 = .ok (.invokevirtual 174, 3) := by decide +kernel
theorem dX11_looksAtCell_39 : decode cX11_looksAtCell 39 = .ok (.ireturn, 1) := by decide +kernel
theorem dX11_looksAtCell_40 : decode cX11_looksAtCell 40 = .ok (.aload_n 0, 1) := by decide +kernel
theorem dX11_looksAtCell_41 : decode cX11_looksAtCell 41 = .ok (.getfield 158, 3) := by decide +kernel
theorem dX11_looksAtCell_44 : decode cX11_looksAtCell 44 = .ok (.aload_n 0, 1) := by decide +kernel
theorem dX11_looksAtCell_45 : decode cX11_looksAtCell 45 = .ok (.getfield 37, 3) := by decide +kernel
theorem dX11_looksAtCell_48 : decode cX11_looksAtCell 48 = .ok (.iconst 1, 1) := by decide +kernel
theorem dX11_looksAtCell_49 : decode cX11_looksAtCell 49 = .ok (.iaload, 1) := by decide +kernel
theorem dX11_looksAtCell_50 : decode cX11_looksAtCell 50 = .ok (.if_icmp .lt 9, 3) := by decide +kernel
theorem dX11_looksAtCell_53 : decode cX11_looksAtCell 53 = .ok (.aload_n 0, 1) := by decide +kernel
theorem dX11_looksAtCell_54 : decode cX11_looksAtCell 54 = .ok (.iconst 2, 1) := by decide +kernel
theorem dX11_looksAtCell_55 : decode cX11_looksAtCell 55 = .ok (.invokevirtual 174, 3) := by decide +kernel
theorem dX11_looksAtCell_58 : decode cX11_looksAtCell 58 = .ok (.ireturn, 1) := by decide +kernel
theorem dX11_looksAtCell_59 : decode cX11_looksAtCell 59 = .ok (.aload_n 0, 1) := by decide +kernel
theorem dX11_looksAtCell_60 : decode cX11_looksAtCell 60 = .ok (.bipush 10, 2) := by decide +kernel
theorem dX11_looksAtCell_62 : decode cX11_looksAtCell 62 = .ok (.aload_n 0, 1) := by decide +kernel
theorem dX11_looksAtCell_63 : decode cX11_looksAtCell 63 = .ok (.getfield 158, 3) := by decide +kernel
theorem dX11_looksAtCell_66 : decode cX11_looksAtCell 66 = .ok (.imul, 1) := by decide +kernel
theorem dX11_looksAtCell_67 : decode cX11_looksAtCell 67 = .ok (.aload_n 0, 1) := by decide +kernel
theorem dX11_looksAtCell_68 : decode cX11_looksAtCell 68 = .ok (.getfield 240, 3) := by decide +kernel
theorem dX11_looksAtCell_71 : decode cX11_looksAtCell 71 = .ok (.iadd, 1) := by decide +kernel
theorem dX11_looksAtCell_72 : decode cX11_looksAtCell 72 = .ok (.putfield 184, 3) := by decide +kernel
theorem dX11_looksAtCell_75 : decode cX11_looksAtCell 75 = .ok (.iconst 1, 1) := by decide +kernel
theorem dX11_looksAtCell_76 : decode cX11_looksAtCell 76 = .ok (.ireturn, 1) := by decide +kernel
theorem dX11_takesFree_0 : decode cX11_takesFree 0 = .ok (.aload_n 0, 1) := by decide +kernel
theorem dX11_takesFree_1 : decode cX11_takesFree 1 = .ok (.invokevirtual 243, 3) := by decide +kernel
theorem dX11_takesFree_4 : decode cX11_takesFree 4 = .ok (.ifCond .ne 5, 3) := by decide +kernel
theorem dX11_takesFree_7 : decode cX11_takesFree 7 = .ok (.iconst 0, 1) := by decide +kernel
theorem dX11_takesFree_8 : decode cX11_takesFree 8 = .ok (.ireturn, 1) := by decide +kernel
theorem dX11_takesFree_9 : decode cX11_takesFree 9 = .ok (.aload_n 0, 1) := by decide +kernel
theorem dX11_takesFree_10 : decode cX11_takesFree 10 = .ok (.getfield 37, 3) := by decide +kernel
theorem dX11_takesFree_13 : decode cX11_takesFree 13 = .ok (.sipush 271, 3) := by decide +kernel
theorem dX11_takesFree_16 : decode cX11_takesFree 16 = .ok (.aload_n 0, 1) := by decide +kernel
theorem dX11_takesFree_17 : decode cX11_takesFree 17 = .ok (.getfield 184, 3) := by decide +kernel
theorem dX11_takesFree_20 : decode cX11_takesFree 20 = .ok (.iadd, 1) := by decide +kernel
theorem dX11_takesFree_21 : decode cX11_takesFree 21 = .ok (.iaload, 1) := by decide +kernel
theorem dX11_takesFree_22 : decode cX11_takesFree 22 = .ok (.ifCond .ne 7, 3) := by decide +kernel
theorem dX11_takesFree_25 : decode cX11_takesFree 25 = .ok (.iconst 1, 1) := by decide +kernel
theorem dX11_takesFree_26 : decode cX11_takesFree 26 = .ok (.goto 4, 3) := by decide +kernel
theorem dX11_takesFree_29 : decode cX11_takesFree 29 = .ok (.iconst 0, 1) := by decide +kernel
theorem dX11_takesFree_30 : decode cX11_takesFree 30 = .ok (.istore_n 1, 1) := by decide +kernel
theorem dX11_takesFree_31 : decode cX11_takesFree 31 = .ok (.iconst 0, 1) := by decide +kernel
theorem dX11_takesFree_32 : decode cX11_takesFree 32 = .ok (.istore_n 2, 1) := by decide +kernel
theorem dX11_takesFree_33 : decode cX11_takesFree 33 = .ok (.iload_n 2, 1) := by decide +kernel
theorem dX11_takesFree_34 : decode cX11_takesFree 34 = .ok (.aload_n 0, 1) := by decide +kernel
theorem dX11_takesFree_35 : decode cX11_takesFree 35 = .ok (.getfield 37, 3) := by decide +kernel
theorem dX11_takesFree_38 : decode cX11_takesFree 38 = .ok (.iconst 2, 1) := by decide +kernel
theorem dX11_takesFree_39 : decode cX11_takesFree 39 = .ok (.iaload, 1) := by decide +kernel
theorem dX11_takesFree_40 : decode cX11_takesFree 40 = .ok (.if_icmp .ge 35, 3) := by decide +kernel
theorem dX11_takesFree_43 : decode cX11_takesFree 43 = .ok (.iload_n 1, 1) := by decide +kernel
theorem dX11_takesFree_44 : decode cX11_takesFree 44 = .ok (.ifCond .eq 23, 3) := by decide +kernel
theorem dX11_takesFree_47 : decode cX11_takesFree 47 = .ok (.aload_n 0, 1) := by decide +kernel
theorem dX11_takesFree_48 : decode cX11_takesFree 48 = .ok (.getfield 37, 3) := by decide +kernel
theorem dX11_takesFree_51 : decode cX11_takesFree 51 = .ok (.bipush 7, 2) := by decide +kernel
theorem dX11_takesFree_53 : decode cX11_takesFree 53 = .ok (.iload_n 2, 1) := by decide +kernel
theorem dX11_takesFree_54 : decode cX11_takesFree 54 = .ok (.iadd, 1) := by decide +kernel
theorem dX11_takesFree_55 : decode cX11_takesFree 55 = .ok (.iaload, 1) := by decide +kernel
theorem dX11_takesFree_56 : decode cX11_takesFree 56 = .ok (.aload_n 0, 1) := by decide +kernel
theorem dX11_takesFree_57 : decode cX11_takesFree 57 = .ok (.getfield 184, 3) := by decide +kernel
theorem dX11_takesFree_60 : decode cX11_takesFree 60 = .ok (.if_icmp .eq 7, 3) := by decide +kernel
theorem dX11_takesFree_63 : decode cX11_takesFree 63 = .ok (.iconst 1, 1) := by decide +kernel
theorem dX11_takesFree_64 : decode cX11_takesFree 64 = .ok (.goto 4, 3) := by decide +kernel
theorem dX11_takesFree_67 : decode cX11_takesFree 67 = .ok (.iconst 0, 1) := by decide +kernel
theorem dX11_takesFree_68 : decode cX11_takesFree 68 = .ok (.istore_n 1, 1) := by decide +kernel
theorem dX11_takesFree_69 : decode cX11_takesFree 69 = .ok (.iinc 2 1, 3) := by decide +kernel
theorem dX11_takesFree_72 : decode cX11_takesFree 72 = .ok (.goto (-39), 3) := by decide +kernel
theorem dX11_takesFree_75 : decode cX11_takesFree 75 = .ok (.iconst 0, 1) := by decide +kernel
theorem dX11_takesFree_76 : decode cX11_takesFree 76 = .ok (.istore_n 2, 1) := by decide +kernel
theorem dX11_takesFree_77 : decode cX11_takesFree 77 = .ok (.iload_n 2, 1) := by decide +kernel
theorem dX11_takesFree_78 : decode cX11_takesFree 78 = .ok (.aload_n 0, 1) := by decide +kernel
theorem dX11_takesFree_79 : decode cX11_takesFree 79 = .ok (.getfield 37, 3) := by decide +kernel
theorem dX11_takesFree_82 : decode cX11_takesFree 82 = .ok (.iconst 3, 1) := by decide +kernel
theorem dX11_takesFree_83 : decode cX11_takesFree 83 = .ok (.iaload, 1) := by decide +kernel
theorem dX11_takesFree_84 : decode cX11_takesFree 84 = .ok (.if_icmp .ge 35, 3) := by decide +kernel
theorem dX11_takesFree_87 : decode cX11_takesFree 87 = .ok (.iload_n 1, 1) := by decide +kernel
theorem dX11_takesFree_88 : decode cX11_takesFree 88 = .ok (.ifCond .eq 23, 3) := by decide +kernel
theorem dX11_takesFree_91 : decode cX11_takesFree 91 = .ok (.aload_n 0, 1) := by decide +kernel
theorem dX11_takesFree_92 : decode cX11_takesFree 92 = .ok (.getfield 37, 3) := by decide +kernel
theorem dX11_takesFree_95 : decode cX11_takesFree 95 = .ok (.bipush 63, 2) := by decide +kernel
theorem dX11_takesFree_97 : decode cX11_takesFree 97 = .ok (.iload_n 2, 1) := by decide +kernel
theorem dX11_takesFree_98 : decode cX11_takesFree 98 = .ok (.iadd, 1) := by decide +kernel
theorem dX11_takesFree_99 : decode cX11_takesFree 99 = .ok (.iaload, 1) := by decide +kernel
theorem dX11_takesFree_100 : decode cX11_takesFree 100 = .ok (.aload_n 0, 1) := by decide +kernel
theorem dX11_takesFree_101 : decode cX11_takesFree 101 = .ok (.getfield 184, 3) := by decide +kernel
theorem dX11_takesFree_104 : decode cX11_takesFree 104 = .ok (.if_icmp .eq 7, 3) := by decide +kernel
theorem dX11_takesFree_107 : decode cX11_takesFree 107 = .ok (.iconst 1, 1) := by decide +kernel
theorem dX11_takesFree_108 : decode cX11_takesFree 108 = .ok (.goto 4, 3) := by decide +kernel
theorem dX11_takesFree_111 : decode cX11_takesFree 111 = .ok (.iconst 0, 1) := by decide +kernel
theorem dX11_takesFree_112 : decode cX11_takesFree 112 = .ok (.istore_n 1, 1) := by decide +kernel
theorem dX11_takesFree_113 : decode cX11_takesFree 113 = .ok (.iinc 2 1, 3) := by decide +kernel
theorem dX11_takesFree_116 : decode cX11_takesFree 116 = .ok (.goto (-39), 3) := by decide +kernel
theorem dX11_takesFree_119 : decode cX11_takesFree 119 = .ok (.iload_n 1, 1) := by decide +kernel
theorem dX11_takesFree_120 : decode cX11_takesFree 120 = .ok (.ifCond .ne 9, 3) := by decide +kernel
theorem dX11_takesFree_123 : decode cX11_takesFree 123 = .ok (.aload_n 0, 1) := by decide +kernel
theorem dX11_takesFree_124 : decode cX11_takesFree 124 = .ok (.iconst 3, 1) := by decide +kernel
theorem dX11_takesFree_125 : decode cX11_takesFree 125 = .ok (.invokevirtual 174, 3) := by decide +kernel
theorem dX11_takesFree_128 : decode cX11_takesFree 128 = .ok (.ireturn, 1) := by decide +kernel
theorem dX11_takesFree_129 : decode cX11_takesFree 129 = .ok (.aload_n 0, 1) := by decide +kernel
theorem dX11_takesFree_130 : decode cX11_takesFree 130 = .ok (.invokevirtual 177, 3) := by decide +kernel
theorem dX11_takesFree_133 : decode cX11_takesFree 133 = .ok (.iconst 1, 1) := by decide +kernel
theorem dX11_takesFree_134 : decode cX11_takesFree 134 = .ok (.ireturn, 1) := by decide +kernel
theorem dX11_readOwner_0 : decode cX11_readOwner 0 = .ok (.aload_n 0, 1) := by decide +kernel
theorem dX11_readOwner_1 : decode cX11_readOwner 1 = .ok (.getfield 37, 3) := by decide +kernel
theorem dX11_readOwner_4 : decode cX11_readOwner 4 = .ok (.iconst 2, 1) := by decide +kernel
theorem dX11_readOwner_5 : decode cX11_readOwner 5 = .ok (.iaload, 1) := by decide +kernel
theorem dX11_readOwner_6 : decode cX11_readOwner 6 = .ok (.istore_n 1, 1) := by decide +kernel
theorem dX11_readOwner_7 : decode cX11_readOwner 7 = .ok (.iload_n 1, 1) := by decide +kernel
theorem dX11_readOwner_8 : decode cX11_readOwner 8 = .ok (.bipush 8, 2) := by decide +kernel
theorem dX11_readOwner_10 : decode cX11_readOwner 10 = .ok (.if_icmp .ne 9, 3) := by decide +kernel
theorem dX11_readOwner_13 : decode cX11_readOwner 13 = .ok (.aload_n 0, 1) := by decide +kernel
theorem dX11_readOwner_14 : decode cX11_readOwner 14 = .ok (.iconst 4, 1) := by decide +kernel
theorem dX11_readOwner_15 : decode cX11_readOwner 15 = .ok (.invokevirtual 174, 3) := by decide +kernel
theorem dX11_readOwner_18 : decode cX11_readOwner 18 = .ok (.ireturn, 1) := by decide +kernel
theorem dX11_readOwner_19 : decode cX11_readOwner 19 = .ok (.aload_n 0, 1) := by decide +kernel
theorem dX11_readOwner_20 : decode cX11_readOwner 20 = .ok (.invokevirtual 177, 3) := by decide +kernel
theorem dX11_readOwner_23 : decode cX11_readOwner 23 = .ok (.aload_n 0, 1) := by decide +kernel
theorem dX11_readOwner_24 : decode cX11_readOwner 24 = .ok (.invokevirtual 230, 3) := by decide +kernel
theorem dX11_readOwner_27 : decode cX11_readOwner 27 = .ok (.ifCond .ne 9, 3) := by decide +kernel
theorem dX11_readOwner_30 : decode cX11_readOwner 30 = .ok (.aload_n 0, 1) := by decide +kernel
theorem dX11_readOwner_31 : decode cX11_readOwner 31 = .ok (.iconst 1, 1) := by decide +kernel
theorem dX11_readOwner_32 : decode cX11_readOwner 32 = .ok (.invokevirtual 174, 3) := by decide +kernel
theorem dX11_readOwner_35 : decode cX11_readOwner 35 = .ok (.ireturn, 1) := by decide +kernel
theorem dX11_readOwner_36 : decode cX11_readOwner 36 = .ok (.aload_n 0, 1) := by decide +kernel
theorem dX11_readOwner_37 : decode cX11_readOwner 37 = .ok (.bipush 8, 2) := by decide +kernel
theorem dX11_readOwner_39 : decode cX11_readOwner 39 = .ok (.iload_n 1, 1) := by decide +kernel
theorem dX11_readOwner_40 : decode cX11_readOwner 40 = .ok (.invokevirtual 233, 3) := by decide +kernel
theorem dX11_readOwner_43 : decode cX11_readOwner 43 = .ok (.ifCond .lt 9, 3) := by decide +kernel
theorem dX11_readOwner_46 : decode cX11_readOwner 46 = .ok (.aload_n 0, 1) := by decide +kernel
theorem dX11_readOwner_47 : decode cX11_readOwner 47 = .ok (.iconst 3, 1) := by decide +kernel
theorem dX11_readOwner_48 : decode cX11_readOwner 48 = .ok (.invokevirtual 174, 3) := by decide +kernel
theorem dX11_readOwner_51 : decode cX11_readOwner 51 = .ok (.ireturn, 1) := by decide +kernel
theorem dX11_readOwner_52 : decode cX11_readOwner 52 = .ok (.aload_n 0, 1) := by decide +kernel
theorem dX11_readOwner_53 : decode cX11_readOwner 53 = .ok (.getfield 43, 3) := by decide +kernel
theorem dX11_readOwner_56 : decode cX11_readOwner 56 = .ok (.bipush 8, 2) := by decide +kernel
theorem dX11_readOwner_58 : decode cX11_readOwner 58 = .ok (.iload_n 1, 1) := by decide +kernel
theorem dX11_readOwner_59 : decode cX11_readOwner 59 = .ok (.iadd, 1) := by decide +kernel
theorem dX11_readOwner_60 : decode cX11_readOwner 60 = .ok (.aload_n 0, 1) := by decide +kernel
theorem dX11_readOwner_61 : decode cX11_readOwner 61 = .ok (.getfield 161, 3) := by decide +kernel
theorem dX11_readOwner_64 : decode cX11_readOwner 64 = .ok (.lastore, 1) := by decide +kernel
theorem dX11_readOwner_65 : decode cX11_readOwner 65 = .ok (.aload_n 0, 1) := by decide +kernel
theorem dX11_readOwner_66 : decode cX11_readOwner 66 = .ok (.invokevirtual 177, 3) := by decide +kernel
theorem dX11_readOwner_69 : decode cX11_readOwner 69 = .ok (.aload_n 0, 1) := by decide +kernel
theorem dX11_readOwner_70 : decode cX11_readOwner 70 = .ok (.invokevirtual 209, 3) := by decide +kernel
theorem dX11_readOwner_73 : decode cX11_readOwner 73 = .ok (.ifCond .ne 5, 3) := by decide +kernel
theorem dX11_readOwner_76 : decode cX11_readOwner 76 = .ok (.iconst 0, 1) := by decide +kernel
theorem dX11_readOwner_77 : decode cX11_readOwner 77 = .ok (.ireturn, 1) := by decide +kernel
theorem dX11_readOwner_78 : decode cX11_readOwner 78 = .ok (.aload_n 0, 1) := by decide +kernel
theorem dX11_readOwner_79 : decode cX11_readOwner 79 = .ok (.getfield 37, 3) := by decide +kernel
theorem dX11_readOwner_82 : decode cX11_readOwner 82 = .ok (.bipush 7, 2) := by decide +kernel
theorem dX11_readOwner_84 : decode cX11_readOwner 84 = .ok (.iload_n 1, 1) := by decide +kernel
theorem dX11_readOwner_85 : decode cX11_readOwner 85 = .ok (.iadd, 1) := by decide +kernel
theorem dX11_readOwner_86 : decode cX11_readOwner 86 = .ok (.aload_n 0, 1) := by decide +kernel
theorem dX11_readOwner_87 : decode cX11_readOwner 87 = .ok (.getfield 184, 3) := by decide +kernel
theorem dX11_readOwner_90 : decode cX11_readOwner 90 = .ok (.iastore, 1) := by decide +kernel
theorem dX11_readOwner_91 : decode cX11_readOwner 91 = .ok (.aload_n 0, 1) := by decide +kernel
theorem dX11_readOwner_92 : decode cX11_readOwner 92 = .ok (.iconst 0, 1) := by decide +kernel
theorem dX11_readOwner_93 : decode cX11_readOwner 93 = .ok (.sipush 999, 3) := by decide +kernel
theorem dX11_readOwner_96 : decode cX11_readOwner 96 = .ok (.invokevirtual 195, 3) := by decide +kernel
theorem dX11_readOwner_99 : decode cX11_readOwner 99 = .ok (.ifCond .ne 5, 3) := by decide +kernel
theorem dX11_readOwner_102 : decode cX11_readOwner 102 = .ok (.iconst 0, 1) := by decide +kernel
theorem dX11_readOwner_103 : decode cX11_readOwner 103 = .ok (.ireturn, 1) := by decide +kernel
theorem dX11_readOwner_104 : decode cX11_readOwner 104 = .ok (.aload_n 0, 1) := by decide +kernel
theorem dX11_readOwner_105 : decode cX11_readOwner 105 = .ok (.getfield 37, 3) := by decide +kernel
theorem dX11_readOwner_108 : decode cX11_readOwner 108 = .ok (.bipush 15, 2) := by decide +kernel
theorem dX11_readOwner_110 : decode cX11_readOwner 110 = .ok (.iload_n 1, 1) := by decide +kernel
theorem dX11_readOwner_111 : decode cX11_readOwner 111 = .ok (.iadd, 1) := by decide +kernel
theorem dX11_readOwner_112 : decode cX11_readOwner 112 = .ok (.aload_n 0, 1) := by decide +kernel
theorem dX11_readOwner_113 : decode cX11_readOwner 113 = .ok (.getfield 184, 3) := by decide +kernel
theorem dX11_readOwner_116 : decode cX11_readOwner 116 = .ok (.iastore, 1) := by decide +kernel
theorem dX11_readOwner_117 : decode cX11_readOwner 117 = .ok (.aload_n 0, 1) := by decide +kernel
theorem dX11_readOwner_118 : decode cX11_readOwner 118 = .ok (.iconst 1, 1) := by decide +kernel
theorem dX11_readOwner_119 : decode cX11_readOwner 119 = .ok (.bipush 99, 2) := by decide +kernel
theorem dX11_readOwner_121 : decode cX11_readOwner 121 = .ok (.invokevirtual 195, 3) := by decide +kernel
theorem dX11_readOwner_124 : decode cX11_readOwner 124 = .ok (.ifCond .ne 5, 3) := by decide +kernel
theorem dX11_readOwner_127 : decode cX11_readOwner 127 = .ok (.iconst 0, 1) := by decide +kernel
theorem dX11_readOwner_128 : decode cX11_readOwner 128 = .ok (.ireturn, 1) := by decide +kernel
theorem dX11_readOwner_129 : decode cX11_readOwner 129 = .ok (.aload_n 0, 1) := by decide +kernel
theorem dX11_readOwner_130 : decode cX11_readOwner 130 = .ok (.getfield 37, 3) := by decide +kernel
theorem dX11_readOwner_133 : decode cX11_readOwner 133 = .ok (.bipush 23, 2) := by decide +kernel
theorem dX11_readOwner_135 : decode cX11_readOwner 135 = .ok (.iload_n 1, 1) := by decide +kernel
theorem dX11_readOwner_136 : decode cX11_readOwner 136 = .ok (.iadd, 1) := by decide +kernel
theorem dX11_readOwner_137 : decode cX11_readOwner 137 = .ok (.aload_n 0, 1) := by decide +kernel
theorem dX11_readOwner_138 : decode cX11_readOwner 138 = .ok (.getfield 184, 3) := by decide +kernel
theorem dX11_readOwner_141 : decode cX11_readOwner 141 = .ok (.iastore, 1) := by decide +kernel
theorem dX11_readOwner_142 : decode cX11_readOwner 142 = .ok (.aload_n 0, 1) := by decide +kernel
theorem dX11_readOwner_143 : decode cX11_readOwner 143 = .ok (.iconst 0, 1) := by decide +kernel
theorem dX11_readOwner_144 : decode cX11_readOwner 144 = .ok (.bipush 9, 2) := by decide +kernel
theorem dX11_readOwner_146 : decode cX11_readOwner 146 = .ok (.invokevirtual 195, 3) := by decide +kernel
theorem dX11_readOwner_149 : decode cX11_readOwner 149 = .ok (.ifCond .ne 5, 3) := by decide +kernel
theorem dX11_readOwner_152 : decode cX11_readOwner 152 = .ok (.iconst 0, 1) := by decide +kernel
theorem dX11_readOwner_153 : decode cX11_readOwner 153 = .ok (.ireturn, 1) := by decide +kernel
theorem dX11_readOwner_154 : decode cX11_readOwner 154 = .ok (.aload_n 0, 1) := by decide +kernel
theorem dX11_readOwner_155 : decode cX11_readOwner 155 = .ok (.getfield 37, 3) := by decide +kernel
theorem dX11_readOwner_158 : decode cX11_readOwner 158 = .ok (.bipush 31, 2) := by decide +kernel
theorem dX11_readOwner_160 : decode cX11_readOwner 160 = .ok (.iload_n 1, 1) := by decide +kernel
theorem dX11_readOwner_161 : decode cX11_readOwner 161 = .ok (.iadd, 1) := by decide +kernel
theorem dX11_readOwner_162 : decode cX11_readOwner 162 = .ok (.aload_n 0, 1) := by decide +kernel
theorem dX11_readOwner_163 : decode cX11_readOwner 163 = .ok (.getfield 184, 3) := by decide +kernel
theorem dX11_readOwner_166 : decode cX11_readOwner 166 = .ok (.iastore, 1) := by decide +kernel
theorem dX11_readOwner_167 : decode cX11_readOwner 167 = .ok (.aload_n 0, 1) := by decide +kernel
theorem dX11_readOwner_168 : decode cX11_readOwner 168 = .ok (.getfield 37, 3) := by decide +kernel
theorem dX11_readOwner_171 : decode cX11_readOwner 171 = .ok (.iconst 2, 1) := by decide +kernel
theorem dX11_readOwner_172 : decode cX11_readOwner 172 = .ok (.dup2, 1) := by decide +kernel
theorem dX11_readOwner_173 : decode cX11_readOwner 173 = .ok (.iaload, 1) := by decide +kernel
theorem dX11_readOwner_174 : decode cX11_readOwner 174 = .ok (.iconst 1, 1) := by decide +kernel
theorem dX11_readOwner_175 : decode cX11_readOwner 175 = .ok (.iadd, 1) := by decide +kernel
theorem dX11_readOwner_176 : decode cX11_readOwner 176 = .ok (.iastore, 1) := by decide +kernel
theorem dX11_readOwner_177 : decode cX11_readOwner 177 = .ok (.iconst 1, 1) := by decide +kernel
theorem dX11_readOwner_178 : decode cX11_readOwner 178 = .ok (.ireturn, 1) := by decide +kernel
theorem dX11_readEddy_0 : decode cX11_readEddy 0 = .ok (.aload_n 0, 1) := by decide +kernel
theorem dX11_readEddy_1 : decode cX11_readEddy 1 = .ok (.getfield 246, 3) := by decide +kernel
theorem dX11_readEddy_4 : decode cX11_readEddy 4 = .ok (.bipush 8, 2) := by decide +kernel
theorem dX11_readEddy_6 : decode cX11_readEddy 6 = .ok (.if_icmp .ne 9, 3) := by decide +kernel
theorem dX11_readEddy_9 : decode cX11_readEddy 9 = .ok (.aload_n 0, 1) := by decide +kernel
theorem dX11_readEddy_10 : decode cX11_readEddy 10 = .ok (.iconst 4, 1) := by decide +kernel
theorem dX11_readEddy_11 : decode cX11_readEddy 11 = .ok (.invokevirtual 174, 3) := by decide +kernel
theorem dX11_readEddy_14 : decode cX11_readEddy 14 = .ok (.ireturn, 1) := by decide +kernel
theorem dX11_readEddy_15 : decode cX11_readEddy 15 = .ok (.aload_n 0, 1) := by decide +kernel
theorem dX11_readEddy_16 : decode cX11_readEddy 16 = .ok (.dup, 1) := by decide +kernel
theorem dX11_readEddy_17 : decode cX11_readEddy 17 = .ok (.getfield 246, 3) := by decide +kernel
theorem dX11_readEddy_20 : decode cX11_readEddy 20 = .ok (.iconst 1, 1) := by decide +kernel
theorem dX11_readEddy_21 : decode cX11_readEddy 21 = .ok (.iadd, 1) := by decide +kernel
theorem dX11_readEddy_22 : decode cX11_readEddy 22 = .ok (.putfield 246, 3) := by decide +kernel
theorem dX11_readEddy_25 : decode cX11_readEddy 25 = .ok (.aload_n 0, 1) := by decide +kernel
theorem dX11_readEddy_26 : decode cX11_readEddy 26 = .ok (.invokevirtual 177, 3) := by decide +kernel
theorem dX11_readEddy_29 : decode cX11_readEddy 29 = .ok (.aload_n 0, 1) := by decide +kernel
theorem dX11_readEddy_30 : decode cX11_readEddy 30 = .ok (.invokevirtual 243, 3) := by decide +kernel
theorem dX11_readEddy_33 : decode cX11_readEddy 33 = .ok (.ifCond .ne 5, 3) := by decide +kernel
theorem dX11_readEddy_36 : decode cX11_readEddy 36 = .ok (.iconst 0, 1) := by decide +kernel
theorem dX11_readEddy_37 : decode cX11_readEddy 37 = .ok (.ireturn, 1) := by decide +kernel
theorem dX11_readEddy_38 : decode cX11_readEddy 38 = .ok (.aload_n 0, 1) := by decide +kernel
theorem dX11_readEddy_39 : decode cX11_readEddy 39 = .ok (.getfield 184, 3) := by decide +kernel
theorem dX11_readEddy_42 : decode cX11_readEddy 42 = .ok (.istore_n 1, 1) := by decide +kernel
theorem dX11_readEddy_43 : decode cX11_readEddy 43 = .ok (.aload_n 0, 1) := by decide +kernel
theorem dX11_readEddy_44 : decode cX11_readEddy 44 = .ok (.getfield 37, 3) := by decide +kernel
theorem dX11_readEddy_47 : decode cX11_readEddy 47 = .ok (.bipush 75, 2) := by decide +kernel
theorem dX11_readEddy_49 : decode cX11_readEddy 49 = .ok (.iload_n 1, 1) := by decide +kernel
theorem dX11_readEddy_50 : decode cX11_readEddy 50 = .ok (.iadd, 1) := by decide +kernel
theorem dX11_readEddy_51 : decode cX11_readEddy 51 = .ok (.iaload, 1) := by decide +kernel
theorem dX11_readEddy_52 : decode cX11_readEddy 52 = .ok (.ifCond .le 9, 3) := by decide +kernel
theorem dX11_readEddy_55 : decode cX11_readEddy 55 = .ok (.aload_n 0, 1) := by decide +kernel
theorem dX11_readEddy_56 : decode cX11_readEddy 56 = .ok (.iconst 3, 1) := by decide +kernel
theorem dX11_readEddy_57 : decode cX11_readEddy 57 = .ok (.invokevirtual 174, 3) := by decide +kernel
theorem dX11_readEddy_60 : decode cX11_readEddy 60 = .ok (.ireturn, 1) := by decide +kernel
theorem dX11_readEddy_61 : decode cX11_readEddy 61 = .ok (.aload_n 0, 1) := by decide +kernel
theorem dX11_readEddy_62 : decode cX11_readEddy 62 = .ok (.invokevirtual 177, 3) := by decide +kernel
theorem dX11_readEddy_65 : decode cX11_readEddy 65 = .ok (.aload_n 0, 1) := by decide +kernel
theorem dX11_readEddy_66 : decode cX11_readEddy 66 = .ok (.iconst 1, 1) := by decide +kernel
theorem dX11_readEddy_67 : decode cX11_readEddy 67 = .ok (.bipush 7, 2) := by decide +kernel
theorem dX11_readEddy_69 : decode cX11_readEddy 69 = .ok (.invokevirtual 195, 3) := by decide +kernel
theorem dX11_readEddy_72 : decode cX11_readEddy 72 = .ok (.ifCond .ne 5, 3) := by decide +kernel
theorem dX11_readEddy_75 : decode cX11_readEddy 75 = .ok (.iconst 0, 1) := by decide +kernel
theorem dX11_readEddy_76 : decode cX11_readEddy 76 = .ok (.ireturn, 1) := by decide +kernel
theorem dX11_readEddy_77 : decode cX11_readEddy 77 = .ok (.aload_n 0, 1) := by decide +kernel
theorem dX11_readEddy_78 : decode cX11_readEddy 78 = .ok (.getfield 37, 3) := by decide +kernel
theorem dX11_readEddy_81 : decode cX11_readEddy 81 = .ok (.bipush 75, 2) := by decide +kernel
theorem dX11_readEddy_83 : decode cX11_readEddy 83 = .ok (.iload_n 1, 1) := by decide +kernel
theorem dX11_readEddy_84 : decode cX11_readEddy 84 = .ok (.iadd, 1) := by decide +kernel
theorem dX11_readEddy_85 : decode cX11_readEddy 85 = .ok (.aload_n 0, 1) := by decide +kernel
theorem dX11_readEddy_86 : decode cX11_readEddy 86 = .ok (.getfield 184, 3) := by decide +kernel
theorem dX11_readEddy_89 : decode cX11_readEddy 89 = .ok (.iastore, 1) := by decide +kernel
theorem dX11_readEddy_90 : decode cX11_readEddy 90 = .ok (.iconst 1, 1) := by decide +kernel
theorem dX11_readEddy_91 : decode cX11_readEddy 91 = .ok (.ireturn, 1) := by decide +kernel
theorem dX11_readGust_0 : decode cX11_readGust 0 = .ok (.aload_n 0, 1) := by decide +kernel
theorem dX11_readGust_1 : decode cX11_readGust 1 = .ok (.getfield 37, 3) := by decide +kernel
