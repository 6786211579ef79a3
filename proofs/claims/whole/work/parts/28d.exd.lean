def mt_X10_cell : MT := (yX10_cell, cX10_cell, 4, (some .int))
theorem dX10_cell_0 : decode cX10_cell 0 = .ok (.aload_n 0, 1) := by decide +kernel
theorem dX10_cell_1 : decode cX10_cell 1 = .ok (.getfield 30, 3) := by decide +kernel
theorem dX10_cell_4 : decode cX10_cell 4 = .ok (.getfield 124, 3) := by decide +kernel
theorem dX10_cell_7 : decode cX10_cell 7 = .ok (.iload_n 1, 1) := by decide +kernel
theorem dX10_cell_8 : decode cX10_cell 8 = .ok (.invokevirtual 158, 3) := by decide +kernel
theorem dX10_cell_11 : decode cX10_cell 11 = .ok (.ifCond .eq 12, 3) := by decide +kernel
theorem dX10_cell_14 : decode cX10_cell 14 = .ok (.iload_n 2, 1) := by decide +kernel
theorem dX10_cell_15 : decode cX10_cell 15 = .ok (.ifCond .lt 8, 3) := by decide +kernel
theorem dX10_cell_18 : decode cX10_cell 18 = .ok (.iload_n 2, 1) := by decide +kernel
theorem dX10_cell_19 : decode cX10_cell 19 = .ok (.iconst 2, 1) := by decide +kernel
theorem dX10_cell_20 : decode cX10_cell 20 = .ok (.if_icmp .le 11, 3) := by decide +kernel
theorem dX10_cell_23 : decode cX10_cell 23 = .ok (.new 162, 3) := by decide +kernel
theorem dX10_cell_26 : decode cX10_cell 26 = .ok (.dup, 1) := by decide +kernel
theorem dX10_cell_27 : decode cX10_cell 27 = .ok (.invokespecial 164, 3) := by decide +kernel
theorem dX10_cell_30 : decode cX10_cell 30 = .ok (.athrow, 1) := by decide +kernel
theorem dX10_cell_31 : decode cX10_cell 31 = .ok (.aload_n 0, 1) := by decide +kernel
theorem dX10_cell_32 : decode cX10_cell 32 = .ok (.getfield 30, 3) := by decide +kernel
theorem dX10_cell_35 : decode cX10_cell 35 = .ok (.getfield 127, 3) := by decide +kernel
theorem dX10_cell_38 : decode cX10_cell 38 = .ok (.getfield 165, 3) := by decide +kernel
theorem dX10_cell_41 : decode cX10_cell 41 = .ok (.iload_n 1, 1) := by decide +kernel
theorem dX10_cell_42 : decode cX10_cell 42 = .ok (.iaload, 1) := by decide +kernel
theorem dX10_cell_43 : decode cX10_cell 43 = .ok (.istore_n 3, 1) := by decide +kernel
theorem dX10_cell_44 : decode cX10_cell 44 = .ok (.iload_n 2, 1) := by decide +kernel
theorem dX10_cell_45 : decode cX10_cell 45 = .ok (.lookupswitch 50 #[(0, 27), (1, 31)], 27) := by decide +kernel
theorem dX10_cell_72 : decode cX10_cell 72 = .ok (.iload_n 3, 1) := by decide +kernel
theorem dX10_cell_73 : decode cX10_cell 73 = .ok (.iconst 4, 1) := by decide +kernel
theorem dX10_cell_74 : decode cX10_cell 74 = .ok (.ishr, 1) := by decide +kernel
theorem dX10_cell_75 : decode cX10_cell 75 = .ok (.ireturn, 1) := by decide +kernel
theorem dX10_cell_76 : decode cX10_cell 76 = .ok (.iload_n 3, 1) := by decide +kernel
theorem dX10_cell_77 : decode cX10_cell 77 = .ok (.ifCond .eq 9, 3) := by decide +kernel
theorem dX10_cell_80 : decode cX10_cell 80 = .ok (.iload_n 3, 1) := by decide +kernel
theorem dX10_cell_81 : decode cX10_cell 81 = .ok (.bipush 48, 2) := by decide +kernel
theorem dX10_cell_83 : decode cX10_cell 83 = .ok (.if_icmp .ne 7, 3) := by decide +kernel
theorem dX10_cell_86 : decode cX10_cell 86 = .ok (.iconst (-1), 1) := by decide +kernel
theorem dX10_cell_87 : decode cX10_cell 87 = .ok (.goto 7, 3) := by decide +kernel
theorem dX10_cell_90 : decode cX10_cell 90 = .ok (.iload_n 3, 1) := by decide +kernel
theorem dX10_cell_91 : decode cX10_cell 91 = .ok (.bipush 15, 2) := by decide +kernel
theorem dX10_cell_93 : decode cX10_cell 93 = .ok (.iand, 1) := by decide +kernel
theorem dX10_cell_94 : decode cX10_cell 94 = .ok (.ireturn, 1) := by decide +kernel
theorem dX10_cell_95 : decode cX10_cell 95 = .ok (.aload_n 0, 1) := by decide +kernel
theorem dX10_cell_96 : decode cX10_cell 96 = .ok (.getfield 30, 3) := by decide +kernel
theorem dX10_cell_99 : decode cX10_cell 99 = .ok (.getfield 124, 3) := by decide +kernel
theorem dX10_cell_102 : decode cX10_cell 102 = .ok (.getfield 168, 3) := by decide +kernel
theorem dX10_cell_105 : decode cX10_cell 105 = .ok (.iload_n 1, 1) := by decide +kernel
theorem dX10_cell_106 : decode cX10_cell 106 = .ok (.iaload, 1) := by decide +kernel
theorem dX10_cell_107 : decode cX10_cell 107 = .ok (.ireturn, 1) := by decide +kernel
def mt_X10_owner : MT := (yX10_owner, cX10_owner, 5, (some .int))
theorem dX10_owner_0 : decode cX10_owner 0 = .ok (.aload_n 0, 1) := by decide +kernel
theorem dX10_owner_1 : decode cX10_owner 1 = .ok (.getfield 30, 3) := by decide +kernel
theorem dX10_owner_4 : decode cX10_owner 4 = .ok (.getfield 124, 3) := by decide +kernel
theorem dX10_owner_7 : decode cX10_owner 7 = .ok (.iload_n 1, 1) := by decide +kernel
theorem dX10_owner_8 : decode cX10_owner 8 = .ok (.invokevirtual 171, 3) := by decide +kernel
theorem dX10_owner_11 : decode cX10_owner 11 = .ok (.ifCond .eq 13, 3) := by decide +kernel
theorem dX10_owner_14 : decode cX10_owner 14 = .ok (.iload_n 2, 1) := by decide +kernel
theorem dX10_owner_15 : decode cX10_owner 15 = .ok (.ifCond .lt 9, 3) := by decide +kernel
theorem dX10_owner_18 : decode cX10_owner 18 = .ok (.iload_n 2, 1) := by decide +kernel
theorem dX10_owner_19 : decode cX10_owner 19 = .ok (.bipush 10, 2) := by decide +kernel
theorem dX10_owner_21 : decode cX10_owner 21 = .ok (.if_icmp .le 11, 3) := by decide +kernel
theorem dX10_owner_24 : decode cX10_owner 24 = .ok (.new 162, 3) := by decide +kernel
theorem dX10_owner_27 : decode cX10_owner 27 = .ok (.dup, 1) := by decide +kernel
theorem dX10_owner_28 : decode cX10_owner 28 = .ok (.invokespecial 164, 3) := by decide +kernel
theorem dX10_owner_31 : decode cX10_owner 31 = .ok (.athrow, 1) := by decide +kernel
theorem dX10_owner_32 : decode cX10_owner 32 = .ok (.aload_n 0, 1) := by decide +kernel
theorem dX10_owner_33 : decode cX10_owner 33 = .ok (.getfield 30, 3) := by decide +kernel
theorem dX10_owner_36 : decode cX10_owner 36 = .ok (.getfield 124, 3) := by decide +kernel
theorem dX10_owner_39 : decode cX10_owner 39 = .ok (.getfield 174, 3) := by decide +kernel
theorem dX10_owner_42 : decode cX10_owner 42 = .ok (.astore_n 3, 1) := by decide +kernel
theorem dX10_owner_43 : decode cX10_owner 43 = .ok (.aload_n 0, 1) := by decide +kernel
theorem dX10_owner_44 : decode cX10_owner 44 = .ok (.getfield 30, 3) := by decide +kernel
theorem dX10_owner_47 : decode cX10_owner 47 = .ok (.getfield 127, 3) := by decide +kernel
theorem dX10_owner_50 : decode cX10_owner 50 = .ok (.astore 4, 2) := by decide +kernel
theorem dX10_owner_52 : decode cX10_owner 52 = .ok (.iload_n 2, 1) := by decide +kernel
theorem dX10_owner_53 : decode cX10_owner 53 = .ok (.tableswitch 131 0 9 #[55, 62, 70, 78, 85, 93, 101, 109, 116, 123], 55) := by decide +kernel
theorem dX10_owner_108 : decode cX10_owner 108 = .ok (.aload_n 3, 1) := by decide +kernel
theorem dX10_owner_109 : decode cX10_owner 109 = .ok (.getfield 178, 3) := by decide +kernel
theorem dX10_owner_112 : decode cX10_owner 112 = .ok (.iload_n 1, 1) := by decide +kernel
theorem dX10_owner_113 : decode cX10_owner 113 = .ok (.iaload, 1) := by decide +kernel
theorem dX10_owner_114 : decode cX10_owner 114 = .ok (.ireturn, 1) := by decide +kernel
theorem dX10_owner_115 : decode cX10_owner 115 = .ok (.aload 4, 2) := by decide +kernel
theorem dX10_owner_117 : decode cX10_owner 117 = .ok (.getfield 183, 3) := by decide +kernel
theorem dX10_owner_120 : decode cX10_owner 120 = .ok (.iload_n 1, 1) := by decide +kernel
theorem dX10_owner_121 : decode cX10_owner 121 = .ok (.iaload, 1) := by decide +kernel
theorem dX10_owner_122 : decode cX10_owner 122 = .ok (.ireturn, 1) := by decide +kernel
theorem dX10_owner_123 : decode cX10_owner 123 = .ok (.aload 4, 2) := by decide +kernel
theorem dX10_owner_125 : decode cX10_owner 125 = .ok (.getfield 186, 3) := by decide +kernel
theorem dX10_owner_128 : decode cX10_owner 128 = .ok (.iload_n 1, 1) := by decide +kernel
theorem dX10_owner_129 : decode cX10_owner 129 = .ok (.iaload, 1) := by decide +kernel
theorem dX10_owner_130 : decode cX10_owner 130 = .ok (.ireturn, 1) := by decide +kernel
theorem dX10_owner_131 : decode cX10_owner 131 = .ok (.aload_n 3, 1) := by decide +kernel
theorem dX10_owner_132 : decode cX10_owner 132 = .ok (.getfield 189, 3) := by decide +kernel
theorem dX10_owner_135 : decode cX10_owner 135 = .ok (.iload_n 1, 1) := by decide +kernel
theorem dX10_owner_136 : decode cX10_owner 136 = .ok (.iaload, 1) := by decide +kernel
theorem dX10_owner_137 : decode cX10_owner 137 = .ok (.ireturn, 1) := by decide +kernel
theorem dX10_owner_138 : decode cX10_owner 138 = .ok (.aload 4, 2) := by decide +kernel
theorem dX10_owner_140 : decode cX10_owner 140 = .ok (.getfield 192, 3) := by decide +kernel
theorem dX10_owner_143 : decode cX10_owner 143 = .ok (.iload_n 1, 1) := by decide +kernel
theorem dX10_owner_144 : decode cX10_owner 144 = .ok (.iaload, 1) := by decide +kernel
theorem dX10_owner_145 : decode cX10_owner 145 = .ok (.ireturn, 1) := by decide +kernel
theorem dX10_owner_146 : decode cX10_owner 146 = .ok (.aload 4, 2) := by decide +kernel
theorem dX10_owner_148 : decode cX10_owner 148 = .ok (.getfield 195, 3) := by decide +kernel
theorem dX10_owner_151 : decode cX10_owner 151 = .ok (.iload_n 1, 1) := by decide +kernel
theorem dX10_owner_152 : decode cX10_owner 152 = .ok (.iaload, 1) := by decide +kernel
theorem dX10_owner_153 : decode cX10_owner 153 = .ok (.ireturn, 1) := by decide +kernel
theorem dX10_owner_154 : decode cX10_owner 154 = .ok (.aload 4, 2) := by decide +kernel
theorem dX10_owner_156 : decode cX10_owner 156 = .ok (.getfield 198, 3) := by decide +kernel
theorem dX10_owner_159 : decode cX10_owner 159 = .ok (.iload_n 1, 1) := by decide +kernel
theorem dX10_owner_160 : decode cX10_owner 160 = .ok (.iaload, 1) := by decide +kernel
theorem dX10_owner_161 : decode cX10_owner 161 = .ok (.ireturn, 1) := by decide +kernel
theorem dX10_owner_162 : decode cX10_owner 162 = .ok (.aload_n 3, 1) := by decide +kernel
theorem dX10_owner_163 : decode cX10_owner 163 = .ok (.getfield 201, 3) := by decide +kernel
theorem dX10_owner_166 : decode cX10_owner 166 = .ok (.iload_n 1, 1) := by decide +kernel
theorem dX10_owner_167 : decode cX10_owner 167 = .ok (.iaload, 1) := by decide +kernel
theorem dX10_owner_168 : decode cX10_owner 168 = .ok (.ireturn, 1) := by decide +kernel
theorem dX10_owner_169 : decode cX10_owner 169 = .ok (.aload_n 3, 1) := by decide +kernel
theorem dX10_owner_170 : decode cX10_owner 170 = .ok (.getfield 204, 3) := by decide +kernel
theorem dX10_owner_173 : decode cX10_owner 173 = .ok (.iload_n 1, 1) := by decide +kernel
theorem dX10_owner_174 : decode cX10_owner 174 = .ok (.iaload, 1) := by decide +kernel
theorem dX10_owner_175 : decode cX10_owner 175 = .ok (.ireturn, 1) := by decide +kernel
theorem dX10_owner_176 : decode cX10_owner 176 = .ok (.aload 4, 2) := by decide +kernel
theorem dX10_owner_178 : decode cX10_owner 178 = .ok (.getfield 207, 3) := by decide +kernel
theorem dX10_owner_181 : decode cX10_owner 181 = .ok (.iload_n 1, 1) := by decide +kernel
theorem dX10_owner_182 : decode cX10_owner 182 = .ok (.iaload, 1) := by decide +kernel
theorem dX10_owner_183 : decode cX10_owner 183 = .ok (.ireturn, 1) := by decide +kernel
theorem dX10_owner_184 : decode cX10_owner 184 = .ok (.aload 4, 2) := by decide +kernel
theorem dX10_owner_186 : decode cX10_owner 186 = .ok (.getfield 210, 3) := by decide +kernel
theorem dX10_owner_189 : decode cX10_owner 189 = .ok (.iload_n 1, 1) := by decide +kernel
theorem dX10_owner_190 : decode cX10_owner 190 = .ok (.iaload, 1) := by decide +kernel
theorem dX10_owner_191 : decode cX10_owner 191 = .ok (.ireturn, 1) := by decide +kernel
theorem dL_cell_0 : decode cL_cell 0 = .ok (.aload_n 3, 1) := by decide +kernel
theorem dL_cell_1 : decode cL_cell 1 = .ok (.iconst 0, 1) := by decide +kernel
theorem dL_cell_2 : decode cL_cell 2 = .ok (.aload_n 0, 1) := by decide +kernel
theorem dL_cell_3 : decode cL_cell 3 = .ok (.iload_n 1, 1) := by decide +kernel
theorem dL_cell_4 : decode cL_cell 4 = .ok (.iload_n 2, 1) := by decide +kernel
theorem dL_cell_5 : decode cL_cell 5 = .ok (.invokevirtual 7, 3) := by decide +kernel
theorem dL_cell_8 : decode cL_cell 8 = .ok (.i2l, 1) := by decide +kernel
theorem dL_cell_9 : decode cL_cell 9 = .ok (.lastore, 1) := by decide +kernel
theorem dL_cell_10 : decode cL_cell 10 = .ok (.goto 7, 3) := by decide +kernel
theorem dL_cell_13 : decode cL_cell 13 = .ok (.astore 4, 2) := by decide +kernel
theorem dL_cell_15 : decode cL_cell 15 = .ok (.iconst 1, 1) := by decide +kernel
theorem dL_cell_16 : decode cL_cell 16 = .ok (.ireturn, 1) := by decide +kernel
theorem dL_cell_17 : decode cL_cell 17 = .ok (.iconst 0, 1) := by decide +kernel
theorem dL_cell_18 : decode cL_cell 18 = .ok (.ireturn, 1) := by decide +kernel
theorem dL_owner_0 : decode cL_owner 0 = .ok (.aload_n 3, 1) := by decide +kernel
theorem dL_owner_1 : decode cL_owner 1 = .ok (.iconst 0, 1) := by decide +kernel
theorem dL_owner_2 : decode cL_owner 2 = .ok (.aload_n 0, 1) := by decide +kernel
theorem dL_owner_3 : decode cL_owner 3 = .ok (.iload_n 1, 1) := by decide +kernel
theorem dL_owner_4 : decode cL_owner 4 = .ok (.iload_n 2, 1) := by decide +kernel
theorem dL_owner_5 : decode cL_owner 5 = .ok (.invokevirtual 15, 3) := by decide +kernel
theorem dL_owner_8 : decode cL_owner 8 = .ok (.i2l, 1) := by decide +kernel
theorem dL_owner_9 : decode cL_owner 9 = .ok (.lastore, 1) := by decide +kernel
theorem dL_owner_10 : decode cL_owner 10 = .ok (.goto 7, 3) := by decide +kernel
theorem dL_owner_13 : decode cL_owner 13 = .ok (.astore 4, 2) := by decide +kernel
theorem dL_owner_15 : decode cL_owner 15 = .ok (.iconst 1, 1) := by decide +kernel
theorem dL_owner_16 : decode cL_owner 16 = .ok (.ireturn, 1) := by decide +kernel
theorem dL_owner_17 : decode cL_owner 17 = .ok (.iconst 0, 1) := by decide +kernel
theorem dL_owner_18 : decode cL_owner 18 = .ok (.ireturn, 1) := by decide +kernel
