theorem dX11_plan_23 : decode cX11_plan 23 = .ok (.invokevirtual 177, 3) := by decide +kernel
theorem dX11_plan_26 : decode cX11_plan 26 = .ok (.aload_n 0, 1) := by decide +kernel
theorem dX11_plan_27 : decode cX11_plan 27 = .ok (.getfield 148, 3) := by decide +kernel
theorem dX11_plan_30 : decode cX11_plan 30 = .ok (.ifCond .eq 39, 3) := by decide +kernel
theorem dX11_plan_33 : decode cX11_plan 33 = .ok (.aload_n 0, 1) := by decide +kernel
theorem dX11_plan_34 : decode cX11_plan 34 = .ok (.invokevirtual 402, 3) := by decide +kernel
theorem dX11_plan_37 : decode cX11_plan 37 = .ok (.ifCond .eq 12, 3) := by decide +kernel
theorem dX11_plan_40 : decode cX11_plan 40 = .ok (.aload_n 0, 1) := by decide +kernel
theorem dX11_plan_41 : decode cX11_plan 41 = .ok (.bipush 59, 2) := by decide +kernel
theorem dX11_plan_43 : decode cX11_plan 43 = .ok (.invokevirtual 258, 3) := by decide +kernel
theorem dX11_plan_46 : decode cX11_plan 46 = .ok (.ifCond .ne 10, 3) := by decide +kernel
theorem dX11_plan_49 : decode cX11_plan 49 = .ok (.iconst (-1), 1) := by decide +kernel
theorem dX11_plan_50 : decode cX11_plan 50 = .ok (.aload_n 0, 1) := by decide +kernel
theorem dX11_plan_51 : decode cX11_plan 51 = .ok (.getfield 168, 3) := by decide +kernel
theorem dX11_plan_54 : decode cX11_plan 54 = .ok (.isub, 1) := by decide +kernel
theorem dX11_plan_55 : decode cX11_plan 55 = .ok (.ireturn, 1) := by decide +kernel
theorem dX11_plan_56 : decode cX11_plan 56 = .ok (.aload_n 0, 1) := by decide +kernel
theorem dX11_plan_57 : decode cX11_plan 57 = .ok (.dup, 1) := by decide +kernel
theorem dX11_plan_58 : decode cX11_plan 58 = .ok (.getfield 399, 3) := by decide +kernel
theorem dX11_plan_61 : decode cX11_plan 61 = .ok (.iconst 1, 1) := by decide +kernel
theorem dX11_plan_62 : decode cX11_plan 62 = .ok (.iadd, 1) := by decide +kernel
theorem dX11_plan_63 : decode cX11_plan 63 = .ok (.putfield 399, 3) := by decide +kernel
theorem dX11_plan_66 : decode cX11_plan 66 = .ok (.goto (-40), 3) := by decide +kernel
theorem dX11_plan_69 : decode cX11_plan 69 = .ok (.aload_n 0, 1) := by decide +kernel
theorem dX11_plan_70 : decode cX11_plan 70 = .ok (.getfield 40, 3) := by decide +kernel
theorem dX11_plan_73 : decode cX11_plan 73 = .ok (.iconst 0, 1) := by decide +kernel
theorem dX11_plan_74 : decode cX11_plan 74 = .ok (.aload_n 0, 1) := by decide +kernel
theorem dX11_plan_75 : decode cX11_plan 75 = .ok (.getfield 399, 3) := by decide +kernel
theorem dX11_plan_78 : decode cX11_plan 78 = .ok (.iastore, 1) := by decide +kernel
theorem dX11_plan_79 : decode cX11_plan 79 = .ok (.iconst 0, 1) := by decide +kernel
theorem dX11_plan_80 : decode cX11_plan 80 = .ok (.istore_n 1, 1) := by decide +kernel
theorem dX11_plan_81 : decode cX11_plan 81 = .ok (.iload_n 1, 1) := by decide +kernel
theorem dX11_plan_82 : decode cX11_plan 82 = .ok (.iconst 4, 1) := by decide +kernel
theorem dX11_plan_83 : decode cX11_plan 83 = .ok (.aload_n 0, 1) := by decide +kernel
theorem dX11_plan_84 : decode cX11_plan 84 = .ok (.getfield 399, 3) := by decide +kernel
theorem dX11_plan_87 : decode cX11_plan 87 = .ok (.imul, 1) := by decide +kernel
theorem dX11_plan_88 : decode cX11_plan 88 = .ok (.if_icmp .gt 25, 3) := by decide +kernel
theorem dX11_plan_91 : decode cX11_plan 91 = .ok (.aload_n 0, 1) := by decide +kernel
theorem dX11_plan_92 : decode cX11_plan 92 = .ok (.getfield 33, 3) := by decide +kernel
theorem dX11_plan_95 : decode cX11_plan 95 = .ok (.sipush 543, 3) := by decide +kernel
theorem dX11_plan_98 : decode cX11_plan 98 = .ok (.iload_n 1, 1) := by decide +kernel
theorem dX11_plan_99 : decode cX11_plan 99 = .ok (.iadd, 1) := by decide +kernel
theorem dX11_plan_100 : decode cX11_plan 100 = .ok (.aload_n 0, 1) := by decide +kernel
theorem dX11_plan_101 : decode cX11_plan 101 = .ok (.getfield 40, 3) := by decide +kernel
theorem dX11_plan_104 : decode cX11_plan 104 = .ok (.iload_n 1, 1) := by decide +kernel
theorem dX11_plan_105 : decode cX11_plan 105 = .ok (.iaload, 1) := by decide +kernel
theorem dX11_plan_106 : decode cX11_plan 106 = .ok (.iastore, 1) := by decide +kernel
theorem dX11_plan_107 : decode cX11_plan 107 = .ok (.iinc 1 1, 3) := by decide +kernel
theorem dX11_plan_110 : decode cX11_plan 110 = .ok (.goto (-29), 3) := by decide +kernel
theorem dX11_plan_113 : decode cX11_plan 113 = .ok (.aload_n 0, 1) := by decide +kernel
theorem dX11_plan_114 : decode cX11_plan 114 = .ok (.getfield 399, 3) := by decide +kernel
theorem dX11_plan_117 : decode cX11_plan 117 = .ok (.ireturn, 1) := by decide +kernel
theorem dX11_does_0 : decode cX11_does 0 = .ok (.iconst 0, 1) := by decide +kernel
theorem dX11_does_1 : decode cX11_does 1 = .ok (.istore 4, 2) := by decide +kernel
theorem dX11_does_3 : decode cX11_does 3 = .ok (.iload_n 1, 1) := by decide +kernel
theorem dX11_does_4 : decode cX11_does 4 = .ok (.tableswitch 96 0 3 #[32, 58, 81, 88], 32) := by decide +kernel
theorem dX11_does_36 : decode cX11_does 36 = .ok (.aload_n 0, 1) := by decide +kernel
theorem dX11_does_37 : decode cX11_does 37 = .ok (.iload_n 2, 1) := by decide +kernel
theorem dX11_does_38 : decode cX11_does 38 = .ok (.invokevirtual 347, 3) := by decide +kernel
theorem dX11_does_41 : decode cX11_does 41 = .ok (.istore 4, 2) := by decide +kernel
theorem dX11_does_43 : decode cX11_does 43 = .ok (.iload 4, 2) := by decide +kernel
theorem dX11_does_45 : decode cX11_does 45 = .ok (.ifCond .ne 14, 3) := by decide +kernel
theorem dX11_does_48 : decode cX11_does 48 = .ok (.aload_n 0, 1) := by decide +kernel
theorem dX11_does_49 : decode cX11_does 49 = .ok (.getfield 33, 3) := by decide +kernel
theorem dX11_does_52 : decode cX11_does 52 = .ok (.sipush 441, 3) := by decide +kernel
theorem dX11_does_55 : decode cX11_does 55 = .ok (.iload_n 2, 1) := by decide +kernel
theorem dX11_does_56 : decode cX11_does 56 = .ok (.iadd, 1) := by decide +kernel
theorem dX11_does_57 : decode cX11_does 57 = .ok (.iconst 1, 1) := by decide +kernel
theorem dX11_does_58 : decode cX11_does 58 = .ok (.iastore, 1) := by decide +kernel
theorem dX11_does_59 : decode cX11_does 59 = .ok (.iload 4, 2) := by decide +kernel
theorem dX11_does_61 : decode cX11_does 61 = .ok (.ireturn, 1) := by decide +kernel
theorem dX11_does_62 : decode cX11_does 62 = .ok (.aload_n 0, 1) := by decide +kernel
theorem dX11_does_63 : decode cX11_does 63 = .ok (.iload_n 2, 1) := by decide +kernel
theorem dX11_does_64 : decode cX11_does 64 = .ok (.invokevirtual 350, 3) := by decide +kernel
theorem dX11_does_67 : decode cX11_does 67 = .ok (.ifCond .ne 5, 3) := by decide +kernel
theorem dX11_does_70 : decode cX11_does 70 = .ok (.iconst 3, 1) := by decide +kernel
theorem dX11_does_71 : decode cX11_does 71 = .ok (.ireturn, 1) := by decide +kernel
theorem dX11_does_72 : decode cX11_does 72 = .ok (.aload_n 0, 1) := by decide +kernel
theorem dX11_does_73 : decode cX11_does 73 = .ok (.getfield 33, 3) := by decide +kernel
theorem dX11_does_76 : decode cX11_does 76 = .ok (.sipush 429, 3) := by decide +kernel
theorem dX11_does_79 : decode cX11_does 79 = .ok (.iload_n 2, 1) := by decide +kernel
theorem dX11_does_80 : decode cX11_does 80 = .ok (.iadd, 1) := by decide +kernel
theorem dX11_does_81 : decode cX11_does 81 = .ok (.iconst 0, 1) := by decide +kernel
theorem dX11_does_82 : decode cX11_does 82 = .ok (.iastore, 1) := by decide +kernel
theorem dX11_does_83 : decode cX11_does 83 = .ok (.iconst 0, 1) := by decide +kernel
theorem dX11_does_84 : decode cX11_does 84 = .ok (.ireturn, 1) := by decide +kernel
theorem dX11_does_85 : decode cX11_does 85 = .ok (.aload_n 0, 1) := by decide +kernel
theorem dX11_does_86 : decode cX11_does 86 = .ok (.iload_n 2, 1) := by decide +kernel
theorem dX11_does_87 : decode cX11_does 87 = .ok (.invokevirtual 353, 3) := by decide +kernel
theorem dX11_does_90 : decode cX11_does 90 = .ok (.iconst 0, 1) := by decide +kernel
theorem dX11_does_91 : decode cX11_does 91 = .ok (.ireturn, 1) := by decide +kernel
theorem dX11_does_92 : decode cX11_does 92 = .ok (.aload_n 0, 1) := by decide +kernel
theorem dX11_does_93 : decode cX11_does 93 = .ok (.iload_n 2, 1) := by decide +kernel
theorem dX11_does_94 : decode cX11_does 94 = .ok (.iload_n 3, 1) := by decide +kernel
theorem dX11_does_95 : decode cX11_does 95 = .ok (.invokevirtual 356, 3) := by decide +kernel
theorem dX11_does_98 : decode cX11_does 98 = .ok (.iconst 0, 1) := by decide +kernel
theorem dX11_does_99 : decode cX11_does 99 = .ok (.ireturn, 1) := by decide +kernel
theorem dX11_does_100 : decode cX11_does 100 = .ok (.aload_n 0, 1) := by decide +kernel
theorem dX11_does_101 : decode cX11_does 101 = .ok (.getfield 33, 3) := by decide +kernel
theorem dX11_does_104 : decode cX11_does 104 = .ok (.sipush 371, 3) := by decide +kernel
theorem dX11_does_107 : decode cX11_does 107 = .ok (.iaload, 1) := by decide +kernel
theorem dX11_does_108 : decode cX11_does 108 = .ok (.bipush 47, 2) := by decide +kernel
theorem dX11_does_110 : decode cX11_does 110 = .ok (.if_icmp .le 5, 3) := by decide +kernel
theorem dX11_does_113 : decode cX11_does 113 = .ok (.iconst 4, 1) := by decide +kernel
theorem dX11_does_114 : decode cX11_does 114 = .ok (.ireturn, 1) := by decide +kernel
theorem dX11_does_115 : decode cX11_does 115 = .ok (.aload_n 0, 1) := by decide +kernel
theorem dX11_does_116 : decode cX11_does 116 = .ok (.iload_n 2, 1) := by decide +kernel
theorem dX11_does_117 : decode cX11_does 117 = .ok (.invokevirtual 338, 3) := by decide +kernel
theorem dX11_does_120 : decode cX11_does 120 = .ok (.pop, 1) := by decide +kernel
theorem dX11_does_121 : decode cX11_does 121 = .ok (.iconst 0, 1) := by decide +kernel
theorem dX11_does_122 : decode cX11_does 122 = .ok (.ireturn, 1) := by decide +kernel
theorem dX11_judge_0 : decode cX11_judge 0 = .ok (.aload_n 0, 1) := by decide +kernel
theorem dX11_judge_1 : decode cX11_judge 1 = .ok (.iconst 0, 1) := by decide +kernel
theorem dX11_judge_2 : decode cX11_judge 2 = .ok (.putfield 1, 3) := by decide +kernel
theorem dX11_judge_5 : decode cX11_judge 5 = .ok (.iload_n 1, 1) := by decide +kernel
theorem dX11_judge_6 : decode cX11_judge 6 = .ok (.iconst 0, 1) := by decide +kernel
theorem dX11_judge_7 : decode cX11_judge 7 = .ok (.iconst 1, 1) := by decide +kernel
theorem dX11_judge_8 : decode cX11_judge 8 = .ok (.invokestatic 180, 3) := by decide +kernel
theorem dX11_judge_11 : decode cX11_judge 11 = .ok (.ifCond .ne 6, 3) := by decide +kernel
theorem dX11_judge_14 : decode cX11_judge 14 = .ok (.bipush (-2), 2) := by decide +kernel
theorem dX11_judge_16 : decode cX11_judge 16 = .ok (.ireturn, 1) := by decide +kernel
theorem dX11_judge_17 : decode cX11_judge 17 = .ok (.iconst 0, 1) := by decide +kernel
theorem dX11_judge_18 : decode cX11_judge 18 = .ok (.istore_n 2, 1) := by decide +kernel
theorem dX11_judge_19 : decode cX11_judge 19 = .ok (.iload_n 2, 1) := by decide +kernel
theorem dX11_judge_20 : decode cX11_judge 20 = .ok (.sipush 172, 3) := by decide +kernel
theorem dX11_judge_23 : decode cX11_judge 23 = .ok (.if_icmp .ge 25, 3) := by decide +kernel
theorem dX11_judge_26 : decode cX11_judge 26 = .ok (.aload_n 0, 1) := by decide +kernel
theorem dX11_judge_27 : decode cX11_judge 27 = .ok (.getfield 71, 3) := by decide +kernel
theorem dX11_judge_30 : decode cX11_judge 30 = .ok (.iload_n 2, 1) := by decide +kernel
theorem dX11_judge_31 : decode cX11_judge 31 = .ok (.aload_n 0, 1) := by decide +kernel
theorem dX11_judge_32 : decode cX11_judge 32 = .ok (.getfield 33, 3) := by decide +kernel
theorem dX11_judge_35 : decode cX11_judge 35 = .ok (.sipush 371, 3) := by decide +kernel
theorem dX11_judge_38 : decode cX11_judge 38 = .ok (.iload_n 2, 1) := by decide +kernel
theorem dX11_judge_39 : decode cX11_judge 39 = .ok (.iadd, 1) := by decide +kernel
theorem dX11_judge_40 : decode cX11_judge 40 = .ok (.iaload, 1) := by decide +kernel
theorem dX11_judge_41 : decode cX11_judge 41 = .ok (.iastore, 1) := by decide +kernel
theorem dX11_judge_42 : decode cX11_judge 42 = .ok (.iinc 2 1, 3) := by decide +kernel
theorem dX11_judge_45 : decode cX11_judge 45 = .ok (.goto (-26), 3) := by decide +kernel
theorem dX11_judge_48 : decode cX11_judge 48 = .ok (.iconst 0, 1) := by decide +kernel
theorem dX11_judge_49 : decode cX11_judge 49 = .ok (.istore_n 2, 1) := by decide +kernel
theorem dX11_judge_50 : decode cX11_judge 50 = .ok (.iload_n 2, 1) := by decide +kernel
theorem dX11_judge_51 : decode cX11_judge 51 = .ok (.iconst 5, 1) := by decide +kernel
theorem dX11_judge_52 : decode cX11_judge 52 = .ok (.if_icmp .ge 16, 3) := by decide +kernel
theorem dX11_judge_55 : decode cX11_judge 55 = .ok (.aload_n 0, 1) := by decide +kernel
theorem dX11_judge_56 : decode cX11_judge 56 = .ok (.getfield 68, 3) := by decide +kernel
theorem dX11_judge_59 : decode cX11_judge 59 = .ok (.iload_n 2, 1) := by decide +kernel
theorem dX11_judge_60 : decode cX11_judge 60 = .ok (.iconst 0, 1) := by decide +kernel
theorem dX11_judge_61 : decode cX11_judge 61 = .ok (.iastore, 1) := by decide +kernel
theorem dX11_judge_62 : decode cX11_judge 62 = .ok (.iinc 2 1, 3) := by decide +kernel
theorem dX11_judge_65 : decode cX11_judge 65 = .ok (.goto (-15), 3) := by decide +kernel
theorem dX11_judge_68 : decode cX11_judge 68 = .ok (.iconst (-1), 1) := by decide +kernel
theorem dX11_judge_69 : decode cX11_judge 69 = .ok (.istore_n 2, 1) := by decide +kernel
theorem dX11_judge_70 : decode cX11_judge 70 = .ok (.iconst 0, 1) := by decide +kernel
theorem dX11_judge_71 : decode cX11_judge 71 = .ok (.istore_n 3, 1) := by decide +kernel
theorem dX11_judge_72 : decode cX11_judge 72 = .ok (.iload_n 3, 1) := by decide +kernel
theorem dX11_judge_73 : decode cX11_judge 73 = .ok (.aload_n 0, 1) := by decide +kernel
theorem dX11_judge_74 : decode cX11_judge 74 = .ok (.getfield 33, 3) := by decide +kernel
theorem dX11_judge_77 : decode cX11_judge 77 = .ok (.sipush 543, 3) := by decide +kernel
theorem dX11_judge_80 : decode cX11_judge 80 = .ok (.iaload, 1) := by decide +kernel
theorem dX11_judge_81 : decode cX11_judge 81 = .ok (.if_icmp .ge 81, 3) := by decide +kernel
theorem dX11_judge_84 : decode cX11_judge 84 = .ok (.iload_n 2, 1) := by decide +kernel
theorem dX11_judge_85 : decode cX11_judge 85 = .ok (.ifCond .ge 77, 3) := by decide +kernel
theorem dX11_judge_88 : decode cX11_judge 88 = .ok (.sipush 544, 3) := by decide +kernel
theorem dX11_judge_91 : decode cX11_judge 91 = .ok (.iconst 4, 1) := by decide +kernel
theorem dX11_judge_92 : decode cX11_judge 92 = .ok (.iload_n 3, 1) := by decide +kernel
theorem dX11_judge_93 : decode cX11_judge 93 = .ok (.imul, 1) := by decide +kernel
theorem dX11_judge_94 : decode cX11_judge 94 = .ok (.iadd, 1) := by decide +kernel
theorem dX11_judge_95 : decode cX11_judge 95 = .ok (.istore 4, 2) := by decide +kernel
theorem dX11_judge_97 : decode cX11_judge 97 = .ok (.aload_n 0, 1) := by decide +kernel
theorem dX11_judge_98 : decode cX11_judge 98 = .ok (.getfield 68, 3) := by decide +kernel
theorem dX11_judge_101 : decode cX11_judge 101 = .ok (.iconst 0, 1) := by decide +kernel
theorem dX11_judge_102 : decode cX11_judge 102 = .ok (.aload_n 0, 1) := by decide +kernel
theorem dX11_judge_103 : decode cX11_judge 103 = .ok (.aload_n 0, 1) := by decide +kernel
theorem dX11_judge_104 : decode cX11_judge 104 = .ok (.getfield 33, 3) := by decide +kernel
theorem dX11_judge_107 : decode cX11_judge 107 = .ok (.iload 4, 2) := by decide +kernel
theorem dX11_judge_109 : decode cX11_judge 109 = .ok (.iaload, 1) := by decide +kernel
theorem dX11_judge_110 : decode cX11_judge 110 = .ok (.aload_n 0, 1) := by decide +kernel
theorem dX11_judge_111 : decode cX11_judge 111 = .ok (.getfield 33, 3) := by decide +kernel
theorem dX11_judge_114 : decode cX11_judge 114 = .ok (.iload 4, 2) := by decide +kernel
theorem dX11_judge_116 : decode cX11_judge 116 = .ok (.iconst 1, 1) := by decide +kernel
theorem dX11_judge_117 : decode cX11_judge 117 = .ok (.iadd, 1) := by decide +kernel
theorem dX11_judge_118 : decode cX11_judge 118 = .ok (.iaload, 1) := by decide +kernel
theorem dX11_judge_119 : decode cX11_judge 119 = .ok (.aload_n 0, 1) := by decide +kernel
theorem dX11_judge_120 : decode cX11_judge 120 = .ok (.getfield 33, 3) := by decide +kernel
theorem dX11_judge_123 : decode cX11_judge 123 = .ok (.iload 4, 2) := by decide +kernel
theorem dX11_judge_125 : decode cX11_judge 125 = .ok (.iconst 2, 1) := by decide +kernel
theorem dX11_judge_126 : decode cX11_judge 126 = .ok (.iadd, 1) := by decide +kernel
theorem dX11_judge_127 : decode cX11_judge 127 = .ok (.iaload, 1) := by decide +kernel
theorem dX11_judge_128 : decode cX11_judge 128 = .ok (.invokevirtual 405, 3) := by decide +kernel
theorem dX11_judge_131 : decode cX11_judge 131 = .ok (.iastore, 1) := by decide +kernel
theorem dX11_judge_132 : decode cX11_judge 132 = .ok (.aload_n 0, 1) := by decide +kernel
theorem dX11_judge_133 : decode cX11_judge 133 = .ok (.getfield 68, 3) := by decide +kernel
theorem dX11_judge_136 : decode cX11_judge 136 = .ok (.iconst 0, 1) := by decide +kernel
theorem dX11_judge_137 : decode cX11_judge 137 = .ok (.iaload, 1) := by decide +kernel
theorem dX11_judge_138 : decode cX11_judge 138 = .ok (.ifCond .le 8, 3) := by decide +kernel
theorem dX11_judge_141 : decode cX11_judge 141 = .ok (.iload_n 3, 1) := by decide +kernel
theorem dX11_judge_142 : decode cX11_judge 142 = .ok (.istore_n 2, 1) := by decide +kernel
theorem dX11_judge_143 : decode cX11_judge 143 = .ok (.goto 13, 3) := by decide +kernel
theorem dX11_judge_146 : decode cX11_judge 146 = .ok (.aload_n 0, 1) := by decide +kernel
theorem dX11_judge_147 : decode cX11_judge 147 = .ok (.getfield 68, 3) := by decide +kernel
theorem dX11_judge_150 : decode cX11_judge 150 = .ok (.iconst 1, 1) := by decide +kernel
theorem dX11_judge_151 : decode cX11_judge 151 = .ok (.dup2, 1) := by decide +kernel
theorem dX11_judge_152 : decode cX11_judge 152 = .ok (.iaload, 1) := by decide +kernel
theorem dX11_judge_153 : decode cX11_judge 153 = .ok (.iconst 1, 1) := by decide +kernel
theorem dX11_judge_154 : decode cX11_judge 154 = .ok (.iadd, 1) := by decide +kernel
theorem dX11_judge_155 : decode cX11_judge 155 = .ok (.iastore, 1) := by decide +kernel
theorem dX11_judge_156 : decode cX11_judge 156 = .ok (.iinc 3 1, 3) := by decide +kernel
theorem dX11_judge_159 : decode cX11_judge 159 = .ok (.goto (-87), 3) := by decide +kernel
theorem dX11_judge_162 : decode cX11_judge 162 = .ok (.aload_n 0, 1) := by decide +kernel
theorem dX11_judge_163 : decode cX11_judge 163 = .ok (.getfield 68, 3) := by decide +kernel
theorem dX11_judge_166 : decode cX11_judge 166 = .ok (.iconst 2, 1) := by decide +kernel
theorem dX11_judge_167 : decode cX11_judge 167 = .ok (.aload_n 0, 1) := by decide +kernel
theorem dX11_judge_168 : decode cX11_judge 168 = .ok (.getfield 33, 3) := by decide +kernel
theorem dX11_judge_171 : decode cX11_judge 171 = .ok (.sipush 371, 3) := by decide +kernel
theorem dX11_judge_174 : decode cX11_judge 174 = .ok (.iaload, 1) := by decide +kernel
theorem dX11_judge_175 : decode cX11_judge 175 = .ok (.iastore, 1) := by decide +kernel
theorem dX11_judge_176 : decode cX11_judge 176 = .ok (.aload_n 0, 1) := by decide +kernel
theorem dX11_judge_177 : decode cX11_judge 177 = .ok (.getfield 68, 3) := by decide +kernel
theorem dX11_judge_180 : decode cX11_judge 180 = .ok (.iconst 3, 1) := by decide +kernel
theorem dX11_judge_181 : decode cX11_judge 181 = .ok (.aload_n 0, 1) := by decide +kernel
theorem dX11_judge_182 : decode cX11_judge 182 = .ok (.getfield 33, 3) := by decide +kernel
theorem dX11_judge_185 : decode cX11_judge 185 = .ok (.sipush 372, 3) := by decide +kernel
theorem dX11_judge_188 : decode cX11_judge 188 = .ok (.iaload, 1) := by decide +kernel
theorem dX11_judge_189 : decode cX11_judge 189 = .ok (.iastore, 1) := by decide +kernel
theorem dX11_judge_190 : decode cX11_judge 190 = .ok (.aload_n 0, 1) := by decide +kernel
theorem dX11_judge_191 : decode cX11_judge 191 = .ok (.getfield 68, 3) := by decide +kernel
theorem dX11_judge_194 : decode cX11_judge 194 = .ok (.iconst 4, 1) := by decide +kernel
theorem dX11_judge_195 : decode cX11_judge 195 = .ok (.aload_n 0, 1) := by decide +kernel
theorem dX11_judge_196 : decode cX11_judge 196 = .ok (.invokevirtual 344, 3) := by decide +kernel
theorem dX11_judge_199 : decode cX11_judge 199 = .ok (.iastore, 1) := by decide +kernel
theorem dX11_judge_200 : decode cX11_judge 200 = .ok (.aload_n 0, 1) := by decide +kernel
theorem dX11_judge_201 : decode cX11_judge 201 = .ok (.iconst 1, 1) := by decide +kernel
theorem dX11_judge_202 : decode cX11_judge 202 = .ok (.putfield 408, 3) := by decide +kernel
theorem dX11_judge_205 : decode cX11_judge 205 = .ok (.iload_n 1, 1) := by decide +kernel
theorem dX11_judge_206 : decode cX11_judge 206 = .ok (.iconst 1, 1) := by decide +kernel
theorem dX11_judge_207 : decode cX11_judge 207 = .ok (.if_icmp .ne 54, 3) := by decide +kernel
theorem dX11_judge_210 : decode cX11_judge 210 = .ok (.aload_n 0, 1) := by decide +kernel
theorem dX11_judge_211 : decode cX11_judge 211 = .ok (.getfield 68, 3) := by decide +kernel
theorem dX11_judge_214 : decode cX11_judge 214 = .ok (.iconst 1, 1) := by decide +kernel
theorem dX11_judge_215 : decode cX11_judge 215 = .ok (.iaload, 1) := by decide +kernel
theorem dX11_judge_216 : decode cX11_judge 216 = .ok (.ifCond .le 45, 3) := by decide +kernel
theorem dX11_judge_219 : decode cX11_judge 219 = .ok (.aload_n 0, 1) := by decide +kernel
theorem dX11_judge_220 : decode cX11_judge 220 = .ok (.invokevirtual 335, 3) := by decide +kernel
theorem dX11_judge_223 : decode cX11_judge 223 = .ok (.iconst 0, 1) := by decide +kernel
theorem dX11_judge_224 : decode cX11_judge 224 = .ok (.istore_n 3, 1) := by decide +kernel
theorem dX11_judge_225 : decode cX11_judge 225 = .ok (.iload_n 3, 1) := by decide +kernel
theorem dX11_judge_226 : decode cX11_judge 226 = .ok (.sipush 172, 3) := by decide +kernel
theorem dX11_judge_229 : decode cX11_judge 229 = .ok (.if_icmp .ge 32, 3) := by decide +kernel
theorem dX11_judge_232 : decode cX11_judge 232 = .ok (.aload_n 0, 1) := by decide +kernel
theorem dX11_judge_233 : decode cX11_judge 233 = .ok (.getfield 59, 3) := by decide +kernel
theorem dX11_judge_236 : decode cX11_judge 236 = .ok (.sipush 172, 3) := by decide +kernel
theorem dX11_judge_239 : decode cX11_judge 239 = .ok (.aload_n 0, 1) := by decide +kernel
theorem dX11_judge_240 : decode cX11_judge 240 = .ok (.getfield 264, 3) := by decide +kernel
theorem dX11_judge_243 : decode cX11_judge 243 = .ok (.iconst 1, 1) := by decide +kernel
theorem dX11_judge_244 : decode cX11_judge 244 = .ok (.isub, 1) := by decide +kernel
theorem dX11_judge_245 : decode cX11_judge 245 = .ok (.imul, 1) := by decide +kernel
theorem dX11_judge_246 : decode cX11_judge 246 = .ok (.iload_n 3, 1) := by decide +kernel
theorem dX11_judge_247 : decode cX11_judge 247 = .ok (.iadd, 1) := by decide +kernel
theorem dX11_judge_248 : decode cX11_judge 248 = .ok (.aload_n 0, 1) := by decide +kernel
theorem dX11_judge_249 : decode cX11_judge 249 = .ok (.getfield 71, 3) := by decide +kernel
theorem dX11_judge_252 : decode cX11_judge 252 = .ok (.iload_n 3, 1) := by decide +kernel
theorem dX11_judge_253 : decode cX11_judge 253 = .ok (.iaload, 1) := by decide +kernel
theorem dX11_judge_254 : decode cX11_judge 254 = .ok (.iastore, 1) := by decide +kernel
theorem dX11_judge_255 : decode cX11_judge 255 = .ok (.iinc 3 1, 3) := by decide +kernel
theorem dX11_judge_258 : decode cX11_judge 258 = .ok (.goto (-33), 3) := by decide +kernel
theorem dX11_judge_261 : decode cX11_judge 261 = .ok (.iconst 0, 1) := by decide +kernel
theorem dX11_judge_262 : decode cX11_judge 262 = .ok (.istore_n 3, 1) := by decide +kernel
theorem dX11_judge_263 : decode cX11_judge 263 = .ok (.iload_n 3, 1) := by decide +kernel
theorem dX11_judge_264 : decode cX11_judge 264 = .ok (.sipush 172, 3) := by decide +kernel
theorem dX11_judge_267 : decode cX11_judge 267 = .ok (.if_icmp .ge 29, 3) := by decide +kernel
theorem dX11_judge_270 : decode cX11_judge 270 = .ok (.iload_n 1, 1) := by decide +kernel
theorem dX11_judge_271 : decode cX11_judge 271 = .ok (.ifCond .ne 25, 3) := by decide +kernel
theorem dX11_judge_274 : decode cX11_judge 274 = .ok (.aload_n 0, 1) := by decide +kernel
theorem dX11_judge_275 : decode cX11_judge 275 = .ok (.getfield 33, 3) := by decide +kernel
theorem dX11_judge_278 : decode cX11_judge 278 = .ok (.sipush 371, 3) := by decide +kernel
theorem dX11_judge_281 : decode cX11_judge 281 = .ok (.iload_n 3, 1) := by decide +kernel
theorem dX11_judge_282 : decode cX11_judge 282 = .ok (.iadd, 1) := by decide +kernel
theorem dX11_judge_283 : decode cX11_judge 283 = .ok (.aload_n 0, 1) := by decide +kernel
theorem dX11_judge_284 : decode cX11_judge 284 = .ok (.getfield 71, 3) := by decide +kernel
theorem dX11_judge_287 : decode cX11_judge 287 = .ok (.iload_n 3, 1) := by decide +kernel
theorem dX11_judge_288 : decode cX11_judge 288 = .ok (.iaload, 1) := by decide +kernel
theorem dX11_judge_289 : decode cX11_judge 289 = .ok (.iastore, 1) := by decide +kernel
theorem dX11_judge_290 : decode cX11_judge 290 = .ok (.iinc 3 1, 3) := by decide +kernel
theorem dX11_judge_293 : decode cX11_judge 293 = .ok (.goto (-30), 3) := by decide +kernel
theorem dX11_judge_296 : decode cX11_judge 296 = .ok (.iload_n 2, 1) := by decide +kernel
theorem dX11_judge_297 : decode cX11_judge 297 = .ok (.ireturn, 1) := by decide +kernel
theorem dX11_judged_0 : decode cX11_judged 0 = .ok (.aload_n 0, 1) := by decide +kernel
theorem dX11_judged_1 : decode cX11_judged 1 = .ok (.iconst 0, 1) := by decide +kernel
theorem dX11_judged_2 : decode cX11_judged 2 = .ok (.putfield 1, 3) := by decide +kernel
theorem dX11_judged_5 : decode cX11_judged 5 = .ok (.aload_n 0, 1) := by decide +kernel
theorem dX11_judged_6 : decode cX11_judged 6 = .ok (.getfield 408, 3) := by decide +kernel
theorem dX11_judged_9 : decode cX11_judged 9 = .ok (.ifCond .eq 21, 3) := by decide +kernel
theorem dX11_judged_12 : decode cX11_judged 12 = .ok (.iload_n 1, 1) := by decide +kernel
theorem dX11_judged_13 : decode cX11_judged 13 = .ok (.iconst 0, 1) := by decide +kernel
theorem dX11_judged_14 : decode cX11_judged 14 = .ok (.iconst 4, 1) := by decide +kernel
theorem dX11_judged_15 : decode cX11_judged 15 = .ok (.invokestatic 180, 3) := by decide +kernel
theorem dX11_judged_18 : decode cX11_judged 18 = .ok (.ifCond .eq 12, 3) := by decide +kernel
theorem dX11_judged_21 : decode cX11_judged 21 = .ok (.aload_n 0, 1) := by decide +kernel
theorem dX11_judged_22 : decode cX11_judged 22 = .ok (.getfield 68, 3) := by decide +kernel
theorem dX11_judged_25 : decode cX11_judged 25 = .ok (.iload_n 1, 1) := by decide +kernel
theorem dX11_judged_26 : decode cX11_judged 26 = .ok (.iaload, 1) := by decide +kernel
theorem dX11_judged_27 : decode cX11_judged 27 = .ok (.goto 4, 3) := by decide +kernel
theorem dX11_judged_30 : decode cX11_judged 30 = .ok (.iconst (-1), 1) := by decide +kernel
theorem dX11_judged_31 : decode cX11_judged 31 = .ok (.ireturn, 1) := by decide +kernel
theorem dX11_code_0 : decode cX11_code 0 = .ok (.aload_n 0, 1) := by decide +kernel
theorem dX11_code_1 : decode cX11_code 1 = .ok (.getfield 40, 3) := by decide +kernel
theorem dX11_code_4 : decode cX11_code 4 = .ok (.iconst 3, 1) := by decide +kernel
theorem dX11_code_5 : decode cX11_code 5 = .ok (.aload_n 0, 1) := by decide +kernel
theorem dX11_code_6 : decode cX11_code 6 = .ok (.getfield 411, 3) := by decide +kernel
theorem dX11_code_9 : decode cX11_code 9 = .ok (.imul, 1) := by decide +kernel
theorem dX11_code_10 : decode cX11_code 10 = .ok (.iload_n 1, 1) := by decide +kernel
theorem dX11_code_11 : decode cX11_code 11 = .ok (.iastore, 1) := by decide +kernel
theorem dX11_code_12 : decode cX11_code 12 = .ok (.aload_n 0, 1) := by decide +kernel
theorem dX11_code_13 : decode cX11_code 13 = .ok (.getfield 40, 3) := by decide +kernel
theorem dX11_code_16 : decode cX11_code 16 = .ok (.iconst 3, 1) := by decide +kernel
theorem dX11_code_17 : decode cX11_code 17 = .ok (.aload_n 0, 1) := by decide +kernel
theorem dX11_code_18 : decode cX11_code 18 = .ok (.getfield 411, 3) := by decide +kernel
theorem dX11_code_21 : decode cX11_code 21 = .ok (.imul, 1) := by decide +kernel
theorem dX11_code_22 : decode cX11_code 22 = .ok (.iconst 1, 1) := by decide +kernel
theorem dX11_code_23 : decode cX11_code 23 = .ok (.iadd, 1) := by decide +kernel
theorem dX11_code_24 : decode cX11_code 24 = .ok (.iload_n 2, 1) := by decide +kernel
theorem dX11_code_25 : decode cX11_code 25 = .ok (.iastore, 1) := by decide +kernel
theorem dX11_code_26 : decode cX11_code 26 = .ok (.aload_n 0, 1) := by decide +kernel
theorem dX11_code_27 : decode cX11_code 27 = .ok (.getfield 40, 3) := by decide +kernel
theorem dX11_code_30 : decode cX11_code 30 = .ok (.iconst 3, 1) := by decide +kernel
theorem dX11_code_31 : decode cX11_code 31 = .ok (.aload_n 0, 1) := by decide +kernel
theorem dX11_code_32 : decode cX11_code 32 = .ok (.getfield 411, 3) := by decide +kernel
theorem dX11_code_35 : decode cX11_code 35 = .ok (.imul, 1) := by decide +kernel
theorem dX11_code_36 : decode cX11_code 36 = .ok (.iconst 2, 1) := by decide +kernel
theorem dX11_code_37 : decode cX11_code 37 = .ok (.iadd, 1) := by decide +kernel
theorem dX11_code_38 : decode cX11_code 38 = .ok (.iload_n 3, 1) := by decide +kernel
theorem dX11_code_39 : decode cX11_code 39 = .ok (.iastore, 1) := by decide +kernel
theorem dX11_code_40 : decode cX11_code 40 = .ok (.aload_n 0, 1) := by decide +kernel
theorem dX11_code_41 : decode cX11_code 41 = .ok (.dup, 1) := by decide +kernel
theorem dX11_code_42 : decode cX11_code 42 = .ok (.getfield 411, 3) := by decide +kernel
theorem dX11_code_45 : decode cX11_code 45 = .ok (.iconst 1, 1) := by decide +kernel
theorem dX11_code_46 : decode cX11_code 46 = .ok (.iadd, 1) := by decide +kernel
theorem dX11_code_47 : decode cX11_code 47 = .ok (.putfield 411, 3) := by decide +kernel
theorem dX11_code_50 : decode cX11_code 50 = .ok (.return_, 1) := by decide +kernel
theorem dX11_joins_0 : decode cX11_joins 0 = .ok (.aload_n 0, 1) := by decide +kernel
theorem dX11_joins_1 : decode cX11_joins 1 = .ok (.getfield 414, 3) := by decide +kernel
theorem dX11_joins_4 : decode cX11_joins 4 = .ok (.ifCond .le 69, 3) := by decide +kernel
theorem dX11_joins_7 : decode cX11_joins 7 = .ok (.aload_n 0, 1) := by decide +kernel
theorem dX11_joins_8 : decode cX11_joins 8 = .ok (.getfield 74, 3) := by decide +kernel
theorem dX11_joins_11 : decode cX11_joins 11 = .ok (.aload_n 0, 1) := by decide +kernel
theorem dX11_joins_12 : decode cX11_joins 12 = .ok (.getfield 414, 3) := by decide +kernel
theorem dX11_joins_15 : decode cX11_joins 15 = .ok (.iconst 1, 1) := by decide +kernel
theorem dX11_joins_16 : decode cX11_joins 16 = .ok (.isub, 1) := by decide +kernel
theorem dX11_joins_17 : decode cX11_joins 17 = .ok (.iaload, 1) := by decide +kernel
theorem dX11_joins_18 : decode cX11_joins 18 = .ok (.bipush 11, 2) := by decide +kernel
theorem dX11_joins_20 : decode cX11_joins 20 = .ok (.if_icmp .eq 25, 3) := by decide +kernel
theorem dX11_joins_23 : decode cX11_joins 23 = .ok (.aload_n 0, 1) := by decide +kernel
theorem dX11_joins_24 : decode cX11_joins 24 = .ok (.getfield 74, 3) := by decide +kernel
theorem dX11_joins_27 : decode cX11_joins 27 = .ok (.aload_n 0, 1) := by decide +kernel
theorem dX11_joins_28 : decode cX11_joins 28 = .ok (.getfield 414, 3) := by decide +kernel
theorem dX11_joins_31 : decode cX11_joins 31 = .ok (.iconst 1, 1) := by decide +kernel
theorem dX11_joins_32 : decode cX11_joins 32 = .ok (.isub, 1) := by decide +kernel
theorem dX11_joins_33 : decode cX11_joins 33 = .ok (.iaload, 1) := by decide +kernel
theorem dX11_joins_34 : decode cX11_joins 34 = .ok (.bipush 12, 2) := by decide +kernel
theorem dX11_joins_36 : decode cX11_joins 36 = .ok (.if_icmp .ne 37, 3) := by decide +kernel
theorem dX11_joins_39 : decode cX11_joins 39 = .ok (.iload_n 1, 1) := by decide +kernel
theorem dX11_joins_40 : decode cX11_joins 40 = .ok (.bipush 12, 2) := by decide +kernel
theorem dX11_joins_42 : decode cX11_joins 42 = .ok (.if_icmp .ne 31, 3) := by decide +kernel
theorem dX11_joins_45 : decode cX11_joins 45 = .ok (.aload_n 0, 1) := by decide +kernel
theorem dX11_joins_46 : decode cX11_joins 46 = .ok (.dup, 1) := by decide +kernel
theorem dX11_joins_47 : decode cX11_joins 47 = .ok (.getfield 414, 3) := by decide +kernel
theorem dX11_joins_50 : decode cX11_joins 50 = .ok (.iconst 1, 1) := by decide +kernel
theorem dX11_joins_51 : decode cX11_joins 51 = .ok (.isub, 1) := by decide +kernel
theorem dX11_joins_52 : decode cX11_joins 52 = .ok (.putfield 414, 3) := by decide +kernel
theorem dX11_joins_55 : decode cX11_joins 55 = .ok (.aload_n 0, 1) := by decide +kernel
theorem dX11_joins_56 : decode cX11_joins 56 = .ok (.aload_n 0, 1) := by decide +kernel
theorem dX11_joins_57 : decode cX11_joins 57 = .ok (.getfield 74, 3) := by decide +kernel
theorem dX11_joins_60 : decode cX11_joins 60 = .ok (.aload_n 0, 1) := by decide +kernel
theorem dX11_joins_61 : decode cX11_joins 61 = .ok (.getfield 414, 3) := by decide +kernel
theorem dX11_joins_64 : decode cX11_joins 64 = .ok (.iaload, 1) := by decide +kernel
theorem dX11_joins_65 : decode cX11_joins 65 = .ok (.iconst 0, 1) := by decide +kernel
theorem dX11_joins_66 : decode cX11_joins 66 = .ok (.iconst 0, 1) := by decide +kernel
theorem dX11_joins_67 : decode cX11_joins 67 = .ok (.invokevirtual 417, 3) := by decide +kernel
theorem dX11_joins_70 : decode cX11_joins 70 = .ok (.goto (-70), 3) := by decide +kernel
theorem dX11_joins_73 : decode cX11_joins 73 = .ok (.return_, 1) := by decide +kernel
theorem dX11_nots_0 : decode cX11_nots 0 = .ok (.aload_n 0, 1) := by decide +kernel
theorem dX11_nots_1 : decode cX11_nots 1 = .ok (.getfield 414, 3) := by decide +kernel
theorem dX11_nots_4 : decode cX11_nots 4 = .ok (.ifCond .le 50, 3) := by decide +kernel
theorem dX11_nots_7 : decode cX11_nots 7 = .ok (.aload_n 0, 1) := by decide +kernel
theorem dX11_nots_8 : decode cX11_nots 8 = .ok (.getfield 74, 3) := by decide +kernel
theorem dX11_nots_11 : decode cX11_nots 11 = .ok (.aload_n 0, 1) := by decide +kernel
theorem dX11_nots_12 : decode cX11_nots 12 = .ok (.getfield 414, 3) := by decide +kernel
theorem dX11_nots_15 : decode cX11_nots 15 = .ok (.iconst 1, 1) := by decide +kernel
theorem dX11_nots_16 : decode cX11_nots 16 = .ok (.isub, 1) := by decide +kernel
theorem dX11_nots_17 : decode cX11_nots 17 = .ok (.iaload, 1) := by decide +kernel
theorem dX11_nots_18 : decode cX11_nots 18 = .ok (.bipush 10, 2) := by decide +kernel
theorem dX11_nots_20 : decode cX11_nots 20 = .ok (.if_icmp .ne 34, 3) := by decide +kernel
theorem dX11_nots_23 : decode cX11_nots 23 = .ok (.aload_n 0, 1) := by decide +kernel
theorem dX11_nots_24 : decode cX11_nots 24 = .ok (.dup, 1) := by decide +kernel
theorem dX11_nots_25 : decode cX11_nots 25 = .ok (.getfield 414, 3) := by decide +kernel
theorem dX11_nots_28 : decode cX11_nots 28 = .ok (.iconst 1, 1) := by decide +kernel
theorem dX11_nots_29 : decode cX11_nots 29 = .ok (.isub, 1) := by decide +kernel
theorem dX11_nots_30 : decode cX11_nots 30 = .ok (.putfield 414, 3) := by decide +kernel
theorem dX11_nots_33 : decode cX11_nots 33 = .ok (.aload_n 0, 1) := by decide +kernel
theorem dX11_nots_34 : decode cX11_nots 34 = .ok (.dup, 1) := by decide +kernel
theorem dX11_nots_35 : decode cX11_nots 35 = .ok (.getfield 420, 3) := by decide +kernel
theorem dX11_nots_38 : decode cX11_nots 38 = .ok (.iconst 1, 1) := by decide +kernel
theorem dX11_nots_39 : decode cX11_nots 39 = .ok (.isub, 1) := by decide +kernel
theorem dX11_nots_40 : decode cX11_nots 40 = .ok (.putfield 420, 3) := by decide +kernel
theorem dX11_nots_43 : decode cX11_nots 43 = .ok (.aload_n 0, 1) := by decide +kernel
theorem dX11_nots_44 : decode cX11_nots 44 = .ok (.bipush 10, 2) := by decide +kernel
theorem dX11_nots_46 : decode cX11_nots 46 = .ok (.iconst 0, 1) := by decide +kernel
theorem dX11_nots_47 : decode cX11_nots 47 = .ok (.iconst 0, 1) := by decide +kernel
theorem dX11_nots_48 : decode cX11_nots 48 = .ok (.invokevirtual 417, 3) := by decide +kernel
theorem dX11_nots_51 : decode cX11_nots 51 = .ok (.goto (-51), 3) := by decide +kernel
theorem dX11_nots_54 : decode cX11_nots 54 = .ok (.return_, 1) := by decide +kernel
theorem dX11_leafOf_0 : decode cX11_leafOf 0 = .ok (.aload_n 0, 1) := by decide +kernel
theorem dX11_leafOf_1 : decode cX11_leafOf 1 = .ok (.ldc2_w 126, 3) := by decide +kernel
theorem dX11_leafOf_4 : decode cX11_leafOf 4 = .ok (.invokevirtual 187, 3) := by decide +kernel
theorem dX11_leafOf_7 : decode cX11_leafOf 7 = .ok (.ifCond .eq 7, 3) := by decide +kernel
theorem dX11_leafOf_10 : decode cX11_leafOf 10 = .ok (.iconst 0, 1) := by decide +kernel
theorem dX11_leafOf_11 : decode cX11_leafOf 11 = .ok (.goto 74, 3) := by decide +kernel
theorem dX11_leafOf_14 : decode cX11_leafOf 14 = .ok (.aload_n 0, 1) := by decide +kernel
theorem dX11_leafOf_15 : decode cX11_leafOf 15 = .ok (.ldc2_w 128, 3) := by decide +kernel
theorem dX11_leafOf_18 : decode cX11_leafOf 18 = .ok (.invokevirtual 187, 3) := by decide +kernel
theorem dX11_leafOf_21 : decode cX11_leafOf 21 = .ok (.ifCond .eq 7, 3) := by decide +kernel
theorem dX11_leafOf_24 : decode cX11_leafOf 24 = .ok (.iconst 1, 1) := by decide +kernel
theorem dX11_leafOf_25 : decode cX11_leafOf 25 = .ok (.goto 60, 3) := by decide +kernel
theorem dX11_leafOf_28 : decode cX11_leafOf 28 = .ok (.aload_n 0, 1) := by decide +kernel
theorem dX11_leafOf_29 : decode cX11_leafOf 29 = .ok (.ldc2_w 130, 3) := by decide +kernel
theorem dX11_leafOf_32 : decode cX11_leafOf 32 = .ok (.invokevirtual 187, 3) := by decide +kernel
theorem dX11_leafOf_35 : decode cX11_leafOf 35 = .ok (.ifCond .eq 7, 3) := by decide +kernel
theorem dX11_leafOf_38 : decode cX11_leafOf 38 = .ok (.iconst 2, 1) := by decide +kernel
theorem dX11_leafOf_39 : decode cX11_leafOf 39 = .ok (.goto 46, 3) := by decide +kernel
theorem dX11_leafOf_42 : decode cX11_leafOf 42 = .ok (.aload_n 0, 1) := by decide +kernel
theorem dX11_leafOf_43 : decode cX11_leafOf 43 = .ok (.ldc2_w 132, 3) := by decide +kernel
theorem dX11_leafOf_46 : decode cX11_leafOf 46 = .ok (.invokevirtual 187, 3) := by decide +kernel
theorem dX11_leafOf_49 : decode cX11_leafOf 49 = .ok (.ifCond .eq 7, 3) := by decide +kernel
theorem dX11_leafOf_52 : decode cX11_leafOf 52 = .ok (.iconst 3, 1) := by decide +kernel
theorem dX11_leafOf_53 : decode cX11_leafOf 53 = .ok (.goto 32, 3) := by decide +kernel
theorem dX11_leafOf_56 : decode cX11_leafOf 56 = .ok (.aload_n 0, 1) := by decide +kernel
theorem dX11_leafOf_57 : decode cX11_leafOf 57 = .ok (.ldc2_w 134, 3) := by decide +kernel
theorem dX11_leafOf_60 : decode cX11_leafOf 60 = .ok (.invokevirtual 187, 3) := by decide +kernel
theorem dX11_leafOf_63 : decode cX11_leafOf 63 = .ok (.ifCond .eq 7, 3) := by decide +kernel
theorem dX11_leafOf_66 : decode cX11_leafOf 66 = .ok (.iconst 4, 1) := by decide +kernel
theorem dX11_leafOf_67 : decode cX11_leafOf 67 = .ok (.goto 18, 3) := by decide +kernel
theorem dX11_leafOf_70 : decode cX11_leafOf 70 = .ok (.aload_n 0, 1) := by decide +kernel
theorem dX11_leafOf_71 : decode cX11_leafOf 71 = .ok (.ldc2_w 136, 3) := by decide +kernel
theorem dX11_leafOf_74 : decode cX11_leafOf 74 = .ok (.invokevirtual 187, 3) := by decide +kernel
theorem dX11_leafOf_77 : decode cX11_leafOf 77 = .ok (.ifCond .eq 7, 3) := by decide +kernel
theorem dX11_leafOf_80 : decode cX11_leafOf 80 = .ok (.iconst 5, 1) := by decide +kernel
theorem dX11_leafOf_81 : decode cX11_leafOf 81 = .ok (.goto 4, 3) := by decide +kernel
theorem dX11_leafOf_84 : decode cX11_leafOf 84 = .ok (.iconst (-1), 1) := by decide +kernel
theorem dX11_leafOf_85 : decode cX11_leafOf 85 = .ok (.ireturn, 1) := by decide +kernel
theorem dX11_operand_0 : decode cX11_operand 0 = .ok (.aload_n 0, 1) := by decide +kernel
theorem dX11_operand_1 : decode cX11_operand 1 = .ok (.ldc2_w 124, 3) := by decide +kernel
theorem dX11_operand_4 : decode cX11_operand 4 = .ok (.invokevirtual 187, 3) := by decide +kernel
theorem dX11_operand_7 : decode cX11_operand 7 = .ok (.istore_n 1, 1) := by decide +kernel
theorem dX11_operand_8 : decode cX11_operand 8 = .ok (.aload_n 0, 1) := by decide +kernel
theorem dX11_operand_9 : decode cX11_operand 9 = .ok (.bipush 40, 2) := by decide +kernel
theorem dX11_operand_11 : decode cX11_operand 11 = .ok (.invokevirtual 171, 3) := by decide +kernel
theorem dX11_operand_14 : decode cX11_operand 14 = .ok (.istore_n 2, 1) := by decide +kernel
theorem dX11_operand_15 : decode cX11_operand 15 = .ok (.aload_n 0, 1) := by decide +kernel
theorem dX11_operand_16 : decode cX11_operand 16 = .ok (.invokevirtual 423, 3) := by decide +kernel
theorem dX11_operand_19 : decode cX11_operand 19 = .ok (.istore_n 3, 1) := by decide +kernel
theorem dX11_operand_20 : decode cX11_operand 20 = .ok (.iload_n 1, 1) := by decide +kernel
theorem dX11_operand_21 : decode cX11_operand 21 = .ok (.ifCond .ne 17, 3) := by decide +kernel
theorem dX11_operand_24 : decode cX11_operand 24 = .ok (.iload_n 2, 1) := by decide +kernel
theorem dX11_operand_25 : decode cX11_operand 25 = .ok (.ifCond .ne 13, 3) := by decide +kernel
theorem dX11_operand_28 : decode cX11_operand 28 = .ok (.iload_n 3, 1) := by decide +kernel
theorem dX11_operand_29 : decode cX11_operand 29 = .ok (.ifCond .ge 9, 3) := by decide +kernel
theorem dX11_operand_32 : decode cX11_operand 32 = .ok (.aload_n 0, 1) := by decide +kernel
theorem dX11_operand_33 : decode cX11_operand 33 = .ok (.iconst 1, 1) := by decide +kernel
theorem dX11_operand_34 : decode cX11_operand 34 = .ok (.invokevirtual 174, 3) := by decide +kernel
theorem dX11_operand_37 : decode cX11_operand 37 = .ok (.ireturn, 1) := by decide +kernel
theorem dX11_operand_38 : decode cX11_operand 38 = .ok (.aload_n 0, 1) := by decide +kernel
theorem dX11_operand_39 : decode cX11_operand 39 = .ok (.getfield 426, 3) := by decide +kernel
theorem dX11_operand_42 : decode cX11_operand 42 = .ok (.bipush 20, 2) := by decide +kernel
theorem dX11_operand_44 : decode cX11_operand 44 = .ok (.if_icmp .eq 12, 3) := by decide +kernel
theorem dX11_operand_47 : decode cX11_operand 47 = .ok (.aload_n 0, 1) := by decide +kernel
theorem dX11_operand_48 : decode cX11_operand 48 = .ok (.getfield 420, 3) := by decide +kernel
theorem dX11_operand_51 : decode cX11_operand 51 = .ok (.bipush 8, 2) := by decide +kernel
theorem dX11_operand_53 : decode cX11_operand 53 = .ok (.if_icmp .le 9, 3) := by decide +kernel
theorem dX11_operand_56 : decode cX11_operand 56 = .ok (.aload_n 0, 1) := by decide +kernel
theorem dX11_operand_57 : decode cX11_operand 57 = .ok (.iconst 4, 1) := by decide +kernel
theorem dX11_operand_58 : decode cX11_operand 58 = .ok (.invokevirtual 174, 3) := by decide +kernel
theorem dX11_operand_61 : decode cX11_operand 61 = .ok (.ireturn, 1) := by decide +kernel
theorem dX11_operand_62 : decode cX11_operand 62 = .ok (.aload_n 0, 1) := by decide +kernel
theorem dX11_operand_63 : decode cX11_operand 63 = .ok (.dup, 1) := by decide +kernel
theorem dX11_operand_64 : decode cX11_operand 64 = .ok (.getfield 426, 3) := by decide +kernel
theorem dX11_operand_67 : decode cX11_operand 67 = .ok (.iconst 1, 1) := by decide +kernel
theorem dX11_operand_68 : decode cX11_operand 68 = .ok (.iadd, 1) := by decide +kernel
theorem dX11_operand_69 : decode cX11_operand 69 = .ok (.putfield 426, 3) := by decide +kernel
theorem dX11_operand_72 : decode cX11_operand 72 = .ok (.aload_n 0, 1) := by decide +kernel
theorem dX11_operand_73 : decode cX11_operand 73 = .ok (.invokevirtual 177, 3) := by decide +kernel
theorem dX11_operand_76 : decode cX11_operand 76 = .ok (.iload_n 1, 1) := by decide +kernel
theorem dX11_operand_77 : decode cX11_operand 77 = .ok (.ifCond .ne 7, 3) := by decide +kernel
theorem dX11_operand_80 : decode cX11_operand 80 = .ok (.iload_n 2, 1) := by decide +kernel
theorem dX11_operand_81 : decode cX11_operand 81 = .ok (.ifCond .eq 45, 3) := by decide +kernel
theorem dX11_operand_84 : decode cX11_operand 84 = .ok (.aload_n 0, 1) := by decide +kernel
theorem dX11_operand_85 : decode cX11_operand 85 = .ok (.getfield 74, 3) := by decide +kernel
theorem dX11_operand_88 : decode cX11_operand 88 = .ok (.aload_n 0, 1) := by decide +kernel
theorem dX11_operand_89 : decode cX11_operand 89 = .ok (.getfield 414, 3) := by decide +kernel
theorem dX11_operand_92 : decode cX11_operand 92 = .ok (.iload_n 1, 1) := by decide +kernel
theorem dX11_operand_93 : decode cX11_operand 93 = .ok (.ifCond .eq 8, 3) := by decide +kernel
theorem dX11_operand_96 : decode cX11_operand 96 = .ok (.bipush 10, 2) := by decide +kernel
theorem dX11_operand_98 : decode cX11_operand 98 = .ok (.goto 5, 3) := by decide +kernel
theorem dX11_operand_101 : decode cX11_operand 101 = .ok (.bipush 13, 2) := by decide +kernel
theorem dX11_operand_103 : decode cX11_operand 103 = .ok (.iastore, 1) := by decide +kernel
theorem dX11_operand_104 : decode cX11_operand 104 = .ok (.aload_n 0, 1) := by decide +kernel
theorem dX11_operand_105 : decode cX11_operand 105 = .ok (.dup, 1) := by decide +kernel
theorem dX11_operand_106 : decode cX11_operand 106 = .ok (.getfield 414, 3) := by decide +kernel
theorem dX11_operand_109 : decode cX11_operand 109 = .ok (.iconst 1, 1) := by decide +kernel
theorem dX11_operand_110 : decode cX11_operand 110 = .ok (.iadd, 1) := by decide +kernel
theorem dX11_operand_111 : decode cX11_operand 111 = .ok (.putfield 414, 3) := by decide +kernel
theorem dX11_operand_114 : decode cX11_operand 114 = .ok (.aload_n 0, 1) := by decide +kernel
theorem dX11_operand_115 : decode cX11_operand 115 = .ok (.dup, 1) := by decide +kernel
theorem dX11_operand_116 : decode cX11_operand 116 = .ok (.getfield 420, 3) := by decide +kernel
theorem dX11_operand_119 : decode cX11_operand 119 = .ok (.iconst 1, 1) := by decide +kernel
theorem dX11_operand_120 : decode cX11_operand 120 = .ok (.iadd, 1) := by decide +kernel
theorem dX11_operand_121 : decode cX11_operand 121 = .ok (.putfield 420, 3) := by decide +kernel
theorem dX11_operand_124 : decode cX11_operand 124 = .ok (.iconst 1, 1) := by decide +kernel
theorem dX11_operand_125 : decode cX11_operand 125 = .ok (.ireturn, 1) := by decide +kernel
theorem dX11_operand_126 : decode cX11_operand 126 = .ok (.aload_n 0, 1) := by decide +kernel
theorem dX11_operand_127 : decode cX11_operand 127 = .ok (.iconst 1, 1) := by decide +kernel
theorem dX11_operand_128 : decode cX11_operand 128 = .ok (.putfield 429, 3) := by decide +kernel
theorem dX11_operand_131 : decode cX11_operand 131 = .ok (.iload_n 3, 1) := by decide +kernel
theorem dX11_operand_132 : decode cX11_operand 132 = .ok (.ifCond .ne 12, 3) := by decide +kernel
theorem dX11_operand_135 : decode cX11_operand 135 = .ok (.aload_n 0, 1) := by decide +kernel
theorem dX11_operand_136 : decode cX11_operand 136 = .ok (.iload_n 3, 1) := by decide +kernel
theorem dX11_operand_137 : decode cX11_operand 137 = .ok (.iconst 0, 1) := by decide +kernel
theorem dX11_operand_138 : decode cX11_operand 138 = .ok (.iconst 0, 1) := by decide +kernel
theorem dX11_operand_139 : decode cX11_operand 139 = .ok (.invokevirtual 417, 3) := by decide +kernel
theorem dX11_operand_142 : decode cX11_operand 142 = .ok (.iconst 1, 1) := by decide +kernel
theorem dX11_operand_143 : decode cX11_operand 143 = .ok (.ireturn, 1) := by decide +kernel
theorem dX11_operand_144 : decode cX11_operand 144 = .ok (.aload_n 0, 1) := by decide +kernel
theorem dX11_operand_145 : decode cX11_operand 145 = .ok (.getfield 148, 3) := by decide +kernel
theorem dX11_operand_148 : decode cX11_operand 148 = .ok (.iconst 3, 1) := by decide +kernel
theorem dX11_operand_149 : decode cX11_operand 149 = .ok (.if_icmp .ne 21, 3) := by decide +kernel
theorem dX11_operand_152 : decode cX11_operand 152 = .ok (.aload_n 0, 1) := by decide +kernel
theorem dX11_operand_153 : decode cX11_operand 153 = .ok (.getfield 158, 3) := by decide +kernel
theorem dX11_operand_156 : decode cX11_operand 156 = .ok (.bipush 60, 2) := by decide +kernel
theorem dX11_operand_158 : decode cX11_operand 158 = .ok (.if_icmp .lt 12, 3) := by decide +kernel
theorem dX11_operand_161 : decode cX11_operand 161 = .ok (.aload_n 0, 1) := by decide +kernel
theorem dX11_operand_162 : decode cX11_operand 162 = .ok (.getfield 158, 3) := by decide +kernel
theorem dX11_operand_165 : decode cX11_operand 165 = .ok (.bipush 62, 2) := by decide +kernel
theorem dX11_operand_167 : decode cX11_operand 167 = .ok (.if_icmp .le 9, 3) := by decide +kernel
theorem dX11_operand_170 : decode cX11_operand 170 = .ok (.aload_n 0, 1) := by decide +kernel
theorem dX11_operand_171 : decode cX11_operand 171 = .ok (.iconst 1, 1) := by decide +kernel
theorem dX11_operand_172 : decode cX11_operand 172 = .ok (.invokevirtual 174, 3) := by decide +kernel
theorem dX11_operand_175 : decode cX11_operand 175 = .ok (.ireturn, 1) := by decide +kernel
theorem dX11_operand_176 : decode cX11_operand 176 = .ok (.aload_n 0, 1) := by decide +kernel
theorem dX11_operand_177 : decode cX11_operand 177 = .ok (.getfield 158, 3) := by decide +kernel
theorem dX11_operand_180 : decode cX11_operand 180 = .ok (.istore 4, 2) := by decide +kernel
theorem dX11_operand_182 : decode cX11_operand 182 = .ok (.aload_n 0, 1) := by decide +kernel
theorem dX11_operand_183 : decode cX11_operand 183 = .ok (.invokevirtual 177, 3) := by decide +kernel
theorem dX11_operand_186 : decode cX11_operand 186 = .ok (.aload_n 0, 1) := by decide +kernel
theorem dX11_operand_187 : decode cX11_operand 187 = .ok (.getfield 148, 3) := by decide +kernel
theorem dX11_operand_190 : decode cX11_operand 190 = .ok (.iconst 2, 1) := by decide +kernel
theorem dX11_operand_191 : decode cX11_operand 191 = .ok (.if_icmp .eq 9, 3) := by decide +kernel
theorem dX11_operand_194 : decode cX11_operand 194 = .ok (.aload_n 0, 1) := by decide +kernel
theorem dX11_operand_195 : decode cX11_operand 195 = .ok (.iconst 1, 1) := by decide +kernel
theorem dX11_operand_196 : decode cX11_operand 196 = .ok (.invokevirtual 174, 3) := by decide +kernel
theorem dX11_operand_199 : decode cX11_operand 199 = .ok (.ireturn, 1) := by decide +kernel
theorem dX11_operand_200 : decode cX11_operand 200 = .ok (.aload_n 0, 1) := by decide +kernel
theorem dX11_operand_201 : decode cX11_operand 201 = .ok (.iload_n 3, 1) := by decide +kernel
theorem dX11_operand_202 : decode cX11_operand 202 = .ok (.iload 4, 2) := by decide +kernel
theorem dX11_operand_204 : decode cX11_operand 204 = .ok (.aload_n 0, 1) := by decide +kernel
theorem dX11_operand_205 : decode cX11_operand 205 = .ok (.getfield 158, 3) := by decide +kernel
theorem dX11_operand_208 : decode cX11_operand 208 = .ok (.invokevirtual 417, 3) := by decide +kernel
theorem dX11_operand_211 : decode cX11_operand 211 = .ok (.aload_n 0, 1) := by decide +kernel
theorem dX11_operand_212 : decode cX11_operand 212 = .ok (.invokevirtual 177, 3) := by decide +kernel
theorem dX11_operand_215 : decode cX11_operand 215 = .ok (.iconst 1, 1) := by decide +kernel
theorem dX11_operand_216 : decode cX11_operand 216 = .ok (.ireturn, 1) := by decide +kernel
theorem dX11_behind_0 : decode cX11_behind 0 = .ok (.aload_n 0, 1) := by decide +kernel
theorem dX11_behind_1 : decode cX11_behind 1 = .ok (.invokevirtual 432, 3) := by decide +kernel
theorem dX11_behind_4 : decode cX11_behind 4 = .ok (.aload_n 0, 1) := by decide +kernel
theorem dX11_behind_5 : decode cX11_behind 5 = .ok (.ldc2_w 122, 3) := by decide +kernel
theorem dX11_behind_8 : decode cX11_behind 8 = .ok (.invokevirtual 187, 3) := by decide +kernel
theorem dX11_behind_11 : decode cX11_behind 11 = .ok (.ifCond .ne 13, 3) := by decide +kernel
theorem dX11_behind_14 : decode cX11_behind 14 = .ok (.aload_n 0, 1) := by decide +kernel
theorem dX11_behind_15 : decode cX11_behind 15 = .ok (.ldc2_w 120, 3) := by decide +kernel
theorem dX11_behind_18 : decode cX11_behind 18 = .ok (.invokevirtual 187, 3) := by decide +kernel
theorem dX11_behind_21 : decode cX11_behind 21 = .ok (.ifCond .eq 71, 3) := by decide +kernel
theorem dX11_behind_24 : decode cX11_behind 24 = .ok (.aload_n 0, 1) := by decide +kernel
theorem dX11_behind_25 : decode cX11_behind 25 = .ok (.aload_n 0, 1) := by decide +kernel
theorem dX11_behind_26 : decode cX11_behind 26 = .ok (.ldc2_w 122, 3) := by decide +kernel
theorem dX11_behind_29 : decode cX11_behind 29 = .ok (.invokevirtual 187, 3) := by decide +kernel
theorem dX11_behind_32 : decode cX11_behind 32 = .ok (.ifCond .eq 8, 3) := by decide +kernel
theorem dX11_behind_35 : decode cX11_behind 35 = .ok (.bipush 11, 2) := by decide +kernel
theorem dX11_behind_37 : decode cX11_behind 37 = .ok (.goto 5, 3) := by decide +kernel
theorem dX11_behind_40 : decode cX11_behind 40 = .ok (.bipush 12, 2) := by decide +kernel
theorem dX11_behind_42 : decode cX11_behind 42 = .ok (.invokevirtual 435, 3) := by decide +kernel
theorem dX11_behind_45 : decode cX11_behind 45 = .ok (.aload_n 0, 1) := by decide +kernel
theorem dX11_behind_46 : decode cX11_behind 46 = .ok (.getfield 74, 3) := by decide +kernel
theorem dX11_behind_49 : decode cX11_behind 49 = .ok (.aload_n 0, 1) := by decide +kernel
theorem dX11_behind_50 : decode cX11_behind 50 = .ok (.getfield 414, 3) := by decide +kernel
theorem dX11_behind_53 : decode cX11_behind 53 = .ok (.aload_n 0, 1) := by decide +kernel
theorem dX11_behind_54 : decode cX11_behind 54 = .ok (.ldc2_w 122, 3) := by decide +kernel
theorem dX11_behind_57 : decode cX11_behind 57 = .ok (.invokevirtual 187, 3) := by decide +kernel
theorem dX11_behind_60 : decode cX11_behind 60 = .ok (.ifCond .eq 8, 3) := by decide +kernel
theorem dX11_behind_63 : decode cX11_behind 63 = .ok (.bipush 11, 2) := by decide +kernel
theorem dX11_behind_65 : decode cX11_behind 65 = .ok (.goto 5, 3) := by decide +kernel
theorem dX11_behind_68 : decode cX11_behind 68 = .ok (.bipush 12, 2) := by decide +kernel
theorem dX11_behind_70 : decode cX11_behind 70 = .ok (.iastore, 1) := by decide +kernel
theorem dX11_behind_71 : decode cX11_behind 71 = .ok (.aload_n 0, 1) := by decide +kernel
theorem dX11_behind_72 : decode cX11_behind 72 = .ok (.dup, 1) := by decide +kernel
theorem dX11_behind_73 : decode cX11_behind 73 = .ok (.getfield 414, 3) := by decide +kernel
theorem dX11_behind_76 : decode cX11_behind 76 = .ok (.iconst 1, 1) := by decide +kernel
theorem dX11_behind_77 : decode cX11_behind 77 = .ok (.iadd, 1) := by decide +kernel
theorem dX11_behind_78 : decode cX11_behind 78 = .ok (.putfield 414, 3) := by decide +kernel
theorem dX11_behind_81 : decode cX11_behind 81 = .ok (.aload_n 0, 1) := by decide +kernel
theorem dX11_behind_82 : decode cX11_behind 82 = .ok (.iconst 0, 1) := by decide +kernel
theorem dX11_behind_83 : decode cX11_behind 83 = .ok (.putfield 429, 3) := by decide +kernel
theorem dX11_behind_86 : decode cX11_behind 86 = .ok (.aload_n 0, 1) := by decide +kernel
theorem dX11_behind_87 : decode cX11_behind 87 = .ok (.invokevirtual 177, 3) := by decide +kernel
theorem dX11_behind_90 : decode cX11_behind 90 = .ok (.iconst 1, 1) := by decide +kernel
theorem dX11_behind_91 : decode cX11_behind 91 = .ok (.ireturn, 1) := by decide +kernel
theorem dX11_behind_92 : decode cX11_behind 92 = .ok (.aload_n 0, 1) := by decide +kernel
theorem dX11_behind_93 : decode cX11_behind 93 = .ok (.bipush 12, 2) := by decide +kernel
theorem dX11_behind_95 : decode cX11_behind 95 = .ok (.invokevirtual 435, 3) := by decide +kernel
theorem dX11_behind_98 : decode cX11_behind 98 = .ok (.aload_n 0, 1) := by decide +kernel
theorem dX11_behind_99 : decode cX11_behind 99 = .ok (.bipush 41, 2) := by decide +kernel
theorem dX11_behind_101 : decode cX11_behind 101 = .ok (.invokevirtual 171, 3) := by decide +kernel
theorem dX11_behind_104 : decode cX11_behind 104 = .ok (.ifCond .eq 10, 3) := by decide +kernel
theorem dX11_behind_107 : decode cX11_behind 107 = .ok (.aload_n 0, 1) := by decide +kernel
theorem dX11_behind_108 : decode cX11_behind 108 = .ok (.getfield 414, 3) := by decide +kernel
theorem dX11_behind_111 : decode cX11_behind 111 = .ok (.ifCond .ne 9, 3) := by decide +kernel
theorem dX11_behind_114 : decode cX11_behind 114 = .ok (.aload_n 0, 1) := by decide +kernel
theorem dX11_behind_115 : decode cX11_behind 115 = .ok (.iconst 1, 1) := by decide +kernel
theorem dX11_behind_116 : decode cX11_behind 116 = .ok (.invokevirtual 174, 3) := by decide +kernel
theorem dX11_behind_119 : decode cX11_behind 119 = .ok (.ireturn, 1) := by decide +kernel
theorem dX11_behind_120 : decode cX11_behind 120 = .ok (.aload_n 0, 1) := by decide +kernel
theorem dX11_behind_121 : decode cX11_behind 121 = .ok (.dup, 1) := by decide +kernel
theorem dX11_behind_122 : decode cX11_behind 122 = .ok (.getfield 414, 3) := by decide +kernel
theorem dX11_behind_125 : decode cX11_behind 125 = .ok (.iconst 1, 1) := by decide +kernel
theorem dX11_behind_126 : decode cX11_behind 126 = .ok (.isub, 1) := by decide +kernel
theorem dX11_behind_127 : decode cX11_behind 127 = .ok (.putfield 414, 3) := by decide +kernel
theorem dX11_behind_130 : decode cX11_behind 130 = .ok (.aload_n 0, 1) := by decide +kernel
theorem dX11_behind_131 : decode cX11_behind 131 = .ok (.dup, 1) := by decide +kernel
theorem dX11_behind_132 : decode cX11_behind 132 = .ok (.getfield 420, 3) := by decide +kernel
theorem dX11_behind_135 : decode cX11_behind 135 = .ok (.iconst 1, 1) := by decide +kernel
theorem dX11_behind_136 : decode cX11_behind 136 = .ok (.isub, 1) := by decide +kernel
theorem dX11_behind_137 : decode cX11_behind 137 = .ok (.putfield 420, 3) := by decide +kernel
theorem dX11_behind_140 : decode cX11_behind 140 = .ok (.aload_n 0, 1) := by decide +kernel
theorem dX11_behind_141 : decode cX11_behind 141 = .ok (.invokevirtual 177, 3) := by decide +kernel
theorem dX11_behind_144 : decode cX11_behind 144 = .ok (.iconst 1, 1) := by decide +kernel
theorem dX11_behind_145 : decode cX11_behind 145 = .ok (.ireturn, 1) := by decide +kernel
theorem dX11_sentence_0 : decode cX11_sentence 0 = .ok (.aload_n 0, 1) := by decide +kernel
theorem dX11_sentence_1 : decode cX11_sentence 1 = .ok (.iconst 0, 1) := by decide +kernel
theorem dX11_sentence_2 : decode cX11_sentence 2 = .ok (.putfield 1, 3) := by decide +kernel
theorem dX11_sentence_5 : decode cX11_sentence 5 = .ok (.aload_n 0, 1) := by decide +kernel
theorem dX11_sentence_6 : decode cX11_sentence 6 = .ok (.sipush 200, 3) := by decide +kernel
theorem dX11_sentence_9 : decode cX11_sentence 9 = .ok (.invokevirtual 249, 3) := by decide +kernel
theorem dX11_sentence_12 : decode cX11_sentence 12 = .ok (.aload_n 0, 1) := by decide +kernel
theorem dX11_sentence_13 : decode cX11_sentence 13 = .ok (.iconst 0, 1) := by decide +kernel
theorem dX11_sentence_14 : decode cX11_sentence 14 = .ok (.putfield 165, 3) := by decide +kernel
theorem dX11_sentence_17 : decode cX11_sentence 17 = .ok (.aload_n 0, 1) := by decide +kernel
theorem dX11_sentence_18 : decode cX11_sentence 18 = .ok (.iconst 0, 1) := by decide +kernel
theorem dX11_sentence_19 : decode cX11_sentence 19 = .ok (.putfield 411, 3) := by decide +kernel
theorem dX11_sentence_22 : decode cX11_sentence 22 = .ok (.aload_n 0, 1) := by decide +kernel
theorem dX11_sentence_23 : decode cX11_sentence 23 = .ok (.iconst 0, 1) := by decide +kernel
theorem dX11_sentence_24 : decode cX11_sentence 24 = .ok (.putfield 426, 3) := by decide +kernel
theorem dX11_sentence_27 : decode cX11_sentence 27 = .ok (.aload_n 0, 1) := by decide +kernel
theorem dX11_sentence_28 : decode cX11_sentence 28 = .ok (.iconst 0, 1) := by decide +kernel
theorem dX11_sentence_29 : decode cX11_sentence 29 = .ok (.putfield 414, 3) := by decide +kernel
theorem dX11_sentence_32 : decode cX11_sentence 32 = .ok (.aload_n 0, 1) := by decide +kernel
theorem dX11_sentence_33 : decode cX11_sentence 33 = .ok (.iconst 1, 1) := by decide +kernel
theorem dX11_sentence_34 : decode cX11_sentence 34 = .ok (.putfield 420, 3) := by decide +kernel
theorem dX11_sentence_37 : decode cX11_sentence 37 = .ok (.aload_n 0, 1) := by decide +kernel
theorem dX11_sentence_38 : decode cX11_sentence 38 = .ok (.iconst 0, 1) := by decide +kernel
theorem dX11_sentence_39 : decode cX11_sentence 39 = .ok (.putfield 429, 3) := by decide +kernel
theorem dX11_sentence_42 : decode cX11_sentence 42 = .ok (.aload_n 0, 1) := by decide +kernel
theorem dX11_sentence_43 : decode cX11_sentence 43 = .ok (.invokevirtual 177, 3) := by decide +kernel
theorem dX11_sentence_46 : decode cX11_sentence 46 = .ok (.iconst 1, 1) := by decide +kernel
theorem dX11_sentence_47 : decode cX11_sentence 47 = .ok (.istore_n 1, 1) := by decide +kernel
theorem dX11_sentence_48 : decode cX11_sentence 48 = .ok (.iload_n 1, 1) := by decide +kernel
theorem dX11_sentence_49 : decode cX11_sentence 49 = .ok (.ifCond .eq 83, 3) := by decide +kernel
theorem dX11_sentence_52 : decode cX11_sentence 52 = .ok (.aload_n 0, 1) := by decide +kernel
theorem dX11_sentence_53 : decode cX11_sentence 53 = .ok (.getfield 429, 3) := by decide +kernel
theorem dX11_sentence_56 : decode cX11_sentence 56 = .ok (.ifCond .eq 45, 3) := by decide +kernel
theorem dX11_sentence_59 : decode cX11_sentence 59 = .ok (.aload_n 0, 1) := by decide +kernel
theorem dX11_sentence_60 : decode cX11_sentence 60 = .ok (.getfield 148, 3) := by decide +kernel
theorem dX11_sentence_63 : decode cX11_sentence 63 = .ok (.ifCond .ne 38, 3) := by decide +kernel
theorem dX11_sentence_66 : decode cX11_sentence 66 = .ok (.aload_n 0, 1) := by decide +kernel
theorem dX11_sentence_67 : decode cX11_sentence 67 = .ok (.invokevirtual 432, 3) := by decide +kernel
theorem dX11_sentence_70 : decode cX11_sentence 70 = .ok (.aload_n 0, 1) := by decide +kernel
theorem dX11_sentence_71 : decode cX11_sentence 71 = .ok (.bipush 12, 2) := by decide +kernel
theorem dX11_sentence_73 : decode cX11_sentence 73 = .ok (.invokevirtual 435, 3) := by decide +kernel
theorem dX11_sentence_76 : decode cX11_sentence 76 = .ok (.aload_n 0, 1) := by decide +kernel
theorem dX11_sentence_77 : decode cX11_sentence 77 = .ok (.getfield 414, 3) := by decide +kernel
theorem dX11_sentence_80 : decode cX11_sentence 80 = .ok (.ifCond .le 16, 3) := by decide +kernel
theorem dX11_sentence_83 : decode cX11_sentence 83 = .ok (.aload_n 0, 1) := by decide +kernel
theorem dX11_sentence_84 : decode cX11_sentence 84 = .ok (.iconst 1, 1) := by decide +kernel
theorem dX11_sentence_85 : decode cX11_sentence 85 = .ok (.invokevirtual 174, 3) := by decide +kernel
theorem dX11_sentence_88 : decode cX11_sentence 88 = .ok (.pop, 1) := by decide +kernel
theorem dX11_sentence_89 : decode cX11_sentence 89 = .ok (.iconst (-1), 1) := by decide +kernel
theorem dX11_sentence_90 : decode cX11_sentence 90 = .ok (.aload_n 0, 1) := by decide +kernel
theorem dX11_sentence_91 : decode cX11_sentence 91 = .ok (.getfield 168, 3) := by decide +kernel
theorem dX11_sentence_94 : decode cX11_sentence 94 = .ok (.isub, 1) := by decide +kernel
theorem dX11_sentence_95 : decode cX11_sentence 95 = .ok (.ireturn, 1) := by decide +kernel
theorem dX11_sentence_96 : decode cX11_sentence 96 = .ok (.iconst 0, 1) := by decide +kernel
theorem dX11_sentence_97 : decode cX11_sentence 97 = .ok (.istore_n 1, 1) := by decide +kernel
theorem dX11_sentence_98 : decode cX11_sentence 98 = .ok (.goto (-50), 3) := by decide +kernel
theorem dX11_sentence_101 : decode cX11_sentence 101 = .ok (.aload_n 0, 1) := by decide +kernel
theorem dX11_sentence_102 : decode cX11_sentence 102 = .ok (.getfield 429, 3) := by decide +kernel
theorem dX11_sentence_105 : decode cX11_sentence 105 = .ok (.ifCond .eq 13, 3) := by decide +kernel
theorem dX11_sentence_108 : decode cX11_sentence 108 = .ok (.aload_n 0, 1) := by decide +kernel
theorem dX11_sentence_109 : decode cX11_sentence 109 = .ok (.invokevirtual 438, 3) := by decide +kernel
theorem dX11_sentence_112 : decode cX11_sentence 112 = .ok (.ifCond .ne (-64), 3) := by decide +kernel
theorem dX11_sentence_115 : decode cX11_sentence 115 = .ok (.goto 10, 3) := by decide +kernel
theorem dX11_sentence_118 : decode cX11_sentence 118 = .ok (.aload_n 0, 1) := by decide +kernel
theorem dX11_sentence_119 : decode cX11_sentence 119 = .ok (.invokevirtual 441, 3) := by decide +kernel
theorem dX11_sentence_122 : decode cX11_sentence 122 = .ok (.ifCond .ne (-74), 3) := by decide +kernel
theorem dX11_sentence_125 : decode cX11_sentence 125 = .ok (.iconst (-1), 1) := by decide +kernel
theorem dX11_sentence_126 : decode cX11_sentence 126 = .ok (.aload_n 0, 1) := by decide +kernel
theorem dX11_sentence_127 : decode cX11_sentence 127 = .ok (.getfield 168, 3) := by decide +kernel
theorem dX11_sentence_130 : decode cX11_sentence 130 = .ok (.isub, 1) := by decide +kernel
theorem dX11_sentence_131 : decode cX11_sentence 131 = .ok (.ireturn, 1) := by decide +kernel
theorem dX11_sentence_132 : decode cX11_sentence 132 = .ok (.aload_n 0, 1) := by decide +kernel
theorem dX11_sentence_133 : decode cX11_sentence 133 = .ok (.getfield 33, 3) := by decide +kernel
theorem dX11_sentence_136 : decode cX11_sentence 136 = .ok (.sipush 664, 3) := by decide +kernel
theorem dX11_sentence_139 : decode cX11_sentence 139 = .ok (.aload_n 0, 1) := by decide +kernel
theorem dX11_sentence_140 : decode cX11_sentence 140 = .ok (.getfield 411, 3) := by decide +kernel
theorem dX11_sentence_143 : decode cX11_sentence 143 = .ok (.iastore, 1) := by decide +kernel
theorem dX11_sentence_144 : decode cX11_sentence 144 = .ok (.iconst 0, 1) := by decide +kernel
theorem dX11_sentence_145 : decode cX11_sentence 145 = .ok (.istore_n 2, 1) := by decide +kernel
theorem dX11_sentence_146 : decode cX11_sentence 146 = .ok (.iload_n 2, 1) := by decide +kernel
theorem dX11_sentence_147 : decode cX11_sentence 147 = .ok (.iconst 3, 1) := by decide +kernel
theorem dX11_sentence_148 : decode cX11_sentence 148 = .ok (.aload_n 0, 1) := by decide +kernel
theorem dX11_sentence_149 : decode cX11_sentence 149 = .ok (.getfield 411, 3) := by decide +kernel
theorem dX11_sentence_152 : decode cX11_sentence 152 = .ok (.imul, 1) := by decide +kernel
theorem dX11_sentence_153 : decode cX11_sentence 153 = .ok (.if_icmp .ge 25, 3) := by decide +kernel
theorem dX11_sentence_156 : decode cX11_sentence 156 = .ok (.aload_n 0, 1) := by decide +kernel
theorem dX11_sentence_157 : decode cX11_sentence 157 = .ok (.getfield 33, 3) := by decide +kernel
theorem dX11_sentence_160 : decode cX11_sentence 160 = .ok (.sipush 665, 3) := by decide +kernel
theorem dX11_sentence_163 : decode cX11_sentence 163 = .ok (.iload_n 2, 1) := by decide +kernel
theorem dX11_sentence_164 : decode cX11_sentence 164 = .ok (.iadd, 1) := by decide +kernel
theorem dX11_sentence_165 : decode cX11_sentence 165 = .ok (.aload_n 0, 1) := by decide +kernel
theorem dX11_sentence_166 : decode cX11_sentence 166 = .ok (.getfield 40, 3) := by decide +kernel
theorem dX11_sentence_169 : decode cX11_sentence 169 = .ok (.iload_n 2, 1) := by decide +kernel
theorem dX11_sentence_170 : decode cX11_sentence 170 = .ok (.iaload, 1) := by decide +kernel
theorem dX11_sentence_171 : decode cX11_sentence 171 = .ok (.iastore, 1) := by decide +kernel
theorem dX11_sentence_172 : decode cX11_sentence 172 = .ok (.iinc 2 1, 3) := by decide +kernel
theorem dX11_sentence_175 : decode cX11_sentence 175 = .ok (.goto (-29), 3) := by decide +kernel
theorem dX11_sentence_178 : decode cX11_sentence 178 = .ok (.aload_n 0, 1) := by decide +kernel
theorem dX11_sentence_179 : decode cX11_sentence 179 = .ok (.getfield 426, 3) := by decide +kernel
theorem dX11_sentence_182 : decode cX11_sentence 182 = .ok (.ireturn, 1) := by decide +kernel
theorem dX11_isLeaf_0 : decode cX11_isLeaf 0 = .ok (.iload_n 2, 1) := by decide +kernel
theorem dX11_isLeaf_1 : decode cX11_isLeaf 1 = .ok (.ifCond .ne 32, 3) := by decide +kernel
theorem dX11_isLeaf_4 : decode cX11_isLeaf 4 = .ok (.aload_n 0, 1) := by decide +kernel
theorem dX11_isLeaf_5 : decode cX11_isLeaf 5 = .ok (.getfield 33, 3) := by decide +kernel
theorem dX11_isLeaf_8 : decode cX11_isLeaf 8 = .ok (.sipush 541, 3) := by decide +kernel
theorem dX11_isLeaf_11 : decode cX11_isLeaf 11 = .ok (.iaload, 1) := by decide +kernel
theorem dX11_isLeaf_12 : decode cX11_isLeaf 12 = .ok (.aload_n 0, 1) := by decide +kernel
theorem dX11_isLeaf_13 : decode cX11_isLeaf 13 = .ok (.getfield 33, 3) := by decide +kernel
theorem dX11_isLeaf_16 : decode cX11_isLeaf 16 = .ok (.sipush 397, 3) := by decide +kernel
theorem dX11_isLeaf_19 : decode cX11_isLeaf 19 = .ok (.iload_n 1, 1) := by decide +kernel
theorem dX11_isLeaf_20 : decode cX11_isLeaf 20 = .ok (.iadd, 1) := by decide +kernel
theorem dX11_isLeaf_21 : decode cX11_isLeaf 21 = .ok (.iaload, 1) := by decide +kernel
theorem dX11_isLeaf_22 : decode cX11_isLeaf 22 = .ok (.iconst 1, 1) := by decide +kernel
theorem dX11_isLeaf_23 : decode cX11_isLeaf 23 = .ok (.iadd, 1) := by decide +kernel
theorem dX11_isLeaf_24 : decode cX11_isLeaf 24 = .ok (.if_icmp .ne 7, 3) := by decide +kernel
theorem dX11_isLeaf_27 : decode cX11_isLeaf 27 = .ok (.iconst 1, 1) := by decide +kernel
theorem dX11_isLeaf_28 : decode cX11_isLeaf 28 = .ok (.goto 4, 3) := by decide +kernel
theorem dX11_isLeaf_31 : decode cX11_isLeaf 31 = .ok (.iconst 0, 1) := by decide +kernel
theorem dX11_isLeaf_32 : decode cX11_isLeaf 32 = .ok (.ireturn, 1) := by decide +kernel
theorem dX11_isLeaf_33 : decode cX11_isLeaf 33 = .ok (.iload_n 2, 1) := by decide +kernel
theorem dX11_isLeaf_34 : decode cX11_isLeaf 34 = .ok (.iconst 1, 1) := by decide +kernel
theorem dX11_isLeaf_35 : decode cX11_isLeaf 35 = .ok (.if_icmp .ne 16, 3) := by decide +kernel
theorem dX11_isLeaf_38 : decode cX11_isLeaf 38 = .ok (.aload_n 0, 1) := by decide +kernel
theorem dX11_isLeaf_39 : decode cX11_isLeaf 39 = .ok (.getfield 33, 3) := by decide +kernel
theorem dX11_isLeaf_42 : decode cX11_isLeaf 42 = .ok (.sipush 373, 3) := by decide +kernel
theorem dX11_isLeaf_45 : decode cX11_isLeaf 45 = .ok (.iload_n 1, 1) := by decide +kernel
theorem dX11_isLeaf_46 : decode cX11_isLeaf 46 = .ok (.iadd, 1) := by decide +kernel
theorem dX11_isLeaf_47 : decode cX11_isLeaf 47 = .ok (.iaload, 1) := by decide +kernel
theorem dX11_isLeaf_48 : decode cX11_isLeaf 48 = .ok (.goto 58, 3) := by decide +kernel
theorem dX11_isLeaf_51 : decode cX11_isLeaf 51 = .ok (.iload_n 2, 1) := by decide +kernel
theorem dX11_isLeaf_52 : decode cX11_isLeaf 52 = .ok (.iconst 2, 1) := by decide +kernel
theorem dX11_isLeaf_53 : decode cX11_isLeaf 53 = .ok (.if_icmp .ne 16, 3) := by decide +kernel
theorem dX11_isLeaf_56 : decode cX11_isLeaf 56 = .ok (.aload_n 0, 1) := by decide +kernel
theorem dX11_isLeaf_57 : decode cX11_isLeaf 57 = .ok (.getfield 33, 3) := by decide +kernel
theorem dX11_isLeaf_60 : decode cX11_isLeaf 60 = .ok (.sipush 381, 3) := by decide +kernel
theorem dX11_isLeaf_63 : decode cX11_isLeaf 63 = .ok (.iload_n 1, 1) := by decide +kernel
theorem dX11_isLeaf_64 : decode cX11_isLeaf 64 = .ok (.iadd, 1) := by decide +kernel
theorem dX11_isLeaf_65 : decode cX11_isLeaf 65 = .ok (.iaload, 1) := by decide +kernel
theorem dX11_isLeaf_66 : decode cX11_isLeaf 66 = .ok (.goto 40, 3) := by decide +kernel
theorem dX11_isLeaf_69 : decode cX11_isLeaf 69 = .ok (.iload_n 2, 1) := by decide +kernel
theorem dX11_isLeaf_70 : decode cX11_isLeaf 70 = .ok (.iconst 3, 1) := by decide +kernel
theorem dX11_isLeaf_71 : decode cX11_isLeaf 71 = .ok (.if_icmp .ne 16, 3) := by decide +kernel
theorem dX11_isLeaf_74 : decode cX11_isLeaf 74 = .ok (.aload_n 0, 1) := by decide +kernel
theorem dX11_isLeaf_75 : decode cX11_isLeaf 75 = .ok (.getfield 33, 3) := by decide +kernel
theorem dX11_isLeaf_78 : decode cX11_isLeaf 78 = .ok (.sipush 389, 3) := by decide +kernel
theorem dX11_isLeaf_81 : decode cX11_isLeaf 81 = .ok (.iload_n 1, 1) := by decide +kernel
theorem dX11_isLeaf_82 : decode cX11_isLeaf 82 = .ok (.iadd, 1) := by decide +kernel
theorem dX11_isLeaf_83 : decode cX11_isLeaf 83 = .ok (.iaload, 1) := by decide +kernel
theorem dX11_isLeaf_84 : decode cX11_isLeaf 84 = .ok (.goto 22, 3) := by decide +kernel
theorem dX11_isLeaf_87 : decode cX11_isLeaf 87 = .ok (.iload_n 2, 1) := by decide +kernel
theorem dX11_isLeaf_88 : decode cX11_isLeaf 88 = .ok (.iconst 4, 1) := by decide +kernel
theorem dX11_isLeaf_89 : decode cX11_isLeaf 89 = .ok (.if_icmp .ne 16, 3) := by decide +kernel
theorem dX11_isLeaf_92 : decode cX11_isLeaf 92 = .ok (.aload_n 0, 1) := by decide +kernel
theorem dX11_isLeaf_93 : decode cX11_isLeaf 93 = .ok (.getfield 33, 3) := by decide +kernel
theorem dX11_isLeaf_96 : decode cX11_isLeaf 96 = .ok (.sipush 397, 3) := by decide +kernel
theorem dX11_isLeaf_99 : decode cX11_isLeaf 99 = .ok (.iload_n 1, 1) := by decide +kernel
theorem dX11_isLeaf_100 : decode cX11_isLeaf 100 = .ok (.iadd, 1) := by decide +kernel
theorem dX11_isLeaf_101 : decode cX11_isLeaf 101 = .ok (.iaload, 1) := by decide +kernel
theorem dX11_isLeaf_102 : decode cX11_isLeaf 102 = .ok (.goto 4, 3) := by decide +kernel
theorem dX11_isLeaf_105 : decode cX11_isLeaf 105 = .ok (.iload_n 1, 1) := by decide +kernel
theorem dX11_isLeaf_106 : decode cX11_isLeaf 106 = .ok (.istore 5, 2) := by decide +kernel
theorem dX11_isLeaf_108 : decode cX11_isLeaf 108 = .ok (.iload_n 3, 1) := by decide +kernel
theorem dX11_isLeaf_109 : decode cX11_isLeaf 109 = .ok (.bipush 60, 2) := by decide +kernel
theorem dX11_isLeaf_111 : decode cX11_isLeaf 111 = .ok (.if_icmp .ne 18, 3) := by decide +kernel
theorem dX11_isLeaf_114 : decode cX11_isLeaf 114 = .ok (.iload 5, 2) := by decide +kernel
theorem dX11_isLeaf_116 : decode cX11_isLeaf 116 = .ok (.iload 4, 2) := by decide +kernel
theorem dX11_isLeaf_118 : decode cX11_isLeaf 118 = .ok (.if_icmp .ge 7, 3) := by decide +kernel
theorem dX11_isLeaf_121 : decode cX11_isLeaf 121 = .ok (.iconst 1, 1) := by decide +kernel
theorem dX11_isLeaf_122 : decode cX11_isLeaf 122 = .ok (.goto 40, 3) := by decide +kernel
theorem dX11_isLeaf_125 : decode cX11_isLeaf 125 = .ok (.iconst 0, 1) := by decide +kernel
theorem dX11_isLeaf_126 : decode cX11_isLeaf 126 = .ok (.goto 36, 3) := by decide +kernel
theorem dX11_isLeaf_129 : decode cX11_isLeaf 129 = .ok (.iload_n 3, 1) := by decide +kernel
theorem dX11_isLeaf_130 : decode cX11_isLeaf 130 = .ok (.bipush 61, 2) := by decide +kernel
theorem dX11_isLeaf_132 : decode cX11_isLeaf 132 = .ok (.if_icmp .ne 18, 3) := by decide +kernel
theorem dX11_isLeaf_135 : decode cX11_isLeaf 135 = .ok (.iload 5, 2) := by decide +kernel
theorem dX11_isLeaf_137 : decode cX11_isLeaf 137 = .ok (.iload 4, 2) := by decide +kernel
theorem dX11_isLeaf_139 : decode cX11_isLeaf 139 = .ok (.if_icmp .ne 7, 3) := by decide +kernel
theorem dX11_isLeaf_142 : decode cX11_isLeaf 142 = .ok (.iconst 1, 1) := by decide +kernel
theorem dX11_isLeaf_143 : decode cX11_isLeaf 143 = .ok (.goto 19, 3) := by decide +kernel
theorem dX11_isLeaf_146 : decode cX11_isLeaf 146 = .ok (.iconst 0, 1) := by decide +kernel
theorem dX11_isLeaf_147 : decode cX11_isLeaf 147 = .ok (.goto 15, 3) := by decide +kernel
theorem dX11_isLeaf_150 : decode cX11_isLeaf 150 = .ok (.iload 5, 2) := by decide +kernel
theorem dX11_isLeaf_152 : decode cX11_isLeaf 152 = .ok (.iload 4, 2) := by decide +kernel
theorem dX11_isLeaf_154 : decode cX11_isLeaf 154 = .ok (.if_icmp .le 7, 3) := by decide +kernel
theorem dX11_isLeaf_157 : decode cX11_isLeaf 157 = .ok (.iconst 1, 1) := by decide +kernel
theorem dX11_isLeaf_158 : decode cX11_isLeaf 158 = .ok (.goto 4, 3) := by decide +kernel
theorem dX11_isLeaf_161 : decode cX11_isLeaf 161 = .ok (.iconst 0, 1) := by decide +kernel
theorem dX11_isLeaf_162 : decode cX11_isLeaf 162 = .ok (.ireturn, 1) := by decide +kernel
theorem dX11_isSaid_0 : decode cX11_isSaid 0 = .ok (.iconst 0, 1) := by decide +kernel
theorem dX11_isSaid_1 : decode cX11_isSaid 1 = .ok (.istore_n 2, 1) := by decide +kernel
theorem dX11_isSaid_2 : decode cX11_isSaid 2 = .ok (.iconst 0, 1) := by decide +kernel
theorem dX11_isSaid_3 : decode cX11_isSaid 3 = .ok (.istore_n 3, 1) := by decide +kernel
theorem dX11_isSaid_4 : decode cX11_isSaid 4 = .ok (.iload_n 3, 1) := by decide +kernel
theorem dX11_isSaid_5 : decode cX11_isSaid 5 = .ok (.aload_n 0, 1) := by decide +kernel
theorem dX11_isSaid_6 : decode cX11_isSaid 6 = .ok (.getfield 33, 3) := by decide +kernel
theorem dX11_isSaid_9 : decode cX11_isSaid 9 = .ok (.sipush 664, 3) := by decide +kernel
theorem dX11_isSaid_12 : decode cX11_isSaid 12 = .ok (.iaload, 1) := by decide +kernel
theorem dX11_isSaid_13 : decode cX11_isSaid 13 = .ok (.if_icmp .ge 199, 3) := by decide +kernel
theorem dX11_isSaid_16 : decode cX11_isSaid 16 = .ok (.sipush 665, 3) := by decide +kernel
theorem dX11_isSaid_19 : decode cX11_isSaid 19 = .ok (.iconst 3, 1) := by decide +kernel
theorem dX11_isSaid_20 : decode cX11_isSaid 20 = .ok (.iload_n 3, 1) := by decide +kernel
theorem dX11_isSaid_21 : decode cX11_isSaid 21 = .ok (.imul, 1) := by decide +kernel
theorem dX11_isSaid_22 : decode cX11_isSaid 22 = .ok (.iadd, 1) := by decide +kernel
theorem dX11_isSaid_23 : decode cX11_isSaid 23 = .ok (.istore 4, 2) := by decide +kernel
theorem dX11_isSaid_25 : decode cX11_isSaid 25 = .ok (.aload_n 0, 1) := by decide +kernel
theorem dX11_isSaid_26 : decode cX11_isSaid 26 = .ok (.getfield 33, 3) := by decide +kernel
theorem dX11_isSaid_29 : decode cX11_isSaid 29 = .ok (.iload 4, 2) := by decide +kernel
theorem dX11_isSaid_31 : decode cX11_isSaid 31 = .ok (.iaload, 1) := by decide +kernel
theorem dX11_isSaid_32 : decode cX11_isSaid 32 = .ok (.bipush 10, 2) := by decide +kernel
theorem dX11_isSaid_34 : decode cX11_isSaid 34 = .ok (.if_icmp .ne 30, 3) := by decide +kernel
theorem dX11_isSaid_37 : decode cX11_isSaid 37 = .ok (.aload_n 0, 1) := by decide +kernel
theorem dX11_isSaid_38 : decode cX11_isSaid 38 = .ok (.getfield 77, 3) := by decide +kernel
theorem dX11_isSaid_41 : decode cX11_isSaid 41 = .ok (.iload_n 2, 1) := by decide +kernel
theorem dX11_isSaid_42 : decode cX11_isSaid 42 = .ok (.iconst 1, 1) := by decide +kernel
theorem dX11_isSaid_43 : decode cX11_isSaid 43 = .ok (.isub, 1) := by decide +kernel
theorem dX11_isSaid_44 : decode cX11_isSaid 44 = .ok (.aload_n 0, 1) := by decide +kernel
theorem dX11_isSaid_45 : decode cX11_isSaid 45 = .ok (.getfield 77, 3) := by decide +kernel
theorem dX11_isSaid_48 : decode cX11_isSaid 48 = .ok (.iload_n 2, 1) := by decide +kernel
theorem dX11_isSaid_49 : decode cX11_isSaid 49 = .ok (.iconst 1, 1) := by decide +kernel
theorem dX11_isSaid_50 : decode cX11_isSaid 50 = .ok (.isub, 1) := by decide +kernel
theorem dX11_isSaid_51 : decode cX11_isSaid 51 = .ok (.baload, 1) := by decide +kernel
theorem dX11_isSaid_52 : decode cX11_isSaid 52 = .ok (.ifCond .ne 7, 3) := by decide +kernel
theorem dX11_isSaid_55 : decode cX11_isSaid 55 = .ok (.iconst 1, 1) := by decide +kernel
theorem dX11_isSaid_56 : decode cX11_isSaid 56 = .ok (.goto 4, 3) := by decide +kernel
theorem dX11_isSaid_59 : decode cX11_isSaid 59 = .ok (.iconst 0, 1) := by decide +kernel
theorem dX11_isSaid_60 : decode cX11_isSaid 60 = .ok (.bastore, 1) := by decide +kernel
theorem dX11_isSaid_61 : decode cX11_isSaid 61 = .ok (.goto 145, 3) := by decide +kernel
theorem dX11_isSaid_64 : decode cX11_isSaid 64 = .ok (.aload_n 0, 1) := by decide +kernel
theorem dX11_isSaid_65 : decode cX11_isSaid 65 = .ok (.getfield 33, 3) := by decide +kernel
theorem dX11_isSaid_68 : decode cX11_isSaid 68 = .ok (.iload 4, 2) := by decide +kernel
theorem dX11_isSaid_70 : decode cX11_isSaid 70 = .ok (.iaload, 1) := by decide +kernel
theorem dX11_isSaid_71 : decode cX11_isSaid 71 = .ok (.bipush 11, 2) := by decide +kernel
theorem dX11_isSaid_73 : decode cX11_isSaid 73 = .ok (.if_icmp .eq 15, 3) := by decide +kernel
theorem dX11_isSaid_76 : decode cX11_isSaid 76 = .ok (.aload_n 0, 1) := by decide +kernel
theorem dX11_isSaid_77 : decode cX11_isSaid 77 = .ok (.getfield 33, 3) := by decide +kernel
theorem dX11_isSaid_80 : decode cX11_isSaid 80 = .ok (.iload 4, 2) := by decide +kernel
theorem dX11_isSaid_82 : decode cX11_isSaid 82 = .ok (.iaload, 1) := by decide +kernel
theorem dX11_isSaid_83 : decode cX11_isSaid 83 = .ok (.bipush 12, 2) := by decide +kernel
theorem dX11_isSaid_85 : decode cX11_isSaid 85 = .ok (.if_icmp .ne 82, 3) := by decide +kernel
theorem dX11_isSaid_88 : decode cX11_isSaid 88 = .ok (.iinc 2 (-1), 3) := by decide +kernel
theorem dX11_isSaid_91 : decode cX11_isSaid 91 = .ok (.aload_n 0, 1) := by decide +kernel
theorem dX11_isSaid_92 : decode cX11_isSaid 92 = .ok (.getfield 77, 3) := by decide +kernel
theorem dX11_isSaid_95 : decode cX11_isSaid 95 = .ok (.iload_n 2, 1) := by decide +kernel
theorem dX11_isSaid_96 : decode cX11_isSaid 96 = .ok (.iconst 1, 1) := by decide +kernel
theorem dX11_isSaid_97 : decode cX11_isSaid 97 = .ok (.isub, 1) := by decide +kernel
theorem dX11_isSaid_98 : decode cX11_isSaid 98 = .ok (.aload_n 0, 1) := by decide +kernel
theorem dX11_isSaid_99 : decode cX11_isSaid 99 = .ok (.getfield 33, 3) := by decide +kernel
theorem dX11_isSaid_102 : decode cX11_isSaid 102 = .ok (.iload 4, 2) := by decide +kernel
theorem dX11_isSaid_104 : decode cX11_isSaid 104 = .ok (.iaload, 1) := by decide +kernel
theorem dX11_isSaid_105 : decode cX11_isSaid 105 = .ok (.bipush 11, 2) := by decide +kernel
theorem dX11_isSaid_107 : decode cX11_isSaid 107 = .ok (.if_icmp .ne 31, 3) := by decide +kernel
theorem dX11_isSaid_110 : decode cX11_isSaid 110 = .ok (.aload_n 0, 1) := by decide +kernel
theorem dX11_isSaid_111 : decode cX11_isSaid 111 = .ok (.getfield 77, 3) := by decide +kernel
theorem dX11_isSaid_114 : decode cX11_isSaid 114 = .ok (.iload_n 2, 1) := by decide +kernel
theorem dX11_isSaid_115 : decode cX11_isSaid 115 = .ok (.iconst 1, 1) := by decide +kernel
theorem dX11_isSaid_116 : decode cX11_isSaid 116 = .ok (.isub, 1) := by decide +kernel
theorem dX11_isSaid_117 : decode cX11_isSaid 117 = .ok (.baload, 1) := by decide +kernel
theorem dX11_isSaid_118 : decode cX11_isSaid 118 = .ok (.ifCond .eq 16, 3) := by decide +kernel
theorem dX11_isSaid_121 : decode cX11_isSaid 121 = .ok (.aload_n 0, 1) := by decide +kernel
theorem dX11_isSaid_122 : decode cX11_isSaid 122 = .ok (.getfield 77, 3) := by decide +kernel
theorem dX11_isSaid_125 : decode cX11_isSaid 125 = .ok (.iload_n 2, 1) := by decide +kernel
theorem dX11_isSaid_126 : decode cX11_isSaid 126 = .ok (.baload, 1) := by decide +kernel
theorem dX11_isSaid_127 : decode cX11_isSaid 127 = .ok (.ifCond .eq 7, 3) := by decide +kernel
theorem dX11_isSaid_130 : decode cX11_isSaid 130 = .ok (.iconst 1, 1) := by decide +kernel
theorem dX11_isSaid_131 : decode cX11_isSaid 131 = .ok (.goto 32, 3) := by decide +kernel
theorem dX11_isSaid_134 : decode cX11_isSaid 134 = .ok (.iconst 0, 1) := by decide +kernel
theorem dX11_isSaid_135 : decode cX11_isSaid 135 = .ok (.goto 28, 3) := by decide +kernel
theorem dX11_isSaid_138 : decode cX11_isSaid 138 = .ok (.aload_n 0, 1) := by decide +kernel
theorem dX11_isSaid_139 : decode cX11_isSaid 139 = .ok (.getfield 77, 3) := by decide +kernel
theorem dX11_isSaid_142 : decode cX11_isSaid 142 = .ok (.iload_n 2, 1) := by decide +kernel
theorem dX11_isSaid_143 : decode cX11_isSaid 143 = .ok (.iconst 1, 1) := by decide +kernel
theorem dX11_isSaid_144 : decode cX11_isSaid 144 = .ok (.isub, 1) := by decide +kernel
theorem dX11_isSaid_145 : decode cX11_isSaid 145 = .ok (.baload, 1) := by decide +kernel
theorem dX11_isSaid_146 : decode cX11_isSaid 146 = .ok (.ifCond .ne 12, 3) := by decide +kernel
theorem dX11_isSaid_149 : decode cX11_isSaid 149 = .ok (.aload_n 0, 1) := by decide +kernel
theorem dX11_isSaid_150 : decode cX11_isSaid 150 = .ok (.getfield 77, 3) := by decide +kernel
theorem dX11_isSaid_153 : decode cX11_isSaid 153 = .ok (.iload_n 2, 1) := by decide +kernel
theorem dX11_isSaid_154 : decode cX11_isSaid 154 = .ok (.baload, 1) := by decide +kernel
theorem dX11_isSaid_155 : decode cX11_isSaid 155 = .ok (.ifCond .eq 7, 3) := by decide +kernel
theorem dX11_isSaid_158 : decode cX11_isSaid 158 = .ok (.iconst 1, 1) := by decide +kernel
theorem dX11_isSaid_159 : decode cX11_isSaid 159 = .ok (.goto 4, 3) := by decide +kernel
theorem dX11_isSaid_162 : decode cX11_isSaid 162 = .ok (.iconst 0, 1) := by decide +kernel
theorem dX11_isSaid_163 : decode cX11_isSaid 163 = .ok (.bastore, 1) := by decide +kernel
theorem dX11_isSaid_164 : decode cX11_isSaid 164 = .ok (.goto 42, 3) := by decide +kernel
theorem dX11_isSaid_167 : decode cX11_isSaid 167 = .ok (.aload_n 0, 1) := by decide +kernel
theorem dX11_isSaid_168 : decode cX11_isSaid 168 = .ok (.getfield 77, 3) := by decide +kernel
theorem dX11_isSaid_171 : decode cX11_isSaid 171 = .ok (.iload_n 2, 1) := by decide +kernel
theorem dX11_isSaid_172 : decode cX11_isSaid 172 = .ok (.aload_n 0, 1) := by decide +kernel
theorem dX11_isSaid_173 : decode cX11_isSaid 173 = .ok (.iload_n 1, 1) := by decide +kernel
theorem dX11_isSaid_174 : decode cX11_isSaid 174 = .ok (.aload_n 0, 1) := by decide +kernel
theorem dX11_isSaid_175 : decode cX11_isSaid 175 = .ok (.getfield 33, 3) := by decide +kernel
theorem dX11_isSaid_178 : decode cX11_isSaid 178 = .ok (.iload 4, 2) := by decide +kernel
theorem dX11_isSaid_180 : decode cX11_isSaid 180 = .ok (.iaload, 1) := by decide +kernel
theorem dX11_isSaid_181 : decode cX11_isSaid 181 = .ok (.aload_n 0, 1) := by decide +kernel
theorem dX11_isSaid_182 : decode cX11_isSaid 182 = .ok (.getfield 33, 3) := by decide +kernel
theorem dX11_isSaid_185 : decode cX11_isSaid 185 = .ok (.iload 4, 2) := by decide +kernel
theorem dX11_isSaid_187 : decode cX11_isSaid 187 = .ok (.iconst 1, 1) := by decide +kernel
theorem dX11_isSaid_188 : decode cX11_isSaid 188 = .ok (.iadd, 1) := by decide +kernel
theorem dX11_isSaid_189 : decode cX11_isSaid 189 = .ok (.iaload, 1) := by decide +kernel
theorem dX11_isSaid_190 : decode cX11_isSaid 190 = .ok (.aload_n 0, 1) := by decide +kernel
theorem dX11_isSaid_191 : decode cX11_isSaid 191 = .ok (.getfield 33, 3) := by decide +kernel
theorem dX11_isSaid_194 : decode cX11_isSaid 194 = .ok (.iload 4, 2) := by decide +kernel
theorem dX11_isSaid_196 : decode cX11_isSaid 196 = .ok (.iconst 2, 1) := by decide +kernel
theorem dX11_isSaid_197 : decode cX11_isSaid 197 = .ok (.iadd, 1) := by decide +kernel
theorem dX11_isSaid_198 : decode cX11_isSaid 198 = .ok (.iaload, 1) := by decide +kernel
theorem dX11_isSaid_199 : decode cX11_isSaid 199 = .ok (.invokevirtual 444, 3) := by decide +kernel
theorem dX11_isSaid_202 : decode cX11_isSaid 202 = .ok (.bastore, 1) := by decide +kernel
theorem dX11_isSaid_203 : decode cX11_isSaid 203 = .ok (.iinc 2 1, 3) := by decide +kernel
theorem dX11_isSaid_206 : decode cX11_isSaid 206 = .ok (.iinc 3 1, 3) := by decide +kernel
theorem dX11_isSaid_209 : decode cX11_isSaid 209 = .ok (.goto (-205), 3) := by decide +kernel
theorem dX11_isSaid_212 : decode cX11_isSaid 212 = .ok (.aload_n 0, 1) := by decide +kernel
theorem dX11_isSaid_213 : decode cX11_isSaid 213 = .ok (.getfield 77, 3) := by decide +kernel
theorem dX11_isSaid_216 : decode cX11_isSaid 216 = .ok (.iconst 0, 1) := by decide +kernel
theorem dX11_isSaid_217 : decode cX11_isSaid 217 = .ok (.baload, 1) := by decide +kernel
theorem dX11_isSaid_218 : decode cX11_isSaid 218 = .ok (.ireturn, 1) := by decide +kernel
theorem dX11_said_0 : decode cX11_said 0 = .ok (.aload_n 0, 1) := by decide +kernel
theorem dX11_said_1 : decode cX11_said 1 = .ok (.iconst 0, 1) := by decide +kernel
theorem dX11_said_2 : decode cX11_said 2 = .ok (.putfield 1, 3) := by decide +kernel
theorem dX11_said_5 : decode cX11_said 5 = .ok (.aload_n 0, 1) := by decide +kernel
theorem dX11_said_6 : decode cX11_said 6 = .ok (.getfield 33, 3) := by decide +kernel
theorem dX11_said_9 : decode cX11_said 9 = .ok (.sipush 664, 3) := by decide +kernel
theorem dX11_said_12 : decode cX11_said 12 = .ok (.iaload, 1) := by decide +kernel
theorem dX11_said_13 : decode cX11_said 13 = .ok (.ifCond .eq 8, 3) := by decide +kernel
theorem dX11_said_16 : decode cX11_said 16 = .ok (.iload_n 1, 1) := by decide +kernel
theorem dX11_said_17 : decode cX11_said 17 = .ok (.iconst (-1), 1) := by decide +kernel
theorem dX11_said_18 : decode cX11_said 18 = .ok (.if_icmp .ge 5, 3) := by decide +kernel
theorem dX11_said_21 : decode cX11_said 21 = .ok (.iconst (-1), 1) := by decide +kernel
theorem dX11_said_22 : decode cX11_said 22 = .ok (.ireturn, 1) := by decide +kernel
theorem dX11_said_23 : decode cX11_said 23 = .ok (.iconst 0, 1) := by decide +kernel
theorem dX11_said_24 : decode cX11_said 24 = .ok (.istore_n 2, 1) := by decide +kernel
theorem dX11_said_25 : decode cX11_said 25 = .ok (.iconst 0, 1) := by decide +kernel
theorem dX11_said_26 : decode cX11_said 26 = .ok (.istore_n 3, 1) := by decide +kernel
theorem dX11_said_27 : decode cX11_said 27 = .ok (.iload_n 3, 1) := by decide +kernel
theorem dX11_said_28 : decode cX11_said 28 = .ok (.aload_n 0, 1) := by decide +kernel
theorem dX11_said_29 : decode cX11_said 29 = .ok (.getfield 33, 3) := by decide +kernel
theorem dX11_said_32 : decode cX11_said 32 = .ok (.iconst 2, 1) := by decide +kernel
theorem dX11_said_33 : decode cX11_said 33 = .ok (.iaload, 1) := by decide +kernel
theorem dX11_said_34 : decode cX11_said 34 = .ok (.if_icmp .ge 30, 3) := by decide +kernel
theorem dX11_said_37 : decode cX11_said 37 = .ok (.aload_n 0, 1) := by decide +kernel
theorem dX11_said_38 : decode cX11_said 38 = .ok (.iload_n 3, 1) := by decide +kernel
theorem dX11_said_39 : decode cX11_said 39 = .ok (.invokevirtual 448, 3) := by decide +kernel
theorem dX11_said_42 : decode cX11_said 42 = .ok (.ifCond .ne 6, 3) := by decide +kernel
theorem dX11_said_45 : decode cX11_said 45 = .ok (.goto 13, 3) := by decide +kernel
theorem dX11_said_48 : decode cX11_said 48 = .ok (.iload_n 2, 1) := by decide +kernel
theorem dX11_said_49 : decode cX11_said 49 = .ok (.iload_n 1, 1) := by decide +kernel
theorem dX11_said_50 : decode cX11_said 50 = .ok (.if_icmp .ne 5, 3) := by decide +kernel
theorem dX11_said_53 : decode cX11_said 53 = .ok (.iload_n 3, 1) := by decide +kernel
theorem dX11_said_54 : decode cX11_said 54 = .ok (.ireturn, 1) := by decide +kernel
theorem dX11_said_55 : decode cX11_said 55 = .ok (.iinc 2 1, 3) := by decide +kernel
theorem dX11_said_58 : decode cX11_said 58 = .ok (.iinc 3 1, 3) := by decide +kernel
theorem dX11_said_61 : decode cX11_said 61 = .ok (.goto (-34), 3) := by decide +kernel
theorem dX11_said_64 : decode cX11_said 64 = .ok (.iload_n 1, 1) := by decide +kernel
theorem dX11_said_65 : decode cX11_said 65 = .ok (.iconst (-1), 1) := by decide +kernel
theorem dX11_said_66 : decode cX11_said 66 = .ok (.if_icmp .ne 7, 3) := by decide +kernel
theorem dX11_said_69 : decode cX11_said 69 = .ok (.iload_n 2, 1) := by decide +kernel
theorem dX11_said_70 : decode cX11_said 70 = .ok (.goto 4, 3) := by decide +kernel
theorem dX11_said_73 : decode cX11_said 73 = .ok (.iconst (-1), 1) := by decide +kernel
theorem dX11_said_74 : decode cX11_said 74 = .ok (.ireturn, 1) := by decide +kernel
theorem dX11_image_0 : decode cX11_image 0 = .ok (.aload_n 0, 1) := by decide +kernel
theorem dX11_image_1 : decode cX11_image 1 = .ok (.iconst 0, 1) := by decide +kernel
theorem dX11_image_2 : decode cX11_image 2 = .ok (.putfield 1, 3) := by decide +kernel
theorem dX11_image_5 : decode cX11_image 5 = .ok (.iload_n 1, 1) := by decide +kernel
theorem dX11_image_6 : decode cX11_image 6 = .ok (.iconst 0, 1) := by decide +kernel
theorem dX11_image_7 : decode cX11_image 7 = .ok (.iconst 1, 1) := by decide +kernel
theorem dX11_image_8 : decode cX11_image 8 = .ok (.invokestatic 180, 3) := by decide +kernel
theorem dX11_image_11 : decode cX11_image 11 = .ok (.ifCond .ne 5, 3) := by decide +kernel
theorem dX11_image_14 : decode cX11_image 14 = .ok (.iconst 0, 1) := by decide +kernel
theorem dX11_image_15 : decode cX11_image 15 = .ok (.ireturn, 1) := by decide +kernel
theorem dX11_image_16 : decode cX11_image 16 = .ok (.iconst 0, 1) := by decide +kernel
theorem dX11_image_17 : decode cX11_image 17 = .ok (.istore_n 2, 1) := by decide +kernel
theorem dX11_image_18 : decode cX11_image 18 = .ok (.iload_n 2, 1) := by decide +kernel
theorem dX11_image_19 : decode cX11_image 19 = .ok (.sipush 845, 3) := by decide +kernel
theorem dX11_image_22 : decode cX11_image 22 = .ok (.if_icmp .ge 27, 3) := by decide +kernel
theorem dX11_image_25 : decode cX11_image 25 = .ok (.aload_n 0, 1) := by decide +kernel
theorem dX11_image_26 : decode cX11_image 26 = .ok (.getfield 81, 3) := by decide +kernel
theorem dX11_image_29 : decode cX11_image 29 = .ok (.sipush 845, 3) := by decide +kernel
theorem dX11_image_32 : decode cX11_image 32 = .ok (.iload_n 1, 1) := by decide +kernel
theorem dX11_image_33 : decode cX11_image 33 = .ok (.imul, 1) := by decide +kernel
theorem dX11_image_34 : decode cX11_image 34 = .ok (.iload_n 2, 1) := by decide +kernel
theorem dX11_image_35 : decode cX11_image 35 = .ok (.iadd, 1) := by decide +kernel
theorem dX11_image_36 : decode cX11_image 36 = .ok (.aload_n 0, 1) := by decide +kernel
theorem dX11_image_37 : decode cX11_image 37 = .ok (.getfield 33, 3) := by decide +kernel
theorem dX11_image_40 : decode cX11_image 40 = .ok (.iload_n 2, 1) := by decide +kernel
theorem dX11_image_41 : decode cX11_image 41 = .ok (.iaload, 1) := by decide +kernel
theorem dX11_image_42 : decode cX11_image 42 = .ok (.iastore, 1) := by decide +kernel
theorem dX11_image_43 : decode cX11_image 43 = .ok (.iinc 2 1, 3) := by decide +kernel
theorem dX11_image_46 : decode cX11_image 46 = .ok (.goto (-28), 3) := by decide +kernel
theorem dX11_image_49 : decode cX11_image 49 = .ok (.iconst 0, 1) := by decide +kernel
theorem dX11_image_50 : decode cX11_image 50 = .ok (.istore_n 2, 1) := by decide +kernel
theorem dX11_image_51 : decode cX11_image 51 = .ok (.iload_n 2, 1) := by decide +kernel
theorem dX11_image_52 : decode cX11_image 52 = .ok (.bipush 8, 2) := by decide +kernel
theorem dX11_image_54 : decode cX11_image 54 = .ok (.if_icmp .ge 26, 3) := by decide +kernel
theorem dX11_image_57 : decode cX11_image 57 = .ok (.aload_n 0, 1) := by decide +kernel
theorem dX11_image_58 : decode cX11_image 58 = .ok (.getfield 84, 3) := by decide +kernel
theorem dX11_image_61 : decode cX11_image 61 = .ok (.bipush 8, 2) := by decide +kernel
theorem dX11_image_63 : decode cX11_image 63 = .ok (.iload_n 1, 1) := by decide +kernel
theorem dX11_image_64 : decode cX11_image 64 = .ok (.imul, 1) := by decide +kernel
theorem dX11_image_65 : decode cX11_image 65 = .ok (.iload_n 2, 1) := by decide +kernel
theorem dX11_image_66 : decode cX11_image 66 = .ok (.iadd, 1) := by decide +kernel
theorem dX11_image_67 : decode cX11_image 67 = .ok (.aload_n 0, 1) := by decide +kernel
theorem dX11_image_68 : decode cX11_image 68 = .ok (.getfield 43, 3) := by decide +kernel
theorem dX11_image_71 : decode cX11_image 71 = .ok (.iload_n 2, 1) := by decide +kernel
theorem dX11_image_72 : decode cX11_image 72 = .ok (.laload, 1) := by decide +kernel
theorem dX11_image_73 : decode cX11_image 73 = .ok (.lastore, 1) := by decide +kernel
theorem dX11_image_74 : decode cX11_image 74 = .ok (.iinc 2 1, 3) := by decide +kernel
theorem dX11_image_77 : decode cX11_image 77 = .ok (.goto (-26), 3) := by decide +kernel
theorem dX11_image_80 : decode cX11_image 80 = .ok (.aload_n 0, 1) := by decide +kernel
theorem dX11_image_81 : decode cX11_image 81 = .ok (.getfield 87, 3) := by decide +kernel
theorem dX11_image_84 : decode cX11_image 84 = .ok (.iload_n 1, 1) := by decide +kernel
theorem dX11_image_85 : decode cX11_image 85 = .ok (.iconst 1, 1) := by decide +kernel
theorem dX11_image_86 : decode cX11_image 86 = .ok (.bastore, 1) := by decide +kernel
theorem dX11_image_87 : decode cX11_image 87 = .ok (.iconst 1, 1) := by decide +kernel
theorem dX11_image_88 : decode cX11_image 88 = .ok (.ireturn, 1) := by decide +kernel
theorem dX11_restore_0 : decode cX11_restore 0 = .ok (.aload_n 0, 1) := by decide +kernel
theorem dX11_restore_1 : decode cX11_restore 1 = .ok (.iconst 0, 1) := by decide +kernel
theorem dX11_restore_2 : decode cX11_restore 2 = .ok (.putfield 1, 3) := by decide +kernel
theorem dX11_restore_5 : decode cX11_restore 5 = .ok (.iload_n 1, 1) := by decide +kernel
theorem dX11_restore_6 : decode cX11_restore 6 = .ok (.iconst 0, 1) := by decide +kernel
theorem dX11_restore_7 : decode cX11_restore 7 = .ok (.iconst 1, 1) := by decide +kernel
theorem dX11_restore_8 : decode cX11_restore 8 = .ok (.invokestatic 180, 3) := by decide +kernel
theorem dX11_restore_11 : decode cX11_restore 11 = .ok (.ifCond .eq 12, 3) := by decide +kernel
theorem dX11_restore_14 : decode cX11_restore 14 = .ok (.aload_n 0, 1) := by decide +kernel
theorem dX11_restore_15 : decode cX11_restore 15 = .ok (.getfield 87, 3) := by decide +kernel
theorem dX11_restore_18 : decode cX11_restore 18 = .ok (.iload_n 1, 1) := by decide +kernel
theorem dX11_restore_19 : decode cX11_restore 19 = .ok (.baload, 1) := by decide +kernel
theorem dX11_restore_20 : decode cX11_restore 20 = .ok (.ifCond .ne 5, 3) := by decide +kernel
theorem dX11_restore_23 : decode cX11_restore 23 = .ok (.iconst 0, 1) := by decide +kernel
theorem dX11_restore_24 : decode cX11_restore 24 = .ok (.ireturn, 1) := by decide +kernel
theorem dX11_restore_25 : decode cX11_restore 25 = .ok (.iconst 0, 1) := by decide +kernel
theorem dX11_restore_26 : decode cX11_restore 26 = .ok (.istore_n 2, 1) := by decide +kernel
theorem dX11_restore_27 : decode cX11_restore 27 = .ok (.iload_n 2, 1) := by decide +kernel
theorem dX11_restore_28 : decode cX11_restore 28 = .ok (.sipush 845, 3) := by decide +kernel
theorem dX11_restore_31 : decode cX11_restore 31 = .ok (.if_icmp .ge 27, 3) := by decide +kernel
theorem dX11_restore_34 : decode cX11_restore 34 = .ok (.aload_n 0, 1) := by decide +kernel
theorem dX11_restore_35 : decode cX11_restore 35 = .ok (.getfield 33, 3) := by decide +kernel
theorem dX11_restore_38 : decode cX11_restore 38 = .ok (.iload_n 2, 1) := by decide +kernel
theorem dX11_restore_39 : decode cX11_restore 39 = .ok (.aload_n 0, 1) := by decide +kernel
theorem dX11_restore_40 : decode cX11_restore 40 = .ok (.getfield 81, 3) := by decide +kernel
theorem dX11_restore_43 : decode cX11_restore 43 = .ok (.sipush 845, 3) := by decide +kernel
theorem dX11_restore_46 : decode cX11_restore 46 = .ok (.iload_n 1, 1) := by decide +kernel
theorem dX11_restore_47 : decode cX11_restore 47 = .ok (.imul, 1) := by decide +kernel
theorem dX11_restore_48 : decode cX11_restore 48 = .ok (.iload_n 2, 1) := by decide +kernel
theorem dX11_restore_49 : decode cX11_restore 49 = .ok (.iadd, 1) := by decide +kernel
theorem dX11_restore_50 : decode cX11_restore 50 = .ok (.iaload, 1) := by decide +kernel
theorem dX11_restore_51 : decode cX11_restore 51 = .ok (.iastore, 1) := by decide +kernel
theorem dX11_restore_52 : decode cX11_restore 52 = .ok (.iinc 2 1, 3) := by decide +kernel
theorem dX11_restore_55 : decode cX11_restore 55 = .ok (.goto (-28), 3) := by decide +kernel
theorem dX11_restore_58 : decode cX11_restore 58 = .ok (.iconst 0, 1) := by decide +kernel
theorem dX11_restore_59 : decode cX11_restore 59 = .ok (.istore_n 2, 1) := by decide +kernel
theorem dX11_restore_60 : decode cX11_restore 60 = .ok (.iload_n 2, 1) := by decide +kernel
theorem dX11_restore_61 : decode cX11_restore 61 = .ok (.bipush 8, 2) := by decide +kernel
theorem dX11_restore_63 : decode cX11_restore 63 = .ok (.if_icmp .ge 26, 3) := by decide +kernel
theorem dX11_restore_66 : decode cX11_restore 66 = .ok (.aload_n 0, 1) := by decide +kernel
theorem dX11_restore_67 : decode cX11_restore 67 = .ok (.getfield 43, 3) := by decide +kernel
theorem dX11_restore_70 : decode cX11_restore 70 = .ok (.iload_n 2, 1) := by decide +kernel
theorem dX11_restore_71 : decode cX11_restore 71 = .ok (.aload_n 0, 1) := by decide +kernel
theorem dX11_restore_72 : decode cX11_restore 72 = .ok (.getfield 84, 3) := by decide +kernel
theorem dX11_restore_75 : decode cX11_restore 75 = .ok (.bipush 8, 2) := by decide +kernel
theorem dX11_restore_77 : decode cX11_restore 77 = .ok (.iload_n 1, 1) := by decide +kernel
theorem dX11_restore_78 : decode cX11_restore 78 = .ok (.imul, 1) := by decide +kernel
theorem dX11_restore_79 : decode cX11_restore 79 = .ok (.iload_n 2, 1) := by decide +kernel
theorem dX11_restore_80 : decode cX11_restore 80 = .ok (.iadd, 1) := by decide +kernel
theorem dX11_restore_81 : decode cX11_restore 81 = .ok (.laload, 1) := by decide +kernel
theorem dX11_restore_82 : decode cX11_restore 82 = .ok (.lastore, 1) := by decide +kernel
theorem dX11_restore_83 : decode cX11_restore 83 = .ok (.iinc 2 1, 3) := by decide +kernel
theorem dX11_restore_86 : decode cX11_restore 86 = .ok (.goto (-26), 3) := by decide +kernel
theorem dX11_restore_89 : decode cX11_restore 89 = .ok (.aload_n 0, 1) := by decide +kernel
theorem dX11_restore_90 : decode cX11_restore 90 = .ok (.iconst 0, 1) := by decide +kernel
theorem dX11_restore_91 : decode cX11_restore 91 = .ok (.putfield 264, 3) := by decide +kernel
theorem dX11_restore_94 : decode cX11_restore 94 = .ok (.iconst 1, 1) := by decide +kernel
theorem dX11_restore_95 : decode cX11_restore 95 = .ok (.ireturn, 1) := by decide +kernel
theorem dX11_count_0 : decode cX11_count 0 = .ok (.aload_n 0, 1) := by decide +kernel
theorem dX11_count_1 : decode cX11_count 1 = .ok (.iconst 0, 1) := by decide +kernel
theorem dX11_count_2 : decode cX11_count 2 = .ok (.putfield 1, 3) := by decide +kernel
theorem dX11_count_5 : decode cX11_count 5 = .ok (.iload_n 1, 1) := by decide +kernel
theorem dX11_count_6 : decode cX11_count 6 = .ok (.bipush 7, 2) := by decide +kernel
theorem dX11_count_8 : decode cX11_count 8 = .ok (.if_icmp .ne 14, 3) := by decide +kernel
theorem dX11_count_11 : decode cX11_count 11 = .ok (.aload_n 0, 1) := by decide +kernel
theorem dX11_count_12 : decode cX11_count 12 = .ok (.getfield 33, 3) := by decide +kernel
theorem dX11_count_15 : decode cX11_count 15 = .ok (.sipush 543, 3) := by decide +kernel
theorem dX11_count_18 : decode cX11_count 18 = .ok (.iaload, 1) := by decide +kernel
theorem dX11_count_19 : decode cX11_count 19 = .ok (.goto 36, 3) := by decide +kernel
theorem dX11_count_22 : decode cX11_count 22 = .ok (.iload_n 1, 1) := by decide +kernel
theorem dX11_count_23 : decode cX11_count 23 = .ok (.bipush 8, 2) := by decide +kernel
theorem dX11_count_25 : decode cX11_count 25 = .ok (.if_icmp .ne 10, 3) := by decide +kernel
theorem dX11_count_28 : decode cX11_count 28 = .ok (.aload_n 0, 1) := by decide +kernel
theorem dX11_count_29 : decode cX11_count 29 = .ok (.getfield 7, 3) := by decide +kernel
theorem dX11_count_32 : decode cX11_count 32 = .ok (.goto 23, 3) := by decide +kernel
theorem dX11_count_35 : decode cX11_count 35 = .ok (.iload_n 1, 1) := by decide +kernel
theorem dX11_count_36 : decode cX11_count 36 = .ok (.iconst 0, 1) := by decide +kernel
theorem dX11_count_37 : decode cX11_count 37 = .ok (.bipush 6, 2) := by decide +kernel
theorem dX11_count_39 : decode cX11_count 39 = .ok (.invokestatic 180, 3) := by decide +kernel
theorem dX11_count_42 : decode cX11_count 42 = .ok (.ifCond .eq 12, 3) := by decide +kernel
theorem dX11_count_45 : decode cX11_count 45 = .ok (.aload_n 0, 1) := by decide +kernel
theorem dX11_count_46 : decode cX11_count 46 = .ok (.getfield 33, 3) := by decide +kernel
theorem dX11_count_49 : decode cX11_count 49 = .ok (.iload_n 1, 1) := by decide +kernel
theorem dX11_count_50 : decode cX11_count 50 = .ok (.iaload, 1) := by decide +kernel
theorem dX11_count_51 : decode cX11_count 51 = .ok (.goto 4, 3) := by decide +kernel
theorem dX11_count_54 : decode cX11_count 54 = .ok (.iconst (-1), 1) := by decide +kernel
theorem dX11_count_55 : decode cX11_count 55 = .ok (.ireturn, 1) := by decide +kernel
theorem dJ6_bitCount_0f7a4_0 : decode cJ6_bitCount_0f7a4 0 = .ok (.iload_n 0, 1) := by decide +kernel
theorem dJ6_bitCount_0f7a4_1 : decode cJ6_bitCount_0f7a4 1 = .ok (.iload_n 0, 1) := by decide +kernel
theorem dJ6_bitCount_0f7a4_2 : decode cJ6_bitCount_0f7a4 2 = .ok (.iconst 1, 1) := by decide +kernel
theorem dJ6_bitCount_0f7a4_3 : decode cJ6_bitCount_0f7a4 3 = .ok (.iushr, 1) := by decide +kernel
theorem dJ6_bitCount_0f7a4_4 : decode cJ6_bitCount_0f7a4 4 = .ok (.ldc_w 265, 3) := by decide +kernel
theorem dJ6_bitCount_0f7a4_7 : decode cJ6_bitCount_0f7a4 7 = .ok (.iand, 1) := by decide +kernel
theorem dJ6_bitCount_0f7a4_8 : decode cJ6_bitCount_0f7a4 8 = .ok (.isub, 1) := by decide +kernel
theorem dJ6_bitCount_0f7a4_9 : decode cJ6_bitCount_0f7a4 9 = .ok (.istore_n 0, 1) := by decide +kernel
theorem dJ6_bitCount_0f7a4_10 : decode cJ6_bitCount_0f7a4 10 = .ok (.iload_n 0, 1) := by decide +kernel
theorem dJ6_bitCount_0f7a4_11 : decode cJ6_bitCount_0f7a4 11 = .ok (.ldc_w 266, 3) := by decide +kernel
theorem dJ6_bitCount_0f7a4_14 : decode cJ6_bitCount_0f7a4 14 = .ok (.iand, 1) := by decide +kernel
theorem dJ6_bitCount_0f7a4_15 : decode cJ6_bitCount_0f7a4 15 = .ok (.iload_n 0, 1) := by decide +kernel
theorem dJ6_bitCount_0f7a4_16 : decode cJ6_bitCount_0f7a4 16 = .ok (.iconst 2, 1) := by decide +kernel
theorem dJ6_bitCount_0f7a4_17 : decode cJ6_bitCount_0f7a4 17 = .ok (.iushr, 1) := by decide +kernel
theorem dJ6_bitCount_0f7a4_18 : decode cJ6_bitCount_0f7a4 18 = .ok (.ldc_w 266, 3) := by decide +kernel
theorem dJ6_bitCount_0f7a4_21 : decode cJ6_bitCount_0f7a4 21 = .ok (.iand, 1) := by decide +kernel
theorem dJ6_bitCount_0f7a4_22 : decode cJ6_bitCount_0f7a4 22 = .ok (.iadd, 1) := by decide +kernel
theorem dJ6_bitCount_0f7a4_23 : decode cJ6_bitCount_0f7a4 23 = .ok (.istore_n 0, 1) := by decide +kernel
theorem dJ6_bitCount_0f7a4_24 : decode cJ6_bitCount_0f7a4 24 = .ok (.iload_n 0, 1) := by decide +kernel
theorem dJ6_bitCount_0f7a4_25 : decode cJ6_bitCount_0f7a4 25 = .ok (.iload_n 0, 1) := by decide +kernel
theorem dJ6_bitCount_0f7a4_26 : decode cJ6_bitCount_0f7a4 26 = .ok (.iconst 4, 1) := by decide +kernel
theorem dJ6_bitCount_0f7a4_27 : decode cJ6_bitCount_0f7a4 27 = .ok (.iushr, 1) := by decide +kernel
theorem dJ6_bitCount_0f7a4_28 : decode cJ6_bitCount_0f7a4 28 = .ok (.iadd, 1) := by decide +kernel
theorem dJ6_bitCount_0f7a4_29 : decode cJ6_bitCount_0f7a4 29 = .ok (.ldc_w 267, 3) := by decide +kernel
theorem dJ6_bitCount_0f7a4_32 : decode cJ6_bitCount_0f7a4 32 = .ok (.iand, 1) := by decide +kernel
theorem dJ6_bitCount_0f7a4_33 : decode cJ6_bitCount_0f7a4 33 = .ok (.istore_n 0, 1) := by decide +kernel
theorem dJ6_bitCount_0f7a4_34 : decode cJ6_bitCount_0f7a4 34 = .ok (.iload_n 0, 1) := by decide +kernel
theorem dJ6_bitCount_0f7a4_35 : decode cJ6_bitCount_0f7a4 35 = .ok (.iload_n 0, 1) := by decide +kernel
theorem dJ6_bitCount_0f7a4_36 : decode cJ6_bitCount_0f7a4 36 = .ok (.bipush 8, 2) := by decide +kernel
theorem dJ6_bitCount_0f7a4_38 : decode cJ6_bitCount_0f7a4 38 = .ok (.iushr, 1) := by decide +kernel
theorem dJ6_bitCount_0f7a4_39 : decode cJ6_bitCount_0f7a4 39 = .ok (.iadd, 1) := by decide +kernel
theorem dJ6_bitCount_0f7a4_40 : decode cJ6_bitCount_0f7a4 40 = .ok (.istore_n 0, 1) := by decide +kernel
theorem dJ6_bitCount_0f7a4_41 : decode cJ6_bitCount_0f7a4 41 = .ok (.iload_n 0, 1) := by decide +kernel
theorem dJ6_bitCount_0f7a4_42 : decode cJ6_bitCount_0f7a4 42 = .ok (.iload_n 0, 1) := by decide +kernel
theorem dJ6_bitCount_0f7a4_43 : decode cJ6_bitCount_0f7a4 43 = .ok (.bipush 16, 2) := by decide +kernel
theorem dJ6_bitCount_0f7a4_45 : decode cJ6_bitCount_0f7a4 45 = .ok (.iushr, 1) := by decide +kernel
theorem dJ6_bitCount_0f7a4_46 : decode cJ6_bitCount_0f7a4 46 = .ok (.iadd, 1) := by decide +kernel
theorem dJ6_bitCount_0f7a4_47 : decode cJ6_bitCount_0f7a4 47 = .ok (.istore_n 0, 1) := by decide +kernel
theorem dJ6_bitCount_0f7a4_48 : decode cJ6_bitCount_0f7a4 48 = .ok (.iload_n 0, 1) := by decide +kernel
theorem dJ6_bitCount_0f7a4_49 : decode cJ6_bitCount_0f7a4 49 = .ok (.bipush 63, 2) := by decide +kernel
theorem dJ6_bitCount_0f7a4_51 : decode cJ6_bitCount_0f7a4 51 = .ok (.iand, 1) := by decide +kernel
theorem dJ6_bitCount_0f7a4_52 : decode cJ6_bitCount_0f7a4 52 = .ok (.ireturn, 1) := by decide +kernel
