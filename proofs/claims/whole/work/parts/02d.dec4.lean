theorem dX11_readGust_4 : decode cX11_readGust 4 = .ok (.iconst 4, 1) := by decide +kernel
theorem dX11_readGust_5 : decode cX11_readGust 5 = .ok (.iaload, 1) := by decide +kernel
theorem dX11_readGust_6 : decode cX11_readGust 6 = .ok (.bipush 30, 2) := by decide +kernel
theorem dX11_readGust_8 : decode cX11_readGust 8 = .ok (.if_icmp .ne 9, 3) := by decide +kernel
theorem dX11_readGust_11 : decode cX11_readGust 11 = .ok (.aload_n 0, 1) := by decide +kernel
theorem dX11_readGust_12 : decode cX11_readGust 12 = .ok (.iconst 4, 1) := by decide +kernel
theorem dX11_readGust_13 : decode cX11_readGust 13 = .ok (.invokevirtual 174, 3) := by decide +kernel
theorem dX11_readGust_16 : decode cX11_readGust 16 = .ok (.ireturn, 1) := by decide +kernel
theorem dX11_readGust_17 : decode cX11_readGust 17 = .ok (.aload_n 0, 1) := by decide +kernel
theorem dX11_readGust_18 : decode cX11_readGust 18 = .ok (.invokevirtual 177, 3) := by decide +kernel
theorem dX11_readGust_21 : decode cX11_readGust 21 = .ok (.aload_n 0, 1) := by decide +kernel
theorem dX11_readGust_22 : decode cX11_readGust 22 = .ok (.getfield 148, 3) := by decide +kernel
theorem dX11_readGust_25 : decode cX11_readGust 25 = .ok (.iconst 2, 1) := by decide +kernel
theorem dX11_readGust_26 : decode cX11_readGust 26 = .ok (.if_icmp .eq 9, 3) := by decide +kernel
theorem dX11_readGust_29 : decode cX11_readGust 29 = .ok (.aload_n 0, 1) := by decide +kernel
theorem dX11_readGust_30 : decode cX11_readGust 30 = .ok (.iconst 1, 1) := by decide +kernel
theorem dX11_readGust_31 : decode cX11_readGust 31 = .ok (.invokevirtual 174, 3) := by decide +kernel
theorem dX11_readGust_34 : decode cX11_readGust 34 = .ok (.ireturn, 1) := by decide +kernel
theorem dX11_readGust_35 : decode cX11_readGust 35 = .ok (.aload_n 0, 1) := by decide +kernel
theorem dX11_readGust_36 : decode cX11_readGust 36 = .ok (.getfield 158, 3) := by decide +kernel
theorem dX11_readGust_39 : decode cX11_readGust 39 = .ok (.bipush 47, 2) := by decide +kernel
theorem dX11_readGust_41 : decode cX11_readGust 41 = .ok (.if_icmp .le 9, 3) := by decide +kernel
theorem dX11_readGust_44 : decode cX11_readGust 44 = .ok (.aload_n 0, 1) := by decide +kernel
theorem dX11_readGust_45 : decode cX11_readGust 45 = .ok (.iconst 2, 1) := by decide +kernel
theorem dX11_readGust_46 : decode cX11_readGust 46 = .ok (.invokevirtual 174, 3) := by decide +kernel
theorem dX11_readGust_49 : decode cX11_readGust 49 = .ok (.ireturn, 1) := by decide +kernel
theorem dX11_readGust_50 : decode cX11_readGust 50 = .ok (.aload_n 0, 1) := by decide +kernel
theorem dX11_readGust_51 : decode cX11_readGust 51 = .ok (.getfield 158, 3) := by decide +kernel
theorem dX11_readGust_54 : decode cX11_readGust 54 = .ok (.istore_n 1, 1) := by decide +kernel
theorem dX11_readGust_55 : decode cX11_readGust 55 = .ok (.aload_n 0, 1) := by decide +kernel
theorem dX11_readGust_56 : decode cX11_readGust 56 = .ok (.getfield 37, 3) := by decide +kernel
theorem dX11_readGust_59 : decode cX11_readGust 59 = .ok (.sipush 223, 3) := by decide +kernel
theorem dX11_readGust_62 : decode cX11_readGust 62 = .ok (.iload_n 1, 1) := by decide +kernel
theorem dX11_readGust_63 : decode cX11_readGust 63 = .ok (.iadd, 1) := by decide +kernel
theorem dX11_readGust_64 : decode cX11_readGust 64 = .ok (.iaload, 1) := by decide +kernel
theorem dX11_readGust_65 : decode cX11_readGust 65 = .ok (.ifCond .le 9, 3) := by decide +kernel
theorem dX11_readGust_68 : decode cX11_readGust 68 = .ok (.aload_n 0, 1) := by decide +kernel
theorem dX11_readGust_69 : decode cX11_readGust 69 = .ok (.iconst 3, 1) := by decide +kernel
theorem dX11_readGust_70 : decode cX11_readGust 70 = .ok (.invokevirtual 174, 3) := by decide +kernel
theorem dX11_readGust_73 : decode cX11_readGust 73 = .ok (.ireturn, 1) := by decide +kernel
theorem dX11_readGust_74 : decode cX11_readGust 74 = .ok (.aload_n 0, 1) := by decide +kernel
theorem dX11_readGust_75 : decode cX11_readGust 75 = .ok (.invokevirtual 177, 3) := by decide +kernel
theorem dX11_readGust_78 : decode cX11_readGust 78 = .ok (.aload_n 0, 1) := by decide +kernel
theorem dX11_readGust_79 : decode cX11_readGust 79 = .ok (.iconst 0, 1) := by decide +kernel
theorem dX11_readGust_80 : decode cX11_readGust 80 = .ok (.bipush 7, 2) := by decide +kernel
theorem dX11_readGust_82 : decode cX11_readGust 82 = .ok (.invokevirtual 195, 3) := by decide +kernel
theorem dX11_readGust_85 : decode cX11_readGust 85 = .ok (.ifCond .ne 5, 3) := by decide +kernel
theorem dX11_readGust_88 : decode cX11_readGust 88 = .ok (.iconst 0, 1) := by decide +kernel
theorem dX11_readGust_89 : decode cX11_readGust 89 = .ok (.ireturn, 1) := by decide +kernel
theorem dX11_readGust_90 : decode cX11_readGust 90 = .ok (.aload_n 0, 1) := by decide +kernel
theorem dX11_readGust_91 : decode cX11_readGust 91 = .ok (.getfield 37, 3) := by decide +kernel
theorem dX11_readGust_94 : decode cX11_readGust 94 = .ok (.sipush 175, 3) := by decide +kernel
theorem dX11_readGust_97 : decode cX11_readGust 97 = .ok (.iload_n 1, 1) := by decide +kernel
theorem dX11_readGust_98 : decode cX11_readGust 98 = .ok (.iadd, 1) := by decide +kernel
theorem dX11_readGust_99 : decode cX11_readGust 99 = .ok (.aload_n 0, 1) := by decide +kernel
theorem dX11_readGust_100 : decode cX11_readGust 100 = .ok (.getfield 184, 3) := by decide +kernel
theorem dX11_readGust_103 : decode cX11_readGust 103 = .ok (.iastore, 1) := by decide +kernel
theorem dX11_readGust_104 : decode cX11_readGust 104 = .ok (.aload_n 0, 1) := by decide +kernel
theorem dX11_readGust_105 : decode cX11_readGust 105 = .ok (.iconst 1, 1) := by decide +kernel
theorem dX11_readGust_106 : decode cX11_readGust 106 = .ok (.bipush 9, 2) := by decide +kernel
theorem dX11_readGust_108 : decode cX11_readGust 108 = .ok (.invokevirtual 195, 3) := by decide +kernel
theorem dX11_readGust_111 : decode cX11_readGust 111 = .ok (.ifCond .ne 5, 3) := by decide +kernel
theorem dX11_readGust_114 : decode cX11_readGust 114 = .ok (.iconst 0, 1) := by decide +kernel
theorem dX11_readGust_115 : decode cX11_readGust 115 = .ok (.ireturn, 1) := by decide +kernel
theorem dX11_readGust_116 : decode cX11_readGust 116 = .ok (.aload_n 0, 1) := by decide +kernel
theorem dX11_readGust_117 : decode cX11_readGust 117 = .ok (.getfield 37, 3) := by decide +kernel
theorem dX11_readGust_120 : decode cX11_readGust 120 = .ok (.sipush 223, 3) := by decide +kernel
theorem dX11_readGust_123 : decode cX11_readGust 123 = .ok (.iload_n 1, 1) := by decide +kernel
theorem dX11_readGust_124 : decode cX11_readGust 124 = .ok (.iadd, 1) := by decide +kernel
theorem dX11_readGust_125 : decode cX11_readGust 125 = .ok (.aload_n 0, 1) := by decide +kernel
theorem dX11_readGust_126 : decode cX11_readGust 126 = .ok (.getfield 184, 3) := by decide +kernel
theorem dX11_readGust_129 : decode cX11_readGust 129 = .ok (.iastore, 1) := by decide +kernel
theorem dX11_readGust_130 : decode cX11_readGust 130 = .ok (.aload_n 0, 1) := by decide +kernel
theorem dX11_readGust_131 : decode cX11_readGust 131 = .ok (.getfield 37, 3) := by decide +kernel
theorem dX11_readGust_134 : decode cX11_readGust 134 = .ok (.iconst 4, 1) := by decide +kernel
theorem dX11_readGust_135 : decode cX11_readGust 135 = .ok (.dup2, 1) := by decide +kernel
theorem dX11_readGust_136 : decode cX11_readGust 136 = .ok (.iaload, 1) := by decide +kernel
theorem dX11_readGust_137 : decode cX11_readGust 137 = .ok (.iconst 1, 1) := by decide +kernel
theorem dX11_readGust_138 : decode cX11_readGust 138 = .ok (.iadd, 1) := by decide +kernel
theorem dX11_readGust_139 : decode cX11_readGust 139 = .ok (.iastore, 1) := by decide +kernel
theorem dX11_readGust_140 : decode cX11_readGust 140 = .ok (.iconst 1, 1) := by decide +kernel
theorem dX11_readGust_141 : decode cX11_readGust 141 = .ok (.ireturn, 1) := by decide +kernel
theorem dX11_readPact_0 : decode cX11_readPact 0 = .ok (.aload_n 0, 1) := by decide +kernel
theorem dX11_readPact_1 : decode cX11_readPact 1 = .ok (.invokevirtual 177, 3) := by decide +kernel
theorem dX11_readPact_4 : decode cX11_readPact 4 = .ok (.iconst 0, 1) := by decide +kernel
theorem dX11_readPact_5 : decode cX11_readPact 5 = .ok (.istore_n 1, 1) := by decide +kernel
theorem dX11_readPact_6 : decode cX11_readPact 6 = .ok (.iconst 0, 1) := by decide +kernel
theorem dX11_readPact_7 : decode cX11_readPact 7 = .ok (.istore_n 2, 1) := by decide +kernel
theorem dX11_readPact_8 : decode cX11_readPact 8 = .ok (.iload_n 2, 1) := by decide +kernel
theorem dX11_readPact_9 : decode cX11_readPact 9 = .ok (.bipush 8, 2) := by decide +kernel
theorem dX11_readPact_11 : decode cX11_readPact 11 = .ok (.if_icmp .ge 31, 3) := by decide +kernel
theorem dX11_readPact_14 : decode cX11_readPact 14 = .ok (.iload_n 1, 1) := by decide +kernel
theorem dX11_readPact_15 : decode cX11_readPact 15 = .ok (.aload_n 0, 1) := by decide +kernel
theorem dX11_readPact_16 : decode cX11_readPact 16 = .ok (.getfield 37, 3) := by decide +kernel
theorem dX11_readPact_19 : decode cX11_readPact 19 = .ok (.bipush 47, 2) := by decide +kernel
theorem dX11_readPact_21 : decode cX11_readPact 21 = .ok (.iload_n 2, 1) := by decide +kernel
theorem dX11_readPact_22 : decode cX11_readPact 22 = .ok (.iadd, 1) := by decide +kernel
theorem dX11_readPact_23 : decode cX11_readPact 23 = .ok (.iaload, 1) := by decide +kernel
theorem dX11_readPact_24 : decode cX11_readPact 24 = .ok (.ifCond .le 9, 3) := by decide +kernel
theorem dX11_readPact_27 : decode cX11_readPact 27 = .ok (.iconst 1, 1) := by decide +kernel
theorem dX11_readPact_28 : decode cX11_readPact 28 = .ok (.iload_n 2, 1) := by decide +kernel
theorem dX11_readPact_29 : decode cX11_readPact 29 = .ok (.ishl, 1) := by decide +kernel
theorem dX11_readPact_30 : decode cX11_readPact 30 = .ok (.goto 4, 3) := by decide +kernel
theorem dX11_readPact_33 : decode cX11_readPact 33 = .ok (.iconst 0, 1) := by decide +kernel
theorem dX11_readPact_34 : decode cX11_readPact 34 = .ok (.ior, 1) := by decide +kernel
theorem dX11_readPact_35 : decode cX11_readPact 35 = .ok (.istore_n 1, 1) := by decide +kernel
theorem dX11_readPact_36 : decode cX11_readPact 36 = .ok (.iinc 2 1, 3) := by decide +kernel
theorem dX11_readPact_39 : decode cX11_readPact 39 = .ok (.goto (-31), 3) := by decide +kernel
theorem dX11_readPact_42 : decode cX11_readPact 42 = .ok (.aload_n 0, 1) := by decide +kernel
theorem dX11_readPact_43 : decode cX11_readPact 43 = .ok (.iload_n 1, 1) := by decide +kernel
theorem dX11_readPact_44 : decode cX11_readPact 44 = .ok (.invokevirtual 206, 3) := by decide +kernel
theorem dX11_readPact_47 : decode cX11_readPact 47 = .ok (.ifCond .ne 5, 3) := by decide +kernel
theorem dX11_readPact_50 : decode cX11_readPact 50 = .ok (.iconst 0, 1) := by decide +kernel
theorem dX11_readPact_51 : decode cX11_readPact 51 = .ok (.ireturn, 1) := by decide +kernel
theorem dX11_readPact_52 : decode cX11_readPact 52 = .ok (.aload_n 0, 1) := by decide +kernel
theorem dX11_readPact_53 : decode cX11_readPact 53 = .ok (.getfield 184, 3) := by decide +kernel
theorem dX11_readPact_56 : decode cX11_readPact 56 = .ok (.istore_n 2, 1) := by decide +kernel
theorem dX11_readPact_57 : decode cX11_readPact 57 = .ok (.aload_n 0, 1) := by decide +kernel
theorem dX11_readPact_58 : decode cX11_readPact 58 = .ok (.iconst 1, 1) := by decide +kernel
theorem dX11_readPact_59 : decode cX11_readPact 59 = .ok (.iload_n 2, 1) := by decide +kernel
theorem dX11_readPact_60 : decode cX11_readPact 60 = .ok (.ishl, 1) := by decide +kernel
theorem dX11_readPact_61 : decode cX11_readPact 61 = .ok (.invokevirtual 206, 3) := by decide +kernel
theorem dX11_readPact_64 : decode cX11_readPact 64 = .ok (.ifCond .ne 5, 3) := by decide +kernel
theorem dX11_readPact_67 : decode cX11_readPact 67 = .ok (.iconst 0, 1) := by decide +kernel
theorem dX11_readPact_68 : decode cX11_readPact 68 = .ok (.ireturn, 1) := by decide +kernel
theorem dX11_readPact_69 : decode cX11_readPact 69 = .ok (.aload_n 0, 1) := by decide +kernel
theorem dX11_readPact_70 : decode cX11_readPact 70 = .ok (.getfield 37, 3) := by decide +kernel
theorem dX11_readPact_73 : decode cX11_readPact 73 = .ok (.bipush 47, 2) := by decide +kernel
theorem dX11_readPact_75 : decode cX11_readPact 75 = .ok (.iload_n 2, 1) := by decide +kernel
theorem dX11_readPact_76 : decode cX11_readPact 76 = .ok (.iadd, 1) := by decide +kernel
theorem dX11_readPact_77 : decode cX11_readPact 77 = .ok (.aload_n 0, 1) := by decide +kernel
theorem dX11_readPact_78 : decode cX11_readPact 78 = .ok (.getfield 184, 3) := by decide +kernel
theorem dX11_readPact_81 : decode cX11_readPact 81 = .ok (.iconst 1, 1) := by decide +kernel
theorem dX11_readPact_82 : decode cX11_readPact 82 = .ok (.iadd, 1) := by decide +kernel
theorem dX11_readPact_83 : decode cX11_readPact 83 = .ok (.iastore, 1) := by decide +kernel
theorem dX11_readPact_84 : decode cX11_readPact 84 = .ok (.iconst 1, 1) := by decide +kernel
theorem dX11_readPact_85 : decode cX11_readPact 85 = .ok (.ireturn, 1) := by decide +kernel
theorem dX11_readPlot_0 : decode cX11_readPlot 0 = .ok (.aload_n 0, 1) := by decide +kernel
theorem dX11_readPlot_1 : decode cX11_readPlot 1 = .ok (.invokevirtual 177, 3) := by decide +kernel
theorem dX11_readPlot_4 : decode cX11_readPlot 4 = .ok (.iconst 0, 1) := by decide +kernel
theorem dX11_readPlot_5 : decode cX11_readPlot 5 = .ok (.istore_n 1, 1) := by decide +kernel
theorem dX11_readPlot_6 : decode cX11_readPlot 6 = .ok (.iconst 0, 1) := by decide +kernel
theorem dX11_readPlot_7 : decode cX11_readPlot 7 = .ok (.istore_n 2, 1) := by decide +kernel
theorem dX11_readPlot_8 : decode cX11_readPlot 8 = .ok (.iload_n 2, 1) := by decide +kernel
theorem dX11_readPlot_9 : decode cX11_readPlot 9 = .ok (.bipush 8, 2) := by decide +kernel
theorem dX11_readPlot_11 : decode cX11_readPlot 11 = .ok (.if_icmp .ge 31, 3) := by decide +kernel
theorem dX11_readPlot_14 : decode cX11_readPlot 14 = .ok (.iload_n 1, 1) := by decide +kernel
theorem dX11_readPlot_15 : decode cX11_readPlot 15 = .ok (.aload_n 0, 1) := by decide +kernel
theorem dX11_readPlot_16 : decode cX11_readPlot 16 = .ok (.getfield 37, 3) := by decide +kernel
theorem dX11_readPlot_19 : decode cX11_readPlot 19 = .ok (.bipush 55, 2) := by decide +kernel
theorem dX11_readPlot_21 : decode cX11_readPlot 21 = .ok (.iload_n 2, 1) := by decide +kernel
theorem dX11_readPlot_22 : decode cX11_readPlot 22 = .ok (.iadd, 1) := by decide +kernel
theorem dX11_readPlot_23 : decode cX11_readPlot 23 = .ok (.iaload, 1) := by decide +kernel
theorem dX11_readPlot_24 : decode cX11_readPlot 24 = .ok (.ifCond .le 9, 3) := by decide +kernel
theorem dX11_readPlot_27 : decode cX11_readPlot 27 = .ok (.iconst 1, 1) := by decide +kernel
theorem dX11_readPlot_28 : decode cX11_readPlot 28 = .ok (.iload_n 2, 1) := by decide +kernel
theorem dX11_readPlot_29 : decode cX11_readPlot 29 = .ok (.ishl, 1) := by decide +kernel
theorem dX11_readPlot_30 : decode cX11_readPlot 30 = .ok (.goto 4, 3) := by decide +kernel
theorem dX11_readPlot_33 : decode cX11_readPlot 33 = .ok (.iconst 0, 1) := by decide +kernel
theorem dX11_readPlot_34 : decode cX11_readPlot 34 = .ok (.ior, 1) := by decide +kernel
theorem dX11_readPlot_35 : decode cX11_readPlot 35 = .ok (.istore_n 1, 1) := by decide +kernel
theorem dX11_readPlot_36 : decode cX11_readPlot 36 = .ok (.iinc 2 1, 3) := by decide +kernel
theorem dX11_readPlot_39 : decode cX11_readPlot 39 = .ok (.goto (-31), 3) := by decide +kernel
theorem dX11_readPlot_42 : decode cX11_readPlot 42 = .ok (.aload_n 0, 1) := by decide +kernel
theorem dX11_readPlot_43 : decode cX11_readPlot 43 = .ok (.iload_n 1, 1) := by decide +kernel
theorem dX11_readPlot_44 : decode cX11_readPlot 44 = .ok (.invokevirtual 206, 3) := by decide +kernel
theorem dX11_readPlot_47 : decode cX11_readPlot 47 = .ok (.ifCond .ne 5, 3) := by decide +kernel
theorem dX11_readPlot_50 : decode cX11_readPlot 50 = .ok (.iconst 0, 1) := by decide +kernel
theorem dX11_readPlot_51 : decode cX11_readPlot 51 = .ok (.ireturn, 1) := by decide +kernel
theorem dX11_readPlot_52 : decode cX11_readPlot 52 = .ok (.aload_n 0, 1) := by decide +kernel
theorem dX11_readPlot_53 : decode cX11_readPlot 53 = .ok (.getfield 184, 3) := by decide +kernel
theorem dX11_readPlot_56 : decode cX11_readPlot 56 = .ok (.istore_n 2, 1) := by decide +kernel
theorem dX11_readPlot_57 : decode cX11_readPlot 57 = .ok (.aload_n 0, 1) := by decide +kernel
theorem dX11_readPlot_58 : decode cX11_readPlot 58 = .ok (.invokevirtual 243, 3) := by decide +kernel
theorem dX11_readPlot_61 : decode cX11_readPlot 61 = .ok (.ifCond .ne 5, 3) := by decide +kernel
theorem dX11_readPlot_64 : decode cX11_readPlot 64 = .ok (.iconst 0, 1) := by decide +kernel
theorem dX11_readPlot_65 : decode cX11_readPlot 65 = .ok (.ireturn, 1) := by decide +kernel
theorem dX11_readPlot_66 : decode cX11_readPlot 66 = .ok (.iconst 0, 1) := by decide +kernel
theorem dX11_readPlot_67 : decode cX11_readPlot 67 = .ok (.istore_n 3, 1) := by decide +kernel
theorem dX11_readPlot_68 : decode cX11_readPlot 68 = .ok (.iload_n 3, 1) := by decide +kernel
theorem dX11_readPlot_69 : decode cX11_readPlot 69 = .ok (.bipush 8, 2) := by decide +kernel
theorem dX11_readPlot_71 : decode cX11_readPlot 71 = .ok (.if_icmp .ge 33, 3) := by decide +kernel
theorem dX11_readPlot_74 : decode cX11_readPlot 74 = .ok (.aload_n 0, 1) := by decide +kernel
theorem dX11_readPlot_75 : decode cX11_readPlot 75 = .ok (.getfield 37, 3) := by decide +kernel
theorem dX11_readPlot_78 : decode cX11_readPlot 78 = .ok (.bipush 55, 2) := by decide +kernel
theorem dX11_readPlot_80 : decode cX11_readPlot 80 = .ok (.iload_n 3, 1) := by decide +kernel
theorem dX11_readPlot_81 : decode cX11_readPlot 81 = .ok (.iadd, 1) := by decide +kernel
theorem dX11_readPlot_82 : decode cX11_readPlot 82 = .ok (.iaload, 1) := by decide +kernel
theorem dX11_readPlot_83 : decode cX11_readPlot 83 = .ok (.aload_n 0, 1) := by decide +kernel
theorem dX11_readPlot_84 : decode cX11_readPlot 84 = .ok (.getfield 184, 3) := by decide +kernel
theorem dX11_readPlot_87 : decode cX11_readPlot 87 = .ok (.iconst 1, 1) := by decide +kernel
theorem dX11_readPlot_88 : decode cX11_readPlot 88 = .ok (.iadd, 1) := by decide +kernel
theorem dX11_readPlot_89 : decode cX11_readPlot 89 = .ok (.if_icmp .ne 9, 3) := by decide +kernel
theorem dX11_readPlot_92 : decode cX11_readPlot 92 = .ok (.aload_n 0, 1) := by decide +kernel
theorem dX11_readPlot_93 : decode cX11_readPlot 93 = .ok (.iconst 3, 1) := by decide +kernel
theorem dX11_readPlot_94 : decode cX11_readPlot 94 = .ok (.invokevirtual 174, 3) := by decide +kernel
theorem dX11_readPlot_97 : decode cX11_readPlot 97 = .ok (.ireturn, 1) := by decide +kernel
theorem dX11_readPlot_98 : decode cX11_readPlot 98 = .ok (.iinc 3 1, 3) := by decide +kernel
theorem dX11_readPlot_101 : decode cX11_readPlot 101 = .ok (.goto (-33), 3) := by decide +kernel
theorem dX11_readPlot_104 : decode cX11_readPlot 104 = .ok (.aload_n 0, 1) := by decide +kernel
theorem dX11_readPlot_105 : decode cX11_readPlot 105 = .ok (.getfield 37, 3) := by decide +kernel
theorem dX11_readPlot_108 : decode cX11_readPlot 108 = .ok (.bipush 55, 2) := by decide +kernel
theorem dX11_readPlot_110 : decode cX11_readPlot 110 = .ok (.iload_n 2, 1) := by decide +kernel
theorem dX11_readPlot_111 : decode cX11_readPlot 111 = .ok (.iadd, 1) := by decide +kernel
theorem dX11_readPlot_112 : decode cX11_readPlot 112 = .ok (.aload_n 0, 1) := by decide +kernel
theorem dX11_readPlot_113 : decode cX11_readPlot 113 = .ok (.getfield 184, 3) := by decide +kernel
theorem dX11_readPlot_116 : decode cX11_readPlot 116 = .ok (.iconst 1, 1) := by decide +kernel
theorem dX11_readPlot_117 : decode cX11_readPlot 117 = .ok (.iadd, 1) := by decide +kernel
theorem dX11_readPlot_118 : decode cX11_readPlot 118 = .ok (.iastore, 1) := by decide +kernel
theorem dX11_readPlot_119 : decode cX11_readPlot 119 = .ok (.aload_n 0, 1) := by decide +kernel
theorem dX11_readPlot_120 : decode cX11_readPlot 120 = .ok (.invokevirtual 177, 3) := by decide +kernel
theorem dX11_readPlot_123 : decode cX11_readPlot 123 = .ok (.iconst 1, 1) := by decide +kernel
theorem dX11_readPlot_124 : decode cX11_readPlot 124 = .ok (.ireturn, 1) := by decide +kernel
theorem dX11_bank_0 : decode cX11_bank 0 = .ok (.aload_n 0, 1) := by decide +kernel
theorem dX11_bank_1 : decode cX11_bank 1 = .ok (.iconst 0, 1) := by decide +kernel
theorem dX11_bank_2 : decode cX11_bank 2 = .ok (.putfield 1, 3) := by decide +kernel
theorem dX11_bank_5 : decode cX11_bank 5 = .ok (.aload_n 0, 1) := by decide +kernel
theorem dX11_bank_6 : decode cX11_bank 6 = .ok (.sipush 900, 3) := by decide +kernel
theorem dX11_bank_9 : decode cX11_bank 9 = .ok (.invokevirtual 249, 3) := by decide +kernel
theorem dX11_bank_12 : decode cX11_bank 12 = .ok (.aload_n 0, 1) := by decide +kernel
theorem dX11_bank_13 : decode cX11_bank 13 = .ok (.iconst 0, 1) := by decide +kernel
theorem dX11_bank_14 : decode cX11_bank 14 = .ok (.putfield 165, 3) := by decide +kernel
theorem dX11_bank_17 : decode cX11_bank 17 = .ok (.aload_n 0, 1) := by decide +kernel
theorem dX11_bank_18 : decode cX11_bank 18 = .ok (.iconst 0, 1) := by decide +kernel
theorem dX11_bank_19 : decode cX11_bank 19 = .ok (.putfield 252, 3) := by decide +kernel
theorem dX11_bank_22 : decode cX11_bank 22 = .ok (.aload_n 0, 1) := by decide +kernel
theorem dX11_bank_23 : decode cX11_bank 23 = .ok (.iconst 0, 1) := by decide +kernel
theorem dX11_bank_24 : decode cX11_bank 24 = .ok (.putfield 203, 3) := by decide +kernel
theorem dX11_bank_27 : decode cX11_bank 27 = .ok (.aload_n 0, 1) := by decide +kernel
theorem dX11_bank_28 : decode cX11_bank 28 = .ok (.iconst 0, 1) := by decide +kernel
theorem dX11_bank_29 : decode cX11_bank 29 = .ok (.putfield 212, 3) := by decide +kernel
theorem dX11_bank_32 : decode cX11_bank 32 = .ok (.aload_n 0, 1) := by decide +kernel
theorem dX11_bank_33 : decode cX11_bank 33 = .ok (.iconst 0, 1) := by decide +kernel
theorem dX11_bank_34 : decode cX11_bank 34 = .ok (.putfield 246, 3) := by decide +kernel
theorem dX11_bank_37 : decode cX11_bank 37 = .ok (.aload_n 0, 1) := by decide +kernel
theorem dX11_bank_38 : decode cX11_bank 38 = .ok (.iconst 0, 1) := by decide +kernel
theorem dX11_bank_39 : decode cX11_bank 39 = .ok (.putfield 191, 3) := by decide +kernel
theorem dX11_bank_42 : decode cX11_bank 42 = .ok (.aload_n 0, 1) := by decide +kernel
theorem dX11_bank_43 : decode cX11_bank 43 = .ok (.iconst 0, 1) := by decide +kernel
theorem dX11_bank_44 : decode cX11_bank 44 = .ok (.putfield 227, 3) := by decide +kernel
theorem dX11_bank_47 : decode cX11_bank 47 = .ok (.iconst 0, 1) := by decide +kernel
theorem dX11_bank_48 : decode cX11_bank 48 = .ok (.istore_n 1, 1) := by decide +kernel
theorem dX11_bank_49 : decode cX11_bank 49 = .ok (.iload_n 1, 1) := by decide +kernel
theorem dX11_bank_50 : decode cX11_bank 50 = .ok (.sipush 371, 3) := by decide +kernel
theorem dX11_bank_53 : decode cX11_bank 53 = .ok (.if_icmp .ge 16, 3) := by decide +kernel
theorem dX11_bank_56 : decode cX11_bank 56 = .ok (.aload_n 0, 1) := by decide +kernel
theorem dX11_bank_57 : decode cX11_bank 57 = .ok (.getfield 37, 3) := by decide +kernel
theorem dX11_bank_60 : decode cX11_bank 60 = .ok (.iload_n 1, 1) := by decide +kernel
theorem dX11_bank_61 : decode cX11_bank 61 = .ok (.iconst 0, 1) := by decide +kernel
theorem dX11_bank_62 : decode cX11_bank 62 = .ok (.iastore, 1) := by decide +kernel
theorem dX11_bank_63 : decode cX11_bank 63 = .ok (.iinc 1 1, 3) := by decide +kernel
theorem dX11_bank_66 : decode cX11_bank 66 = .ok (.goto (-17), 3) := by decide +kernel
theorem dX11_bank_69 : decode cX11_bank 69 = .ok (.aload_n 0, 1) := by decide +kernel
theorem dX11_bank_70 : decode cX11_bank 70 = .ok (.invokevirtual 177, 3) := by decide +kernel
theorem dX11_bank_73 : decode cX11_bank 73 = .ok (.aload_n 0, 1) := by decide +kernel
theorem dX11_bank_74 : decode cX11_bank 74 = .ok (.getfield 148, 3) := by decide +kernel
theorem dX11_bank_77 : decode cX11_bank 77 = .ok (.ifCond .eq 39, 3) := by decide +kernel
theorem dX11_bank_80 : decode cX11_bank 80 = .ok (.aload_n 0, 1) := by decide +kernel
theorem dX11_bank_81 : decode cX11_bank 81 = .ok (.invokevirtual 255, 3) := by decide +kernel
theorem dX11_bank_84 : decode cX11_bank 84 = .ok (.ifCond .eq 12, 3) := by decide +kernel
theorem dX11_bank_87 : decode cX11_bank 87 = .ok (.aload_n 0, 1) := by decide +kernel
theorem dX11_bank_88 : decode cX11_bank 88 = .ok (.bipush 59, 2) := by decide +kernel
theorem dX11_bank_90 : decode cX11_bank 90 = .ok (.invokevirtual 258, 3) := by decide +kernel
theorem dX11_bank_93 : decode cX11_bank 93 = .ok (.ifCond .ne 10, 3) := by decide +kernel
theorem dX11_bank_96 : decode cX11_bank 96 = .ok (.iconst (-1), 1) := by decide +kernel
theorem dX11_bank_97 : decode cX11_bank 97 = .ok (.aload_n 0, 1) := by decide +kernel
theorem dX11_bank_98 : decode cX11_bank 98 = .ok (.getfield 168, 3) := by decide +kernel
theorem dX11_bank_101 : decode cX11_bank 101 = .ok (.isub, 1) := by decide +kernel
theorem dX11_bank_102 : decode cX11_bank 102 = .ok (.ireturn, 1) := by decide +kernel
theorem dX11_bank_103 : decode cX11_bank 103 = .ok (.aload_n 0, 1) := by decide +kernel
theorem dX11_bank_104 : decode cX11_bank 104 = .ok (.dup, 1) := by decide +kernel
theorem dX11_bank_105 : decode cX11_bank 105 = .ok (.getfield 252, 3) := by decide +kernel
theorem dX11_bank_108 : decode cX11_bank 108 = .ok (.iconst 1, 1) := by decide +kernel
theorem dX11_bank_109 : decode cX11_bank 109 = .ok (.iadd, 1) := by decide +kernel
theorem dX11_bank_110 : decode cX11_bank 110 = .ok (.putfield 252, 3) := by decide +kernel
theorem dX11_bank_113 : decode cX11_bank 113 = .ok (.goto (-40), 3) := by decide +kernel
theorem dX11_bank_116 : decode cX11_bank 116 = .ok (.iconst 0, 1) := by decide +kernel
theorem dX11_bank_117 : decode cX11_bank 117 = .ok (.istore_n 1, 1) := by decide +kernel
theorem dX11_bank_118 : decode cX11_bank 118 = .ok (.iload_n 1, 1) := by decide +kernel
theorem dX11_bank_119 : decode cX11_bank 119 = .ok (.sipush 845, 3) := by decide +kernel
theorem dX11_bank_122 : decode cX11_bank 122 = .ok (.if_icmp .ge 32, 3) := by decide +kernel
theorem dX11_bank_125 : decode cX11_bank 125 = .ok (.aload_n 0, 1) := by decide +kernel
theorem dX11_bank_126 : decode cX11_bank 126 = .ok (.getfield 33, 3) := by decide +kernel
theorem dX11_bank_129 : decode cX11_bank 129 = .ok (.iload_n 1, 1) := by decide +kernel
theorem dX11_bank_130 : decode cX11_bank 130 = .ok (.iload_n 1, 1) := by decide +kernel
theorem dX11_bank_131 : decode cX11_bank 131 = .ok (.sipush 371, 3) := by decide +kernel
theorem dX11_bank_134 : decode cX11_bank 134 = .ok (.if_icmp .ge 12, 3) := by decide +kernel
theorem dX11_bank_137 : decode cX11_bank 137 = .ok (.aload_n 0, 1) := by decide +kernel
theorem dX11_bank_138 : decode cX11_bank 138 = .ok (.getfield 37, 3) := by decide +kernel
theorem dX11_bank_141 : decode cX11_bank 141 = .ok (.iload_n 1, 1) := by decide +kernel
theorem dX11_bank_142 : decode cX11_bank 142 = .ok (.iaload, 1) := by decide +kernel
theorem dX11_bank_143 : decode cX11_bank 143 = .ok (.goto 4, 3) := by decide +kernel
theorem dX11_bank_146 : decode cX11_bank 146 = .ok (.iconst 0, 1) := by decide +kernel
theorem dX11_bank_147 : decode cX11_bank 147 = .ok (.iastore, 1) := by decide +kernel
theorem dX11_bank_148 : decode cX11_bank 148 = .ok (.iinc 1 1, 3) := by decide +kernel
theorem dX11_bank_151 : decode cX11_bank 151 = .ok (.goto (-33), 3) := by decide +kernel
theorem dX11_bank_154 : decode cX11_bank 154 = .ok (.iconst 0, 1) := by decide +kernel
theorem dX11_bank_155 : decode cX11_bank 155 = .ok (.istore_n 1, 1) := by decide +kernel
theorem dX11_bank_156 : decode cX11_bank 156 = .ok (.iload_n 1, 1) := by decide +kernel
theorem dX11_bank_157 : decode cX11_bank 157 = .ok (.bipush 8, 2) := by decide +kernel
theorem dX11_bank_159 : decode cX11_bank 159 = .ok (.if_icmp .ge 24, 3) := by decide +kernel
theorem dX11_bank_162 : decode cX11_bank 162 = .ok (.aload_n 0, 1) := by decide +kernel
theorem dX11_bank_163 : decode cX11_bank 163 = .ok (.getfield 43, 3) := by decide +kernel
theorem dX11_bank_166 : decode cX11_bank 166 = .ok (.iload_n 1, 1) := by decide +kernel
theorem dX11_bank_167 : decode cX11_bank 167 = .ok (.aload_n 0, 1) := by decide +kernel
theorem dX11_bank_168 : decode cX11_bank 168 = .ok (.getfield 43, 3) := by decide +kernel
theorem dX11_bank_171 : decode cX11_bank 171 = .ok (.bipush 8, 2) := by decide +kernel
theorem dX11_bank_173 : decode cX11_bank 173 = .ok (.iload_n 1, 1) := by decide +kernel
theorem dX11_bank_174 : decode cX11_bank 174 = .ok (.iadd, 1) := by decide +kernel
theorem dX11_bank_175 : decode cX11_bank 175 = .ok (.laload, 1) := by decide +kernel
theorem dX11_bank_176 : decode cX11_bank 176 = .ok (.lastore, 1) := by decide +kernel
theorem dX11_bank_177 : decode cX11_bank 177 = .ok (.iinc 1 1, 3) := by decide +kernel
theorem dX11_bank_180 : decode cX11_bank 180 = .ok (.goto (-24), 3) := by decide +kernel
theorem dX11_bank_183 : decode cX11_bank 183 = .ok (.aload_n 0, 1) := by decide +kernel
theorem dX11_bank_184 : decode cX11_bank 184 = .ok (.invokevirtual 261, 3) := by decide +kernel
theorem dX11_bank_187 : decode cX11_bank 187 = .ok (.aload_n 0, 1) := by decide +kernel
theorem dX11_bank_188 : decode cX11_bank 188 = .ok (.iconst 0, 1) := by decide +kernel
theorem dX11_bank_189 : decode cX11_bank 189 = .ok (.putfield 264, 3) := by decide +kernel
theorem dX11_bank_192 : decode cX11_bank 192 = .ok (.aload_n 0, 1) := by decide +kernel
theorem dX11_bank_193 : decode cX11_bank 193 = .ok (.getfield 252, 3) := by decide +kernel
theorem dX11_bank_196 : decode cX11_bank 196 = .ok (.ireturn, 1) := by decide +kernel
theorem dX11_begins_0 : decode cX11_begins 0 = .ok (.iconst 0, 1) := by decide +kernel
theorem dX11_begins_1 : decode cX11_begins 1 = .ok (.istore_n 1, 1) := by decide +kernel
theorem dX11_begins_2 : decode cX11_begins 2 = .ok (.iload_n 1, 1) := by decide +kernel
theorem dX11_begins_3 : decode cX11_begins 3 = .ok (.sipush 172, 3) := by decide +kernel
theorem dX11_begins_6 : decode cX11_begins 6 = .ok (.if_icmp .ge 20, 3) := by decide +kernel
theorem dX11_begins_9 : decode cX11_begins 9 = .ok (.aload_n 0, 1) := by decide +kernel
theorem dX11_begins_10 : decode cX11_begins 10 = .ok (.getfield 33, 3) := by decide +kernel
theorem dX11_begins_13 : decode cX11_begins 13 = .ok (.sipush 371, 3) := by decide +kernel
theorem dX11_begins_16 : decode cX11_begins 16 = .ok (.iload_n 1, 1) := by decide +kernel
theorem dX11_begins_17 : decode cX11_begins 17 = .ok (.iadd, 1) := by decide +kernel
theorem dX11_begins_18 : decode cX11_begins 18 = .ok (.iconst 0, 1) := by decide +kernel
theorem dX11_begins_19 : decode cX11_begins 19 = .ok (.iastore, 1) := by decide +kernel
theorem dX11_begins_20 : decode cX11_begins 20 = .ok (.iinc 1 1, 3) := by decide +kernel
theorem dX11_begins_23 : decode cX11_begins 23 = .ok (.goto (-21), 3) := by decide +kernel
theorem dX11_begins_26 : decode cX11_begins 26 = .ok (.iconst 0, 1) := by decide +kernel
theorem dX11_begins_27 : decode cX11_begins 27 = .ok (.istore_n 1, 1) := by decide +kernel
theorem dX11_begins_28 : decode cX11_begins 28 = .ok (.iload_n 1, 1) := by decide +kernel
theorem dX11_begins_29 : decode cX11_begins 29 = .ok (.aload_n 0, 1) := by decide +kernel
theorem dX11_begins_30 : decode cX11_begins 30 = .ok (.getfield 33, 3) := by decide +kernel
theorem dX11_begins_33 : decode cX11_begins 33 = .ok (.iconst 2, 1) := by decide +kernel
theorem dX11_begins_34 : decode cX11_begins 34 = .ok (.iaload, 1) := by decide +kernel
theorem dX11_begins_35 : decode cX11_begins 35 = .ok (.if_icmp .ge 66, 3) := by decide +kernel
theorem dX11_begins_38 : decode cX11_begins 38 = .ok (.aload_n 0, 1) := by decide +kernel
theorem dX11_begins_39 : decode cX11_begins 39 = .ok (.getfield 33, 3) := by decide +kernel
theorem dX11_begins_42 : decode cX11_begins 42 = .ok (.sipush 373, 3) := by decide +kernel
theorem dX11_begins_45 : decode cX11_begins 45 = .ok (.iload_n 1, 1) := by decide +kernel
theorem dX11_begins_46 : decode cX11_begins 46 = .ok (.iadd, 1) := by decide +kernel
theorem dX11_begins_47 : decode cX11_begins 47 = .ok (.aload_n 0, 1) := by decide +kernel
theorem dX11_begins_48 : decode cX11_begins 48 = .ok (.getfield 33, 3) := by decide +kernel
theorem dX11_begins_51 : decode cX11_begins 51 = .ok (.bipush 15, 2) := by decide +kernel
theorem dX11_begins_53 : decode cX11_begins 53 = .ok (.iload_n 1, 1) := by decide +kernel
theorem dX11_begins_54 : decode cX11_begins 54 = .ok (.iadd, 1) := by decide +kernel
theorem dX11_begins_55 : decode cX11_begins 55 = .ok (.iaload, 1) := by decide +kernel
theorem dX11_begins_56 : decode cX11_begins 56 = .ok (.iastore, 1) := by decide +kernel
theorem dX11_begins_57 : decode cX11_begins 57 = .ok (.aload_n 0, 1) := by decide +kernel
theorem dX11_begins_58 : decode cX11_begins 58 = .ok (.getfield 33, 3) := by decide +kernel
theorem dX11_begins_61 : decode cX11_begins 61 = .ok (.sipush 389, 3) := by decide +kernel
theorem dX11_begins_64 : decode cX11_begins 64 = .ok (.iload_n 1, 1) := by decide +kernel
theorem dX11_begins_65 : decode cX11_begins 65 = .ok (.iadd, 1) := by decide +kernel
theorem dX11_begins_66 : decode cX11_begins 66 = .ok (.aload_n 0, 1) := by decide +kernel
theorem dX11_begins_67 : decode cX11_begins 67 = .ok (.getfield 33, 3) := by decide +kernel
theorem dX11_begins_70 : decode cX11_begins 70 = .ok (.bipush 31, 2) := by decide +kernel
theorem dX11_begins_72 : decode cX11_begins 72 = .ok (.iload_n 1, 1) := by decide +kernel
theorem dX11_begins_73 : decode cX11_begins 73 = .ok (.iadd, 1) := by decide +kernel
theorem dX11_begins_74 : decode cX11_begins 74 = .ok (.iaload, 1) := by decide +kernel
theorem dX11_begins_75 : decode cX11_begins 75 = .ok (.iastore, 1) := by decide +kernel
theorem dX11_begins_76 : decode cX11_begins 76 = .ok (.aload_n 0, 1) := by decide +kernel
theorem dX11_begins_77 : decode cX11_begins 77 = .ok (.getfield 33, 3) := by decide +kernel
theorem dX11_begins_80 : decode cX11_begins 80 = .ok (.sipush 397, 3) := by decide +kernel
theorem dX11_begins_83 : decode cX11_begins 83 = .ok (.iload_n 1, 1) := by decide +kernel
theorem dX11_begins_84 : decode cX11_begins 84 = .ok (.iadd, 1) := by decide +kernel
theorem dX11_begins_85 : decode cX11_begins 85 = .ok (.aload_n 0, 1) := by decide +kernel
theorem dX11_begins_86 : decode cX11_begins 86 = .ok (.getfield 33, 3) := by decide +kernel
theorem dX11_begins_89 : decode cX11_begins 89 = .ok (.bipush 39, 2) := by decide +kernel
theorem dX11_begins_91 : decode cX11_begins 91 = .ok (.iload_n 1, 1) := by decide +kernel
theorem dX11_begins_92 : decode cX11_begins 92 = .ok (.iadd, 1) := by decide +kernel
theorem dX11_begins_93 : decode cX11_begins 93 = .ok (.iaload, 1) := by decide +kernel
theorem dX11_begins_94 : decode cX11_begins 94 = .ok (.iastore, 1) := by decide +kernel
theorem dX11_begins_95 : decode cX11_begins 95 = .ok (.iinc 1 1, 3) := by decide +kernel
theorem dX11_begins_98 : decode cX11_begins 98 = .ok (.goto (-70), 3) := by decide +kernel
theorem dX11_begins_101 : decode cX11_begins 101 = .ok (.iconst 0, 1) := by decide +kernel
theorem dX11_begins_102 : decode cX11_begins 102 = .ok (.istore_n 1, 1) := by decide +kernel
theorem dX11_begins_103 : decode cX11_begins 103 = .ok (.iload_n 1, 1) := by decide +kernel
theorem dX11_begins_104 : decode cX11_begins 104 = .ok (.aload_n 0, 1) := by decide +kernel
theorem dX11_begins_105 : decode cX11_begins 105 = .ok (.getfield 33, 3) := by decide +kernel
theorem dX11_begins_108 : decode cX11_begins 108 = .ok (.iconst 3, 1) := by decide +kernel
theorem dX11_begins_109 : decode cX11_begins 109 = .ok (.iaload, 1) := by decide +kernel
theorem dX11_begins_110 : decode cX11_begins 110 = .ok (.if_icmp .ge 20, 3) := by decide +kernel
theorem dX11_begins_113 : decode cX11_begins 113 = .ok (.aload_n 0, 1) := by decide +kernel
theorem dX11_begins_114 : decode cX11_begins 114 = .ok (.getfield 33, 3) := by decide +kernel
theorem dX11_begins_117 : decode cX11_begins 117 = .ok (.sipush 429, 3) := by decide +kernel
theorem dX11_begins_120 : decode cX11_begins 120 = .ok (.iload_n 1, 1) := by decide +kernel
theorem dX11_begins_121 : decode cX11_begins 121 = .ok (.iadd, 1) := by decide +kernel
theorem dX11_begins_122 : decode cX11_begins 122 = .ok (.iconst 1, 1) := by decide +kernel
theorem dX11_begins_123 : decode cX11_begins 123 = .ok (.iastore, 1) := by decide +kernel
theorem dX11_begins_124 : decode cX11_begins 124 = .ok (.iinc 1 1, 3) := by decide +kernel
theorem dX11_begins_127 : decode cX11_begins 127 = .ok (.goto (-24), 3) := by decide +kernel
theorem dX11_begins_130 : decode cX11_begins 130 = .ok (.iconst 0, 1) := by decide +kernel
theorem dX11_begins_131 : decode cX11_begins 131 = .ok (.istore_n 1, 1) := by decide +kernel
theorem dX11_begins_132 : decode cX11_begins 132 = .ok (.iload_n 1, 1) := by decide +kernel
theorem dX11_begins_133 : decode cX11_begins 133 = .ok (.bipush 100, 2) := by decide +kernel
theorem dX11_begins_135 : decode cX11_begins 135 = .ok (.if_icmp .ge 29, 3) := by decide +kernel
theorem dX11_begins_138 : decode cX11_begins 138 = .ok (.aload_n 0, 1) := by decide +kernel
theorem dX11_begins_139 : decode cX11_begins 139 = .ok (.getfield 33, 3) := by decide +kernel
theorem dX11_begins_142 : decode cX11_begins 142 = .ok (.sipush 441, 3) := by decide +kernel
theorem dX11_begins_145 : decode cX11_begins 145 = .ok (.iload_n 1, 1) := by decide +kernel
theorem dX11_begins_146 : decode cX11_begins 146 = .ok (.iadd, 1) := by decide +kernel
theorem dX11_begins_147 : decode cX11_begins 147 = .ok (.aload_n 0, 1) := by decide +kernel
theorem dX11_begins_148 : decode cX11_begins 148 = .ok (.getfield 33, 3) := by decide +kernel
theorem dX11_begins_151 : decode cX11_begins 151 = .ok (.sipush 271, 3) := by decide +kernel
theorem dX11_begins_154 : decode cX11_begins 154 = .ok (.iload_n 1, 1) := by decide +kernel
theorem dX11_begins_155 : decode cX11_begins 155 = .ok (.iadd, 1) := by decide +kernel
theorem dX11_begins_156 : decode cX11_begins 156 = .ok (.iaload, 1) := by decide +kernel
theorem dX11_begins_157 : decode cX11_begins 157 = .ok (.iastore, 1) := by decide +kernel
theorem dX11_begins_158 : decode cX11_begins 158 = .ok (.iinc 1 1, 3) := by decide +kernel
theorem dX11_begins_161 : decode cX11_begins 161 = .ok (.goto (-29), 3) := by decide +kernel
theorem dX11_begins_164 : decode cX11_begins 164 = .ok (.return_, 1) := by decide +kernel
theorem dX11_fault_0 : decode cX11_fault 0 = .ok (.aload_n 0, 1) := by decide +kernel
theorem dX11_fault_1 : decode cX11_fault 1 = .ok (.iconst 0, 1) := by decide +kernel
theorem dX11_fault_2 : decode cX11_fault 2 = .ok (.putfield 1, 3) := by decide +kernel
theorem dX11_fault_5 : decode cX11_fault 5 = .ok (.aload_n 0, 1) := by decide +kernel
theorem dX11_fault_6 : decode cX11_fault 6 = .ok (.getfield 165, 3) := by decide +kernel
theorem dX11_fault_9 : decode cX11_fault 9 = .ok (.ireturn, 1) := by decide +kernel
theorem dX11_isCell_0 : decode cX11_isCell 0 = .ok (.iload_n 1, 1) := by decide +kernel
theorem dX11_isCell_1 : decode cX11_isCell 1 = .ok (.ifCond .lt 33, 3) := by decide +kernel
theorem dX11_isCell_4 : decode cX11_isCell 4 = .ok (.iload_n 1, 1) := by decide +kernel
theorem dX11_isCell_5 : decode cX11_isCell 5 = .ok (.bipush 10, 2) := by decide +kernel
theorem dX11_isCell_7 : decode cX11_isCell 7 = .ok (.irem, 1) := by decide +kernel
theorem dX11_isCell_8 : decode cX11_isCell 8 = .ok (.aload_n 0, 1) := by decide +kernel
theorem dX11_isCell_9 : decode cX11_isCell 9 = .ok (.getfield 33, 3) := by decide +kernel
theorem dX11_isCell_12 : decode cX11_isCell 12 = .ok (.iconst 0, 1) := by decide +kernel
theorem dX11_isCell_13 : decode cX11_isCell 13 = .ok (.iaload, 1) := by decide +kernel
theorem dX11_isCell_14 : decode cX11_isCell 14 = .ok (.if_icmp .ge 20, 3) := by decide +kernel
theorem dX11_isCell_17 : decode cX11_isCell 17 = .ok (.iload_n 1, 1) := by decide +kernel
theorem dX11_isCell_18 : decode cX11_isCell 18 = .ok (.bipush 10, 2) := by decide +kernel
theorem dX11_isCell_20 : decode cX11_isCell 20 = .ok (.idiv, 1) := by decide +kernel
theorem dX11_isCell_21 : decode cX11_isCell 21 = .ok (.aload_n 0, 1) := by decide +kernel
theorem dX11_isCell_22 : decode cX11_isCell 22 = .ok (.getfield 33, 3) := by decide +kernel
theorem dX11_isCell_25 : decode cX11_isCell 25 = .ok (.iconst 1, 1) := by decide +kernel
theorem dX11_isCell_26 : decode cX11_isCell 26 = .ok (.iaload, 1) := by decide +kernel
theorem dX11_isCell_27 : decode cX11_isCell 27 = .ok (.if_icmp .ge 7, 3) := by decide +kernel
theorem dX11_isCell_30 : decode cX11_isCell 30 = .ok (.iconst 1, 1) := by decide +kernel
theorem dX11_isCell_31 : decode cX11_isCell 31 = .ok (.goto 4, 3) := by decide +kernel
theorem dX11_isCell_34 : decode cX11_isCell 34 = .ok (.iconst 0, 1) := by decide +kernel
theorem dX11_isCell_35 : decode cX11_isCell 35 = .ok (.ireturn, 1) := by decide +kernel
theorem dX11_isOwner_0 : decode cX11_isOwner 0 = .ok (.iload_n 1, 1) := by decide +kernel
theorem dX11_isOwner_1 : decode cX11_isOwner 1 = .ok (.iconst 0, 1) := by decide +kernel
theorem dX11_isOwner_2 : decode cX11_isOwner 2 = .ok (.aload_n 0, 1) := by decide +kernel
theorem dX11_isOwner_3 : decode cX11_isOwner 3 = .ok (.getfield 33, 3) := by decide +kernel
theorem dX11_isOwner_6 : decode cX11_isOwner 6 = .ok (.iconst 2, 1) := by decide +kernel
theorem dX11_isOwner_7 : decode cX11_isOwner 7 = .ok (.iaload, 1) := by decide +kernel
theorem dX11_isOwner_8 : decode cX11_isOwner 8 = .ok (.iconst 1, 1) := by decide +kernel
theorem dX11_isOwner_9 : decode cX11_isOwner 9 = .ok (.isub, 1) := by decide +kernel
theorem dX11_isOwner_10 : decode cX11_isOwner 10 = .ok (.invokestatic 180, 3) := by decide +kernel
theorem dX11_isOwner_13 : decode cX11_isOwner 13 = .ok (.ireturn, 1) := by decide +kernel
theorem dX11_isGust_0 : decode cX11_isGust 0 = .ok (.iload_n 0, 1) := by decide +kernel
theorem dX11_isGust_1 : decode cX11_isGust 1 = .ok (.iconst 0, 1) := by decide +kernel
theorem dX11_isGust_2 : decode cX11_isGust 2 = .ok (.bipush 7, 2) := by decide +kernel
theorem dX11_isGust_4 : decode cX11_isGust 4 = .ok (.invokestatic 180, 3) := by decide +kernel
theorem dX11_isGust_7 : decode cX11_isGust 7 = .ok (.ifCond .eq 17, 3) := by decide +kernel
theorem dX11_isGust_10 : decode cX11_isGust 10 = .ok (.iload_n 1, 1) := by decide +kernel
theorem dX11_isGust_11 : decode cX11_isGust 11 = .ok (.iconst 1, 1) := by decide +kernel
theorem dX11_isGust_12 : decode cX11_isGust 12 = .ok (.bipush 9, 2) := by decide +kernel
theorem dX11_isGust_14 : decode cX11_isGust 14 = .ok (.invokestatic 180, 3) := by decide +kernel
theorem dX11_isGust_17 : decode cX11_isGust 17 = .ok (.ifCond .eq 7, 3) := by decide +kernel
theorem dX11_isGust_20 : decode cX11_isGust 20 = .ok (.iconst 1, 1) := by decide +kernel
theorem dX11_isGust_21 : decode cX11_isGust 21 = .ok (.goto 4, 3) := by decide +kernel
theorem dX11_isGust_24 : decode cX11_isGust 24 = .ok (.iconst 0, 1) := by decide +kernel
theorem dX11_isGust_25 : decode cX11_isGust 25 = .ok (.ireturn, 1) := by decide +kernel
theorem dX11_ownerAt_0 : decode cX11_ownerAt 0 = .ok (.iconst 0, 1) := by decide +kernel
theorem dX11_ownerAt_1 : decode cX11_ownerAt 1 = .ok (.istore_n 2, 1) := by decide +kernel
theorem dX11_ownerAt_2 : decode cX11_ownerAt 2 = .ok (.iload_n 2, 1) := by decide +kernel
theorem dX11_ownerAt_3 : decode cX11_ownerAt 3 = .ok (.aload_n 0, 1) := by decide +kernel
theorem dX11_ownerAt_4 : decode cX11_ownerAt 4 = .ok (.getfield 33, 3) := by decide +kernel
theorem dX11_ownerAt_7 : decode cX11_ownerAt 7 = .ok (.iconst 2, 1) := by decide +kernel
theorem dX11_ownerAt_8 : decode cX11_ownerAt 8 = .ok (.iaload, 1) := by decide +kernel
theorem dX11_ownerAt_9 : decode cX11_ownerAt 9 = .ok (.if_icmp .ge 24, 3) := by decide +kernel
theorem dX11_ownerAt_12 : decode cX11_ownerAt 12 = .ok (.aload_n 0, 1) := by decide +kernel
theorem dX11_ownerAt_13 : decode cX11_ownerAt 13 = .ok (.getfield 33, 3) := by decide +kernel
theorem dX11_ownerAt_16 : decode cX11_ownerAt 16 = .ok (.bipush 7, 2) := by decide +kernel
theorem dX11_ownerAt_18 : decode cX11_ownerAt 18 = .ok (.iload_n 2, 1) := by decide +kernel
theorem dX11_ownerAt_19 : decode cX11_ownerAt 19 = .ok (.iadd, 1) := by decide +kernel
theorem dX11_ownerAt_20 : decode cX11_ownerAt 20 = .ok (.iaload, 1) := by decide +kernel
theorem dX11_ownerAt_21 : decode cX11_ownerAt 21 = .ok (.iload_n 1, 1) := by decide +kernel
theorem dX11_ownerAt_22 : decode cX11_ownerAt 22 = .ok (.if_icmp .ne 5, 3) := by decide +kernel
theorem dX11_ownerAt_25 : decode cX11_ownerAt 25 = .ok (.iload_n 2, 1) := by decide +kernel
theorem dX11_ownerAt_26 : decode cX11_ownerAt 26 = .ok (.ireturn, 1) := by decide +kernel
theorem dX11_ownerAt_27 : decode cX11_ownerAt 27 = .ok (.iinc 2 1, 3) := by decide +kernel
theorem dX11_ownerAt_30 : decode cX11_ownerAt 30 = .ok (.goto (-28), 3) := by decide +kernel
theorem dX11_ownerAt_33 : decode cX11_ownerAt 33 = .ok (.iconst (-1), 1) := by decide +kernel
theorem dX11_ownerAt_34 : decode cX11_ownerAt 34 = .ok (.ireturn, 1) := by decide +kernel
theorem dX11_treeAt_0 : decode cX11_treeAt 0 = .ok (.iconst 0, 1) := by decide +kernel
theorem dX11_treeAt_1 : decode cX11_treeAt 1 = .ok (.istore_n 2, 1) := by decide +kernel
theorem dX11_treeAt_2 : decode cX11_treeAt 2 = .ok (.iload_n 2, 1) := by decide +kernel
theorem dX11_treeAt_3 : decode cX11_treeAt 3 = .ok (.aload_n 0, 1) := by decide +kernel
theorem dX11_treeAt_4 : decode cX11_treeAt 4 = .ok (.getfield 33, 3) := by decide +kernel
theorem dX11_treeAt_7 : decode cX11_treeAt 7 = .ok (.iconst 3, 1) := by decide +kernel
theorem dX11_treeAt_8 : decode cX11_treeAt 8 = .ok (.iaload, 1) := by decide +kernel
theorem dX11_treeAt_9 : decode cX11_treeAt 9 = .ok (.if_icmp .ge 38, 3) := by decide +kernel
theorem dX11_treeAt_12 : decode cX11_treeAt 12 = .ok (.aload_n 0, 1) := by decide +kernel
theorem dX11_treeAt_13 : decode cX11_treeAt 13 = .ok (.getfield 33, 3) := by decide +kernel
theorem dX11_treeAt_16 : decode cX11_treeAt 16 = .ok (.bipush 63, 2) := by decide +kernel
theorem dX11_treeAt_18 : decode cX11_treeAt 18 = .ok (.iload_n 2, 1) := by decide +kernel
theorem dX11_treeAt_19 : decode cX11_treeAt 19 = .ok (.iadd, 1) := by decide +kernel
theorem dX11_treeAt_20 : decode cX11_treeAt 20 = .ok (.iaload, 1) := by decide +kernel
theorem dX11_treeAt_21 : decode cX11_treeAt 21 = .ok (.iload_n 1, 1) := by decide +kernel
theorem dX11_treeAt_22 : decode cX11_treeAt 22 = .ok (.if_icmp .ne 19, 3) := by decide +kernel
theorem dX11_treeAt_25 : decode cX11_treeAt 25 = .ok (.aload_n 0, 1) := by decide +kernel
theorem dX11_treeAt_26 : decode cX11_treeAt 26 = .ok (.getfield 33, 3) := by decide +kernel
theorem dX11_treeAt_29 : decode cX11_treeAt 29 = .ok (.sipush 429, 3) := by decide +kernel
theorem dX11_treeAt_32 : decode cX11_treeAt 32 = .ok (.iload_n 2, 1) := by decide +kernel
theorem dX11_treeAt_33 : decode cX11_treeAt 33 = .ok (.iadd, 1) := by decide +kernel
theorem dX11_treeAt_34 : decode cX11_treeAt 34 = .ok (.iaload, 1) := by decide +kernel
theorem dX11_treeAt_35 : decode cX11_treeAt 35 = .ok (.iconst 1, 1) := by decide +kernel
theorem dX11_treeAt_36 : decode cX11_treeAt 36 = .ok (.if_icmp .ne 5, 3) := by decide +kernel
theorem dX11_treeAt_39 : decode cX11_treeAt 39 = .ok (.iload_n 2, 1) := by decide +kernel
theorem dX11_treeAt_40 : decode cX11_treeAt 40 = .ok (.ireturn, 1) := by decide +kernel
theorem dX11_treeAt_41 : decode cX11_treeAt 41 = .ok (.iinc 2 1, 3) := by decide +kernel
theorem dX11_treeAt_44 : decode cX11_treeAt 44 = .ok (.goto (-42), 3) := by decide +kernel
theorem dX11_treeAt_47 : decode cX11_treeAt 47 = .ok (.iconst (-1), 1) := by decide +kernel
theorem dX11_treeAt_48 : decode cX11_treeAt 48 = .ok (.ireturn, 1) := by decide +kernel
theorem dX11_isBare_0 : decode cX11_isBare 0 = .ok (.aload_n 0, 1) := by decide +kernel
theorem dX11_isBare_1 : decode cX11_isBare 1 = .ok (.iload_n 1, 1) := by decide +kernel
theorem dX11_isBare_2 : decode cX11_isBare 2 = .ok (.invokevirtual 267, 3) := by decide +kernel
theorem dX11_isBare_5 : decode cX11_isBare 5 = .ok (.ifCond .ge 28, 3) := by decide +kernel
theorem dX11_isBare_8 : decode cX11_isBare 8 = .ok (.aload_n 0, 1) := by decide +kernel
theorem dX11_isBare_9 : decode cX11_isBare 9 = .ok (.iload_n 1, 1) := by decide +kernel
theorem dX11_isBare_10 : decode cX11_isBare 10 = .ok (.invokevirtual 271, 3) := by decide +kernel
theorem dX11_isBare_13 : decode cX11_isBare 13 = .ok (.ifCond .ge 20, 3) := by decide +kernel
theorem dX11_isBare_16 : decode cX11_isBare 16 = .ok (.aload_n 0, 1) := by decide +kernel
theorem dX11_isBare_17 : decode cX11_isBare 17 = .ok (.getfield 33, 3) := by decide +kernel
theorem dX11_isBare_20 : decode cX11_isBare 20 = .ok (.sipush 441, 3) := by decide +kernel
theorem dX11_isBare_23 : decode cX11_isBare 23 = .ok (.iload_n 1, 1) := by decide +kernel
theorem dX11_isBare_24 : decode cX11_isBare 24 = .ok (.iadd, 1) := by decide +kernel
theorem dX11_isBare_25 : decode cX11_isBare 25 = .ok (.iaload, 1) := by decide +kernel
theorem dX11_isBare_26 : decode cX11_isBare 26 = .ok (.ifCond .ne 7, 3) := by decide +kernel
theorem dX11_isBare_29 : decode cX11_isBare 29 = .ok (.iconst 1, 1) := by decide +kernel
theorem dX11_isBare_30 : decode cX11_isBare 30 = .ok (.goto 4, 3) := by decide +kernel
theorem dX11_isBare_33 : decode cX11_isBare 33 = .ok (.iconst 0, 1) := by decide +kernel
theorem dX11_isBare_34 : decode cX11_isBare 34 = .ok (.ireturn, 1) := by decide +kernel
theorem dX11_fences_0 : decode cX11_fences 0 = .ok (.iconst 0, 1) := by decide +kernel
theorem dX11_fences_1 : decode cX11_fences 1 = .ok (.istore_n 1, 1) := by decide +kernel
theorem dX11_fences_2 : decode cX11_fences 2 = .ok (.iconst 0, 1) := by decide +kernel
theorem dX11_fences_3 : decode cX11_fences 3 = .ok (.istore_n 2, 1) := by decide +kernel
theorem dX11_fences_4 : decode cX11_fences 4 = .ok (.iload_n 2, 1) := by decide +kernel
theorem dX11_fences_5 : decode cX11_fences 5 = .ok (.bipush 100, 2) := by decide +kernel
theorem dX11_fences_7 : decode cX11_fences 7 = .ok (.if_icmp .ge 22, 3) := by decide +kernel
theorem dX11_fences_10 : decode cX11_fences 10 = .ok (.iload_n 1, 1) := by decide +kernel
theorem dX11_fences_11 : decode cX11_fences 11 = .ok (.aload_n 0, 1) := by decide +kernel
theorem dX11_fences_12 : decode cX11_fences 12 = .ok (.getfield 33, 3) := by decide +kernel
theorem dX11_fences_15 : decode cX11_fences 15 = .ok (.sipush 441, 3) := by decide +kernel
theorem dX11_fences_18 : decode cX11_fences 18 = .ok (.iload_n 2, 1) := by decide +kernel
theorem dX11_fences_19 : decode cX11_fences 19 = .ok (.iadd, 1) := by decide +kernel
theorem dX11_fences_20 : decode cX11_fences 20 = .ok (.iaload, 1) := by decide +kernel
theorem dX11_fences_21 : decode cX11_fences 21 = .ok (.iadd, 1) := by decide +kernel
theorem dX11_fences_22 : decode cX11_fences 22 = .ok (.istore_n 1, 1) := by decide +kernel
theorem dX11_fences_23 : decode cX11_fences 23 = .ok (.iinc 2 1, 3) := by decide +kernel
theorem dX11_fences_26 : decode cX11_fences 26 = .ok (.goto (-22), 3) := by decide +kernel
theorem dX11_fences_29 : decode cX11_fences 29 = .ok (.iload_n 1, 1) := by decide +kernel
theorem dX11_fences_30 : decode cX11_fences 30 = .ok (.ireturn, 1) := by decide +kernel
theorem dX11_cell_0 : decode cX11_cell 0 = .ok (.aload_n 0, 1) := by decide +kernel
theorem dX11_cell_1 : decode cX11_cell 1 = .ok (.aload_n 0, 1) := by decide +kernel
theorem dX11_cell_2 : decode cX11_cell 2 = .ok (.iload_n 1, 1) := by decide +kernel
theorem dX11_cell_3 : decode cX11_cell 3 = .ok (.invokevirtual 274, 3) := by decide +kernel
theorem dX11_cell_6 : decode cX11_cell 6 = .ok (.ifCond .eq 12, 3) := by decide +kernel
theorem dX11_cell_9 : decode cX11_cell 9 = .ok (.iload_n 2, 1) := by decide +kernel
theorem dX11_cell_10 : decode cX11_cell 10 = .ok (.iconst 0, 1) := by decide +kernel
theorem dX11_cell_11 : decode cX11_cell 11 = .ok (.iconst 2, 1) := by decide +kernel
theorem dX11_cell_12 : decode cX11_cell 12 = .ok (.invokestatic 180, 3) := by decide +kernel
theorem dX11_cell_15 : decode cX11_cell 15 = .ok (.ifCond .ne 7, 3) := by decide +kernel
theorem dX11_cell_18 : decode cX11_cell 18 = .ok (.iconst 1, 1) := by decide +kernel
theorem dX11_cell_19 : decode cX11_cell 19 = .ok (.goto 4, 3) := by decide +kernel
theorem dX11_cell_22 : decode cX11_cell 22 = .ok (.iconst 0, 1) := by decide +kernel
theorem dX11_cell_23 : decode cX11_cell 23 = .ok (.invokevirtual 277, 3) := by decide +kernel
theorem dX11_cell_26 : decode cX11_cell 26 = .ok (.ifCond .eq 5, 3) := by decide +kernel
theorem dX11_cell_29 : decode cX11_cell 29 = .ok (.iconst 0, 1) := by decide +kernel
theorem dX11_cell_30 : decode cX11_cell 30 = .ok (.ireturn, 1) := by decide +kernel
theorem dX11_cell_31 : decode cX11_cell 31 = .ok (.aload_n 0, 1) := by decide +kernel
theorem dX11_cell_32 : decode cX11_cell 32 = .ok (.iload_n 1, 1) := by decide +kernel
theorem dX11_cell_33 : decode cX11_cell 33 = .ok (.invokevirtual 267, 3) := by decide +kernel
theorem dX11_cell_36 : decode cX11_cell 36 = .ok (.istore_n 3, 1) := by decide +kernel
theorem dX11_cell_37 : decode cX11_cell 37 = .ok (.aload_n 0, 1) := by decide +kernel
theorem dX11_cell_38 : decode cX11_cell 38 = .ok (.iload_n 1, 1) := by decide +kernel
theorem dX11_cell_39 : decode cX11_cell 39 = .ok (.invokevirtual 271, 3) := by decide +kernel
theorem dX11_cell_42 : decode cX11_cell 42 = .ok (.istore 4, 2) := by decide +kernel
theorem dX11_cell_44 : decode cX11_cell 44 = .ok (.iload_n 2, 1) := by decide +kernel
theorem dX11_cell_45 : decode cX11_cell 45 = .ok (.ifCond .ne 42, 3) := by decide +kernel
theorem dX11_cell_48 : decode cX11_cell 48 = .ok (.iload_n 3, 1) := by decide +kernel
theorem dX11_cell_49 : decode cX11_cell 49 = .ok (.ifCond .lt 7, 3) := by decide +kernel
theorem dX11_cell_52 : decode cX11_cell 52 = .ok (.iconst 1, 1) := by decide +kernel
theorem dX11_cell_53 : decode cX11_cell 53 = .ok (.goto 61, 3) := by decide +kernel
theorem dX11_cell_56 : decode cX11_cell 56 = .ok (.iload 4, 2) := by decide +kernel
theorem dX11_cell_58 : decode cX11_cell 58 = .ok (.ifCond .lt 7, 3) := by decide +kernel
theorem dX11_cell_61 : decode cX11_cell 61 = .ok (.iconst 2, 1) := by decide +kernel
theorem dX11_cell_62 : decode cX11_cell 62 = .ok (.goto 52, 3) := by decide +kernel
theorem dX11_cell_65 : decode cX11_cell 65 = .ok (.aload_n 0, 1) := by decide +kernel
theorem dX11_cell_66 : decode cX11_cell 66 = .ok (.getfield 33, 3) := by decide +kernel
theorem dX11_cell_69 : decode cX11_cell 69 = .ok (.sipush 441, 3) := by decide +kernel
theorem dX11_cell_72 : decode cX11_cell 72 = .ok (.iload_n 1, 1) := by decide +kernel
theorem dX11_cell_73 : decode cX11_cell 73 = .ok (.iadd, 1) := by decide +kernel
theorem dX11_cell_74 : decode cX11_cell 74 = .ok (.iaload, 1) := by decide +kernel
theorem dX11_cell_75 : decode cX11_cell 75 = .ok (.iconst 1, 1) := by decide +kernel
theorem dX11_cell_76 : decode cX11_cell 76 = .ok (.if_icmp .ne 7, 3) := by decide +kernel
theorem dX11_cell_79 : decode cX11_cell 79 = .ok (.iconst 3, 1) := by decide +kernel
theorem dX11_cell_80 : decode cX11_cell 80 = .ok (.goto 34, 3) := by decide +kernel
theorem dX11_cell_83 : decode cX11_cell 83 = .ok (.iconst 0, 1) := by decide +kernel
theorem dX11_cell_84 : decode cX11_cell 84 = .ok (.goto 30, 3) := by decide +kernel
theorem dX11_cell_87 : decode cX11_cell 87 = .ok (.iload_n 2, 1) := by decide +kernel
theorem dX11_cell_88 : decode cX11_cell 88 = .ok (.iconst 1, 1) := by decide +kernel
theorem dX11_cell_89 : decode cX11_cell 89 = .ok (.if_icmp .ne 16, 3) := by decide +kernel
theorem dX11_cell_92 : decode cX11_cell 92 = .ok (.iload_n 3, 1) := by decide +kernel
theorem dX11_cell_93 : decode cX11_cell 93 = .ok (.ifCond .lt 7, 3) := by decide +kernel
theorem dX11_cell_96 : decode cX11_cell 96 = .ok (.iload_n 3, 1) := by decide +kernel
theorem dX11_cell_97 : decode cX11_cell 97 = .ok (.goto 17, 3) := by decide +kernel
theorem dX11_cell_100 : decode cX11_cell 100 = .ok (.iload 4, 2) := by decide +kernel
theorem dX11_cell_102 : decode cX11_cell 102 = .ok (.goto 12, 3) := by decide +kernel
theorem dX11_cell_105 : decode cX11_cell 105 = .ok (.aload_n 0, 1) := by decide +kernel
theorem dX11_cell_106 : decode cX11_cell 106 = .ok (.getfield 33, 3) := by decide +kernel
theorem dX11_cell_109 : decode cX11_cell 109 = .ok (.bipush 75, 2) := by decide +kernel
theorem dX11_cell_111 : decode cX11_cell 111 = .ok (.iload_n 1, 1) := by decide +kernel
theorem dX11_cell_112 : decode cX11_cell 112 = .ok (.iadd, 1) := by decide +kernel
theorem dX11_cell_113 : decode cX11_cell 113 = .ok (.iaload, 1) := by decide +kernel
theorem dX11_cell_114 : decode cX11_cell 114 = .ok (.ireturn, 1) := by decide +kernel
theorem dX11_owner_0 : decode cX11_owner 0 = .ok (.aload_n 0, 1) := by decide +kernel
theorem dX11_owner_1 : decode cX11_owner 1 = .ok (.aload_n 0, 1) := by decide +kernel
theorem dX11_owner_2 : decode cX11_owner 2 = .ok (.iload_n 1, 1) := by decide +kernel
theorem dX11_owner_3 : decode cX11_owner 3 = .ok (.invokevirtual 281, 3) := by decide +kernel
theorem dX11_owner_6 : decode cX11_owner 6 = .ok (.ifCond .eq 13, 3) := by decide +kernel
theorem dX11_owner_9 : decode cX11_owner 9 = .ok (.iload_n 2, 1) := by decide +kernel
theorem dX11_owner_10 : decode cX11_owner 10 = .ok (.iconst 0, 1) := by decide +kernel
theorem dX11_owner_11 : decode cX11_owner 11 = .ok (.bipush 10, 2) := by decide +kernel
theorem dX11_owner_13 : decode cX11_owner 13 = .ok (.invokestatic 180, 3) := by decide +kernel
theorem dX11_owner_16 : decode cX11_owner 16 = .ok (.ifCond .ne 7, 3) := by decide +kernel
theorem dX11_owner_19 : decode cX11_owner 19 = .ok (.iconst 1, 1) := by decide +kernel
theorem dX11_owner_20 : decode cX11_owner 20 = .ok (.goto 4, 3) := by decide +kernel
theorem dX11_owner_23 : decode cX11_owner 23 = .ok (.iconst 0, 1) := by decide +kernel
theorem dX11_owner_24 : decode cX11_owner 24 = .ok (.invokevirtual 277, 3) := by decide +kernel
theorem dX11_owner_27 : decode cX11_owner 27 = .ok (.ifCond .eq 5, 3) := by decide +kernel
theorem dX11_owner_30 : decode cX11_owner 30 = .ok (.iconst 0, 1) := by decide +kernel
theorem dX11_owner_31 : decode cX11_owner 31 = .ok (.ireturn, 1) := by decide +kernel
theorem dX11_owner_32 : decode cX11_owner 32 = .ok (.iload_n 2, 1) := by decide +kernel
theorem dX11_owner_33 : decode cX11_owner 33 = .ok (.tableswitch 165 0 9 #[55, 65, 76, 87, 97, 108, 119, 130, 142, 154], 55) := by decide +kernel
theorem dX11_owner_88 : decode cX11_owner 88 = .ok (.aload_n 0, 1) := by decide +kernel
theorem dX11_owner_89 : decode cX11_owner 89 = .ok (.getfield 33, 3) := by decide +kernel
theorem dX11_owner_92 : decode cX11_owner 92 = .ok (.bipush 7, 2) := by decide +kernel
theorem dX11_owner_94 : decode cX11_owner 94 = .ok (.iload_n 1, 1) := by decide +kernel
theorem dX11_owner_95 : decode cX11_owner 95 = .ok (.iadd, 1) := by decide +kernel
theorem dX11_owner_96 : decode cX11_owner 96 = .ok (.iaload, 1) := by decide +kernel
theorem dX11_owner_97 : decode cX11_owner 97 = .ok (.ireturn, 1) := by decide +kernel
theorem dX11_owner_98 : decode cX11_owner 98 = .ok (.aload_n 0, 1) := by decide +kernel
theorem dX11_owner_99 : decode cX11_owner 99 = .ok (.getfield 33, 3) := by decide +kernel
theorem dX11_owner_102 : decode cX11_owner 102 = .ok (.sipush 373, 3) := by decide +kernel
theorem dX11_owner_105 : decode cX11_owner 105 = .ok (.iload_n 1, 1) := by decide +kernel
theorem dX11_owner_106 : decode cX11_owner 106 = .ok (.iadd, 1) := by decide +kernel
theorem dX11_owner_107 : decode cX11_owner 107 = .ok (.iaload, 1) := by decide +kernel
theorem dX11_owner_108 : decode cX11_owner 108 = .ok (.ireturn, 1) := by decide +kernel
theorem dX11_owner_109 : decode cX11_owner 109 = .ok (.aload_n 0, 1) := by decide +kernel
theorem dX11_owner_110 : decode cX11_owner 110 = .ok (.getfield 33, 3) := by decide +kernel
theorem dX11_owner_113 : decode cX11_owner 113 = .ok (.sipush 381, 3) := by decide +kernel
theorem dX11_owner_116 : decode cX11_owner 116 = .ok (.iload_n 1, 1) := by decide +kernel
theorem dX11_owner_117 : decode cX11_owner 117 = .ok (.iadd, 1) := by decide +kernel
theorem dX11_owner_118 : decode cX11_owner 118 = .ok (.iaload, 1) := by decide +kernel
theorem dX11_owner_119 : decode cX11_owner 119 = .ok (.ireturn, 1) := by decide +kernel
theorem dX11_owner_120 : decode cX11_owner 120 = .ok (.aload_n 0, 1) := by decide +kernel
theorem dX11_owner_121 : decode cX11_owner 121 = .ok (.getfield 33, 3) := by decide +kernel
theorem dX11_owner_124 : decode cX11_owner 124 = .ok (.bipush 23, 2) := by decide +kernel
theorem dX11_owner_126 : decode cX11_owner 126 = .ok (.iload_n 1, 1) := by decide +kernel
theorem dX11_owner_127 : decode cX11_owner 127 = .ok (.iadd, 1) := by decide +kernel
theorem dX11_owner_128 : decode cX11_owner 128 = .ok (.iaload, 1) := by decide +kernel
theorem dX11_owner_129 : decode cX11_owner 129 = .ok (.ireturn, 1) := by decide +kernel
theorem dX11_owner_130 : decode cX11_owner 130 = .ok (.aload_n 0, 1) := by decide +kernel
theorem dX11_owner_131 : decode cX11_owner 131 = .ok (.getfield 33, 3) := by decide +kernel
theorem dX11_owner_134 : decode cX11_owner 134 = .ok (.sipush 389, 3) := by decide +kernel
theorem dX11_owner_137 : decode cX11_owner 137 = .ok (.iload_n 1, 1) := by decide +kernel
theorem dX11_owner_138 : decode cX11_owner 138 = .ok (.iadd, 1) := by decide +kernel
theorem dX11_owner_139 : decode cX11_owner 139 = .ok (.iaload, 1) := by decide +kernel
theorem dX11_owner_140 : decode cX11_owner 140 = .ok (.ireturn, 1) := by decide +kernel
theorem dX11_owner_141 : decode cX11_owner 141 = .ok (.aload_n 0, 1) := by decide +kernel
theorem dX11_owner_142 : decode cX11_owner 142 = .ok (.getfield 33, 3) := by decide +kernel
theorem dX11_owner_145 : decode cX11_owner 145 = .ok (.sipush 397, 3) := by decide +kernel
theorem dX11_owner_148 : decode cX11_owner 148 = .ok (.iload_n 1, 1) := by decide +kernel
theorem dX11_owner_149 : decode cX11_owner 149 = .ok (.iadd, 1) := by decide +kernel
theorem dX11_owner_150 : decode cX11_owner 150 = .ok (.iaload, 1) := by decide +kernel
theorem dX11_owner_151 : decode cX11_owner 151 = .ok (.ireturn, 1) := by decide +kernel
theorem dX11_owner_152 : decode cX11_owner 152 = .ok (.aload_n 0, 1) := by decide +kernel
theorem dX11_owner_153 : decode cX11_owner 153 = .ok (.getfield 33, 3) := by decide +kernel
theorem dX11_owner_156 : decode cX11_owner 156 = .ok (.sipush 405, 3) := by decide +kernel
theorem dX11_owner_159 : decode cX11_owner 159 = .ok (.iload_n 1, 1) := by decide +kernel
theorem dX11_owner_160 : decode cX11_owner 160 = .ok (.iadd, 1) := by decide +kernel
theorem dX11_owner_161 : decode cX11_owner 161 = .ok (.iaload, 1) := by decide +kernel
theorem dX11_owner_162 : decode cX11_owner 162 = .ok (.ireturn, 1) := by decide +kernel
theorem dX11_owner_163 : decode cX11_owner 163 = .ok (.aload_n 0, 1) := by decide +kernel
theorem dX11_owner_164 : decode cX11_owner 164 = .ok (.getfield 33, 3) := by decide +kernel
theorem dX11_owner_167 : decode cX11_owner 167 = .ok (.bipush 47, 2) := by decide +kernel
theorem dX11_owner_169 : decode cX11_owner 169 = .ok (.iload_n 1, 1) := by decide +kernel
theorem dX11_owner_170 : decode cX11_owner 170 = .ok (.iadd, 1) := by decide +kernel
theorem dX11_owner_171 : decode cX11_owner 171 = .ok (.iaload, 1) := by decide +kernel
theorem dX11_owner_172 : decode cX11_owner 172 = .ok (.iconst 1, 1) := by decide +kernel
theorem dX11_owner_173 : decode cX11_owner 173 = .ok (.isub, 1) := by decide +kernel
theorem dX11_owner_174 : decode cX11_owner 174 = .ok (.ireturn, 1) := by decide +kernel
theorem dX11_owner_175 : decode cX11_owner 175 = .ok (.aload_n 0, 1) := by decide +kernel
theorem dX11_owner_176 : decode cX11_owner 176 = .ok (.getfield 33, 3) := by decide +kernel
theorem dX11_owner_179 : decode cX11_owner 179 = .ok (.bipush 55, 2) := by decide +kernel
theorem dX11_owner_181 : decode cX11_owner 181 = .ok (.iload_n 1, 1) := by decide +kernel
theorem dX11_owner_182 : decode cX11_owner 182 = .ok (.iadd, 1) := by decide +kernel
theorem dX11_owner_183 : decode cX11_owner 183 = .ok (.iaload, 1) := by decide +kernel
theorem dX11_owner_184 : decode cX11_owner 184 = .ok (.iconst 1, 1) := by decide +kernel
theorem dX11_owner_185 : decode cX11_owner 185 = .ok (.isub, 1) := by decide +kernel
theorem dX11_owner_186 : decode cX11_owner 186 = .ok (.ireturn, 1) := by decide +kernel
theorem dX11_owner_187 : decode cX11_owner 187 = .ok (.aload_n 0, 1) := by decide +kernel
theorem dX11_owner_188 : decode cX11_owner 188 = .ok (.getfield 33, 3) := by decide +kernel
theorem dX11_owner_191 : decode cX11_owner 191 = .ok (.sipush 413, 3) := by decide +kernel
theorem dX11_owner_194 : decode cX11_owner 194 = .ok (.iload_n 1, 1) := by decide +kernel
theorem dX11_owner_195 : decode cX11_owner 195 = .ok (.iadd, 1) := by decide +kernel
theorem dX11_owner_196 : decode cX11_owner 196 = .ok (.iaload, 1) := by decide +kernel
theorem dX11_owner_197 : decode cX11_owner 197 = .ok (.ireturn, 1) := by decide +kernel
theorem dX11_owner_198 : decode cX11_owner 198 = .ok (.aload_n 0, 1) := by decide +kernel
theorem dX11_owner_199 : decode cX11_owner 199 = .ok (.getfield 33, 3) := by decide +kernel
theorem dX11_owner_202 : decode cX11_owner 202 = .ok (.sipush 421, 3) := by decide +kernel
theorem dX11_owner_205 : decode cX11_owner 205 = .ok (.iload_n 1, 1) := by decide +kernel
theorem dX11_owner_206 : decode cX11_owner 206 = .ok (.iadd, 1) := by decide +kernel
theorem dX11_owner_207 : decode cX11_owner 207 = .ok (.iaload, 1) := by decide +kernel
theorem dX11_owner_208 : decode cX11_owner 208 = .ok (.ireturn, 1) := by decide +kernel
theorem dX11_gust_0 : decode cX11_gust 0 = .ok (.aload_n 0, 1) := by decide +kernel
theorem dX11_gust_1 : decode cX11_gust 1 = .ok (.iconst 0, 1) := by decide +kernel
theorem dX11_gust_2 : decode cX11_gust 2 = .ok (.putfield 1, 3) := by decide +kernel
theorem dX11_gust_5 : decode cX11_gust 5 = .ok (.iload_n 1, 1) := by decide +kernel
theorem dX11_gust_6 : decode cX11_gust 6 = .ok (.iconst 0, 1) := by decide +kernel
theorem dX11_gust_7 : decode cX11_gust 7 = .ok (.bipush 47, 2) := by decide +kernel
theorem dX11_gust_9 : decode cX11_gust 9 = .ok (.invokestatic 180, 3) := by decide +kernel
theorem dX11_gust_12 : decode cX11_gust 12 = .ok (.ifCond .eq 48, 3) := by decide +kernel
theorem dX11_gust_15 : decode cX11_gust 15 = .ok (.iload_n 2, 1) := by decide +kernel
theorem dX11_gust_16 : decode cX11_gust 16 = .ok (.iconst 0, 1) := by decide +kernel
theorem dX11_gust_17 : decode cX11_gust 17 = .ok (.iconst 1, 1) := by decide +kernel
theorem dX11_gust_18 : decode cX11_gust 18 = .ok (.invokestatic 180, 3) := by decide +kernel
theorem dX11_gust_21 : decode cX11_gust 21 = .ok (.ifCond .eq 39, 3) := by decide +kernel
theorem dX11_gust_24 : decode cX11_gust 24 = .ok (.aload_n 0, 1) := by decide +kernel
theorem dX11_gust_25 : decode cX11_gust 25 = .ok (.getfield 33, 3) := by decide +kernel
theorem dX11_gust_28 : decode cX11_gust 28 = .ok (.sipush 223, 3) := by decide +kernel
theorem dX11_gust_31 : decode cX11_gust 31 = .ok (.iload_n 1, 1) := by decide +kernel
theorem dX11_gust_32 : decode cX11_gust 32 = .ok (.iadd, 1) := by decide +kernel
theorem dX11_gust_33 : decode cX11_gust 33 = .ok (.iaload, 1) := by decide +kernel
theorem dX11_gust_34 : decode cX11_gust 34 = .ok (.ifCond .le 26, 3) := by decide +kernel
theorem dX11_gust_37 : decode cX11_gust 37 = .ok (.aload_n 0, 1) := by decide +kernel
theorem dX11_gust_38 : decode cX11_gust 38 = .ok (.getfield 33, 3) := by decide +kernel
theorem dX11_gust_41 : decode cX11_gust 41 = .ok (.iload_n 2, 1) := by decide +kernel
theorem dX11_gust_42 : decode cX11_gust 42 = .ok (.ifCond .ne 9, 3) := by decide +kernel
theorem dX11_gust_45 : decode cX11_gust 45 = .ok (.sipush 175, 3) := by decide +kernel
theorem dX11_gust_48 : decode cX11_gust 48 = .ok (.goto 6, 3) := by decide +kernel
theorem dX11_gust_51 : decode cX11_gust 51 = .ok (.sipush 223, 3) := by decide +kernel
theorem dX11_gust_54 : decode cX11_gust 54 = .ok (.iload_n 1, 1) := by decide +kernel
theorem dX11_gust_55 : decode cX11_gust 55 = .ok (.iadd, 1) := by decide +kernel
theorem dX11_gust_56 : decode cX11_gust 56 = .ok (.iaload, 1) := by decide +kernel
theorem dX11_gust_57 : decode cX11_gust 57 = .ok (.goto 4, 3) := by decide +kernel
theorem dX11_gust_60 : decode cX11_gust 60 = .ok (.iconst (-1), 1) := by decide +kernel
theorem dX11_gust_61 : decode cX11_gust 61 = .ok (.ireturn, 1) := by decide +kernel
theorem dX11_alongX_0 : decode cX11_alongX 0 = .ok (.iload_n 0, 1) := by decide +kernel
theorem dX11_alongX_1 : decode cX11_alongX 1 = .ok (.ifCond .eq 8, 3) := by decide +kernel
theorem dX11_alongX_4 : decode cX11_alongX 4 = .ok (.iload_n 0, 1) := by decide +kernel
theorem dX11_alongX_5 : decode cX11_alongX 5 = .ok (.iconst 4, 1) := by decide +kernel
theorem dX11_alongX_6 : decode cX11_alongX 6 = .ok (.if_icmp .ne 7, 3) := by decide +kernel
theorem dX11_alongX_9 : decode cX11_alongX 9 = .ok (.iconst 0, 1) := by decide +kernel
theorem dX11_alongX_10 : decode cX11_alongX 10 = .ok (.goto 13, 3) := by decide +kernel
theorem dX11_alongX_13 : decode cX11_alongX 13 = .ok (.iload_n 0, 1) := by decide +kernel
theorem dX11_alongX_14 : decode cX11_alongX 14 = .ok (.iconst 4, 1) := by decide +kernel
theorem dX11_alongX_15 : decode cX11_alongX 15 = .ok (.if_icmp .ge 7, 3) := by decide +kernel
theorem dX11_alongX_18 : decode cX11_alongX 18 = .ok (.iconst 1, 1) := by decide +kernel
theorem dX11_alongX_19 : decode cX11_alongX 19 = .ok (.goto 4, 3) := by decide +kernel
theorem dX11_alongX_22 : decode cX11_alongX 22 = .ok (.iconst (-1), 1) := by decide +kernel
theorem dX11_alongX_23 : decode cX11_alongX 23 = .ok (.ireturn, 1) := by decide +kernel
theorem dX11_alongY_0 : decode cX11_alongY 0 = .ok (.iload_n 0, 1) := by decide +kernel
theorem dX11_alongY_1 : decode cX11_alongY 1 = .ok (.iconst 2, 1) := by decide +kernel
theorem dX11_alongY_2 : decode cX11_alongY 2 = .ok (.if_icmp .eq 9, 3) := by decide +kernel
theorem dX11_alongY_5 : decode cX11_alongY 5 = .ok (.iload_n 0, 1) := by decide +kernel
theorem dX11_alongY_6 : decode cX11_alongY 6 = .ok (.bipush 6, 2) := by decide +kernel
theorem dX11_alongY_8 : decode cX11_alongY 8 = .ok (.if_icmp .ne 7, 3) := by decide +kernel
theorem dX11_alongY_11 : decode cX11_alongY 11 = .ok (.iconst 0, 1) := by decide +kernel
theorem dX11_alongY_12 : decode cX11_alongY 12 = .ok (.goto 19, 3) := by decide +kernel
theorem dX11_alongY_15 : decode cX11_alongY 15 = .ok (.iload_n 0, 1) := by decide +kernel
theorem dX11_alongY_16 : decode cX11_alongY 16 = .ok (.iconst 2, 1) := by decide +kernel
theorem dX11_alongY_17 : decode cX11_alongY 17 = .ok (.if_icmp .le 13, 3) := by decide +kernel
theorem dX11_alongY_20 : decode cX11_alongY 20 = .ok (.iload_n 0, 1) := by decide +kernel
theorem dX11_alongY_21 : decode cX11_alongY 21 = .ok (.bipush 6, 2) := by decide +kernel
theorem dX11_alongY_23 : decode cX11_alongY 23 = .ok (.if_icmp .ge 7, 3) := by decide +kernel
theorem dX11_alongY_26 : decode cX11_alongY 26 = .ok (.iconst 1, 1) := by decide +kernel
theorem dX11_alongY_27 : decode cX11_alongY 27 = .ok (.goto 4, 3) := by decide +kernel
theorem dX11_alongY_30 : decode cX11_alongY 30 = .ok (.iconst (-1), 1) := by decide +kernel
theorem dX11_alongY_31 : decode cX11_alongY 31 = .ok (.ireturn, 1) := by decide +kernel
theorem dX11_comesTo_0 : decode cX11_comesTo 0 = .ok (.aload_n 0, 1) := by decide +kernel
theorem dX11_comesTo_1 : decode cX11_comesTo 1 = .ok (.iload_n 3, 1) := by decide +kernel
theorem dX11_comesTo_2 : decode cX11_comesTo 2 = .ok (.putfield 284, 3) := by decide +kernel
theorem dX11_comesTo_5 : decode cX11_comesTo 5 = .ok (.iconst 1, 1) := by decide +kernel
theorem dX11_comesTo_6 : decode cX11_comesTo 6 = .ok (.istore 4, 2) := by decide +kernel
theorem dX11_comesTo_8 : decode cX11_comesTo 8 = .ok (.iload 4, 2) := by decide +kernel
theorem dX11_comesTo_10 : decode cX11_comesTo 10 = .ok (.iconst 4, 1) := by decide +kernel
theorem dX11_comesTo_11 : decode cX11_comesTo 11 = .ok (.if_icmp .ge 128, 3) := by decide +kernel
theorem dX11_comesTo_14 : decode cX11_comesTo 14 = .ok (.iload_n 1, 1) := by decide +kernel
theorem dX11_comesTo_15 : decode cX11_comesTo 15 = .ok (.bipush 10, 2) := by decide +kernel
theorem dX11_comesTo_17 : decode cX11_comesTo 17 = .ok (.irem, 1) := by decide +kernel
theorem dX11_comesTo_18 : decode cX11_comesTo 18 = .ok (.iload 4, 2) := by decide +kernel
theorem dX11_comesTo_20 : decode cX11_comesTo 20 = .ok (.iload_n 2, 1) := by decide +kernel
theorem dX11_comesTo_21 : decode cX11_comesTo 21 = .ok (.invokestatic 287, 3) := by decide +kernel
theorem dX11_comesTo_24 : decode cX11_comesTo 24 = .ok (.imul, 1) := by decide +kernel
theorem dX11_comesTo_25 : decode cX11_comesTo 25 = .ok (.iadd, 1) := by decide +kernel
theorem dX11_comesTo_26 : decode cX11_comesTo 26 = .ok (.istore 5, 2) := by decide +kernel
theorem dX11_comesTo_28 : decode cX11_comesTo 28 = .ok (.iload_n 1, 1) := by decide +kernel
theorem dX11_comesTo_29 : decode cX11_comesTo 29 = .ok (.bipush 10, 2) := by decide +kernel
theorem dX11_comesTo_31 : decode cX11_comesTo 31 = .ok (.idiv, 1) := by decide +kernel
theorem dX11_comesTo_32 : decode cX11_comesTo 32 = .ok (.iload 4, 2) := by decide +kernel
theorem dX11_comesTo_34 : decode cX11_comesTo 34 = .ok (.iload_n 2, 1) := by decide +kernel
theorem dX11_comesTo_35 : decode cX11_comesTo 35 = .ok (.invokestatic 290, 3) := by decide +kernel
theorem dX11_comesTo_38 : decode cX11_comesTo 38 = .ok (.imul, 1) := by decide +kernel
theorem dX11_comesTo_39 : decode cX11_comesTo 39 = .ok (.iadd, 1) := by decide +kernel
theorem dX11_comesTo_40 : decode cX11_comesTo 40 = .ok (.istore 6, 2) := by decide +kernel
theorem dX11_comesTo_42 : decode cX11_comesTo 42 = .ok (.iload 5, 2) := by decide +kernel
theorem dX11_comesTo_44 : decode cX11_comesTo 44 = .ok (.iconst 0, 1) := by decide +kernel
theorem dX11_comesTo_45 : decode cX11_comesTo 45 = .ok (.aload_n 0, 1) := by decide +kernel
theorem dX11_comesTo_46 : decode cX11_comesTo 46 = .ok (.getfield 33, 3) := by decide +kernel
theorem dX11_comesTo_49 : decode cX11_comesTo 49 = .ok (.iconst 0, 1) := by decide +kernel
theorem dX11_comesTo_50 : decode cX11_comesTo 50 = .ok (.iaload, 1) := by decide +kernel
theorem dX11_comesTo_51 : decode cX11_comesTo 51 = .ok (.iconst 1, 1) := by decide +kernel
theorem dX11_comesTo_52 : decode cX11_comesTo 52 = .ok (.isub, 1) := by decide +kernel
theorem dX11_comesTo_53 : decode cX11_comesTo 53 = .ok (.invokestatic 180, 3) := by decide +kernel
theorem dX11_comesTo_56 : decode cX11_comesTo 56 = .ok (.ifCond .eq 77, 3) := by decide +kernel
theorem dX11_comesTo_59 : decode cX11_comesTo 59 = .ok (.iload 6, 2) := by decide +kernel
theorem dX11_comesTo_61 : decode cX11_comesTo 61 = .ok (.iconst 0, 1) := by decide +kernel
theorem dX11_comesTo_62 : decode cX11_comesTo 62 = .ok (.aload_n 0, 1) := by decide +kernel
theorem dX11_comesTo_63 : decode cX11_comesTo 63 = .ok (.getfield 33, 3) := by decide +kernel
theorem dX11_comesTo_66 : decode cX11_comesTo 66 = .ok (.iconst 1, 1) := by decide +kernel
theorem dX11_comesTo_67 : decode cX11_comesTo 67 = .ok (.iaload, 1) := by decide +kernel
theorem dX11_comesTo_68 : decode cX11_comesTo 68 = .ok (.iconst 1, 1) := by decide +kernel
theorem dX11_comesTo_69 : decode cX11_comesTo 69 = .ok (.isub, 1) := by decide +kernel
theorem dX11_comesTo_70 : decode cX11_comesTo 70 = .ok (.invokestatic 180, 3) := by decide +kernel
theorem dX11_comesTo_73 : decode cX11_comesTo 73 = .ok (.ifCond .ne 6, 3) := by decide +kernel
theorem dX11_comesTo_76 : decode cX11_comesTo 76 = .ok (.goto 57, 3) := by decide +kernel
theorem dX11_comesTo_79 : decode cX11_comesTo 79 = .ok (.aload_n 0, 1) := by decide +kernel
theorem dX11_comesTo_80 : decode cX11_comesTo 80 = .ok (.dup, 1) := by decide +kernel
theorem dX11_comesTo_81 : decode cX11_comesTo 81 = .ok (.getfield 284, 3) := by decide +kernel
theorem dX11_comesTo_84 : decode cX11_comesTo 84 = .ok (.aload_n 0, 1) := by decide +kernel
theorem dX11_comesTo_85 : decode cX11_comesTo 85 = .ok (.bipush 10, 2) := by decide +kernel
theorem dX11_comesTo_87 : decode cX11_comesTo 87 = .ok (.iload 6, 2) := by decide +kernel
theorem dX11_comesTo_89 : decode cX11_comesTo 89 = .ok (.imul, 1) := by decide +kernel
theorem dX11_comesTo_90 : decode cX11_comesTo 90 = .ok (.iload 5, 2) := by decide +kernel
theorem dX11_comesTo_92 : decode cX11_comesTo 92 = .ok (.iadd, 1) := by decide +kernel
theorem dX11_comesTo_93 : decode cX11_comesTo 93 = .ok (.invokevirtual 271, 3) := by decide +kernel
theorem dX11_comesTo_96 : decode cX11_comesTo 96 = .ok (.ifCond .lt 7, 3) := by decide +kernel
theorem dX11_comesTo_99 : decode cX11_comesTo 99 = .ok (.iconst 2, 1) := by decide +kernel
theorem dX11_comesTo_100 : decode cX11_comesTo 100 = .ok (.goto 29, 3) := by decide +kernel
theorem dX11_comesTo_103 : decode cX11_comesTo 103 = .ok (.aload_n 0, 1) := by decide +kernel
theorem dX11_comesTo_104 : decode cX11_comesTo 104 = .ok (.getfield 33, 3) := by decide +kernel
theorem dX11_comesTo_107 : decode cX11_comesTo 107 = .ok (.sipush 441, 3) := by decide +kernel
theorem dX11_comesTo_110 : decode cX11_comesTo 110 = .ok (.bipush 10, 2) := by decide +kernel
theorem dX11_comesTo_112 : decode cX11_comesTo 112 = .ok (.iload 6, 2) := by decide +kernel
theorem dX11_comesTo_114 : decode cX11_comesTo 114 = .ok (.imul, 1) := by decide +kernel
theorem dX11_comesTo_115 : decode cX11_comesTo 115 = .ok (.iadd, 1) := by decide +kernel
theorem dX11_comesTo_116 : decode cX11_comesTo 116 = .ok (.iload 5, 2) := by decide +kernel
theorem dX11_comesTo_118 : decode cX11_comesTo 118 = .ok (.iadd, 1) := by decide +kernel
theorem dX11_comesTo_119 : decode cX11_comesTo 119 = .ok (.iaload, 1) := by decide +kernel
theorem dX11_comesTo_120 : decode cX11_comesTo 120 = .ok (.iconst 1, 1) := by decide +kernel
theorem dX11_comesTo_121 : decode cX11_comesTo 121 = .ok (.if_icmp .ne 7, 3) := by decide +kernel
theorem dX11_comesTo_124 : decode cX11_comesTo 124 = .ok (.iconst 3, 1) := by decide +kernel
theorem dX11_comesTo_125 : decode cX11_comesTo 125 = .ok (.goto 4, 3) := by decide +kernel
theorem dX11_comesTo_128 : decode cX11_comesTo 128 = .ok (.iconst 0, 1) := by decide +kernel
theorem dX11_comesTo_129 : decode cX11_comesTo 129 = .ok (.isub, 1) := by decide +kernel
theorem dX11_comesTo_130 : decode cX11_comesTo 130 = .ok (.putfield 284, 3) := by decide +kernel
theorem dX11_comesTo_133 : decode cX11_comesTo 133 = .ok (.iinc 4 1, 3) := by decide +kernel
theorem dX11_comesTo_136 : decode cX11_comesTo 136 = .ok (.goto (-128), 3) := by decide +kernel
theorem dX11_comesTo_139 : decode cX11_comesTo 139 = .ok (.aload_n 0, 1) := by decide +kernel
theorem dX11_comesTo_140 : decode cX11_comesTo 140 = .ok (.aload_n 0, 1) := by decide +kernel
theorem dX11_comesTo_141 : decode cX11_comesTo 141 = .ok (.getfield 284, 3) := by decide +kernel
theorem dX11_comesTo_144 : decode cX11_comesTo 144 = .ok (.ifCond .ge 7, 3) := by decide +kernel
theorem dX11_comesTo_147 : decode cX11_comesTo 147 = .ok (.iconst 0, 1) := by decide +kernel
theorem dX11_comesTo_148 : decode cX11_comesTo 148 = .ok (.goto 7, 3) := by decide +kernel
theorem dX11_comesTo_151 : decode cX11_comesTo 151 = .ok (.aload_n 0, 1) := by decide +kernel
theorem dX11_comesTo_152 : decode cX11_comesTo 152 = .ok (.getfield 284, 3) := by decide +kernel
theorem dX11_comesTo_155 : decode cX11_comesTo 155 = .ok (.putfield 284, 3) := by decide +kernel
theorem dX11_comesTo_158 : decode cX11_comesTo 158 = .ok (.aload_n 0, 1) := by decide +kernel
theorem dX11_comesTo_159 : decode cX11_comesTo 159 = .ok (.iload_n 2, 1) := by decide +kernel
theorem dX11_comesTo_160 : decode cX11_comesTo 160 = .ok (.aload_n 0, 1) := by decide +kernel
theorem dX11_comesTo_161 : decode cX11_comesTo 161 = .ok (.getfield 33, 3) := by decide +kernel
theorem dX11_comesTo_164 : decode cX11_comesTo 164 = .ok (.bipush 75, 2) := by decide +kernel
theorem dX11_comesTo_166 : decode cX11_comesTo 166 = .ok (.iload_n 1, 1) := by decide +kernel
theorem dX11_comesTo_167 : decode cX11_comesTo 167 = .ok (.iadd, 1) := by decide +kernel
theorem dX11_comesTo_168 : decode cX11_comesTo 168 = .ok (.iaload, 1) := by decide +kernel
theorem dX11_comesTo_169 : decode cX11_comesTo 169 = .ok (.iadd, 1) := by decide +kernel
theorem dX11_comesTo_170 : decode cX11_comesTo 170 = .ok (.bipush 8, 2) := by decide +kernel
theorem dX11_comesTo_172 : decode cX11_comesTo 172 = .ok (.irem, 1) := by decide +kernel
theorem dX11_comesTo_173 : decode cX11_comesTo 173 = .ok (.putfield 293, 3) := by decide +kernel
theorem dX11_comesTo_176 : decode cX11_comesTo 176 = .ok (.return_, 1) := by decide +kernel
theorem dX11_comes_0 : decode cX11_comes 0 = .ok (.aload_n 0, 1) := by decide +kernel
theorem dX11_comes_1 : decode cX11_comes 1 = .ok (.iconst 0, 1) := by decide +kernel
theorem dX11_comes_2 : decode cX11_comes 2 = .ok (.putfield 1, 3) := by decide +kernel
theorem dX11_comes_5 : decode cX11_comes 5 = .ok (.aload_n 0, 1) := by decide +kernel
theorem dX11_comes_6 : decode cX11_comes 6 = .ok (.iload_n 1, 1) := by decide +kernel
theorem dX11_comes_7 : decode cX11_comes 7 = .ok (.invokevirtual 274, 3) := by decide +kernel
theorem dX11_comes_10 : decode cX11_comes 10 = .ok (.ifCond .eq 21, 3) := by decide +kernel
theorem dX11_comes_13 : decode cX11_comes 13 = .ok (.iload_n 2, 1) := by decide +kernel
theorem dX11_comes_14 : decode cX11_comes 14 = .ok (.iload_n 3, 1) := by decide +kernel
theorem dX11_comes_15 : decode cX11_comes 15 = .ok (.invokestatic 296, 3) := by decide +kernel
theorem dX11_comes_18 : decode cX11_comes 18 = .ok (.ifCond .eq 13, 3) := by decide +kernel
theorem dX11_comes_21 : decode cX11_comes 21 = .ok (.iload 4, 2) := by decide +kernel
theorem dX11_comes_23 : decode cX11_comes 23 = .ok (.iconst 0, 1) := by decide +kernel
theorem dX11_comes_24 : decode cX11_comes 24 = .ok (.iconst 1, 1) := by decide +kernel
theorem dX11_comes_25 : decode cX11_comes 25 = .ok (.invokestatic 180, 3) := by decide +kernel
theorem dX11_comes_28 : decode cX11_comes 28 = .ok (.ifCond .ne 5, 3) := by decide +kernel
theorem dX11_comes_31 : decode cX11_comes 31 = .ok (.iconst (-1), 1) := by decide +kernel
theorem dX11_comes_32 : decode cX11_comes 32 = .ok (.ireturn, 1) := by decide +kernel
theorem dX11_comes_33 : decode cX11_comes 33 = .ok (.aload_n 0, 1) := by decide +kernel
theorem dX11_comes_34 : decode cX11_comes 34 = .ok (.iload_n 1, 1) := by decide +kernel
theorem dX11_comes_35 : decode cX11_comes 35 = .ok (.iload_n 2, 1) := by decide +kernel
theorem dX11_comes_36 : decode cX11_comes 36 = .ok (.iload_n 3, 1) := by decide +kernel
theorem dX11_comes_37 : decode cX11_comes 37 = .ok (.invokevirtual 299, 3) := by decide +kernel
theorem dX11_comes_40 : decode cX11_comes 40 = .ok (.iload 4, 2) := by decide +kernel
theorem dX11_comes_42 : decode cX11_comes 42 = .ok (.ifCond .ne 10, 3) := by decide +kernel
theorem dX11_comes_45 : decode cX11_comes 45 = .ok (.aload_n 0, 1) := by decide +kernel
theorem dX11_comes_46 : decode cX11_comes 46 = .ok (.getfield 293, 3) := by decide +kernel
theorem dX11_comes_49 : decode cX11_comes 49 = .ok (.goto 7, 3) := by decide +kernel
theorem dX11_comes_52 : decode cX11_comes 52 = .ok (.aload_n 0, 1) := by decide +kernel
theorem dX11_comes_53 : decode cX11_comes 53 = .ok (.getfield 284, 3) := by decide +kernel
theorem dX11_comes_56 : decode cX11_comes 56 = .ok (.ireturn, 1) := by decide +kernel
theorem dX11_turns_0 : decode cX11_turns 0 = .ok (.aload_n 0, 1) := by decide +kernel
theorem dX11_turns_1 : decode cX11_turns 1 = .ok (.getfield 284, 3) := by decide +kernel
theorem dX11_turns_4 : decode cX11_turns 4 = .ok (.aload_n 0, 1) := by decide +kernel
theorem dX11_turns_5 : decode cX11_turns 5 = .ok (.getfield 33, 3) := by decide +kernel
theorem dX11_turns_8 : decode cX11_turns 8 = .ok (.sipush 389, 3) := by decide +kernel
theorem dX11_turns_11 : decode cX11_turns 11 = .ok (.iload_n 1, 1) := by decide +kernel
theorem dX11_turns_12 : decode cX11_turns 12 = .ok (.iadd, 1) := by decide +kernel
theorem dX11_turns_13 : decode cX11_turns 13 = .ok (.iaload, 1) := by decide +kernel
theorem dX11_turns_14 : decode cX11_turns 14 = .ok (.if_icmp .le 21, 3) := by decide +kernel
theorem dX11_turns_17 : decode cX11_turns 17 = .ok (.aload_n 0, 1) := by decide +kernel
theorem dX11_turns_18 : decode cX11_turns 18 = .ok (.getfield 284, 3) := by decide +kernel
theorem dX11_turns_21 : decode cX11_turns 21 = .ok (.aload_n 0, 1) := by decide +kernel
theorem dX11_turns_22 : decode cX11_turns 22 = .ok (.getfield 33, 3) := by decide +kernel
theorem dX11_turns_25 : decode cX11_turns 25 = .ok (.sipush 389, 3) := by decide +kernel
theorem dX11_turns_28 : decode cX11_turns 28 = .ok (.iload_n 1, 1) := by decide +kernel
theorem dX11_turns_29 : decode cX11_turns 29 = .ok (.iadd, 1) := by decide +kernel
theorem dX11_turns_30 : decode cX11_turns 30 = .ok (.iaload, 1) := by decide +kernel
theorem dX11_turns_31 : decode cX11_turns 31 = .ok (.isub, 1) := by decide +kernel
theorem dX11_turns_32 : decode cX11_turns 32 = .ok (.goto 4, 3) := by decide +kernel
theorem dX11_turns_35 : decode cX11_turns 35 = .ok (.iconst 0, 1) := by decide +kernel
theorem dX11_turns_36 : decode cX11_turns 36 = .ok (.istore_n 2, 1) := by decide +kernel
theorem dX11_turns_37 : decode cX11_turns 37 = .ok (.aload_n 0, 1) := by decide +kernel
theorem dX11_turns_38 : decode cX11_turns 38 = .ok (.getfield 293, 3) := by decide +kernel
theorem dX11_turns_41 : decode cX11_turns 41 = .ok (.aload_n 0, 1) := by decide +kernel
theorem dX11_turns_42 : decode cX11_turns 42 = .ok (.getfield 33, 3) := by decide +kernel
theorem dX11_turns_45 : decode cX11_turns 45 = .ok (.sipush 397, 3) := by decide +kernel
theorem dX11_turns_48 : decode cX11_turns 48 = .ok (.iload_n 1, 1) := by decide +kernel
theorem dX11_turns_49 : decode cX11_turns 49 = .ok (.iadd, 1) := by decide +kernel
theorem dX11_turns_50 : decode cX11_turns 50 = .ok (.iaload, 1) := by decide +kernel
theorem dX11_turns_51 : decode cX11_turns 51 = .ok (.isub, 1) := by decide +kernel
theorem dX11_turns_52 : decode cX11_turns 52 = .ok (.bipush 8, 2) := by decide +kernel
theorem dX11_turns_54 : decode cX11_turns 54 = .ok (.iadd, 1) := by decide +kernel
theorem dX11_turns_55 : decode cX11_turns 55 = .ok (.bipush 8, 2) := by decide +kernel
theorem dX11_turns_57 : decode cX11_turns 57 = .ok (.irem, 1) := by decide +kernel
theorem dX11_turns_58 : decode cX11_turns 58 = .ok (.istore_n 3, 1) := by decide +kernel
theorem dX11_turns_59 : decode cX11_turns 59 = .ok (.aload_n 0, 1) := by decide +kernel
theorem dX11_turns_60 : decode cX11_turns 60 = .ok (.getfield 33, 3) := by decide +kernel
theorem dX11_turns_63 : decode cX11_turns 63 = .ok (.sipush 405, 3) := by decide +kernel
theorem dX11_turns_66 : decode cX11_turns 66 = .ok (.iload_n 1, 1) := by decide +kernel
theorem dX11_turns_67 : decode cX11_turns 67 = .ok (.iadd, 1) := by decide +kernel
theorem dX11_turns_68 : decode cX11_turns 68 = .ok (.iaload, 1) := by decide +kernel
theorem dX11_turns_69 : decode cX11_turns 69 = .ok (.iconst 1, 1) := by decide +kernel
theorem dX11_turns_70 : decode cX11_turns 70 = .ok (.if_icmp .ne 4, 3) := by decide +kernel
theorem dX11_turns_73 : decode cX11_turns 73 = .ok (.return_, 1) := by decide +kernel
theorem dX11_turns_74 : decode cX11_turns 74 = .ok (.iload_n 3, 1) := by decide +kernel
theorem dX11_turns_75 : decode cX11_turns 75 = .ok (.iconst 4, 1) := by decide +kernel
theorem dX11_turns_76 : decode cX11_turns 76 = .ok (.if_icmp .gt 40, 3) := by decide +kernel
theorem dX11_turns_79 : decode cX11_turns 79 = .ok (.aload_n 0, 1) := by decide +kernel
theorem dX11_turns_80 : decode cX11_turns 80 = .ok (.getfield 33, 3) := by decide +kernel
theorem dX11_turns_83 : decode cX11_turns 83 = .ok (.sipush 397, 3) := by decide +kernel
theorem dX11_turns_86 : decode cX11_turns 86 = .ok (.iload_n 1, 1) := by decide +kernel
theorem dX11_turns_87 : decode cX11_turns 87 = .ok (.iadd, 1) := by decide +kernel
theorem dX11_turns_88 : decode cX11_turns 88 = .ok (.aload_n 0, 1) := by decide +kernel
theorem dX11_turns_89 : decode cX11_turns 89 = .ok (.getfield 33, 3) := by decide +kernel
theorem dX11_turns_92 : decode cX11_turns 92 = .ok (.sipush 397, 3) := by decide +kernel
theorem dX11_turns_95 : decode cX11_turns 95 = .ok (.iload_n 1, 1) := by decide +kernel
theorem dX11_turns_96 : decode cX11_turns 96 = .ok (.iadd, 1) := by decide +kernel
theorem dX11_turns_97 : decode cX11_turns 97 = .ok (.iaload, 1) := by decide +kernel
theorem dX11_turns_98 : decode cX11_turns 98 = .ok (.iload_n 3, 1) := by decide +kernel
theorem dX11_turns_99 : decode cX11_turns 99 = .ok (.iload_n 2, 1) := by decide +kernel
theorem dX11_turns_100 : decode cX11_turns 100 = .ok (.if_icmp .ge 7, 3) := by decide +kernel
theorem dX11_turns_103 : decode cX11_turns 103 = .ok (.iload_n 3, 1) := by decide +kernel
theorem dX11_turns_104 : decode cX11_turns 104 = .ok (.goto 4, 3) := by decide +kernel
theorem dX11_turns_107 : decode cX11_turns 107 = .ok (.iload_n 2, 1) := by decide +kernel
theorem dX11_turns_108 : decode cX11_turns 108 = .ok (.iadd, 1) := by decide +kernel
theorem dX11_turns_109 : decode cX11_turns 109 = .ok (.bipush 8, 2) := by decide +kernel
theorem dX11_turns_111 : decode cX11_turns 111 = .ok (.irem, 1) := by decide +kernel
theorem dX11_turns_112 : decode cX11_turns 112 = .ok (.iastore, 1) := by decide +kernel
theorem dX11_turns_113 : decode cX11_turns 113 = .ok (.goto 46, 3) := by decide +kernel
theorem dX11_turns_116 : decode cX11_turns 116 = .ok (.aload_n 0, 1) := by decide +kernel
theorem dX11_turns_117 : decode cX11_turns 117 = .ok (.getfield 33, 3) := by decide +kernel
theorem dX11_turns_120 : decode cX11_turns 120 = .ok (.sipush 397, 3) := by decide +kernel
theorem dX11_turns_123 : decode cX11_turns 123 = .ok (.iload_n 1, 1) := by decide +kernel
theorem dX11_turns_124 : decode cX11_turns 124 = .ok (.iadd, 1) := by decide +kernel
theorem dX11_turns_125 : decode cX11_turns 125 = .ok (.aload_n 0, 1) := by decide +kernel
theorem dX11_turns_126 : decode cX11_turns 126 = .ok (.getfield 33, 3) := by decide +kernel
theorem dX11_turns_129 : decode cX11_turns 129 = .ok (.sipush 397, 3) := by decide +kernel
theorem dX11_turns_132 : decode cX11_turns 132 = .ok (.iload_n 1, 1) := by decide +kernel
theorem dX11_turns_133 : decode cX11_turns 133 = .ok (.iadd, 1) := by decide +kernel
theorem dX11_turns_134 : decode cX11_turns 134 = .ok (.iaload, 1) := by decide +kernel
theorem dX11_turns_135 : decode cX11_turns 135 = .ok (.bipush 8, 2) := by decide +kernel
theorem dX11_turns_137 : decode cX11_turns 137 = .ok (.iadd, 1) := by decide +kernel
theorem dX11_turns_138 : decode cX11_turns 138 = .ok (.bipush 8, 2) := by decide +kernel
theorem dX11_turns_140 : decode cX11_turns 140 = .ok (.iload_n 3, 1) := by decide +kernel
theorem dX11_turns_141 : decode cX11_turns 141 = .ok (.isub, 1) := by decide +kernel
theorem dX11_turns_142 : decode cX11_turns 142 = .ok (.iload_n 2, 1) := by decide +kernel
theorem dX11_turns_143 : decode cX11_turns 143 = .ok (.if_icmp .ge 10, 3) := by decide +kernel
theorem dX11_turns_146 : decode cX11_turns 146 = .ok (.bipush 8, 2) := by decide +kernel
theorem dX11_turns_148 : decode cX11_turns 148 = .ok (.iload_n 3, 1) := by decide +kernel
theorem dX11_turns_149 : decode cX11_turns 149 = .ok (.isub, 1) := by decide +kernel
theorem dX11_turns_150 : decode cX11_turns 150 = .ok (.goto 4, 3) := by decide +kernel
theorem dX11_turns_153 : decode cX11_turns 153 = .ok (.iload_n 2, 1) := by decide +kernel
theorem dX11_turns_154 : decode cX11_turns 154 = .ok (.isub, 1) := by decide +kernel
theorem dX11_turns_155 : decode cX11_turns 155 = .ok (.bipush 8, 2) := by decide +kernel
theorem dX11_turns_157 : decode cX11_turns 157 = .ok (.irem, 1) := by decide +kernel
theorem dX11_turns_158 : decode cX11_turns 158 = .ok (.iastore, 1) := by decide +kernel
theorem dX11_turns_159 : decode cX11_turns 159 = .ok (.return_, 1) := by decide +kernel
theorem dX11_allTurn_0 : decode cX11_allTurn 0 = .ok (.aload_n 0, 1) := by decide +kernel
theorem dX11_allTurn_1 : decode cX11_allTurn 1 = .ok (.iconst 0, 1) := by decide +kernel
theorem dX11_allTurn_2 : decode cX11_allTurn 2 = .ok (.putfield 303, 3) := by decide +kernel
theorem dX11_allTurn_5 : decode cX11_allTurn 5 = .ok (.iconst 0, 1) := by decide +kernel
theorem dX11_allTurn_6 : decode cX11_allTurn 6 = .ok (.istore_n 3, 1) := by decide +kernel
theorem dX11_allTurn_7 : decode cX11_allTurn 7 = .ok (.iload_n 3, 1) := by decide +kernel
theorem dX11_allTurn_8 : decode cX11_allTurn 8 = .ok (.aload_n 0, 1) := by decide +kernel
theorem dX11_allTurn_9 : decode cX11_allTurn 9 = .ok (.getfield 33, 3) := by decide +kernel
theorem dX11_allTurn_12 : decode cX11_allTurn 12 = .ok (.iconst 2, 1) := by decide +kernel
theorem dX11_allTurn_13 : decode cX11_allTurn 13 = .ok (.iaload, 1) := by decide +kernel
theorem dX11_allTurn_14 : decode cX11_allTurn 14 = .ok (.if_icmp .ge 65, 3) := by decide +kernel
theorem dX11_allTurn_17 : decode cX11_allTurn 17 = .ok (.aload_n 0, 1) := by decide +kernel
theorem dX11_allTurn_18 : decode cX11_allTurn 18 = .ok (.aload_n 0, 1) := by decide +kernel
theorem dX11_allTurn_19 : decode cX11_allTurn 19 = .ok (.getfield 33, 3) := by decide +kernel
theorem dX11_allTurn_22 : decode cX11_allTurn 22 = .ok (.bipush 7, 2) := by decide +kernel
theorem dX11_allTurn_24 : decode cX11_allTurn 24 = .ok (.iload_n 3, 1) := by decide +kernel
theorem dX11_allTurn_25 : decode cX11_allTurn 25 = .ok (.iadd, 1) := by decide +kernel
theorem dX11_allTurn_26 : decode cX11_allTurn 26 = .ok (.iaload, 1) := by decide +kernel
theorem dX11_allTurn_27 : decode cX11_allTurn 27 = .ok (.iload_n 1, 1) := by decide +kernel
theorem dX11_allTurn_28 : decode cX11_allTurn 28 = .ok (.iload_n 2, 1) := by decide +kernel
theorem dX11_allTurn_29 : decode cX11_allTurn 29 = .ok (.invokevirtual 299, 3) := by decide +kernel
theorem dX11_allTurn_32 : decode cX11_allTurn 32 = .ok (.aload_n 0, 1) := by decide +kernel
theorem dX11_allTurn_33 : decode cX11_allTurn 33 = .ok (.iload_n 3, 1) := by decide +kernel
theorem dX11_allTurn_34 : decode cX11_allTurn 34 = .ok (.invokevirtual 306, 3) := by decide +kernel
theorem dX11_allTurn_37 : decode cX11_allTurn 37 = .ok (.aload_n 0, 1) := by decide +kernel
theorem dX11_allTurn_38 : decode cX11_allTurn 38 = .ok (.getfield 284, 3) := by decide +kernel
theorem dX11_allTurn_41 : decode cX11_allTurn 41 = .ok (.ifCond .le 32, 3) := by decide +kernel
theorem dX11_allTurn_44 : decode cX11_allTurn 44 = .ok (.aload_n 0, 1) := by decide +kernel
theorem dX11_allTurn_45 : decode cX11_allTurn 45 = .ok (.getfield 33, 3) := by decide +kernel
theorem dX11_allTurn_48 : decode cX11_allTurn 48 = .ok (.sipush 397, 3) := by decide +kernel
theorem dX11_allTurn_51 : decode cX11_allTurn 51 = .ok (.iload_n 3, 1) := by decide +kernel
theorem dX11_allTurn_52 : decode cX11_allTurn 52 = .ok (.iadd, 1) := by decide +kernel
theorem dX11_allTurn_53 : decode cX11_allTurn 53 = .ok (.iaload, 1) := by decide +kernel
theorem dX11_allTurn_54 : decode cX11_allTurn 54 = .ok (.aload_n 0, 1) := by decide +kernel
theorem dX11_allTurn_55 : decode cX11_allTurn 55 = .ok (.getfield 293, 3) := by decide +kernel
theorem dX11_allTurn_58 : decode cX11_allTurn 58 = .ok (.if_icmp .ne 15, 3) := by decide +kernel
theorem dX11_allTurn_61 : decode cX11_allTurn 61 = .ok (.aload_n 0, 1) := by decide +kernel
theorem dX11_allTurn_62 : decode cX11_allTurn 62 = .ok (.dup, 1) := by decide +kernel
theorem dX11_allTurn_63 : decode cX11_allTurn 63 = .ok (.getfield 303, 3) := by decide +kernel
theorem dX11_allTurn_66 : decode cX11_allTurn 66 = .ok (.iconst 1, 1) := by decide +kernel
theorem dX11_allTurn_67 : decode cX11_allTurn 67 = .ok (.iload_n 3, 1) := by decide +kernel
theorem dX11_allTurn_68 : decode cX11_allTurn 68 = .ok (.ishl, 1) := by decide +kernel
theorem dX11_allTurn_69 : decode cX11_allTurn 69 = .ok (.ior, 1) := by decide +kernel
theorem dX11_allTurn_70 : decode cX11_allTurn 70 = .ok (.putfield 303, 3) := by decide +kernel
theorem dX11_allTurn_73 : decode cX11_allTurn 73 = .ok (.iinc 3 1, 3) := by decide +kernel
theorem dX11_allTurn_76 : decode cX11_allTurn 76 = .ok (.goto (-69), 3) := by decide +kernel
theorem dX11_allTurn_79 : decode cX11_allTurn 79 = .ok (.aload_n 0, 1) := by decide +kernel
theorem dX11_allTurn_80 : decode cX11_allTurn 80 = .ok (.getfield 33, 3) := by decide +kernel
theorem dX11_allTurn_83 : decode cX11_allTurn 83 = .ok (.sipush 541, 3) := by decide +kernel
theorem dX11_allTurn_86 : decode cX11_allTurn 86 = .ok (.iload_n 1, 1) := by decide +kernel
theorem dX11_allTurn_87 : decode cX11_allTurn 87 = .ok (.iconst 1, 1) := by decide +kernel
theorem dX11_allTurn_88 : decode cX11_allTurn 88 = .ok (.iadd, 1) := by decide +kernel
theorem dX11_allTurn_89 : decode cX11_allTurn 89 = .ok (.iastore, 1) := by decide +kernel
theorem dX11_allTurn_90 : decode cX11_allTurn 90 = .ok (.return_, 1) := by decide +kernel
theorem dX11_blows_0 : decode cX11_blows 0 = .ok (.aload_n 0, 1) := by decide +kernel
theorem dX11_blows_1 : decode cX11_blows 1 = .ok (.iload_n 1, 1) := by decide +kernel
theorem dX11_blows_2 : decode cX11_blows 2 = .ok (.iload_n 2, 1) := by decide +kernel
theorem dX11_blows_3 : decode cX11_blows 3 = .ok (.invokevirtual 309, 3) := by decide +kernel
theorem dX11_blows_6 : decode cX11_blows 6 = .ok (.iconst 0, 1) := by decide +kernel
theorem dX11_blows_7 : decode cX11_blows 7 = .ok (.istore_n 3, 1) := by decide +kernel
theorem dX11_blows_8 : decode cX11_blows 8 = .ok (.iconst 0, 1) := by decide +kernel
theorem dX11_blows_9 : decode cX11_blows 9 = .ok (.istore 4, 2) := by decide +kernel
theorem dX11_blows_11 : decode cX11_blows 11 = .ok (.iconst 0, 1) := by decide +kernel
theorem dX11_blows_12 : decode cX11_blows 12 = .ok (.istore 5, 2) := by decide +kernel
theorem dX11_blows_14 : decode cX11_blows 14 = .ok (.iload 5, 2) := by decide +kernel
theorem dX11_blows_16 : decode cX11_blows 16 = .ok (.aload_n 0, 1) := by decide +kernel
theorem dX11_blows_17 : decode cX11_blows 17 = .ok (.getfield 33, 3) := by decide +kernel
theorem dX11_blows_20 : decode cX11_blows 20 = .ok (.iconst 2, 1) := by decide +kernel
theorem dX11_blows_21 : decode cX11_blows 21 = .ok (.iaload, 1) := by decide +kernel
theorem dX11_blows_22 : decode cX11_blows 22 = .ok (.if_icmp .ge 108, 3) := by decide +kernel
theorem dX11_blows_25 : decode cX11_blows 25 = .ok (.aload_n 0, 1) := by decide +kernel
theorem dX11_blows_26 : decode cX11_blows 26 = .ok (.getfield 303, 3) := by decide +kernel
theorem dX11_blows_29 : decode cX11_blows 29 = .ok (.iload 5, 2) := by decide +kernel
theorem dX11_blows_31 : decode cX11_blows 31 = .ok (.invokestatic 237, 3) := by decide +kernel
theorem dX11_blows_34 : decode cX11_blows 34 = .ok (.ifCond .eq 21, 3) := by decide +kernel
theorem dX11_blows_37 : decode cX11_blows 37 = .ok (.iload 4, 2) := by decide +kernel
theorem dX11_blows_39 : decode cX11_blows 39 = .ok (.aload_n 0, 1) := by decide +kernel
theorem dX11_blows_40 : decode cX11_blows 40 = .ok (.getfield 33, 3) := by decide +kernel
theorem dX11_blows_43 : decode cX11_blows 43 = .ok (.bipush 23, 2) := by decide +kernel
theorem dX11_blows_45 : decode cX11_blows 45 = .ok (.iload 5, 2) := by decide +kernel
theorem dX11_blows_47 : decode cX11_blows 47 = .ok (.iadd, 1) := by decide +kernel
theorem dX11_blows_48 : decode cX11_blows 48 = .ok (.iaload, 1) := by decide +kernel
theorem dX11_blows_49 : decode cX11_blows 49 = .ok (.iadd, 1) := by decide +kernel
theorem dX11_blows_50 : decode cX11_blows 50 = .ok (.istore 4, 2) := by decide +kernel
theorem dX11_blows_52 : decode cX11_blows 52 = .ok (.goto 72, 3) := by decide +kernel
theorem dX11_blows_55 : decode cX11_blows 55 = .ok (.aload_n 0, 1) := by decide +kernel
theorem dX11_blows_56 : decode cX11_blows 56 = .ok (.getfield 33, 3) := by decide +kernel
theorem dX11_blows_59 : decode cX11_blows 59 = .ok (.sipush 373, 3) := by decide +kernel
theorem dX11_blows_62 : decode cX11_blows 62 = .ok (.iload 5, 2) := by decide +kernel
theorem dX11_blows_64 : decode cX11_blows 64 = .ok (.iadd, 1) := by decide +kernel
theorem dX11_blows_65 : decode cX11_blows 65 = .ok (.iaload, 1) := by decide +kernel
theorem dX11_blows_66 : decode cX11_blows 66 = .ok (.iload_n 2, 1) := by decide +kernel
theorem dX11_blows_67 : decode cX11_blows 67 = .ok (.if_icmp .ge 17, 3) := by decide +kernel
theorem dX11_blows_70 : decode cX11_blows 70 = .ok (.aload_n 0, 1) := by decide +kernel
theorem dX11_blows_71 : decode cX11_blows 71 = .ok (.getfield 33, 3) := by decide +kernel
theorem dX11_blows_74 : decode cX11_blows 74 = .ok (.sipush 373, 3) := by decide +kernel
theorem dX11_blows_77 : decode cX11_blows 77 = .ok (.iload 5, 2) := by decide +kernel
theorem dX11_blows_79 : decode cX11_blows 79 = .ok (.iadd, 1) := by decide +kernel
theorem dX11_blows_80 : decode cX11_blows 80 = .ok (.iaload, 1) := by decide +kernel
theorem dX11_blows_81 : decode cX11_blows 81 = .ok (.goto 4, 3) := by decide +kernel
theorem dX11_blows_84 : decode cX11_blows 84 = .ok (.iload_n 2, 1) := by decide +kernel
theorem dX11_blows_85 : decode cX11_blows 85 = .ok (.istore 6, 2) := by decide +kernel
theorem dX11_blows_87 : decode cX11_blows 87 = .ok (.aload_n 0, 1) := by decide +kernel
theorem dX11_blows_88 : decode cX11_blows 88 = .ok (.getfield 33, 3) := by decide +kernel
theorem dX11_blows_91 : decode cX11_blows 91 = .ok (.sipush 373, 3) := by decide +kernel
theorem dX11_blows_94 : decode cX11_blows 94 = .ok (.iload 5, 2) := by decide +kernel
theorem dX11_blows_96 : decode cX11_blows 96 = .ok (.iadd, 1) := by decide +kernel
theorem dX11_blows_97 : decode cX11_blows 97 = .ok (.dup2, 1) := by decide +kernel
theorem dX11_blows_98 : decode cX11_blows 98 = .ok (.iaload, 1) := by decide +kernel
theorem dX11_blows_99 : decode cX11_blows 99 = .ok (.iload 6, 2) := by decide +kernel
theorem dX11_blows_101 : decode cX11_blows 101 = .ok (.isub, 1) := by decide +kernel
theorem dX11_blows_102 : decode cX11_blows 102 = .ok (.iastore, 1) := by decide +kernel
theorem dX11_blows_103 : decode cX11_blows 103 = .ok (.aload_n 0, 1) := by decide +kernel
theorem dX11_blows_104 : decode cX11_blows 104 = .ok (.getfield 33, 3) := by decide +kernel
theorem dX11_blows_107 : decode cX11_blows 107 = .ok (.sipush 413, 3) := by decide +kernel
theorem dX11_blows_110 : decode cX11_blows 110 = .ok (.iload 5, 2) := by decide +kernel
theorem dX11_blows_112 : decode cX11_blows 112 = .ok (.iadd, 1) := by decide +kernel
theorem dX11_blows_113 : decode cX11_blows 113 = .ok (.dup2, 1) := by decide +kernel
theorem dX11_blows_114 : decode cX11_blows 114 = .ok (.iaload, 1) := by decide +kernel
theorem dX11_blows_115 : decode cX11_blows 115 = .ok (.iload 6, 2) := by decide +kernel
theorem dX11_blows_117 : decode cX11_blows 117 = .ok (.iadd, 1) := by decide +kernel
theorem dX11_blows_118 : decode cX11_blows 118 = .ok (.iastore, 1) := by decide +kernel
theorem dX11_blows_119 : decode cX11_blows 119 = .ok (.iload_n 3, 1) := by decide +kernel
theorem dX11_blows_120 : decode cX11_blows 120 = .ok (.iload 6, 2) := by decide +kernel
theorem dX11_blows_122 : decode cX11_blows 122 = .ok (.iadd, 1) := by decide +kernel
theorem dX11_blows_123 : decode cX11_blows 123 = .ok (.istore_n 3, 1) := by decide +kernel
theorem dX11_blows_124 : decode cX11_blows 124 = .ok (.iinc 5 1, 3) := by decide +kernel
theorem dX11_blows_127 : decode cX11_blows 127 = .ok (.goto (-113), 3) := by decide +kernel
theorem dX11_blows_130 : decode cX11_blows 130 = .ok (.aload_n 0, 1) := by decide +kernel
theorem dX11_blows_131 : decode cX11_blows 131 = .ok (.getfield 303, 3) := by decide +kernel
theorem dX11_blows_134 : decode cX11_blows 134 = .ok (.ifCond .ne 16, 3) := by decide +kernel
theorem dX11_blows_137 : decode cX11_blows 137 = .ok (.aload_n 0, 1) := by decide +kernel
theorem dX11_blows_138 : decode cX11_blows 138 = .ok (.getfield 33, 3) := by decide +kernel
theorem dX11_blows_141 : decode cX11_blows 141 = .ok (.sipush 372, 3) := by decide +kernel
theorem dX11_blows_144 : decode cX11_blows 144 = .ok (.dup2, 1) := by decide +kernel
theorem dX11_blows_145 : decode cX11_blows 145 = .ok (.iaload, 1) := by decide +kernel
theorem dX11_blows_146 : decode cX11_blows 146 = .ok (.iload_n 3, 1) := by decide +kernel
theorem dX11_blows_147 : decode cX11_blows 147 = .ok (.iadd, 1) := by decide +kernel
theorem dX11_blows_148 : decode cX11_blows 148 = .ok (.iastore, 1) := by decide +kernel
theorem dX11_blows_149 : decode cX11_blows 149 = .ok (.return_, 1) := by decide +kernel
theorem dX11_blows_150 : decode cX11_blows 150 = .ok (.iload_n 3, 1) := by decide +kernel
theorem dX11_blows_151 : decode cX11_blows 151 = .ok (.istore 5, 2) := by decide +kernel
theorem dX11_blows_153 : decode cX11_blows 153 = .ok (.iconst 0, 1) := by decide +kernel
theorem dX11_blows_154 : decode cX11_blows 154 = .ok (.istore 6, 2) := by decide +kernel
theorem dX11_blows_156 : decode cX11_blows 156 = .ok (.iload 6, 2) := by decide +kernel
theorem dX11_blows_158 : decode cX11_blows 158 = .ok (.aload_n 0, 1) := by decide +kernel
theorem dX11_blows_159 : decode cX11_blows 159 = .ok (.getfield 33, 3) := by decide +kernel
theorem dX11_blows_162 : decode cX11_blows 162 = .ok (.iconst 2, 1) := by decide +kernel
theorem dX11_blows_163 : decode cX11_blows 163 = .ok (.iaload, 1) := by decide +kernel
theorem dX11_blows_164 : decode cX11_blows 164 = .ok (.if_icmp .ge 94, 3) := by decide +kernel
theorem dX11_blows_167 : decode cX11_blows 167 = .ok (.aload_n 0, 1) := by decide +kernel
theorem dX11_blows_168 : decode cX11_blows 168 = .ok (.getfield 303, 3) := by decide +kernel
theorem dX11_blows_171 : decode cX11_blows 171 = .ok (.iload 6, 2) := by decide +kernel
theorem dX11_blows_173 : decode cX11_blows 173 = .ok (.invokestatic 237, 3) := by decide +kernel
theorem dX11_blows_176 : decode cX11_blows 176 = .ok (.istore 7, 2) := by decide +kernel
theorem dX11_blows_178 : decode cX11_blows 178 = .ok (.aload_n 0, 1) := by decide +kernel
theorem dX11_blows_179 : decode cX11_blows 179 = .ok (.getfield 50, 3) := by decide +kernel
theorem dX11_blows_182 : decode cX11_blows 182 = .ok (.iload 6, 2) := by decide +kernel
theorem dX11_blows_184 : decode cX11_blows 184 = .ok (.iload 7, 2) := by decide +kernel
theorem dX11_blows_186 : decode cX11_blows 186 = .ok (.ifCond .eq 21, 3) := by decide +kernel
theorem dX11_blows_189 : decode cX11_blows 189 = .ok (.iload_n 3, 1) := by decide +kernel
theorem dX11_blows_190 : decode cX11_blows 190 = .ok (.aload_n 0, 1) := by decide +kernel
theorem dX11_blows_191 : decode cX11_blows 191 = .ok (.getfield 33, 3) := by decide +kernel
theorem dX11_blows_194 : decode cX11_blows 194 = .ok (.bipush 23, 2) := by decide +kernel
theorem dX11_blows_196 : decode cX11_blows 196 = .ok (.iload 6, 2) := by decide +kernel
theorem dX11_blows_198 : decode cX11_blows 198 = .ok (.iadd, 1) := by decide +kernel
theorem dX11_blows_199 : decode cX11_blows 199 = .ok (.iaload, 1) := by decide +kernel
theorem dX11_blows_200 : decode cX11_blows 200 = .ok (.imul, 1) := by decide +kernel
theorem dX11_blows_201 : decode cX11_blows 201 = .ok (.iload 4, 2) := by decide +kernel
theorem dX11_blows_203 : decode cX11_blows 203 = .ok (.idiv, 1) := by decide +kernel
theorem dX11_blows_204 : decode cX11_blows 204 = .ok (.goto 4, 3) := by decide +kernel
theorem dX11_blows_207 : decode cX11_blows 207 = .ok (.iconst 0, 1) := by decide +kernel
theorem dX11_blows_208 : decode cX11_blows 208 = .ok (.iastore, 1) := by decide +kernel
theorem dX11_blows_209 : decode cX11_blows 209 = .ok (.aload_n 0, 1) := by decide +kernel
theorem dX11_blows_210 : decode cX11_blows 210 = .ok (.getfield 53, 3) := by decide +kernel
theorem dX11_blows_213 : decode cX11_blows 213 = .ok (.iload 6, 2) := by decide +kernel
theorem dX11_blows_215 : decode cX11_blows 215 = .ok (.iload 7, 2) := by decide +kernel
theorem dX11_blows_217 : decode cX11_blows 217 = .ok (.ifCond .eq 21, 3) := by decide +kernel
theorem dX11_blows_220 : decode cX11_blows 220 = .ok (.iload_n 3, 1) := by decide +kernel
theorem dX11_blows_221 : decode cX11_blows 221 = .ok (.aload_n 0, 1) := by decide +kernel
theorem dX11_blows_222 : decode cX11_blows 222 = .ok (.getfield 33, 3) := by decide +kernel
theorem dX11_blows_225 : decode cX11_blows 225 = .ok (.bipush 23, 2) := by decide +kernel
theorem dX11_blows_227 : decode cX11_blows 227 = .ok (.iload 6, 2) := by decide +kernel
theorem dX11_blows_229 : decode cX11_blows 229 = .ok (.iadd, 1) := by decide +kernel
theorem dX11_blows_230 : decode cX11_blows 230 = .ok (.iaload, 1) := by decide +kernel
theorem dX11_blows_231 : decode cX11_blows 231 = .ok (.imul, 1) := by decide +kernel
theorem dX11_blows_232 : decode cX11_blows 232 = .ok (.iload 4, 2) := by decide +kernel
theorem dX11_blows_234 : decode cX11_blows 234 = .ok (.irem, 1) := by decide +kernel
theorem dX11_blows_235 : decode cX11_blows 235 = .ok (.goto 4, 3) := by decide +kernel
theorem dX11_blows_238 : decode cX11_blows 238 = .ok (.iconst (-1), 1) := by decide +kernel
theorem dX11_blows_239 : decode cX11_blows 239 = .ok (.iastore, 1) := by decide +kernel
theorem dX11_blows_240 : decode cX11_blows 240 = .ok (.iload 5, 2) := by decide +kernel
theorem dX11_blows_242 : decode cX11_blows 242 = .ok (.aload_n 0, 1) := by decide +kernel
theorem dX11_blows_243 : decode cX11_blows 243 = .ok (.getfield 50, 3) := by decide +kernel
theorem dX11_blows_246 : decode cX11_blows 246 = .ok (.iload 6, 2) := by decide +kernel
theorem dX11_blows_248 : decode cX11_blows 248 = .ok (.iaload, 1) := by decide +kernel
theorem dX11_blows_249 : decode cX11_blows 249 = .ok (.isub, 1) := by decide +kernel
theorem dX11_blows_250 : decode cX11_blows 250 = .ok (.istore 5, 2) := by decide +kernel
theorem dX11_blows_252 : decode cX11_blows 252 = .ok (.iinc 6 1, 3) := by decide +kernel
theorem dX11_blows_255 : decode cX11_blows 255 = .ok (.goto (-99), 3) := by decide +kernel
theorem dX11_blows_258 : decode cX11_blows 258 = .ok (.iload 5, 2) := by decide +kernel
theorem dX11_blows_260 : decode cX11_blows 260 = .ok (.ifCond .le 72, 3) := by decide +kernel
theorem dX11_blows_263 : decode cX11_blows 263 = .ok (.iconst 0, 1) := by decide +kernel
theorem dX11_blows_264 : decode cX11_blows 264 = .ok (.istore 6, 2) := by decide +kernel
theorem dX11_blows_266 : decode cX11_blows 266 = .ok (.iconst 1, 1) := by decide +kernel
theorem dX11_blows_267 : decode cX11_blows 267 = .ok (.istore 7, 2) := by decide +kernel
theorem dX11_blows_269 : decode cX11_blows 269 = .ok (.iload 7, 2) := by decide +kernel
theorem dX11_blows_271 : decode cX11_blows 271 = .ok (.aload_n 0, 1) := by decide +kernel
theorem dX11_blows_272 : decode cX11_blows 272 = .ok (.getfield 33, 3) := by decide +kernel
theorem dX11_blows_275 : decode cX11_blows 275 = .ok (.iconst 2, 1) := by decide +kernel
theorem dX11_blows_276 : decode cX11_blows 276 = .ok (.iaload, 1) := by decide +kernel
theorem dX11_blows_277 : decode cX11_blows 277 = .ok (.if_icmp .ge 30, 3) := by decide +kernel
theorem dX11_blows_280 : decode cX11_blows 280 = .ok (.aload_n 0, 1) := by decide +kernel
theorem dX11_blows_281 : decode cX11_blows 281 = .ok (.getfield 53, 3) := by decide +kernel
theorem dX11_blows_284 : decode cX11_blows 284 = .ok (.iload 7, 2) := by decide +kernel
theorem dX11_blows_286 : decode cX11_blows 286 = .ok (.iaload, 1) := by decide +kernel
theorem dX11_blows_287 : decode cX11_blows 287 = .ok (.aload_n 0, 1) := by decide +kernel
theorem dX11_blows_288 : decode cX11_blows 288 = .ok (.getfield 53, 3) := by decide +kernel
theorem dX11_blows_291 : decode cX11_blows 291 = .ok (.iload 6, 2) := by decide +kernel
theorem dX11_blows_293 : decode cX11_blows 293 = .ok (.iaload, 1) := by decide +kernel
theorem dX11_blows_294 : decode cX11_blows 294 = .ok (.if_icmp .le 7, 3) := by decide +kernel
theorem dX11_blows_297 : decode cX11_blows 297 = .ok (.iload 7, 2) := by decide +kernel
theorem dX11_blows_299 : decode cX11_blows 299 = .ok (.istore 6, 2) := by decide +kernel
theorem dX11_blows_301 : decode cX11_blows 301 = .ok (.iinc 7 1, 3) := by decide +kernel
theorem dX11_blows_304 : decode cX11_blows 304 = .ok (.goto (-35), 3) := by decide +kernel
theorem dX11_blows_307 : decode cX11_blows 307 = .ok (.aload_n 0, 1) := by decide +kernel
theorem dX11_blows_308 : decode cX11_blows 308 = .ok (.getfield 50, 3) := by decide +kernel
theorem dX11_blows_311 : decode cX11_blows 311 = .ok (.iload 6, 2) := by decide +kernel
theorem dX11_blows_313 : decode cX11_blows 313 = .ok (.dup2, 1) := by decide +kernel
theorem dX11_blows_314 : decode cX11_blows 314 = .ok (.iaload, 1) := by decide +kernel
theorem dX11_blows_315 : decode cX11_blows 315 = .ok (.iconst 1, 1) := by decide +kernel
theorem dX11_blows_316 : decode cX11_blows 316 = .ok (.iadd, 1) := by decide +kernel
theorem dX11_blows_317 : decode cX11_blows 317 = .ok (.iastore, 1) := by decide +kernel
theorem dX11_blows_318 : decode cX11_blows 318 = .ok (.aload_n 0, 1) := by decide +kernel
theorem dX11_blows_319 : decode cX11_blows 319 = .ok (.getfield 53, 3) := by decide +kernel
theorem dX11_blows_322 : decode cX11_blows 322 = .ok (.iload 6, 2) := by decide +kernel
theorem dX11_blows_324 : decode cX11_blows 324 = .ok (.iconst (-1), 1) := by decide +kernel
theorem dX11_blows_325 : decode cX11_blows 325 = .ok (.iastore, 1) := by decide +kernel
theorem dX11_blows_326 : decode cX11_blows 326 = .ok (.iinc 5 (-1), 3) := by decide +kernel
theorem dX11_blows_329 : decode cX11_blows 329 = .ok (.goto (-71), 3) := by decide +kernel
theorem dX11_blows_332 : decode cX11_blows 332 = .ok (.iconst 0, 1) := by decide +kernel
theorem dX11_blows_333 : decode cX11_blows 333 = .ok (.istore 6, 2) := by decide +kernel
theorem dX11_blows_335 : decode cX11_blows 335 = .ok (.iload 6, 2) := by decide +kernel
theorem dX11_blows_337 : decode cX11_blows 337 = .ok (.aload_n 0, 1) := by decide +kernel
theorem dX11_blows_338 : decode cX11_blows 338 = .ok (.getfield 33, 3) := by decide +kernel
theorem dX11_blows_341 : decode cX11_blows 341 = .ok (.iconst 2, 1) := by decide +kernel
theorem dX11_blows_342 : decode cX11_blows 342 = .ok (.iaload, 1) := by decide +kernel
theorem dX11_blows_343 : decode cX11_blows 343 = .ok (.if_icmp .ge 76, 3) := by decide +kernel
theorem dX11_blows_346 : decode cX11_blows 346 = .ok (.aload_n 0, 1) := by decide +kernel
theorem dX11_blows_347 : decode cX11_blows 347 = .ok (.getfield 33, 3) := by decide +kernel
theorem dX11_blows_350 : decode cX11_blows 350 = .ok (.bipush 47, 2) := by decide +kernel
theorem dX11_blows_352 : decode cX11_blows 352 = .ok (.iload 6, 2) := by decide +kernel
theorem dX11_blows_354 : decode cX11_blows 354 = .ok (.iadd, 1) := by decide +kernel
theorem dX11_blows_355 : decode cX11_blows 355 = .ok (.iaload, 1) := by decide +kernel
theorem dX11_blows_356 : decode cX11_blows 356 = .ok (.ifCond .le 15, 3) := by decide +kernel
theorem dX11_blows_359 : decode cX11_blows 359 = .ok (.aload_n 0, 1) := by decide +kernel
theorem dX11_blows_360 : decode cX11_blows 360 = .ok (.getfield 50, 3) := by decide +kernel
theorem dX11_blows_363 : decode cX11_blows 363 = .ok (.iload 6, 2) := by decide +kernel
theorem dX11_blows_365 : decode cX11_blows 365 = .ok (.iaload, 1) := by decide +kernel
theorem dX11_blows_366 : decode cX11_blows 366 = .ok (.iconst 3, 1) := by decide +kernel
theorem dX11_blows_367 : decode cX11_blows 367 = .ok (.idiv, 1) := by decide +kernel
theorem dX11_blows_368 : decode cX11_blows 368 = .ok (.goto 4, 3) := by decide +kernel
theorem dX11_blows_371 : decode cX11_blows 371 = .ok (.iconst 0, 1) := by decide +kernel
theorem dX11_blows_372 : decode cX11_blows 372 = .ok (.istore 7, 2) := by decide +kernel
theorem dX11_blows_374 : decode cX11_blows 374 = .ok (.aload_n 0, 1) := by decide +kernel
theorem dX11_blows_375 : decode cX11_blows 375 = .ok (.iload 6, 2) := by decide +kernel
theorem dX11_blows_377 : decode cX11_blows 377 = .ok (.aload_n 0, 1) := by decide +kernel
theorem dX11_blows_378 : decode cX11_blows 378 = .ok (.getfield 50, 3) := by decide +kernel
theorem dX11_blows_381 : decode cX11_blows 381 = .ok (.iload 6, 2) := by decide +kernel
theorem dX11_blows_383 : decode cX11_blows 383 = .ok (.iaload, 1) := by decide +kernel
theorem dX11_blows_384 : decode cX11_blows 384 = .ok (.iload 7, 2) := by decide +kernel
theorem dX11_blows_386 : decode cX11_blows 386 = .ok (.isub, 1) := by decide +kernel
theorem dX11_blows_387 : decode cX11_blows 387 = .ok (.invokevirtual 313, 3) := by decide +kernel
theorem dX11_blows_390 : decode cX11_blows 390 = .ok (.iload 7, 2) := by decide +kernel
theorem dX11_blows_392 : decode cX11_blows 392 = .ok (.ifCond .le 21, 3) := by decide +kernel
theorem dX11_blows_395 : decode cX11_blows 395 = .ok (.aload_n 0, 1) := by decide +kernel
theorem dX11_blows_396 : decode cX11_blows 396 = .ok (.aload_n 0, 1) := by decide +kernel
theorem dX11_blows_397 : decode cX11_blows 397 = .ok (.getfield 33, 3) := by decide +kernel
theorem dX11_blows_400 : decode cX11_blows 400 = .ok (.bipush 47, 2) := by decide +kernel
theorem dX11_blows_402 : decode cX11_blows 402 = .ok (.iload 6, 2) := by decide +kernel
theorem dX11_blows_404 : decode cX11_blows 404 = .ok (.iadd, 1) := by decide +kernel
theorem dX11_blows_405 : decode cX11_blows 405 = .ok (.iaload, 1) := by decide +kernel
theorem dX11_blows_406 : decode cX11_blows 406 = .ok (.iconst 1, 1) := by decide +kernel
theorem dX11_blows_407 : decode cX11_blows 407 = .ok (.isub, 1) := by decide +kernel
theorem dX11_blows_408 : decode cX11_blows 408 = .ok (.iload 7, 2) := by decide +kernel
theorem dX11_blows_410 : decode cX11_blows 410 = .ok (.invokevirtual 313, 3) := by decide +kernel
theorem dX11_blows_413 : decode cX11_blows 413 = .ok (.iinc 6 1, 3) := by decide +kernel
theorem dX11_blows_416 : decode cX11_blows 416 = .ok (.goto (-81), 3) := by decide +kernel
theorem dX11_blows_419 : decode cX11_blows 419 = .ok (.return_, 1) := by decide +kernel
theorem dX11_gets_0 : decode cX11_gets 0 = .ok (.aload_n 0, 1) := by decide +kernel
theorem dX11_gets_1 : decode cX11_gets 1 = .ok (.getfield 33, 3) := by decide +kernel
theorem dX11_gets_4 : decode cX11_gets 4 = .ok (.sipush 373, 3) := by decide +kernel
theorem dX11_gets_7 : decode cX11_gets 7 = .ok (.iload_n 1, 1) := by decide +kernel
theorem dX11_gets_8 : decode cX11_gets 8 = .ok (.iadd, 1) := by decide +kernel
theorem dX11_gets_9 : decode cX11_gets 9 = .ok (.dup2, 1) := by decide +kernel
theorem dX11_gets_10 : decode cX11_gets 10 = .ok (.iaload, 1) := by decide +kernel
theorem dX11_gets_11 : decode cX11_gets 11 = .ok (.iload_n 2, 1) := by decide +kernel
theorem dX11_gets_12 : decode cX11_gets 12 = .ok (.iadd, 1) := by decide +kernel
theorem dX11_gets_13 : decode cX11_gets 13 = .ok (.iastore, 1) := by decide +kernel
theorem dX11_gets_14 : decode cX11_gets 14 = .ok (.aload_n 0, 1) := by decide +kernel
theorem dX11_gets_15 : decode cX11_gets 15 = .ok (.getfield 33, 3) := by decide +kernel
theorem dX11_gets_18 : decode cX11_gets 18 = .ok (.sipush 421, 3) := by decide +kernel
theorem dX11_gets_21 : decode cX11_gets 21 = .ok (.iload_n 1, 1) := by decide +kernel
theorem dX11_gets_22 : decode cX11_gets 22 = .ok (.iadd, 1) := by decide +kernel
theorem dX11_gets_23 : decode cX11_gets 23 = .ok (.dup2, 1) := by decide +kernel
theorem dX11_gets_24 : decode cX11_gets 24 = .ok (.iaload, 1) := by decide +kernel
theorem dX11_gets_25 : decode cX11_gets 25 = .ok (.iload_n 2, 1) := by decide +kernel
theorem dX11_gets_26 : decode cX11_gets 26 = .ok (.iadd, 1) := by decide +kernel
theorem dX11_gets_27 : decode cX11_gets 27 = .ok (.iastore, 1) := by decide +kernel
theorem dX11_gets_28 : decode cX11_gets 28 = .ok (.return_, 1) := by decide +kernel
theorem dX11_runs_0 : decode cX11_runs 0 = .ok (.aload_n 0, 1) := by decide +kernel
theorem dX11_runs_1 : decode cX11_runs 1 = .ok (.getfield 33, 3) := by decide +kernel
theorem dX11_runs_4 : decode cX11_runs 4 = .ok (.bipush 6, 2) := by decide +kernel
theorem dX11_runs_6 : decode cX11_runs 6 = .ok (.iaload, 1) := by decide +kernel
theorem dX11_runs_7 : decode cX11_runs 7 = .ok (.istore_n 1, 1) := by decide +kernel
theorem dX11_runs_8 : decode cX11_runs 8 = .ok (.iconst 0, 1) := by decide +kernel
theorem dX11_runs_9 : decode cX11_runs 9 = .ok (.istore_n 2, 1) := by decide +kernel
theorem dX11_runs_10 : decode cX11_runs 10 = .ok (.iconst 0, 1) := by decide +kernel
theorem dX11_runs_11 : decode cX11_runs 11 = .ok (.istore_n 3, 1) := by decide +kernel
theorem dX11_runs_12 : decode cX11_runs 12 = .ok (.iload_n 3, 1) := by decide +kernel
theorem dX11_runs_13 : decode cX11_runs 13 = .ok (.aload_n 0, 1) := by decide +kernel
theorem dX11_runs_14 : decode cX11_runs 14 = .ok (.getfield 33, 3) := by decide +kernel
theorem dX11_runs_17 : decode cX11_runs 17 = .ok (.iconst 2, 1) := by decide +kernel
theorem dX11_runs_18 : decode cX11_runs 18 = .ok (.iaload, 1) := by decide +kernel
theorem dX11_runs_19 : decode cX11_runs 19 = .ok (.if_icmp .ge 186, 3) := by decide +kernel
theorem dX11_runs_22 : decode cX11_runs 22 = .ok (.iconst (-1), 1) := by decide +kernel
theorem dX11_runs_23 : decode cX11_runs 23 = .ok (.istore 4, 2) := by decide +kernel
theorem dX11_runs_25 : decode cX11_runs 25 = .ok (.iconst 0, 1) := by decide +kernel
theorem dX11_runs_26 : decode cX11_runs 26 = .ok (.istore 5, 2) := by decide +kernel
theorem dX11_runs_28 : decode cX11_runs 28 = .ok (.iload 5, 2) := by decide +kernel
theorem dX11_runs_30 : decode cX11_runs 30 = .ok (.aload_n 0, 1) := by decide +kernel
theorem dX11_runs_31 : decode cX11_runs 31 = .ok (.getfield 33, 3) := by decide +kernel
theorem dX11_runs_34 : decode cX11_runs 34 = .ok (.iconst 2, 1) := by decide +kernel
theorem dX11_runs_35 : decode cX11_runs 35 = .ok (.iaload, 1) := by decide +kernel
theorem dX11_runs_36 : decode cX11_runs 36 = .ok (.if_icmp .ge 50, 3) := by decide +kernel
theorem dX11_runs_39 : decode cX11_runs 39 = .ok (.iload_n 2, 1) := by decide +kernel
theorem dX11_runs_40 : decode cX11_runs 40 = .ok (.iload 5, 2) := by decide +kernel
theorem dX11_runs_42 : decode cX11_runs 42 = .ok (.invokestatic 237, 3) := by decide +kernel
theorem dX11_runs_45 : decode cX11_runs 45 = .ok (.ifCond .ne 35, 3) := by decide +kernel
theorem dX11_runs_48 : decode cX11_runs 48 = .ok (.iload 4, 2) := by decide +kernel
theorem dX11_runs_50 : decode cX11_runs 50 = .ok (.ifCond .lt 26, 3) := by decide +kernel
theorem dX11_runs_53 : decode cX11_runs 53 = .ok (.aload_n 0, 1) := by decide +kernel
theorem dX11_runs_54 : decode cX11_runs 54 = .ok (.getfield 33, 3) := by decide +kernel
theorem dX11_runs_57 : decode cX11_runs 57 = .ok (.bipush 23, 2) := by decide +kernel
theorem dX11_runs_59 : decode cX11_runs 59 = .ok (.iload 5, 2) := by decide +kernel
theorem dX11_runs_61 : decode cX11_runs 61 = .ok (.iadd, 1) := by decide +kernel
theorem dX11_runs_62 : decode cX11_runs 62 = .ok (.iaload, 1) := by decide +kernel
theorem dX11_runs_63 : decode cX11_runs 63 = .ok (.aload_n 0, 1) := by decide +kernel
theorem dX11_runs_64 : decode cX11_runs 64 = .ok (.getfield 33, 3) := by decide +kernel
theorem dX11_runs_67 : decode cX11_runs 67 = .ok (.bipush 23, 2) := by decide +kernel
theorem dX11_runs_69 : decode cX11_runs 69 = .ok (.iload 4, 2) := by decide +kernel
theorem dX11_runs_71 : decode cX11_runs 71 = .ok (.iadd, 1) := by decide +kernel
theorem dX11_runs_72 : decode cX11_runs 72 = .ok (.iaload, 1) := by decide +kernel
theorem dX11_runs_73 : decode cX11_runs 73 = .ok (.if_icmp .le 7, 3) := by decide +kernel
theorem dX11_runs_76 : decode cX11_runs 76 = .ok (.iload 5, 2) := by decide +kernel
theorem dX11_runs_78 : decode cX11_runs 78 = .ok (.istore 4, 2) := by decide +kernel
theorem dX11_runs_80 : decode cX11_runs 80 = .ok (.iinc 5 1, 3) := by decide +kernel
theorem dX11_runs_83 : decode cX11_runs 83 = .ok (.goto (-55), 3) := by decide +kernel
theorem dX11_runs_86 : decode cX11_runs 86 = .ok (.iload_n 2, 1) := by decide +kernel
theorem dX11_runs_87 : decode cX11_runs 87 = .ok (.iconst 1, 1) := by decide +kernel
theorem dX11_runs_88 : decode cX11_runs 88 = .ok (.iload 4, 2) := by decide +kernel
theorem dX11_runs_90 : decode cX11_runs 90 = .ok (.ishl, 1) := by decide +kernel
theorem dX11_runs_91 : decode cX11_runs 91 = .ok (.ior, 1) := by decide +kernel
theorem dX11_runs_92 : decode cX11_runs 92 = .ok (.istore_n 2, 1) := by decide +kernel
theorem dX11_runs_93 : decode cX11_runs 93 = .ok (.aload_n 0, 1) := by decide +kernel
theorem dX11_runs_94 : decode cX11_runs 94 = .ok (.getfield 33, 3) := by decide +kernel
theorem dX11_runs_97 : decode cX11_runs 97 = .ok (.iconst 5, 1) := by decide +kernel
theorem dX11_runs_98 : decode cX11_runs 98 = .ok (.iaload, 1) := by decide +kernel
theorem dX11_runs_99 : decode cX11_runs 99 = .ok (.aload_n 0, 1) := by decide +kernel
theorem dX11_runs_100 : decode cX11_runs 100 = .ok (.getfield 33, 3) := by decide +kernel
theorem dX11_runs_103 : decode cX11_runs 103 = .ok (.sipush 373, 3) := by decide +kernel
theorem dX11_runs_106 : decode cX11_runs 106 = .ok (.iload 4, 2) := by decide +kernel
theorem dX11_runs_108 : decode cX11_runs 108 = .ok (.iadd, 1) := by decide +kernel
theorem dX11_runs_109 : decode cX11_runs 109 = .ok (.iaload, 1) := by decide +kernel
theorem dX11_runs_110 : decode cX11_runs 110 = .ok (.if_icmp .ge 12, 3) := by decide +kernel
theorem dX11_runs_113 : decode cX11_runs 113 = .ok (.aload_n 0, 1) := by decide +kernel
theorem dX11_runs_114 : decode cX11_runs 114 = .ok (.getfield 33, 3) := by decide +kernel
theorem dX11_runs_117 : decode cX11_runs 117 = .ok (.iconst 5, 1) := by decide +kernel
theorem dX11_runs_118 : decode cX11_runs 118 = .ok (.iaload, 1) := by decide +kernel
theorem dX11_runs_119 : decode cX11_runs 119 = .ok (.goto 14, 3) := by decide +kernel
theorem dX11_runs_122 : decode cX11_runs 122 = .ok (.aload_n 0, 1) := by decide +kernel
theorem dX11_runs_123 : decode cX11_runs 123 = .ok (.getfield 33, 3) := by decide +kernel
theorem dX11_runs_126 : decode cX11_runs 126 = .ok (.sipush 373, 3) := by decide +kernel
theorem dX11_runs_129 : decode cX11_runs 129 = .ok (.iload 4, 2) := by decide +kernel
theorem dX11_runs_131 : decode cX11_runs 131 = .ok (.iadd, 1) := by decide +kernel
theorem dX11_runs_132 : decode cX11_runs 132 = .ok (.iaload, 1) := by decide +kernel
theorem dX11_runs_133 : decode cX11_runs 133 = .ok (.istore 5, 2) := by decide +kernel
theorem dX11_runs_135 : decode cX11_runs 135 = .ok (.iload 5, 2) := by decide +kernel
theorem dX11_runs_137 : decode cX11_runs 137 = .ok (.iload_n 1, 1) := by decide +kernel
theorem dX11_runs_138 : decode cX11_runs 138 = .ok (.if_icmp .ge 8, 3) := by decide +kernel
theorem dX11_runs_141 : decode cX11_runs 141 = .ok (.iload 5, 2) := by decide +kernel
theorem dX11_runs_143 : decode cX11_runs 143 = .ok (.goto 4, 3) := by decide +kernel
theorem dX11_runs_146 : decode cX11_runs 146 = .ok (.iload_n 1, 1) := by decide +kernel
theorem dX11_runs_147 : decode cX11_runs 147 = .ok (.istore 5, 2) := by decide +kernel
theorem dX11_runs_149 : decode cX11_runs 149 = .ok (.aload_n 0, 1) := by decide +kernel
theorem dX11_runs_150 : decode cX11_runs 150 = .ok (.getfield 33, 3) := by decide +kernel
theorem dX11_runs_153 : decode cX11_runs 153 = .ok (.sipush 373, 3) := by decide +kernel
theorem dX11_runs_156 : decode cX11_runs 156 = .ok (.iload 4, 2) := by decide +kernel
theorem dX11_runs_158 : decode cX11_runs 158 = .ok (.iadd, 1) := by decide +kernel
theorem dX11_runs_159 : decode cX11_runs 159 = .ok (.dup2, 1) := by decide +kernel
theorem dX11_runs_160 : decode cX11_runs 160 = .ok (.iaload, 1) := by decide +kernel
theorem dX11_runs_161 : decode cX11_runs 161 = .ok (.iload 5, 2) := by decide +kernel
theorem dX11_runs_163 : decode cX11_runs 163 = .ok (.isub, 1) := by decide +kernel
theorem dX11_runs_164 : decode cX11_runs 164 = .ok (.iastore, 1) := by decide +kernel
theorem dX11_runs_165 : decode cX11_runs 165 = .ok (.aload_n 0, 1) := by decide +kernel
theorem dX11_runs_166 : decode cX11_runs 166 = .ok (.getfield 33, 3) := by decide +kernel
theorem dX11_runs_169 : decode cX11_runs 169 = .ok (.sipush 381, 3) := by decide +kernel
theorem dX11_runs_172 : decode cX11_runs 172 = .ok (.iload 4, 2) := by decide +kernel
theorem dX11_runs_174 : decode cX11_runs 174 = .ok (.iadd, 1) := by decide +kernel
theorem dX11_runs_175 : decode cX11_runs 175 = .ok (.dup2, 1) := by decide +kernel
theorem dX11_runs_176 : decode cX11_runs 176 = .ok (.iaload, 1) := by decide +kernel
theorem dX11_runs_177 : decode cX11_runs 177 = .ok (.iload 5, 2) := by decide +kernel
theorem dX11_runs_179 : decode cX11_runs 179 = .ok (.iadd, 1) := by decide +kernel
theorem dX11_runs_180 : decode cX11_runs 180 = .ok (.iastore, 1) := by decide +kernel
theorem dX11_runs_181 : decode cX11_runs 181 = .ok (.aload_n 0, 1) := by decide +kernel
theorem dX11_runs_182 : decode cX11_runs 182 = .ok (.getfield 33, 3) := by decide +kernel
theorem dX11_runs_185 : decode cX11_runs 185 = .ok (.sipush 542, 3) := by decide +kernel
theorem dX11_runs_188 : decode cX11_runs 188 = .ok (.dup2, 1) := by decide +kernel
theorem dX11_runs_189 : decode cX11_runs 189 = .ok (.iaload, 1) := by decide +kernel
theorem dX11_runs_190 : decode cX11_runs 190 = .ok (.iload 5, 2) := by decide +kernel
theorem dX11_runs_192 : decode cX11_runs 192 = .ok (.iadd, 1) := by decide +kernel
theorem dX11_runs_193 : decode cX11_runs 193 = .ok (.iastore, 1) := by decide +kernel
theorem dX11_runs_194 : decode cX11_runs 194 = .ok (.iload_n 1, 1) := by decide +kernel
theorem dX11_runs_195 : decode cX11_runs 195 = .ok (.iload 5, 2) := by decide +kernel
theorem dX11_runs_197 : decode cX11_runs 197 = .ok (.isub, 1) := by decide +kernel
theorem dX11_runs_198 : decode cX11_runs 198 = .ok (.istore_n 1, 1) := by decide +kernel
theorem dX11_runs_199 : decode cX11_runs 199 = .ok (.iinc 3 1, 3) := by decide +kernel
theorem dX11_runs_202 : decode cX11_runs 202 = .ok (.goto (-190), 3) := by decide +kernel
theorem dX11_runs_205 : decode cX11_runs 205 = .ok (.return_, 1) := by decide +kernel
theorem dX11_quarter_0 : decode cX11_quarter 0 = .ok (.aload_n 0, 1) := by decide +kernel
theorem dX11_quarter_1 : decode cX11_quarter 1 = .ok (.getfield 33, 3) := by decide +kernel
theorem dX11_quarter_4 : decode cX11_quarter 4 = .ok (.sipush 371, 3) := by decide +kernel
theorem dX11_quarter_7 : decode cX11_quarter 7 = .ok (.iaload, 1) := by decide +kernel
theorem dX11_quarter_8 : decode cX11_quarter 8 = .ok (.istore_n 1, 1) := by decide +kernel
theorem dX11_quarter_9 : decode cX11_quarter 9 = .ok (.aload_n 0, 1) := by decide +kernel
theorem dX11_quarter_10 : decode cX11_quarter 10 = .ok (.getfield 33, 3) := by decide +kernel
theorem dX11_quarter_13 : decode cX11_quarter 13 = .ok (.sipush 223, 3) := by decide +kernel
theorem dX11_quarter_16 : decode cX11_quarter 16 = .ok (.iload_n 1, 1) := by decide +kernel
theorem dX11_quarter_17 : decode cX11_quarter 17 = .ok (.iadd, 1) := by decide +kernel
theorem dX11_quarter_18 : decode cX11_quarter 18 = .ok (.iaload, 1) := by decide +kernel
theorem dX11_quarter_19 : decode cX11_quarter 19 = .ok (.ifCond .le 30, 3) := by decide +kernel
theorem dX11_quarter_22 : decode cX11_quarter 22 = .ok (.aload_n 0, 1) := by decide +kernel
theorem dX11_quarter_23 : decode cX11_quarter 23 = .ok (.aload_n 0, 1) := by decide +kernel
theorem dX11_quarter_24 : decode cX11_quarter 24 = .ok (.getfield 33, 3) := by decide +kernel
theorem dX11_quarter_27 : decode cX11_quarter 27 = .ok (.sipush 175, 3) := by decide +kernel
theorem dX11_quarter_30 : decode cX11_quarter 30 = .ok (.iload_n 1, 1) := by decide +kernel
theorem dX11_quarter_31 : decode cX11_quarter 31 = .ok (.iadd, 1) := by decide +kernel
theorem dX11_quarter_32 : decode cX11_quarter 32 = .ok (.iaload, 1) := by decide +kernel
theorem dX11_quarter_33 : decode cX11_quarter 33 = .ok (.aload_n 0, 1) := by decide +kernel
theorem dX11_quarter_34 : decode cX11_quarter 34 = .ok (.getfield 33, 3) := by decide +kernel
theorem dX11_quarter_37 : decode cX11_quarter 37 = .ok (.sipush 223, 3) := by decide +kernel
theorem dX11_quarter_40 : decode cX11_quarter 40 = .ok (.iload_n 1, 1) := by decide +kernel
theorem dX11_quarter_41 : decode cX11_quarter 41 = .ok (.iadd, 1) := by decide +kernel
theorem dX11_quarter_42 : decode cX11_quarter 42 = .ok (.iaload, 1) := by decide +kernel
theorem dX11_quarter_43 : decode cX11_quarter 43 = .ok (.invokevirtual 316, 3) := by decide +kernel
theorem dX11_quarter_46 : decode cX11_quarter 46 = .ok (.goto 7, 3) := by decide +kernel
theorem dX11_quarter_49 : decode cX11_quarter 49 = .ok (.aload_n 0, 1) := by decide +kernel
theorem dX11_quarter_50 : decode cX11_quarter 50 = .ok (.invokevirtual 319, 3) := by decide +kernel
theorem dX11_quarter_53 : decode cX11_quarter 53 = .ok (.aload_n 0, 1) := by decide +kernel
theorem dX11_quarter_54 : decode cX11_quarter 54 = .ok (.getfield 33, 3) := by decide +kernel
theorem dX11_quarter_57 : decode cX11_quarter 57 = .ok (.sipush 371, 3) := by decide +kernel
theorem dX11_quarter_60 : decode cX11_quarter 60 = .ok (.dup2, 1) := by decide +kernel
theorem dX11_quarter_61 : decode cX11_quarter 61 = .ok (.iaload, 1) := by decide +kernel
theorem dX11_quarter_62 : decode cX11_quarter 62 = .ok (.iconst 1, 1) := by decide +kernel
theorem dX11_quarter_63 : decode cX11_quarter 63 = .ok (.iadd, 1) := by decide +kernel
theorem dX11_quarter_64 : decode cX11_quarter 64 = .ok (.iastore, 1) := by decide +kernel
theorem dX11_quarter_65 : decode cX11_quarter 65 = .ok (.return_, 1) := by decide +kernel
theorem dX11_goes_0 : decode cX11_goes 0 = .ok (.iconst 0, 1) := by decide +kernel
theorem dX11_goes_1 : decode cX11_goes 1 = .ok (.istore_n 2, 1) := by decide +kernel
theorem dX11_goes_2 : decode cX11_goes 2 = .ok (.iload_n 2, 1) := by decide +kernel
theorem dX11_goes_3 : decode cX11_goes 3 = .ok (.iload_n 1, 1) := by decide +kernel
theorem dX11_goes_4 : decode cX11_goes 4 = .ok (.if_icmp .ge 26, 3) := by decide +kernel
theorem dX11_goes_7 : decode cX11_goes 7 = .ok (.aload_n 0, 1) := by decide +kernel
theorem dX11_goes_8 : decode cX11_goes 8 = .ok (.getfield 33, 3) := by decide +kernel
theorem dX11_goes_11 : decode cX11_goes 11 = .ok (.sipush 371, 3) := by decide +kernel
theorem dX11_goes_14 : decode cX11_goes 14 = .ok (.iaload, 1) := by decide +kernel
theorem dX11_goes_15 : decode cX11_goes 15 = .ok (.bipush 47, 2) := by decide +kernel
theorem dX11_goes_17 : decode cX11_goes 17 = .ok (.if_icmp .gt 13, 3) := by decide +kernel
theorem dX11_goes_20 : decode cX11_goes 20 = .ok (.aload_n 0, 1) := by decide +kernel
theorem dX11_goes_21 : decode cX11_goes 21 = .ok (.invokevirtual 322, 3) := by decide +kernel
theorem dX11_goes_24 : decode cX11_goes 24 = .ok (.iinc 2 1, 3) := by decide +kernel
theorem dX11_goes_27 : decode cX11_goes 27 = .ok (.goto (-25), 3) := by decide +kernel
