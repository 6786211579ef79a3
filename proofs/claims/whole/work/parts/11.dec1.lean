theorem dX1_sortByShare_33 : decode cX1_sortByShare 33 = .ok (.iaload, 1) := by decide +kernel
theorem dX1_sortByShare_34 : decode cX1_sortByShare 34 = .ok (.if_icmp .gt 23, 3) := by decide +kernel
theorem dX1_sortByShare_37 : decode cX1_sortByShare 37 = .ok (.aload_n 0, 1) := by decide +kernel
theorem dX1_sortByShare_38 : decode cX1_sortByShare 38 = .ok (.getfield 28, 3) := by decide +kernel
theorem dX1_sortByShare_41 : decode cX1_sortByShare 41 = .ok (.iload_n 3, 1) := by decide +kernel
theorem dX1_sortByShare_42 : decode cX1_sortByShare 42 = .ok (.iaload, 1) := by decide +kernel
theorem dX1_sortByShare_43 : decode cX1_sortByShare 43 = .ok (.aload_n 0, 1) := by decide +kernel
theorem dX1_sortByShare_44 : decode cX1_sortByShare 44 = .ok (.getfield 28, 3) := by decide +kernel
theorem dX1_sortByShare_47 : decode cX1_sortByShare 47 = .ok (.iload_n 1, 1) := by decide +kernel
theorem dX1_sortByShare_48 : decode cX1_sortByShare 48 = .ok (.iaload, 1) := by decide +kernel
theorem dX1_sortByShare_49 : decode cX1_sortByShare 49 = .ok (.if_icmp .ne 11, 3) := by decide +kernel
theorem dX1_sortByShare_52 : decode cX1_sortByShare 52 = .ok (.iload_n 3, 1) := by decide +kernel
theorem dX1_sortByShare_53 : decode cX1_sortByShare 53 = .ok (.iload_n 1, 1) := by decide +kernel
theorem dX1_sortByShare_54 : decode cX1_sortByShare 54 = .ok (.if_icmp .ge 6, 3) := by decide +kernel
theorem dX1_sortByShare_57 : decode cX1_sortByShare 57 = .ok (.iinc 2 1, 3) := by decide +kernel
theorem dX1_sortByShare_60 : decode cX1_sortByShare 60 = .ok (.iinc 3 1, 3) := by decide +kernel
theorem dX1_sortByShare_63 : decode cX1_sortByShare 63 = .ok (.goto (-49), 3) := by decide +kernel
theorem dX1_sortByShare_66 : decode cX1_sortByShare 66 = .ok (.iload_n 2, 1) := by decide +kernel
theorem dX1_sortByShare_67 : decode cX1_sortByShare 67 = .ok (.bipush 8, 2) := by decide +kernel
theorem dX1_sortByShare_69 : decode cX1_sortByShare 69 = .ok (.if_icmp .ge 10, 3) := by decide +kernel
theorem dX1_sortByShare_72 : decode cX1_sortByShare 72 = .ok (.aload_n 0, 1) := by decide +kernel
theorem dX1_sortByShare_73 : decode cX1_sortByShare 73 = .ok (.getfield 43, 3) := by decide +kernel
theorem dX1_sortByShare_76 : decode cX1_sortByShare 76 = .ok (.iload_n 2, 1) := by decide +kernel
theorem dX1_sortByShare_77 : decode cX1_sortByShare 77 = .ok (.iload_n 1, 1) := by decide +kernel
theorem dX1_sortByShare_78 : decode cX1_sortByShare 78 = .ok (.iastore, 1) := by decide +kernel
theorem dX1_sortByShare_79 : decode cX1_sortByShare 79 = .ok (.iinc 1 1, 3) := by decide +kernel
theorem dX1_sortByShare_82 : decode cX1_sortByShare 82 = .ok (.goto (-80), 3) := by decide +kernel
theorem dX1_sortByShare_85 : decode cX1_sortByShare 85 = .ok (.return_, 1) := by decide +kernel
theorem dX0_read_0 : decode cX0_read 0 = .ok (.aload_n 0, 1) := by decide +kernel
theorem dX0_read_1 : decode cX0_read 1 = .ok (.invokevirtual 94, 3) := by decide +kernel
theorem dX0_read_4 : decode cX0_read 4 = .ok (.iconst 0, 1) := by decide +kernel
theorem dX0_read_5 : decode cX0_read 5 = .ok (.istore_n 2, 1) := by decide +kernel
theorem dX0_read_6 : decode cX0_read 6 = .ok (.iload_n 2, 1) := by decide +kernel
theorem dX0_read_7 : decode cX0_read 7 = .ok (.sipush 900, 3) := by decide +kernel
theorem dX0_read_10 : decode cX0_read 10 = .ok (.if_icmp .ge 37, 3) := by decide +kernel
theorem dX0_read_13 : decode cX0_read 13 = .ok (.aload_n 1, 1) := by decide +kernel
theorem dX0_read_14 : decode cX0_read 14 = .ok (.invokevirtual 95, 3) := by decide +kernel
theorem dX0_read_17 : decode cX0_read 17 = .ok (.ifCond .eq 30, 3) := by decide +kernel
theorem dX0_read_20 : decode cX0_read 20 = .ok (.aload_n 0, 1) := by decide +kernel
theorem dX0_read_21 : decode cX0_read 21 = .ok (.aload_n 1, 1) := by decide +kernel
theorem dX0_read_22 : decode cX0_read 22 = .ok (.invokevirtual 101, 3) := by decide +kernel
theorem dX0_read_25 : decode cX0_read 25 = .ok (.aload_n 1, 1) := by decide +kernel
theorem dX0_read_26 : decode cX0_read 26 = .ok (.bipush 59, 2) := by decide +kernel
theorem dX0_read_28 : decode cX0_read 28 = .ok (.invokevirtual 105, 3) := by decide +kernel
theorem dX0_read_31 : decode cX0_read 31 = .ok (.aload_n 0, 1) := by decide +kernel
theorem dX0_read_32 : decode cX0_read 32 = .ok (.dup, 1) := by decide +kernel
theorem dX0_read_33 : decode cX0_read 33 = .ok (.getfield 9, 3) := by decide +kernel
theorem dX0_read_36 : decode cX0_read 36 = .ok (.iconst 1, 1) := by decide +kernel
theorem dX0_read_37 : decode cX0_read 37 = .ok (.iadd, 1) := by decide +kernel
theorem dX0_read_38 : decode cX0_read 38 = .ok (.putfield 9, 3) := by decide +kernel
theorem dX0_read_41 : decode cX0_read 41 = .ok (.iinc 2 1, 3) := by decide +kernel
theorem dX0_read_44 : decode cX0_read 44 = .ok (.goto (-38), 3) := by decide +kernel
theorem dX0_read_47 : decode cX0_read 47 = .ok (.aload_n 0, 1) := by decide +kernel
theorem dX0_read_48 : decode cX0_read 48 = .ok (.getfield 46, 3) := by decide +kernel
theorem dX0_read_51 : decode cX0_read 51 = .ok (.invokevirtual 109, 3) := by decide +kernel
theorem dX0_read_54 : decode cX0_read 54 = .ok (.return_, 1) := by decide +kernel
theorem dX6_begin_0 : decode cX6_begin 0 = .ok (.aload_n 0, 1) := by decide +kernel
theorem dX6_begin_1 : decode cX6_begin 1 = .ok (.iconst 0, 1) := by decide +kernel
theorem dX6_begin_2 : decode cX6_begin 2 = .ok (.putfield 9, 3) := by decide +kernel
theorem dX6_begin_5 : decode cX6_begin 5 = .ok (.aload_n 0, 1) := by decide +kernel
theorem dX6_begin_6 : decode cX6_begin 6 = .ok (.iconst 0, 1) := by decide +kernel
theorem dX6_begin_7 : decode cX6_begin 7 = .ok (.putfield 15, 3) := by decide +kernel
theorem dX6_begin_10 : decode cX6_begin 10 = .ok (.aload_n 0, 1) := by decide +kernel
theorem dX6_begin_11 : decode cX6_begin 11 = .ok (.aload_n 1, 1) := by decide +kernel
theorem dX6_begin_12 : decode cX6_begin 12 = .ok (.getfield 55, 3) := by decide +kernel
theorem dX6_begin_15 : decode cX6_begin 15 = .ok (.putfield 18, 3) := by decide +kernel
theorem dX6_begin_18 : decode cX6_begin 18 = .ok (.aload_n 0, 1) := by decide +kernel
theorem dX6_begin_19 : decode cX6_begin 19 = .ok (.iconst 1, 1) := by decide +kernel
theorem dX6_begin_20 : decode cX6_begin 20 = .ok (.aload_n 1, 1) := by decide +kernel
theorem dX6_begin_21 : decode cX6_begin 21 = .ok (.getfield 58, 3) := by decide +kernel
theorem dX6_begin_24 : decode cX6_begin 24 = .ok (.ishl, 1) := by decide +kernel
theorem dX6_begin_25 : decode cX6_begin 25 = .ok (.iconst 1, 1) := by decide +kernel
theorem dX6_begin_26 : decode cX6_begin 26 = .ok (.isub, 1) := by decide +kernel
theorem dX6_begin_27 : decode cX6_begin 27 = .ok (.putfield 21, 3) := by decide +kernel
theorem dX6_begin_30 : decode cX6_begin 30 = .ok (.aload_n 0, 1) := by decide +kernel
theorem dX6_begin_31 : decode cX6_begin 31 = .ok (.iconst (-1), 1) := by decide +kernel
theorem dX6_begin_32 : decode cX6_begin 32 = .ok (.putfield 24, 3) := by decide +kernel
theorem dX6_begin_35 : decode cX6_begin 35 = .ok (.aload_n 0, 1) := by decide +kernel
theorem dX6_begin_36 : decode cX6_begin 36 = .ok (.iconst 0, 1) := by decide +kernel
theorem dX6_begin_37 : decode cX6_begin 37 = .ok (.putfield 27, 3) := by decide +kernel
theorem dX6_begin_40 : decode cX6_begin 40 = .ok (.iconst 0, 1) := by decide +kernel
theorem dX6_begin_41 : decode cX6_begin 41 = .ok (.istore_n 2, 1) := by decide +kernel
theorem dX6_begin_42 : decode cX6_begin 42 = .ok (.iload_n 2, 1) := by decide +kernel
theorem dX6_begin_43 : decode cX6_begin 43 = .ok (.bipush 8, 2) := by decide +kernel
theorem dX6_begin_45 : decode cX6_begin 45 = .ok (.if_icmp .ge 82, 3) := by decide +kernel
theorem dX6_begin_48 : decode cX6_begin 48 = .ok (.aload_n 0, 1) := by decide +kernel
theorem dX6_begin_49 : decode cX6_begin 49 = .ok (.getfield 30, 3) := by decide +kernel
theorem dX6_begin_52 : decode cX6_begin 52 = .ok (.iload_n 2, 1) := by decide +kernel
theorem dX6_begin_53 : decode cX6_begin 53 = .ok (.aload_n 1, 1) := by decide +kernel
theorem dX6_begin_54 : decode cX6_begin 54 = .ok (.getfield 61, 3) := by decide +kernel
theorem dX6_begin_57 : decode cX6_begin 57 = .ok (.getfield 65, 3) := by decide +kernel
theorem dX6_begin_60 : decode cX6_begin 60 = .ok (.iload_n 2, 1) := by decide +kernel
theorem dX6_begin_61 : decode cX6_begin 61 = .ok (.iaload, 1) := by decide +kernel
theorem dX6_begin_62 : decode cX6_begin 62 = .ok (.iastore, 1) := by decide +kernel
theorem dX6_begin_63 : decode cX6_begin 63 = .ok (.aload_n 0, 1) := by decide +kernel
theorem dX6_begin_64 : decode cX6_begin 64 = .ok (.getfield 34, 3) := by decide +kernel
theorem dX6_begin_67 : decode cX6_begin 67 = .ok (.iload_n 2, 1) := by decide +kernel
theorem dX6_begin_68 : decode cX6_begin 68 = .ok (.iconst 0, 1) := by decide +kernel
theorem dX6_begin_69 : decode cX6_begin 69 = .ok (.iastore, 1) := by decide +kernel
theorem dX6_begin_70 : decode cX6_begin 70 = .ok (.aload_n 0, 1) := by decide +kernel
theorem dX6_begin_71 : decode cX6_begin 71 = .ok (.getfield 37, 3) := by decide +kernel
theorem dX6_begin_74 : decode cX6_begin 74 = .ok (.iload_n 2, 1) := by decide +kernel
theorem dX6_begin_75 : decode cX6_begin 75 = .ok (.aload_n 1, 1) := by decide +kernel
theorem dX6_begin_76 : decode cX6_begin 76 = .ok (.getfield 61, 3) := by decide +kernel
theorem dX6_begin_79 : decode cX6_begin 79 = .ok (.getfield 68, 3) := by decide +kernel
theorem dX6_begin_82 : decode cX6_begin 82 = .ok (.iload_n 2, 1) := by decide +kernel
theorem dX6_begin_83 : decode cX6_begin 83 = .ok (.iaload, 1) := by decide +kernel
theorem dX6_begin_84 : decode cX6_begin 84 = .ok (.iastore, 1) := by decide +kernel
theorem dX6_begin_85 : decode cX6_begin 85 = .ok (.aload_n 0, 1) := by decide +kernel
theorem dX6_begin_86 : decode cX6_begin 86 = .ok (.getfield 40, 3) := by decide +kernel
theorem dX6_begin_89 : decode cX6_begin 89 = .ok (.iload_n 2, 1) := by decide +kernel
theorem dX6_begin_90 : decode cX6_begin 90 = .ok (.aload_n 1, 1) := by decide +kernel
theorem dX6_begin_91 : decode cX6_begin 91 = .ok (.getfield 61, 3) := by decide +kernel
theorem dX6_begin_94 : decode cX6_begin 94 = .ok (.getfield 69, 3) := by decide +kernel
theorem dX6_begin_97 : decode cX6_begin 97 = .ok (.iload_n 2, 1) := by decide +kernel
theorem dX6_begin_98 : decode cX6_begin 98 = .ok (.iaload, 1) := by decide +kernel
theorem dX6_begin_99 : decode cX6_begin 99 = .ok (.iastore, 1) := by decide +kernel
theorem dX6_begin_100 : decode cX6_begin 100 = .ok (.aload_n 0, 1) := by decide +kernel
theorem dX6_begin_101 : decode cX6_begin 101 = .ok (.getfield 43, 3) := by decide +kernel
theorem dX6_begin_104 : decode cX6_begin 104 = .ok (.iload_n 2, 1) := by decide +kernel
theorem dX6_begin_105 : decode cX6_begin 105 = .ok (.iconst 0, 1) := by decide +kernel
theorem dX6_begin_106 : decode cX6_begin 106 = .ok (.iastore, 1) := by decide +kernel
theorem dX6_begin_107 : decode cX6_begin 107 = .ok (.aload_n 0, 1) := by decide +kernel
theorem dX6_begin_108 : decode cX6_begin 108 = .ok (.getfield 46, 3) := by decide +kernel
theorem dX6_begin_111 : decode cX6_begin 111 = .ok (.iload_n 2, 1) := by decide +kernel
theorem dX6_begin_112 : decode cX6_begin 112 = .ok (.iconst 0, 1) := by decide +kernel
theorem dX6_begin_113 : decode cX6_begin 113 = .ok (.iastore, 1) := by decide +kernel
theorem dX6_begin_114 : decode cX6_begin 114 = .ok (.aload_n 0, 1) := by decide +kernel
theorem dX6_begin_115 : decode cX6_begin 115 = .ok (.getfield 49, 3) := by decide +kernel
theorem dX6_begin_118 : decode cX6_begin 118 = .ok (.iload_n 2, 1) := by decide +kernel
theorem dX6_begin_119 : decode cX6_begin 119 = .ok (.iconst 0, 1) := by decide +kernel
theorem dX6_begin_120 : decode cX6_begin 120 = .ok (.iastore, 1) := by decide +kernel
theorem dX6_begin_121 : decode cX6_begin 121 = .ok (.iinc 2 1, 3) := by decide +kernel
theorem dX6_begin_124 : decode cX6_begin 124 = .ok (.goto (-82), 3) := by decide +kernel
theorem dX6_begin_127 : decode cX6_begin 127 = .ok (.aload_n 1, 1) := by decide +kernel
theorem dX6_begin_128 : decode cX6_begin 128 = .ok (.getfield 70, 3) := by decide +kernel
theorem dX6_begin_131 : decode cX6_begin 131 = .ok (.iconst 0, 1) := by decide +kernel
theorem dX6_begin_132 : decode cX6_begin 132 = .ok (.aload_n 0, 1) := by decide +kernel
theorem dX6_begin_133 : decode cX6_begin 133 = .ok (.getfield 52, 3) := by decide +kernel
theorem dX6_begin_136 : decode cX6_begin 136 = .ok (.iconst 0, 1) := by decide +kernel
theorem dX6_begin_137 : decode cX6_begin 137 = .ok (.bipush 100, 2) := by decide +kernel
theorem dX6_begin_139 : decode cX6_begin 139 = .ok (.invokestatic 71, 3) := by decide +kernel
theorem dX6_begin_142 : decode cX6_begin 142 = .ok (.return_, 1) := by decide +kernel
theorem dX2_forget_0 : decode cX2_forget 0 = .ok (.aload_n 0, 1) := by decide +kernel
theorem dX2_forget_1 : decode cX2_forget 1 = .ok (.iconst 0, 1) := by decide +kernel
theorem dX2_forget_2 : decode cX2_forget 2 = .ok (.putfield 21, 3) := by decide +kernel
theorem dX2_forget_5 : decode cX2_forget 5 = .ok (.return_, 1) := by decide +kernel
theorem dX10_bank_0 : decode cX10_bank 0 = .ok (.aload_n 0, 1) := by decide +kernel
theorem dX10_bank_1 : decode cX10_bank 1 = .ok (.sipush 900, 3) := by decide +kernel
theorem dX10_bank_4 : decode cX10_bank 4 = .ok (.invokevirtual 111, 3) := by decide +kernel
theorem dX10_bank_7 : decode cX10_bank 7 = .ok (.aload_n 0, 1) := by decide +kernel
theorem dX10_bank_8 : decode cX10_bank 8 = .ok (.getfield 41, 3) := by decide +kernel
theorem dX10_bank_11 : decode cX10_bank 11 = .ok (.aload_n 0, 1) := by decide +kernel
theorem dX10_bank_12 : decode cX10_bank 12 = .ok (.getfield 20, 3) := by decide +kernel
theorem dX10_bank_15 : decode cX10_bank 15 = .ok (.invokevirtual 114, 3) := by decide +kernel
theorem dX10_bank_18 : decode cX10_bank 18 = .ok (.aload_n 0, 1) := by decide +kernel
theorem dX10_bank_19 : decode cX10_bank 19 = .ok (.aload_n 0, 1) := by decide +kernel
theorem dX10_bank_20 : decode cX10_bank 20 = .ok (.getfield 20, 3) := by decide +kernel
theorem dX10_bank_23 : decode cX10_bank 23 = .ok (.getfield 118, 3) := by decide +kernel
theorem dX10_bank_26 : decode cX10_bank 26 = .ok (.putfield 24, 3) := by decide +kernel
theorem dX10_bank_29 : decode cX10_bank 29 = .ok (.aload_n 0, 1) := by decide +kernel
theorem dX10_bank_30 : decode cX10_bank 30 = .ok (.getfield 24, 3) := by decide +kernel
theorem dX10_bank_33 : decode cX10_bank 33 = .ok (.ifCond .eq 13, 3) := by decide +kernel
theorem dX10_bank_36 : decode cX10_bank 36 = .ok (.iconst (-1), 1) := by decide +kernel
theorem dX10_bank_37 : decode cX10_bank 37 = .ok (.aload_n 0, 1) := by decide +kernel
theorem dX10_bank_38 : decode cX10_bank 38 = .ok (.getfield 20, 3) := by decide +kernel
theorem dX10_bank_41 : decode cX10_bank 41 = .ok (.getfield 121, 3) := by decide +kernel
theorem dX10_bank_44 : decode cX10_bank 44 = .ok (.isub, 1) := by decide +kernel
theorem dX10_bank_45 : decode cX10_bank 45 = .ok (.ireturn, 1) := by decide +kernel
theorem dX10_bank_46 : decode cX10_bank 46 = .ok (.aload_n 0, 1) := by decide +kernel
theorem dX10_bank_47 : decode cX10_bank 47 = .ok (.getfield 30, 3) := by decide +kernel
theorem dX10_bank_50 : decode cX10_bank 50 = .ok (.getfield 124, 3) := by decide +kernel
theorem dX10_bank_53 : decode cX10_bank 53 = .ok (.astore_n 1, 1) := by decide +kernel
theorem dX10_bank_54 : decode cX10_bank 54 = .ok (.aload_n 0, 1) := by decide +kernel
theorem dX10_bank_55 : decode cX10_bank 55 = .ok (.getfield 30, 3) := by decide +kernel
theorem dX10_bank_58 : decode cX10_bank 58 = .ok (.aload_n 0, 1) := by decide +kernel
theorem dX10_bank_59 : decode cX10_bank 59 = .ok (.getfield 41, 3) := by decide +kernel
theorem dX10_bank_62 : decode cX10_bank 62 = .ok (.putfield 124, 3) := by decide +kernel
theorem dX10_bank_65 : decode cX10_bank 65 = .ok (.aload_n 0, 1) := by decide +kernel
theorem dX10_bank_66 : decode cX10_bank 66 = .ok (.aload_n 1, 1) := by decide +kernel
theorem dX10_bank_67 : decode cX10_bank 67 = .ok (.putfield 41, 3) := by decide +kernel
theorem dX10_bank_70 : decode cX10_bank 70 = .ok (.aload_n 0, 1) := by decide +kernel
theorem dX10_bank_71 : decode cX10_bank 71 = .ok (.getfield 30, 3) := by decide +kernel
theorem dX10_bank_74 : decode cX10_bank 74 = .ok (.getfield 127, 3) := by decide +kernel
theorem dX10_bank_77 : decode cX10_bank 77 = .ok (.aload_n 0, 1) := by decide +kernel
theorem dX10_bank_78 : decode cX10_bank 78 = .ok (.getfield 30, 3) := by decide +kernel
theorem dX10_bank_81 : decode cX10_bank 81 = .ok (.getfield 124, 3) := by decide +kernel
theorem dX10_bank_84 : decode cX10_bank 84 = .ok (.invokevirtual 130, 3) := by decide +kernel
theorem dX10_bank_87 : decode cX10_bank 87 = .ok (.aload_n 0, 1) := by decide +kernel
theorem dX10_bank_88 : decode cX10_bank 88 = .ok (.getfield 30, 3) := by decide +kernel
theorem dX10_bank_91 : decode cX10_bank 91 = .ok (.getfield 134, 3) := by decide +kernel
theorem dX10_bank_94 : decode cX10_bank 94 = .ok (.iconst 0, 1) := by decide +kernel
theorem dX10_bank_95 : decode cX10_bank 95 = .ok (.putfield 137, 3) := by decide +kernel
theorem dX10_bank_98 : decode cX10_bank 98 = .ok (.aload_n 0, 1) := by decide +kernel
theorem dX10_bank_99 : decode cX10_bank 99 = .ok (.getfield 30, 3) := by decide +kernel
theorem dX10_bank_102 : decode cX10_bank 102 = .ok (.getfield 140, 3) := by decide +kernel
theorem dX10_bank_105 : decode cX10_bank 105 = .ok (.iconst 0, 1) := by decide +kernel
theorem dX10_bank_106 : decode cX10_bank 106 = .ok (.putfield 143, 3) := by decide +kernel
theorem dX10_bank_109 : decode cX10_bank 109 = .ok (.aload_n 0, 1) := by decide +kernel
theorem dX10_bank_110 : decode cX10_bank 110 = .ok (.getfield 62, 3) := by decide +kernel
theorem dX10_bank_113 : decode cX10_bank 113 = .ok (.invokevirtual 146, 3) := by decide +kernel
theorem dX10_bank_116 : decode cX10_bank 116 = .ok (.aload_n 0, 1) := by decide +kernel
theorem dX10_bank_117 : decode cX10_bank 117 = .ok (.getfield 76, 3) := by decide +kernel
theorem dX10_bank_120 : decode cX10_bank 120 = .ok (.iconst 0, 1) := by decide +kernel
theorem dX10_bank_121 : decode cX10_bank 121 = .ok (.putfield 149, 3) := by decide +kernel
theorem dX10_bank_124 : decode cX10_bank 124 = .ok (.aload_n 0, 1) := by decide +kernel
theorem dX10_bank_125 : decode cX10_bank 125 = .ok (.getfield 30, 3) := by decide +kernel
theorem dX10_bank_128 : decode cX10_bank 128 = .ok (.getfield 124, 3) := by decide +kernel
theorem dX10_bank_131 : decode cX10_bank 131 = .ok (.getfield 153, 3) := by decide +kernel
theorem dX10_bank_134 : decode cX10_bank 134 = .ok (.ireturn, 1) := by decide +kernel
theorem dX3_readLine_0 : decode cX3_readLine 0 = .ok (.aload_n 1, 1) := by decide +kernel
theorem dX3_readLine_1 : decode cX3_readLine 1 = .ok (.invokevirtual 53, 3) := by decide +kernel
theorem dX3_readLine_4 : decode cX3_readLine 4 = .ok (.ifCond .eq 12, 3) := by decide +kernel
theorem dX3_readLine_7 : decode cX3_readLine 7 = .ok (.aload_n 0, 1) := by decide +kernel
theorem dX3_readLine_8 : decode cX3_readLine 8 = .ok (.getfield 9, 3) := by decide +kernel
theorem dX3_readLine_11 : decode cX3_readLine 11 = .ok (.bipush 30, 2) := by decide +kernel
theorem dX3_readLine_13 : decode cX3_readLine 13 = .ok (.if_icmp .lt 4, 3) := by decide +kernel
theorem dX3_readLine_16 : decode cX3_readLine 16 = .ok (.return_, 1) := by decide +kernel
theorem dX3_readLine_17 : decode cX3_readLine 17 = .ok (.aload_n 0, 1) := by decide +kernel
theorem dX3_readLine_18 : decode cX3_readLine 18 = .ok (.getfield 15, 3) := by decide +kernel
theorem dX3_readLine_21 : decode cX3_readLine 21 = .ok (.aload_n 0, 1) := by decide +kernel
theorem dX3_readLine_22 : decode cX3_readLine 22 = .ok (.getfield 9, 3) := by decide +kernel
theorem dX3_readLine_25 : decode cX3_readLine 25 = .ok (.iload_n 3, 1) := by decide +kernel
theorem dX3_readLine_26 : decode cX3_readLine 26 = .ok (.iastore, 1) := by decide +kernel
theorem dX3_readLine_27 : decode cX3_readLine 27 = .ok (.aload_n 0, 1) := by decide +kernel
theorem dX3_readLine_28 : decode cX3_readLine 28 = .ok (.getfield 22, 3) := by decide +kernel
theorem dX3_readLine_31 : decode cX3_readLine 31 = .ok (.aload_n 0, 1) := by decide +kernel
theorem dX3_readLine_32 : decode cX3_readLine 32 = .ok (.getfield 9, 3) := by decide +kernel
theorem dX3_readLine_35 : decode cX3_readLine 35 = .ok (.iconst 0, 1) := by decide +kernel
theorem dX3_readLine_36 : decode cX3_readLine 36 = .ok (.iastore, 1) := by decide +kernel
theorem dX3_readLine_37 : decode cX3_readLine 37 = .ok (.iload_n 3, 1) := by decide +kernel
theorem dX3_readLine_38 : decode cX3_readLine 38 = .ok (.tableswitch 123 10 13 #[30, 47, 67, 87], 30) := by decide +kernel
theorem dX3_readLine_68 : decode cX3_readLine 68 = .ok (.aload_n 0, 1) := by decide +kernel
theorem dX3_readLine_69 : decode cX3_readLine 69 = .ok (.getfield 19, 3) := by decide +kernel
theorem dX3_readLine_72 : decode cX3_readLine 72 = .ok (.aload_n 0, 1) := by decide +kernel
theorem dX3_readLine_73 : decode cX3_readLine 73 = .ok (.getfield 9, 3) := by decide +kernel
theorem dX3_readLine_76 : decode cX3_readLine 76 = .ok (.aload_n 2, 1) := by decide +kernel
theorem dX3_readLine_77 : decode cX3_readLine 77 = .ok (.aload_n 1, 1) := by decide +kernel
theorem dX3_readLine_78 : decode cX3_readLine 78 = .ok (.invokevirtual 56, 3) := by decide +kernel
theorem dX3_readLine_81 : decode cX3_readLine 81 = .ok (.iastore, 1) := by decide +kernel
theorem dX3_readLine_82 : decode cX3_readLine 82 = .ok (.goto 95, 3) := by decide +kernel
theorem dX3_readLine_85 : decode cX3_readLine 85 = .ok (.aload_n 0, 1) := by decide +kernel
theorem dX3_readLine_86 : decode cX3_readLine 86 = .ok (.getfield 19, 3) := by decide +kernel
theorem dX3_readLine_89 : decode cX3_readLine 89 = .ok (.aload_n 0, 1) := by decide +kernel
theorem dX3_readLine_90 : decode cX3_readLine 90 = .ok (.getfield 9, 3) := by decide +kernel
theorem dX3_readLine_93 : decode cX3_readLine 93 = .ok (.aload_n 1, 1) := by decide +kernel
theorem dX3_readLine_94 : decode cX3_readLine 94 = .ok (.iconst 0, 1) := by decide +kernel
theorem dX3_readLine_95 : decode cX3_readLine 95 = .ok (.sipush 999, 3) := by decide +kernel
theorem dX3_readLine_98 : decode cX3_readLine 98 = .ok (.invokevirtual 62, 3) := by decide +kernel
theorem dX3_readLine_101 : decode cX3_readLine 101 = .ok (.iastore, 1) := by decide +kernel
theorem dX3_readLine_102 : decode cX3_readLine 102 = .ok (.goto 75, 3) := by decide +kernel
theorem dX3_readLine_105 : decode cX3_readLine 105 = .ok (.aload_n 0, 1) := by decide +kernel
theorem dX3_readLine_106 : decode cX3_readLine 106 = .ok (.getfield 19, 3) := by decide +kernel
theorem dX3_readLine_109 : decode cX3_readLine 109 = .ok (.aload_n 0, 1) := by decide +kernel
theorem dX3_readLine_110 : decode cX3_readLine 110 = .ok (.getfield 9, 3) := by decide +kernel
theorem dX3_readLine_113 : decode cX3_readLine 113 = .ok (.aload_n 2, 1) := by decide +kernel
theorem dX3_readLine_114 : decode cX3_readLine 114 = .ok (.getfield 65, 3) := by decide +kernel
theorem dX3_readLine_117 : decode cX3_readLine 117 = .ok (.aload_n 1, 1) := by decide +kernel
theorem dX3_readLine_118 : decode cX3_readLine 118 = .ok (.invokevirtual 69, 3) := by decide +kernel
theorem dX3_readLine_121 : decode cX3_readLine 121 = .ok (.iastore, 1) := by decide +kernel
theorem dX3_readLine_122 : decode cX3_readLine 122 = .ok (.goto 55, 3) := by decide +kernel
theorem dX3_readLine_125 : decode cX3_readLine 125 = .ok (.aload_n 0, 1) := by decide +kernel
theorem dX3_readLine_126 : decode cX3_readLine 126 = .ok (.getfield 19, 3) := by decide +kernel
theorem dX3_readLine_129 : decode cX3_readLine 129 = .ok (.aload_n 0, 1) := by decide +kernel
theorem dX3_readLine_130 : decode cX3_readLine 130 = .ok (.getfield 9, 3) := by decide +kernel
theorem dX3_readLine_133 : decode cX3_readLine 133 = .ok (.aload_n 2, 1) := by decide +kernel
theorem dX3_readLine_134 : decode cX3_readLine 134 = .ok (.getfield 65, 3) := by decide +kernel
theorem dX3_readLine_137 : decode cX3_readLine 137 = .ok (.aload_n 1, 1) := by decide +kernel
theorem dX3_readLine_138 : decode cX3_readLine 138 = .ok (.invokevirtual 69, 3) := by decide +kernel
theorem dX3_readLine_141 : decode cX3_readLine 141 = .ok (.iastore, 1) := by decide +kernel
theorem dX3_readLine_142 : decode cX3_readLine 142 = .ok (.aload_n 0, 1) := by decide +kernel
theorem dX3_readLine_143 : decode cX3_readLine 143 = .ok (.getfield 22, 3) := by decide +kernel
theorem dX3_readLine_146 : decode cX3_readLine 146 = .ok (.aload_n 0, 1) := by decide +kernel
theorem dX3_readLine_147 : decode cX3_readLine 147 = .ok (.getfield 9, 3) := by decide +kernel
theorem dX3_readLine_150 : decode cX3_readLine 150 = .ok (.aload_n 1, 1) := by decide +kernel
theorem dX3_readLine_151 : decode cX3_readLine 151 = .ok (.iconst 0, 1) := by decide +kernel
theorem dX3_readLine_152 : decode cX3_readLine 152 = .ok (.bipush 7, 2) := by decide +kernel
theorem dX3_readLine_154 : decode cX3_readLine 154 = .ok (.invokevirtual 62, 3) := by decide +kernel
theorem dX3_readLine_157 : decode cX3_readLine 157 = .ok (.iastore, 1) := by decide +kernel
theorem dX3_readLine_158 : decode cX3_readLine 158 = .ok (.goto 19, 3) := by decide +kernel
theorem dX3_readLine_161 : decode cX3_readLine 161 = .ok (.aload_n 0, 1) := by decide +kernel
theorem dX3_readLine_162 : decode cX3_readLine 162 = .ok (.getfield 19, 3) := by decide +kernel
theorem dX3_readLine_165 : decode cX3_readLine 165 = .ok (.aload_n 0, 1) := by decide +kernel
theorem dX3_readLine_166 : decode cX3_readLine 166 = .ok (.getfield 9, 3) := by decide +kernel
theorem dX3_readLine_169 : decode cX3_readLine 169 = .ok (.aload_n 1, 1) := by decide +kernel
theorem dX3_readLine_170 : decode cX3_readLine 170 = .ok (.iconst 1, 1) := by decide +kernel
theorem dX3_readLine_171 : decode cX3_readLine 171 = .ok (.bipush 48, 2) := by decide +kernel
theorem dX3_readLine_173 : decode cX3_readLine 173 = .ok (.invokevirtual 62, 3) := by decide +kernel
theorem dX3_readLine_176 : decode cX3_readLine 176 = .ok (.iastore, 1) := by decide +kernel
theorem dX3_readLine_177 : decode cX3_readLine 177 = .ok (.return_, 1) := by decide +kernel
theorem dX3_read_0 : decode cX3_read 0 = .ok (.aload_n 0, 1) := by decide +kernel
theorem dX3_read_1 : decode cX3_read 1 = .ok (.iconst 0, 1) := by decide +kernel
theorem dX3_read_2 : decode cX3_read 2 = .ok (.putfield 9, 3) := by decide +kernel
theorem dX3_read_5 : decode cX3_read 5 = .ok (.iconst 0, 1) := by decide +kernel
theorem dX3_read_6 : decode cX3_read 6 = .ok (.istore_n 3, 1) := by decide +kernel
theorem dX3_read_7 : decode cX3_read 7 = .ok (.iload_n 3, 1) := by decide +kernel
theorem dX3_read_8 : decode cX3_read 8 = .ok (.bipush 30, 2) := by decide +kernel
theorem dX3_read_10 : decode cX3_read 10 = .ok (.if_icmp .gt 71, 3) := by decide +kernel
theorem dX3_read_13 : decode cX3_read 13 = .ok (.aload_n 1, 1) := by decide +kernel
theorem dX3_read_14 : decode cX3_read 14 = .ok (.invokevirtual 31, 3) := by decide +kernel
theorem dX3_read_17 : decode cX3_read 17 = .ok (.ifCond .eq 64, 3) := by decide +kernel
theorem dX3_read_20 : decode cX3_read 20 = .ok (.aload_n 1, 1) := by decide +kernel
theorem dX3_read_21 : decode cX3_read 21 = .ok (.bipush 10, 2) := by decide +kernel
theorem dX3_read_23 : decode cX3_read 23 = .ok (.bipush 14, 2) := by decide +kernel
theorem dX3_read_25 : decode cX3_read 25 = .ok (.invokevirtual 37, 3) := by decide +kernel
theorem dX3_read_28 : decode cX3_read 28 = .ok (.istore 4, 2) := by decide +kernel
theorem dX3_read_30 : decode cX3_read 30 = .ok (.aload_n 0, 1) := by decide +kernel
theorem dX3_read_31 : decode cX3_read 31 = .ok (.getfield 9, 3) := by decide +kernel
theorem dX3_read_34 : decode cX3_read 34 = .ok (.bipush 30, 2) := by decide +kernel
theorem dX3_read_36 : decode cX3_read 36 = .ok (.if_icmp .lt 8, 3) := by decide +kernel
theorem dX3_read_39 : decode cX3_read 39 = .ok (.aload_n 1, 1) := by decide +kernel
theorem dX3_read_40 : decode cX3_read 40 = .ok (.iconst 4, 1) := by decide +kernel
theorem dX3_read_41 : decode cX3_read 41 = .ok (.invokevirtual 41, 3) := by decide +kernel
theorem dX3_read_44 : decode cX3_read 44 = .ok (.aload_n 0, 1) := by decide +kernel
theorem dX3_read_45 : decode cX3_read 45 = .ok (.aload_n 1, 1) := by decide +kernel
theorem dX3_read_46 : decode cX3_read 46 = .ok (.aload_n 2, 1) := by decide +kernel
theorem dX3_read_47 : decode cX3_read 47 = .ok (.iload 4, 2) := by decide +kernel
theorem dX3_read_49 : decode cX3_read 49 = .ok (.invokevirtual 45, 3) := by decide +kernel
theorem dX3_read_52 : decode cX3_read 52 = .ok (.aload_n 1, 1) := by decide +kernel
theorem dX3_read_53 : decode cX3_read 53 = .ok (.bipush 59, 2) := by decide +kernel
theorem dX3_read_55 : decode cX3_read 55 = .ok (.invokevirtual 49, 3) := by decide +kernel
theorem dX3_read_58 : decode cX3_read 58 = .ok (.aload_n 1, 1) := by decide +kernel
theorem dX3_read_59 : decode cX3_read 59 = .ok (.invokevirtual 53, 3) := by decide +kernel
theorem dX3_read_62 : decode cX3_read 62 = .ok (.ifCond .eq 13, 3) := by decide +kernel
theorem dX3_read_65 : decode cX3_read 65 = .ok (.aload_n 0, 1) := by decide +kernel
theorem dX3_read_66 : decode cX3_read 66 = .ok (.dup, 1) := by decide +kernel
theorem dX3_read_67 : decode cX3_read 67 = .ok (.getfield 9, 3) := by decide +kernel
theorem dX3_read_70 : decode cX3_read 70 = .ok (.iconst 1, 1) := by decide +kernel
theorem dX3_read_71 : decode cX3_read 71 = .ok (.iadd, 1) := by decide +kernel
theorem dX3_read_72 : decode cX3_read 72 = .ok (.putfield 9, 3) := by decide +kernel
theorem dX3_read_75 : decode cX3_read 75 = .ok (.iinc 3 1, 3) := by decide +kernel
theorem dX3_read_78 : decode cX3_read 78 = .ok (.goto (-71), 3) := by decide +kernel
theorem dX3_read_81 : decode cX3_read 81 = .ok (.return_, 1) := by decide +kernel
theorem dX10_plan_0 : decode cX10_plan 0 = .ok (.aload_n 0, 1) := by decide +kernel
theorem dX10_plan_1 : decode cX10_plan 1 = .ok (.sipush 400, 3) := by decide +kernel
theorem dX10_plan_4 : decode cX10_plan 4 = .ok (.invokevirtual 111, 3) := by decide +kernel
theorem dX10_plan_7 : decode cX10_plan 7 = .ok (.aload_n 0, 1) := by decide +kernel
theorem dX10_plan_8 : decode cX10_plan 8 = .ok (.getfield 48, 3) := by decide +kernel
theorem dX10_plan_11 : decode cX10_plan 11 = .ok (.aload_n 0, 1) := by decide +kernel
theorem dX10_plan_12 : decode cX10_plan 12 = .ok (.getfield 20, 3) := by decide +kernel
theorem dX10_plan_15 : decode cX10_plan 15 = .ok (.aload_n 0, 1) := by decide +kernel
theorem dX10_plan_16 : decode cX10_plan 16 = .ok (.getfield 30, 3) := by decide +kernel
theorem dX10_plan_19 : decode cX10_plan 19 = .ok (.getfield 124, 3) := by decide +kernel
theorem dX10_plan_22 : decode cX10_plan 22 = .ok (.invokevirtual 154, 3) := by decide +kernel
theorem dX10_plan_25 : decode cX10_plan 25 = .ok (.aload_n 0, 1) := by decide +kernel
theorem dX10_plan_26 : decode cX10_plan 26 = .ok (.aload_n 0, 1) := by decide +kernel
theorem dX10_plan_27 : decode cX10_plan 27 = .ok (.getfield 20, 3) := by decide +kernel
theorem dX10_plan_30 : decode cX10_plan 30 = .ok (.getfield 118, 3) := by decide +kernel
theorem dX10_plan_33 : decode cX10_plan 33 = .ok (.putfield 24, 3) := by decide +kernel
theorem dX10_plan_36 : decode cX10_plan 36 = .ok (.aload_n 0, 1) := by decide +kernel
theorem dX10_plan_37 : decode cX10_plan 37 = .ok (.getfield 24, 3) := by decide +kernel
theorem dX10_plan_40 : decode cX10_plan 40 = .ok (.ifCond .eq 13, 3) := by decide +kernel
theorem dX10_plan_43 : decode cX10_plan 43 = .ok (.iconst (-1), 1) := by decide +kernel
theorem dX10_plan_44 : decode cX10_plan 44 = .ok (.aload_n 0, 1) := by decide +kernel
theorem dX10_plan_45 : decode cX10_plan 45 = .ok (.getfield 20, 3) := by decide +kernel
theorem dX10_plan_48 : decode cX10_plan 48 = .ok (.getfield 121, 3) := by decide +kernel
theorem dX10_plan_51 : decode cX10_plan 51 = .ok (.isub, 1) := by decide +kernel
theorem dX10_plan_52 : decode cX10_plan 52 = .ok (.ireturn, 1) := by decide +kernel
theorem dX10_plan_53 : decode cX10_plan 53 = .ok (.aload_n 0, 1) := by decide +kernel
theorem dX10_plan_54 : decode cX10_plan 54 = .ok (.getfield 30, 3) := by decide +kernel
theorem dX10_plan_57 : decode cX10_plan 57 = .ok (.getfield 134, 3) := by decide +kernel
theorem dX10_plan_60 : decode cX10_plan 60 = .ok (.astore_n 1, 1) := by decide +kernel
theorem dX10_plan_61 : decode cX10_plan 61 = .ok (.aload_n 0, 1) := by decide +kernel
theorem dX10_plan_62 : decode cX10_plan 62 = .ok (.getfield 30, 3) := by decide +kernel
theorem dX10_plan_65 : decode cX10_plan 65 = .ok (.aload_n 0, 1) := by decide +kernel
theorem dX10_plan_66 : decode cX10_plan 66 = .ok (.getfield 48, 3) := by decide +kernel
theorem dX10_plan_69 : decode cX10_plan 69 = .ok (.putfield 134, 3) := by decide +kernel
theorem dX10_plan_72 : decode cX10_plan 72 = .ok (.aload_n 0, 1) := by decide +kernel
theorem dX10_plan_73 : decode cX10_plan 73 = .ok (.aload_n 1, 1) := by decide +kernel
theorem dX10_plan_74 : decode cX10_plan 74 = .ok (.putfield 48, 3) := by decide +kernel
theorem dX10_plan_77 : decode cX10_plan 77 = .ok (.aload_n 0, 1) := by decide +kernel
theorem dX10_plan_78 : decode cX10_plan 78 = .ok (.getfield 30, 3) := by decide +kernel
theorem dX10_plan_81 : decode cX10_plan 81 = .ok (.getfield 134, 3) := by decide +kernel
theorem dX10_plan_84 : decode cX10_plan 84 = .ok (.getfield 137, 3) := by decide +kernel
theorem dX10_plan_87 : decode cX10_plan 87 = .ok (.ireturn, 1) := by decide +kernel
theorem dX5_read_0 : decode cX5_read 0 = .ok (.aload_n 0, 1) := by decide +kernel
theorem dX5_read_1 : decode cX5_read 1 = .ok (.iconst 0, 1) := by decide +kernel
theorem dX5_read_2 : decode cX5_read 2 = .ok (.putfield 9, 3) := by decide +kernel
theorem dX5_read_5 : decode cX5_read 5 = .ok (.aload_n 0, 1) := by decide +kernel
theorem dX5_read_6 : decode cX5_read 6 = .ok (.iconst 0, 1) := by decide +kernel
theorem dX5_read_7 : decode cX5_read 7 = .ok (.putfield 15, 3) := by decide +kernel
theorem dX5_read_10 : decode cX5_read 10 = .ok (.aload_n 0, 1) := by decide +kernel
theorem dX5_read_11 : decode cX5_read 11 = .ok (.aload_n 1, 1) := by decide +kernel
theorem dX5_read_12 : decode cX5_read 12 = .ok (.iconst 1, 1) := by decide +kernel
theorem dX5_read_13 : decode cX5_read 13 = .ok (.invokevirtual 37, 3) := by decide +kernel
theorem dX5_read_16 : decode cX5_read 16 = .ok (.aload_n 1, 1) := by decide +kernel
theorem dX5_read_17 : decode cX5_read 17 = .ok (.invokevirtual 41, 3) := by decide +kernel
theorem dX5_read_20 : decode cX5_read 20 = .ok (.ifCond .eq 8, 3) := by decide +kernel
theorem dX5_read_23 : decode cX5_read 23 = .ok (.aload_n 1, 1) := by decide +kernel
theorem dX5_read_24 : decode cX5_read 24 = .ok (.iconst 1, 1) := by decide +kernel
theorem dX5_read_25 : decode cX5_read 25 = .ok (.invokevirtual 47, 3) := by decide +kernel
theorem dX5_read_28 : decode cX5_read 28 = .ok (.return_, 1) := by decide +kernel
theorem dX10_sentence_0 : decode cX10_sentence 0 = .ok (.aload_n 0, 1) := by decide +kernel
theorem dX10_sentence_1 : decode cX10_sentence 1 = .ok (.sipush 200, 3) := by decide +kernel
theorem dX10_sentence_4 : decode cX10_sentence 4 = .ok (.invokevirtual 111, 3) := by decide +kernel
theorem dX10_sentence_7 : decode cX10_sentence 7 = .ok (.aload_n 0, 1) := by decide +kernel
theorem dX10_sentence_8 : decode cX10_sentence 8 = .ok (.getfield 55, 3) := by decide +kernel
theorem dX10_sentence_11 : decode cX10_sentence 11 = .ok (.aload_n 0, 1) := by decide +kernel
theorem dX10_sentence_12 : decode cX10_sentence 12 = .ok (.getfield 20, 3) := by decide +kernel
theorem dX10_sentence_15 : decode cX10_sentence 15 = .ok (.invokevirtual 157, 3) := by decide +kernel
theorem dX10_sentence_18 : decode cX10_sentence 18 = .ok (.aload_n 0, 1) := by decide +kernel
theorem dX10_sentence_19 : decode cX10_sentence 19 = .ok (.aload_n 0, 1) := by decide +kernel
theorem dX10_sentence_20 : decode cX10_sentence 20 = .ok (.getfield 20, 3) := by decide +kernel
theorem dX10_sentence_23 : decode cX10_sentence 23 = .ok (.getfield 118, 3) := by decide +kernel
theorem dX10_sentence_26 : decode cX10_sentence 26 = .ok (.putfield 24, 3) := by decide +kernel
theorem dX10_sentence_29 : decode cX10_sentence 29 = .ok (.aload_n 0, 1) := by decide +kernel
theorem dX10_sentence_30 : decode cX10_sentence 30 = .ok (.getfield 24, 3) := by decide +kernel
theorem dX10_sentence_33 : decode cX10_sentence 33 = .ok (.ifCond .eq 13, 3) := by decide +kernel
theorem dX10_sentence_36 : decode cX10_sentence 36 = .ok (.iconst (-1), 1) := by decide +kernel
theorem dX10_sentence_37 : decode cX10_sentence 37 = .ok (.aload_n 0, 1) := by decide +kernel
theorem dX10_sentence_38 : decode cX10_sentence 38 = .ok (.getfield 20, 3) := by decide +kernel
theorem dX10_sentence_41 : decode cX10_sentence 41 = .ok (.getfield 121, 3) := by decide +kernel
theorem dX10_sentence_44 : decode cX10_sentence 44 = .ok (.isub, 1) := by decide +kernel
theorem dX10_sentence_45 : decode cX10_sentence 45 = .ok (.ireturn, 1) := by decide +kernel
theorem dX10_sentence_46 : decode cX10_sentence 46 = .ok (.aload_n 0, 1) := by decide +kernel
theorem dX10_sentence_47 : decode cX10_sentence 47 = .ok (.getfield 30, 3) := by decide +kernel
theorem dX10_sentence_50 : decode cX10_sentence 50 = .ok (.getfield 140, 3) := by decide +kernel
theorem dX10_sentence_53 : decode cX10_sentence 53 = .ok (.astore_n 1, 1) := by decide +kernel
theorem dX10_sentence_54 : decode cX10_sentence 54 = .ok (.aload_n 0, 1) := by decide +kernel
theorem dX10_sentence_55 : decode cX10_sentence 55 = .ok (.getfield 30, 3) := by decide +kernel
theorem dX10_sentence_58 : decode cX10_sentence 58 = .ok (.aload_n 0, 1) := by decide +kernel
theorem dX10_sentence_59 : decode cX10_sentence 59 = .ok (.getfield 55, 3) := by decide +kernel
theorem dX10_sentence_62 : decode cX10_sentence 62 = .ok (.putfield 140, 3) := by decide +kernel
theorem dX10_sentence_65 : decode cX10_sentence 65 = .ok (.aload_n 0, 1) := by decide +kernel
theorem dX10_sentence_66 : decode cX10_sentence 66 = .ok (.aload_n 1, 1) := by decide +kernel
theorem dX10_sentence_67 : decode cX10_sentence 67 = .ok (.putfield 55, 3) := by decide +kernel
theorem dX10_sentence_70 : decode cX10_sentence 70 = .ok (.aload_n 0, 1) := by decide +kernel
theorem dX10_sentence_71 : decode cX10_sentence 71 = .ok (.getfield 30, 3) := by decide +kernel
theorem dX10_sentence_74 : decode cX10_sentence 74 = .ok (.getfield 140, 3) := by decide +kernel
theorem dX10_sentence_77 : decode cX10_sentence 77 = .ok (.getfield 143, 3) := by decide +kernel
theorem dX10_sentence_80 : decode cX10_sentence 80 = .ok (.ireturn, 1) := by decide +kernel
theorem dX10_fault_0 : decode cX10_fault 0 = .ok (.aload_n 0, 1) := by decide +kernel
theorem dX10_fault_1 : decode cX10_fault 1 = .ok (.getfield 24, 3) := by decide +kernel
theorem dX10_fault_4 : decode cX10_fault 4 = .ok (.ireturn, 1) := by decide +kernel
theorem dX10_gust_0 : decode cX10_gust 0 = .ok (.iload_n 1, 1) := by decide +kernel
theorem dX10_gust_1 : decode cX10_gust 1 = .ok (.ifCond .lt 24, 3) := by decide +kernel
theorem dX10_gust_4 : decode cX10_gust 4 = .ok (.iload_n 1, 1) := by decide +kernel
theorem dX10_gust_5 : decode cX10_gust 5 = .ok (.bipush 48, 2) := by decide +kernel
theorem dX10_gust_7 : decode cX10_gust 7 = .ok (.if_icmp .ge 18, 3) := by decide +kernel
theorem dX10_gust_10 : decode cX10_gust 10 = .ok (.aload_n 0, 1) := by decide +kernel
theorem dX10_gust_11 : decode cX10_gust 11 = .ok (.getfield 30, 3) := by decide +kernel
theorem dX10_gust_14 : decode cX10_gust 14 = .ok (.getfield 124, 3) := by decide +kernel
theorem dX10_gust_17 : decode cX10_gust 17 = .ok (.getfield 213, 3) := by decide +kernel
theorem dX10_gust_20 : decode cX10_gust 20 = .ok (.iload_n 1, 1) := by decide +kernel
theorem dX10_gust_21 : decode cX10_gust 21 = .ok (.iaload, 1) := by decide +kernel
theorem dX10_gust_22 : decode cX10_gust 22 = .ok (.ifCond .ne 5, 3) := by decide +kernel
theorem dX10_gust_25 : decode cX10_gust 25 = .ok (.iconst (-1), 1) := by decide +kernel
theorem dX10_gust_26 : decode cX10_gust 26 = .ok (.ireturn, 1) := by decide +kernel
theorem dX10_gust_27 : decode cX10_gust 27 = .ok (.iload_n 2, 1) := by decide +kernel
theorem dX10_gust_28 : decode cX10_gust 28 = .ok (.lookupswitch 54 #[(0, 28), (1, 41)], 28) := by decide +kernel
theorem dX10_gust_56 : decode cX10_gust 56 = .ok (.aload_n 0, 1) := by decide +kernel
theorem dX10_gust_57 : decode cX10_gust 57 = .ok (.getfield 30, 3) := by decide +kernel
theorem dX10_gust_60 : decode cX10_gust 60 = .ok (.getfield 124, 3) := by decide +kernel
theorem dX10_gust_63 : decode cX10_gust 63 = .ok (.getfield 216, 3) := by decide +kernel
theorem dX10_gust_66 : decode cX10_gust 66 = .ok (.iload_n 1, 1) := by decide +kernel
theorem dX10_gust_67 : decode cX10_gust 67 = .ok (.iaload, 1) := by decide +kernel
theorem dX10_gust_68 : decode cX10_gust 68 = .ok (.ireturn, 1) := by decide +kernel
theorem dX10_gust_69 : decode cX10_gust 69 = .ok (.aload_n 0, 1) := by decide +kernel
theorem dX10_gust_70 : decode cX10_gust 70 = .ok (.getfield 30, 3) := by decide +kernel
theorem dX10_gust_73 : decode cX10_gust 73 = .ok (.getfield 124, 3) := by decide +kernel
theorem dX10_gust_76 : decode cX10_gust 76 = .ok (.getfield 213, 3) := by decide +kernel
theorem dX10_gust_79 : decode cX10_gust 79 = .ok (.iload_n 1, 1) := by decide +kernel
theorem dX10_gust_80 : decode cX10_gust 80 = .ok (.iaload, 1) := by decide +kernel
theorem dX10_gust_81 : decode cX10_gust 81 = .ok (.ireturn, 1) := by decide +kernel
theorem dX10_gust_82 : decode cX10_gust 82 = .ok (.iconst (-1), 1) := by decide +kernel
theorem dX10_gust_83 : decode cX10_gust 83 = .ok (.ireturn, 1) := by decide +kernel
theorem dX10_sum_0 : decode cX10_sum 0 = .ok (.iconst 0, 1) := by decide +kernel
theorem dX10_sum_1 : decode cX10_sum 1 = .ok (.istore_n 1, 1) := by decide +kernel
theorem dX10_sum_2 : decode cX10_sum 2 = .ok (.iconst 0, 1) := by decide +kernel
theorem dX10_sum_3 : decode cX10_sum 3 = .ok (.istore_n 2, 1) := by decide +kernel
theorem dX10_sum_4 : decode cX10_sum 4 = .ok (.iload_n 2, 1) := by decide +kernel
theorem dX10_sum_5 : decode cX10_sum 5 = .ok (.aload_n 0, 1) := by decide +kernel
theorem dX10_sum_6 : decode cX10_sum 6 = .ok (.arraylength, 1) := by decide +kernel
theorem dX10_sum_7 : decode cX10_sum 7 = .ok (.if_icmp .ge 15, 3) := by decide +kernel
theorem dX10_sum_10 : decode cX10_sum 10 = .ok (.iload_n 1, 1) := by decide +kernel
theorem dX10_sum_11 : decode cX10_sum 11 = .ok (.aload_n 0, 1) := by decide +kernel
theorem dX10_sum_12 : decode cX10_sum 12 = .ok (.iload_n 2, 1) := by decide +kernel
theorem dX10_sum_13 : decode cX10_sum 13 = .ok (.iaload, 1) := by decide +kernel
theorem dX10_sum_14 : decode cX10_sum 14 = .ok (.iadd, 1) := by decide +kernel
theorem dX10_sum_15 : decode cX10_sum 15 = .ok (.istore_n 1, 1) := by decide +kernel
theorem dX10_sum_16 : decode cX10_sum 16 = .ok (.iinc 2 1, 3) := by decide +kernel
theorem dX10_sum_19 : decode cX10_sum 19 = .ok (.goto (-15), 3) := by decide +kernel
theorem dX10_sum_22 : decode cX10_sum 22 = .ok (.iload_n 1, 1) := by decide +kernel
theorem dX10_sum_23 : decode cX10_sum 23 = .ok (.ireturn, 1) := by decide +kernel
theorem dJ6_bitCount_0f7a4_0 : decode cJ6_bitCount_0f7a4 0 = .ok (.iload_n 0, 1) := by decide +kernel
theorem dJ6_bitCount_0f7a4_1 : decode cJ6_bitCount_0f7a4 1 = .ok (.iload_n 0, 1) := by decide +kernel
theorem dJ6_bitCount_0f7a4_2 : decode cJ6_bitCount_0f7a4 2 = .ok (.iconst 1, 1) := by decide +kernel
theorem dJ6_bitCount_0f7a4_3 : decode cJ6_bitCount_0f7a4 3 = .ok (.iushr, 1) := by decide +kernel
theorem dJ6_bitCount_0f7a4_4 : decode cJ6_bitCount_0f7a4 4 = .ok (.ldc_w 265, 3) := by decide +kernel
theorem dJ6_bitCount_0f7a4_7 : decode cJ6_bitCount_0f7a4 7 = .ok (.iand, 1) := by decide +kernel
theorem dJ6_bitCount_0f7a4_8 : decode cJ6_bitCount_0f7a4 8 = .ok (.isub, 1) := by decide +kernel
theorem dJ6_bitCount_0f7a4_9 : decode cJ6_bitCount_0f7a4 9 = .ok (.istore_n 0, 1) := by decide +kernel
theorem dJ6_bitCount_0f7a4_10 : decode cJ6_bitCount_0f7a4 10 = .ok (.iload_n 0, 1) := by decide +kernel
theorem dJ6_bitCount_0f7a4_11 : decode cJ6_bitCount_0f7a4 11 = .ok (.ldc_w 266, 3) := by decide +kernel
theorem dJ6_bitCount_0f7a4_14 : decode cJ6_bitCount_0f7a4 14 = .ok (.iand, 1) := by decide +kernel
theorem dJ6_bitCount_0f7a4_15 : decode cJ6_bitCount_0f7a4 15 = .ok (.iload_n 0, 1) := by decide +kernel
theorem dJ6_bitCount_0f7a4_16 : decode cJ6_bitCount_0f7a4 16 = .ok (.iconst 2, 1) := by decide +kernel
theorem dJ6_bitCount_0f7a4_17 : decode cJ6_bitCount_0f7a4 17 = .ok (.iushr, 1) := by decide +kernel
theorem dJ6_bitCount_0f7a4_18 : decode cJ6_bitCount_0f7a4 18 = .ok (.ldc_w 266, 3) := by decide +kernel
theorem dJ6_bitCount_0f7a4_21 : decode cJ6_bitCount_0f7a4 21 = .ok (.iand, 1) := by decide +kernel
theorem dJ6_bitCount_0f7a4_22 : decode cJ6_bitCount_0f7a4 22 = .ok (.iadd, 1) := by decide +kernel
theorem dJ6_bitCount_0f7a4_23 : decode cJ6_bitCount_0f7a4 23 = .ok (.istore_n 0, 1) := by decide +kernel
theorem dJ6_bitCount_0f7a4_24 : decode cJ6_bitCount_0f7a4 24 = .ok (.iload_n 0, 1) := by decide +kernel
theorem dJ6_bitCount_0f7a4_25 : decode cJ6_bitCount_0f7a4 25 = .ok (.iload_n 0, 1) := by decide +kernel
theorem dJ6_bitCount_0f7a4_26 : decode cJ6_bitCount_0f7a4 26 = .ok (.iconst 4, 1) := by decide +kernel
theorem dJ6_bitCount_0f7a4_27 : decode cJ6_bitCount_0f7a4 27 = .ok (.iushr, 1) := by decide +kernel
theorem dJ6_bitCount_0f7a4_28 : decode cJ6_bitCount_0f7a4 28 = .ok (.iadd, 1) := by decide +kernel
theorem dJ6_bitCount_0f7a4_29 : decode cJ6_bitCount_0f7a4 29 = .ok (.ldc_w 267, 3) := by decide +kernel
theorem dJ6_bitCount_0f7a4_32 : decode cJ6_bitCount_0f7a4 32 = .ok (.iand, 1) := by decide +kernel
theorem dJ6_bitCount_0f7a4_33 : decode cJ6_bitCount_0f7a4 33 = .ok (.istore_n 0, 1) := by decide +kernel
theorem dJ6_bitCount_0f7a4_34 : decode cJ6_bitCount_0f7a4 34 = .ok (.iload_n 0, 1) := by decide +kernel
theorem dJ6_bitCount_0f7a4_35 : decode cJ6_bitCount_0f7a4 35 = .ok (.iload_n 0, 1) := by decide +kernel
theorem dJ6_bitCount_0f7a4_36 : decode cJ6_bitCount_0f7a4 36 = .ok (.bipush 8, 2) := by decide +kernel
theorem dJ6_bitCount_0f7a4_38 : decode cJ6_bitCount_0f7a4 38 = .ok (.iushr, 1) := by decide +kernel
theorem dJ6_bitCount_0f7a4_39 : decode cJ6_bitCount_0f7a4 39 = .ok (.iadd, 1) := by decide +kernel
theorem dJ6_bitCount_0f7a4_40 : decode cJ6_bitCount_0f7a4 40 = .ok (.istore_n 0, 1) := by decide +kernel
theorem dJ6_bitCount_0f7a4_41 : decode cJ6_bitCount_0f7a4 41 = .ok (.iload_n 0, 1) := by decide +kernel
theorem dJ6_bitCount_0f7a4_42 : decode cJ6_bitCount_0f7a4 42 = .ok (.iload_n 0, 1) := by decide +kernel
theorem dJ6_bitCount_0f7a4_43 : decode cJ6_bitCount_0f7a4 43 = .ok (.bipush 16, 2) := by decide +kernel
theorem dJ6_bitCount_0f7a4_45 : decode cJ6_bitCount_0f7a4 45 = .ok (.iushr, 1) := by decide +kernel
theorem dJ6_bitCount_0f7a4_46 : decode cJ6_bitCount_0f7a4 46 = .ok (.iadd, 1) := by decide +kernel
theorem dJ6_bitCount_0f7a4_47 : decode cJ6_bitCount_0f7a4 47 = .ok (.istore_n 0, 1) := by decide +kernel
theorem dJ6_bitCount_0f7a4_48 : decode cJ6_bitCount_0f7a4 48 = .ok (.iload_n 0, 1) := by decide +kernel
theorem dJ6_bitCount_0f7a4_49 : decode cJ6_bitCount_0f7a4 49 = .ok (.bipush 63, 2) := by decide +kernel
theorem dJ6_bitCount_0f7a4_51 : decode cJ6_bitCount_0f7a4 51 = .ok (.iand, 1) := by decide +kernel
theorem dJ6_bitCount_0f7a4_52 : decode cJ6_bitCount_0f7a4 52 = .ok (.ireturn, 1) := by decide +kernel
theorem dX10_now_0 : decode cX10_now 0 = .ok (.aload_n 0, 1) := by decide +kernel
theorem dX10_now_1 : decode cX10_now 1 = .ok (.getfield 30, 3) := by decide +kernel
theorem dX10_now_4 : decode cX10_now 4 = .ok (.getfield 127, 3) := by decide +kernel
theorem dX10_now_7 : decode cX10_now 7 = .ok (.astore_n 2, 1) := by decide +kernel
theorem dX10_now_8 : decode cX10_now 8 = .ok (.iload_n 1, 1) := by decide +kernel
theorem dX10_now_9 : decode cX10_now 9 = .ok (.tableswitch 96 0 7 #[47, 52, 57, 65, 73, 78, 86, 91], 47) := by decide +kernel
theorem dX10_now_56 : decode cX10_now 56 = .ok (.aload_n 2, 1) := by decide +kernel
theorem dX10_now_57 : decode cX10_now 57 = .ok (.getfield 219, 3) := by decide +kernel
theorem dX10_now_60 : decode cX10_now 60 = .ok (.ireturn, 1) := by decide +kernel
theorem dX10_now_61 : decode cX10_now 61 = .ok (.aload_n 2, 1) := by decide +kernel
theorem dX10_now_62 : decode cX10_now 62 = .ok (.getfield 222, 3) := by decide +kernel
theorem dX10_now_65 : decode cX10_now 65 = .ok (.ireturn, 1) := by decide +kernel
theorem dX10_now_66 : decode cX10_now 66 = .ok (.aload_n 2, 1) := by decide +kernel
theorem dX10_now_67 : decode cX10_now 67 = .ok (.getfield 183, 3) := by decide +kernel
theorem dX10_now_70 : decode cX10_now 70 = .ok (.invokestatic 225, 3) := by decide +kernel
theorem dX10_now_73 : decode cX10_now 73 = .ok (.ireturn, 1) := by decide +kernel
theorem dX10_now_74 : decode cX10_now 74 = .ok (.aload_n 2, 1) := by decide +kernel
theorem dX10_now_75 : decode cX10_now 75 = .ok (.getfield 186, 3) := by decide +kernel
theorem dX10_now_78 : decode cX10_now 78 = .ok (.invokestatic 225, 3) := by decide +kernel
theorem dX10_now_81 : decode cX10_now 81 = .ok (.ireturn, 1) := by decide +kernel
theorem dX10_now_82 : decode cX10_now 82 = .ok (.aload_n 2, 1) := by decide +kernel
theorem dX10_now_83 : decode cX10_now 83 = .ok (.getfield 229, 3) := by decide +kernel
theorem dX10_now_86 : decode cX10_now 86 = .ok (.ireturn, 1) := by decide +kernel
theorem dX10_now_87 : decode cX10_now 87 = .ok (.aload_n 2, 1) := by decide +kernel
theorem dX10_now_88 : decode cX10_now 88 = .ok (.getfield 232, 3) := by decide +kernel
theorem dX10_now_91 : decode cX10_now 91 = .ok (.invokestatic 235, 3) := by decide +kernel
theorem dX10_now_94 : decode cX10_now 94 = .ok (.ireturn, 1) := by decide +kernel
theorem dX10_now_95 : decode cX10_now 95 = .ok (.aload_n 2, 1) := by decide +kernel
theorem dX10_now_96 : decode cX10_now 96 = .ok (.getfield 241, 3) := by decide +kernel
theorem dX10_now_99 : decode cX10_now 99 = .ok (.ireturn, 1) := by decide +kernel
theorem dX10_now_100 : decode cX10_now 100 = .ok (.aload_n 2, 1) := by decide +kernel
theorem dX10_now_101 : decode cX10_now 101 = .ok (.getfield 244, 3) := by decide +kernel
theorem dX10_now_104 : decode cX10_now 104 = .ok (.ireturn, 1) := by decide +kernel
theorem dX10_now_105 : decode cX10_now 105 = .ok (.iconst (-1), 1) := by decide +kernel
theorem dX10_now_106 : decode cX10_now 106 = .ok (.ireturn, 1) := by decide +kernel
theorem dX10_count_0 : decode cX10_count 0 = .ok (.aload_n 0, 1) := by decide +kernel
theorem dX10_count_1 : decode cX10_count 1 = .ok (.getfield 30, 3) := by decide +kernel
theorem dX10_count_4 : decode cX10_count 4 = .ok (.getfield 124, 3) := by decide +kernel
theorem dX10_count_7 : decode cX10_count 7 = .ok (.astore_n 2, 1) := by decide +kernel
theorem dX10_count_8 : decode cX10_count 8 = .ok (.iload_n 1, 1) := by decide +kernel
theorem dX10_count_9 : decode cX10_count 9 = .ok (.tableswitch 105 0 8 #[51, 56, 61, 69, 74, 79, 84, 89, 100], 51) := by decide +kernel
theorem dX10_count_60 : decode cX10_count 60 = .ok (.aload_n 2, 1) := by decide +kernel
theorem dX10_count_61 : decode cX10_count 61 = .ok (.getfield 247, 3) := by decide +kernel
theorem dX10_count_64 : decode cX10_count 64 = .ok (.ireturn, 1) := by decide +kernel
theorem dX10_count_65 : decode cX10_count 65 = .ok (.aload_n 2, 1) := by decide +kernel
theorem dX10_count_66 : decode cX10_count 66 = .ok (.getfield 250, 3) := by decide +kernel
theorem dX10_count_69 : decode cX10_count 69 = .ok (.ireturn, 1) := by decide +kernel
theorem dX10_count_70 : decode cX10_count 70 = .ok (.aload_n 2, 1) := by decide +kernel
theorem dX10_count_71 : decode cX10_count 71 = .ok (.getfield 174, 3) := by decide +kernel
theorem dX10_count_74 : decode cX10_count 74 = .ok (.getfield 253, 3) := by decide +kernel
theorem dX10_count_77 : decode cX10_count 77 = .ok (.ireturn, 1) := by decide +kernel
theorem dX10_count_78 : decode cX10_count 78 = .ok (.aload_n 2, 1) := by decide +kernel
theorem dX10_count_79 : decode cX10_count 79 = .ok (.getfield 256, 3) := by decide +kernel
theorem dX10_count_82 : decode cX10_count 82 = .ok (.ireturn, 1) := by decide +kernel
theorem dX10_count_83 : decode cX10_count 83 = .ok (.aload_n 2, 1) := by decide +kernel
theorem dX10_count_84 : decode cX10_count 84 = .ok (.getfield 259, 3) := by decide +kernel
theorem dX10_count_87 : decode cX10_count 87 = .ok (.ireturn, 1) := by decide +kernel
theorem dX10_count_88 : decode cX10_count 88 = .ok (.aload_n 2, 1) := by decide +kernel
theorem dX10_count_89 : decode cX10_count 89 = .ok (.getfield 262, 3) := by decide +kernel
theorem dX10_count_92 : decode cX10_count 92 = .ok (.ireturn, 1) := by decide +kernel
theorem dX10_count_93 : decode cX10_count 93 = .ok (.aload_n 2, 1) := by decide +kernel
theorem dX10_count_94 : decode cX10_count 94 = .ok (.getfield 265, 3) := by decide +kernel
theorem dX10_count_97 : decode cX10_count 97 = .ok (.ireturn, 1) := by decide +kernel
theorem dX10_count_98 : decode cX10_count 98 = .ok (.aload_n 0, 1) := by decide +kernel
theorem dX10_count_99 : decode cX10_count 99 = .ok (.getfield 30, 3) := by decide +kernel
theorem dX10_count_102 : decode cX10_count 102 = .ok (.getfield 134, 3) := by decide +kernel
theorem dX10_count_105 : decode cX10_count 105 = .ok (.getfield 137, 3) := by decide +kernel
theorem dX10_count_108 : decode cX10_count 108 = .ok (.ireturn, 1) := by decide +kernel
theorem dX10_count_109 : decode cX10_count 109 = .ok (.aload_n 0, 1) := by decide +kernel
theorem dX10_count_110 : decode cX10_count 110 = .ok (.getfield 13, 3) := by decide +kernel
theorem dX10_count_113 : decode cX10_count 113 = .ok (.ireturn, 1) := by decide +kernel
theorem dX10_count_114 : decode cX10_count 114 = .ok (.iconst (-1), 1) := by decide +kernel
theorem dX10_count_115 : decode cX10_count 115 = .ok (.ireturn, 1) := by decide +kernel
theorem dX0_isCell_0 : decode cX0_isCell 0 = .ok (.iload_n 1, 1) := by decide +kernel
theorem dX0_isCell_1 : decode cX0_isCell 1 = .ok (.ifCond .lt 35, 3) := by decide +kernel
theorem dX0_isCell_4 : decode cX0_isCell 4 = .ok (.iload_n 1, 1) := by decide +kernel
theorem dX0_isCell_5 : decode cX0_isCell 5 = .ok (.bipush 100, 2) := by decide +kernel
theorem dX0_isCell_7 : decode cX0_isCell 7 = .ok (.if_icmp .ge 29, 3) := by decide +kernel
theorem dX0_isCell_10 : decode cX0_isCell 10 = .ok (.iload_n 1, 1) := by decide +kernel
theorem dX0_isCell_11 : decode cX0_isCell 11 = .ok (.bipush 10, 2) := by decide +kernel
theorem dX0_isCell_13 : decode cX0_isCell 13 = .ok (.irem, 1) := by decide +kernel
theorem dX0_isCell_14 : decode cX0_isCell 14 = .ok (.aload_n 0, 1) := by decide +kernel
theorem dX0_isCell_15 : decode cX0_isCell 15 = .ok (.getfield 15, 3) := by decide +kernel
theorem dX0_isCell_18 : decode cX0_isCell 18 = .ok (.if_icmp .ge 18, 3) := by decide +kernel
theorem dX0_isCell_21 : decode cX0_isCell 21 = .ok (.iload_n 1, 1) := by decide +kernel
theorem dX0_isCell_22 : decode cX0_isCell 22 = .ok (.bipush 10, 2) := by decide +kernel
theorem dX0_isCell_24 : decode cX0_isCell 24 = .ok (.idiv, 1) := by decide +kernel
theorem dX0_isCell_25 : decode cX0_isCell 25 = .ok (.aload_n 0, 1) := by decide +kernel
theorem dX0_isCell_26 : decode cX0_isCell 26 = .ok (.getfield 18, 3) := by decide +kernel
theorem dX0_isCell_29 : decode cX0_isCell 29 = .ok (.if_icmp .ge 7, 3) := by decide +kernel
theorem dX0_isCell_32 : decode cX0_isCell 32 = .ok (.iconst 1, 1) := by decide +kernel
theorem dX0_isCell_33 : decode cX0_isCell 33 = .ok (.goto 4, 3) := by decide +kernel
theorem dX0_isCell_36 : decode cX0_isCell 36 = .ok (.iconst 0, 1) := by decide +kernel
theorem dX0_isCell_37 : decode cX0_isCell 37 = .ok (.ireturn, 1) := by decide +kernel
theorem dX10_isGust_0 : decode cX10_isGust 0 = .ok (.iload_n 0, 1) := by decide +kernel
theorem dX10_isGust_1 : decode cX10_isGust 1 = .ok (.ifCond .lt 24, 3) := by decide +kernel
theorem dX10_isGust_4 : decode cX10_isGust 4 = .ok (.iload_n 0, 1) := by decide +kernel
theorem dX10_isGust_5 : decode cX10_isGust 5 = .ok (.bipush 8, 2) := by decide +kernel
theorem dX10_isGust_7 : decode cX10_isGust 7 = .ok (.if_icmp .ge 18, 3) := by decide +kernel
theorem dX10_isGust_10 : decode cX10_isGust 10 = .ok (.iload_n 1, 1) := by decide +kernel
theorem dX10_isGust_11 : decode cX10_isGust 11 = .ok (.iconst 1, 1) := by decide +kernel
theorem dX10_isGust_12 : decode cX10_isGust 12 = .ok (.if_icmp .lt 13, 3) := by decide +kernel
theorem dX10_isGust_15 : decode cX10_isGust 15 = .ok (.iload_n 1, 1) := by decide +kernel
theorem dX10_isGust_16 : decode cX10_isGust 16 = .ok (.bipush 9, 2) := by decide +kernel
theorem dX10_isGust_18 : decode cX10_isGust 18 = .ok (.if_icmp .gt 7, 3) := by decide +kernel
theorem dX10_isGust_21 : decode cX10_isGust 21 = .ok (.iconst 1, 1) := by decide +kernel
theorem dX10_isGust_22 : decode cX10_isGust 22 = .ok (.goto 4, 3) := by decide +kernel
theorem dX10_isGust_25 : decode cX10_isGust 25 = .ok (.iconst 0, 1) := by decide +kernel
theorem dX10_isGust_26 : decode cX10_isGust 26 = .ok (.ireturn, 1) := by decide +kernel
theorem dX0_dirAt_0 : decode cX0_dirAt 0 = .ok (.iload_n 1, 1) := by decide +kernel
theorem dX0_dirAt_1 : decode cX0_dirAt 1 = .ok (.ifCond .lt 18, 3) := by decide +kernel
theorem dX0_dirAt_4 : decode cX0_dirAt 4 = .ok (.iload_n 1, 1) := by decide +kernel
theorem dX0_dirAt_5 : decode cX0_dirAt 5 = .ok (.bipush 100, 2) := by decide +kernel
theorem dX0_dirAt_7 : decode cX0_dirAt 7 = .ok (.if_icmp .ge 12, 3) := by decide +kernel
theorem dX0_dirAt_10 : decode cX0_dirAt 10 = .ok (.aload_n 0, 1) := by decide +kernel
theorem dX0_dirAt_11 : decode cX0_dirAt 11 = .ok (.getfield 54, 3) := by decide +kernel
theorem dX0_dirAt_14 : decode cX0_dirAt 14 = .ok (.iload_n 1, 1) := by decide +kernel
theorem dX0_dirAt_15 : decode cX0_dirAt 15 = .ok (.iaload, 1) := by decide +kernel
theorem dX0_dirAt_16 : decode cX0_dirAt 16 = .ok (.goto 4, 3) := by decide +kernel
theorem dX0_dirAt_19 : decode cX0_dirAt 19 = .ok (.iconst 0, 1) := by decide +kernel
theorem dX0_dirAt_20 : decode cX0_dirAt 20 = .ok (.istore_n 3, 1) := by decide +kernel
theorem dX0_dirAt_21 : decode cX0_dirAt 21 = .ok (.iload_n 2, 1) := by decide +kernel
theorem dX0_dirAt_22 : decode cX0_dirAt 22 = .ok (.iload_n 3, 1) := by decide +kernel
theorem dX0_dirAt_23 : decode cX0_dirAt 23 = .ok (.iadd, 1) := by decide +kernel
theorem dX0_dirAt_24 : decode cX0_dirAt 24 = .ok (.bipush 7, 2) := by decide +kernel
theorem dX0_dirAt_26 : decode cX0_dirAt 26 = .ok (.iand, 1) := by decide +kernel
theorem dX0_dirAt_27 : decode cX0_dirAt 27 = .ok (.ireturn, 1) := by decide +kernel
theorem dX0_forceAt_0 : decode cX0_forceAt 0 = .ok (.iload 4, 2) := by decide +kernel
theorem dX0_forceAt_2 : decode cX0_forceAt 2 = .ok (.istore 5, 2) := by decide +kernel
theorem dX0_forceAt_4 : decode cX0_forceAt 4 = .ok (.getstatic 82, 3) := by decide +kernel
theorem dX0_forceAt_7 : decode cX0_forceAt 7 = .ok (.iload_n 3, 1) := by decide +kernel
theorem dX0_forceAt_8 : decode cX0_forceAt 8 = .ok (.bipush 7, 2) := by decide +kernel
theorem dX0_forceAt_10 : decode cX0_forceAt 10 = .ok (.iand, 1) := by decide +kernel
theorem dX0_forceAt_11 : decode cX0_forceAt 11 = .ok (.iaload, 1) := by decide +kernel
theorem dX0_forceAt_12 : decode cX0_forceAt 12 = .ok (.istore 6, 2) := by decide +kernel
theorem dX0_forceAt_14 : decode cX0_forceAt 14 = .ok (.getstatic 85, 3) := by decide +kernel
theorem dX0_forceAt_17 : decode cX0_forceAt 17 = .ok (.iload_n 3, 1) := by decide +kernel
theorem dX0_forceAt_18 : decode cX0_forceAt 18 = .ok (.bipush 7, 2) := by decide +kernel
theorem dX0_forceAt_20 : decode cX0_forceAt 20 = .ok (.iand, 1) := by decide +kernel
theorem dX0_forceAt_21 : decode cX0_forceAt 21 = .ok (.iaload, 1) := by decide +kernel
theorem dX0_forceAt_22 : decode cX0_forceAt 22 = .ok (.istore 7, 2) := by decide +kernel
theorem dX0_forceAt_24 : decode cX0_forceAt 24 = .ok (.iload_n 2, 1) := by decide +kernel
theorem dX0_forceAt_25 : decode cX0_forceAt 25 = .ok (.bipush 10, 2) := by decide +kernel
theorem dX0_forceAt_27 : decode cX0_forceAt 27 = .ok (.irem, 1) := by decide +kernel
theorem dX0_forceAt_28 : decode cX0_forceAt 28 = .ok (.istore 8, 2) := by decide +kernel
theorem dX0_forceAt_30 : decode cX0_forceAt 30 = .ok (.iload_n 2, 1) := by decide +kernel
theorem dX0_forceAt_31 : decode cX0_forceAt 31 = .ok (.bipush 10, 2) := by decide +kernel
theorem dX0_forceAt_33 : decode cX0_forceAt 33 = .ok (.idiv, 1) := by decide +kernel
theorem dX0_forceAt_34 : decode cX0_forceAt 34 = .ok (.istore 9, 2) := by decide +kernel
theorem dX0_forceAt_36 : decode cX0_forceAt 36 = .ok (.iconst 0, 1) := by decide +kernel
theorem dX0_forceAt_37 : decode cX0_forceAt 37 = .ok (.istore 10, 2) := by decide +kernel
theorem dX0_forceAt_39 : decode cX0_forceAt 39 = .ok (.iload 10, 2) := by decide +kernel
theorem dX0_forceAt_41 : decode cX0_forceAt 41 = .ok (.iconst 3, 1) := by decide +kernel
theorem dX0_forceAt_42 : decode cX0_forceAt 42 = .ok (.if_icmp .ge 93, 3) := by decide +kernel
theorem dX0_forceAt_45 : decode cX0_forceAt 45 = .ok (.iload 8, 2) := by decide +kernel
theorem dX0_forceAt_47 : decode cX0_forceAt 47 = .ok (.iload 6, 2) := by decide +kernel
theorem dX0_forceAt_49 : decode cX0_forceAt 49 = .ok (.iadd, 1) := by decide +kernel
theorem dX0_forceAt_50 : decode cX0_forceAt 50 = .ok (.istore 8, 2) := by decide +kernel
theorem dX0_forceAt_52 : decode cX0_forceAt 52 = .ok (.iload 9, 2) := by decide +kernel
theorem dX0_forceAt_54 : decode cX0_forceAt 54 = .ok (.iload 7, 2) := by decide +kernel
theorem dX0_forceAt_56 : decode cX0_forceAt 56 = .ok (.iadd, 1) := by decide +kernel
theorem dX0_forceAt_57 : decode cX0_forceAt 57 = .ok (.istore 9, 2) := by decide +kernel
theorem dX0_forceAt_59 : decode cX0_forceAt 59 = .ok (.iload 8, 2) := by decide +kernel
theorem dX0_forceAt_61 : decode cX0_forceAt 61 = .ok (.ifCond .lt 74, 3) := by decide +kernel
theorem dX0_forceAt_64 : decode cX0_forceAt 64 = .ok (.iload 8, 2) := by decide +kernel
theorem dX0_forceAt_66 : decode cX0_forceAt 66 = .ok (.aload_n 0, 1) := by decide +kernel
theorem dX0_forceAt_67 : decode cX0_forceAt 67 = .ok (.getfield 15, 3) := by decide +kernel
theorem dX0_forceAt_70 : decode cX0_forceAt 70 = .ok (.if_icmp .ge 65, 3) := by decide +kernel
theorem dX0_forceAt_73 : decode cX0_forceAt 73 = .ok (.iload 9, 2) := by decide +kernel
theorem dX0_forceAt_75 : decode cX0_forceAt 75 = .ok (.ifCond .lt 60, 3) := by decide +kernel
theorem dX0_forceAt_78 : decode cX0_forceAt 78 = .ok (.iload 9, 2) := by decide +kernel
theorem dX0_forceAt_80 : decode cX0_forceAt 80 = .ok (.aload_n 0, 1) := by decide +kernel
theorem dX0_forceAt_81 : decode cX0_forceAt 81 = .ok (.getfield 18, 3) := by decide +kernel
theorem dX0_forceAt_84 : decode cX0_forceAt 84 = .ok (.if_icmp .lt 6, 3) := by decide +kernel
theorem dX0_forceAt_87 : decode cX0_forceAt 87 = .ok (.goto 48, 3) := by decide +kernel
theorem dX0_forceAt_90 : decode cX0_forceAt 90 = .ok (.aload_n 1, 1) := by decide +kernel
theorem dX0_forceAt_91 : decode cX0_forceAt 91 = .ok (.iload 9, 2) := by decide +kernel
theorem dX0_forceAt_93 : decode cX0_forceAt 93 = .ok (.bipush 10, 2) := by decide +kernel
theorem dX0_forceAt_95 : decode cX0_forceAt 95 = .ok (.imul, 1) := by decide +kernel
theorem dX0_forceAt_96 : decode cX0_forceAt 96 = .ok (.iload 8, 2) := by decide +kernel
theorem dX0_forceAt_98 : decode cX0_forceAt 98 = .ok (.iadd, 1) := by decide +kernel
theorem dX0_forceAt_99 : decode cX0_forceAt 99 = .ok (.iaload, 1) := by decide +kernel
theorem dX0_forceAt_100 : decode cX0_forceAt 100 = .ok (.iconst 4, 1) := by decide +kernel
theorem dX0_forceAt_101 : decode cX0_forceAt 101 = .ok (.ishr, 1) := by decide +kernel
theorem dX0_forceAt_102 : decode cX0_forceAt 102 = .ok (.iconst 4, 1) := by decide +kernel
theorem dX0_forceAt_103 : decode cX0_forceAt 103 = .ok (.ishl, 1) := by decide +kernel
theorem dX0_forceAt_104 : decode cX0_forceAt 104 = .ok (.istore 11, 2) := by decide +kernel
theorem dX0_forceAt_106 : decode cX0_forceAt 106 = .ok (.iload 11, 2) := by decide +kernel
theorem dX0_forceAt_108 : decode cX0_forceAt 108 = .ok (.bipush 32, 2) := by decide +kernel
theorem dX0_forceAt_110 : decode cX0_forceAt 110 = .ok (.if_icmp .ne 9, 3) := by decide +kernel
theorem dX0_forceAt_113 : decode cX0_forceAt 113 = .ok (.iinc 5 (-2), 3) := by decide +kernel
theorem dX0_forceAt_116 : decode cX0_forceAt 116 = .ok (.goto 13, 3) := by decide +kernel
theorem dX0_forceAt_119 : decode cX0_forceAt 119 = .ok (.iload 11, 2) := by decide +kernel
theorem dX0_forceAt_121 : decode cX0_forceAt 121 = .ok (.bipush 48, 2) := by decide +kernel
theorem dX0_forceAt_123 : decode cX0_forceAt 123 = .ok (.if_icmp .ne 6, 3) := by decide +kernel
theorem dX0_forceAt_126 : decode cX0_forceAt 126 = .ok (.iinc 5 (-3), 3) := by decide +kernel
theorem dX0_forceAt_129 : decode cX0_forceAt 129 = .ok (.iinc 10 1, 3) := by decide +kernel
theorem dX0_forceAt_132 : decode cX0_forceAt 132 = .ok (.goto (-93), 3) := by decide +kernel
theorem dX0_forceAt_135 : decode cX0_forceAt 135 = .ok (.iload 5, 2) := by decide +kernel
theorem dX0_forceAt_137 : decode cX0_forceAt 137 = .ok (.iconst 0, 1) := by decide +kernel
theorem dX0_forceAt_138 : decode cX0_forceAt 138 = .ok (.invokestatic 88, 3) := by decide +kernel
theorem dX0_forceAt_141 : decode cX0_forceAt 141 = .ok (.ireturn, 1) := by decide +kernel
theorem dX10_comes_0 : decode cX10_comes 0 = .ok (.aload_n 0, 1) := by decide +kernel
theorem dX10_comes_1 : decode cX10_comes 1 = .ok (.getfield 30, 3) := by decide +kernel
theorem dX10_comes_4 : decode cX10_comes 4 = .ok (.getfield 124, 3) := by decide +kernel
theorem dX10_comes_7 : decode cX10_comes 7 = .ok (.iload_n 1, 1) := by decide +kernel
theorem dX10_comes_8 : decode cX10_comes 8 = .ok (.invokevirtual 158, 3) := by decide +kernel
theorem dX10_comes_11 : decode cX10_comes 11 = .ok (.ifCond .eq 11, 3) := by decide +kernel
theorem dX10_comes_14 : decode cX10_comes 14 = .ok (.iload_n 2, 1) := by decide +kernel
theorem dX10_comes_15 : decode cX10_comes 15 = .ok (.iload_n 3, 1) := by decide +kernel
theorem dX10_comes_16 : decode cX10_comes 16 = .ok (.invokestatic 268, 3) := by decide +kernel
theorem dX10_comes_19 : decode cX10_comes 19 = .ok (.ifCond .ne 5, 3) := by decide +kernel
theorem dX10_comes_22 : decode cX10_comes 22 = .ok (.iconst (-1), 1) := by decide +kernel
theorem dX10_comes_23 : decode cX10_comes 23 = .ok (.ireturn, 1) := by decide +kernel
theorem dX10_comes_24 : decode cX10_comes 24 = .ok (.iload 4, 2) := by decide +kernel
theorem dX10_comes_26 : decode cX10_comes 26 = .ok (.lookupswitch 63 #[(0, 26), (1, 39)], 26) := by decide +kernel
theorem dX10_comes_52 : decode cX10_comes 52 = .ok (.aload_n 0, 1) := by decide +kernel
theorem dX10_comes_53 : decode cX10_comes 53 = .ok (.getfield 30, 3) := by decide +kernel
theorem dX10_comes_56 : decode cX10_comes 56 = .ok (.getfield 124, 3) := by decide +kernel
theorem dX10_comes_59 : decode cX10_comes 59 = .ok (.iload_n 1, 1) := by decide +kernel
theorem dX10_comes_60 : decode cX10_comes 60 = .ok (.iload_n 2, 1) := by decide +kernel
theorem dX10_comes_61 : decode cX10_comes 61 = .ok (.invokevirtual 272, 3) := by decide +kernel
theorem dX10_comes_64 : decode cX10_comes 64 = .ok (.ireturn, 1) := by decide +kernel
theorem dX10_comes_65 : decode cX10_comes 65 = .ok (.aload_n 0, 1) := by decide +kernel
theorem dX10_comes_66 : decode cX10_comes 66 = .ok (.getfield 30, 3) := by decide +kernel
theorem dX10_comes_69 : decode cX10_comes 69 = .ok (.getfield 124, 3) := by decide +kernel
theorem dX10_comes_72 : decode cX10_comes 72 = .ok (.aload_n 0, 1) := by decide +kernel
theorem dX10_comes_73 : decode cX10_comes 73 = .ok (.getfield 30, 3) := by decide +kernel
theorem dX10_comes_76 : decode cX10_comes 76 = .ok (.getfield 127, 3) := by decide +kernel
theorem dX10_comes_79 : decode cX10_comes 79 = .ok (.getfield 165, 3) := by decide +kernel
theorem dX10_comes_82 : decode cX10_comes 82 = .ok (.iload_n 1, 1) := by decide +kernel
theorem dX10_comes_83 : decode cX10_comes 83 = .ok (.iload_n 2, 1) := by decide +kernel
theorem dX10_comes_84 : decode cX10_comes 84 = .ok (.iload_n 3, 1) := by decide +kernel
theorem dX10_comes_85 : decode cX10_comes 85 = .ok (.invokevirtual 276, 3) := by decide +kernel
theorem dX10_comes_88 : decode cX10_comes 88 = .ok (.ireturn, 1) := by decide +kernel
theorem dX10_comes_89 : decode cX10_comes 89 = .ok (.iconst (-1), 1) := by decide +kernel
theorem dX10_comes_90 : decode cX10_comes 90 = .ok (.ireturn, 1) := by decide +kernel
theorem dX6_copy_0 : decode cX6_copy 0 = .ok (.aload_n 0, 1) := by decide +kernel
theorem dX6_copy_1 : decode cX6_copy 1 = .ok (.aload_n 1, 1) := by decide +kernel
theorem dX6_copy_2 : decode cX6_copy 2 = .ok (.getfield 9, 3) := by decide +kernel
theorem dX6_copy_5 : decode cX6_copy 5 = .ok (.putfield 9, 3) := by decide +kernel
theorem dX6_copy_8 : decode cX6_copy 8 = .ok (.aload_n 0, 1) := by decide +kernel
theorem dX6_copy_9 : decode cX6_copy 9 = .ok (.aload_n 1, 1) := by decide +kernel
theorem dX6_copy_10 : decode cX6_copy 10 = .ok (.getfield 15, 3) := by decide +kernel
theorem dX6_copy_13 : decode cX6_copy 13 = .ok (.putfield 15, 3) := by decide +kernel
theorem dX6_copy_16 : decode cX6_copy 16 = .ok (.aload_n 0, 1) := by decide +kernel
theorem dX6_copy_17 : decode cX6_copy 17 = .ok (.aload_n 1, 1) := by decide +kernel
theorem dX6_copy_18 : decode cX6_copy 18 = .ok (.getfield 18, 3) := by decide +kernel
theorem dX6_copy_21 : decode cX6_copy 21 = .ok (.putfield 18, 3) := by decide +kernel
theorem dX6_copy_24 : decode cX6_copy 24 = .ok (.aload_n 0, 1) := by decide +kernel
theorem dX6_copy_25 : decode cX6_copy 25 = .ok (.aload_n 1, 1) := by decide +kernel
theorem dX6_copy_26 : decode cX6_copy 26 = .ok (.getfield 21, 3) := by decide +kernel
theorem dX6_copy_29 : decode cX6_copy 29 = .ok (.putfield 21, 3) := by decide +kernel
theorem dX6_copy_32 : decode cX6_copy 32 = .ok (.aload_n 0, 1) := by decide +kernel
theorem dX6_copy_33 : decode cX6_copy 33 = .ok (.aload_n 1, 1) := by decide +kernel
theorem dX6_copy_34 : decode cX6_copy 34 = .ok (.getfield 24, 3) := by decide +kernel
theorem dX6_copy_37 : decode cX6_copy 37 = .ok (.putfield 24, 3) := by decide +kernel
theorem dX6_copy_40 : decode cX6_copy 40 = .ok (.aload_n 0, 1) := by decide +kernel
theorem dX6_copy_41 : decode cX6_copy 41 = .ok (.aload_n 1, 1) := by decide +kernel
theorem dX6_copy_42 : decode cX6_copy 42 = .ok (.getfield 27, 3) := by decide +kernel
theorem dX6_copy_45 : decode cX6_copy 45 = .ok (.putfield 27, 3) := by decide +kernel
theorem dX6_copy_48 : decode cX6_copy 48 = .ok (.aload_n 1, 1) := by decide +kernel
theorem dX6_copy_49 : decode cX6_copy 49 = .ok (.getfield 30, 3) := by decide +kernel
theorem dX6_copy_52 : decode cX6_copy 52 = .ok (.iconst 0, 1) := by decide +kernel
theorem dX6_copy_53 : decode cX6_copy 53 = .ok (.aload_n 0, 1) := by decide +kernel
theorem dX6_copy_54 : decode cX6_copy 54 = .ok (.getfield 30, 3) := by decide +kernel
theorem dX6_copy_57 : decode cX6_copy 57 = .ok (.iconst 0, 1) := by decide +kernel
theorem dX6_copy_58 : decode cX6_copy 58 = .ok (.bipush 8, 2) := by decide +kernel
theorem dX6_copy_60 : decode cX6_copy 60 = .ok (.invokestatic 71, 3) := by decide +kernel
theorem dX6_copy_63 : decode cX6_copy 63 = .ok (.aload_n 1, 1) := by decide +kernel
theorem dX6_copy_64 : decode cX6_copy 64 = .ok (.getfield 34, 3) := by decide +kernel
theorem dX6_copy_67 : decode cX6_copy 67 = .ok (.iconst 0, 1) := by decide +kernel
theorem dX6_copy_68 : decode cX6_copy 68 = .ok (.aload_n 0, 1) := by decide +kernel
theorem dX6_copy_69 : decode cX6_copy 69 = .ok (.getfield 34, 3) := by decide +kernel
theorem dX6_copy_72 : decode cX6_copy 72 = .ok (.iconst 0, 1) := by decide +kernel
theorem dX6_copy_73 : decode cX6_copy 73 = .ok (.bipush 8, 2) := by decide +kernel
theorem dX6_copy_75 : decode cX6_copy 75 = .ok (.invokestatic 71, 3) := by decide +kernel
theorem dX6_copy_78 : decode cX6_copy 78 = .ok (.aload_n 1, 1) := by decide +kernel
theorem dX6_copy_79 : decode cX6_copy 79 = .ok (.getfield 37, 3) := by decide +kernel
theorem dX6_copy_82 : decode cX6_copy 82 = .ok (.iconst 0, 1) := by decide +kernel
theorem dX6_copy_83 : decode cX6_copy 83 = .ok (.aload_n 0, 1) := by decide +kernel
theorem dX6_copy_84 : decode cX6_copy 84 = .ok (.getfield 37, 3) := by decide +kernel
theorem dX6_copy_87 : decode cX6_copy 87 = .ok (.iconst 0, 1) := by decide +kernel
theorem dX6_copy_88 : decode cX6_copy 88 = .ok (.bipush 8, 2) := by decide +kernel
theorem dX6_copy_90 : decode cX6_copy 90 = .ok (.invokestatic 71, 3) := by decide +kernel
theorem dX6_copy_93 : decode cX6_copy 93 = .ok (.aload_n 1, 1) := by decide +kernel
theorem dX6_copy_94 : decode cX6_copy 94 = .ok (.getfield 40, 3) := by decide +kernel
theorem dX6_copy_97 : decode cX6_copy 97 = .ok (.iconst 0, 1) := by decide +kernel
theorem dX6_copy_98 : decode cX6_copy 98 = .ok (.aload_n 0, 1) := by decide +kernel
theorem dX6_copy_99 : decode cX6_copy 99 = .ok (.getfield 40, 3) := by decide +kernel
theorem dX6_copy_102 : decode cX6_copy 102 = .ok (.iconst 0, 1) := by decide +kernel
theorem dX6_copy_103 : decode cX6_copy 103 = .ok (.bipush 8, 2) := by decide +kernel
theorem dX6_copy_105 : decode cX6_copy 105 = .ok (.invokestatic 71, 3) := by decide +kernel
theorem dX6_copy_108 : decode cX6_copy 108 = .ok (.aload_n 1, 1) := by decide +kernel
theorem dX6_copy_109 : decode cX6_copy 109 = .ok (.getfield 43, 3) := by decide +kernel
theorem dX6_copy_112 : decode cX6_copy 112 = .ok (.iconst 0, 1) := by decide +kernel
theorem dX6_copy_113 : decode cX6_copy 113 = .ok (.aload_n 0, 1) := by decide +kernel
theorem dX6_copy_114 : decode cX6_copy 114 = .ok (.getfield 43, 3) := by decide +kernel
theorem dX6_copy_117 : decode cX6_copy 117 = .ok (.iconst 0, 1) := by decide +kernel
theorem dX6_copy_118 : decode cX6_copy 118 = .ok (.bipush 8, 2) := by decide +kernel
theorem dX6_copy_120 : decode cX6_copy 120 = .ok (.invokestatic 71, 3) := by decide +kernel
theorem dX6_copy_123 : decode cX6_copy 123 = .ok (.aload_n 1, 1) := by decide +kernel
theorem dX6_copy_124 : decode cX6_copy 124 = .ok (.getfield 46, 3) := by decide +kernel
theorem dX6_copy_127 : decode cX6_copy 127 = .ok (.iconst 0, 1) := by decide +kernel
theorem dX6_copy_128 : decode cX6_copy 128 = .ok (.aload_n 0, 1) := by decide +kernel
theorem dX6_copy_129 : decode cX6_copy 129 = .ok (.getfield 46, 3) := by decide +kernel
theorem dX6_copy_132 : decode cX6_copy 132 = .ok (.iconst 0, 1) := by decide +kernel
theorem dX6_copy_133 : decode cX6_copy 133 = .ok (.bipush 8, 2) := by decide +kernel
theorem dX6_copy_135 : decode cX6_copy 135 = .ok (.invokestatic 71, 3) := by decide +kernel
theorem dX6_copy_138 : decode cX6_copy 138 = .ok (.aload_n 1, 1) := by decide +kernel
theorem dX6_copy_139 : decode cX6_copy 139 = .ok (.getfield 49, 3) := by decide +kernel
theorem dX6_copy_142 : decode cX6_copy 142 = .ok (.iconst 0, 1) := by decide +kernel
theorem dX6_copy_143 : decode cX6_copy 143 = .ok (.aload_n 0, 1) := by decide +kernel
theorem dX6_copy_144 : decode cX6_copy 144 = .ok (.getfield 49, 3) := by decide +kernel
theorem dX6_copy_147 : decode cX6_copy 147 = .ok (.iconst 0, 1) := by decide +kernel
theorem dX6_copy_148 : decode cX6_copy 148 = .ok (.bipush 8, 2) := by decide +kernel
theorem dX6_copy_150 : decode cX6_copy 150 = .ok (.invokestatic 71, 3) := by decide +kernel
theorem dX6_copy_153 : decode cX6_copy 153 = .ok (.aload_n 1, 1) := by decide +kernel
theorem dX6_copy_154 : decode cX6_copy 154 = .ok (.getfield 52, 3) := by decide +kernel
theorem dX6_copy_157 : decode cX6_copy 157 = .ok (.iconst 0, 1) := by decide +kernel
theorem dX6_copy_158 : decode cX6_copy 158 = .ok (.aload_n 0, 1) := by decide +kernel
theorem dX6_copy_159 : decode cX6_copy 159 = .ok (.getfield 52, 3) := by decide +kernel
theorem dX6_copy_162 : decode cX6_copy 162 = .ok (.iconst 0, 1) := by decide +kernel
theorem dX6_copy_163 : decode cX6_copy 163 = .ok (.bipush 100, 2) := by decide +kernel
theorem dX6_copy_165 : decode cX6_copy 165 = .ok (.invokestatic 71, 3) := by decide +kernel
theorem dX6_copy_168 : decode cX6_copy 168 = .ok (.return_, 1) := by decide +kernel
theorem dX9_turned_0 : decode cX9_turned 0 = .ok (.iload_n 1, 1) := by decide +kernel
theorem dX9_turned_1 : decode cX9_turned 1 = .ok (.iload_n 0, 1) := by decide +kernel
theorem dX9_turned_2 : decode cX9_turned 2 = .ok (.isub, 1) := by decide +kernel
theorem dX9_turned_3 : decode cX9_turned 3 = .ok (.bipush 7, 2) := by decide +kernel
theorem dX9_turned_5 : decode cX9_turned 5 = .ok (.iand, 1) := by decide +kernel
theorem dX9_turned_6 : decode cX9_turned 6 = .ok (.istore_n 3, 1) := by decide +kernel
theorem dX9_turned_7 : decode cX9_turned 7 = .ok (.iload_n 2, 1) := by decide +kernel
theorem dX9_turned_8 : decode cX9_turned 8 = .ok (.ifCond .gt 5, 3) := by decide +kernel
theorem dX9_turned_11 : decode cX9_turned 11 = .ok (.iload_n 0, 1) := by decide +kernel
theorem dX9_turned_12 : decode cX9_turned 12 = .ok (.ireturn, 1) := by decide +kernel
theorem dX9_turned_13 : decode cX9_turned 13 = .ok (.iload_n 3, 1) := by decide +kernel
theorem dX9_turned_14 : decode cX9_turned 14 = .ok (.iconst 4, 1) := by decide +kernel
theorem dX9_turned_15 : decode cX9_turned 15 = .ok (.if_icmp .gt 14, 3) := by decide +kernel
theorem dX9_turned_18 : decode cX9_turned 18 = .ok (.iload_n 0, 1) := by decide +kernel
theorem dX9_turned_19 : decode cX9_turned 19 = .ok (.iload_n 3, 1) := by decide +kernel
theorem dX9_turned_20 : decode cX9_turned 20 = .ok (.iload_n 2, 1) := by decide +kernel
theorem dX9_turned_21 : decode cX9_turned 21 = .ok (.invokestatic 25, 3) := by decide +kernel
theorem dX9_turned_24 : decode cX9_turned 24 = .ok (.iadd, 1) := by decide +kernel
theorem dX9_turned_25 : decode cX9_turned 25 = .ok (.bipush 7, 2) := by decide +kernel
theorem dX9_turned_27 : decode cX9_turned 27 = .ok (.iand, 1) := by decide +kernel
theorem dX9_turned_28 : decode cX9_turned 28 = .ok (.ireturn, 1) := by decide +kernel
theorem dX9_turned_29 : decode cX9_turned 29 = .ok (.iload_n 0, 1) := by decide +kernel
theorem dX9_turned_30 : decode cX9_turned 30 = .ok (.bipush 8, 2) := by decide +kernel
theorem dX9_turned_32 : decode cX9_turned 32 = .ok (.iload_n 3, 1) := by decide +kernel
theorem dX9_turned_33 : decode cX9_turned 33 = .ok (.isub, 1) := by decide +kernel
theorem dX9_turned_34 : decode cX9_turned 34 = .ok (.iload_n 2, 1) := by decide +kernel
theorem dX9_turned_35 : decode cX9_turned 35 = .ok (.invokestatic 25, 3) := by decide +kernel
theorem dX9_turned_38 : decode cX9_turned 38 = .ok (.isub, 1) := by decide +kernel
theorem dX9_turned_39 : decode cX9_turned 39 = .ok (.bipush 7, 2) := by decide +kernel
theorem dX9_turned_41 : decode cX9_turned 41 = .ok (.iand, 1) := by decide +kernel
theorem dX9_turned_42 : decode cX9_turned 42 = .ok (.ireturn, 1) := by decide +kernel
theorem dX9_turnVanes_0 : decode cX9_turnVanes 0 = .ok (.iconst 0, 1) := by decide +kernel
theorem dX9_turnVanes_1 : decode cX9_turnVanes 1 = .ok (.istore 5, 2) := by decide +kernel
theorem dX9_turnVanes_3 : decode cX9_turnVanes 3 = .ok (.iconst 0, 1) := by decide +kernel
theorem dX9_turnVanes_4 : decode cX9_turnVanes 4 = .ok (.istore 6, 2) := by decide +kernel
theorem dX9_turnVanes_6 : decode cX9_turnVanes 6 = .ok (.iload 6, 2) := by decide +kernel
theorem dX9_turnVanes_8 : decode cX9_turnVanes 8 = .ok (.aload_n 1, 1) := by decide +kernel
theorem dX9_turnVanes_9 : decode cX9_turnVanes 9 = .ok (.getfield 31, 3) := by decide +kernel
theorem dX9_turnVanes_12 : decode cX9_turnVanes 12 = .ok (.getfield 37, 3) := by decide +kernel
theorem dX9_turnVanes_15 : decode cX9_turnVanes 15 = .ok (.if_icmp .ge 110, 3) := by decide +kernel
theorem dX9_turnVanes_18 : decode cX9_turnVanes 18 = .ok (.aload_n 1, 1) := by decide +kernel
theorem dX9_turnVanes_19 : decode cX9_turnVanes 19 = .ok (.getfield 31, 3) := by decide +kernel
theorem dX9_turnVanes_22 : decode cX9_turnVanes 22 = .ok (.getfield 42, 3) := by decide +kernel
theorem dX9_turnVanes_25 : decode cX9_turnVanes 25 = .ok (.iload 6, 2) := by decide +kernel
theorem dX9_turnVanes_27 : decode cX9_turnVanes 27 = .ok (.iaload, 1) := by decide +kernel
theorem dX9_turnVanes_28 : decode cX9_turnVanes 28 = .ok (.istore 7, 2) := by decide +kernel
theorem dX9_turnVanes_30 : decode cX9_turnVanes 30 = .ok (.aload_n 1, 1) := by decide +kernel
theorem dX9_turnVanes_31 : decode cX9_turnVanes 31 = .ok (.iload 7, 2) := by decide +kernel
theorem dX9_turnVanes_33 : decode cX9_turnVanes 33 = .ok (.iload_n 3, 1) := by decide +kernel
theorem dX9_turnVanes_34 : decode cX9_turnVanes 34 = .ok (.invokevirtual 45, 3) := by decide +kernel
theorem dX9_turnVanes_37 : decode cX9_turnVanes 37 = .ok (.istore 8, 2) := by decide +kernel
theorem dX9_turnVanes_39 : decode cX9_turnVanes 39 = .ok (.aload_n 1, 1) := by decide +kernel
theorem dX9_turnVanes_40 : decode cX9_turnVanes 40 = .ok (.aload_n 2, 1) := by decide +kernel
theorem dX9_turnVanes_41 : decode cX9_turnVanes 41 = .ok (.getfield 48, 3) := by decide +kernel
theorem dX9_turnVanes_44 : decode cX9_turnVanes 44 = .ok (.iload 7, 2) := by decide +kernel
theorem dX9_turnVanes_46 : decode cX9_turnVanes 46 = .ok (.iload_n 3, 1) := by decide +kernel
theorem dX9_turnVanes_47 : decode cX9_turnVanes 47 = .ok (.iload 4, 2) := by decide +kernel
theorem dX9_turnVanes_49 : decode cX9_turnVanes 49 = .ok (.invokevirtual 53, 3) := by decide +kernel
theorem dX9_turnVanes_52 : decode cX9_turnVanes 52 = .ok (.istore 9, 2) := by decide +kernel
theorem dX9_turnVanes_54 : decode cX9_turnVanes 54 = .ok (.aload_n 2, 1) := by decide +kernel
theorem dX9_turnVanes_55 : decode cX9_turnVanes 55 = .ok (.getfield 57, 3) := by decide +kernel
theorem dX9_turnVanes_58 : decode cX9_turnVanes 58 = .ok (.iload 6, 2) := by decide +kernel
theorem dX9_turnVanes_60 : decode cX9_turnVanes 60 = .ok (.iaload, 1) := by decide +kernel
theorem dX9_turnVanes_61 : decode cX9_turnVanes 61 = .ok (.ifCond .ne 32, 3) := by decide +kernel
theorem dX9_turnVanes_64 : decode cX9_turnVanes 64 = .ok (.aload_n 2, 1) := by decide +kernel
theorem dX9_turnVanes_65 : decode cX9_turnVanes 65 = .ok (.getfield 60, 3) := by decide +kernel
theorem dX9_turnVanes_68 : decode cX9_turnVanes 68 = .ok (.iload 6, 2) := by decide +kernel
theorem dX9_turnVanes_70 : decode cX9_turnVanes 70 = .ok (.aload_n 2, 1) := by decide +kernel
theorem dX9_turnVanes_71 : decode cX9_turnVanes 71 = .ok (.getfield 60, 3) := by decide +kernel
theorem dX9_turnVanes_74 : decode cX9_turnVanes 74 = .ok (.iload 6, 2) := by decide +kernel
theorem dX9_turnVanes_76 : decode cX9_turnVanes 76 = .ok (.iaload, 1) := by decide +kernel
theorem dX9_turnVanes_77 : decode cX9_turnVanes 77 = .ok (.iload 8, 2) := by decide +kernel
theorem dX9_turnVanes_79 : decode cX9_turnVanes 79 = .ok (.iload 9, 2) := by decide +kernel
theorem dX9_turnVanes_81 : decode cX9_turnVanes 81 = .ok (.aload_n 2, 1) := by decide +kernel
theorem dX9_turnVanes_82 : decode cX9_turnVanes 82 = .ok (.getfield 63, 3) := by decide +kernel
theorem dX9_turnVanes_85 : decode cX9_turnVanes 85 = .ok (.iload 6, 2) := by decide +kernel
theorem dX9_turnVanes_87 : decode cX9_turnVanes 87 = .ok (.iaload, 1) := by decide +kernel
theorem dX9_turnVanes_88 : decode cX9_turnVanes 88 = .ok (.isub, 1) := by decide +kernel
theorem dX9_turnVanes_89 : decode cX9_turnVanes 89 = .ok (.invokestatic 66, 3) := by decide +kernel
theorem dX9_turnVanes_92 : decode cX9_turnVanes 92 = .ok (.iastore, 1) := by decide +kernel
theorem dX9_turnVanes_93 : decode cX9_turnVanes 93 = .ok (.iload 9, 2) := by decide +kernel
theorem dX9_turnVanes_95 : decode cX9_turnVanes 95 = .ok (.ifCond .le 24, 3) := by decide +kernel
theorem dX9_turnVanes_98 : decode cX9_turnVanes 98 = .ok (.aload_n 2, 1) := by decide +kernel
theorem dX9_turnVanes_99 : decode cX9_turnVanes 99 = .ok (.getfield 60, 3) := by decide +kernel
theorem dX9_turnVanes_102 : decode cX9_turnVanes 102 = .ok (.iload 6, 2) := by decide +kernel
theorem dX9_turnVanes_104 : decode cX9_turnVanes 104 = .ok (.iaload, 1) := by decide +kernel
theorem dX9_turnVanes_105 : decode cX9_turnVanes 105 = .ok (.iload 8, 2) := by decide +kernel
theorem dX9_turnVanes_107 : decode cX9_turnVanes 107 = .ok (.if_icmp .ne 12, 3) := by decide +kernel
theorem dX9_turnVanes_110 : decode cX9_turnVanes 110 = .ok (.iload 5, 2) := by decide +kernel
theorem dX9_turnVanes_112 : decode cX9_turnVanes 112 = .ok (.iconst 1, 1) := by decide +kernel
theorem dX9_turnVanes_113 : decode cX9_turnVanes 113 = .ok (.iload 6, 2) := by decide +kernel
theorem dX9_turnVanes_115 : decode cX9_turnVanes 115 = .ok (.ishl, 1) := by decide +kernel
theorem dX9_turnVanes_116 : decode cX9_turnVanes 116 = .ok (.ior, 1) := by decide +kernel
theorem dX9_turnVanes_117 : decode cX9_turnVanes 117 = .ok (.istore 5, 2) := by decide +kernel
theorem dX9_turnVanes_119 : decode cX9_turnVanes 119 = .ok (.iinc 6 1, 3) := by decide +kernel
theorem dX9_turnVanes_122 : decode cX9_turnVanes 122 = .ok (.goto (-116), 3) := by decide +kernel
theorem dX9_turnVanes_125 : decode cX9_turnVanes 125 = .ok (.iload 5, 2) := by decide +kernel
theorem dX9_turnVanes_127 : decode cX9_turnVanes 127 = .ok (.ireturn, 1) := by decide +kernel
theorem dX10_faces_0 : decode cX10_faces 0 = .ok (.iload_n 1, 1) := by decide +kernel
theorem dX10_faces_1 : decode cX10_faces 1 = .ok (.iload_n 2, 1) := by decide +kernel
theorem dX10_faces_2 : decode cX10_faces 2 = .ok (.invokestatic 268, 3) := by decide +kernel
theorem dX10_faces_5 : decode cX10_faces 5 = .ok (.ifCond .ne 5, 3) := by decide +kernel
theorem dX10_faces_8 : decode cX10_faces 8 = .ok (.iconst (-1), 1) := by decide +kernel
theorem dX10_faces_9 : decode cX10_faces 9 = .ok (.ireturn, 1) := by decide +kernel
theorem dX10_faces_10 : decode cX10_faces 10 = .ok (.aload_n 0, 1) := by decide +kernel
theorem dX10_faces_11 : decode cX10_faces 11 = .ok (.getfield 83, 3) := by decide +kernel
theorem dX10_faces_14 : decode cX10_faces 14 = .ok (.aload_n 0, 1) := by decide +kernel
theorem dX10_faces_15 : decode cX10_faces 15 = .ok (.getfield 30, 3) := by decide +kernel
theorem dX10_faces_18 : decode cX10_faces 18 = .ok (.getfield 127, 3) := by decide +kernel
theorem dX10_faces_21 : decode cX10_faces 21 = .ok (.invokevirtual 280, 3) := by decide +kernel
theorem dX10_faces_24 : decode cX10_faces 24 = .ok (.aload_n 0, 1) := by decide +kernel
theorem dX10_faces_25 : decode cX10_faces 25 = .ok (.getfield 69, 3) := by decide +kernel
theorem dX10_faces_28 : decode cX10_faces 28 = .ok (.aload_n 0, 1) := by decide +kernel
theorem dX10_faces_29 : decode cX10_faces 29 = .ok (.getfield 30, 3) := by decide +kernel
theorem dX10_faces_32 : decode cX10_faces 32 = .ok (.getfield 124, 3) := by decide +kernel
theorem dX10_faces_35 : decode cX10_faces 35 = .ok (.aload_n 0, 1) := by decide +kernel
theorem dX10_faces_36 : decode cX10_faces 36 = .ok (.getfield 83, 3) := by decide +kernel
theorem dX10_faces_39 : decode cX10_faces 39 = .ok (.iload_n 1, 1) := by decide +kernel
theorem dX10_faces_40 : decode cX10_faces 40 = .ok (.iload_n 2, 1) := by decide +kernel
theorem dX10_faces_41 : decode cX10_faces 41 = .ok (.invokevirtual 284, 3) := by decide +kernel
theorem dX10_faces_44 : decode cX10_faces 44 = .ok (.ireturn, 1) := by decide +kernel
theorem dX9_giveToGreatestRest_0 : decode cX9_giveToGreatestRest 0 = .ok (.iconst 0, 1) := by decide +kernel
theorem dX9_giveToGreatestRest_1 : decode cX9_giveToGreatestRest 1 = .ok (.istore_n 2, 1) := by decide +kernel
theorem dX9_giveToGreatestRest_2 : decode cX9_giveToGreatestRest 2 = .ok (.iconst 1, 1) := by decide +kernel
theorem dX9_giveToGreatestRest_3 : decode cX9_giveToGreatestRest 3 = .ok (.istore_n 3, 1) := by decide +kernel
theorem dX9_giveToGreatestRest_4 : decode cX9_giveToGreatestRest 4 = .ok (.iload_n 3, 1) := by decide +kernel
theorem dX9_giveToGreatestRest_5 : decode cX9_giveToGreatestRest 5 = .ok (.iload_n 1, 1) := by decide +kernel
theorem dX9_giveToGreatestRest_6 : decode cX9_giveToGreatestRest 6 = .ok (.if_icmp .ge 26, 3) := by decide +kernel
theorem dX9_giveToGreatestRest_9 : decode cX9_giveToGreatestRest 9 = .ok (.aload_n 0, 1) := by decide +kernel
theorem dX9_giveToGreatestRest_10 : decode cX9_giveToGreatestRest 10 = .ok (.getfield 15, 3) := by decide +kernel
theorem dX9_giveToGreatestRest_13 : decode cX9_giveToGreatestRest 13 = .ok (.iload_n 3, 1) := by decide +kernel
theorem dX9_giveToGreatestRest_14 : decode cX9_giveToGreatestRest 14 = .ok (.iaload, 1) := by decide +kernel
theorem dX9_giveToGreatestRest_15 : decode cX9_giveToGreatestRest 15 = .ok (.aload_n 0, 1) := by decide +kernel
theorem dX9_giveToGreatestRest_16 : decode cX9_giveToGreatestRest 16 = .ok (.getfield 15, 3) := by decide +kernel
theorem dX9_giveToGreatestRest_19 : decode cX9_giveToGreatestRest 19 = .ok (.iload_n 2, 1) := by decide +kernel
theorem dX9_giveToGreatestRest_20 : decode cX9_giveToGreatestRest 20 = .ok (.iaload, 1) := by decide +kernel
theorem dX9_giveToGreatestRest_21 : decode cX9_giveToGreatestRest 21 = .ok (.if_icmp .le 5, 3) := by decide +kernel
theorem dX9_giveToGreatestRest_24 : decode cX9_giveToGreatestRest 24 = .ok (.iload_n 3, 1) := by decide +kernel
theorem dX9_giveToGreatestRest_25 : decode cX9_giveToGreatestRest 25 = .ok (.istore_n 2, 1) := by decide +kernel
theorem dX9_giveToGreatestRest_26 : decode cX9_giveToGreatestRest 26 = .ok (.iinc 3 1, 3) := by decide +kernel
theorem dX9_giveToGreatestRest_29 : decode cX9_giveToGreatestRest 29 = .ok (.goto (-25), 3) := by decide +kernel
theorem dX9_giveToGreatestRest_32 : decode cX9_giveToGreatestRest 32 = .ok (.aload_n 0, 1) := by decide +kernel
theorem dX9_giveToGreatestRest_33 : decode cX9_giveToGreatestRest 33 = .ok (.getfield 9, 3) := by decide +kernel
theorem dX9_giveToGreatestRest_36 : decode cX9_giveToGreatestRest 36 = .ok (.iload_n 2, 1) := by decide +kernel
theorem dX9_giveToGreatestRest_37 : decode cX9_giveToGreatestRest 37 = .ok (.dup2, 1) := by decide +kernel
theorem dX9_giveToGreatestRest_38 : decode cX9_giveToGreatestRest 38 = .ok (.iaload, 1) := by decide +kernel
theorem dX9_giveToGreatestRest_39 : decode cX9_giveToGreatestRest 39 = .ok (.iconst 1, 1) := by decide +kernel
theorem dX9_giveToGreatestRest_40 : decode cX9_giveToGreatestRest 40 = .ok (.iadd, 1) := by decide +kernel
theorem dX9_giveToGreatestRest_41 : decode cX9_giveToGreatestRest 41 = .ok (.iastore, 1) := by decide +kernel
theorem dX9_giveToGreatestRest_42 : decode cX9_giveToGreatestRest 42 = .ok (.aload_n 0, 1) := by decide +kernel
theorem dX9_giveToGreatestRest_43 : decode cX9_giveToGreatestRest 43 = .ok (.getfield 15, 3) := by decide +kernel
theorem dX9_giveToGreatestRest_46 : decode cX9_giveToGreatestRest 46 = .ok (.iload_n 2, 1) := by decide +kernel
theorem dX9_giveToGreatestRest_47 : decode cX9_giveToGreatestRest 47 = .ok (.iconst (-1), 1) := by decide +kernel
theorem dX9_giveToGreatestRest_48 : decode cX9_giveToGreatestRest 48 = .ok (.iastore, 1) := by decide +kernel
theorem dX9_giveToGreatestRest_49 : decode cX9_giveToGreatestRest 49 = .ok (.return_, 1) := by decide +kernel
theorem dX9_share_0 : decode cX9_share 0 = .ok (.iconst 0, 1) := by decide +kernel
theorem dX9_share_1 : decode cX9_share 1 = .ok (.istore 4, 2) := by decide +kernel
theorem dX9_share_3 : decode cX9_share 3 = .ok (.iconst 0, 1) := by decide +kernel
theorem dX9_share_4 : decode cX9_share 4 = .ok (.istore 5, 2) := by decide +kernel
theorem dX9_share_6 : decode cX9_share 6 = .ok (.iload 5, 2) := by decide +kernel
theorem dX9_share_8 : decode cX9_share 8 = .ok (.aload_n 1, 1) := by decide +kernel
theorem dX9_share_9 : decode cX9_share 9 = .ok (.getfield 37, 3) := by decide +kernel
theorem dX9_share_12 : decode cX9_share 12 = .ok (.if_icmp .ge 28, 3) := by decide +kernel
theorem dX9_share_15 : decode cX9_share 15 = .ok (.iload 4, 2) := by decide +kernel
theorem dX9_share_17 : decode cX9_share 17 = .ok (.iload_n 2, 1) := by decide +kernel
theorem dX9_share_18 : decode cX9_share 18 = .ok (.iload 5, 2) := by decide +kernel
theorem dX9_share_20 : decode cX9_share 20 = .ok (.ishr, 1) := by decide +kernel
theorem dX9_share_21 : decode cX9_share 21 = .ok (.iconst 1, 1) := by decide +kernel
theorem dX9_share_22 : decode cX9_share 22 = .ok (.iand, 1) := by decide +kernel
theorem dX9_share_23 : decode cX9_share 23 = .ok (.aload_n 1, 1) := by decide +kernel
theorem dX9_share_24 : decode cX9_share 24 = .ok (.getfield 97, 3) := by decide +kernel
theorem dX9_share_27 : decode cX9_share 27 = .ok (.iload 5, 2) := by decide +kernel
theorem dX9_share_29 : decode cX9_share 29 = .ok (.iaload, 1) := by decide +kernel
theorem dX9_share_30 : decode cX9_share 30 = .ok (.imul, 1) := by decide +kernel
theorem dX9_share_31 : decode cX9_share 31 = .ok (.iadd, 1) := by decide +kernel
theorem dX9_share_32 : decode cX9_share 32 = .ok (.istore 4, 2) := by decide +kernel
theorem dX9_share_34 : decode cX9_share 34 = .ok (.iinc 5 1, 3) := by decide +kernel
theorem dX9_share_37 : decode cX9_share 37 = .ok (.goto (-31), 3) := by decide +kernel
theorem dX9_share_40 : decode cX9_share 40 = .ok (.iload_n 3, 1) := by decide +kernel
theorem dX9_share_41 : decode cX9_share 41 = .ok (.istore 5, 2) := by decide +kernel
theorem dX9_share_43 : decode cX9_share 43 = .ok (.iconst 0, 1) := by decide +kernel
theorem dX9_share_44 : decode cX9_share 44 = .ok (.istore 6, 2) := by decide +kernel
theorem dX9_share_46 : decode cX9_share 46 = .ok (.iload 6, 2) := by decide +kernel
theorem dX9_share_48 : decode cX9_share 48 = .ok (.aload_n 1, 1) := by decide +kernel
theorem dX9_share_49 : decode cX9_share 49 = .ok (.getfield 37, 3) := by decide +kernel
theorem dX9_share_52 : decode cX9_share 52 = .ok (.if_icmp .ge 90, 3) := by decide +kernel
theorem dX9_share_55 : decode cX9_share 55 = .ok (.aload_n 0, 1) := by decide +kernel
theorem dX9_share_56 : decode cX9_share 56 = .ok (.getfield 9, 3) := by decide +kernel
theorem dX9_share_59 : decode cX9_share 59 = .ok (.iload 6, 2) := by decide +kernel
theorem dX9_share_61 : decode cX9_share 61 = .ok (.iconst 0, 1) := by decide +kernel
theorem dX9_share_62 : decode cX9_share 62 = .ok (.iastore, 1) := by decide +kernel
theorem dX9_share_63 : decode cX9_share 63 = .ok (.aload_n 0, 1) := by decide +kernel
theorem dX9_share_64 : decode cX9_share 64 = .ok (.getfield 15, 3) := by decide +kernel
theorem dX9_share_67 : decode cX9_share 67 = .ok (.iload 6, 2) := by decide +kernel
theorem dX9_share_69 : decode cX9_share 69 = .ok (.iconst (-1), 1) := by decide +kernel
theorem dX9_share_70 : decode cX9_share 70 = .ok (.iastore, 1) := by decide +kernel
theorem dX9_share_71 : decode cX9_share 71 = .ok (.iload_n 2, 1) := by decide +kernel
theorem dX9_share_72 : decode cX9_share 72 = .ok (.iload 6, 2) := by decide +kernel
theorem dX9_share_74 : decode cX9_share 74 = .ok (.ishr, 1) := by decide +kernel
theorem dX9_share_75 : decode cX9_share 75 = .ok (.iconst 1, 1) := by decide +kernel
theorem dX9_share_76 : decode cX9_share 76 = .ok (.iand, 1) := by decide +kernel
theorem dX9_share_77 : decode cX9_share 77 = .ok (.iconst 1, 1) := by decide +kernel
theorem dX9_share_78 : decode cX9_share 78 = .ok (.if_icmp .ne 58, 3) := by decide +kernel
theorem dX9_share_81 : decode cX9_share 81 = .ok (.iload 4, 2) := by decide +kernel
theorem dX9_share_83 : decode cX9_share 83 = .ok (.ifCond .le 53, 3) := by decide +kernel
theorem dX9_share_86 : decode cX9_share 86 = .ok (.aload_n 0, 1) := by decide +kernel
theorem dX9_share_87 : decode cX9_share 87 = .ok (.getfield 9, 3) := by decide +kernel
theorem dX9_share_90 : decode cX9_share 90 = .ok (.iload 6, 2) := by decide +kernel
theorem dX9_share_92 : decode cX9_share 92 = .ok (.iload_n 3, 1) := by decide +kernel
theorem dX9_share_93 : decode cX9_share 93 = .ok (.aload_n 1, 1) := by decide +kernel
theorem dX9_share_94 : decode cX9_share 94 = .ok (.getfield 97, 3) := by decide +kernel
theorem dX9_share_97 : decode cX9_share 97 = .ok (.iload 6, 2) := by decide +kernel
theorem dX9_share_99 : decode cX9_share 99 = .ok (.iaload, 1) := by decide +kernel
theorem dX9_share_100 : decode cX9_share 100 = .ok (.imul, 1) := by decide +kernel
theorem dX9_share_101 : decode cX9_share 101 = .ok (.iload 4, 2) := by decide +kernel
theorem dX9_share_103 : decode cX9_share 103 = .ok (.idiv, 1) := by decide +kernel
theorem dX9_share_104 : decode cX9_share 104 = .ok (.iastore, 1) := by decide +kernel
theorem dX9_share_105 : decode cX9_share 105 = .ok (.aload_n 0, 1) := by decide +kernel
theorem dX9_share_106 : decode cX9_share 106 = .ok (.getfield 15, 3) := by decide +kernel
theorem dX9_share_109 : decode cX9_share 109 = .ok (.iload 6, 2) := by decide +kernel
theorem dX9_share_111 : decode cX9_share 111 = .ok (.iload_n 3, 1) := by decide +kernel
theorem dX9_share_112 : decode cX9_share 112 = .ok (.aload_n 1, 1) := by decide +kernel
theorem dX9_share_113 : decode cX9_share 113 = .ok (.getfield 97, 3) := by decide +kernel
theorem dX9_share_116 : decode cX9_share 116 = .ok (.iload 6, 2) := by decide +kernel
theorem dX9_share_118 : decode cX9_share 118 = .ok (.iaload, 1) := by decide +kernel
theorem dX9_share_119 : decode cX9_share 119 = .ok (.imul, 1) := by decide +kernel
theorem dX9_share_120 : decode cX9_share 120 = .ok (.iload 4, 2) := by decide +kernel
theorem dX9_share_122 : decode cX9_share 122 = .ok (.irem, 1) := by decide +kernel
theorem dX9_share_123 : decode cX9_share 123 = .ok (.iastore, 1) := by decide +kernel
theorem dX9_share_124 : decode cX9_share 124 = .ok (.iload 5, 2) := by decide +kernel
theorem dX9_share_126 : decode cX9_share 126 = .ok (.aload_n 0, 1) := by decide +kernel
theorem dX9_share_127 : decode cX9_share 127 = .ok (.getfield 9, 3) := by decide +kernel
theorem dX9_share_130 : decode cX9_share 130 = .ok (.iload 6, 2) := by decide +kernel
theorem dX9_share_132 : decode cX9_share 132 = .ok (.iaload, 1) := by decide +kernel
theorem dX9_share_133 : decode cX9_share 133 = .ok (.isub, 1) := by decide +kernel
theorem dX9_share_134 : decode cX9_share 134 = .ok (.istore 5, 2) := by decide +kernel
theorem dX9_share_136 : decode cX9_share 136 = .ok (.iinc 6 1, 3) := by decide +kernel
theorem dX9_share_139 : decode cX9_share 139 = .ok (.goto (-93), 3) := by decide +kernel
theorem dX9_share_142 : decode cX9_share 142 = .ok (.iconst 0, 1) := by decide +kernel
theorem dX9_share_143 : decode cX9_share 143 = .ok (.istore 6, 2) := by decide +kernel
theorem dX9_share_145 : decode cX9_share 145 = .ok (.iload 6, 2) := by decide +kernel
theorem dX9_share_147 : decode cX9_share 147 = .ok (.iload 5, 2) := by decide +kernel
theorem dX9_share_149 : decode cX9_share 149 = .ok (.if_icmp .ge 17, 3) := by decide +kernel
theorem dX9_share_152 : decode cX9_share 152 = .ok (.aload_n 0, 1) := by decide +kernel
theorem dX9_share_153 : decode cX9_share 153 = .ok (.aload_n 1, 1) := by decide +kernel
theorem dX9_share_154 : decode cX9_share 154 = .ok (.getfield 37, 3) := by decide +kernel
theorem dX9_share_157 : decode cX9_share 157 = .ok (.invokevirtual 99, 3) := by decide +kernel
theorem dX9_share_160 : decode cX9_share 160 = .ok (.iinc 6 1, 3) := by decide +kernel
theorem dX9_share_163 : decode cX9_share 163 = .ok (.goto (-18), 3) := by decide +kernel
theorem dX9_share_166 : decode cX9_share 166 = .ok (.return_, 1) := by decide +kernel
theorem dX9_payPacts_0 : decode cX9_payPacts 0 = .ok (.iconst 0, 1) := by decide +kernel
theorem dX9_payPacts_1 : decode cX9_payPacts 1 = .ok (.istore_n 2, 1) := by decide +kernel
theorem dX9_payPacts_2 : decode cX9_payPacts 2 = .ok (.iload_n 2, 1) := by decide +kernel
theorem dX9_payPacts_3 : decode cX9_payPacts 3 = .ok (.aload_n 1, 1) := by decide +kernel
theorem dX9_payPacts_4 : decode cX9_payPacts 4 = .ok (.getfield 37, 3) := by decide +kernel
theorem dX9_payPacts_7 : decode cX9_payPacts 7 = .ok (.if_icmp .ge 21, 3) := by decide +kernel
theorem dX9_payPacts_10 : decode cX9_payPacts 10 = .ok (.aload_n 0, 1) := by decide +kernel
theorem dX9_payPacts_11 : decode cX9_payPacts 11 = .ok (.getfield 18, 3) := by decide +kernel
theorem dX9_payPacts_14 : decode cX9_payPacts 14 = .ok (.iload_n 2, 1) := by decide +kernel
theorem dX9_payPacts_15 : decode cX9_payPacts 15 = .ok (.aload_n 0, 1) := by decide +kernel
theorem dX9_payPacts_16 : decode cX9_payPacts 16 = .ok (.getfield 9, 3) := by decide +kernel
theorem dX9_payPacts_19 : decode cX9_payPacts 19 = .ok (.iload_n 2, 1) := by decide +kernel
theorem dX9_payPacts_20 : decode cX9_payPacts 20 = .ok (.iaload, 1) := by decide +kernel
theorem dX9_payPacts_21 : decode cX9_payPacts 21 = .ok (.iastore, 1) := by decide +kernel
theorem dX9_payPacts_22 : decode cX9_payPacts 22 = .ok (.iinc 2 1, 3) := by decide +kernel
theorem dX9_payPacts_25 : decode cX9_payPacts 25 = .ok (.goto (-23), 3) := by decide +kernel
theorem dX9_payPacts_28 : decode cX9_payPacts 28 = .ok (.iconst 0, 1) := by decide +kernel
theorem dX9_payPacts_29 : decode cX9_payPacts 29 = .ok (.istore_n 2, 1) := by decide +kernel
theorem dX9_payPacts_30 : decode cX9_payPacts 30 = .ok (.iload_n 2, 1) := by decide +kernel
theorem dX9_payPacts_31 : decode cX9_payPacts 31 = .ok (.aload_n 1, 1) := by decide +kernel
theorem dX9_payPacts_32 : decode cX9_payPacts 32 = .ok (.getfield 37, 3) := by decide +kernel
theorem dX9_payPacts_35 : decode cX9_payPacts 35 = .ok (.if_icmp .ge 62, 3) := by decide +kernel
theorem dX9_payPacts_38 : decode cX9_payPacts 38 = .ok (.aload_n 1, 1) := by decide +kernel
theorem dX9_payPacts_39 : decode cX9_payPacts 39 = .ok (.getfield 103, 3) := by decide +kernel
theorem dX9_payPacts_42 : decode cX9_payPacts 42 = .ok (.iload_n 2, 1) := by decide +kernel
theorem dX9_payPacts_43 : decode cX9_payPacts 43 = .ok (.iaload, 1) := by decide +kernel
theorem dX9_payPacts_44 : decode cX9_payPacts 44 = .ok (.istore_n 3, 1) := by decide +kernel
theorem dX9_payPacts_45 : decode cX9_payPacts 45 = .ok (.iload_n 3, 1) := by decide +kernel
theorem dX9_payPacts_46 : decode cX9_payPacts 46 = .ok (.ifCond .lt 45, 3) := by decide +kernel
theorem dX9_payPacts_49 : decode cX9_payPacts 49 = .ok (.iload_n 3, 1) := by decide +kernel
theorem dX9_payPacts_50 : decode cX9_payPacts 50 = .ok (.aload_n 1, 1) := by decide +kernel
theorem dX9_payPacts_51 : decode cX9_payPacts 51 = .ok (.getfield 37, 3) := by decide +kernel
theorem dX9_payPacts_54 : decode cX9_payPacts 54 = .ok (.if_icmp .ge 37, 3) := by decide +kernel
theorem dX9_payPacts_57 : decode cX9_payPacts 57 = .ok (.aload_n 0, 1) := by decide +kernel
theorem dX9_payPacts_58 : decode cX9_payPacts 58 = .ok (.getfield 18, 3) := by decide +kernel
theorem dX9_payPacts_61 : decode cX9_payPacts 61 = .ok (.iload_n 2, 1) := by decide +kernel
theorem dX9_payPacts_62 : decode cX9_payPacts 62 = .ok (.dup2, 1) := by decide +kernel
theorem dX9_payPacts_63 : decode cX9_payPacts 63 = .ok (.iaload, 1) := by decide +kernel
theorem dX9_payPacts_64 : decode cX9_payPacts 64 = .ok (.aload_n 0, 1) := by decide +kernel
theorem dX9_payPacts_65 : decode cX9_payPacts 65 = .ok (.getfield 9, 3) := by decide +kernel
theorem dX9_payPacts_68 : decode cX9_payPacts 68 = .ok (.iload_n 2, 1) := by decide +kernel
theorem dX9_payPacts_69 : decode cX9_payPacts 69 = .ok (.iaload, 1) := by decide +kernel
theorem dX9_payPacts_70 : decode cX9_payPacts 70 = .ok (.iconst 3, 1) := by decide +kernel
theorem dX9_payPacts_71 : decode cX9_payPacts 71 = .ok (.idiv, 1) := by decide +kernel
theorem dX9_payPacts_72 : decode cX9_payPacts 72 = .ok (.isub, 1) := by decide +kernel
theorem dX9_payPacts_73 : decode cX9_payPacts 73 = .ok (.iastore, 1) := by decide +kernel
theorem dX9_payPacts_74 : decode cX9_payPacts 74 = .ok (.aload_n 0, 1) := by decide +kernel
theorem dX9_payPacts_75 : decode cX9_payPacts 75 = .ok (.getfield 18, 3) := by decide +kernel
theorem dX9_payPacts_78 : decode cX9_payPacts 78 = .ok (.iload_n 3, 1) := by decide +kernel
theorem dX9_payPacts_79 : decode cX9_payPacts 79 = .ok (.dup2, 1) := by decide +kernel
theorem dX9_payPacts_80 : decode cX9_payPacts 80 = .ok (.iaload, 1) := by decide +kernel
theorem dX9_payPacts_81 : decode cX9_payPacts 81 = .ok (.aload_n 0, 1) := by decide +kernel
theorem dX9_payPacts_82 : decode cX9_payPacts 82 = .ok (.getfield 9, 3) := by decide +kernel
theorem dX9_payPacts_85 : decode cX9_payPacts 85 = .ok (.iload_n 2, 1) := by decide +kernel
theorem dX9_payPacts_86 : decode cX9_payPacts 86 = .ok (.iaload, 1) := by decide +kernel
theorem dX9_payPacts_87 : decode cX9_payPacts 87 = .ok (.iconst 3, 1) := by decide +kernel
theorem dX9_payPacts_88 : decode cX9_payPacts 88 = .ok (.idiv, 1) := by decide +kernel
theorem dX9_payPacts_89 : decode cX9_payPacts 89 = .ok (.iadd, 1) := by decide +kernel
theorem dX9_payPacts_90 : decode cX9_payPacts 90 = .ok (.iastore, 1) := by decide +kernel
theorem dX9_payPacts_91 : decode cX9_payPacts 91 = .ok (.iinc 2 1, 3) := by decide +kernel
theorem dX9_payPacts_94 : decode cX9_payPacts 94 = .ok (.goto (-64), 3) := by decide +kernel
theorem dX9_payPacts_97 : decode cX9_payPacts 97 = .ok (.return_, 1) := by decide +kernel
theorem dX9_gale_0 : decode cX9_gale 0 = .ok (.aload_n 0, 1) := by decide +kernel
theorem dX9_gale_1 : decode cX9_gale 1 = .ok (.aload_n 1, 1) := by decide +kernel
theorem dX9_gale_2 : decode cX9_gale 2 = .ok (.aload_n 2, 1) := by decide +kernel
theorem dX9_gale_3 : decode cX9_gale 3 = .ok (.iload_n 3, 1) := by decide +kernel
theorem dX9_gale_4 : decode cX9_gale 4 = .ok (.iload 4, 2) := by decide +kernel
theorem dX9_gale_6 : decode cX9_gale 6 = .ok (.invokevirtual 70, 3) := by decide +kernel
theorem dX9_gale_9 : decode cX9_gale 9 = .ok (.istore 5, 2) := by decide +kernel
theorem dX9_gale_11 : decode cX9_gale 11 = .ok (.aload_n 2, 1) := by decide +kernel
theorem dX9_gale_12 : decode cX9_gale 12 = .ok (.iload_n 3, 1) := by decide +kernel
theorem dX9_gale_13 : decode cX9_gale 13 = .ok (.putfield 74, 3) := by decide +kernel
theorem dX9_gale_16 : decode cX9_gale 16 = .ok (.iconst 0, 1) := by decide +kernel
theorem dX9_gale_17 : decode cX9_gale 17 = .ok (.istore 6, 2) := by decide +kernel
theorem dX9_gale_19 : decode cX9_gale 19 = .ok (.iconst 0, 1) := by decide +kernel
theorem dX9_gale_20 : decode cX9_gale 20 = .ok (.istore 7, 2) := by decide +kernel
theorem dX9_gale_22 : decode cX9_gale 22 = .ok (.iload 7, 2) := by decide +kernel
theorem dX9_gale_24 : decode cX9_gale 24 = .ok (.aload_n 1, 1) := by decide +kernel
theorem dX9_gale_25 : decode cX9_gale 25 = .ok (.getfield 31, 3) := by decide +kernel
theorem dX9_gale_28 : decode cX9_gale 28 = .ok (.getfield 37, 3) := by decide +kernel
theorem dX9_gale_31 : decode cX9_gale 31 = .ok (.if_icmp .ge 64, 3) := by decide +kernel
theorem dX9_gale_34 : decode cX9_gale 34 = .ok (.iload 5, 2) := by decide +kernel
theorem dX9_gale_36 : decode cX9_gale 36 = .ok (.iload 7, 2) := by decide +kernel
theorem dX9_gale_38 : decode cX9_gale 38 = .ok (.ishr, 1) := by decide +kernel
theorem dX9_gale_39 : decode cX9_gale 39 = .ok (.iconst 1, 1) := by decide +kernel
theorem dX9_gale_40 : decode cX9_gale 40 = .ok (.iand, 1) := by decide +kernel
theorem dX9_gale_41 : decode cX9_gale 41 = .ok (.ifCond .ne 48, 3) := by decide +kernel
theorem dX9_gale_44 : decode cX9_gale 44 = .ok (.iload 4, 2) := by decide +kernel
theorem dX9_gale_46 : decode cX9_gale 46 = .ok (.aload_n 2, 1) := by decide +kernel
theorem dX9_gale_47 : decode cX9_gale 47 = .ok (.getfield 77, 3) := by decide +kernel
theorem dX9_gale_50 : decode cX9_gale 50 = .ok (.iload 7, 2) := by decide +kernel
theorem dX9_gale_52 : decode cX9_gale 52 = .ok (.iaload, 1) := by decide +kernel
theorem dX9_gale_53 : decode cX9_gale 53 = .ok (.invokestatic 25, 3) := by decide +kernel
theorem dX9_gale_56 : decode cX9_gale 56 = .ok (.istore 8, 2) := by decide +kernel
theorem dX9_gale_58 : decode cX9_gale 58 = .ok (.aload_n 2, 1) := by decide +kernel
theorem dX9_gale_59 : decode cX9_gale 59 = .ok (.getfield 77, 3) := by decide +kernel
theorem dX9_gale_62 : decode cX9_gale 62 = .ok (.iload 7, 2) := by decide +kernel
theorem dX9_gale_64 : decode cX9_gale 64 = .ok (.dup2, 1) := by decide +kernel
theorem dX9_gale_65 : decode cX9_gale 65 = .ok (.iaload, 1) := by decide +kernel
theorem dX9_gale_66 : decode cX9_gale 66 = .ok (.iload 8, 2) := by decide +kernel
theorem dX9_gale_68 : decode cX9_gale 68 = .ok (.isub, 1) := by decide +kernel
theorem dX9_gale_69 : decode cX9_gale 69 = .ok (.iastore, 1) := by decide +kernel
theorem dX9_gale_70 : decode cX9_gale 70 = .ok (.aload_n 2, 1) := by decide +kernel
theorem dX9_gale_71 : decode cX9_gale 71 = .ok (.getfield 80, 3) := by decide +kernel
theorem dX9_gale_74 : decode cX9_gale 74 = .ok (.iload 7, 2) := by decide +kernel
theorem dX9_gale_76 : decode cX9_gale 76 = .ok (.dup2, 1) := by decide +kernel
theorem dX9_gale_77 : decode cX9_gale 77 = .ok (.iaload, 1) := by decide +kernel
theorem dX9_gale_78 : decode cX9_gale 78 = .ok (.iload 8, 2) := by decide +kernel
theorem dX9_gale_80 : decode cX9_gale 80 = .ok (.iadd, 1) := by decide +kernel
theorem dX9_gale_81 : decode cX9_gale 81 = .ok (.iastore, 1) := by decide +kernel
theorem dX9_gale_82 : decode cX9_gale 82 = .ok (.iload 6, 2) := by decide +kernel
theorem dX9_gale_84 : decode cX9_gale 84 = .ok (.iload 8, 2) := by decide +kernel
theorem dX9_gale_86 : decode cX9_gale 86 = .ok (.iadd, 1) := by decide +kernel
theorem dX9_gale_87 : decode cX9_gale 87 = .ok (.istore 6, 2) := by decide +kernel
theorem dX9_gale_89 : decode cX9_gale 89 = .ok (.iinc 7 1, 3) := by decide +kernel
theorem dX9_gale_92 : decode cX9_gale 92 = .ok (.goto (-70), 3) := by decide +kernel
theorem dX9_gale_95 : decode cX9_gale 95 = .ok (.iload 5, 2) := by decide +kernel
theorem dX9_gale_97 : decode cX9_gale 97 = .ok (.ifCond .ne 17, 3) := by decide +kernel
theorem dX9_gale_100 : decode cX9_gale 100 = .ok (.aload_n 2, 1) := by decide +kernel
theorem dX9_gale_101 : decode cX9_gale 101 = .ok (.dup, 1) := by decide +kernel
theorem dX9_gale_102 : decode cX9_gale 102 = .ok (.getfield 83, 3) := by decide +kernel
theorem dX9_gale_105 : decode cX9_gale 105 = .ok (.iload 6, 2) := by decide +kernel
theorem dX9_gale_107 : decode cX9_gale 107 = .ok (.iadd, 1) := by decide +kernel
theorem dX9_gale_108 : decode cX9_gale 108 = .ok (.putfield 83, 3) := by decide +kernel
theorem dX9_gale_111 : decode cX9_gale 111 = .ok (.goto 78, 3) := by decide +kernel
theorem dX9_gale_114 : decode cX9_gale 114 = .ok (.aload_n 0, 1) := by decide +kernel
theorem dX9_gale_115 : decode cX9_gale 115 = .ok (.aload_n 1, 1) := by decide +kernel
theorem dX9_gale_116 : decode cX9_gale 116 = .ok (.getfield 31, 3) := by decide +kernel
theorem dX9_gale_119 : decode cX9_gale 119 = .ok (.iload 5, 2) := by decide +kernel
theorem dX9_gale_121 : decode cX9_gale 121 = .ok (.iload 6, 2) := by decide +kernel
theorem dX9_gale_123 : decode cX9_gale 123 = .ok (.invokevirtual 86, 3) := by decide +kernel
theorem dX9_gale_126 : decode cX9_gale 126 = .ok (.aload_n 0, 1) := by decide +kernel
theorem dX9_gale_127 : decode cX9_gale 127 = .ok (.aload_n 1, 1) := by decide +kernel
theorem dX9_gale_128 : decode cX9_gale 128 = .ok (.getfield 31, 3) := by decide +kernel
theorem dX9_gale_131 : decode cX9_gale 131 = .ok (.invokevirtual 90, 3) := by decide +kernel
theorem dX9_gale_134 : decode cX9_gale 134 = .ok (.iconst 0, 1) := by decide +kernel
theorem dX9_gale_135 : decode cX9_gale 135 = .ok (.istore 7, 2) := by decide +kernel
theorem dX9_gale_137 : decode cX9_gale 137 = .ok (.iload 7, 2) := by decide +kernel
theorem dX9_gale_139 : decode cX9_gale 139 = .ok (.aload_n 1, 1) := by decide +kernel
theorem dX9_gale_140 : decode cX9_gale 140 = .ok (.getfield 31, 3) := by decide +kernel
theorem dX9_gale_143 : decode cX9_gale 143 = .ok (.getfield 37, 3) := by decide +kernel
theorem dX9_gale_146 : decode cX9_gale 146 = .ok (.if_icmp .ge 43, 3) := by decide +kernel
theorem dX9_gale_149 : decode cX9_gale 149 = .ok (.aload_n 2, 1) := by decide +kernel
theorem dX9_gale_150 : decode cX9_gale 150 = .ok (.getfield 77, 3) := by decide +kernel
theorem dX9_gale_153 : decode cX9_gale 153 = .ok (.iload 7, 2) := by decide +kernel
theorem dX9_gale_155 : decode cX9_gale 155 = .ok (.dup2, 1) := by decide +kernel
theorem dX9_gale_156 : decode cX9_gale 156 = .ok (.iaload, 1) := by decide +kernel
theorem dX9_gale_157 : decode cX9_gale 157 = .ok (.aload_n 0, 1) := by decide +kernel
theorem dX9_gale_158 : decode cX9_gale 158 = .ok (.getfield 18, 3) := by decide +kernel
theorem dX9_gale_161 : decode cX9_gale 161 = .ok (.iload 7, 2) := by decide +kernel
theorem dX9_gale_163 : decode cX9_gale 163 = .ok (.iaload, 1) := by decide +kernel
theorem dX9_gale_164 : decode cX9_gale 164 = .ok (.iadd, 1) := by decide +kernel
theorem dX9_gale_165 : decode cX9_gale 165 = .ok (.iastore, 1) := by decide +kernel
theorem dX9_gale_166 : decode cX9_gale 166 = .ok (.aload_n 2, 1) := by decide +kernel
theorem dX9_gale_167 : decode cX9_gale 167 = .ok (.getfield 94, 3) := by decide +kernel
theorem dX9_gale_170 : decode cX9_gale 170 = .ok (.iload 7, 2) := by decide +kernel
theorem dX9_gale_172 : decode cX9_gale 172 = .ok (.dup2, 1) := by decide +kernel
theorem dX9_gale_173 : decode cX9_gale 173 = .ok (.iaload, 1) := by decide +kernel
theorem dX9_gale_174 : decode cX9_gale 174 = .ok (.aload_n 0, 1) := by decide +kernel
theorem dX9_gale_175 : decode cX9_gale 175 = .ok (.getfield 18, 3) := by decide +kernel
theorem dX9_gale_178 : decode cX9_gale 178 = .ok (.iload 7, 2) := by decide +kernel
theorem dX9_gale_180 : decode cX9_gale 180 = .ok (.iaload, 1) := by decide +kernel
theorem dX9_gale_181 : decode cX9_gale 181 = .ok (.iadd, 1) := by decide +kernel
theorem dX9_gale_182 : decode cX9_gale 182 = .ok (.iastore, 1) := by decide +kernel
theorem dX9_gale_183 : decode cX9_gale 183 = .ok (.iinc 7 1, 3) := by decide +kernel
theorem dX9_gale_186 : decode cX9_gale 186 = .ok (.goto (-49), 3) := by decide +kernel
theorem dX9_gale_189 : decode cX9_gale 189 = .ok (.return_, 1) := by decide +kernel
theorem dX10_gainNow_0 : decode cX10_gainNow 0 = .ok (.aload_n 0, 1) := by decide +kernel
theorem dX10_gainNow_1 : decode cX10_gainNow 1 = .ok (.getfield 83, 3) := by decide +kernel
theorem dX10_gainNow_4 : decode cX10_gainNow 4 = .ok (.aload_n 0, 1) := by decide +kernel
theorem dX10_gainNow_5 : decode cX10_gainNow 5 = .ok (.getfield 30, 3) := by decide +kernel
theorem dX10_gainNow_8 : decode cX10_gainNow 8 = .ok (.getfield 127, 3) := by decide +kernel
theorem dX10_gainNow_11 : decode cX10_gainNow 11 = .ok (.invokevirtual 280, 3) := by decide +kernel
theorem dX10_gainNow_14 : decode cX10_gainNow 14 = .ok (.aload_n 0, 1) := by decide +kernel
theorem dX10_gainNow_15 : decode cX10_gainNow 15 = .ok (.getfield 69, 3) := by decide +kernel
theorem dX10_gainNow_18 : decode cX10_gainNow 18 = .ok (.aload_n 0, 1) := by decide +kernel
theorem dX10_gainNow_19 : decode cX10_gainNow 19 = .ok (.getfield 30, 3) := by decide +kernel
theorem dX10_gainNow_22 : decode cX10_gainNow 22 = .ok (.getfield 124, 3) := by decide +kernel
theorem dX10_gainNow_25 : decode cX10_gainNow 25 = .ok (.aload_n 0, 1) := by decide +kernel
theorem dX10_gainNow_26 : decode cX10_gainNow 26 = .ok (.getfield 83, 3) := by decide +kernel
theorem dX10_gainNow_29 : decode cX10_gainNow 29 = .ok (.iload_n 2, 1) := by decide +kernel
theorem dX10_gainNow_30 : decode cX10_gainNow 30 = .ok (.iload_n 3, 1) := by decide +kernel
theorem dX10_gainNow_31 : decode cX10_gainNow 31 = .ok (.invokevirtual 292, 3) := by decide +kernel
theorem dX10_gainNow_34 : decode cX10_gainNow 34 = .ok (.aload_n 0, 1) := by decide +kernel
theorem dX10_gainNow_35 : decode cX10_gainNow 35 = .ok (.getfield 83, 3) := by decide +kernel
theorem dX10_gainNow_38 : decode cX10_gainNow 38 = .ok (.getfield 183, 3) := by decide +kernel
theorem dX10_gainNow_41 : decode cX10_gainNow 41 = .ok (.iload_n 1, 1) := by decide +kernel
theorem dX10_gainNow_42 : decode cX10_gainNow 42 = .ok (.iaload, 1) := by decide +kernel
theorem dX10_gainNow_43 : decode cX10_gainNow 43 = .ok (.aload_n 0, 1) := by decide +kernel
theorem dX10_gainNow_44 : decode cX10_gainNow 44 = .ok (.getfield 30, 3) := by decide +kernel
theorem dX10_gainNow_47 : decode cX10_gainNow 47 = .ok (.getfield 127, 3) := by decide +kernel
theorem dX10_gainNow_50 : decode cX10_gainNow 50 = .ok (.getfield 183, 3) := by decide +kernel
theorem dX10_gainNow_53 : decode cX10_gainNow 53 = .ok (.iload_n 1, 1) := by decide +kernel
theorem dX10_gainNow_54 : decode cX10_gainNow 54 = .ok (.iaload, 1) := by decide +kernel
theorem dX10_gainNow_55 : decode cX10_gainNow 55 = .ok (.isub, 1) := by decide +kernel
theorem dX10_gainNow_56 : decode cX10_gainNow 56 = .ok (.ireturn, 1) := by decide +kernel
theorem dX10_gains_0 : decode cX10_gains 0 = .ok (.aload_n 0, 1) := by decide +kernel
theorem dX10_gains_1 : decode cX10_gains 1 = .ok (.getfield 30, 3) := by decide +kernel
theorem dX10_gains_4 : decode cX10_gains 4 = .ok (.getfield 124, 3) := by decide +kernel
theorem dX10_gains_7 : decode cX10_gains 7 = .ok (.iload_n 1, 1) := by decide +kernel
theorem dX10_gains_8 : decode cX10_gains 8 = .ok (.invokevirtual 171, 3) := by decide +kernel
theorem dX10_gains_11 : decode cX10_gains 11 = .ok (.ifCond .eq 11, 3) := by decide +kernel
theorem dX10_gains_14 : decode cX10_gains 14 = .ok (.iload_n 2, 1) := by decide +kernel
theorem dX10_gains_15 : decode cX10_gains 15 = .ok (.iload_n 3, 1) := by decide +kernel
theorem dX10_gains_16 : decode cX10_gains 16 = .ok (.invokestatic 268, 3) := by decide +kernel
theorem dX10_gains_19 : decode cX10_gains 19 = .ok (.ifCond .ne 7, 3) := by decide +kernel
theorem dX10_gains_22 : decode cX10_gains 22 = .ok (.sipush (-1001), 3) := by decide +kernel
theorem dX10_gains_25 : decode cX10_gains 25 = .ok (.ireturn, 1) := by decide +kernel
theorem dX10_gains_26 : decode cX10_gains 26 = .ok (.aload_n 0, 1) := by decide +kernel
theorem dX10_gains_27 : decode cX10_gains 27 = .ok (.iload_n 1, 1) := by decide +kernel
theorem dX10_gains_28 : decode cX10_gains 28 = .ok (.iload_n 2, 1) := by decide +kernel
theorem dX10_gains_29 : decode cX10_gains 29 = .ok (.iload_n 3, 1) := by decide +kernel
theorem dX10_gains_30 : decode cX10_gains 30 = .ok (.invokevirtual 288, 3) := by decide +kernel
theorem dX10_gains_33 : decode cX10_gains 33 = .ok (.ireturn, 1) := by decide +kernel
theorem dX10_best_0 : decode cX10_best 0 = .ok (.aload_n 0, 1) := by decide +kernel
theorem dX10_best_1 : decode cX10_best 1 = .ok (.getfield 30, 3) := by decide +kernel
theorem dX10_best_4 : decode cX10_best 4 = .ok (.getfield 124, 3) := by decide +kernel
theorem dX10_best_7 : decode cX10_best 7 = .ok (.iload_n 1, 1) := by decide +kernel
theorem dX10_best_8 : decode cX10_best 8 = .ok (.invokevirtual 171, 3) := by decide +kernel
theorem dX10_best_11 : decode cX10_best 11 = .ok (.ifCond .eq 11, 3) := by decide +kernel
theorem dX10_best_14 : decode cX10_best 14 = .ok (.iconst 0, 1) := by decide +kernel
theorem dX10_best_15 : decode cX10_best 15 = .ok (.iload_n 2, 1) := by decide +kernel
theorem dX10_best_16 : decode cX10_best 16 = .ok (.invokestatic 268, 3) := by decide +kernel
theorem dX10_best_19 : decode cX10_best 19 = .ok (.ifCond .ne 5, 3) := by decide +kernel
theorem dX10_best_22 : decode cX10_best 22 = .ok (.iconst (-1), 1) := by decide +kernel
theorem dX10_best_23 : decode cX10_best 23 = .ok (.ireturn, 1) := by decide +kernel
theorem dX10_best_24 : decode cX10_best 24 = .ok (.iconst 0, 1) := by decide +kernel
theorem dX10_best_25 : decode cX10_best 25 = .ok (.istore_n 3, 1) := by decide +kernel
theorem dX10_best_26 : decode cX10_best 26 = .ok (.aload_n 0, 1) := by decide +kernel
theorem dX10_best_27 : decode cX10_best 27 = .ok (.iload_n 1, 1) := by decide +kernel
theorem dX10_best_28 : decode cX10_best 28 = .ok (.iconst 0, 1) := by decide +kernel
theorem dX10_best_29 : decode cX10_best 29 = .ok (.iload_n 2, 1) := by decide +kernel
theorem dX10_best_30 : decode cX10_best 30 = .ok (.invokevirtual 288, 3) := by decide +kernel
theorem dX10_best_33 : decode cX10_best 33 = .ok (.istore 4, 2) := by decide +kernel
theorem dX10_best_35 : decode cX10_best 35 = .ok (.iconst 1, 1) := by decide +kernel
theorem dX10_best_36 : decode cX10_best 36 = .ok (.istore 5, 2) := by decide +kernel
theorem dX10_best_38 : decode cX10_best 38 = .ok (.iload 5, 2) := by decide +kernel
theorem dX10_best_40 : decode cX10_best 40 = .ok (.bipush 8, 2) := by decide +kernel
theorem dX10_best_42 : decode cX10_best 42 = .ok (.if_icmp .ge 33, 3) := by decide +kernel
theorem dX10_best_45 : decode cX10_best 45 = .ok (.aload_n 0, 1) := by decide +kernel
theorem dX10_best_46 : decode cX10_best 46 = .ok (.iload_n 1, 1) := by decide +kernel
theorem dX10_best_47 : decode cX10_best 47 = .ok (.iload 5, 2) := by decide +kernel
theorem dX10_best_49 : decode cX10_best 49 = .ok (.iload_n 2, 1) := by decide +kernel
theorem dX10_best_50 : decode cX10_best 50 = .ok (.invokevirtual 288, 3) := by decide +kernel
theorem dX10_best_53 : decode cX10_best 53 = .ok (.istore 6, 2) := by decide +kernel
theorem dX10_best_55 : decode cX10_best 55 = .ok (.iload 6, 2) := by decide +kernel
theorem dX10_best_57 : decode cX10_best 57 = .ok (.iload 4, 2) := by decide +kernel
theorem dX10_best_59 : decode cX10_best 59 = .ok (.if_icmp .le 10, 3) := by decide +kernel
theorem dX10_best_62 : decode cX10_best 62 = .ok (.iload 5, 2) := by decide +kernel
theorem dX10_best_64 : decode cX10_best 64 = .ok (.istore_n 3, 1) := by decide +kernel
theorem dX10_best_65 : decode cX10_best 65 = .ok (.iload 6, 2) := by decide +kernel
theorem dX10_best_67 : decode cX10_best 67 = .ok (.istore 4, 2) := by decide +kernel
theorem dX10_best_69 : decode cX10_best 69 = .ok (.iinc 5 1, 3) := by decide +kernel
theorem dX10_best_72 : decode cX10_best 72 = .ok (.goto (-34), 3) := by decide +kernel
theorem dX10_best_75 : decode cX10_best 75 = .ok (.iload_n 3, 1) := by decide +kernel
theorem dX10_best_76 : decode cX10_best 76 = .ok (.ireturn, 1) := by decide +kernel
theorem dX2_push_0 : decode cX2_push 0 = .ok (.aload_n 0, 1) := by decide +kernel
theorem dX2_push_1 : decode cX2_push 1 = .ok (.getfield 11, 3) := by decide +kernel
theorem dX2_push_4 : decode cX2_push 4 = .ok (.aload_n 0, 1) := by decide +kernel
theorem dX2_push_5 : decode cX2_push 5 = .ok (.getfield 17, 3) := by decide +kernel
theorem dX2_push_8 : decode cX2_push 8 = .ok (.aaload, 1) := by decide +kernel
theorem dX2_push_9 : decode cX2_push 9 = .ok (.aload_n 1, 1) := by decide +kernel
theorem dX2_push_10 : decode cX2_push 10 = .ok (.invokevirtual 25, 3) := by decide +kernel
theorem dX2_push_13 : decode cX2_push 13 = .ok (.aload_n 0, 1) := by decide +kernel
theorem dX2_push_14 : decode cX2_push 14 = .ok (.aload_n 0, 1) := by decide +kernel
theorem dX2_push_15 : decode cX2_push 15 = .ok (.getfield 17, 3) := by decide +kernel
theorem dX2_push_18 : decode cX2_push 18 = .ok (.iconst 1, 1) := by decide +kernel
theorem dX2_push_19 : decode cX2_push 19 = .ok (.iadd, 1) := by decide +kernel
theorem dX2_push_20 : decode cX2_push 20 = .ok (.bipush 8, 2) := by decide +kernel
theorem dX2_push_22 : decode cX2_push 22 = .ok (.irem, 1) := by decide +kernel
theorem dX2_push_23 : decode cX2_push 23 = .ok (.putfield 17, 3) := by decide +kernel
theorem dX2_push_26 : decode cX2_push 26 = .ok (.aload_n 0, 1) := by decide +kernel
theorem dX2_push_27 : decode cX2_push 27 = .ok (.aload_n 0, 1) := by decide +kernel
theorem dX2_push_28 : decode cX2_push 28 = .ok (.getfield 21, 3) := by decide +kernel
theorem dX2_push_31 : decode cX2_push 31 = .ok (.iconst 1, 1) := by decide +kernel
theorem dX2_push_32 : decode cX2_push 32 = .ok (.iadd, 1) := by decide +kernel
theorem dX2_push_33 : decode cX2_push 33 = .ok (.bipush 8, 2) := by decide +kernel
theorem dX2_push_35 : decode cX2_push 35 = .ok (.invokestatic 29, 3) := by decide +kernel
theorem dX2_push_38 : decode cX2_push 38 = .ok (.putfield 21, 3) := by decide +kernel
theorem dX2_push_41 : decode cX2_push 41 = .ok (.return_, 1) := by decide +kernel
theorem dX10_keepPast_0 : decode cX10_keepPast 0 = .ok (.aload_n 0, 1) := by decide +kernel
theorem dX10_keepPast_1 : decode cX10_keepPast 1 = .ok (.getfield 62, 3) := by decide +kernel
theorem dX10_keepPast_4 : decode cX10_keepPast 4 = .ok (.aload_n 0, 1) := by decide +kernel
theorem dX10_keepPast_5 : decode cX10_keepPast 5 = .ok (.getfield 30, 3) := by decide +kernel
theorem dX10_keepPast_8 : decode cX10_keepPast 8 = .ok (.getfield 127, 3) := by decide +kernel
theorem dX10_keepPast_11 : decode cX10_keepPast 11 = .ok (.invokevirtual 296, 3) := by decide +kernel
theorem dX10_keepPast_14 : decode cX10_keepPast 14 = .ok (.aload_n 0, 1) := by decide +kernel
theorem dX10_keepPast_15 : decode cX10_keepPast 15 = .ok (.getfield 76, 3) := by decide +kernel
theorem dX10_keepPast_18 : decode cX10_keepPast 18 = .ok (.iconst 0, 1) := by decide +kernel
theorem dX10_keepPast_19 : decode cX10_keepPast 19 = .ok (.putfield 149, 3) := by decide +kernel
theorem dX10_keepPast_22 : decode cX10_keepPast 22 = .ok (.return_, 1) := by decide +kernel
theorem dX9_calm_0 : decode cX9_calm 0 = .ok (.aload_n 1, 1) := by decide +kernel
theorem dX9_calm_1 : decode cX9_calm 1 = .ok (.getfield 106, 3) := by decide +kernel
theorem dX9_calm_4 : decode cX9_calm 4 = .ok (.istore_n 3, 1) := by decide +kernel
theorem dX9_calm_5 : decode cX9_calm 5 = .ok (.iconst 0, 1) := by decide +kernel
theorem dX9_calm_6 : decode cX9_calm 6 = .ok (.istore 4, 2) := by decide +kernel
theorem dX9_calm_8 : decode cX9_calm 8 = .ok (.iload 4, 2) := by decide +kernel
theorem dX9_calm_10 : decode cX9_calm 10 = .ok (.aload_n 1, 1) := by decide +kernel
theorem dX9_calm_11 : decode cX9_calm 11 = .ok (.getfield 31, 3) := by decide +kernel
theorem dX9_calm_14 : decode cX9_calm 14 = .ok (.getfield 37, 3) := by decide +kernel
theorem dX9_calm_17 : decode cX9_calm 17 = .ok (.if_icmp .ge 85, 3) := by decide +kernel
theorem dX9_calm_20 : decode cX9_calm 20 = .ok (.iload_n 3, 1) := by decide +kernel
theorem dX9_calm_21 : decode cX9_calm 21 = .ok (.ifCond .le 81, 3) := by decide +kernel
theorem dX9_calm_24 : decode cX9_calm 24 = .ok (.aload_n 1, 1) := by decide +kernel
theorem dX9_calm_25 : decode cX9_calm 25 = .ok (.getfield 31, 3) := by decide +kernel
theorem dX9_calm_28 : decode cX9_calm 28 = .ok (.getfield 109, 3) := by decide +kernel
theorem dX9_calm_31 : decode cX9_calm 31 = .ok (.iload 4, 2) := by decide +kernel
theorem dX9_calm_33 : decode cX9_calm 33 = .ok (.iaload, 1) := by decide +kernel
theorem dX9_calm_34 : decode cX9_calm 34 = .ok (.istore 5, 2) := by decide +kernel
theorem dX9_calm_36 : decode cX9_calm 36 = .ok (.iload_n 3, 1) := by decide +kernel
theorem dX9_calm_37 : decode cX9_calm 37 = .ok (.aload_n 1, 1) := by decide +kernel
theorem dX9_calm_38 : decode cX9_calm 38 = .ok (.getfield 112, 3) := by decide +kernel
theorem dX9_calm_41 : decode cX9_calm 41 = .ok (.aload_n 2, 1) := by decide +kernel
theorem dX9_calm_42 : decode cX9_calm 42 = .ok (.getfield 77, 3) := by decide +kernel
theorem dX9_calm_45 : decode cX9_calm 45 = .ok (.iload 5, 2) := by decide +kernel
theorem dX9_calm_47 : decode cX9_calm 47 = .ok (.iaload, 1) := by decide +kernel
theorem dX9_calm_48 : decode cX9_calm 48 = .ok (.invokestatic 25, 3) := by decide +kernel
theorem dX9_calm_51 : decode cX9_calm 51 = .ok (.invokestatic 25, 3) := by decide +kernel
theorem dX9_calm_54 : decode cX9_calm 54 = .ok (.istore 6, 2) := by decide +kernel
theorem dX9_calm_56 : decode cX9_calm 56 = .ok (.aload_n 2, 1) := by decide +kernel
theorem dX9_calm_57 : decode cX9_calm 57 = .ok (.getfield 77, 3) := by decide +kernel
theorem dX9_calm_60 : decode cX9_calm 60 = .ok (.iload 5, 2) := by decide +kernel
theorem dX9_calm_62 : decode cX9_calm 62 = .ok (.dup2, 1) := by decide +kernel
theorem dX9_calm_63 : decode cX9_calm 63 = .ok (.iaload, 1) := by decide +kernel
theorem dX9_calm_64 : decode cX9_calm 64 = .ok (.iload 6, 2) := by decide +kernel
theorem dX9_calm_66 : decode cX9_calm 66 = .ok (.isub, 1) := by decide +kernel
theorem dX9_calm_67 : decode cX9_calm 67 = .ok (.iastore, 1) := by decide +kernel
theorem dX9_calm_68 : decode cX9_calm 68 = .ok (.aload_n 2, 1) := by decide +kernel
theorem dX9_calm_69 : decode cX9_calm 69 = .ok (.getfield 115, 3) := by decide +kernel
theorem dX9_calm_72 : decode cX9_calm 72 = .ok (.iload 5, 2) := by decide +kernel
theorem dX9_calm_74 : decode cX9_calm 74 = .ok (.dup2, 1) := by decide +kernel
theorem dX9_calm_75 : decode cX9_calm 75 = .ok (.iaload, 1) := by decide +kernel
theorem dX9_calm_76 : decode cX9_calm 76 = .ok (.iload 6, 2) := by decide +kernel
theorem dX9_calm_78 : decode cX9_calm 78 = .ok (.iadd, 1) := by decide +kernel
theorem dX9_calm_79 : decode cX9_calm 79 = .ok (.iastore, 1) := by decide +kernel
theorem dX9_calm_80 : decode cX9_calm 80 = .ok (.aload_n 2, 1) := by decide +kernel
theorem dX9_calm_81 : decode cX9_calm 81 = .ok (.dup, 1) := by decide +kernel
theorem dX9_calm_82 : decode cX9_calm 82 = .ok (.getfield 118, 3) := by decide +kernel
theorem dX9_calm_85 : decode cX9_calm 85 = .ok (.iload 6, 2) := by decide +kernel
theorem dX9_calm_87 : decode cX9_calm 87 = .ok (.iadd, 1) := by decide +kernel
theorem dX9_calm_88 : decode cX9_calm 88 = .ok (.putfield 118, 3) := by decide +kernel
theorem dX9_calm_91 : decode cX9_calm 91 = .ok (.iload_n 3, 1) := by decide +kernel
theorem dX9_calm_92 : decode cX9_calm 92 = .ok (.iload 6, 2) := by decide +kernel
theorem dX9_calm_94 : decode cX9_calm 94 = .ok (.isub, 1) := by decide +kernel
theorem dX9_calm_95 : decode cX9_calm 95 = .ok (.istore_n 3, 1) := by decide +kernel
theorem dX9_calm_96 : decode cX9_calm 96 = .ok (.iinc 4 1, 3) := by decide +kernel
theorem dX9_calm_99 : decode cX9_calm 99 = .ok (.goto (-91), 3) := by decide +kernel
theorem dX9_calm_102 : decode cX9_calm 102 = .ok (.return_, 1) := by decide +kernel
theorem dX9_pass_0 : decode cX9_pass 0 = .ok (.iconst 0, 1) := by decide +kernel
theorem dX9_pass_1 : decode cX9_pass 1 = .ok (.istore 4, 2) := by decide +kernel
theorem dX9_pass_3 : decode cX9_pass 3 = .ok (.iload 4, 2) := by decide +kernel
theorem dX9_pass_5 : decode cX9_pass 5 = .ok (.iload_n 3, 1) := by decide +kernel
theorem dX9_pass_6 : decode cX9_pass 6 = .ok (.if_icmp .ge 70, 3) := by decide +kernel
theorem dX9_pass_9 : decode cX9_pass 9 = .ok (.aload_n 2, 1) := by decide +kernel
theorem dX9_pass_10 : decode cX9_pass 10 = .ok (.getfield 121, 3) := by decide +kernel
theorem dX9_pass_13 : decode cX9_pass 13 = .ok (.bipush 48, 2) := by decide +kernel
theorem dX9_pass_15 : decode cX9_pass 15 = .ok (.if_icmp .ge 61, 3) := by decide +kernel
theorem dX9_pass_18 : decode cX9_pass 18 = .ok (.aload_n 1, 1) := by decide +kernel
theorem dX9_pass_19 : decode cX9_pass 19 = .ok (.getfield 124, 3) := by decide +kernel
theorem dX9_pass_22 : decode cX9_pass 22 = .ok (.aload_n 2, 1) := by decide +kernel
theorem dX9_pass_23 : decode cX9_pass 23 = .ok (.getfield 121, 3) := by decide +kernel
theorem dX9_pass_26 : decode cX9_pass 26 = .ok (.iaload, 1) := by decide +kernel
theorem dX9_pass_27 : decode cX9_pass 27 = .ok (.istore 5, 2) := by decide +kernel
theorem dX9_pass_29 : decode cX9_pass 29 = .ok (.iload 5, 2) := by decide +kernel
theorem dX9_pass_31 : decode cX9_pass 31 = .ok (.ifCond .le 23, 3) := by decide +kernel
theorem dX9_pass_34 : decode cX9_pass 34 = .ok (.aload_n 0, 1) := by decide +kernel
theorem dX9_pass_35 : decode cX9_pass 35 = .ok (.aload_n 1, 1) := by decide +kernel
theorem dX9_pass_36 : decode cX9_pass 36 = .ok (.aload_n 2, 1) := by decide +kernel
theorem dX9_pass_37 : decode cX9_pass 37 = .ok (.aload_n 1, 1) := by decide +kernel
theorem dX9_pass_38 : decode cX9_pass 38 = .ok (.getfield 127, 3) := by decide +kernel
theorem dX9_pass_41 : decode cX9_pass 41 = .ok (.aload_n 2, 1) := by decide +kernel
theorem dX9_pass_42 : decode cX9_pass 42 = .ok (.getfield 121, 3) := by decide +kernel
theorem dX9_pass_45 : decode cX9_pass 45 = .ok (.iaload, 1) := by decide +kernel
theorem dX9_pass_46 : decode cX9_pass 46 = .ok (.iload 5, 2) := by decide +kernel
theorem dX9_pass_48 : decode cX9_pass 48 = .ok (.invokevirtual 130, 3) := by decide +kernel
theorem dX9_pass_51 : decode cX9_pass 51 = .ok (.goto 9, 3) := by decide +kernel
theorem dX9_pass_54 : decode cX9_pass 54 = .ok (.aload_n 0, 1) := by decide +kernel
theorem dX9_pass_55 : decode cX9_pass 55 = .ok (.aload_n 1, 1) := by decide +kernel
theorem dX9_pass_56 : decode cX9_pass 56 = .ok (.aload_n 2, 1) := by decide +kernel
theorem dX9_pass_57 : decode cX9_pass 57 = .ok (.invokevirtual 134, 3) := by decide +kernel
theorem dX9_pass_60 : decode cX9_pass 60 = .ok (.aload_n 2, 1) := by decide +kernel
theorem dX9_pass_61 : decode cX9_pass 61 = .ok (.dup, 1) := by decide +kernel
theorem dX9_pass_62 : decode cX9_pass 62 = .ok (.getfield 121, 3) := by decide +kernel
theorem dX9_pass_65 : decode cX9_pass 65 = .ok (.iconst 1, 1) := by decide +kernel
theorem dX9_pass_66 : decode cX9_pass 66 = .ok (.iadd, 1) := by decide +kernel
theorem dX9_pass_67 : decode cX9_pass 67 = .ok (.putfield 121, 3) := by decide +kernel
theorem dX9_pass_70 : decode cX9_pass 70 = .ok (.iinc 4 1, 3) := by decide +kernel
theorem dX9_pass_73 : decode cX9_pass 73 = .ok (.goto (-70), 3) := by decide +kernel
theorem dX9_pass_76 : decode cX9_pass 76 = .ok (.iload 4, 2) := by decide +kernel
theorem dX9_pass_78 : decode cX9_pass 78 = .ok (.ireturn, 1) := by decide +kernel
theorem dX10_blow_0 : decode cX10_blow 0 = .ok (.iload_n 1, 1) := by decide +kernel
theorem dX10_blow_1 : decode cX10_blow 1 = .ok (.iconst 1, 1) := by decide +kernel
theorem dX10_blow_2 : decode cX10_blow 2 = .ok (.if_icmp .lt 9, 3) := by decide +kernel
theorem dX10_blow_5 : decode cX10_blow 5 = .ok (.iload_n 1, 1) := by decide +kernel
theorem dX10_blow_6 : decode cX10_blow 6 = .ok (.bipush 48, 2) := by decide +kernel
theorem dX10_blow_8 : decode cX10_blow 8 = .ok (.if_icmp .le 5, 3) := by decide +kernel
theorem dX10_blow_11 : decode cX10_blow 11 = .ok (.iconst (-1), 1) := by decide +kernel
theorem dX10_blow_12 : decode cX10_blow 12 = .ok (.ireturn, 1) := by decide +kernel
