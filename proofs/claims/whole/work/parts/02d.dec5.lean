theorem dX11_goes_30 : decode cX11_goes 30 = .ok (.iload_n 2, 1) := by decide +kernel
theorem dX11_goes_31 : decode cX11_goes 31 = .ok (.ireturn, 1) := by decide +kernel
theorem dX11_tries_0 : decode cX11_tries 0 = .ok (.iconst 0, 1) := by decide +kernel
theorem dX11_tries_1 : decode cX11_tries 1 = .ok (.istore_n 1, 1) := by decide +kernel
theorem dX11_tries_2 : decode cX11_tries 2 = .ok (.iload_n 1, 1) := by decide +kernel
theorem dX11_tries_3 : decode cX11_tries 3 = .ok (.sipush 172, 3) := by decide +kernel
theorem dX11_tries_6 : decode cX11_tries 6 = .ok (.if_icmp .ge 25, 3) := by decide +kernel
theorem dX11_tries_9 : decode cX11_tries 9 = .ok (.aload_n 0, 1) := by decide +kernel
theorem dX11_tries_10 : decode cX11_tries 10 = .ok (.getfield 56, 3) := by decide +kernel
theorem dX11_tries_13 : decode cX11_tries 13 = .ok (.iload_n 1, 1) := by decide +kernel
theorem dX11_tries_14 : decode cX11_tries 14 = .ok (.aload_n 0, 1) := by decide +kernel
theorem dX11_tries_15 : decode cX11_tries 15 = .ok (.getfield 33, 3) := by decide +kernel
theorem dX11_tries_18 : decode cX11_tries 18 = .ok (.sipush 371, 3) := by decide +kernel
theorem dX11_tries_21 : decode cX11_tries 21 = .ok (.iload_n 1, 1) := by decide +kernel
theorem dX11_tries_22 : decode cX11_tries 22 = .ok (.iadd, 1) := by decide +kernel
theorem dX11_tries_23 : decode cX11_tries 23 = .ok (.iaload, 1) := by decide +kernel
theorem dX11_tries_24 : decode cX11_tries 24 = .ok (.iastore, 1) := by decide +kernel
theorem dX11_tries_25 : decode cX11_tries 25 = .ok (.iinc 1 1, 3) := by decide +kernel
theorem dX11_tries_28 : decode cX11_tries 28 = .ok (.goto (-26), 3) := by decide +kernel
theorem dX11_tries_31 : decode cX11_tries 31 = .ok (.return_, 1) := by decide +kernel
theorem dX11_back_0 : decode cX11_back 0 = .ok (.iconst 0, 1) := by decide +kernel
theorem dX11_back_1 : decode cX11_back 1 = .ok (.istore_n 1, 1) := by decide +kernel
theorem dX11_back_2 : decode cX11_back 2 = .ok (.iload_n 1, 1) := by decide +kernel
theorem dX11_back_3 : decode cX11_back 3 = .ok (.sipush 172, 3) := by decide +kernel
theorem dX11_back_6 : decode cX11_back 6 = .ok (.if_icmp .ge 25, 3) := by decide +kernel
theorem dX11_back_9 : decode cX11_back 9 = .ok (.aload_n 0, 1) := by decide +kernel
theorem dX11_back_10 : decode cX11_back 10 = .ok (.getfield 33, 3) := by decide +kernel
theorem dX11_back_13 : decode cX11_back 13 = .ok (.sipush 371, 3) := by decide +kernel
theorem dX11_back_16 : decode cX11_back 16 = .ok (.iload_n 1, 1) := by decide +kernel
theorem dX11_back_17 : decode cX11_back 17 = .ok (.iadd, 1) := by decide +kernel
theorem dX11_back_18 : decode cX11_back 18 = .ok (.aload_n 0, 1) := by decide +kernel
theorem dX11_back_19 : decode cX11_back 19 = .ok (.getfield 56, 3) := by decide +kernel
theorem dX11_back_22 : decode cX11_back 22 = .ok (.iload_n 1, 1) := by decide +kernel
theorem dX11_back_23 : decode cX11_back 23 = .ok (.iaload, 1) := by decide +kernel
theorem dX11_back_24 : decode cX11_back 24 = .ok (.iastore, 1) := by decide +kernel
theorem dX11_back_25 : decode cX11_back 25 = .ok (.iinc 1 1, 3) := by decide +kernel
theorem dX11_back_28 : decode cX11_back 28 = .ok (.goto (-26), 3) := by decide +kernel
theorem dX11_back_31 : decode cX11_back 31 = .ok (.return_, 1) := by decide +kernel
theorem dX11_wealth_0 : decode cX11_wealth 0 = .ok (.aload_n 0, 1) := by decide +kernel
theorem dX11_wealth_1 : decode cX11_wealth 1 = .ok (.getfield 33, 3) := by decide +kernel
theorem dX11_wealth_4 : decode cX11_wealth 4 = .ok (.sipush 373, 3) := by decide +kernel
theorem dX11_wealth_7 : decode cX11_wealth 7 = .ok (.iload_n 1, 1) := by decide +kernel
theorem dX11_wealth_8 : decode cX11_wealth 8 = .ok (.iadd, 1) := by decide +kernel
theorem dX11_wealth_9 : decode cX11_wealth 9 = .ok (.iaload, 1) := by decide +kernel
theorem dX11_wealth_10 : decode cX11_wealth 10 = .ok (.aload_n 0, 1) := by decide +kernel
theorem dX11_wealth_11 : decode cX11_wealth 11 = .ok (.getfield 33, 3) := by decide +kernel
theorem dX11_wealth_14 : decode cX11_wealth 14 = .ok (.sipush 381, 3) := by decide +kernel
theorem dX11_wealth_17 : decode cX11_wealth 17 = .ok (.iload_n 1, 1) := by decide +kernel
theorem dX11_wealth_18 : decode cX11_wealth 18 = .ok (.iadd, 1) := by decide +kernel
theorem dX11_wealth_19 : decode cX11_wealth 19 = .ok (.iaload, 1) := by decide +kernel
theorem dX11_wealth_20 : decode cX11_wealth 20 = .ok (.iadd, 1) := by decide +kernel
theorem dX11_wealth_21 : decode cX11_wealth 21 = .ok (.ireturn, 1) := by decide +kernel
theorem dX11_faces_0 : decode cX11_faces 0 = .ok (.aload_n 0, 1) := by decide +kernel
theorem dX11_faces_1 : decode cX11_faces 1 = .ok (.iconst 0, 1) := by decide +kernel
theorem dX11_faces_2 : decode cX11_faces 2 = .ok (.putfield 1, 3) := by decide +kernel
theorem dX11_faces_5 : decode cX11_faces 5 = .ok (.iload_n 1, 1) := by decide +kernel
theorem dX11_faces_6 : decode cX11_faces 6 = .ok (.iload_n 2, 1) := by decide +kernel
theorem dX11_faces_7 : decode cX11_faces 7 = .ok (.invokestatic 296, 3) := by decide +kernel
theorem dX11_faces_10 : decode cX11_faces 10 = .ok (.ifCond .ne 5, 3) := by decide +kernel
theorem dX11_faces_13 : decode cX11_faces 13 = .ok (.iconst (-1), 1) := by decide +kernel
theorem dX11_faces_14 : decode cX11_faces 14 = .ok (.ireturn, 1) := by decide +kernel
theorem dX11_faces_15 : decode cX11_faces 15 = .ok (.aload_n 0, 1) := by decide +kernel
theorem dX11_faces_16 : decode cX11_faces 16 = .ok (.invokevirtual 325, 3) := by decide +kernel
theorem dX11_faces_19 : decode cX11_faces 19 = .ok (.aload_n 0, 1) := by decide +kernel
theorem dX11_faces_20 : decode cX11_faces 20 = .ok (.iload_n 1, 1) := by decide +kernel
theorem dX11_faces_21 : decode cX11_faces 21 = .ok (.iload_n 2, 1) := by decide +kernel
theorem dX11_faces_22 : decode cX11_faces 22 = .ok (.invokevirtual 309, 3) := by decide +kernel
theorem dX11_faces_25 : decode cX11_faces 25 = .ok (.aload_n 0, 1) := by decide +kernel
theorem dX11_faces_26 : decode cX11_faces 26 = .ok (.invokevirtual 328, 3) := by decide +kernel
theorem dX11_faces_29 : decode cX11_faces 29 = .ok (.aload_n 0, 1) := by decide +kernel
theorem dX11_faces_30 : decode cX11_faces 30 = .ok (.getfield 303, 3) := by decide +kernel
theorem dX11_faces_33 : decode cX11_faces 33 = .ok (.ireturn, 1) := by decide +kernel
theorem dX11_gainOf_0 : decode cX11_gainOf 0 = .ok (.aload_n 0, 1) := by decide +kernel
theorem dX11_gainOf_1 : decode cX11_gainOf 1 = .ok (.invokevirtual 325, 3) := by decide +kernel
theorem dX11_gainOf_4 : decode cX11_gainOf 4 = .ok (.aload_n 0, 1) := by decide +kernel
theorem dX11_gainOf_5 : decode cX11_gainOf 5 = .ok (.getfield 33, 3) := by decide +kernel
theorem dX11_gainOf_8 : decode cX11_gainOf 8 = .ok (.sipush 373, 3) := by decide +kernel
theorem dX11_gainOf_11 : decode cX11_gainOf 11 = .ok (.iload_n 1, 1) := by decide +kernel
theorem dX11_gainOf_12 : decode cX11_gainOf 12 = .ok (.iadd, 1) := by decide +kernel
theorem dX11_gainOf_13 : decode cX11_gainOf 13 = .ok (.iaload, 1) := by decide +kernel
theorem dX11_gainOf_14 : decode cX11_gainOf 14 = .ok (.istore 4, 2) := by decide +kernel
theorem dX11_gainOf_16 : decode cX11_gainOf 16 = .ok (.aload_n 0, 1) := by decide +kernel
theorem dX11_gainOf_17 : decode cX11_gainOf 17 = .ok (.iload_n 2, 1) := by decide +kernel
theorem dX11_gainOf_18 : decode cX11_gainOf 18 = .ok (.iload_n 3, 1) := by decide +kernel
theorem dX11_gainOf_19 : decode cX11_gainOf 19 = .ok (.invokevirtual 316, 3) := by decide +kernel
theorem dX11_gainOf_22 : decode cX11_gainOf 22 = .ok (.aload_n 0, 1) := by decide +kernel
theorem dX11_gainOf_23 : decode cX11_gainOf 23 = .ok (.getfield 33, 3) := by decide +kernel
theorem dX11_gainOf_26 : decode cX11_gainOf 26 = .ok (.sipush 373, 3) := by decide +kernel
theorem dX11_gainOf_29 : decode cX11_gainOf 29 = .ok (.iload_n 1, 1) := by decide +kernel
theorem dX11_gainOf_30 : decode cX11_gainOf 30 = .ok (.iadd, 1) := by decide +kernel
theorem dX11_gainOf_31 : decode cX11_gainOf 31 = .ok (.iaload, 1) := by decide +kernel
theorem dX11_gainOf_32 : decode cX11_gainOf 32 = .ok (.iload 4, 2) := by decide +kernel
theorem dX11_gainOf_34 : decode cX11_gainOf 34 = .ok (.isub, 1) := by decide +kernel
theorem dX11_gainOf_35 : decode cX11_gainOf 35 = .ok (.istore 5, 2) := by decide +kernel
theorem dX11_gainOf_37 : decode cX11_gainOf 37 = .ok (.aload_n 0, 1) := by decide +kernel
theorem dX11_gainOf_38 : decode cX11_gainOf 38 = .ok (.invokevirtual 328, 3) := by decide +kernel
theorem dX11_gainOf_41 : decode cX11_gainOf 41 = .ok (.iload 5, 2) := by decide +kernel
theorem dX11_gainOf_43 : decode cX11_gainOf 43 = .ok (.ireturn, 1) := by decide +kernel
theorem dX11_gains_0 : decode cX11_gains 0 = .ok (.aload_n 0, 1) := by decide +kernel
theorem dX11_gains_1 : decode cX11_gains 1 = .ok (.iconst 0, 1) := by decide +kernel
theorem dX11_gains_2 : decode cX11_gains 2 = .ok (.putfield 1, 3) := by decide +kernel
theorem dX11_gains_5 : decode cX11_gains 5 = .ok (.aload_n 0, 1) := by decide +kernel
theorem dX11_gains_6 : decode cX11_gains 6 = .ok (.iload_n 1, 1) := by decide +kernel
theorem dX11_gains_7 : decode cX11_gains 7 = .ok (.invokevirtual 281, 3) := by decide +kernel
theorem dX11_gains_10 : decode cX11_gains 10 = .ok (.ifCond .eq 21, 3) := by decide +kernel
theorem dX11_gains_13 : decode cX11_gains 13 = .ok (.iload_n 2, 1) := by decide +kernel
theorem dX11_gains_14 : decode cX11_gains 14 = .ok (.iload_n 3, 1) := by decide +kernel
theorem dX11_gains_15 : decode cX11_gains 15 = .ok (.invokestatic 296, 3) := by decide +kernel
theorem dX11_gains_18 : decode cX11_gains 18 = .ok (.ifCond .eq 13, 3) := by decide +kernel
theorem dX11_gains_21 : decode cX11_gains 21 = .ok (.aload_n 0, 1) := by decide +kernel
theorem dX11_gains_22 : decode cX11_gains 22 = .ok (.iload_n 1, 1) := by decide +kernel
theorem dX11_gains_23 : decode cX11_gains 23 = .ok (.iload_n 2, 1) := by decide +kernel
theorem dX11_gains_24 : decode cX11_gains 24 = .ok (.iload_n 3, 1) := by decide +kernel
theorem dX11_gains_25 : decode cX11_gains 25 = .ok (.invokevirtual 331, 3) := by decide +kernel
theorem dX11_gains_28 : decode cX11_gains 28 = .ok (.goto 6, 3) := by decide +kernel
theorem dX11_gains_31 : decode cX11_gains 31 = .ok (.sipush (-1001), 3) := by decide +kernel
theorem dX11_gains_34 : decode cX11_gains 34 = .ok (.ireturn, 1) := by decide +kernel
theorem dX11_keep_0 : decode cX11_keep 0 = .ok (.aload_n 0, 1) := by decide +kernel
theorem dX11_keep_1 : decode cX11_keep 1 = .ok (.getfield 264, 3) := by decide +kernel
theorem dX11_keep_4 : decode cX11_keep 4 = .ok (.bipush 8, 2) := by decide +kernel
theorem dX11_keep_6 : decode cX11_keep 6 = .ok (.if_icmp .ne 40, 3) := by decide +kernel
theorem dX11_keep_9 : decode cX11_keep 9 = .ok (.iconst 0, 1) := by decide +kernel
theorem dX11_keep_10 : decode cX11_keep 10 = .ok (.istore_n 1, 1) := by decide +kernel
theorem dX11_keep_11 : decode cX11_keep 11 = .ok (.iload_n 1, 1) := by decide +kernel
theorem dX11_keep_12 : decode cX11_keep 12 = .ok (.sipush 1204, 3) := by decide +kernel
theorem dX11_keep_15 : decode cX11_keep 15 = .ok (.if_icmp .ge 25, 3) := by decide +kernel
theorem dX11_keep_18 : decode cX11_keep 18 = .ok (.aload_n 0, 1) := by decide +kernel
theorem dX11_keep_19 : decode cX11_keep 19 = .ok (.getfield 59, 3) := by decide +kernel
theorem dX11_keep_22 : decode cX11_keep 22 = .ok (.iload_n 1, 1) := by decide +kernel
theorem dX11_keep_23 : decode cX11_keep 23 = .ok (.aload_n 0, 1) := by decide +kernel
theorem dX11_keep_24 : decode cX11_keep 24 = .ok (.getfield 59, 3) := by decide +kernel
theorem dX11_keep_27 : decode cX11_keep 27 = .ok (.iload_n 1, 1) := by decide +kernel
theorem dX11_keep_28 : decode cX11_keep 28 = .ok (.sipush 172, 3) := by decide +kernel
theorem dX11_keep_31 : decode cX11_keep 31 = .ok (.iadd, 1) := by decide +kernel
theorem dX11_keep_32 : decode cX11_keep 32 = .ok (.iaload, 1) := by decide +kernel
theorem dX11_keep_33 : decode cX11_keep 33 = .ok (.iastore, 1) := by decide +kernel
theorem dX11_keep_34 : decode cX11_keep 34 = .ok (.iinc 1 1, 3) := by decide +kernel
theorem dX11_keep_37 : decode cX11_keep 37 = .ok (.goto (-26), 3) := by decide +kernel
theorem dX11_keep_40 : decode cX11_keep 40 = .ok (.aload_n 0, 1) := by decide +kernel
theorem dX11_keep_41 : decode cX11_keep 41 = .ok (.bipush 7, 2) := by decide +kernel
theorem dX11_keep_43 : decode cX11_keep 43 = .ok (.putfield 264, 3) := by decide +kernel
theorem dX11_keep_46 : decode cX11_keep 46 = .ok (.iconst 0, 1) := by decide +kernel
theorem dX11_keep_47 : decode cX11_keep 47 = .ok (.istore_n 1, 1) := by decide +kernel
theorem dX11_keep_48 : decode cX11_keep 48 = .ok (.iload_n 1, 1) := by decide +kernel
theorem dX11_keep_49 : decode cX11_keep 49 = .ok (.sipush 172, 3) := by decide +kernel
theorem dX11_keep_52 : decode cX11_keep 52 = .ok (.if_icmp .ge 34, 3) := by decide +kernel
theorem dX11_keep_55 : decode cX11_keep 55 = .ok (.aload_n 0, 1) := by decide +kernel
theorem dX11_keep_56 : decode cX11_keep 56 = .ok (.getfield 59, 3) := by decide +kernel
theorem dX11_keep_59 : decode cX11_keep 59 = .ok (.sipush 172, 3) := by decide +kernel
theorem dX11_keep_62 : decode cX11_keep 62 = .ok (.aload_n 0, 1) := by decide +kernel
theorem dX11_keep_63 : decode cX11_keep 63 = .ok (.getfield 264, 3) := by decide +kernel
theorem dX11_keep_66 : decode cX11_keep 66 = .ok (.imul, 1) := by decide +kernel
theorem dX11_keep_67 : decode cX11_keep 67 = .ok (.iload_n 1, 1) := by decide +kernel
theorem dX11_keep_68 : decode cX11_keep 68 = .ok (.iadd, 1) := by decide +kernel
theorem dX11_keep_69 : decode cX11_keep 69 = .ok (.aload_n 0, 1) := by decide +kernel
theorem dX11_keep_70 : decode cX11_keep 70 = .ok (.getfield 33, 3) := by decide +kernel
theorem dX11_keep_73 : decode cX11_keep 73 = .ok (.sipush 371, 3) := by decide +kernel
theorem dX11_keep_76 : decode cX11_keep 76 = .ok (.iload_n 1, 1) := by decide +kernel
theorem dX11_keep_77 : decode cX11_keep 77 = .ok (.iadd, 1) := by decide +kernel
theorem dX11_keep_78 : decode cX11_keep 78 = .ok (.iaload, 1) := by decide +kernel
theorem dX11_keep_79 : decode cX11_keep 79 = .ok (.iastore, 1) := by decide +kernel
theorem dX11_keep_80 : decode cX11_keep 80 = .ok (.iinc 1 1, 3) := by decide +kernel
theorem dX11_keep_83 : decode cX11_keep 83 = .ok (.goto (-35), 3) := by decide +kernel
theorem dX11_keep_86 : decode cX11_keep 86 = .ok (.aload_n 0, 1) := by decide +kernel
theorem dX11_keep_87 : decode cX11_keep 87 = .ok (.dup, 1) := by decide +kernel
theorem dX11_keep_88 : decode cX11_keep 88 = .ok (.getfield 264, 3) := by decide +kernel
theorem dX11_keep_91 : decode cX11_keep 91 = .ok (.iconst 1, 1) := by decide +kernel
theorem dX11_keep_92 : decode cX11_keep 92 = .ok (.iadd, 1) := by decide +kernel
theorem dX11_keep_93 : decode cX11_keep 93 = .ok (.putfield 264, 3) := by decide +kernel
theorem dX11_keep_96 : decode cX11_keep 96 = .ok (.return_, 1) := by decide +kernel
theorem dX11_undo_0 : decode cX11_undo 0 = .ok (.aload_n 0, 1) := by decide +kernel
theorem dX11_undo_1 : decode cX11_undo 1 = .ok (.iconst 0, 1) := by decide +kernel
theorem dX11_undo_2 : decode cX11_undo 2 = .ok (.putfield 1, 3) := by decide +kernel
theorem dX11_undo_5 : decode cX11_undo 5 = .ok (.aload_n 0, 1) := by decide +kernel
theorem dX11_undo_6 : decode cX11_undo 6 = .ok (.getfield 264, 3) := by decide +kernel
theorem dX11_undo_9 : decode cX11_undo 9 = .ok (.ifCond .ne 5, 3) := by decide +kernel
theorem dX11_undo_12 : decode cX11_undo 12 = .ok (.iconst (-1), 1) := by decide +kernel
theorem dX11_undo_13 : decode cX11_undo 13 = .ok (.ireturn, 1) := by decide +kernel
theorem dX11_undo_14 : decode cX11_undo 14 = .ok (.aload_n 0, 1) := by decide +kernel
theorem dX11_undo_15 : decode cX11_undo 15 = .ok (.dup, 1) := by decide +kernel
theorem dX11_undo_16 : decode cX11_undo 16 = .ok (.getfield 264, 3) := by decide +kernel
theorem dX11_undo_19 : decode cX11_undo 19 = .ok (.iconst 1, 1) := by decide +kernel
theorem dX11_undo_20 : decode cX11_undo 20 = .ok (.isub, 1) := by decide +kernel
theorem dX11_undo_21 : decode cX11_undo 21 = .ok (.putfield 264, 3) := by decide +kernel
theorem dX11_undo_24 : decode cX11_undo 24 = .ok (.iconst 0, 1) := by decide +kernel
theorem dX11_undo_25 : decode cX11_undo 25 = .ok (.istore_n 1, 1) := by decide +kernel
theorem dX11_undo_26 : decode cX11_undo 26 = .ok (.iload_n 1, 1) := by decide +kernel
theorem dX11_undo_27 : decode cX11_undo 27 = .ok (.sipush 172, 3) := by decide +kernel
theorem dX11_undo_30 : decode cX11_undo 30 = .ok (.if_icmp .ge 34, 3) := by decide +kernel
theorem dX11_undo_33 : decode cX11_undo 33 = .ok (.aload_n 0, 1) := by decide +kernel
theorem dX11_undo_34 : decode cX11_undo 34 = .ok (.getfield 33, 3) := by decide +kernel
theorem dX11_undo_37 : decode cX11_undo 37 = .ok (.sipush 371, 3) := by decide +kernel
theorem dX11_undo_40 : decode cX11_undo 40 = .ok (.iload_n 1, 1) := by decide +kernel
theorem dX11_undo_41 : decode cX11_undo 41 = .ok (.iadd, 1) := by decide +kernel
theorem dX11_undo_42 : decode cX11_undo 42 = .ok (.aload_n 0, 1) := by decide +kernel
theorem dX11_undo_43 : decode cX11_undo 43 = .ok (.getfield 59, 3) := by decide +kernel
theorem dX11_undo_46 : decode cX11_undo 46 = .ok (.sipush 172, 3) := by decide +kernel
theorem dX11_undo_49 : decode cX11_undo 49 = .ok (.aload_n 0, 1) := by decide +kernel
theorem dX11_undo_50 : decode cX11_undo 50 = .ok (.getfield 264, 3) := by decide +kernel
theorem dX11_undo_53 : decode cX11_undo 53 = .ok (.imul, 1) := by decide +kernel
theorem dX11_undo_54 : decode cX11_undo 54 = .ok (.iload_n 1, 1) := by decide +kernel
theorem dX11_undo_55 : decode cX11_undo 55 = .ok (.iadd, 1) := by decide +kernel
theorem dX11_undo_56 : decode cX11_undo 56 = .ok (.iaload, 1) := by decide +kernel
theorem dX11_undo_57 : decode cX11_undo 57 = .ok (.iastore, 1) := by decide +kernel
theorem dX11_undo_58 : decode cX11_undo 58 = .ok (.iinc 1 1, 3) := by decide +kernel
theorem dX11_undo_61 : decode cX11_undo 61 = .ok (.goto (-35), 3) := by decide +kernel
theorem dX11_undo_64 : decode cX11_undo 64 = .ok (.aload_n 0, 1) := by decide +kernel
theorem dX11_undo_65 : decode cX11_undo 65 = .ok (.getfield 264, 3) := by decide +kernel
theorem dX11_undo_68 : decode cX11_undo 68 = .ok (.ireturn, 1) := by decide +kernel
theorem dX11_blow_0 : decode cX11_blow 0 = .ok (.aload_n 0, 1) := by decide +kernel
theorem dX11_blow_1 : decode cX11_blow 1 = .ok (.iconst 0, 1) := by decide +kernel
theorem dX11_blow_2 : decode cX11_blow 2 = .ok (.putfield 1, 3) := by decide +kernel
theorem dX11_blow_5 : decode cX11_blow 5 = .ok (.iload_n 1, 1) := by decide +kernel
theorem dX11_blow_6 : decode cX11_blow 6 = .ok (.iconst 1, 1) := by decide +kernel
theorem dX11_blow_7 : decode cX11_blow 7 = .ok (.bipush 48, 2) := by decide +kernel
theorem dX11_blow_9 : decode cX11_blow 9 = .ok (.invokestatic 180, 3) := by decide +kernel
theorem dX11_blow_12 : decode cX11_blow 12 = .ok (.ifCond .ne 5, 3) := by decide +kernel
theorem dX11_blow_15 : decode cX11_blow 15 = .ok (.iconst (-1), 1) := by decide +kernel
theorem dX11_blow_16 : decode cX11_blow 16 = .ok (.ireturn, 1) := by decide +kernel
theorem dX11_blow_17 : decode cX11_blow 17 = .ok (.aload_n 0, 1) := by decide +kernel
theorem dX11_blow_18 : decode cX11_blow 18 = .ok (.getfield 33, 3) := by decide +kernel
theorem dX11_blow_21 : decode cX11_blow 21 = .ok (.sipush 371, 3) := by decide +kernel
theorem dX11_blow_24 : decode cX11_blow 24 = .ok (.iaload, 1) := by decide +kernel
theorem dX11_blow_25 : decode cX11_blow 25 = .ok (.bipush 47, 2) := by decide +kernel
theorem dX11_blow_27 : decode cX11_blow 27 = .ok (.if_icmp .le 5, 3) := by decide +kernel
theorem dX11_blow_30 : decode cX11_blow 30 = .ok (.iconst 0, 1) := by decide +kernel
theorem dX11_blow_31 : decode cX11_blow 31 = .ok (.ireturn, 1) := by decide +kernel
theorem dX11_blow_32 : decode cX11_blow 32 = .ok (.aload_n 0, 1) := by decide +kernel
theorem dX11_blow_33 : decode cX11_blow 33 = .ok (.invokevirtual 335, 3) := by decide +kernel
theorem dX11_blow_36 : decode cX11_blow 36 = .ok (.aload_n 0, 1) := by decide +kernel
theorem dX11_blow_37 : decode cX11_blow 37 = .ok (.iload_n 1, 1) := by decide +kernel
theorem dX11_blow_38 : decode cX11_blow 38 = .ok (.invokevirtual 338, 3) := by decide +kernel
theorem dX11_blow_41 : decode cX11_blow 41 = .ok (.ireturn, 1) := by decide +kernel
theorem dX11_whySet_0 : decode cX11_whySet 0 = .ok (.aload_n 0, 1) := by decide +kernel
theorem dX11_whySet_1 : decode cX11_whySet 1 = .ok (.iload_n 1, 1) := by decide +kernel
theorem dX11_whySet_2 : decode cX11_whySet 2 = .ok (.invokevirtual 341, 3) := by decide +kernel
theorem dX11_whySet_5 : decode cX11_whySet 5 = .ok (.ifCond .ne 7, 3) := by decide +kernel
theorem dX11_whySet_8 : decode cX11_whySet 8 = .ok (.iconst 1, 1) := by decide +kernel
theorem dX11_whySet_9 : decode cX11_whySet 9 = .ok (.goto 17, 3) := by decide +kernel
theorem dX11_whySet_12 : decode cX11_whySet 12 = .ok (.aload_n 0, 1) := by decide +kernel
theorem dX11_whySet_13 : decode cX11_whySet 13 = .ok (.invokevirtual 344, 3) := by decide +kernel
theorem dX11_whySet_16 : decode cX11_whySet 16 = .ok (.bipush 12, 2) := by decide +kernel
theorem dX11_whySet_18 : decode cX11_whySet 18 = .ok (.if_icmp .ne 7, 3) := by decide +kernel
theorem dX11_whySet_21 : decode cX11_whySet 21 = .ok (.iconst 2, 1) := by decide +kernel
theorem dX11_whySet_22 : decode cX11_whySet 22 = .ok (.goto 4, 3) := by decide +kernel
theorem dX11_whySet_25 : decode cX11_whySet 25 = .ok (.iconst 0, 1) := by decide +kernel
theorem dX11_whySet_26 : decode cX11_whySet 26 = .ok (.ireturn, 1) := by decide +kernel
theorem dX11_set_0 : decode cX11_set 0 = .ok (.aload_n 0, 1) := by decide +kernel
theorem dX11_set_1 : decode cX11_set 1 = .ok (.iconst 0, 1) := by decide +kernel
theorem dX11_set_2 : decode cX11_set 2 = .ok (.putfield 1, 3) := by decide +kernel
theorem dX11_set_5 : decode cX11_set 5 = .ok (.aload_n 0, 1) := by decide +kernel
theorem dX11_set_6 : decode cX11_set 6 = .ok (.iload_n 1, 1) := by decide +kernel
theorem dX11_set_7 : decode cX11_set 7 = .ok (.invokevirtual 274, 3) := by decide +kernel
theorem dX11_set_10 : decode cX11_set 10 = .ok (.ifCond .ne 5, 3) := by decide +kernel
theorem dX11_set_13 : decode cX11_set 13 = .ok (.iconst (-1), 1) := by decide +kernel
theorem dX11_set_14 : decode cX11_set 14 = .ok (.ireturn, 1) := by decide +kernel
theorem dX11_set_15 : decode cX11_set 15 = .ok (.aload_n 0, 1) := by decide +kernel
theorem dX11_set_16 : decode cX11_set 16 = .ok (.iload_n 1, 1) := by decide +kernel
theorem dX11_set_17 : decode cX11_set 17 = .ok (.invokevirtual 347, 3) := by decide +kernel
theorem dX11_set_20 : decode cX11_set 20 = .ok (.istore_n 2, 1) := by decide +kernel
theorem dX11_set_21 : decode cX11_set 21 = .ok (.iload_n 2, 1) := by decide +kernel
theorem dX11_set_22 : decode cX11_set 22 = .ok (.ifCond .le 5, 3) := by decide +kernel
theorem dX11_set_25 : decode cX11_set 25 = .ok (.iload_n 2, 1) := by decide +kernel
theorem dX11_set_26 : decode cX11_set 26 = .ok (.ireturn, 1) := by decide +kernel
theorem dX11_set_27 : decode cX11_set 27 = .ok (.aload_n 0, 1) := by decide +kernel
theorem dX11_set_28 : decode cX11_set 28 = .ok (.invokevirtual 335, 3) := by decide +kernel
theorem dX11_set_31 : decode cX11_set 31 = .ok (.aload_n 0, 1) := by decide +kernel
theorem dX11_set_32 : decode cX11_set 32 = .ok (.getfield 33, 3) := by decide +kernel
theorem dX11_set_35 : decode cX11_set 35 = .ok (.sipush 441, 3) := by decide +kernel
theorem dX11_set_38 : decode cX11_set 38 = .ok (.iload_n 1, 1) := by decide +kernel
theorem dX11_set_39 : decode cX11_set 39 = .ok (.iadd, 1) := by decide +kernel
theorem dX11_set_40 : decode cX11_set 40 = .ok (.iconst 1, 1) := by decide +kernel
theorem dX11_set_41 : decode cX11_set 41 = .ok (.iastore, 1) := by decide +kernel
theorem dX11_set_42 : decode cX11_set 42 = .ok (.iconst 0, 1) := by decide +kernel
theorem dX11_set_43 : decode cX11_set 43 = .ok (.ireturn, 1) := by decide +kernel
theorem dX11_isTree_0 : decode cX11_isTree 0 = .ok (.iload_n 1, 1) := by decide +kernel
theorem dX11_isTree_1 : decode cX11_isTree 1 = .ok (.iconst 0, 1) := by decide +kernel
theorem dX11_isTree_2 : decode cX11_isTree 2 = .ok (.aload_n 0, 1) := by decide +kernel
theorem dX11_isTree_3 : decode cX11_isTree 3 = .ok (.getfield 33, 3) := by decide +kernel
theorem dX11_isTree_6 : decode cX11_isTree 6 = .ok (.iconst 3, 1) := by decide +kernel
theorem dX11_isTree_7 : decode cX11_isTree 7 = .ok (.iaload, 1) := by decide +kernel
theorem dX11_isTree_8 : decode cX11_isTree 8 = .ok (.iconst 1, 1) := by decide +kernel
theorem dX11_isTree_9 : decode cX11_isTree 9 = .ok (.isub, 1) := by decide +kernel
theorem dX11_isTree_10 : decode cX11_isTree 10 = .ok (.invokestatic 180, 3) := by decide +kernel
theorem dX11_isTree_13 : decode cX11_isTree 13 = .ok (.ifCond .eq 21, 3) := by decide +kernel
theorem dX11_isTree_16 : decode cX11_isTree 16 = .ok (.aload_n 0, 1) := by decide +kernel
theorem dX11_isTree_17 : decode cX11_isTree 17 = .ok (.getfield 33, 3) := by decide +kernel
theorem dX11_isTree_20 : decode cX11_isTree 20 = .ok (.sipush 429, 3) := by decide +kernel
theorem dX11_isTree_23 : decode cX11_isTree 23 = .ok (.iload_n 1, 1) := by decide +kernel
theorem dX11_isTree_24 : decode cX11_isTree 24 = .ok (.iadd, 1) := by decide +kernel
theorem dX11_isTree_25 : decode cX11_isTree 25 = .ok (.iaload, 1) := by decide +kernel
theorem dX11_isTree_26 : decode cX11_isTree 26 = .ok (.iconst 1, 1) := by decide +kernel
theorem dX11_isTree_27 : decode cX11_isTree 27 = .ok (.if_icmp .ne 7, 3) := by decide +kernel
theorem dX11_isTree_30 : decode cX11_isTree 30 = .ok (.iconst 1, 1) := by decide +kernel
theorem dX11_isTree_31 : decode cX11_isTree 31 = .ok (.goto 4, 3) := by decide +kernel
theorem dX11_isTree_34 : decode cX11_isTree 34 = .ok (.iconst 0, 1) := by decide +kernel
theorem dX11_isTree_35 : decode cX11_isTree 35 = .ok (.ireturn, 1) := by decide +kernel
theorem dX11_fell_0 : decode cX11_fell 0 = .ok (.aload_n 0, 1) := by decide +kernel
theorem dX11_fell_1 : decode cX11_fell 1 = .ok (.iconst 0, 1) := by decide +kernel
theorem dX11_fell_2 : decode cX11_fell 2 = .ok (.putfield 1, 3) := by decide +kernel
theorem dX11_fell_5 : decode cX11_fell 5 = .ok (.aload_n 0, 1) := by decide +kernel
theorem dX11_fell_6 : decode cX11_fell 6 = .ok (.iload_n 1, 1) := by decide +kernel
theorem dX11_fell_7 : decode cX11_fell 7 = .ok (.invokevirtual 350, 3) := by decide +kernel
theorem dX11_fell_10 : decode cX11_fell 10 = .ok (.ifCond .ne 5, 3) := by decide +kernel
theorem dX11_fell_13 : decode cX11_fell 13 = .ok (.iconst 3, 1) := by decide +kernel
theorem dX11_fell_14 : decode cX11_fell 14 = .ok (.ireturn, 1) := by decide +kernel
theorem dX11_fell_15 : decode cX11_fell 15 = .ok (.aload_n 0, 1) := by decide +kernel
theorem dX11_fell_16 : decode cX11_fell 16 = .ok (.invokevirtual 335, 3) := by decide +kernel
theorem dX11_fell_19 : decode cX11_fell 19 = .ok (.aload_n 0, 1) := by decide +kernel
theorem dX11_fell_20 : decode cX11_fell 20 = .ok (.getfield 33, 3) := by decide +kernel
theorem dX11_fell_23 : decode cX11_fell 23 = .ok (.sipush 429, 3) := by decide +kernel
theorem dX11_fell_26 : decode cX11_fell 26 = .ok (.iload_n 1, 1) := by decide +kernel
theorem dX11_fell_27 : decode cX11_fell 27 = .ok (.iadd, 1) := by decide +kernel
theorem dX11_fell_28 : decode cX11_fell 28 = .ok (.iconst 0, 1) := by decide +kernel
theorem dX11_fell_29 : decode cX11_fell 29 = .ok (.iastore, 1) := by decide +kernel
theorem dX11_fell_30 : decode cX11_fell 30 = .ok (.iconst 0, 1) := by decide +kernel
theorem dX11_fell_31 : decode cX11_fell 31 = .ok (.ireturn, 1) := by decide +kernel
theorem dX11_oils_0 : decode cX11_oils 0 = .ok (.aload_n 0, 1) := by decide +kernel
theorem dX11_oils_1 : decode cX11_oils 1 = .ok (.getfield 33, 3) := by decide +kernel
theorem dX11_oils_4 : decode cX11_oils 4 = .ok (.sipush 405, 3) := by decide +kernel
theorem dX11_oils_7 : decode cX11_oils 7 = .ok (.iload_n 1, 1) := by decide +kernel
theorem dX11_oils_8 : decode cX11_oils 8 = .ok (.iadd, 1) := by decide +kernel
theorem dX11_oils_9 : decode cX11_oils 9 = .ok (.iconst 0, 1) := by decide +kernel
theorem dX11_oils_10 : decode cX11_oils 10 = .ok (.iastore, 1) := by decide +kernel
theorem dX11_oils_11 : decode cX11_oils 11 = .ok (.aload_n 0, 1) := by decide +kernel
theorem dX11_oils_12 : decode cX11_oils 12 = .ok (.getfield 33, 3) := by decide +kernel
theorem dX11_oils_15 : decode cX11_oils 15 = .ok (.sipush 389, 3) := by decide +kernel
theorem dX11_oils_18 : decode cX11_oils 18 = .ok (.iload_n 1, 1) := by decide +kernel
theorem dX11_oils_19 : decode cX11_oils 19 = .ok (.iadd, 1) := by decide +kernel
theorem dX11_oils_20 : decode cX11_oils 20 = .ok (.iconst 0, 1) := by decide +kernel
theorem dX11_oils_21 : decode cX11_oils 21 = .ok (.iastore, 1) := by decide +kernel
theorem dX11_oils_22 : decode cX11_oils 22 = .ok (.return_, 1) := by decide +kernel
theorem dX11_oil_0 : decode cX11_oil 0 = .ok (.aload_n 0, 1) := by decide +kernel
theorem dX11_oil_1 : decode cX11_oil 1 = .ok (.iconst 0, 1) := by decide +kernel
theorem dX11_oil_2 : decode cX11_oil 2 = .ok (.putfield 1, 3) := by decide +kernel
theorem dX11_oil_5 : decode cX11_oil 5 = .ok (.aload_n 0, 1) := by decide +kernel
theorem dX11_oil_6 : decode cX11_oil 6 = .ok (.iload_n 1, 1) := by decide +kernel
theorem dX11_oil_7 : decode cX11_oil 7 = .ok (.invokevirtual 281, 3) := by decide +kernel
theorem dX11_oil_10 : decode cX11_oil 10 = .ok (.ifCond .ne 5, 3) := by decide +kernel
theorem dX11_oil_13 : decode cX11_oil 13 = .ok (.iconst 0, 1) := by decide +kernel
theorem dX11_oil_14 : decode cX11_oil 14 = .ok (.ireturn, 1) := by decide +kernel
theorem dX11_oil_15 : decode cX11_oil 15 = .ok (.aload_n 0, 1) := by decide +kernel
theorem dX11_oil_16 : decode cX11_oil 16 = .ok (.invokevirtual 335, 3) := by decide +kernel
theorem dX11_oil_19 : decode cX11_oil 19 = .ok (.aload_n 0, 1) := by decide +kernel
theorem dX11_oil_20 : decode cX11_oil 20 = .ok (.iload_n 1, 1) := by decide +kernel
theorem dX11_oil_21 : decode cX11_oil 21 = .ok (.invokevirtual 353, 3) := by decide +kernel
theorem dX11_oil_24 : decode cX11_oil 24 = .ok (.iconst 1, 1) := by decide +kernel
theorem dX11_oil_25 : decode cX11_oil 25 = .ok (.ireturn, 1) := by decide +kernel
theorem dX11_points_0 : decode cX11_points 0 = .ok (.aload_n 0, 1) := by decide +kernel
theorem dX11_points_1 : decode cX11_points 1 = .ok (.getfield 33, 3) := by decide +kernel
theorem dX11_points_4 : decode cX11_points 4 = .ok (.sipush 397, 3) := by decide +kernel
theorem dX11_points_7 : decode cX11_points 7 = .ok (.iload_n 1, 1) := by decide +kernel
theorem dX11_points_8 : decode cX11_points 8 = .ok (.iadd, 1) := by decide +kernel
theorem dX11_points_9 : decode cX11_points 9 = .ok (.iload_n 2, 1) := by decide +kernel
theorem dX11_points_10 : decode cX11_points 10 = .ok (.iastore, 1) := by decide +kernel
theorem dX11_points_11 : decode cX11_points 11 = .ok (.aload_n 0, 1) := by decide +kernel
theorem dX11_points_12 : decode cX11_points 12 = .ok (.getfield 33, 3) := by decide +kernel
theorem dX11_points_15 : decode cX11_points 15 = .ok (.sipush 405, 3) := by decide +kernel
theorem dX11_points_18 : decode cX11_points 18 = .ok (.iload_n 1, 1) := by decide +kernel
theorem dX11_points_19 : decode cX11_points 19 = .ok (.iadd, 1) := by decide +kernel
theorem dX11_points_20 : decode cX11_points 20 = .ok (.iconst 1, 1) := by decide +kernel
theorem dX11_points_21 : decode cX11_points 21 = .ok (.iastore, 1) := by decide +kernel
theorem dX11_points_22 : decode cX11_points 22 = .ok (.return_, 1) := by decide +kernel
theorem dX11_point_0 : decode cX11_point 0 = .ok (.aload_n 0, 1) := by decide +kernel
theorem dX11_point_1 : decode cX11_point 1 = .ok (.iconst 0, 1) := by decide +kernel
theorem dX11_point_2 : decode cX11_point 2 = .ok (.putfield 1, 3) := by decide +kernel
theorem dX11_point_5 : decode cX11_point 5 = .ok (.aload_n 0, 1) := by decide +kernel
theorem dX11_point_6 : decode cX11_point 6 = .ok (.iload_n 1, 1) := by decide +kernel
theorem dX11_point_7 : decode cX11_point 7 = .ok (.invokevirtual 281, 3) := by decide +kernel
theorem dX11_point_10 : decode cX11_point 10 = .ok (.ifCond .eq 13, 3) := by decide +kernel
theorem dX11_point_13 : decode cX11_point 13 = .ok (.iload_n 2, 1) := by decide +kernel
theorem dX11_point_14 : decode cX11_point 14 = .ok (.iconst 0, 1) := by decide +kernel
theorem dX11_point_15 : decode cX11_point 15 = .ok (.bipush 7, 2) := by decide +kernel
theorem dX11_point_17 : decode cX11_point 17 = .ok (.invokestatic 180, 3) := by decide +kernel
theorem dX11_point_20 : decode cX11_point 20 = .ok (.ifCond .ne 5, 3) := by decide +kernel
theorem dX11_point_23 : decode cX11_point 23 = .ok (.iconst 0, 1) := by decide +kernel
theorem dX11_point_24 : decode cX11_point 24 = .ok (.ireturn, 1) := by decide +kernel
theorem dX11_point_25 : decode cX11_point 25 = .ok (.aload_n 0, 1) := by decide +kernel
theorem dX11_point_26 : decode cX11_point 26 = .ok (.invokevirtual 335, 3) := by decide +kernel
theorem dX11_point_29 : decode cX11_point 29 = .ok (.aload_n 0, 1) := by decide +kernel
theorem dX11_point_30 : decode cX11_point 30 = .ok (.iload_n 1, 1) := by decide +kernel
theorem dX11_point_31 : decode cX11_point 31 = .ok (.iload_n 2, 1) := by decide +kernel
theorem dX11_point_32 : decode cX11_point 32 = .ok (.invokevirtual 356, 3) := by decide +kernel
theorem dX11_point_35 : decode cX11_point 35 = .ok (.iconst 1, 1) := by decide +kernel
theorem dX11_point_36 : decode cX11_point 36 = .ok (.ireturn, 1) := by decide +kernel
theorem dX11_sumOf_0 : decode cX11_sumOf 0 = .ok (.iconst 0, 1) := by decide +kernel
theorem dX11_sumOf_1 : decode cX11_sumOf 1 = .ok (.istore_n 2, 1) := by decide +kernel
theorem dX11_sumOf_2 : decode cX11_sumOf 2 = .ok (.iconst 0, 1) := by decide +kernel
theorem dX11_sumOf_3 : decode cX11_sumOf 3 = .ok (.istore_n 3, 1) := by decide +kernel
theorem dX11_sumOf_4 : decode cX11_sumOf 4 = .ok (.iload_n 3, 1) := by decide +kernel
theorem dX11_sumOf_5 : decode cX11_sumOf 5 = .ok (.aload_n 0, 1) := by decide +kernel
theorem dX11_sumOf_6 : decode cX11_sumOf 6 = .ok (.getfield 33, 3) := by decide +kernel
theorem dX11_sumOf_9 : decode cX11_sumOf 9 = .ok (.iconst 2, 1) := by decide +kernel
theorem dX11_sumOf_10 : decode cX11_sumOf 10 = .ok (.iaload, 1) := by decide +kernel
theorem dX11_sumOf_11 : decode cX11_sumOf 11 = .ok (.if_icmp .ge 20, 3) := by decide +kernel
theorem dX11_sumOf_14 : decode cX11_sumOf 14 = .ok (.iload_n 2, 1) := by decide +kernel
theorem dX11_sumOf_15 : decode cX11_sumOf 15 = .ok (.aload_n 0, 1) := by decide +kernel
theorem dX11_sumOf_16 : decode cX11_sumOf 16 = .ok (.getfield 33, 3) := by decide +kernel
theorem dX11_sumOf_19 : decode cX11_sumOf 19 = .ok (.iload_n 1, 1) := by decide +kernel
theorem dX11_sumOf_20 : decode cX11_sumOf 20 = .ok (.iload_n 3, 1) := by decide +kernel
theorem dX11_sumOf_21 : decode cX11_sumOf 21 = .ok (.iadd, 1) := by decide +kernel
theorem dX11_sumOf_22 : decode cX11_sumOf 22 = .ok (.iaload, 1) := by decide +kernel
theorem dX11_sumOf_23 : decode cX11_sumOf 23 = .ok (.iadd, 1) := by decide +kernel
theorem dX11_sumOf_24 : decode cX11_sumOf 24 = .ok (.istore_n 2, 1) := by decide +kernel
theorem dX11_sumOf_25 : decode cX11_sumOf 25 = .ok (.iinc 3 1, 3) := by decide +kernel
theorem dX11_sumOf_28 : decode cX11_sumOf 28 = .ok (.goto (-24), 3) := by decide +kernel
theorem dX11_sumOf_31 : decode cX11_sumOf 31 = .ok (.iload_n 2, 1) := by decide +kernel
theorem dX11_sumOf_32 : decode cX11_sumOf 32 = .ok (.ireturn, 1) := by decide +kernel
theorem dX11_now_0 : decode cX11_now 0 = .ok (.aload_n 0, 1) := by decide +kernel
theorem dX11_now_1 : decode cX11_now 1 = .ok (.iconst 0, 1) := by decide +kernel
theorem dX11_now_2 : decode cX11_now 2 = .ok (.putfield 1, 3) := by decide +kernel
theorem dX11_now_5 : decode cX11_now 5 = .ok (.iconst 0, 1) := by decide +kernel
theorem dX11_now_6 : decode cX11_now 6 = .ok (.istore_n 2, 1) := by decide +kernel
theorem dX11_now_7 : decode cX11_now 7 = .ok (.iconst 0, 1) := by decide +kernel
theorem dX11_now_8 : decode cX11_now 8 = .ok (.istore_n 3, 1) := by decide +kernel
theorem dX11_now_9 : decode cX11_now 9 = .ok (.iload_n 3, 1) := by decide +kernel
theorem dX11_now_10 : decode cX11_now 10 = .ok (.aload_n 0, 1) := by decide +kernel
theorem dX11_now_11 : decode cX11_now 11 = .ok (.getfield 33, 3) := by decide +kernel
theorem dX11_now_14 : decode cX11_now 14 = .ok (.iconst 3, 1) := by decide +kernel
theorem dX11_now_15 : decode cX11_now 15 = .ok (.iaload, 1) := by decide +kernel
theorem dX11_now_16 : decode cX11_now 16 = .ok (.if_icmp .ge 22, 3) := by decide +kernel
theorem dX11_now_19 : decode cX11_now 19 = .ok (.iload_n 2, 1) := by decide +kernel
theorem dX11_now_20 : decode cX11_now 20 = .ok (.aload_n 0, 1) := by decide +kernel
theorem dX11_now_21 : decode cX11_now 21 = .ok (.getfield 33, 3) := by decide +kernel
theorem dX11_now_24 : decode cX11_now 24 = .ok (.sipush 429, 3) := by decide +kernel
theorem dX11_now_27 : decode cX11_now 27 = .ok (.iload_n 3, 1) := by decide +kernel
theorem dX11_now_28 : decode cX11_now 28 = .ok (.iadd, 1) := by decide +kernel
theorem dX11_now_29 : decode cX11_now 29 = .ok (.iaload, 1) := by decide +kernel
theorem dX11_now_30 : decode cX11_now 30 = .ok (.iadd, 1) := by decide +kernel
theorem dX11_now_31 : decode cX11_now 31 = .ok (.istore_n 2, 1) := by decide +kernel
theorem dX11_now_32 : decode cX11_now 32 = .ok (.iinc 3 1, 3) := by decide +kernel
theorem dX11_now_35 : decode cX11_now 35 = .ok (.goto (-26), 3) := by decide +kernel
theorem dX11_now_38 : decode cX11_now 38 = .ok (.iload_n 1, 1) := by decide +kernel
theorem dX11_now_39 : decode cX11_now 39 = .ok (.tableswitch 106 0 7 #[45, 54, 63, 71, 79, 84, 86, 97], 45) := by decide +kernel
theorem dX11_now_84 : decode cX11_now 84 = .ok (.aload_n 0, 1) := by decide +kernel
theorem dX11_now_85 : decode cX11_now 85 = .ok (.getfield 33, 3) := by decide +kernel
theorem dX11_now_88 : decode cX11_now 88 = .ok (.sipush 371, 3) := by decide +kernel
theorem dX11_now_91 : decode cX11_now 91 = .ok (.iaload, 1) := by decide +kernel
theorem dX11_now_92 : decode cX11_now 92 = .ok (.ireturn, 1) := by decide +kernel
theorem dX11_now_93 : decode cX11_now 93 = .ok (.aload_n 0, 1) := by decide +kernel
theorem dX11_now_94 : decode cX11_now 94 = .ok (.getfield 33, 3) := by decide +kernel
theorem dX11_now_97 : decode cX11_now 97 = .ok (.sipush 372, 3) := by decide +kernel
theorem dX11_now_100 : decode cX11_now 100 = .ok (.iaload, 1) := by decide +kernel
theorem dX11_now_101 : decode cX11_now 101 = .ok (.ireturn, 1) := by decide +kernel
theorem dX11_now_102 : decode cX11_now 102 = .ok (.aload_n 0, 1) := by decide +kernel
theorem dX11_now_103 : decode cX11_now 103 = .ok (.sipush 373, 3) := by decide +kernel
theorem dX11_now_106 : decode cX11_now 106 = .ok (.invokevirtual 359, 3) := by decide +kernel
theorem dX11_now_109 : decode cX11_now 109 = .ok (.ireturn, 1) := by decide +kernel
theorem dX11_now_110 : decode cX11_now 110 = .ok (.aload_n 0, 1) := by decide +kernel
theorem dX11_now_111 : decode cX11_now 111 = .ok (.sipush 381, 3) := by decide +kernel
theorem dX11_now_114 : decode cX11_now 114 = .ok (.invokevirtual 359, 3) := by decide +kernel
theorem dX11_now_117 : decode cX11_now 117 = .ok (.ireturn, 1) := by decide +kernel
theorem dX11_now_118 : decode cX11_now 118 = .ok (.aload_n 0, 1) := by decide +kernel
theorem dX11_now_119 : decode cX11_now 119 = .ok (.invokevirtual 344, 3) := by decide +kernel
theorem dX11_now_122 : decode cX11_now 122 = .ok (.ireturn, 1) := by decide +kernel
theorem dX11_now_123 : decode cX11_now 123 = .ok (.iload_n 2, 1) := by decide +kernel
theorem dX11_now_124 : decode cX11_now 124 = .ok (.ireturn, 1) := by decide +kernel
theorem dX11_now_125 : decode cX11_now 125 = .ok (.aload_n 0, 1) := by decide +kernel
theorem dX11_now_126 : decode cX11_now 126 = .ok (.getfield 33, 3) := by decide +kernel
theorem dX11_now_129 : decode cX11_now 129 = .ok (.sipush 541, 3) := by decide +kernel
theorem dX11_now_132 : decode cX11_now 132 = .ok (.iaload, 1) := by decide +kernel
theorem dX11_now_133 : decode cX11_now 133 = .ok (.iconst 1, 1) := by decide +kernel
theorem dX11_now_134 : decode cX11_now 134 = .ok (.isub, 1) := by decide +kernel
theorem dX11_now_135 : decode cX11_now 135 = .ok (.ireturn, 1) := by decide +kernel
theorem dX11_now_136 : decode cX11_now 136 = .ok (.aload_n 0, 1) := by decide +kernel
theorem dX11_now_137 : decode cX11_now 137 = .ok (.getfield 33, 3) := by decide +kernel
theorem dX11_now_140 : decode cX11_now 140 = .ok (.sipush 542, 3) := by decide +kernel
theorem dX11_now_143 : decode cX11_now 143 = .ok (.iaload, 1) := by decide +kernel
theorem dX11_now_144 : decode cX11_now 144 = .ok (.ireturn, 1) := by decide +kernel
theorem dX11_now_145 : decode cX11_now 145 = .ok (.iconst (-1), 1) := by decide +kernel
theorem dX11_now_146 : decode cX11_now 146 = .ok (.ireturn, 1) := by decide +kernel
theorem dX11_atLast_0 : decode cX11_atLast 0 = .ok (.aload_n 0, 1) := by decide +kernel
theorem dX11_atLast_1 : decode cX11_atLast 1 = .ok (.bipush 48, 2) := by decide +kernel
theorem dX11_atLast_3 : decode cX11_atLast 3 = .ok (.invokevirtual 338, 3) := by decide +kernel
theorem dX11_atLast_6 : decode cX11_atLast 6 = .ok (.pop, 1) := by decide +kernel
theorem dX11_atLast_7 : decode cX11_atLast 7 = .ok (.aload_n 0, 1) := by decide +kernel
theorem dX11_atLast_8 : decode cX11_atLast 8 = .ok (.iload_n 1, 1) := by decide +kernel
theorem dX11_atLast_9 : decode cX11_atLast 9 = .ok (.invokevirtual 362, 3) := by decide +kernel
theorem dX11_atLast_12 : decode cX11_atLast 12 = .ok (.ireturn, 1) := by decide +kernel
theorem dX11_fence_0 : decode cX11_fence 0 = .ok (.aload_n 0, 1) := by decide +kernel
theorem dX11_fence_1 : decode cX11_fence 1 = .ok (.iconst 0, 1) := by decide +kernel
theorem dX11_fence_2 : decode cX11_fence 2 = .ok (.putfield 1, 3) := by decide +kernel
theorem dX11_fence_5 : decode cX11_fence 5 = .ok (.aload_n 0, 1) := by decide +kernel
theorem dX11_fence_6 : decode cX11_fence 6 = .ok (.iload_n 1, 1) := by decide +kernel
theorem dX11_fence_7 : decode cX11_fence 7 = .ok (.invokevirtual 281, 3) := by decide +kernel
theorem dX11_fence_10 : decode cX11_fence 10 = .ok (.ifCond .eq 12, 3) := by decide +kernel
theorem dX11_fence_13 : decode cX11_fence 13 = .ok (.aload_n 0, 1) := by decide +kernel
theorem dX11_fence_14 : decode cX11_fence 14 = .ok (.invokevirtual 344, 3) := by decide +kernel
theorem dX11_fence_17 : decode cX11_fence 17 = .ok (.bipush 12, 2) := by decide +kernel
theorem dX11_fence_19 : decode cX11_fence 19 = .ok (.if_icmp .ne 5, 3) := by decide +kernel
theorem dX11_fence_22 : decode cX11_fence 22 = .ok (.iconst (-1), 1) := by decide +kernel
theorem dX11_fence_23 : decode cX11_fence 23 = .ok (.ireturn, 1) := by decide +kernel
theorem dX11_fence_24 : decode cX11_fence 24 = .ok (.aload_n 0, 1) := by decide +kernel
theorem dX11_fence_25 : decode cX11_fence 25 = .ok (.invokevirtual 325, 3) := by decide +kernel
theorem dX11_fence_28 : decode cX11_fence 28 = .ok (.aload_n 0, 1) := by decide +kernel
theorem dX11_fence_29 : decode cX11_fence 29 = .ok (.iload_n 1, 1) := by decide +kernel
theorem dX11_fence_30 : decode cX11_fence 30 = .ok (.invokevirtual 365, 3) := by decide +kernel
theorem dX11_fence_33 : decode cX11_fence 33 = .ok (.istore_n 2, 1) := by decide +kernel
theorem dX11_fence_34 : decode cX11_fence 34 = .ok (.aload_n 0, 1) := by decide +kernel
theorem dX11_fence_35 : decode cX11_fence 35 = .ok (.invokevirtual 328, 3) := by decide +kernel
theorem dX11_fence_38 : decode cX11_fence 38 = .ok (.iconst (-1), 1) := by decide +kernel
theorem dX11_fence_39 : decode cX11_fence 39 = .ok (.istore_n 3, 1) := by decide +kernel
theorem dX11_fence_40 : decode cX11_fence 40 = .ok (.iload_n 2, 1) := by decide +kernel
theorem dX11_fence_41 : decode cX11_fence 41 = .ok (.istore 4, 2) := by decide +kernel
theorem dX11_fence_43 : decode cX11_fence 43 = .ok (.iconst 0, 1) := by decide +kernel
theorem dX11_fence_44 : decode cX11_fence 44 = .ok (.istore 5, 2) := by decide +kernel
theorem dX11_fence_46 : decode cX11_fence 46 = .ok (.iload 5, 2) := by decide +kernel
theorem dX11_fence_48 : decode cX11_fence 48 = .ok (.bipush 100, 2) := by decide +kernel
theorem dX11_fence_50 : decode cX11_fence 50 = .ok (.if_icmp .ge 70, 3) := by decide +kernel
theorem dX11_fence_53 : decode cX11_fence 53 = .ok (.aload_n 0, 1) := by decide +kernel
theorem dX11_fence_54 : decode cX11_fence 54 = .ok (.iload 5, 2) := by decide +kernel
theorem dX11_fence_56 : decode cX11_fence 56 = .ok (.invokevirtual 274, 3) := by decide +kernel
theorem dX11_fence_59 : decode cX11_fence 59 = .ok (.ifCond .eq 55, 3) := by decide +kernel
theorem dX11_fence_62 : decode cX11_fence 62 = .ok (.aload_n 0, 1) := by decide +kernel
theorem dX11_fence_63 : decode cX11_fence 63 = .ok (.iload 5, 2) := by decide +kernel
theorem dX11_fence_65 : decode cX11_fence 65 = .ok (.invokevirtual 341, 3) := by decide +kernel
theorem dX11_fence_68 : decode cX11_fence 68 = .ok (.ifCond .ne 6, 3) := by decide +kernel
theorem dX11_fence_71 : decode cX11_fence 71 = .ok (.goto 43, 3) := by decide +kernel
theorem dX11_fence_74 : decode cX11_fence 74 = .ok (.aload_n 0, 1) := by decide +kernel
theorem dX11_fence_75 : decode cX11_fence 75 = .ok (.getfield 33, 3) := by decide +kernel
theorem dX11_fence_78 : decode cX11_fence 78 = .ok (.sipush 441, 3) := by decide +kernel
theorem dX11_fence_81 : decode cX11_fence 81 = .ok (.iload 5, 2) := by decide +kernel
theorem dX11_fence_83 : decode cX11_fence 83 = .ok (.iadd, 1) := by decide +kernel
theorem dX11_fence_84 : decode cX11_fence 84 = .ok (.iconst 1, 1) := by decide +kernel
theorem dX11_fence_85 : decode cX11_fence 85 = .ok (.iastore, 1) := by decide +kernel
theorem dX11_fence_86 : decode cX11_fence 86 = .ok (.aload_n 0, 1) := by decide +kernel
theorem dX11_fence_87 : decode cX11_fence 87 = .ok (.iload_n 1, 1) := by decide +kernel
theorem dX11_fence_88 : decode cX11_fence 88 = .ok (.invokevirtual 365, 3) := by decide +kernel
theorem dX11_fence_91 : decode cX11_fence 91 = .ok (.istore 6, 2) := by decide +kernel
theorem dX11_fence_93 : decode cX11_fence 93 = .ok (.aload_n 0, 1) := by decide +kernel
theorem dX11_fence_94 : decode cX11_fence 94 = .ok (.invokevirtual 328, 3) := by decide +kernel
theorem dX11_fence_97 : decode cX11_fence 97 = .ok (.iload 6, 2) := by decide +kernel
theorem dX11_fence_99 : decode cX11_fence 99 = .ok (.iload 4, 2) := by decide +kernel
theorem dX11_fence_101 : decode cX11_fence 101 = .ok (.if_icmp .gt 6, 3) := by decide +kernel
theorem dX11_fence_104 : decode cX11_fence 104 = .ok (.goto 10, 3) := by decide +kernel
theorem dX11_fence_107 : decode cX11_fence 107 = .ok (.iload 6, 2) := by decide +kernel
theorem dX11_fence_109 : decode cX11_fence 109 = .ok (.istore 4, 2) := by decide +kernel
theorem dX11_fence_111 : decode cX11_fence 111 = .ok (.iload 5, 2) := by decide +kernel
theorem dX11_fence_113 : decode cX11_fence 113 = .ok (.istore_n 3, 1) := by decide +kernel
theorem dX11_fence_114 : decode cX11_fence 114 = .ok (.iinc 5 1, 3) := by decide +kernel
theorem dX11_fence_117 : decode cX11_fence 117 = .ok (.goto (-71), 3) := by decide +kernel
theorem dX11_fence_120 : decode cX11_fence 120 = .ok (.iload_n 3, 1) := by decide +kernel
theorem dX11_fence_121 : decode cX11_fence 121 = .ok (.ifCond .lt 16, 3) := by decide +kernel
theorem dX11_fence_124 : decode cX11_fence 124 = .ok (.aload_n 0, 1) := by decide +kernel
theorem dX11_fence_125 : decode cX11_fence 125 = .ok (.iload 4, 2) := by decide +kernel
theorem dX11_fence_127 : decode cX11_fence 127 = .ok (.iload_n 2, 1) := by decide +kernel
theorem dX11_fence_128 : decode cX11_fence 128 = .ok (.isub, 1) := by decide +kernel
theorem dX11_fence_129 : decode cX11_fence 129 = .ok (.putfield 368, 3) := by decide +kernel
theorem dX11_fence_132 : decode cX11_fence 132 = .ok (.aload_n 0, 1) := by decide +kernel
theorem dX11_fence_133 : decode cX11_fence 133 = .ok (.iconst 1, 1) := by decide +kernel
theorem dX11_fence_134 : decode cX11_fence 134 = .ok (.putfield 371, 3) := by decide +kernel
theorem dX11_fence_137 : decode cX11_fence 137 = .ok (.iload_n 3, 1) := by decide +kernel
theorem dX11_fence_138 : decode cX11_fence 138 = .ok (.ireturn, 1) := by decide +kernel
theorem dX11_more_0 : decode cX11_more 0 = .ok (.aload_n 0, 1) := by decide +kernel
theorem dX11_more_1 : decode cX11_more 1 = .ok (.iconst 0, 1) := by decide +kernel
theorem dX11_more_2 : decode cX11_more 2 = .ok (.putfield 1, 3) := by decide +kernel
theorem dX11_more_5 : decode cX11_more 5 = .ok (.aload_n 0, 1) := by decide +kernel
theorem dX11_more_6 : decode cX11_more 6 = .ok (.getfield 371, 3) := by decide +kernel
theorem dX11_more_9 : decode cX11_more 9 = .ok (.ifCond .eq 10, 3) := by decide +kernel
theorem dX11_more_12 : decode cX11_more 12 = .ok (.aload_n 0, 1) := by decide +kernel
theorem dX11_more_13 : decode cX11_more 13 = .ok (.getfield 368, 3) := by decide +kernel
theorem dX11_more_16 : decode cX11_more 16 = .ok (.goto 4, 3) := by decide +kernel
theorem dX11_more_19 : decode cX11_more 19 = .ok (.iconst (-1), 1) := by decide +kernel
theorem dX11_more_20 : decode cX11_more 20 = .ok (.ireturn, 1) := by decide +kernel
theorem dX11_plotters_0 : decode cX11_plotters 0 = .ok (.iconst 0, 1) := by decide +kernel
theorem dX11_plotters_1 : decode cX11_plotters 1 = .ok (.istore_n 1, 1) := by decide +kernel
theorem dX11_plotters_2 : decode cX11_plotters 2 = .ok (.iconst 0, 1) := by decide +kernel
theorem dX11_plotters_3 : decode cX11_plotters 3 = .ok (.istore_n 2, 1) := by decide +kernel
theorem dX11_plotters_4 : decode cX11_plotters 4 = .ok (.iload_n 2, 1) := by decide +kernel
theorem dX11_plotters_5 : decode cX11_plotters 5 = .ok (.aload_n 0, 1) := by decide +kernel
theorem dX11_plotters_6 : decode cX11_plotters 6 = .ok (.getfield 33, 3) := by decide +kernel
theorem dX11_plotters_9 : decode cX11_plotters 9 = .ok (.iconst 2, 1) := by decide +kernel
theorem dX11_plotters_10 : decode cX11_plotters 10 = .ok (.iaload, 1) := by decide +kernel
theorem dX11_plotters_11 : decode cX11_plotters 11 = .ok (.if_icmp .ge 45, 3) := by decide +kernel
theorem dX11_plotters_14 : decode cX11_plotters 14 = .ok (.aload_n 0, 1) := by decide +kernel
theorem dX11_plotters_15 : decode cX11_plotters 15 = .ok (.getfield 33, 3) := by decide +kernel
theorem dX11_plotters_18 : decode cX11_plotters 18 = .ok (.bipush 55, 2) := by decide +kernel
theorem dX11_plotters_20 : decode cX11_plotters 20 = .ok (.iload_n 2, 1) := by decide +kernel
theorem dX11_plotters_21 : decode cX11_plotters 21 = .ok (.iadd, 1) := by decide +kernel
theorem dX11_plotters_22 : decode cX11_plotters 22 = .ok (.iaload, 1) := by decide +kernel
theorem dX11_plotters_23 : decode cX11_plotters 23 = .ok (.ifCond .le 27, 3) := by decide +kernel
theorem dX11_plotters_26 : decode cX11_plotters 26 = .ok (.aload_n 0, 1) := by decide +kernel
theorem dX11_plotters_27 : decode cX11_plotters 27 = .ok (.aload_n 0, 1) := by decide +kernel
theorem dX11_plotters_28 : decode cX11_plotters 28 = .ok (.getfield 33, 3) := by decide +kernel
theorem dX11_plotters_31 : decode cX11_plotters 31 = .ok (.bipush 55, 2) := by decide +kernel
theorem dX11_plotters_33 : decode cX11_plotters 33 = .ok (.iload_n 2, 1) := by decide +kernel
theorem dX11_plotters_34 : decode cX11_plotters 34 = .ok (.iadd, 1) := by decide +kernel
theorem dX11_plotters_35 : decode cX11_plotters 35 = .ok (.iaload, 1) := by decide +kernel
theorem dX11_plotters_36 : decode cX11_plotters 36 = .ok (.iconst 1, 1) := by decide +kernel
theorem dX11_plotters_37 : decode cX11_plotters 37 = .ok (.isub, 1) := by decide +kernel
theorem dX11_plotters_38 : decode cX11_plotters 38 = .ok (.invokevirtual 341, 3) := by decide +kernel
theorem dX11_plotters_41 : decode cX11_plotters 41 = .ok (.ifCond .eq 9, 3) := by decide +kernel
theorem dX11_plotters_44 : decode cX11_plotters 44 = .ok (.iload_n 1, 1) := by decide +kernel
theorem dX11_plotters_45 : decode cX11_plotters 45 = .ok (.iconst 1, 1) := by decide +kernel
theorem dX11_plotters_46 : decode cX11_plotters 46 = .ok (.iload_n 2, 1) := by decide +kernel
theorem dX11_plotters_47 : decode cX11_plotters 47 = .ok (.ishl, 1) := by decide +kernel
theorem dX11_plotters_48 : decode cX11_plotters 48 = .ok (.ior, 1) := by decide +kernel
theorem dX11_plotters_49 : decode cX11_plotters 49 = .ok (.istore_n 1, 1) := by decide +kernel
theorem dX11_plotters_50 : decode cX11_plotters 50 = .ok (.iinc 2 1, 3) := by decide +kernel
theorem dX11_plotters_53 : decode cX11_plotters 53 = .ok (.goto (-49), 3) := by decide +kernel
theorem dX11_plotters_56 : decode cX11_plotters 56 = .ok (.iload_n 1, 1) := by decide +kernel
theorem dX11_plotters_57 : decode cX11_plotters 57 = .ok (.ireturn, 1) := by decide +kernel
theorem dX11_fenced_0 : decode cX11_fenced 0 = .ok (.iconst 0, 1) := by decide +kernel
theorem dX11_fenced_1 : decode cX11_fenced 1 = .ok (.istore_n 2, 1) := by decide +kernel
theorem dX11_fenced_2 : decode cX11_fenced 2 = .ok (.iload_n 2, 1) := by decide +kernel
theorem dX11_fenced_3 : decode cX11_fenced 3 = .ok (.aload_n 0, 1) := by decide +kernel
theorem dX11_fenced_4 : decode cX11_fenced 4 = .ok (.getfield 33, 3) := by decide +kernel
theorem dX11_fenced_7 : decode cX11_fenced 7 = .ok (.iconst 2, 1) := by decide +kernel
theorem dX11_fenced_8 : decode cX11_fenced 8 = .ok (.iaload, 1) := by decide +kernel
theorem dX11_fenced_9 : decode cX11_fenced 9 = .ok (.if_icmp .ge 38, 3) := by decide +kernel
theorem dX11_fenced_12 : decode cX11_fenced 12 = .ok (.iload_n 1, 1) := by decide +kernel
theorem dX11_fenced_13 : decode cX11_fenced 13 = .ok (.iload_n 2, 1) := by decide +kernel
theorem dX11_fenced_14 : decode cX11_fenced 14 = .ok (.invokestatic 237, 3) := by decide +kernel
theorem dX11_fenced_17 : decode cX11_fenced 17 = .ok (.ifCond .eq 24, 3) := by decide +kernel
theorem dX11_fenced_20 : decode cX11_fenced 20 = .ok (.aload_n 0, 1) := by decide +kernel
theorem dX11_fenced_21 : decode cX11_fenced 21 = .ok (.getfield 33, 3) := by decide +kernel
theorem dX11_fenced_24 : decode cX11_fenced 24 = .ok (.sipush 441, 3) := by decide +kernel
theorem dX11_fenced_27 : decode cX11_fenced 27 = .ok (.aload_n 0, 1) := by decide +kernel
theorem dX11_fenced_28 : decode cX11_fenced 28 = .ok (.getfield 33, 3) := by decide +kernel
theorem dX11_fenced_31 : decode cX11_fenced 31 = .ok (.bipush 55, 2) := by decide +kernel
theorem dX11_fenced_33 : decode cX11_fenced 33 = .ok (.iload_n 2, 1) := by decide +kernel
theorem dX11_fenced_34 : decode cX11_fenced 34 = .ok (.iadd, 1) := by decide +kernel
theorem dX11_fenced_35 : decode cX11_fenced 35 = .ok (.iaload, 1) := by decide +kernel
theorem dX11_fenced_36 : decode cX11_fenced 36 = .ok (.iadd, 1) := by decide +kernel
theorem dX11_fenced_37 : decode cX11_fenced 37 = .ok (.iconst 1, 1) := by decide +kernel
theorem dX11_fenced_38 : decode cX11_fenced 38 = .ok (.isub, 1) := by decide +kernel
theorem dX11_fenced_39 : decode cX11_fenced 39 = .ok (.iconst 1, 1) := by decide +kernel
theorem dX11_fenced_40 : decode cX11_fenced 40 = .ok (.iastore, 1) := by decide +kernel
theorem dX11_fenced_41 : decode cX11_fenced 41 = .ok (.iinc 2 1, 3) := by decide +kernel
theorem dX11_fenced_44 : decode cX11_fenced 44 = .ok (.goto (-42), 3) := by decide +kernel
theorem dX11_fenced_47 : decode cX11_fenced 47 = .ok (.return_, 1) := by decide +kernel
theorem dX11_has_0 : decode cX11_has 0 = .ok (.aload_n 0, 1) := by decide +kernel
theorem dX11_has_1 : decode cX11_has 1 = .ok (.iconst 0, 1) := by decide +kernel
theorem dX11_has_2 : decode cX11_has 2 = .ok (.putfield 1, 3) := by decide +kernel
theorem dX11_has_5 : decode cX11_has 5 = .ok (.aload_n 0, 1) := by decide +kernel
theorem dX11_has_6 : decode cX11_has 6 = .ok (.iload_n 1, 1) := by decide +kernel
theorem dX11_has_7 : decode cX11_has 7 = .ok (.invokevirtual 281, 3) := by decide +kernel
theorem dX11_has_10 : decode cX11_has 10 = .ok (.ifCond .eq 18, 3) := by decide +kernel
theorem dX11_has_13 : decode cX11_has 13 = .ok (.iload_n 2, 1) := by decide +kernel
theorem dX11_has_14 : decode cX11_has 14 = .ok (.ifCond .lt 14, 3) := by decide +kernel
theorem dX11_has_17 : decode cX11_has 17 = .ok (.iload_n 2, 1) := by decide +kernel
theorem dX11_has_18 : decode cX11_has 18 = .ok (.aload_n 0, 1) := by decide +kernel
theorem dX11_has_19 : decode cX11_has 19 = .ok (.invokevirtual 374, 3) := by decide +kernel
theorem dX11_has_22 : decode cX11_has 22 = .ok (.iconst (-1), 1) := by decide +kernel
theorem dX11_has_23 : decode cX11_has 23 = .ok (.ixor, 1) := by decide +kernel
theorem dX11_has_24 : decode cX11_has 24 = .ok (.iand, 1) := by decide +kernel
theorem dX11_has_25 : decode cX11_has 25 = .ok (.ifCond .eq 5, 3) := by decide +kernel
theorem dX11_has_28 : decode cX11_has 28 = .ok (.iconst (-1), 1) := by decide +kernel
theorem dX11_has_29 : decode cX11_has 29 = .ok (.ireturn, 1) := by decide +kernel
theorem dX11_has_30 : decode cX11_has 30 = .ok (.aload_n 0, 1) := by decide +kernel
theorem dX11_has_31 : decode cX11_has 31 = .ok (.invokevirtual 325, 3) := by decide +kernel
theorem dX11_has_34 : decode cX11_has 34 = .ok (.aload_n 0, 1) := by decide +kernel
theorem dX11_has_35 : decode cX11_has 35 = .ok (.iload_n 2, 1) := by decide +kernel
theorem dX11_has_36 : decode cX11_has 36 = .ok (.invokevirtual 377, 3) := by decide +kernel
theorem dX11_has_39 : decode cX11_has 39 = .ok (.aload_n 0, 1) := by decide +kernel
theorem dX11_has_40 : decode cX11_has 40 = .ok (.iload_n 1, 1) := by decide +kernel
theorem dX11_has_41 : decode cX11_has 41 = .ok (.invokevirtual 365, 3) := by decide +kernel
theorem dX11_has_44 : decode cX11_has 44 = .ok (.istore_n 3, 1) := by decide +kernel
theorem dX11_has_45 : decode cX11_has 45 = .ok (.aload_n 0, 1) := by decide +kernel
theorem dX11_has_46 : decode cX11_has 46 = .ok (.invokevirtual 328, 3) := by decide +kernel
theorem dX11_has_49 : decode cX11_has 49 = .ok (.iload_n 3, 1) := by decide +kernel
theorem dX11_has_50 : decode cX11_has 50 = .ok (.ireturn, 1) := by decide +kernel
theorem dX11_rests_0 : decode cX11_rests 0 = .ok (.aload_n 0, 1) := by decide +kernel
theorem dX11_rests_1 : decode cX11_rests 1 = .ok (.iconst 0, 1) := by decide +kernel
theorem dX11_rests_2 : decode cX11_rests 2 = .ok (.putfield 1, 3) := by decide +kernel
theorem dX11_rests_5 : decode cX11_rests 5 = .ok (.iload_n 1, 1) := by decide +kernel
theorem dX11_rests_6 : decode cX11_rests 6 = .ok (.iconst (-1), 1) := by decide +kernel
theorem dX11_rests_7 : decode cX11_rests 7 = .ok (.if_icmp .ge 5, 3) := by decide +kernel
theorem dX11_rests_10 : decode cX11_rests 10 = .ok (.iconst (-1), 1) := by decide +kernel
theorem dX11_rests_11 : decode cX11_rests 11 = .ok (.ireturn, 1) := by decide +kernel
theorem dX11_rests_12 : decode cX11_rests 12 = .ok (.aload_n 0, 1) := by decide +kernel
theorem dX11_rests_13 : decode cX11_rests 13 = .ok (.invokevirtual 374, 3) := by decide +kernel
theorem dX11_rests_16 : decode cX11_rests 16 = .ok (.istore_n 2, 1) := by decide +kernel
theorem dX11_rests_17 : decode cX11_rests 17 = .ok (.aload_n 0, 1) := by decide +kernel
theorem dX11_rests_18 : decode cX11_rests 18 = .ok (.invokevirtual 325, 3) := by decide +kernel
theorem dX11_rests_21 : decode cX11_rests 21 = .ok (.iconst 0, 1) := by decide +kernel
theorem dX11_rests_22 : decode cX11_rests 22 = .ok (.istore_n 3, 1) := by decide +kernel
theorem dX11_rests_23 : decode cX11_rests 23 = .ok (.iload_n 3, 1) := by decide +kernel
theorem dX11_rests_24 : decode cX11_rests 24 = .ok (.iload_n 2, 1) := by decide +kernel
theorem dX11_rests_25 : decode cX11_rests 25 = .ok (.if_icmp .gt 74, 3) := by decide +kernel
theorem dX11_rests_28 : decode cX11_rests 28 = .ok (.iload_n 3, 1) := by decide +kernel
theorem dX11_rests_29 : decode cX11_rests 29 = .ok (.iload_n 2, 1) := by decide +kernel
theorem dX11_rests_30 : decode cX11_rests 30 = .ok (.iconst (-1), 1) := by decide +kernel
theorem dX11_rests_31 : decode cX11_rests 31 = .ok (.ixor, 1) := by decide +kernel
theorem dX11_rests_32 : decode cX11_rests 32 = .ok (.iand, 1) := by decide +kernel
theorem dX11_rests_33 : decode cX11_rests 33 = .ok (.ifCond .eq 6, 3) := by decide +kernel
theorem dX11_rests_36 : decode cX11_rests 36 = .ok (.goto 57, 3) := by decide +kernel
theorem dX11_rests_39 : decode cX11_rests 39 = .ok (.aload_n 0, 1) := by decide +kernel
theorem dX11_rests_40 : decode cX11_rests 40 = .ok (.iload_n 3, 1) := by decide +kernel
theorem dX11_rests_41 : decode cX11_rests 41 = .ok (.invokevirtual 377, 3) := by decide +kernel
theorem dX11_rests_44 : decode cX11_rests 44 = .ok (.aload_n 0, 1) := by decide +kernel
theorem dX11_rests_45 : decode cX11_rests 45 = .ok (.bipush 48, 2) := by decide +kernel
theorem dX11_rests_47 : decode cX11_rests 47 = .ok (.invokevirtual 338, 3) := by decide +kernel
theorem dX11_rests_50 : decode cX11_rests 50 = .ok (.pop, 1) := by decide +kernel
theorem dX11_rests_51 : decode cX11_rests 51 = .ok (.iconst 0, 1) := by decide +kernel
theorem dX11_rests_52 : decode cX11_rests 52 = .ok (.istore 4, 2) := by decide +kernel
theorem dX11_rests_54 : decode cX11_rests 54 = .ok (.iload 4, 2) := by decide +kernel
theorem dX11_rests_56 : decode cX11_rests 56 = .ok (.aload_n 0, 1) := by decide +kernel
theorem dX11_rests_57 : decode cX11_rests 57 = .ok (.getfield 33, 3) := by decide +kernel
theorem dX11_rests_60 : decode cX11_rests 60 = .ok (.iconst 2, 1) := by decide +kernel
theorem dX11_rests_61 : decode cX11_rests 61 = .ok (.iaload, 1) := by decide +kernel
theorem dX11_rests_62 : decode cX11_rests 62 = .ok (.if_icmp .ge 27, 3) := by decide +kernel
theorem dX11_rests_65 : decode cX11_rests 65 = .ok (.aload_n 0, 1) := by decide +kernel
theorem dX11_rests_66 : decode cX11_rests 66 = .ok (.getfield 62, 3) := by decide +kernel
theorem dX11_rests_69 : decode cX11_rests 69 = .ok (.bipush 8, 2) := by decide +kernel
theorem dX11_rests_71 : decode cX11_rests 71 = .ok (.iload_n 3, 1) := by decide +kernel
theorem dX11_rests_72 : decode cX11_rests 72 = .ok (.imul, 1) := by decide +kernel
theorem dX11_rests_73 : decode cX11_rests 73 = .ok (.iload 4, 2) := by decide +kernel
theorem dX11_rests_75 : decode cX11_rests 75 = .ok (.iadd, 1) := by decide +kernel
theorem dX11_rests_76 : decode cX11_rests 76 = .ok (.aload_n 0, 1) := by decide +kernel
theorem dX11_rests_77 : decode cX11_rests 77 = .ok (.iload 4, 2) := by decide +kernel
theorem dX11_rests_79 : decode cX11_rests 79 = .ok (.invokevirtual 362, 3) := by decide +kernel
theorem dX11_rests_82 : decode cX11_rests 82 = .ok (.iastore, 1) := by decide +kernel
theorem dX11_rests_83 : decode cX11_rests 83 = .ok (.iinc 4 1, 3) := by decide +kernel
theorem dX11_rests_86 : decode cX11_rests 86 = .ok (.goto (-32), 3) := by decide +kernel
theorem dX11_rests_89 : decode cX11_rests 89 = .ok (.aload_n 0, 1) := by decide +kernel
theorem dX11_rests_90 : decode cX11_rests 90 = .ok (.invokevirtual 328, 3) := by decide +kernel
theorem dX11_rests_93 : decode cX11_rests 93 = .ok (.iinc 3 1, 3) := by decide +kernel
theorem dX11_rests_96 : decode cX11_rests 96 = .ok (.goto (-73), 3) := by decide +kernel
theorem dX11_rests_99 : decode cX11_rests 99 = .ok (.iconst 0, 1) := by decide +kernel
theorem dX11_rests_100 : decode cX11_rests 100 = .ok (.istore_n 3, 1) := by decide +kernel
theorem dX11_rests_101 : decode cX11_rests 101 = .ok (.iconst 0, 1) := by decide +kernel
theorem dX11_rests_102 : decode cX11_rests 102 = .ok (.istore 4, 2) := by decide +kernel
theorem dX11_rests_104 : decode cX11_rests 104 = .ok (.iload 4, 2) := by decide +kernel
theorem dX11_rests_106 : decode cX11_rests 106 = .ok (.iload_n 2, 1) := by decide +kernel
theorem dX11_rests_107 : decode cX11_rests 107 = .ok (.if_icmp .gt 119, 3) := by decide +kernel
theorem dX11_rests_110 : decode cX11_rests 110 = .ok (.iload 4, 2) := by decide +kernel
theorem dX11_rests_112 : decode cX11_rests 112 = .ok (.iload_n 2, 1) := by decide +kernel
theorem dX11_rests_113 : decode cX11_rests 113 = .ok (.iconst (-1), 1) := by decide +kernel
theorem dX11_rests_114 : decode cX11_rests 114 = .ok (.ixor, 1) := by decide +kernel
theorem dX11_rests_115 : decode cX11_rests 115 = .ok (.iand, 1) := by decide +kernel
theorem dX11_rests_116 : decode cX11_rests 116 = .ok (.ifCond .ne 7, 3) := by decide +kernel
theorem dX11_rests_119 : decode cX11_rests 119 = .ok (.iconst 1, 1) := by decide +kernel
theorem dX11_rests_120 : decode cX11_rests 120 = .ok (.goto 4, 3) := by decide +kernel
theorem dX11_rests_123 : decode cX11_rests 123 = .ok (.iconst 0, 1) := by decide +kernel
theorem dX11_rests_124 : decode cX11_rests 124 = .ok (.istore 5, 2) := by decide +kernel
theorem dX11_rests_126 : decode cX11_rests 126 = .ok (.iconst 0, 1) := by decide +kernel
theorem dX11_rests_127 : decode cX11_rests 127 = .ok (.istore 6, 2) := by decide +kernel
theorem dX11_rests_129 : decode cX11_rests 129 = .ok (.iload 6, 2) := by decide +kernel
theorem dX11_rests_131 : decode cX11_rests 131 = .ok (.aload_n 0, 1) := by decide +kernel
theorem dX11_rests_132 : decode cX11_rests 132 = .ok (.getfield 33, 3) := by decide +kernel
theorem dX11_rests_135 : decode cX11_rests 135 = .ok (.iconst 2, 1) := by decide +kernel
theorem dX11_rests_136 : decode cX11_rests 136 = .ok (.iaload, 1) := by decide +kernel
theorem dX11_rests_137 : decode cX11_rests 137 = .ok (.if_icmp .ge 64, 3) := by decide +kernel
theorem dX11_rests_140 : decode cX11_rests 140 = .ok (.iload 5, 2) := by decide +kernel
theorem dX11_rests_142 : decode cX11_rests 142 = .ok (.ifCond .eq 59, 3) := by decide +kernel
theorem dX11_rests_145 : decode cX11_rests 145 = .ok (.iload_n 2, 1) := by decide +kernel
theorem dX11_rests_146 : decode cX11_rests 146 = .ok (.iload 6, 2) := by decide +kernel
theorem dX11_rests_148 : decode cX11_rests 148 = .ok (.invokestatic 237, 3) := by decide +kernel
theorem dX11_rests_151 : decode cX11_rests 151 = .ok (.ifCond .eq 37, 3) := by decide +kernel
theorem dX11_rests_154 : decode cX11_rests 154 = .ok (.aload_n 0, 1) := by decide +kernel
theorem dX11_rests_155 : decode cX11_rests 155 = .ok (.getfield 62, 3) := by decide +kernel
theorem dX11_rests_158 : decode cX11_rests 158 = .ok (.bipush 8, 2) := by decide +kernel
theorem dX11_rests_160 : decode cX11_rests 160 = .ok (.iload 4, 2) := by decide +kernel
theorem dX11_rests_162 : decode cX11_rests 162 = .ok (.iconst 1, 1) := by decide +kernel
theorem dX11_rests_163 : decode cX11_rests 163 = .ok (.iload 6, 2) := by decide +kernel
theorem dX11_rests_165 : decode cX11_rests 165 = .ok (.ishl, 1) := by decide +kernel
theorem dX11_rests_166 : decode cX11_rests 166 = .ok (.ixor, 1) := by decide +kernel
theorem dX11_rests_167 : decode cX11_rests 167 = .ok (.imul, 1) := by decide +kernel
theorem dX11_rests_168 : decode cX11_rests 168 = .ok (.iload 6, 2) := by decide +kernel
theorem dX11_rests_170 : decode cX11_rests 170 = .ok (.iadd, 1) := by decide +kernel
theorem dX11_rests_171 : decode cX11_rests 171 = .ok (.iaload, 1) := by decide +kernel
theorem dX11_rests_172 : decode cX11_rests 172 = .ok (.aload_n 0, 1) := by decide +kernel
theorem dX11_rests_173 : decode cX11_rests 173 = .ok (.getfield 62, 3) := by decide +kernel
theorem dX11_rests_176 : decode cX11_rests 176 = .ok (.bipush 8, 2) := by decide +kernel
theorem dX11_rests_178 : decode cX11_rests 178 = .ok (.iload 4, 2) := by decide +kernel
theorem dX11_rests_180 : decode cX11_rests 180 = .ok (.imul, 1) := by decide +kernel
theorem dX11_rests_181 : decode cX11_rests 181 = .ok (.iload 6, 2) := by decide +kernel
theorem dX11_rests_183 : decode cX11_rests 183 = .ok (.iadd, 1) := by decide +kernel
theorem dX11_rests_184 : decode cX11_rests 184 = .ok (.iaload, 1) := by decide +kernel
theorem dX11_rests_185 : decode cX11_rests 185 = .ok (.if_icmp .gt 7, 3) := by decide +kernel
theorem dX11_rests_188 : decode cX11_rests 188 = .ok (.iconst 1, 1) := by decide +kernel
theorem dX11_rests_189 : decode cX11_rests 189 = .ok (.goto 4, 3) := by decide +kernel
theorem dX11_rests_192 : decode cX11_rests 192 = .ok (.iconst 0, 1) := by decide +kernel
theorem dX11_rests_193 : decode cX11_rests 193 = .ok (.istore 5, 2) := by decide +kernel
theorem dX11_rests_195 : decode cX11_rests 195 = .ok (.iinc 6 1, 3) := by decide +kernel
theorem dX11_rests_198 : decode cX11_rests 198 = .ok (.goto (-69), 3) := by decide +kernel
theorem dX11_rests_201 : decode cX11_rests 201 = .ok (.iload 5, 2) := by decide +kernel
theorem dX11_rests_203 : decode cX11_rests 203 = .ok (.ifCond .ne 6, 3) := by decide +kernel
theorem dX11_rests_206 : decode cX11_rests 206 = .ok (.goto 14, 3) := by decide +kernel
theorem dX11_rests_209 : decode cX11_rests 209 = .ok (.iload_n 3, 1) := by decide +kernel
theorem dX11_rests_210 : decode cX11_rests 210 = .ok (.iload_n 1, 1) := by decide +kernel
theorem dX11_rests_211 : decode cX11_rests 211 = .ok (.if_icmp .ne 6, 3) := by decide +kernel
theorem dX11_rests_214 : decode cX11_rests 214 = .ok (.iload 4, 2) := by decide +kernel
theorem dX11_rests_216 : decode cX11_rests 216 = .ok (.ireturn, 1) := by decide +kernel
theorem dX11_rests_217 : decode cX11_rests 217 = .ok (.iinc 3 1, 3) := by decide +kernel
theorem dX11_rests_220 : decode cX11_rests 220 = .ok (.iinc 4 1, 3) := by decide +kernel
theorem dX11_rests_223 : decode cX11_rests 223 = .ok (.goto (-119), 3) := by decide +kernel
theorem dX11_rests_226 : decode cX11_rests 226 = .ok (.iload_n 1, 1) := by decide +kernel
theorem dX11_rests_227 : decode cX11_rests 227 = .ok (.iconst (-1), 1) := by decide +kernel
theorem dX11_rests_228 : decode cX11_rests 228 = .ok (.if_icmp .ne 7, 3) := by decide +kernel
theorem dX11_rests_231 : decode cX11_rests 231 = .ok (.iload_n 3, 1) := by decide +kernel
theorem dX11_rests_232 : decode cX11_rests 232 = .ok (.goto 4, 3) := by decide +kernel
theorem dX11_rests_235 : decode cX11_rests 235 = .ok (.iconst (-1), 1) := by decide +kernel
theorem dX11_rests_236 : decode cX11_rests 236 = .ok (.ireturn, 1) := by decide +kernel
theorem dX11_areOiled_0 : decode cX11_areOiled 0 = .ok (.aload_n 0, 1) := by decide +kernel
theorem dX11_areOiled_1 : decode cX11_areOiled 1 = .ok (.invokevirtual 261, 3) := by decide +kernel
theorem dX11_areOiled_4 : decode cX11_areOiled 4 = .ok (.iconst 0, 1) := by decide +kernel
theorem dX11_areOiled_5 : decode cX11_areOiled 5 = .ok (.istore 4, 2) := by decide +kernel
theorem dX11_areOiled_7 : decode cX11_areOiled 7 = .ok (.iload 4, 2) := by decide +kernel
theorem dX11_areOiled_9 : decode cX11_areOiled 9 = .ok (.iload_n 3, 1) := by decide +kernel
theorem dX11_areOiled_10 : decode cX11_areOiled 10 = .ok (.if_icmp .ge 24, 3) := by decide +kernel
theorem dX11_areOiled_13 : decode cX11_areOiled 13 = .ok (.iload 4, 2) := by decide +kernel
theorem dX11_areOiled_15 : decode cX11_areOiled 15 = .ok (.iload_n 2, 1) := by decide +kernel
theorem dX11_areOiled_16 : decode cX11_areOiled 16 = .ok (.if_icmp .ne 8, 3) := by decide +kernel
theorem dX11_areOiled_19 : decode cX11_areOiled 19 = .ok (.aload_n 0, 1) := by decide +kernel
theorem dX11_areOiled_20 : decode cX11_areOiled 20 = .ok (.iload_n 1, 1) := by decide +kernel
theorem dX11_areOiled_21 : decode cX11_areOiled 21 = .ok (.invokevirtual 353, 3) := by decide +kernel
theorem dX11_areOiled_24 : decode cX11_areOiled 24 = .ok (.aload_n 0, 1) := by decide +kernel
theorem dX11_areOiled_25 : decode cX11_areOiled 25 = .ok (.invokevirtual 322, 3) := by decide +kernel
theorem dX11_areOiled_28 : decode cX11_areOiled 28 = .ok (.iinc 4 1, 3) := by decide +kernel
theorem dX11_areOiled_31 : decode cX11_areOiled 31 = .ok (.goto (-24), 3) := by decide +kernel
theorem dX11_areOiled_34 : decode cX11_areOiled 34 = .ok (.iconst 1, 1) := by decide +kernel
theorem dX11_areOiled_35 : decode cX11_areOiled 35 = .ok (.istore 4, 2) := by decide +kernel
theorem dX11_areOiled_37 : decode cX11_areOiled 37 = .ok (.iconst 0, 1) := by decide +kernel
theorem dX11_areOiled_38 : decode cX11_areOiled 38 = .ok (.istore 5, 2) := by decide +kernel
theorem dX11_areOiled_40 : decode cX11_areOiled 40 = .ok (.iload 5, 2) := by decide +kernel
theorem dX11_areOiled_42 : decode cX11_areOiled 42 = .ok (.aload_n 0, 1) := by decide +kernel
theorem dX11_areOiled_43 : decode cX11_areOiled 43 = .ok (.getfield 33, 3) := by decide +kernel
theorem dX11_areOiled_46 : decode cX11_areOiled 46 = .ok (.iconst 2, 1) := by decide +kernel
theorem dX11_areOiled_47 : decode cX11_areOiled 47 = .ok (.iaload, 1) := by decide +kernel
theorem dX11_areOiled_48 : decode cX11_areOiled 48 = .ok (.if_icmp .ge 41, 3) := by decide +kernel
theorem dX11_areOiled_51 : decode cX11_areOiled 51 = .ok (.iload 4, 2) := by decide +kernel
theorem dX11_areOiled_53 : decode cX11_areOiled 53 = .ok (.ifCond .eq 27, 3) := by decide +kernel
theorem dX11_areOiled_56 : decode cX11_areOiled 56 = .ok (.aload_n 0, 1) := by decide +kernel
theorem dX11_areOiled_57 : decode cX11_areOiled 57 = .ok (.getfield 33, 3) := by decide +kernel
theorem dX11_areOiled_60 : decode cX11_areOiled 60 = .ok (.sipush 397, 3) := by decide +kernel
theorem dX11_areOiled_63 : decode cX11_areOiled 63 = .ok (.iload 5, 2) := by decide +kernel
theorem dX11_areOiled_65 : decode cX11_areOiled 65 = .ok (.iadd, 1) := by decide +kernel
theorem dX11_areOiled_66 : decode cX11_areOiled 66 = .ok (.iaload, 1) := by decide +kernel
theorem dX11_areOiled_67 : decode cX11_areOiled 67 = .ok (.aload_n 0, 1) := by decide +kernel
theorem dX11_areOiled_68 : decode cX11_areOiled 68 = .ok (.iload 5, 2) := by decide +kernel
theorem dX11_areOiled_70 : decode cX11_areOiled 70 = .ok (.invokevirtual 380, 3) := by decide +kernel
theorem dX11_areOiled_73 : decode cX11_areOiled 73 = .ok (.if_icmp .ne 7, 3) := by decide +kernel
theorem dX11_areOiled_76 : decode cX11_areOiled 76 = .ok (.iconst 1, 1) := by decide +kernel
theorem dX11_areOiled_77 : decode cX11_areOiled 77 = .ok (.goto 4, 3) := by decide +kernel
theorem dX11_areOiled_80 : decode cX11_areOiled 80 = .ok (.iconst 0, 1) := by decide +kernel
theorem dX11_areOiled_81 : decode cX11_areOiled 81 = .ok (.istore 4, 2) := by decide +kernel
theorem dX11_areOiled_83 : decode cX11_areOiled 83 = .ok (.iinc 5 1, 3) := by decide +kernel
theorem dX11_areOiled_86 : decode cX11_areOiled 86 = .ok (.goto (-46), 3) := by decide +kernel
theorem dX11_areOiled_89 : decode cX11_areOiled 89 = .ok (.iload 4, 2) := by decide +kernel
theorem dX11_areOiled_91 : decode cX11_areOiled 91 = .ok (.ireturn, 1) := by decide +kernel
theorem dX11_oiled_0 : decode cX11_oiled 0 = .ok (.aload_n 0, 1) := by decide +kernel
theorem dX11_oiled_1 : decode cX11_oiled 1 = .ok (.iconst 0, 1) := by decide +kernel
theorem dX11_oiled_2 : decode cX11_oiled 2 = .ok (.putfield 1, 3) := by decide +kernel
theorem dX11_oiled_5 : decode cX11_oiled 5 = .ok (.aload_n 0, 1) := by decide +kernel
theorem dX11_oiled_6 : decode cX11_oiled 6 = .ok (.sipush 940, 3) := by decide +kernel
theorem dX11_oiled_9 : decode cX11_oiled 9 = .ok (.invokevirtual 249, 3) := by decide +kernel
theorem dX11_oiled_12 : decode cX11_oiled 12 = .ok (.aload_n 0, 1) := by decide +kernel
theorem dX11_oiled_13 : decode cX11_oiled 13 = .ok (.getfield 33, 3) := by decide +kernel
theorem dX11_oiled_16 : decode cX11_oiled 16 = .ok (.iconst 2, 1) := by decide +kernel
theorem dX11_oiled_17 : decode cX11_oiled 17 = .ok (.iaload, 1) := by decide +kernel
theorem dX11_oiled_18 : decode cX11_oiled 18 = .ok (.ifCond .eq 16, 3) := by decide +kernel
theorem dX11_oiled_21 : decode cX11_oiled 21 = .ok (.aload_n 0, 1) := by decide +kernel
theorem dX11_oiled_22 : decode cX11_oiled 22 = .ok (.getfield 18, 3) := by decide +kernel
theorem dX11_oiled_25 : decode cX11_oiled 25 = .ok (.aload_n 0, 1) := by decide +kernel
theorem dX11_oiled_26 : decode cX11_oiled 26 = .ok (.getfield 33, 3) := by decide +kernel
theorem dX11_oiled_29 : decode cX11_oiled 29 = .ok (.iconst 2, 1) := by decide +kernel
theorem dX11_oiled_30 : decode cX11_oiled 30 = .ok (.iaload, 1) := by decide +kernel
theorem dX11_oiled_31 : decode cX11_oiled 31 = .ok (.if_icmp .eq 5, 3) := by decide +kernel
theorem dX11_oiled_34 : decode cX11_oiled 34 = .ok (.iconst (-1), 1) := by decide +kernel
theorem dX11_oiled_35 : decode cX11_oiled 35 = .ok (.ireturn, 1) := by decide +kernel
theorem dX11_oiled_36 : decode cX11_oiled 36 = .ok (.iconst 0, 1) := by decide +kernel
theorem dX11_oiled_37 : decode cX11_oiled 37 = .ok (.istore_n 1, 1) := by decide +kernel
theorem dX11_oiled_38 : decode cX11_oiled 38 = .ok (.iload_n 1, 1) := by decide +kernel
theorem dX11_oiled_39 : decode cX11_oiled 39 = .ok (.aload_n 0, 1) := by decide +kernel
theorem dX11_oiled_40 : decode cX11_oiled 40 = .ok (.getfield 18, 3) := by decide +kernel
theorem dX11_oiled_43 : decode cX11_oiled 43 = .ok (.if_icmp .ge 21, 3) := by decide +kernel
theorem dX11_oiled_46 : decode cX11_oiled 46 = .ok (.aload_n 0, 1) := by decide +kernel
theorem dX11_oiled_47 : decode cX11_oiled 47 = .ok (.iload_n 1, 1) := by decide +kernel
theorem dX11_oiled_48 : decode cX11_oiled 48 = .ok (.invokevirtual 380, 3) := by decide +kernel
theorem dX11_oiled_51 : decode cX11_oiled 51 = .ok (.bipush 7, 2) := by decide +kernel
theorem dX11_oiled_53 : decode cX11_oiled 53 = .ok (.if_icmp .le 5, 3) := by decide +kernel
theorem dX11_oiled_56 : decode cX11_oiled 56 = .ok (.iconst (-1), 1) := by decide +kernel
theorem dX11_oiled_57 : decode cX11_oiled 57 = .ok (.ireturn, 1) := by decide +kernel
theorem dX11_oiled_58 : decode cX11_oiled 58 = .ok (.iinc 1 1, 3) := by decide +kernel
theorem dX11_oiled_61 : decode cX11_oiled 61 = .ok (.goto (-23), 3) := by decide +kernel
theorem dX11_oiled_64 : decode cX11_oiled 64 = .ok (.aload_n 0, 1) := by decide +kernel
theorem dX11_oiled_65 : decode cX11_oiled 65 = .ok (.invokevirtual 325, 3) := by decide +kernel
theorem dX11_oiled_68 : decode cX11_oiled 68 = .ok (.aload_n 0, 1) := by decide +kernel
theorem dX11_oiled_69 : decode cX11_oiled 69 = .ok (.getfield 33, 3) := by decide +kernel
theorem dX11_oiled_72 : decode cX11_oiled 72 = .ok (.sipush 371, 3) := by decide +kernel
theorem dX11_oiled_75 : decode cX11_oiled 75 = .ok (.iaload, 1) := by decide +kernel
theorem dX11_oiled_76 : decode cX11_oiled 76 = .ok (.istore_n 1, 1) := by decide +kernel
theorem dX11_oiled_77 : decode cX11_oiled 77 = .ok (.iconst 0, 1) := by decide +kernel
theorem dX11_oiled_78 : decode cX11_oiled 78 = .ok (.istore_n 2, 1) := by decide +kernel
theorem dX11_oiled_79 : decode cX11_oiled 79 = .ok (.iconst 0, 1) := by decide +kernel
theorem dX11_oiled_80 : decode cX11_oiled 80 = .ok (.istore_n 3, 1) := by decide +kernel
theorem dX11_oiled_81 : decode cX11_oiled 81 = .ok (.iload_n 3, 1) := by decide +kernel
theorem dX11_oiled_82 : decode cX11_oiled 82 = .ok (.aload_n 0, 1) := by decide +kernel
theorem dX11_oiled_83 : decode cX11_oiled 83 = .ok (.getfield 33, 3) := by decide +kernel
theorem dX11_oiled_86 : decode cX11_oiled 86 = .ok (.iconst 2, 1) := by decide +kernel
theorem dX11_oiled_87 : decode cX11_oiled 87 = .ok (.iaload, 1) := by decide +kernel
theorem dX11_oiled_88 : decode cX11_oiled 88 = .ok (.if_icmp .ge 54, 3) := by decide +kernel
theorem dX11_oiled_91 : decode cX11_oiled 91 = .ok (.iconst 0, 1) := by decide +kernel
theorem dX11_oiled_92 : decode cX11_oiled 92 = .ok (.istore 4, 2) := by decide +kernel
theorem dX11_oiled_94 : decode cX11_oiled 94 = .ok (.iload 4, 2) := by decide +kernel
theorem dX11_oiled_96 : decode cX11_oiled 96 = .ok (.iload_n 1, 1) := by decide +kernel
theorem dX11_oiled_97 : decode cX11_oiled 97 = .ok (.if_icmp .ge 39, 3) := by decide +kernel
theorem dX11_oiled_100 : decode cX11_oiled 100 = .ok (.aload_n 0, 1) := by decide +kernel
theorem dX11_oiled_101 : decode cX11_oiled 101 = .ok (.iload_n 3, 1) := by decide +kernel
theorem dX11_oiled_102 : decode cX11_oiled 102 = .ok (.iload 4, 2) := by decide +kernel
theorem dX11_oiled_104 : decode cX11_oiled 104 = .ok (.iload_n 1, 1) := by decide +kernel
theorem dX11_oiled_105 : decode cX11_oiled 105 = .ok (.invokevirtual 383, 3) := by decide +kernel
theorem dX11_oiled_108 : decode cX11_oiled 108 = .ok (.ifCond .ne 6, 3) := by decide +kernel
theorem dX11_oiled_111 : decode cX11_oiled 111 = .ok (.goto 19, 3) := by decide +kernel
theorem dX11_oiled_114 : decode cX11_oiled 114 = .ok (.aload_n 0, 1) := by decide +kernel
theorem dX11_oiled_115 : decode cX11_oiled 115 = .ok (.getfield 65, 3) := by decide +kernel
theorem dX11_oiled_118 : decode cX11_oiled 118 = .ok (.iload_n 2, 1) := by decide +kernel
theorem dX11_oiled_119 : decode cX11_oiled 119 = .ok (.bipush 100, 2) := by decide +kernel
theorem dX11_oiled_121 : decode cX11_oiled 121 = .ok (.iload_n 3, 1) := by decide +kernel
theorem dX11_oiled_122 : decode cX11_oiled 122 = .ok (.imul, 1) := by decide +kernel
theorem dX11_oiled_123 : decode cX11_oiled 123 = .ok (.iload 4, 2) := by decide +kernel
theorem dX11_oiled_125 : decode cX11_oiled 125 = .ok (.iadd, 1) := by decide +kernel
theorem dX11_oiled_126 : decode cX11_oiled 126 = .ok (.iastore, 1) := by decide +kernel
theorem dX11_oiled_127 : decode cX11_oiled 127 = .ok (.iinc 2 1, 3) := by decide +kernel
theorem dX11_oiled_130 : decode cX11_oiled 130 = .ok (.iinc 4 1, 3) := by decide +kernel
theorem dX11_oiled_133 : decode cX11_oiled 133 = .ok (.goto (-39), 3) := by decide +kernel
theorem dX11_oiled_136 : decode cX11_oiled 136 = .ok (.iinc 3 1, 3) := by decide +kernel
theorem dX11_oiled_139 : decode cX11_oiled 139 = .ok (.goto (-58), 3) := by decide +kernel
theorem dX11_oiled_142 : decode cX11_oiled 142 = .ok (.aload_n 0, 1) := by decide +kernel
theorem dX11_oiled_143 : decode cX11_oiled 143 = .ok (.invokevirtual 328, 3) := by decide +kernel
theorem dX11_oiled_146 : decode cX11_oiled 146 = .ok (.aload_n 0, 1) := by decide +kernel
theorem dX11_oiled_147 : decode cX11_oiled 147 = .ok (.iload_n 2, 1) := by decide +kernel
theorem dX11_oiled_148 : decode cX11_oiled 148 = .ok (.putfield 386, 3) := by decide +kernel
theorem dX11_oiled_151 : decode cX11_oiled 151 = .ok (.iload_n 2, 1) := by decide +kernel
theorem dX11_oiled_152 : decode cX11_oiled 152 = .ok (.ireturn, 1) := by decide +kernel
theorem dX11_oiledAt_0 : decode cX11_oiledAt 0 = .ok (.aload_n 0, 1) := by decide +kernel
theorem dX11_oiledAt_1 : decode cX11_oiledAt 1 = .ok (.iconst 0, 1) := by decide +kernel
theorem dX11_oiledAt_2 : decode cX11_oiledAt 2 = .ok (.putfield 1, 3) := by decide +kernel
theorem dX11_oiledAt_5 : decode cX11_oiledAt 5 = .ok (.iload_n 1, 1) := by decide +kernel
theorem dX11_oiledAt_6 : decode cX11_oiledAt 6 = .ok (.iconst 0, 1) := by decide +kernel
theorem dX11_oiledAt_7 : decode cX11_oiledAt 7 = .ok (.aload_n 0, 1) := by decide +kernel
theorem dX11_oiledAt_8 : decode cX11_oiledAt 8 = .ok (.getfield 386, 3) := by decide +kernel
theorem dX11_oiledAt_11 : decode cX11_oiledAt 11 = .ok (.iconst 1, 1) := by decide +kernel
theorem dX11_oiledAt_12 : decode cX11_oiledAt 12 = .ok (.isub, 1) := by decide +kernel
theorem dX11_oiledAt_13 : decode cX11_oiledAt 13 = .ok (.invokestatic 180, 3) := by decide +kernel
theorem dX11_oiledAt_16 : decode cX11_oiledAt 16 = .ok (.ifCond .eq 12, 3) := by decide +kernel
theorem dX11_oiledAt_19 : decode cX11_oiledAt 19 = .ok (.aload_n 0, 1) := by decide +kernel
theorem dX11_oiledAt_20 : decode cX11_oiledAt 20 = .ok (.getfield 65, 3) := by decide +kernel
theorem dX11_oiledAt_23 : decode cX11_oiledAt 23 = .ok (.iload_n 1, 1) := by decide +kernel
theorem dX11_oiledAt_24 : decode cX11_oiledAt 24 = .ok (.iaload, 1) := by decide +kernel
theorem dX11_oiledAt_25 : decode cX11_oiledAt 25 = .ok (.goto 4, 3) := by decide +kernel
theorem dX11_oiledAt_28 : decode cX11_oiledAt 28 = .ok (.iconst (-1), 1) := by decide +kernel
theorem dX11_oiledAt_29 : decode cX11_oiledAt 29 = .ok (.ireturn, 1) := by decide +kernel
theorem dX11_suit_0 : decode cX11_suit 0 = .ok (.aload_n 0, 1) := by decide +kernel
theorem dX11_suit_1 : decode cX11_suit 1 = .ok (.iconst 0, 1) := by decide +kernel
theorem dX11_suit_2 : decode cX11_suit 2 = .ok (.putfield 1, 3) := by decide +kernel
theorem dX11_suit_5 : decode cX11_suit 5 = .ok (.aload_n 0, 1) := by decide +kernel
theorem dX11_suit_6 : decode cX11_suit 6 = .ok (.iload_n 1, 1) := by decide +kernel
theorem dX11_suit_7 : decode cX11_suit 7 = .ok (.invokevirtual 281, 3) := by decide +kernel
theorem dX11_suit_10 : decode cX11_suit 10 = .ok (.ifCond .eq 11, 3) := by decide +kernel
theorem dX11_suit_13 : decode cX11_suit 13 = .ok (.aload_n 0, 1) := by decide +kernel
theorem dX11_suit_14 : decode cX11_suit 14 = .ok (.iload_n 2, 1) := by decide +kernel
theorem dX11_suit_15 : decode cX11_suit 15 = .ok (.invokevirtual 350, 3) := by decide +kernel
theorem dX11_suit_18 : decode cX11_suit 18 = .ok (.ifCond .ne 7, 3) := by decide +kernel
theorem dX11_suit_21 : decode cX11_suit 21 = .ok (.sipush (-10001), 3) := by decide +kernel
theorem dX11_suit_24 : decode cX11_suit 24 = .ok (.ireturn, 1) := by decide +kernel
theorem dX11_suit_25 : decode cX11_suit 25 = .ok (.aload_n 0, 1) := by decide +kernel
theorem dX11_suit_26 : decode cX11_suit 26 = .ok (.invokevirtual 325, 3) := by decide +kernel
theorem dX11_suit_29 : decode cX11_suit 29 = .ok (.aload_n 0, 1) := by decide +kernel
theorem dX11_suit_30 : decode cX11_suit 30 = .ok (.iload_n 1, 1) := by decide +kernel
theorem dX11_suit_31 : decode cX11_suit 31 = .ok (.invokevirtual 365, 3) := by decide +kernel
theorem dX11_suit_34 : decode cX11_suit 34 = .ok (.istore_n 3, 1) := by decide +kernel
theorem dX11_suit_35 : decode cX11_suit 35 = .ok (.aload_n 0, 1) := by decide +kernel
theorem dX11_suit_36 : decode cX11_suit 36 = .ok (.invokevirtual 328, 3) := by decide +kernel
theorem dX11_suit_39 : decode cX11_suit 39 = .ok (.aload_n 0, 1) := by decide +kernel
theorem dX11_suit_40 : decode cX11_suit 40 = .ok (.getfield 33, 3) := by decide +kernel
theorem dX11_suit_43 : decode cX11_suit 43 = .ok (.sipush 429, 3) := by decide +kernel
theorem dX11_suit_46 : decode cX11_suit 46 = .ok (.iload_n 2, 1) := by decide +kernel
theorem dX11_suit_47 : decode cX11_suit 47 = .ok (.iadd, 1) := by decide +kernel
theorem dX11_suit_48 : decode cX11_suit 48 = .ok (.iconst 0, 1) := by decide +kernel
theorem dX11_suit_49 : decode cX11_suit 49 = .ok (.iastore, 1) := by decide +kernel
theorem dX11_suit_50 : decode cX11_suit 50 = .ok (.aload_n 0, 1) := by decide +kernel
theorem dX11_suit_51 : decode cX11_suit 51 = .ok (.iload_n 1, 1) := by decide +kernel
theorem dX11_suit_52 : decode cX11_suit 52 = .ok (.invokevirtual 365, 3) := by decide +kernel
theorem dX11_suit_55 : decode cX11_suit 55 = .ok (.istore 4, 2) := by decide +kernel
theorem dX11_suit_57 : decode cX11_suit 57 = .ok (.aload_n 0, 1) := by decide +kernel
theorem dX11_suit_58 : decode cX11_suit 58 = .ok (.invokevirtual 328, 3) := by decide +kernel
theorem dX11_suit_61 : decode cX11_suit 61 = .ok (.iload 4, 2) := by decide +kernel
theorem dX11_suit_63 : decode cX11_suit 63 = .ok (.iload_n 3, 1) := by decide +kernel
theorem dX11_suit_64 : decode cX11_suit 64 = .ok (.isub, 1) := by decide +kernel
theorem dX11_suit_65 : decode cX11_suit 65 = .ok (.ireturn, 1) := by decide +kernel
theorem dX11_worth_0 : decode cX11_worth 0 = .ok (.aload_n 0, 1) := by decide +kernel
theorem dX11_worth_1 : decode cX11_worth 1 = .ok (.iconst 0, 1) := by decide +kernel
theorem dX11_worth_2 : decode cX11_worth 2 = .ok (.putfield 1, 3) := by decide +kernel
theorem dX11_worth_5 : decode cX11_worth 5 = .ok (.aload_n 0, 1) := by decide +kernel
theorem dX11_worth_6 : decode cX11_worth 6 = .ok (.sipush 940, 3) := by decide +kernel
theorem dX11_worth_9 : decode cX11_worth 9 = .ok (.invokevirtual 249, 3) := by decide +kernel
theorem dX11_worth_12 : decode cX11_worth 12 = .ok (.aload_n 0, 1) := by decide +kernel
theorem dX11_worth_13 : decode cX11_worth 13 = .ok (.iload_n 1, 1) := by decide +kernel
theorem dX11_worth_14 : decode cX11_worth 14 = .ok (.invokevirtual 281, 3) := by decide +kernel
theorem dX11_worth_17 : decode cX11_worth 17 = .ok (.ifCond .eq 27, 3) := by decide +kernel
theorem dX11_worth_20 : decode cX11_worth 20 = .ok (.aload_n 0, 1) := by decide +kernel
theorem dX11_worth_21 : decode cX11_worth 21 = .ok (.getfield 18, 3) := by decide +kernel
theorem dX11_worth_24 : decode cX11_worth 24 = .ok (.iconst 2, 1) := by decide +kernel
theorem dX11_worth_25 : decode cX11_worth 25 = .ok (.irem, 1) := by decide +kernel
theorem dX11_worth_26 : decode cX11_worth 26 = .ok (.ifCond .ne 18, 3) := by decide +kernel
theorem dX11_worth_29 : decode cX11_worth 29 = .ok (.aload_n 0, 1) := by decide +kernel
theorem dX11_worth_30 : decode cX11_worth 30 = .ok (.getfield 18, 3) := by decide +kernel
theorem dX11_worth_33 : decode cX11_worth 33 = .ok (.iconst 2, 1) := by decide +kernel
theorem dX11_worth_34 : decode cX11_worth 34 = .ok (.idiv, 1) := by decide +kernel
theorem dX11_worth_35 : decode cX11_worth 35 = .ok (.iconst 1, 1) := by decide +kernel
theorem dX11_worth_36 : decode cX11_worth 36 = .ok (.bipush 24, 2) := by decide +kernel
theorem dX11_worth_38 : decode cX11_worth 38 = .ok (.invokestatic 180, 3) := by decide +kernel
theorem dX11_worth_41 : decode cX11_worth 41 = .ok (.ifCond .ne 7, 3) := by decide +kernel
theorem dX11_worth_44 : decode cX11_worth 44 = .ok (.sipush (-10001), 3) := by decide +kernel
theorem dX11_worth_47 : decode cX11_worth 47 = .ok (.ireturn, 1) := by decide +kernel
theorem dX11_worth_48 : decode cX11_worth 48 = .ok (.iconst 0, 1) := by decide +kernel
theorem dX11_worth_49 : decode cX11_worth 49 = .ok (.istore_n 2, 1) := by decide +kernel
theorem dX11_worth_50 : decode cX11_worth 50 = .ok (.iload_n 2, 1) := by decide +kernel
theorem dX11_worth_51 : decode cX11_worth 51 = .ok (.aload_n 0, 1) := by decide +kernel
theorem dX11_worth_52 : decode cX11_worth 52 = .ok (.getfield 18, 3) := by decide +kernel
theorem dX11_worth_55 : decode cX11_worth 55 = .ok (.if_icmp .ge 54, 3) := by decide +kernel
theorem dX11_worth_58 : decode cX11_worth 58 = .ok (.aload_n 0, 1) := by decide +kernel
theorem dX11_worth_59 : decode cX11_worth 59 = .ok (.iload_n 2, 1) := by decide +kernel
theorem dX11_worth_60 : decode cX11_worth 60 = .ok (.invokevirtual 380, 3) := by decide +kernel
theorem dX11_worth_63 : decode cX11_worth 63 = .ok (.bipush 47, 2) := by decide +kernel
theorem dX11_worth_65 : decode cX11_worth 65 = .ok (.if_icmp .gt 34, 3) := by decide +kernel
theorem dX11_worth_68 : decode cX11_worth 68 = .ok (.aload_n 0, 1) := by decide +kernel
theorem dX11_worth_69 : decode cX11_worth 69 = .ok (.iload_n 2, 1) := by decide +kernel
theorem dX11_worth_70 : decode cX11_worth 70 = .ok (.iconst 1, 1) := by decide +kernel
theorem dX11_worth_71 : decode cX11_worth 71 = .ok (.iadd, 1) := by decide +kernel
theorem dX11_worth_72 : decode cX11_worth 72 = .ok (.invokevirtual 380, 3) := by decide +kernel
theorem dX11_worth_75 : decode cX11_worth 75 = .ok (.bipush 7, 2) := by decide +kernel
theorem dX11_worth_77 : decode cX11_worth 77 = .ok (.if_icmp .gt 22, 3) := by decide +kernel
theorem dX11_worth_80 : decode cX11_worth 80 = .ok (.iload_n 2, 1) := by decide +kernel
theorem dX11_worth_81 : decode cX11_worth 81 = .ok (.ifCond .le 22, 3) := by decide +kernel
theorem dX11_worth_84 : decode cX11_worth 84 = .ok (.aload_n 0, 1) := by decide +kernel
theorem dX11_worth_85 : decode cX11_worth 85 = .ok (.iload_n 2, 1) := by decide +kernel
theorem dX11_worth_86 : decode cX11_worth 86 = .ok (.invokevirtual 380, 3) := by decide +kernel
theorem dX11_worth_89 : decode cX11_worth 89 = .ok (.aload_n 0, 1) := by decide +kernel
theorem dX11_worth_90 : decode cX11_worth 90 = .ok (.iload_n 2, 1) := by decide +kernel
theorem dX11_worth_91 : decode cX11_worth 91 = .ok (.iconst 2, 1) := by decide +kernel
theorem dX11_worth_92 : decode cX11_worth 92 = .ok (.isub, 1) := by decide +kernel
theorem dX11_worth_93 : decode cX11_worth 93 = .ok (.invokevirtual 380, 3) := by decide +kernel
theorem dX11_worth_96 : decode cX11_worth 96 = .ok (.if_icmp .gt 7, 3) := by decide +kernel
theorem dX11_worth_99 : decode cX11_worth 99 = .ok (.sipush (-10001), 3) := by decide +kernel
theorem dX11_worth_102 : decode cX11_worth 102 = .ok (.ireturn, 1) := by decide +kernel
theorem dX11_worth_103 : decode cX11_worth 103 = .ok (.iinc 2 2, 3) := by decide +kernel
theorem dX11_worth_106 : decode cX11_worth 106 = .ok (.goto (-56), 3) := by decide +kernel
theorem dX11_worth_109 : decode cX11_worth 109 = .ok (.aload_n 0, 1) := by decide +kernel
theorem dX11_worth_110 : decode cX11_worth 110 = .ok (.invokevirtual 325, 3) := by decide +kernel
theorem dX11_worth_113 : decode cX11_worth 113 = .ok (.aload_n 0, 1) := by decide +kernel
theorem dX11_worth_114 : decode cX11_worth 114 = .ok (.iload_n 1, 1) := by decide +kernel
theorem dX11_worth_115 : decode cX11_worth 115 = .ok (.invokevirtual 365, 3) := by decide +kernel
theorem dX11_worth_118 : decode cX11_worth 118 = .ok (.istore_n 2, 1) := by decide +kernel
theorem dX11_worth_119 : decode cX11_worth 119 = .ok (.aload_n 0, 1) := by decide +kernel
theorem dX11_worth_120 : decode cX11_worth 120 = .ok (.invokevirtual 328, 3) := by decide +kernel
theorem dX11_worth_123 : decode cX11_worth 123 = .ok (.aload_n 0, 1) := by decide +kernel
theorem dX11_worth_124 : decode cX11_worth 124 = .ok (.getfield 33, 3) := by decide +kernel
theorem dX11_worth_127 : decode cX11_worth 127 = .ok (.sipush 371, 3) := by decide +kernel
theorem dX11_worth_130 : decode cX11_worth 130 = .ok (.iaload, 1) := by decide +kernel
theorem dX11_worth_131 : decode cX11_worth 131 = .ok (.bipush 47, 2) := by decide +kernel
theorem dX11_worth_133 : decode cX11_worth 133 = .ok (.if_icmp .gt 59, 3) := by decide +kernel
theorem dX11_worth_136 : decode cX11_worth 136 = .ok (.iconst 0, 1) := by decide +kernel
theorem dX11_worth_137 : decode cX11_worth 137 = .ok (.istore_n 3, 1) := by decide +kernel
theorem dX11_worth_138 : decode cX11_worth 138 = .ok (.iload_n 3, 1) := by decide +kernel
theorem dX11_worth_139 : decode cX11_worth 139 = .ok (.aload_n 0, 1) := by decide +kernel
theorem dX11_worth_140 : decode cX11_worth 140 = .ok (.getfield 18, 3) := by decide +kernel
theorem dX11_worth_143 : decode cX11_worth 143 = .ok (.if_icmp .ge 42, 3) := by decide +kernel
theorem dX11_worth_146 : decode cX11_worth 146 = .ok (.aload_n 0, 1) := by decide +kernel
theorem dX11_worth_147 : decode cX11_worth 147 = .ok (.iload_n 3, 1) := by decide +kernel
theorem dX11_worth_148 : decode cX11_worth 148 = .ok (.invokevirtual 380, 3) := by decide +kernel
theorem dX11_worth_151 : decode cX11_worth 151 = .ok (.aload_n 0, 1) := by decide +kernel
theorem dX11_worth_152 : decode cX11_worth 152 = .ok (.getfield 33, 3) := by decide +kernel
theorem dX11_worth_155 : decode cX11_worth 155 = .ok (.sipush 371, 3) := by decide +kernel
theorem dX11_worth_158 : decode cX11_worth 158 = .ok (.iaload, 1) := by decide +kernel
theorem dX11_worth_159 : decode cX11_worth 159 = .ok (.if_icmp .ne 20, 3) := by decide +kernel
theorem dX11_worth_162 : decode cX11_worth 162 = .ok (.aload_n 0, 1) := by decide +kernel
theorem dX11_worth_163 : decode cX11_worth 163 = .ok (.getfield 33, 3) := by decide +kernel
theorem dX11_worth_166 : decode cX11_worth 166 = .ok (.sipush 397, 3) := by decide +kernel
theorem dX11_worth_169 : decode cX11_worth 169 = .ok (.iload_n 1, 1) := by decide +kernel
theorem dX11_worth_170 : decode cX11_worth 170 = .ok (.iadd, 1) := by decide +kernel
theorem dX11_worth_171 : decode cX11_worth 171 = .ok (.aload_n 0, 1) := by decide +kernel
theorem dX11_worth_172 : decode cX11_worth 172 = .ok (.iload_n 3, 1) := by decide +kernel
theorem dX11_worth_173 : decode cX11_worth 173 = .ok (.iconst 1, 1) := by decide +kernel
theorem dX11_worth_174 : decode cX11_worth 174 = .ok (.iadd, 1) := by decide +kernel
theorem dX11_worth_175 : decode cX11_worth 175 = .ok (.invokevirtual 380, 3) := by decide +kernel
theorem dX11_worth_178 : decode cX11_worth 178 = .ok (.iastore, 1) := by decide +kernel
theorem dX11_worth_179 : decode cX11_worth 179 = .ok (.iinc 3 2, 3) := by decide +kernel
theorem dX11_worth_182 : decode cX11_worth 182 = .ok (.goto (-44), 3) := by decide +kernel
theorem dX11_worth_185 : decode cX11_worth 185 = .ok (.aload_n 0, 1) := by decide +kernel
theorem dX11_worth_186 : decode cX11_worth 186 = .ok (.invokevirtual 322, 3) := by decide +kernel
theorem dX11_worth_189 : decode cX11_worth 189 = .ok (.goto (-66), 3) := by decide +kernel
theorem dX11_worth_192 : decode cX11_worth 192 = .ok (.aload_n 0, 1) := by decide +kernel
theorem dX11_worth_193 : decode cX11_worth 193 = .ok (.iload_n 1, 1) := by decide +kernel
theorem dX11_worth_194 : decode cX11_worth 194 = .ok (.invokevirtual 362, 3) := by decide +kernel
theorem dX11_worth_197 : decode cX11_worth 197 = .ok (.istore_n 3, 1) := by decide +kernel
theorem dX11_worth_198 : decode cX11_worth 198 = .ok (.aload_n 0, 1) := by decide +kernel
theorem dX11_worth_199 : decode cX11_worth 199 = .ok (.invokevirtual 328, 3) := by decide +kernel
theorem dX11_worth_202 : decode cX11_worth 202 = .ok (.iload_n 3, 1) := by decide +kernel
theorem dX11_worth_203 : decode cX11_worth 203 = .ok (.iload_n 2, 1) := by decide +kernel
theorem dX11_worth_204 : decode cX11_worth 204 = .ok (.isub, 1) := by decide +kernel
theorem dX11_worth_205 : decode cX11_worth 205 = .ok (.ireturn, 1) := by decide +kernel
theorem dX11_draw_0 : decode cX11_draw 0 = .ok (.aload_n 0, 1) := by decide +kernel
theorem dX11_draw_1 : decode cX11_draw 1 = .ok (.aload_n 0, 1) := by decide +kernel
theorem dX11_draw_2 : decode cX11_draw 2 = .ok (.getfield 389, 3) := by decide +kernel
theorem dX11_draw_5 : decode cX11_draw 5 = .ok (.ldc_w 392, 3) := by decide +kernel
theorem dX11_draw_8 : decode cX11_draw 8 = .ok (.imul, 1) := by decide +kernel
theorem dX11_draw_9 : decode cX11_draw 9 = .ok (.sipush 12345, 3) := by decide +kernel
theorem dX11_draw_12 : decode cX11_draw 12 = .ok (.iadd, 1) := by decide +kernel
theorem dX11_draw_13 : decode cX11_draw 13 = .ok (.putfield 389, 3) := by decide +kernel
theorem dX11_draw_16 : decode cX11_draw 16 = .ok (.aload_n 0, 1) := by decide +kernel
theorem dX11_draw_17 : decode cX11_draw 17 = .ok (.getfield 389, 3) := by decide +kernel
theorem dX11_draw_20 : decode cX11_draw 20 = .ok (.bipush 8, 2) := by decide +kernel
theorem dX11_draw_22 : decode cX11_draw 22 = .ok (.iushr, 1) := by decide +kernel
theorem dX11_draw_23 : decode cX11_draw 23 = .ok (.iload_n 1, 1) := by decide +kernel
theorem dX11_draw_24 : decode cX11_draw 24 = .ok (.irem, 1) := by decide +kernel
theorem dX11_draw_25 : decode cX11_draw 25 = .ok (.ireturn, 1) := by decide +kernel
theorem dX11_drawnOf_0 : decode cX11_drawnOf 0 = .ok (.aload_n 0, 1) := by decide +kernel
theorem dX11_drawnOf_1 : decode cX11_drawnOf 1 = .ok (.iload_n 3, 1) := by decide +kernel
theorem dX11_drawnOf_2 : decode cX11_drawnOf 2 = .ok (.putfield 389, 3) := by decide +kernel
theorem dX11_drawnOf_5 : decode cX11_drawnOf 5 = .ok (.iconst 0, 1) := by decide +kernel
theorem dX11_drawnOf_6 : decode cX11_drawnOf 6 = .ok (.istore 4, 2) := by decide +kernel
theorem dX11_drawnOf_8 : decode cX11_drawnOf 8 = .ok (.iload 4, 2) := by decide +kernel
theorem dX11_drawnOf_10 : decode cX11_drawnOf 10 = .ok (.iload_n 2, 1) := by decide +kernel
theorem dX11_drawnOf_11 : decode cX11_drawnOf 11 = .ok (.if_icmp .ge 41, 3) := by decide +kernel
theorem dX11_drawnOf_14 : decode cX11_drawnOf 14 = .ok (.aload_n 0, 1) := by decide +kernel
theorem dX11_drawnOf_15 : decode cX11_drawnOf 15 = .ok (.bipush 10, 2) := by decide +kernel
theorem dX11_drawnOf_17 : decode cX11_drawnOf 17 = .ok (.invokevirtual 393, 3) := by decide +kernel
theorem dX11_drawnOf_20 : decode cX11_drawnOf 20 = .ok (.istore 5, 2) := by decide +kernel
theorem dX11_drawnOf_22 : decode cX11_drawnOf 22 = .ok (.iload 5, 2) := by decide +kernel
theorem dX11_drawnOf_24 : decode cX11_drawnOf 24 = .ok (.ifCond .ne 10, 3) := by decide +kernel
theorem dX11_drawnOf_27 : decode cX11_drawnOf 27 = .ok (.aload_n 0, 1) := by decide +kernel
theorem dX11_drawnOf_28 : decode cX11_drawnOf 28 = .ok (.invokevirtual 319, 3) := by decide +kernel
theorem dX11_drawnOf_31 : decode cX11_drawnOf 31 = .ok (.goto 15, 3) := by decide +kernel
theorem dX11_drawnOf_34 : decode cX11_drawnOf 34 = .ok (.aload_n 0, 1) := by decide +kernel
theorem dX11_drawnOf_35 : decode cX11_drawnOf 35 = .ok (.aload_n 0, 1) := by decide +kernel
theorem dX11_drawnOf_36 : decode cX11_drawnOf 36 = .ok (.bipush 8, 2) := by decide +kernel
theorem dX11_drawnOf_38 : decode cX11_drawnOf 38 = .ok (.invokevirtual 393, 3) := by decide +kernel
theorem dX11_drawnOf_41 : decode cX11_drawnOf 41 = .ok (.iload 5, 2) := by decide +kernel
theorem dX11_drawnOf_43 : decode cX11_drawnOf 43 = .ok (.invokevirtual 316, 3) := by decide +kernel
theorem dX11_drawnOf_46 : decode cX11_drawnOf 46 = .ok (.iinc 4 1, 3) := by decide +kernel
theorem dX11_drawnOf_49 : decode cX11_drawnOf 49 = .ok (.goto (-41), 3) := by decide +kernel
theorem dX11_drawnOf_52 : decode cX11_drawnOf 52 = .ok (.aload_n 0, 1) := by decide +kernel
theorem dX11_drawnOf_53 : decode cX11_drawnOf 53 = .ok (.iload_n 1, 1) := by decide +kernel
theorem dX11_drawnOf_54 : decode cX11_drawnOf 54 = .ok (.invokevirtual 362, 3) := by decide +kernel
theorem dX11_drawnOf_57 : decode cX11_drawnOf 57 = .ok (.istore 4, 2) := by decide +kernel
theorem dX11_drawnOf_59 : decode cX11_drawnOf 59 = .ok (.aload_n 0, 1) := by decide +kernel
theorem dX11_drawnOf_60 : decode cX11_drawnOf 60 = .ok (.invokevirtual 328, 3) := by decide +kernel
theorem dX11_drawnOf_63 : decode cX11_drawnOf 63 = .ok (.iload 4, 2) := by decide +kernel
theorem dX11_drawnOf_65 : decode cX11_drawnOf 65 = .ok (.ireturn, 1) := by decide +kernel
theorem dX11_drawn_0 : decode cX11_drawn 0 = .ok (.aload_n 0, 1) := by decide +kernel
theorem dX11_drawn_1 : decode cX11_drawn 1 = .ok (.iconst 0, 1) := by decide +kernel
theorem dX11_drawn_2 : decode cX11_drawn 2 = .ok (.putfield 1, 3) := by decide +kernel
theorem dX11_drawn_5 : decode cX11_drawn 5 = .ok (.aload_n 0, 1) := by decide +kernel
theorem dX11_drawn_6 : decode cX11_drawn 6 = .ok (.iload_n 1, 1) := by decide +kernel
theorem dX11_drawn_7 : decode cX11_drawn 7 = .ok (.invokevirtual 281, 3) := by decide +kernel
theorem dX11_drawn_10 : decode cX11_drawn 10 = .ok (.ifCond .eq 13, 3) := by decide +kernel
theorem dX11_drawn_13 : decode cX11_drawn 13 = .ok (.iload_n 2, 1) := by decide +kernel
theorem dX11_drawn_14 : decode cX11_drawn 14 = .ok (.iconst 1, 1) := by decide +kernel
theorem dX11_drawn_15 : decode cX11_drawn 15 = .ok (.bipush 48, 2) := by decide +kernel
theorem dX11_drawn_17 : decode cX11_drawn 17 = .ok (.invokestatic 180, 3) := by decide +kernel
theorem dX11_drawn_20 : decode cX11_drawn 20 = .ok (.ifCond .ne 5, 3) := by decide +kernel
theorem dX11_drawn_23 : decode cX11_drawn 23 = .ok (.iconst (-1), 1) := by decide +kernel
theorem dX11_drawn_24 : decode cX11_drawn 24 = .ok (.ireturn, 1) := by decide +kernel
theorem dX11_drawn_25 : decode cX11_drawn 25 = .ok (.aload_n 0, 1) := by decide +kernel
theorem dX11_drawn_26 : decode cX11_drawn 26 = .ok (.invokevirtual 325, 3) := by decide +kernel
theorem dX11_drawn_29 : decode cX11_drawn 29 = .ok (.aload_n 0, 1) := by decide +kernel
theorem dX11_drawn_30 : decode cX11_drawn 30 = .ok (.iload_n 1, 1) := by decide +kernel
theorem dX11_drawn_31 : decode cX11_drawn 31 = .ok (.iload_n 2, 1) := by decide +kernel
theorem dX11_drawn_32 : decode cX11_drawn 32 = .ok (.iload_n 3, 1) := by decide +kernel
theorem dX11_drawn_33 : decode cX11_drawn 33 = .ok (.invokevirtual 396, 3) := by decide +kernel
theorem dX11_drawn_36 : decode cX11_drawn 36 = .ok (.ireturn, 1) := by decide +kernel
theorem dX11_odds_0 : decode cX11_odds 0 = .ok (.aload_n 0, 1) := by decide +kernel
theorem dX11_odds_1 : decode cX11_odds 1 = .ok (.iconst 0, 1) := by decide +kernel
theorem dX11_odds_2 : decode cX11_odds 2 = .ok (.putfield 1, 3) := by decide +kernel
theorem dX11_odds_5 : decode cX11_odds 5 = .ok (.aload_n 0, 1) := by decide +kernel
theorem dX11_odds_6 : decode cX11_odds 6 = .ok (.iload_n 1, 1) := by decide +kernel
theorem dX11_odds_7 : decode cX11_odds 7 = .ok (.invokevirtual 281, 3) := by decide +kernel
theorem dX11_odds_10 : decode cX11_odds 10 = .ok (.ifCond .eq 13, 3) := by decide +kernel
theorem dX11_odds_13 : decode cX11_odds 13 = .ok (.iload_n 2, 1) := by decide +kernel
theorem dX11_odds_14 : decode cX11_odds 14 = .ok (.iconst 1, 1) := by decide +kernel
theorem dX11_odds_15 : decode cX11_odds 15 = .ok (.bipush 100, 2) := by decide +kernel
theorem dX11_odds_17 : decode cX11_odds 17 = .ok (.invokestatic 180, 3) := by decide +kernel
theorem dX11_odds_20 : decode cX11_odds 20 = .ok (.ifCond .ne 5, 3) := by decide +kernel
theorem dX11_odds_23 : decode cX11_odds 23 = .ok (.iconst (-1), 1) := by decide +kernel
theorem dX11_odds_24 : decode cX11_odds 24 = .ok (.ireturn, 1) := by decide +kernel
theorem dX11_odds_25 : decode cX11_odds 25 = .ok (.aload_n 0, 1) := by decide +kernel
theorem dX11_odds_26 : decode cX11_odds 26 = .ok (.invokevirtual 325, 3) := by decide +kernel
theorem dX11_odds_29 : decode cX11_odds 29 = .ok (.aload_n 0, 1) := by decide +kernel
theorem dX11_odds_30 : decode cX11_odds 30 = .ok (.iload_n 1, 1) := by decide +kernel
theorem dX11_odds_31 : decode cX11_odds 31 = .ok (.invokevirtual 362, 3) := by decide +kernel
theorem dX11_odds_34 : decode cX11_odds 34 = .ok (.istore 4, 2) := by decide +kernel
theorem dX11_odds_36 : decode cX11_odds 36 = .ok (.iconst 0, 1) := by decide +kernel
theorem dX11_odds_37 : decode cX11_odds 37 = .ok (.istore 5, 2) := by decide +kernel
theorem dX11_odds_39 : decode cX11_odds 39 = .ok (.iconst 0, 1) := by decide +kernel
theorem dX11_odds_40 : decode cX11_odds 40 = .ok (.istore 6, 2) := by decide +kernel
theorem dX11_odds_42 : decode cX11_odds 42 = .ok (.iload 6, 2) := by decide +kernel
theorem dX11_odds_44 : decode cX11_odds 44 = .ok (.iload_n 2, 1) := by decide +kernel
theorem dX11_odds_45 : decode cX11_odds 45 = .ok (.if_icmp .ge 35, 3) := by decide +kernel
theorem dX11_odds_48 : decode cX11_odds 48 = .ok (.iload 5, 2) := by decide +kernel
theorem dX11_odds_50 : decode cX11_odds 50 = .ok (.aload_n 0, 1) := by decide +kernel
theorem dX11_odds_51 : decode cX11_odds 51 = .ok (.iload_n 1, 1) := by decide +kernel
theorem dX11_odds_52 : decode cX11_odds 52 = .ok (.bipush 12, 2) := by decide +kernel
theorem dX11_odds_54 : decode cX11_odds 54 = .ok (.iload_n 3, 1) := by decide +kernel
theorem dX11_odds_55 : decode cX11_odds 55 = .ok (.iload 6, 2) := by decide +kernel
theorem dX11_odds_57 : decode cX11_odds 57 = .ok (.iadd, 1) := by decide +kernel
theorem dX11_odds_58 : decode cX11_odds 58 = .ok (.invokevirtual 396, 3) := by decide +kernel
theorem dX11_odds_61 : decode cX11_odds 61 = .ok (.iload 4, 2) := by decide +kernel
theorem dX11_odds_63 : decode cX11_odds 63 = .ok (.if_icmp .ge 7, 3) := by decide +kernel
theorem dX11_odds_66 : decode cX11_odds 66 = .ok (.iconst 1, 1) := by decide +kernel
theorem dX11_odds_67 : decode cX11_odds 67 = .ok (.goto 4, 3) := by decide +kernel
theorem dX11_odds_70 : decode cX11_odds 70 = .ok (.iconst 0, 1) := by decide +kernel
theorem dX11_odds_71 : decode cX11_odds 71 = .ok (.iadd, 1) := by decide +kernel
theorem dX11_odds_72 : decode cX11_odds 72 = .ok (.istore 5, 2) := by decide +kernel
theorem dX11_odds_74 : decode cX11_odds 74 = .ok (.iinc 6 1, 3) := by decide +kernel
theorem dX11_odds_77 : decode cX11_odds 77 = .ok (.goto (-35), 3) := by decide +kernel
theorem dX11_odds_80 : decode cX11_odds 80 = .ok (.iload 5, 2) := by decide +kernel
theorem dX11_odds_82 : decode cX11_odds 82 = .ok (.ireturn, 1) := by decide +kernel
theorem dX11_richest_0 : decode cX11_richest 0 = .ok (.aload_n 0, 1) := by decide +kernel
theorem dX11_richest_1 : decode cX11_richest 1 = .ok (.iconst 0, 1) := by decide +kernel
theorem dX11_richest_2 : decode cX11_richest 2 = .ok (.putfield 1, 3) := by decide +kernel
theorem dX11_richest_5 : decode cX11_richest 5 = .ok (.aload_n 0, 1) := by decide +kernel
theorem dX11_richest_6 : decode cX11_richest 6 = .ok (.invokevirtual 325, 3) := by decide +kernel
theorem dX11_richest_9 : decode cX11_richest 9 = .ok (.aload_n 0, 1) := by decide +kernel
theorem dX11_richest_10 : decode cX11_richest 10 = .ok (.bipush 48, 2) := by decide +kernel
theorem dX11_richest_12 : decode cX11_richest 12 = .ok (.invokevirtual 338, 3) := by decide +kernel
theorem dX11_richest_15 : decode cX11_richest 15 = .ok (.pop, 1) := by decide +kernel
theorem dX11_richest_16 : decode cX11_richest 16 = .ok (.iconst (-1), 1) := by decide +kernel
theorem dX11_richest_17 : decode cX11_richest 17 = .ok (.istore_n 1, 1) := by decide +kernel
theorem dX11_richest_18 : decode cX11_richest 18 = .ok (.iconst 0, 1) := by decide +kernel
theorem dX11_richest_19 : decode cX11_richest 19 = .ok (.istore_n 2, 1) := by decide +kernel
theorem dX11_richest_20 : decode cX11_richest 20 = .ok (.iload_n 2, 1) := by decide +kernel
theorem dX11_richest_21 : decode cX11_richest 21 = .ok (.aload_n 0, 1) := by decide +kernel
theorem dX11_richest_22 : decode cX11_richest 22 = .ok (.getfield 33, 3) := by decide +kernel
theorem dX11_richest_25 : decode cX11_richest 25 = .ok (.iconst 2, 1) := by decide +kernel
theorem dX11_richest_26 : decode cX11_richest 26 = .ok (.iaload, 1) := by decide +kernel
theorem dX11_richest_27 : decode cX11_richest 27 = .ok (.if_icmp .ge 28, 3) := by decide +kernel
theorem dX11_richest_30 : decode cX11_richest 30 = .ok (.iload_n 1, 1) := by decide +kernel
theorem dX11_richest_31 : decode cX11_richest 31 = .ok (.ifCond .lt 16, 3) := by decide +kernel
theorem dX11_richest_34 : decode cX11_richest 34 = .ok (.aload_n 0, 1) := by decide +kernel
theorem dX11_richest_35 : decode cX11_richest 35 = .ok (.iload_n 2, 1) := by decide +kernel
theorem dX11_richest_36 : decode cX11_richest 36 = .ok (.invokevirtual 362, 3) := by decide +kernel
theorem dX11_richest_39 : decode cX11_richest 39 = .ok (.aload_n 0, 1) := by decide +kernel
theorem dX11_richest_40 : decode cX11_richest 40 = .ok (.iload_n 1, 1) := by decide +kernel
theorem dX11_richest_41 : decode cX11_richest 41 = .ok (.invokevirtual 362, 3) := by decide +kernel
theorem dX11_richest_44 : decode cX11_richest 44 = .ok (.if_icmp .le 5, 3) := by decide +kernel
theorem dX11_richest_47 : decode cX11_richest 47 = .ok (.iload_n 2, 1) := by decide +kernel
theorem dX11_richest_48 : decode cX11_richest 48 = .ok (.istore_n 1, 1) := by decide +kernel
theorem dX11_richest_49 : decode cX11_richest 49 = .ok (.iinc 2 1, 3) := by decide +kernel
theorem dX11_richest_52 : decode cX11_richest 52 = .ok (.goto (-32), 3) := by decide +kernel
theorem dX11_richest_55 : decode cX11_richest 55 = .ok (.aload_n 0, 1) := by decide +kernel
theorem dX11_richest_56 : decode cX11_richest 56 = .ok (.invokevirtual 328, 3) := by decide +kernel
theorem dX11_richest_59 : decode cX11_richest 59 = .ok (.iload_n 1, 1) := by decide +kernel
theorem dX11_richest_60 : decode cX11_richest 60 = .ok (.ireturn, 1) := by decide +kernel
theorem dX11_best_0 : decode cX11_best 0 = .ok (.aload_n 0, 1) := by decide +kernel
theorem dX11_best_1 : decode cX11_best 1 = .ok (.iconst 0, 1) := by decide +kernel
theorem dX11_best_2 : decode cX11_best 2 = .ok (.putfield 1, 3) := by decide +kernel
theorem dX11_best_5 : decode cX11_best 5 = .ok (.aload_n 0, 1) := by decide +kernel
theorem dX11_best_6 : decode cX11_best 6 = .ok (.iload_n 1, 1) := by decide +kernel
theorem dX11_best_7 : decode cX11_best 7 = .ok (.invokevirtual 281, 3) := by decide +kernel
theorem dX11_best_10 : decode cX11_best 10 = .ok (.ifCond .eq 13, 3) := by decide +kernel
theorem dX11_best_13 : decode cX11_best 13 = .ok (.iload_n 2, 1) := by decide +kernel
theorem dX11_best_14 : decode cX11_best 14 = .ok (.iconst 1, 1) := by decide +kernel
theorem dX11_best_15 : decode cX11_best 15 = .ok (.bipush 9, 2) := by decide +kernel
theorem dX11_best_17 : decode cX11_best 17 = .ok (.invokestatic 180, 3) := by decide +kernel
theorem dX11_best_20 : decode cX11_best 20 = .ok (.ifCond .ne 5, 3) := by decide +kernel
theorem dX11_best_23 : decode cX11_best 23 = .ok (.iconst (-1), 1) := by decide +kernel
theorem dX11_best_24 : decode cX11_best 24 = .ok (.ireturn, 1) := by decide +kernel
theorem dX11_best_25 : decode cX11_best 25 = .ok (.iconst 0, 1) := by decide +kernel
theorem dX11_best_26 : decode cX11_best 26 = .ok (.istore_n 3, 1) := by decide +kernel
theorem dX11_best_27 : decode cX11_best 27 = .ok (.iconst 1, 1) := by decide +kernel
theorem dX11_best_28 : decode cX11_best 28 = .ok (.istore 4, 2) := by decide +kernel
theorem dX11_best_30 : decode cX11_best 30 = .ok (.iload 4, 2) := by decide +kernel
theorem dX11_best_32 : decode cX11_best 32 = .ok (.bipush 8, 2) := by decide +kernel
theorem dX11_best_34 : decode cX11_best 34 = .ok (.if_icmp .ge 30, 3) := by decide +kernel
theorem dX11_best_37 : decode cX11_best 37 = .ok (.aload_n 0, 1) := by decide +kernel
theorem dX11_best_38 : decode cX11_best 38 = .ok (.iload_n 1, 1) := by decide +kernel
theorem dX11_best_39 : decode cX11_best 39 = .ok (.iload 4, 2) := by decide +kernel
theorem dX11_best_41 : decode cX11_best 41 = .ok (.iload_n 2, 1) := by decide +kernel
theorem dX11_best_42 : decode cX11_best 42 = .ok (.invokevirtual 331, 3) := by decide +kernel
theorem dX11_best_45 : decode cX11_best 45 = .ok (.aload_n 0, 1) := by decide +kernel
theorem dX11_best_46 : decode cX11_best 46 = .ok (.iload_n 1, 1) := by decide +kernel
theorem dX11_best_47 : decode cX11_best 47 = .ok (.iload_n 3, 1) := by decide +kernel
theorem dX11_best_48 : decode cX11_best 48 = .ok (.iload_n 2, 1) := by decide +kernel
theorem dX11_best_49 : decode cX11_best 49 = .ok (.invokevirtual 331, 3) := by decide +kernel
theorem dX11_best_52 : decode cX11_best 52 = .ok (.if_icmp .le 6, 3) := by decide +kernel
theorem dX11_best_55 : decode cX11_best 55 = .ok (.iload 4, 2) := by decide +kernel
theorem dX11_best_57 : decode cX11_best 57 = .ok (.istore_n 3, 1) := by decide +kernel
theorem dX11_best_58 : decode cX11_best 58 = .ok (.iinc 4 1, 3) := by decide +kernel
theorem dX11_best_61 : decode cX11_best 61 = .ok (.goto (-31), 3) := by decide +kernel
theorem dX11_best_64 : decode cX11_best 64 = .ok (.iload_n 3, 1) := by decide +kernel
theorem dX11_best_65 : decode cX11_best 65 = .ok (.ireturn, 1) := by decide +kernel
theorem dX11_planLine_0 : decode cX11_planLine 0 = .ok (.aload_n 0, 1) := by decide +kernel
theorem dX11_planLine_1 : decode cX11_planLine 1 = .ok (.ldc2_w 110, 3) := by decide +kernel
theorem dX11_planLine_4 : decode cX11_planLine 4 = .ok (.invokevirtual 187, 3) := by decide +kernel
theorem dX11_planLine_7 : decode cX11_planLine 7 = .ok (.ifCond .eq 7, 3) := by decide +kernel
theorem dX11_planLine_10 : decode cX11_planLine 10 = .ok (.iconst 0, 1) := by decide +kernel
theorem dX11_planLine_11 : decode cX11_planLine 11 = .ok (.goto 60, 3) := by decide +kernel
theorem dX11_planLine_14 : decode cX11_planLine 14 = .ok (.aload_n 0, 1) := by decide +kernel
theorem dX11_planLine_15 : decode cX11_planLine 15 = .ok (.ldc2_w 112, 3) := by decide +kernel
theorem dX11_planLine_18 : decode cX11_planLine 18 = .ok (.invokevirtual 187, 3) := by decide +kernel
theorem dX11_planLine_21 : decode cX11_planLine 21 = .ok (.ifCond .eq 7, 3) := by decide +kernel
theorem dX11_planLine_24 : decode cX11_planLine 24 = .ok (.iconst 1, 1) := by decide +kernel
theorem dX11_planLine_25 : decode cX11_planLine 25 = .ok (.goto 46, 3) := by decide +kernel
theorem dX11_planLine_28 : decode cX11_planLine 28 = .ok (.aload_n 0, 1) := by decide +kernel
theorem dX11_planLine_29 : decode cX11_planLine 29 = .ok (.ldc2_w 114, 3) := by decide +kernel
theorem dX11_planLine_32 : decode cX11_planLine 32 = .ok (.invokevirtual 187, 3) := by decide +kernel
theorem dX11_planLine_35 : decode cX11_planLine 35 = .ok (.ifCond .eq 7, 3) := by decide +kernel
theorem dX11_planLine_38 : decode cX11_planLine 38 = .ok (.iconst 2, 1) := by decide +kernel
theorem dX11_planLine_39 : decode cX11_planLine 39 = .ok (.goto 32, 3) := by decide +kernel
theorem dX11_planLine_42 : decode cX11_planLine 42 = .ok (.aload_n 0, 1) := by decide +kernel
theorem dX11_planLine_43 : decode cX11_planLine 43 = .ok (.ldc2_w 116, 3) := by decide +kernel
theorem dX11_planLine_46 : decode cX11_planLine 46 = .ok (.invokevirtual 187, 3) := by decide +kernel
theorem dX11_planLine_49 : decode cX11_planLine 49 = .ok (.ifCond .eq 7, 3) := by decide +kernel
theorem dX11_planLine_52 : decode cX11_planLine 52 = .ok (.iconst 3, 1) := by decide +kernel
theorem dX11_planLine_53 : decode cX11_planLine 53 = .ok (.goto 18, 3) := by decide +kernel
theorem dX11_planLine_56 : decode cX11_planLine 56 = .ok (.aload_n 0, 1) := by decide +kernel
theorem dX11_planLine_57 : decode cX11_planLine 57 = .ok (.ldc2_w 118, 3) := by decide +kernel
theorem dX11_planLine_60 : decode cX11_planLine 60 = .ok (.invokevirtual 187, 3) := by decide +kernel
theorem dX11_planLine_63 : decode cX11_planLine 63 = .ok (.ifCond .eq 7, 3) := by decide +kernel
theorem dX11_planLine_66 : decode cX11_planLine 66 = .ok (.iconst 4, 1) := by decide +kernel
theorem dX11_planLine_67 : decode cX11_planLine 67 = .ok (.goto 4, 3) := by decide +kernel
theorem dX11_planLine_70 : decode cX11_planLine 70 = .ok (.iconst (-1), 1) := by decide +kernel
theorem dX11_planLine_71 : decode cX11_planLine 71 = .ok (.istore_n 1, 1) := by decide +kernel
theorem dX11_planLine_72 : decode cX11_planLine 72 = .ok (.iload_n 1, 1) := by decide +kernel
theorem dX11_planLine_73 : decode cX11_planLine 73 = .ok (.ifCond .ge 9, 3) := by decide +kernel
theorem dX11_planLine_76 : decode cX11_planLine 76 = .ok (.aload_n 0, 1) := by decide +kernel
theorem dX11_planLine_77 : decode cX11_planLine 77 = .ok (.iconst 1, 1) := by decide +kernel
theorem dX11_planLine_78 : decode cX11_planLine 78 = .ok (.invokevirtual 174, 3) := by decide +kernel
theorem dX11_planLine_81 : decode cX11_planLine 81 = .ok (.ireturn, 1) := by decide +kernel
theorem dX11_planLine_82 : decode cX11_planLine 82 = .ok (.aload_n 0, 1) := by decide +kernel
theorem dX11_planLine_83 : decode cX11_planLine 83 = .ok (.getfield 399, 3) := by decide +kernel
theorem dX11_planLine_86 : decode cX11_planLine 86 = .ok (.bipush 30, 2) := by decide +kernel
theorem dX11_planLine_88 : decode cX11_planLine 88 = .ok (.if_icmp .ne 9, 3) := by decide +kernel
theorem dX11_planLine_91 : decode cX11_planLine 91 = .ok (.aload_n 0, 1) := by decide +kernel
theorem dX11_planLine_92 : decode cX11_planLine 92 = .ok (.iconst 4, 1) := by decide +kernel
theorem dX11_planLine_93 : decode cX11_planLine 93 = .ok (.invokevirtual 174, 3) := by decide +kernel
theorem dX11_planLine_96 : decode cX11_planLine 96 = .ok (.ireturn, 1) := by decide +kernel
theorem dX11_planLine_97 : decode cX11_planLine 97 = .ok (.iconst 1, 1) := by decide +kernel
theorem dX11_planLine_98 : decode cX11_planLine 98 = .ok (.iconst 4, 1) := by decide +kernel
theorem dX11_planLine_99 : decode cX11_planLine 99 = .ok (.aload_n 0, 1) := by decide +kernel
theorem dX11_planLine_100 : decode cX11_planLine 100 = .ok (.getfield 399, 3) := by decide +kernel
theorem dX11_planLine_103 : decode cX11_planLine 103 = .ok (.imul, 1) := by decide +kernel
theorem dX11_planLine_104 : decode cX11_planLine 104 = .ok (.iadd, 1) := by decide +kernel
theorem dX11_planLine_105 : decode cX11_planLine 105 = .ok (.istore_n 2, 1) := by decide +kernel
theorem dX11_planLine_106 : decode cX11_planLine 106 = .ok (.iconst 0, 1) := by decide +kernel
theorem dX11_planLine_107 : decode cX11_planLine 107 = .ok (.istore_n 3, 1) := by decide +kernel
theorem dX11_planLine_108 : decode cX11_planLine 108 = .ok (.iload_n 3, 1) := by decide +kernel
theorem dX11_planLine_109 : decode cX11_planLine 109 = .ok (.iconst 4, 1) := by decide +kernel
theorem dX11_planLine_110 : decode cX11_planLine 110 = .ok (.if_icmp .ge 18, 3) := by decide +kernel
theorem dX11_planLine_113 : decode cX11_planLine 113 = .ok (.aload_n 0, 1) := by decide +kernel
theorem dX11_planLine_114 : decode cX11_planLine 114 = .ok (.getfield 40, 3) := by decide +kernel
theorem dX11_planLine_117 : decode cX11_planLine 117 = .ok (.iload_n 2, 1) := by decide +kernel
theorem dX11_planLine_118 : decode cX11_planLine 118 = .ok (.iload_n 3, 1) := by decide +kernel
theorem dX11_planLine_119 : decode cX11_planLine 119 = .ok (.iadd, 1) := by decide +kernel
theorem dX11_planLine_120 : decode cX11_planLine 120 = .ok (.iconst 0, 1) := by decide +kernel
theorem dX11_planLine_121 : decode cX11_planLine 121 = .ok (.iastore, 1) := by decide +kernel
theorem dX11_planLine_122 : decode cX11_planLine 122 = .ok (.iinc 3 1, 3) := by decide +kernel
theorem dX11_planLine_125 : decode cX11_planLine 125 = .ok (.goto (-17), 3) := by decide +kernel
theorem dX11_planLine_128 : decode cX11_planLine 128 = .ok (.aload_n 0, 1) := by decide +kernel
theorem dX11_planLine_129 : decode cX11_planLine 129 = .ok (.getfield 40, 3) := by decide +kernel
theorem dX11_planLine_132 : decode cX11_planLine 132 = .ok (.iload_n 2, 1) := by decide +kernel
theorem dX11_planLine_133 : decode cX11_planLine 133 = .ok (.iload_n 1, 1) := by decide +kernel
theorem dX11_planLine_134 : decode cX11_planLine 134 = .ok (.iastore, 1) := by decide +kernel
theorem dX11_planLine_135 : decode cX11_planLine 135 = .ok (.aload_n 0, 1) := by decide +kernel
theorem dX11_planLine_136 : decode cX11_planLine 136 = .ok (.invokevirtual 177, 3) := by decide +kernel
theorem dX11_planLine_139 : decode cX11_planLine 139 = .ok (.iload_n 1, 1) := by decide +kernel
theorem dX11_planLine_140 : decode cX11_planLine 140 = .ok (.ifCond .ne 63, 3) := by decide +kernel
theorem dX11_planLine_143 : decode cX11_planLine 143 = .ok (.aload_n 0, 1) := by decide +kernel
theorem dX11_planLine_144 : decode cX11_planLine 144 = .ok (.iconst 0, 1) := by decide +kernel
theorem dX11_planLine_145 : decode cX11_planLine 145 = .ok (.aload_n 0, 1) := by decide +kernel
theorem dX11_planLine_146 : decode cX11_planLine 146 = .ok (.getfield 33, 3) := by decide +kernel
theorem dX11_planLine_149 : decode cX11_planLine 149 = .ok (.iconst 0, 1) := by decide +kernel
theorem dX11_planLine_150 : decode cX11_planLine 150 = .ok (.iaload, 1) := by decide +kernel
theorem dX11_planLine_151 : decode cX11_planLine 151 = .ok (.iconst 1, 1) := by decide +kernel
theorem dX11_planLine_152 : decode cX11_planLine 152 = .ok (.isub, 1) := by decide +kernel
theorem dX11_planLine_153 : decode cX11_planLine 153 = .ok (.invokevirtual 195, 3) := by decide +kernel
theorem dX11_planLine_156 : decode cX11_planLine 156 = .ok (.ifCond .ne 5, 3) := by decide +kernel
theorem dX11_planLine_159 : decode cX11_planLine 159 = .ok (.iconst 0, 1) := by decide +kernel
theorem dX11_planLine_160 : decode cX11_planLine 160 = .ok (.ireturn, 1) := by decide +kernel
theorem dX11_planLine_161 : decode cX11_planLine 161 = .ok (.aload_n 0, 1) := by decide +kernel
theorem dX11_planLine_162 : decode cX11_planLine 162 = .ok (.getfield 184, 3) := by decide +kernel
theorem dX11_planLine_165 : decode cX11_planLine 165 = .ok (.istore_n 3, 1) := by decide +kernel
theorem dX11_planLine_166 : decode cX11_planLine 166 = .ok (.aload_n 0, 1) := by decide +kernel
theorem dX11_planLine_167 : decode cX11_planLine 167 = .ok (.iconst 0, 1) := by decide +kernel
theorem dX11_planLine_168 : decode cX11_planLine 168 = .ok (.aload_n 0, 1) := by decide +kernel
theorem dX11_planLine_169 : decode cX11_planLine 169 = .ok (.getfield 33, 3) := by decide +kernel
theorem dX11_planLine_172 : decode cX11_planLine 172 = .ok (.iconst 1, 1) := by decide +kernel
theorem dX11_planLine_173 : decode cX11_planLine 173 = .ok (.iaload, 1) := by decide +kernel
theorem dX11_planLine_174 : decode cX11_planLine 174 = .ok (.iconst 1, 1) := by decide +kernel
theorem dX11_planLine_175 : decode cX11_planLine 175 = .ok (.isub, 1) := by decide +kernel
theorem dX11_planLine_176 : decode cX11_planLine 176 = .ok (.invokevirtual 195, 3) := by decide +kernel
theorem dX11_planLine_179 : decode cX11_planLine 179 = .ok (.ifCond .ne 5, 3) := by decide +kernel
theorem dX11_planLine_182 : decode cX11_planLine 182 = .ok (.iconst 0, 1) := by decide +kernel
theorem dX11_planLine_183 : decode cX11_planLine 183 = .ok (.ireturn, 1) := by decide +kernel
theorem dX11_planLine_184 : decode cX11_planLine 184 = .ok (.aload_n 0, 1) := by decide +kernel
theorem dX11_planLine_185 : decode cX11_planLine 185 = .ok (.getfield 40, 3) := by decide +kernel
theorem dX11_planLine_188 : decode cX11_planLine 188 = .ok (.iload_n 2, 1) := by decide +kernel
theorem dX11_planLine_189 : decode cX11_planLine 189 = .ok (.iconst 1, 1) := by decide +kernel
theorem dX11_planLine_190 : decode cX11_planLine 190 = .ok (.iadd, 1) := by decide +kernel
theorem dX11_planLine_191 : decode cX11_planLine 191 = .ok (.bipush 10, 2) := by decide +kernel
theorem dX11_planLine_193 : decode cX11_planLine 193 = .ok (.aload_n 0, 1) := by decide +kernel
theorem dX11_planLine_194 : decode cX11_planLine 194 = .ok (.getfield 184, 3) := by decide +kernel
theorem dX11_planLine_197 : decode cX11_planLine 197 = .ok (.imul, 1) := by decide +kernel
theorem dX11_planLine_198 : decode cX11_planLine 198 = .ok (.iload_n 3, 1) := by decide +kernel
theorem dX11_planLine_199 : decode cX11_planLine 199 = .ok (.iadd, 1) := by decide +kernel
theorem dX11_planLine_200 : decode cX11_planLine 200 = .ok (.iastore, 1) := by decide +kernel
theorem dX11_planLine_201 : decode cX11_planLine 201 = .ok (.iconst 1, 1) := by decide +kernel
theorem dX11_planLine_202 : decode cX11_planLine 202 = .ok (.ireturn, 1) := by decide +kernel
theorem dX11_planLine_203 : decode cX11_planLine 203 = .ok (.iload_n 1, 1) := by decide +kernel
theorem dX11_planLine_204 : decode cX11_planLine 204 = .ok (.iconst 1, 1) := by decide +kernel
theorem dX11_planLine_205 : decode cX11_planLine 205 = .ok (.if_icmp .eq 8, 3) := by decide +kernel
theorem dX11_planLine_208 : decode cX11_planLine 208 = .ok (.iload_n 1, 1) := by decide +kernel
theorem dX11_planLine_209 : decode cX11_planLine 209 = .ok (.iconst 4, 1) := by decide +kernel
theorem dX11_planLine_210 : decode cX11_planLine 210 = .ok (.if_icmp .ne 49, 3) := by decide +kernel
theorem dX11_planLine_213 : decode cX11_planLine 213 = .ok (.aload_n 0, 1) := by decide +kernel
theorem dX11_planLine_214 : decode cX11_planLine 214 = .ok (.iload_n 1, 1) := by decide +kernel
theorem dX11_planLine_215 : decode cX11_planLine 215 = .ok (.iconst 1, 1) := by decide +kernel
theorem dX11_planLine_216 : decode cX11_planLine 216 = .ok (.if_icmp .ne 7, 3) := by decide +kernel
theorem dX11_planLine_219 : decode cX11_planLine 219 = .ok (.iconst 0, 1) := by decide +kernel
theorem dX11_planLine_220 : decode cX11_planLine 220 = .ok (.goto 4, 3) := by decide +kernel
theorem dX11_planLine_223 : decode cX11_planLine 223 = .ok (.iconst 1, 1) := by decide +kernel
theorem dX11_planLine_224 : decode cX11_planLine 224 = .ok (.iload_n 1, 1) := by decide +kernel
theorem dX11_planLine_225 : decode cX11_planLine 225 = .ok (.iconst 1, 1) := by decide +kernel
theorem dX11_planLine_226 : decode cX11_planLine 226 = .ok (.if_icmp .ne 9, 3) := by decide +kernel
theorem dX11_planLine_229 : decode cX11_planLine 229 = .ok (.sipush 999, 3) := by decide +kernel
theorem dX11_planLine_232 : decode cX11_planLine 232 = .ok (.goto 5, 3) := by decide +kernel
theorem dX11_planLine_235 : decode cX11_planLine 235 = .ok (.bipush 48, 2) := by decide +kernel
theorem dX11_planLine_237 : decode cX11_planLine 237 = .ok (.invokevirtual 195, 3) := by decide +kernel
theorem dX11_planLine_240 : decode cX11_planLine 240 = .ok (.ifCond .ne 5, 3) := by decide +kernel
theorem dX11_planLine_243 : decode cX11_planLine 243 = .ok (.iconst 0, 1) := by decide +kernel
theorem dX11_planLine_244 : decode cX11_planLine 244 = .ok (.ireturn, 1) := by decide +kernel
theorem dX11_planLine_245 : decode cX11_planLine 245 = .ok (.aload_n 0, 1) := by decide +kernel
theorem dX11_planLine_246 : decode cX11_planLine 246 = .ok (.getfield 40, 3) := by decide +kernel
theorem dX11_planLine_249 : decode cX11_planLine 249 = .ok (.iload_n 2, 1) := by decide +kernel
theorem dX11_planLine_250 : decode cX11_planLine 250 = .ok (.iconst 1, 1) := by decide +kernel
theorem dX11_planLine_251 : decode cX11_planLine 251 = .ok (.iadd, 1) := by decide +kernel
theorem dX11_planLine_252 : decode cX11_planLine 252 = .ok (.aload_n 0, 1) := by decide +kernel
theorem dX11_planLine_253 : decode cX11_planLine 253 = .ok (.getfield 184, 3) := by decide +kernel
theorem dX11_planLine_256 : decode cX11_planLine 256 = .ok (.iastore, 1) := by decide +kernel
theorem dX11_planLine_257 : decode cX11_planLine 257 = .ok (.iconst 1, 1) := by decide +kernel
theorem dX11_planLine_258 : decode cX11_planLine 258 = .ok (.ireturn, 1) := by decide +kernel
theorem dX11_planLine_259 : decode cX11_planLine 259 = .ok (.aload_n 0, 1) := by decide +kernel
theorem dX11_planLine_260 : decode cX11_planLine 260 = .ok (.invokevirtual 230, 3) := by decide +kernel
theorem dX11_planLine_263 : decode cX11_planLine 263 = .ok (.ifCond .ne 9, 3) := by decide +kernel
theorem dX11_planLine_266 : decode cX11_planLine 266 = .ok (.aload_n 0, 1) := by decide +kernel
theorem dX11_planLine_267 : decode cX11_planLine 267 = .ok (.iconst 1, 1) := by decide +kernel
theorem dX11_planLine_268 : decode cX11_planLine 268 = .ok (.invokevirtual 174, 3) := by decide +kernel
theorem dX11_planLine_271 : decode cX11_planLine 271 = .ok (.ireturn, 1) := by decide +kernel
theorem dX11_planLine_272 : decode cX11_planLine 272 = .ok (.aload_n 0, 1) := by decide +kernel
theorem dX11_planLine_273 : decode cX11_planLine 273 = .ok (.iconst 0, 1) := by decide +kernel
theorem dX11_planLine_274 : decode cX11_planLine 274 = .ok (.aload_n 0, 1) := by decide +kernel
theorem dX11_planLine_275 : decode cX11_planLine 275 = .ok (.getfield 33, 3) := by decide +kernel
theorem dX11_planLine_278 : decode cX11_planLine 278 = .ok (.iconst 2, 1) := by decide +kernel
theorem dX11_planLine_279 : decode cX11_planLine 279 = .ok (.iaload, 1) := by decide +kernel
theorem dX11_planLine_280 : decode cX11_planLine 280 = .ok (.invokevirtual 233, 3) := by decide +kernel
theorem dX11_planLine_283 : decode cX11_planLine 283 = .ok (.istore_n 3, 1) := by decide +kernel
theorem dX11_planLine_284 : decode cX11_planLine 284 = .ok (.iload_n 3, 1) := by decide +kernel
theorem dX11_planLine_285 : decode cX11_planLine 285 = .ok (.ifCond .ge 9, 3) := by decide +kernel
theorem dX11_planLine_288 : decode cX11_planLine 288 = .ok (.aload_n 0, 1) := by decide +kernel
theorem dX11_planLine_289 : decode cX11_planLine 289 = .ok (.iconst 3, 1) := by decide +kernel
theorem dX11_planLine_290 : decode cX11_planLine 290 = .ok (.invokevirtual 174, 3) := by decide +kernel
theorem dX11_planLine_293 : decode cX11_planLine 293 = .ok (.ireturn, 1) := by decide +kernel
theorem dX11_planLine_294 : decode cX11_planLine 294 = .ok (.aload_n 0, 1) := by decide +kernel
theorem dX11_planLine_295 : decode cX11_planLine 295 = .ok (.getfield 40, 3) := by decide +kernel
theorem dX11_planLine_298 : decode cX11_planLine 298 = .ok (.iload_n 2, 1) := by decide +kernel
theorem dX11_planLine_299 : decode cX11_planLine 299 = .ok (.iconst 1, 1) := by decide +kernel
theorem dX11_planLine_300 : decode cX11_planLine 300 = .ok (.iadd, 1) := by decide +kernel
theorem dX11_planLine_301 : decode cX11_planLine 301 = .ok (.iload_n 3, 1) := by decide +kernel
theorem dX11_planLine_302 : decode cX11_planLine 302 = .ok (.iastore, 1) := by decide +kernel
theorem dX11_planLine_303 : decode cX11_planLine 303 = .ok (.aload_n 0, 1) := by decide +kernel
theorem dX11_planLine_304 : decode cX11_planLine 304 = .ok (.invokevirtual 177, 3) := by decide +kernel
theorem dX11_planLine_307 : decode cX11_planLine 307 = .ok (.iload_n 1, 1) := by decide +kernel
theorem dX11_planLine_308 : decode cX11_planLine 308 = .ok (.iconst 2, 1) := by decide +kernel
theorem dX11_planLine_309 : decode cX11_planLine 309 = .ok (.if_icmp .ne 5, 3) := by decide +kernel
theorem dX11_planLine_312 : decode cX11_planLine 312 = .ok (.iconst 1, 1) := by decide +kernel
theorem dX11_planLine_313 : decode cX11_planLine 313 = .ok (.ireturn, 1) := by decide +kernel
theorem dX11_planLine_314 : decode cX11_planLine 314 = .ok (.aload_n 0, 1) := by decide +kernel
theorem dX11_planLine_315 : decode cX11_planLine 315 = .ok (.iconst 0, 1) := by decide +kernel
theorem dX11_planLine_316 : decode cX11_planLine 316 = .ok (.bipush 7, 2) := by decide +kernel
theorem dX11_planLine_318 : decode cX11_planLine 318 = .ok (.invokevirtual 195, 3) := by decide +kernel
theorem dX11_planLine_321 : decode cX11_planLine 321 = .ok (.ifCond .ne 5, 3) := by decide +kernel
theorem dX11_planLine_324 : decode cX11_planLine 324 = .ok (.iconst 0, 1) := by decide +kernel
theorem dX11_planLine_325 : decode cX11_planLine 325 = .ok (.ireturn, 1) := by decide +kernel
theorem dX11_planLine_326 : decode cX11_planLine 326 = .ok (.aload_n 0, 1) := by decide +kernel
theorem dX11_planLine_327 : decode cX11_planLine 327 = .ok (.getfield 40, 3) := by decide +kernel
theorem dX11_planLine_330 : decode cX11_planLine 330 = .ok (.iload_n 2, 1) := by decide +kernel
theorem dX11_planLine_331 : decode cX11_planLine 331 = .ok (.iconst 2, 1) := by decide +kernel
theorem dX11_planLine_332 : decode cX11_planLine 332 = .ok (.iadd, 1) := by decide +kernel
theorem dX11_planLine_333 : decode cX11_planLine 333 = .ok (.aload_n 0, 1) := by decide +kernel
theorem dX11_planLine_334 : decode cX11_planLine 334 = .ok (.getfield 184, 3) := by decide +kernel
theorem dX11_planLine_337 : decode cX11_planLine 337 = .ok (.iastore, 1) := by decide +kernel
theorem dX11_planLine_338 : decode cX11_planLine 338 = .ok (.iconst 1, 1) := by decide +kernel
theorem dX11_planLine_339 : decode cX11_planLine 339 = .ok (.ireturn, 1) := by decide +kernel
theorem dX11_plan_0 : decode cX11_plan 0 = .ok (.aload_n 0, 1) := by decide +kernel
theorem dX11_plan_1 : decode cX11_plan 1 = .ok (.iconst 0, 1) := by decide +kernel
theorem dX11_plan_2 : decode cX11_plan 2 = .ok (.putfield 1, 3) := by decide +kernel
theorem dX11_plan_5 : decode cX11_plan 5 = .ok (.aload_n 0, 1) := by decide +kernel
theorem dX11_plan_6 : decode cX11_plan 6 = .ok (.sipush 400, 3) := by decide +kernel
theorem dX11_plan_9 : decode cX11_plan 9 = .ok (.invokevirtual 249, 3) := by decide +kernel
theorem dX11_plan_12 : decode cX11_plan 12 = .ok (.aload_n 0, 1) := by decide +kernel
theorem dX11_plan_13 : decode cX11_plan 13 = .ok (.iconst 0, 1) := by decide +kernel
theorem dX11_plan_14 : decode cX11_plan 14 = .ok (.putfield 165, 3) := by decide +kernel
theorem dX11_plan_17 : decode cX11_plan 17 = .ok (.aload_n 0, 1) := by decide +kernel
theorem dX11_plan_18 : decode cX11_plan 18 = .ok (.iconst 0, 1) := by decide +kernel
theorem dX11_plan_19 : decode cX11_plan 19 = .ok (.putfield 399, 3) := by decide +kernel
theorem dX11_plan_22 : decode cX11_plan 22 = .ok (.aload_n 0, 1) := by decide +kernel
