theorem dX4_findRests_2 : decode cX4_findRests 2 = .ok (.putfield 15, 3) := by decide +kernel
theorem dX4_findRests_5 : decode cX4_findRests 5 = .ok (.iconst 0, 1) := by decide +kernel
theorem dX4_findRests_6 : decode cX4_findRests 6 = .ok (.istore_n 2, 1) := by decide +kernel
theorem dX4_findRests_7 : decode cX4_findRests 7 = .ok (.iload_n 2, 1) := by decide +kernel
theorem dX4_findRests_8 : decode cX4_findRests 8 = .ok (.sipush 256, 3) := by decide +kernel
theorem dX4_findRests_11 : decode cX4_findRests 11 = .ok (.if_icmp .ge 46, 3) := by decide +kernel
theorem dX4_findRests_14 : decode cX4_findRests 14 = .ok (.iload_n 2, 1) := by decide +kernel
theorem dX4_findRests_15 : decode cX4_findRests 15 = .ok (.iload_n 1, 1) := by decide +kernel
theorem dX4_findRests_16 : decode cX4_findRests 16 = .ok (.iconst (-1), 1) := by decide +kernel
theorem dX4_findRests_17 : decode cX4_findRests 17 = .ok (.ixor, 1) := by decide +kernel
theorem dX4_findRests_18 : decode cX4_findRests 18 = .ok (.iand, 1) := by decide +kernel
theorem dX4_findRests_19 : decode cX4_findRests 19 = .ok (.ifCond .ne 32, 3) := by decide +kernel
theorem dX4_findRests_22 : decode cX4_findRests 22 = .ok (.aload_n 0, 1) := by decide +kernel
theorem dX4_findRests_23 : decode cX4_findRests 23 = .ok (.iload_n 2, 1) := by decide +kernel
theorem dX4_findRests_24 : decode cX4_findRests 24 = .ok (.iload_n 1, 1) := by decide +kernel
theorem dX4_findRests_25 : decode cX4_findRests 25 = .ok (.invokevirtual 31, 3) := by decide +kernel
theorem dX4_findRests_28 : decode cX4_findRests 28 = .ok (.ifCond .eq 23, 3) := by decide +kernel
theorem dX4_findRests_31 : decode cX4_findRests 31 = .ok (.aload_n 0, 1) := by decide +kernel
theorem dX4_findRests_32 : decode cX4_findRests 32 = .ok (.getfield 19, 3) := by decide +kernel
theorem dX4_findRests_35 : decode cX4_findRests 35 = .ok (.aload_n 0, 1) := by decide +kernel
theorem dX4_findRests_36 : decode cX4_findRests 36 = .ok (.getfield 15, 3) := by decide +kernel
theorem dX4_findRests_39 : decode cX4_findRests 39 = .ok (.iload_n 2, 1) := by decide +kernel
theorem dX4_findRests_40 : decode cX4_findRests 40 = .ok (.iastore, 1) := by decide +kernel
theorem dX4_findRests_41 : decode cX4_findRests 41 = .ok (.aload_n 0, 1) := by decide +kernel
theorem dX4_findRests_42 : decode cX4_findRests 42 = .ok (.dup, 1) := by decide +kernel
theorem dX4_findRests_43 : decode cX4_findRests 43 = .ok (.getfield 15, 3) := by decide +kernel
theorem dX4_findRests_46 : decode cX4_findRests 46 = .ok (.iconst 1, 1) := by decide +kernel
theorem dX4_findRests_47 : decode cX4_findRests 47 = .ok (.iadd, 1) := by decide +kernel
theorem dX4_findRests_48 : decode cX4_findRests 48 = .ok (.putfield 15, 3) := by decide +kernel
theorem dX4_findRests_51 : decode cX4_findRests 51 = .ok (.iinc 2 1, 3) := by decide +kernel
theorem dX4_findRests_54 : decode cX4_findRests 54 = .ok (.goto (-47), 3) := by decide +kernel
theorem dX4_findRests_57 : decode cX4_findRests 57 = .ok (.aload_n 0, 1) := by decide +kernel
theorem dX4_findRests_58 : decode cX4_findRests 58 = .ok (.iconst 1, 1) := by decide +kernel
theorem dX4_findRests_59 : decode cX4_findRests 59 = .ok (.putfield 9, 3) := by decide +kernel
theorem dX4_findRests_62 : decode cX4_findRests 62 = .ok (.return_, 1) := by decide +kernel
theorem dX4_isRest_0 : decode cX4_isRest 0 = .ok (.iconst 0, 1) := by decide +kernel
theorem dX4_isRest_1 : decode cX4_isRest 1 = .ok (.istore_n 3, 1) := by decide +kernel
theorem dX4_isRest_2 : decode cX4_isRest 2 = .ok (.iload_n 3, 1) := by decide +kernel
theorem dX4_isRest_3 : decode cX4_isRest 3 = .ok (.bipush 8, 2) := by decide +kernel
theorem dX4_isRest_5 : decode cX4_isRest 5 = .ok (.if_icmp .ge 53, 3) := by decide +kernel
theorem dX4_isRest_8 : decode cX4_isRest 8 = .ok (.iload_n 1, 1) := by decide +kernel
theorem dX4_isRest_9 : decode cX4_isRest 9 = .ok (.iconst 1, 1) := by decide +kernel
theorem dX4_isRest_10 : decode cX4_isRest 10 = .ok (.iload_n 3, 1) := by decide +kernel
theorem dX4_isRest_11 : decode cX4_isRest 11 = .ok (.ishl, 1) := by decide +kernel
theorem dX4_isRest_12 : decode cX4_isRest 12 = .ok (.ixor, 1) := by decide +kernel
theorem dX4_isRest_13 : decode cX4_isRest 13 = .ok (.istore 4, 2) := by decide +kernel
theorem dX4_isRest_15 : decode cX4_isRest 15 = .ok (.iload_n 2, 1) := by decide +kernel
theorem dX4_isRest_16 : decode cX4_isRest 16 = .ok (.iload_n 3, 1) := by decide +kernel
theorem dX4_isRest_17 : decode cX4_isRest 17 = .ok (.ishr, 1) := by decide +kernel
theorem dX4_isRest_18 : decode cX4_isRest 18 = .ok (.iconst 1, 1) := by decide +kernel
theorem dX4_isRest_19 : decode cX4_isRest 19 = .ok (.iand, 1) := by decide +kernel
theorem dX4_isRest_20 : decode cX4_isRest 20 = .ok (.iconst 1, 1) := by decide +kernel
theorem dX4_isRest_21 : decode cX4_isRest 21 = .ok (.if_icmp .ne 31, 3) := by decide +kernel
theorem dX4_isRest_24 : decode cX4_isRest 24 = .ok (.aload_n 0, 1) := by decide +kernel
theorem dX4_isRest_25 : decode cX4_isRest 25 = .ok (.getfield 23, 3) := by decide +kernel
theorem dX4_isRest_28 : decode cX4_isRest 28 = .ok (.iload 4, 2) := by decide +kernel
theorem dX4_isRest_30 : decode cX4_isRest 30 = .ok (.bipush 8, 2) := by decide +kernel
theorem dX4_isRest_32 : decode cX4_isRest 32 = .ok (.imul, 1) := by decide +kernel
theorem dX4_isRest_33 : decode cX4_isRest 33 = .ok (.iload_n 3, 1) := by decide +kernel
theorem dX4_isRest_34 : decode cX4_isRest 34 = .ok (.iadd, 1) := by decide +kernel
theorem dX4_isRest_35 : decode cX4_isRest 35 = .ok (.iaload, 1) := by decide +kernel
theorem dX4_isRest_36 : decode cX4_isRest 36 = .ok (.aload_n 0, 1) := by decide +kernel
theorem dX4_isRest_37 : decode cX4_isRest 37 = .ok (.getfield 23, 3) := by decide +kernel
theorem dX4_isRest_40 : decode cX4_isRest 40 = .ok (.iload_n 1, 1) := by decide +kernel
theorem dX4_isRest_41 : decode cX4_isRest 41 = .ok (.bipush 8, 2) := by decide +kernel
theorem dX4_isRest_43 : decode cX4_isRest 43 = .ok (.imul, 1) := by decide +kernel
theorem dX4_isRest_44 : decode cX4_isRest 44 = .ok (.iload_n 3, 1) := by decide +kernel
theorem dX4_isRest_45 : decode cX4_isRest 45 = .ok (.iadd, 1) := by decide +kernel
theorem dX4_isRest_46 : decode cX4_isRest 46 = .ok (.iaload, 1) := by decide +kernel
theorem dX4_isRest_47 : decode cX4_isRest 47 = .ok (.if_icmp .le 5, 3) := by decide +kernel
theorem dX4_isRest_50 : decode cX4_isRest 50 = .ok (.iconst 0, 1) := by decide +kernel
theorem dX4_isRest_51 : decode cX4_isRest 51 = .ok (.ireturn, 1) := by decide +kernel
theorem dX4_isRest_52 : decode cX4_isRest 52 = .ok (.iinc 3 1, 3) := by decide +kernel
theorem dX4_isRest_55 : decode cX4_isRest 55 = .ok (.goto (-53), 3) := by decide +kernel
theorem dX4_isRest_58 : decode cX4_isRest 58 = .ok (.iconst 1, 1) := by decide +kernel
theorem dX4_isRest_59 : decode cX4_isRest 59 = .ok (.ireturn, 1) := by decide +kernel
theorem dX5_copy_0 : decode cX5_copy 0 = .ok (.aload_n 0, 1) := by decide +kernel
theorem dX5_copy_1 : decode cX5_copy 1 = .ok (.aload_n 1, 1) := by decide +kernel
theorem dX5_copy_2 : decode cX5_copy 2 = .ok (.getfield 9, 3) := by decide +kernel
theorem dX5_copy_5 : decode cX5_copy 5 = .ok (.putfield 9, 3) := by decide +kernel
theorem dX5_copy_8 : decode cX5_copy 8 = .ok (.aload_n 0, 1) := by decide +kernel
theorem dX5_copy_9 : decode cX5_copy 9 = .ok (.aload_n 1, 1) := by decide +kernel
theorem dX5_copy_10 : decode cX5_copy 10 = .ok (.getfield 15, 3) := by decide +kernel
theorem dX5_copy_13 : decode cX5_copy 13 = .ok (.putfield 15, 3) := by decide +kernel
theorem dX5_copy_16 : decode cX5_copy 16 = .ok (.aload_n 1, 1) := by decide +kernel
theorem dX5_copy_17 : decode cX5_copy 17 = .ok (.getfield 18, 3) := by decide +kernel
theorem dX5_copy_20 : decode cX5_copy 20 = .ok (.iconst 0, 1) := by decide +kernel
theorem dX5_copy_21 : decode cX5_copy 21 = .ok (.aload_n 0, 1) := by decide +kernel
theorem dX5_copy_22 : decode cX5_copy 22 = .ok (.getfield 18, 3) := by decide +kernel
theorem dX5_copy_25 : decode cX5_copy 25 = .ok (.iconst 0, 1) := by decide +kernel
theorem dX5_copy_26 : decode cX5_copy 26 = .ok (.bipush 40, 2) := by decide +kernel
theorem dX5_copy_28 : decode cX5_copy 28 = .ok (.invokestatic 31, 3) := by decide +kernel
theorem dX5_copy_31 : decode cX5_copy 31 = .ok (.aload_n 1, 1) := by decide +kernel
theorem dX5_copy_32 : decode cX5_copy 32 = .ok (.getfield 22, 3) := by decide +kernel
theorem dX5_copy_35 : decode cX5_copy 35 = .ok (.iconst 0, 1) := by decide +kernel
theorem dX5_copy_36 : decode cX5_copy 36 = .ok (.aload_n 0, 1) := by decide +kernel
theorem dX5_copy_37 : decode cX5_copy 37 = .ok (.getfield 22, 3) := by decide +kernel
theorem dX5_copy_40 : decode cX5_copy 40 = .ok (.iconst 0, 1) := by decide +kernel
theorem dX5_copy_41 : decode cX5_copy 41 = .ok (.bipush 40, 2) := by decide +kernel
theorem dX5_copy_43 : decode cX5_copy 43 = .ok (.invokestatic 31, 3) := by decide +kernel
theorem dX5_copy_46 : decode cX5_copy 46 = .ok (.aload_n 1, 1) := by decide +kernel
theorem dX5_copy_47 : decode cX5_copy 47 = .ok (.getfield 25, 3) := by decide +kernel
theorem dX5_copy_50 : decode cX5_copy 50 = .ok (.iconst 0, 1) := by decide +kernel
theorem dX5_copy_51 : decode cX5_copy 51 = .ok (.aload_n 0, 1) := by decide +kernel
theorem dX5_copy_52 : decode cX5_copy 52 = .ok (.getfield 25, 3) := by decide +kernel
theorem dX5_copy_55 : decode cX5_copy 55 = .ok (.iconst 0, 1) := by decide +kernel
theorem dX5_copy_56 : decode cX5_copy 56 = .ok (.bipush 40, 2) := by decide +kernel
theorem dX5_copy_58 : decode cX5_copy 58 = .ok (.invokestatic 31, 3) := by decide +kernel
theorem dX5_copy_61 : decode cX5_copy 61 = .ok (.return_, 1) := by decide +kernel
theorem dX5_read_0 : decode cX5_read 0 = .ok (.aload_n 0, 1) := by decide +kernel
theorem dX5_read_1 : decode cX5_read 1 = .ok (.iconst 0, 1) := by decide +kernel
theorem dX5_read_2 : decode cX5_read 2 = .ok (.putfield 9, 3) := by decide +kernel
theorem dX5_read_5 : decode cX5_read 5 = .ok (.aload_n 0, 1) := by decide +kernel
theorem dX5_read_6 : decode cX5_read 6 = .ok (.iconst 0, 1) := by decide +kernel
theorem dX5_read_7 : decode cX5_read 7 = .ok (.putfield 15, 3) := by decide +kernel
theorem dX5_read_10 : decode cX5_read 10 = .ok (.aload_n 0, 1) := by decide +kernel
theorem dX5_read_11 : decode cX5_read 11 = .ok (.aload_n 1, 1) := by decide +kernel
theorem dX5_read_12 : decode cX5_read 12 = .ok (.iconst 1, 1) := by decide +kernel
theorem dX5_read_13 : decode cX5_read 13 = .ok (.invokevirtual 37, 3) := by decide +kernel
theorem dX5_read_16 : decode cX5_read 16 = .ok (.aload_n 1, 1) := by decide +kernel
theorem dX5_read_17 : decode cX5_read 17 = .ok (.invokevirtual 41, 3) := by decide +kernel
theorem dX5_read_20 : decode cX5_read 20 = .ok (.ifCond .eq 8, 3) := by decide +kernel
theorem dX5_read_23 : decode cX5_read 23 = .ok (.aload_n 1, 1) := by decide +kernel
theorem dX5_read_24 : decode cX5_read 24 = .ok (.iconst 1, 1) := by decide +kernel
theorem dX5_read_25 : decode cX5_read 25 = .ok (.invokevirtual 47, 3) := by decide +kernel
theorem dX5_read_28 : decode cX5_read 28 = .ok (.return_, 1) := by decide +kernel
theorem dX5_readCond_0 : decode cX5_readCond 0 = .ok (.aload_n 0, 1) := by decide +kernel
theorem dX5_readCond_1 : decode cX5_readCond 1 = .ok (.aload_n 1, 1) := by decide +kernel
theorem dX5_readCond_2 : decode cX5_readCond 2 = .ok (.iload_n 2, 1) := by decide +kernel
theorem dX5_readCond_3 : decode cX5_readCond 3 = .ok (.invokevirtual 51, 3) := by decide +kernel
theorem dX5_readCond_6 : decode cX5_readCond 6 = .ok (.iconst 0, 1) := by decide +kernel
theorem dX5_readCond_7 : decode cX5_readCond 7 = .ok (.istore_n 3, 1) := by decide +kernel
theorem dX5_readCond_8 : decode cX5_readCond 8 = .ok (.iload_n 3, 1) := by decide +kernel
theorem dX5_readCond_9 : decode cX5_readCond 9 = .ok (.bipush 20, 2) := by decide +kernel
theorem dX5_readCond_11 : decode cX5_readCond 11 = .ok (.if_icmp .ge 43, 3) := by decide +kernel
theorem dX5_readCond_14 : decode cX5_readCond 14 = .ok (.aload_n 1, 1) := by decide +kernel
theorem dX5_readCond_15 : decode cX5_readCond 15 = .ok (.invokevirtual 54, 3) := by decide +kernel
theorem dX5_readCond_18 : decode cX5_readCond 18 = .ok (.ifCond .eq 36, 3) := by decide +kernel
theorem dX5_readCond_21 : decode cX5_readCond 21 = .ok (.aload_n 1, 1) := by decide +kernel
theorem dX5_readCond_22 : decode cX5_readCond 22 = .ok (.invokevirtual 57, 3) := by decide +kernel
theorem dX5_readCond_25 : decode cX5_readCond 25 = .ok (.bipush 15, 2) := by decide +kernel
theorem dX5_readCond_27 : decode cX5_readCond 27 = .ok (.if_icmp .ne 27, 3) := by decide +kernel
theorem dX5_readCond_30 : decode cX5_readCond 30 = .ok (.aload_n 1, 1) := by decide +kernel
theorem dX5_readCond_31 : decode cX5_readCond 31 = .ok (.invokevirtual 61, 3) := by decide +kernel
theorem dX5_readCond_34 : decode cX5_readCond 34 = .ok (.aload_n 0, 1) := by decide +kernel
theorem dX5_readCond_35 : decode cX5_readCond 35 = .ok (.aload_n 1, 1) := by decide +kernel
theorem dX5_readCond_36 : decode cX5_readCond 36 = .ok (.iload_n 2, 1) := by decide +kernel
theorem dX5_readCond_37 : decode cX5_readCond 37 = .ok (.invokevirtual 51, 3) := by decide +kernel
theorem dX5_readCond_40 : decode cX5_readCond 40 = .ok (.aload_n 0, 1) := by decide +kernel
theorem dX5_readCond_41 : decode cX5_readCond 41 = .ok (.bipush 15, 2) := by decide +kernel
theorem dX5_readCond_43 : decode cX5_readCond 43 = .ok (.iconst 0, 1) := by decide +kernel
theorem dX5_readCond_44 : decode cX5_readCond 44 = .ok (.iconst 0, 1) := by decide +kernel
theorem dX5_readCond_45 : decode cX5_readCond 45 = .ok (.invokevirtual 64, 3) := by decide +kernel
theorem dX5_readCond_48 : decode cX5_readCond 48 = .ok (.iinc 3 1, 3) := by decide +kernel
theorem dX5_readCond_51 : decode cX5_readCond 51 = .ok (.goto (-43), 3) := by decide +kernel
theorem dX5_readCond_54 : decode cX5_readCond 54 = .ok (.return_, 1) := by decide +kernel
theorem dX5_readAll_0 : decode cX5_readAll 0 = .ok (.aload_n 0, 1) := by decide +kernel
theorem dX5_readAll_1 : decode cX5_readAll 1 = .ok (.aload_n 1, 1) := by decide +kernel
theorem dX5_readAll_2 : decode cX5_readAll 2 = .ok (.iload_n 2, 1) := by decide +kernel
theorem dX5_readAll_3 : decode cX5_readAll 3 = .ok (.invokevirtual 68, 3) := by decide +kernel
theorem dX5_readAll_6 : decode cX5_readAll 6 = .ok (.iconst 0, 1) := by decide +kernel
theorem dX5_readAll_7 : decode cX5_readAll 7 = .ok (.istore_n 3, 1) := by decide +kernel
theorem dX5_readAll_8 : decode cX5_readAll 8 = .ok (.iload_n 3, 1) := by decide +kernel
theorem dX5_readAll_9 : decode cX5_readAll 9 = .ok (.bipush 20, 2) := by decide +kernel
theorem dX5_readAll_11 : decode cX5_readAll 11 = .ok (.if_icmp .ge 43, 3) := by decide +kernel
theorem dX5_readAll_14 : decode cX5_readAll 14 = .ok (.aload_n 1, 1) := by decide +kernel
theorem dX5_readAll_15 : decode cX5_readAll 15 = .ok (.invokevirtual 54, 3) := by decide +kernel
theorem dX5_readAll_18 : decode cX5_readAll 18 = .ok (.ifCond .eq 36, 3) := by decide +kernel
theorem dX5_readAll_21 : decode cX5_readAll 21 = .ok (.aload_n 1, 1) := by decide +kernel
theorem dX5_readAll_22 : decode cX5_readAll 22 = .ok (.invokevirtual 57, 3) := by decide +kernel
theorem dX5_readAll_25 : decode cX5_readAll 25 = .ok (.bipush 16, 2) := by decide +kernel
theorem dX5_readAll_27 : decode cX5_readAll 27 = .ok (.if_icmp .ne 27, 3) := by decide +kernel
theorem dX5_readAll_30 : decode cX5_readAll 30 = .ok (.aload_n 1, 1) := by decide +kernel
theorem dX5_readAll_31 : decode cX5_readAll 31 = .ok (.invokevirtual 61, 3) := by decide +kernel
theorem dX5_readAll_34 : decode cX5_readAll 34 = .ok (.aload_n 0, 1) := by decide +kernel
theorem dX5_readAll_35 : decode cX5_readAll 35 = .ok (.aload_n 1, 1) := by decide +kernel
theorem dX5_readAll_36 : decode cX5_readAll 36 = .ok (.iload_n 2, 1) := by decide +kernel
theorem dX5_readAll_37 : decode cX5_readAll 37 = .ok (.invokevirtual 68, 3) := by decide +kernel
theorem dX5_readAll_40 : decode cX5_readAll 40 = .ok (.aload_n 0, 1) := by decide +kernel
theorem dX5_readAll_41 : decode cX5_readAll 41 = .ok (.bipush 16, 2) := by decide +kernel
theorem dX5_readAll_43 : decode cX5_readAll 43 = .ok (.iconst 0, 1) := by decide +kernel
theorem dX5_readAll_44 : decode cX5_readAll 44 = .ok (.iconst 0, 1) := by decide +kernel
theorem dX5_readAll_45 : decode cX5_readAll 45 = .ok (.invokevirtual 64, 3) := by decide +kernel
theorem dX5_readAll_48 : decode cX5_readAll 48 = .ok (.iinc 3 1, 3) := by decide +kernel
theorem dX5_readAll_51 : decode cX5_readAll 51 = .ok (.goto (-43), 3) := by decide +kernel
theorem dX5_readAll_54 : decode cX5_readAll 54 = .ok (.return_, 1) := by decide +kernel
theorem dX5_readOne_0 : decode cX5_readOne 0 = .ok (.aload_n 1, 1) := by decide +kernel
theorem dX5_readOne_1 : decode cX5_readOne 1 = .ok (.iconst 5, 1) := by decide +kernel
theorem dX5_readOne_2 : decode cX5_readOne 2 = .ok (.bipush 40, 2) := by decide +kernel
theorem dX5_readOne_4 : decode cX5_readOne 4 = .ok (.invokevirtual 71, 3) := by decide +kernel
theorem dX5_readOne_7 : decode cX5_readOne 7 = .ok (.istore_n 3, 1) := by decide +kernel
theorem dX5_readOne_8 : decode cX5_readOne 8 = .ok (.aload_n 1, 1) := by decide +kernel
theorem dX5_readOne_9 : decode cX5_readOne 9 = .ok (.invokevirtual 57, 3) := by decide +kernel
theorem dX5_readOne_12 : decode cX5_readOne 12 = .ok (.istore 4, 2) := by decide +kernel
theorem dX5_readOne_14 : decode cX5_readOne 14 = .ok (.iload_n 3, 1) := by decide +kernel
theorem dX5_readOne_15 : decode cX5_readOne 15 = .ok (.ifCond .ne 25, 3) := by decide +kernel
theorem dX5_readOne_18 : decode cX5_readOne 18 = .ok (.iload 4, 2) := by decide +kernel
theorem dX5_readOne_20 : decode cX5_readOne 20 = .ok (.bipush 17, 2) := by decide +kernel
theorem dX5_readOne_22 : decode cX5_readOne 22 = .ok (.if_icmp .lt 10, 3) := by decide +kernel
theorem dX5_readOne_25 : decode cX5_readOne 25 = .ok (.iload 4, 2) := by decide +kernel
theorem dX5_readOne_27 : decode cX5_readOne 27 = .ok (.bipush 23, 2) := by decide +kernel
theorem dX5_readOne_29 : decode cX5_readOne 29 = .ok (.if_icmp .le 11, 3) := by decide +kernel
theorem dX5_readOne_32 : decode cX5_readOne 32 = .ok (.aload_n 1, 1) := by decide +kernel
theorem dX5_readOne_33 : decode cX5_readOne 33 = .ok (.iconst 1, 1) := by decide +kernel
theorem dX5_readOne_34 : decode cX5_readOne 34 = .ok (.invokevirtual 47, 3) := by decide +kernel
theorem dX5_readOne_37 : decode cX5_readOne 37 = .ok (.goto 23, 3) := by decide +kernel
theorem dX5_readOne_40 : decode cX5_readOne 40 = .ok (.aload_n 0, 1) := by decide +kernel
theorem dX5_readOne_41 : decode cX5_readOne 41 = .ok (.getfield 9, 3) := by decide +kernel
theorem dX5_readOne_44 : decode cX5_readOne 44 = .ok (.bipush 20, 2) := by decide +kernel
theorem dX5_readOne_46 : decode cX5_readOne 46 = .ok (.if_icmp .ge 9, 3) := by decide +kernel
theorem dX5_readOne_49 : decode cX5_readOne 49 = .ok (.iload_n 2, 1) := by decide +kernel
theorem dX5_readOne_50 : decode cX5_readOne 50 = .ok (.bipush 8, 2) := by decide +kernel
theorem dX5_readOne_52 : decode cX5_readOne 52 = .ok (.if_icmp .le 8, 3) := by decide +kernel
theorem dX5_readOne_55 : decode cX5_readOne 55 = .ok (.aload_n 1, 1) := by decide +kernel
theorem dX5_readOne_56 : decode cX5_readOne 56 = .ok (.iconst 4, 1) := by decide +kernel
theorem dX5_readOne_57 : decode cX5_readOne 57 = .ok (.invokevirtual 47, 3) := by decide +kernel
theorem dX5_readOne_60 : decode cX5_readOne 60 = .ok (.aload_n 1, 1) := by decide +kernel
theorem dX5_readOne_61 : decode cX5_readOne 61 = .ok (.invokevirtual 54, 3) := by decide +kernel
theorem dX5_readOne_64 : decode cX5_readOne 64 = .ok (.ifCond .eq 9, 3) := by decide +kernel
theorem dX5_readOne_67 : decode cX5_readOne 67 = .ok (.iload_n 2, 1) := by decide +kernel
theorem dX5_readOne_68 : decode cX5_readOne 68 = .ok (.bipush 8, 2) := by decide +kernel
theorem dX5_readOne_70 : decode cX5_readOne 70 = .ok (.if_icmp .le 4, 3) := by decide +kernel
theorem dX5_readOne_73 : decode cX5_readOne 73 = .ok (.return_, 1) := by decide +kernel
theorem dX5_readOne_74 : decode cX5_readOne 74 = .ok (.aload_n 0, 1) := by decide +kernel
theorem dX5_readOne_75 : decode cX5_readOne 75 = .ok (.dup, 1) := by decide +kernel
theorem dX5_readOne_76 : decode cX5_readOne 76 = .ok (.getfield 9, 3) := by decide +kernel
theorem dX5_readOne_79 : decode cX5_readOne 79 = .ok (.iconst 1, 1) := by decide +kernel
theorem dX5_readOne_80 : decode cX5_readOne 80 = .ok (.iadd, 1) := by decide +kernel
theorem dX5_readOne_81 : decode cX5_readOne 81 = .ok (.putfield 9, 3) := by decide +kernel
theorem dX5_readOne_84 : decode cX5_readOne 84 = .ok (.aload_n 1, 1) := by decide +kernel
theorem dX5_readOne_85 : decode cX5_readOne 85 = .ok (.invokevirtual 61, 3) := by decide +kernel
theorem dX5_readOne_88 : decode cX5_readOne 88 = .ok (.iload_n 3, 1) := by decide +kernel
theorem dX5_readOne_89 : decode cX5_readOne 89 = .ok (.ifCond .eq 20, 3) := by decide +kernel
theorem dX5_readOne_92 : decode cX5_readOne 92 = .ok (.aload_n 0, 1) := by decide +kernel
theorem dX5_readOne_93 : decode cX5_readOne 93 = .ok (.aload_n 1, 1) := by decide +kernel
theorem dX5_readOne_94 : decode cX5_readOne 94 = .ok (.iload_n 2, 1) := by decide +kernel
theorem dX5_readOne_95 : decode cX5_readOne 95 = .ok (.iconst 1, 1) := by decide +kernel
theorem dX5_readOne_96 : decode cX5_readOne 96 = .ok (.iadd, 1) := by decide +kernel
theorem dX5_readOne_97 : decode cX5_readOne 97 = .ok (.invokevirtual 37, 3) := by decide +kernel
theorem dX5_readOne_100 : decode cX5_readOne 100 = .ok (.aload_n 1, 1) := by decide +kernel
theorem dX5_readOne_101 : decode cX5_readOne 101 = .ok (.bipush 41, 2) := by decide +kernel
theorem dX5_readOne_103 : decode cX5_readOne 103 = .ok (.invokevirtual 75, 3) := by decide +kernel
theorem dX5_readOne_106 : decode cX5_readOne 106 = .ok (.goto 69, 3) := by decide +kernel
theorem dX5_readOne_109 : decode cX5_readOne 109 = .ok (.iload 4, 2) := by decide +kernel
theorem dX5_readOne_111 : decode cX5_readOne 111 = .ok (.bipush 17, 2) := by decide +kernel
theorem dX5_readOne_113 : decode cX5_readOne 113 = .ok (.if_icmp .ne 22, 3) := by decide +kernel
theorem dX5_readOne_116 : decode cX5_readOne 116 = .ok (.aload_n 0, 1) := by decide +kernel
theorem dX5_readOne_117 : decode cX5_readOne 117 = .ok (.aload_n 1, 1) := by decide +kernel
theorem dX5_readOne_118 : decode cX5_readOne 118 = .ok (.iload_n 2, 1) := by decide +kernel
theorem dX5_readOne_119 : decode cX5_readOne 119 = .ok (.iconst 1, 1) := by decide +kernel
theorem dX5_readOne_120 : decode cX5_readOne 120 = .ok (.iadd, 1) := by decide +kernel
theorem dX5_readOne_121 : decode cX5_readOne 121 = .ok (.invokevirtual 68, 3) := by decide +kernel
theorem dX5_readOne_124 : decode cX5_readOne 124 = .ok (.aload_n 0, 1) := by decide +kernel
theorem dX5_readOne_125 : decode cX5_readOne 125 = .ok (.bipush 17, 2) := by decide +kernel
theorem dX5_readOne_127 : decode cX5_readOne 127 = .ok (.iconst 0, 1) := by decide +kernel
theorem dX5_readOne_128 : decode cX5_readOne 128 = .ok (.iconst 0, 1) := by decide +kernel
theorem dX5_readOne_129 : decode cX5_readOne 129 = .ok (.invokevirtual 64, 3) := by decide +kernel
theorem dX5_readOne_132 : decode cX5_readOne 132 = .ok (.goto 43, 3) := by decide +kernel
theorem dX5_readOne_135 : decode cX5_readOne 135 = .ok (.iload 4, 2) := by decide +kernel
theorem dX5_readOne_137 : decode cX5_readOne 137 = .ok (.bipush 18, 2) := by decide +kernel
theorem dX5_readOne_139 : decode cX5_readOne 139 = .ok (.if_icmp .ne 14, 3) := by decide +kernel
theorem dX5_readOne_142 : decode cX5_readOne 142 = .ok (.aload_n 0, 1) := by decide +kernel
theorem dX5_readOne_143 : decode cX5_readOne 143 = .ok (.bipush 18, 2) := by decide +kernel
theorem dX5_readOne_145 : decode cX5_readOne 145 = .ok (.iconst 0, 1) := by decide +kernel
theorem dX5_readOne_146 : decode cX5_readOne 146 = .ok (.iconst 0, 1) := by decide +kernel
theorem dX5_readOne_147 : decode cX5_readOne 147 = .ok (.invokevirtual 64, 3) := by decide +kernel
theorem dX5_readOne_150 : decode cX5_readOne 150 = .ok (.goto 25, 3) := by decide +kernel
theorem dX5_readOne_153 : decode cX5_readOne 153 = .ok (.aload_n 1, 1) := by decide +kernel
theorem dX5_readOne_154 : decode cX5_readOne 154 = .ok (.invokestatic 79, 3) := by decide +kernel
theorem dX5_readOne_157 : decode cX5_readOne 157 = .ok (.istore 5, 2) := by decide +kernel
theorem dX5_readOne_159 : decode cX5_readOne 159 = .ok (.aload_n 0, 1) := by decide +kernel
theorem dX5_readOne_160 : decode cX5_readOne 160 = .ok (.iload 4, 2) := by decide +kernel
theorem dX5_readOne_162 : decode cX5_readOne 162 = .ok (.iload 5, 2) := by decide +kernel
theorem dX5_readOne_164 : decode cX5_readOne 164 = .ok (.aload_n 1, 1) := by decide +kernel
theorem dX5_readOne_165 : decode cX5_readOne 165 = .ok (.iconst 0, 1) := by decide +kernel
theorem dX5_readOne_166 : decode cX5_readOne 166 = .ok (.sipush 999, 3) := by decide +kernel
theorem dX5_readOne_169 : decode cX5_readOne 169 = .ok (.invokevirtual 83, 3) := by decide +kernel
theorem dX5_readOne_172 : decode cX5_readOne 172 = .ok (.invokevirtual 64, 3) := by decide +kernel
theorem dX5_readOne_175 : decode cX5_readOne 175 = .ok (.return_, 1) := by decide +kernel
theorem dX5_takeSign_0 : decode cX5_takeSign 0 = .ok (.bipush 60, 2) := by decide +kernel
theorem dX5_takeSign_2 : decode cX5_takeSign 2 = .ok (.istore_n 1, 1) := by decide +kernel
theorem dX5_takeSign_3 : decode cX5_takeSign 3 = .ok (.iload_n 1, 1) := by decide +kernel
theorem dX5_takeSign_4 : decode cX5_takeSign 4 = .ok (.bipush 62, 2) := by decide +kernel
theorem dX5_takeSign_6 : decode cX5_takeSign 6 = .ok (.if_icmp .gt 24, 3) := by decide +kernel
theorem dX5_takeSign_9 : decode cX5_takeSign 9 = .ok (.aload_n 0, 1) := by decide +kernel
theorem dX5_takeSign_10 : decode cX5_takeSign 10 = .ok (.iconst 5, 1) := by decide +kernel
theorem dX5_takeSign_11 : decode cX5_takeSign 11 = .ok (.iload_n 1, 1) := by decide +kernel
theorem dX5_takeSign_12 : decode cX5_takeSign 12 = .ok (.invokevirtual 71, 3) := by decide +kernel
theorem dX5_takeSign_15 : decode cX5_takeSign 15 = .ok (.ifCond .eq 9, 3) := by decide +kernel
theorem dX5_takeSign_18 : decode cX5_takeSign 18 = .ok (.aload_n 0, 1) := by decide +kernel
theorem dX5_takeSign_19 : decode cX5_takeSign 19 = .ok (.invokevirtual 61, 3) := by decide +kernel
theorem dX5_takeSign_22 : decode cX5_takeSign 22 = .ok (.iload_n 1, 1) := by decide +kernel
theorem dX5_takeSign_23 : decode cX5_takeSign 23 = .ok (.ireturn, 1) := by decide +kernel
theorem dX5_takeSign_24 : decode cX5_takeSign 24 = .ok (.iinc 1 1, 3) := by decide +kernel
theorem dX5_takeSign_27 : decode cX5_takeSign 27 = .ok (.goto (-24), 3) := by decide +kernel
theorem dX5_takeSign_30 : decode cX5_takeSign 30 = .ok (.aload_n 0, 1) := by decide +kernel
theorem dX5_takeSign_31 : decode cX5_takeSign 31 = .ok (.iconst 1, 1) := by decide +kernel
theorem dX5_takeSign_32 : decode cX5_takeSign 32 = .ok (.invokevirtual 47, 3) := by decide +kernel
theorem dX5_takeSign_35 : decode cX5_takeSign 35 = .ok (.iconst (-1), 1) := by decide +kernel
theorem dX5_takeSign_36 : decode cX5_takeSign 36 = .ok (.ireturn, 1) := by decide +kernel
theorem dX5_add_0 : decode cX5_add 0 = .ok (.aload_n 0, 1) := by decide +kernel
theorem dX5_add_1 : decode cX5_add 1 = .ok (.getfield 15, 3) := by decide +kernel
theorem dX5_add_4 : decode cX5_add 4 = .ok (.bipush 40, 2) := by decide +kernel
theorem dX5_add_6 : decode cX5_add 6 = .ok (.if_icmp .ge 43, 3) := by decide +kernel
theorem dX5_add_9 : decode cX5_add 9 = .ok (.aload_n 0, 1) := by decide +kernel
theorem dX5_add_10 : decode cX5_add 10 = .ok (.getfield 18, 3) := by decide +kernel
theorem dX5_add_13 : decode cX5_add 13 = .ok (.aload_n 0, 1) := by decide +kernel
theorem dX5_add_14 : decode cX5_add 14 = .ok (.getfield 15, 3) := by decide +kernel
theorem dX5_add_17 : decode cX5_add 17 = .ok (.iload_n 1, 1) := by decide +kernel
theorem dX5_add_18 : decode cX5_add 18 = .ok (.iastore, 1) := by decide +kernel
theorem dX5_add_19 : decode cX5_add 19 = .ok (.aload_n 0, 1) := by decide +kernel
theorem dX5_add_20 : decode cX5_add 20 = .ok (.getfield 22, 3) := by decide +kernel
theorem dX5_add_23 : decode cX5_add 23 = .ok (.aload_n 0, 1) := by decide +kernel
theorem dX5_add_24 : decode cX5_add 24 = .ok (.getfield 15, 3) := by decide +kernel
theorem dX5_add_27 : decode cX5_add 27 = .ok (.iload_n 2, 1) := by decide +kernel
theorem dX5_add_28 : decode cX5_add 28 = .ok (.iastore, 1) := by decide +kernel
theorem dX5_add_29 : decode cX5_add 29 = .ok (.aload_n 0, 1) := by decide +kernel
theorem dX5_add_30 : decode cX5_add 30 = .ok (.getfield 25, 3) := by decide +kernel
theorem dX5_add_33 : decode cX5_add 33 = .ok (.aload_n 0, 1) := by decide +kernel
theorem dX5_add_34 : decode cX5_add 34 = .ok (.getfield 15, 3) := by decide +kernel
theorem dX5_add_37 : decode cX5_add 37 = .ok (.iload_n 3, 1) := by decide +kernel
theorem dX5_add_38 : decode cX5_add 38 = .ok (.iastore, 1) := by decide +kernel
theorem dX5_add_39 : decode cX5_add 39 = .ok (.aload_n 0, 1) := by decide +kernel
theorem dX5_add_40 : decode cX5_add 40 = .ok (.dup, 1) := by decide +kernel
theorem dX5_add_41 : decode cX5_add 41 = .ok (.getfield 15, 3) := by decide +kernel
theorem dX5_add_44 : decode cX5_add 44 = .ok (.iconst 1, 1) := by decide +kernel
theorem dX5_add_45 : decode cX5_add 45 = .ok (.iadd, 1) := by decide +kernel
theorem dX5_add_46 : decode cX5_add 46 = .ok (.putfield 15, 3) := by decide +kernel
theorem dX5_add_49 : decode cX5_add 49 = .ok (.return_, 1) := by decide +kernel
theorem dX5_ownersOf_0 : decode cX5_ownersOf 0 = .ok (.iconst 0, 1) := by decide +kernel
theorem dX5_ownersOf_1 : decode cX5_ownersOf 1 = .ok (.istore_n 3, 1) := by decide +kernel
theorem dX5_ownersOf_2 : decode cX5_ownersOf 2 = .ok (.iconst 0, 1) := by decide +kernel
theorem dX5_ownersOf_3 : decode cX5_ownersOf 3 = .ok (.istore 4, 2) := by decide +kernel
theorem dX5_ownersOf_5 : decode cX5_ownersOf 5 = .ok (.iload 4, 2) := by decide +kernel
theorem dX5_ownersOf_7 : decode cX5_ownersOf 7 = .ok (.aload_n 0, 1) := by decide +kernel
theorem dX5_ownersOf_8 : decode cX5_ownersOf 8 = .ok (.getfield 15, 3) := by decide +kernel
theorem dX5_ownersOf_11 : decode cX5_ownersOf 11 = .ok (.if_icmp .ge 152, 3) := by decide +kernel
theorem dX5_ownersOf_14 : decode cX5_ownersOf 14 = .ok (.aload_n 0, 1) := by decide +kernel
theorem dX5_ownersOf_15 : decode cX5_ownersOf 15 = .ok (.getfield 18, 3) := by decide +kernel
theorem dX5_ownersOf_18 : decode cX5_ownersOf 18 = .ok (.iload 4, 2) := by decide +kernel
theorem dX5_ownersOf_20 : decode cX5_ownersOf 20 = .ok (.iaload, 1) := by decide +kernel
theorem dX5_ownersOf_21 : decode cX5_ownersOf 21 = .ok (.bipush 17, 2) := by decide +kernel
theorem dX5_ownersOf_23 : decode cX5_ownersOf 23 = .ok (.if_icmp .ne 28, 3) := by decide +kernel
theorem dX5_ownersOf_26 : decode cX5_ownersOf 26 = .ok (.iload_n 3, 1) := by decide +kernel
theorem dX5_ownersOf_27 : decode cX5_ownersOf 27 = .ok (.ifCond .le 24, 3) := by decide +kernel
theorem dX5_ownersOf_30 : decode cX5_ownersOf 30 = .ok (.aload_n 0, 1) := by decide +kernel
theorem dX5_ownersOf_31 : decode cX5_ownersOf 31 = .ok (.getfield 28, 3) := by decide +kernel
theorem dX5_ownersOf_34 : decode cX5_ownersOf 34 = .ok (.iload_n 3, 1) := by decide +kernel
theorem dX5_ownersOf_35 : decode cX5_ownersOf 35 = .ok (.iconst 1, 1) := by decide +kernel
theorem dX5_ownersOf_36 : decode cX5_ownersOf 36 = .ok (.isub, 1) := by decide +kernel
theorem dX5_ownersOf_37 : decode cX5_ownersOf 37 = .ok (.aload_n 0, 1) := by decide +kernel
theorem dX5_ownersOf_38 : decode cX5_ownersOf 38 = .ok (.getfield 28, 3) := by decide +kernel
theorem dX5_ownersOf_41 : decode cX5_ownersOf 41 = .ok (.iload_n 3, 1) := by decide +kernel
theorem dX5_ownersOf_42 : decode cX5_ownersOf 42 = .ok (.iconst 1, 1) := by decide +kernel
theorem dX5_ownersOf_43 : decode cX5_ownersOf 43 = .ok (.isub, 1) := by decide +kernel
theorem dX5_ownersOf_44 : decode cX5_ownersOf 44 = .ok (.iaload, 1) := by decide +kernel
theorem dX5_ownersOf_45 : decode cX5_ownersOf 45 = .ok (.iconst (-1), 1) := by decide +kernel
theorem dX5_ownersOf_46 : decode cX5_ownersOf 46 = .ok (.ixor, 1) := by decide +kernel
theorem dX5_ownersOf_47 : decode cX5_ownersOf 47 = .ok (.iastore, 1) := by decide +kernel
theorem dX5_ownersOf_48 : decode cX5_ownersOf 48 = .ok (.goto 109, 3) := by decide +kernel
theorem dX5_ownersOf_51 : decode cX5_ownersOf 51 = .ok (.aload_n 0, 1) := by decide +kernel
theorem dX5_ownersOf_52 : decode cX5_ownersOf 52 = .ok (.getfield 18, 3) := by decide +kernel
theorem dX5_ownersOf_55 : decode cX5_ownersOf 55 = .ok (.iload 4, 2) := by decide +kernel
theorem dX5_ownersOf_57 : decode cX5_ownersOf 57 = .ok (.iaload, 1) := by decide +kernel
theorem dX5_ownersOf_58 : decode cX5_ownersOf 58 = .ok (.bipush 16, 2) := by decide +kernel
theorem dX5_ownersOf_60 : decode cX5_ownersOf 60 = .ok (.if_icmp .ne 31, 3) := by decide +kernel
theorem dX5_ownersOf_63 : decode cX5_ownersOf 63 = .ok (.iload_n 3, 1) := by decide +kernel
theorem dX5_ownersOf_64 : decode cX5_ownersOf 64 = .ok (.iconst 1, 1) := by decide +kernel
theorem dX5_ownersOf_65 : decode cX5_ownersOf 65 = .ok (.if_icmp .le 26, 3) := by decide +kernel
theorem dX5_ownersOf_68 : decode cX5_ownersOf 68 = .ok (.iinc 3 (-1), 3) := by decide +kernel
theorem dX5_ownersOf_71 : decode cX5_ownersOf 71 = .ok (.aload_n 0, 1) := by decide +kernel
theorem dX5_ownersOf_72 : decode cX5_ownersOf 72 = .ok (.getfield 28, 3) := by decide +kernel
theorem dX5_ownersOf_75 : decode cX5_ownersOf 75 = .ok (.iload_n 3, 1) := by decide +kernel
theorem dX5_ownersOf_76 : decode cX5_ownersOf 76 = .ok (.iconst 1, 1) := by decide +kernel
theorem dX5_ownersOf_77 : decode cX5_ownersOf 77 = .ok (.isub, 1) := by decide +kernel
theorem dX5_ownersOf_78 : decode cX5_ownersOf 78 = .ok (.dup2, 1) := by decide +kernel
theorem dX5_ownersOf_79 : decode cX5_ownersOf 79 = .ok (.iaload, 1) := by decide +kernel
theorem dX5_ownersOf_80 : decode cX5_ownersOf 80 = .ok (.aload_n 0, 1) := by decide +kernel
theorem dX5_ownersOf_81 : decode cX5_ownersOf 81 = .ok (.getfield 28, 3) := by decide +kernel
theorem dX5_ownersOf_84 : decode cX5_ownersOf 84 = .ok (.iload_n 3, 1) := by decide +kernel
theorem dX5_ownersOf_85 : decode cX5_ownersOf 85 = .ok (.iaload, 1) := by decide +kernel
theorem dX5_ownersOf_86 : decode cX5_ownersOf 86 = .ok (.iand, 1) := by decide +kernel
theorem dX5_ownersOf_87 : decode cX5_ownersOf 87 = .ok (.iastore, 1) := by decide +kernel
theorem dX5_ownersOf_88 : decode cX5_ownersOf 88 = .ok (.goto 69, 3) := by decide +kernel
theorem dX5_ownersOf_91 : decode cX5_ownersOf 91 = .ok (.aload_n 0, 1) := by decide +kernel
theorem dX5_ownersOf_92 : decode cX5_ownersOf 92 = .ok (.getfield 18, 3) := by decide +kernel
theorem dX5_ownersOf_95 : decode cX5_ownersOf 95 = .ok (.iload 4, 2) := by decide +kernel
theorem dX5_ownersOf_97 : decode cX5_ownersOf 97 = .ok (.iaload, 1) := by decide +kernel
theorem dX5_ownersOf_98 : decode cX5_ownersOf 98 = .ok (.bipush 15, 2) := by decide +kernel
theorem dX5_ownersOf_100 : decode cX5_ownersOf 100 = .ok (.if_icmp .ne 31, 3) := by decide +kernel
theorem dX5_ownersOf_103 : decode cX5_ownersOf 103 = .ok (.iload_n 3, 1) := by decide +kernel
theorem dX5_ownersOf_104 : decode cX5_ownersOf 104 = .ok (.iconst 1, 1) := by decide +kernel
theorem dX5_ownersOf_105 : decode cX5_ownersOf 105 = .ok (.if_icmp .le 26, 3) := by decide +kernel
theorem dX5_ownersOf_108 : decode cX5_ownersOf 108 = .ok (.iinc 3 (-1), 3) := by decide +kernel
theorem dX5_ownersOf_111 : decode cX5_ownersOf 111 = .ok (.aload_n 0, 1) := by decide +kernel
theorem dX5_ownersOf_112 : decode cX5_ownersOf 112 = .ok (.getfield 28, 3) := by decide +kernel
theorem dX5_ownersOf_115 : decode cX5_ownersOf 115 = .ok (.iload_n 3, 1) := by decide +kernel
theorem dX5_ownersOf_116 : decode cX5_ownersOf 116 = .ok (.iconst 1, 1) := by decide +kernel
theorem dX5_ownersOf_117 : decode cX5_ownersOf 117 = .ok (.isub, 1) := by decide +kernel
theorem dX5_ownersOf_118 : decode cX5_ownersOf 118 = .ok (.dup2, 1) := by decide +kernel
theorem dX5_ownersOf_119 : decode cX5_ownersOf 119 = .ok (.iaload, 1) := by decide +kernel
theorem dX5_ownersOf_120 : decode cX5_ownersOf 120 = .ok (.aload_n 0, 1) := by decide +kernel
theorem dX5_ownersOf_121 : decode cX5_ownersOf 121 = .ok (.getfield 28, 3) := by decide +kernel
theorem dX5_ownersOf_124 : decode cX5_ownersOf 124 = .ok (.iload_n 3, 1) := by decide +kernel
theorem dX5_ownersOf_125 : decode cX5_ownersOf 125 = .ok (.iaload, 1) := by decide +kernel
theorem dX5_ownersOf_126 : decode cX5_ownersOf 126 = .ok (.ior, 1) := by decide +kernel
theorem dX5_ownersOf_127 : decode cX5_ownersOf 127 = .ok (.iastore, 1) := by decide +kernel
theorem dX5_ownersOf_128 : decode cX5_ownersOf 128 = .ok (.goto 29, 3) := by decide +kernel
theorem dX5_ownersOf_131 : decode cX5_ownersOf 131 = .ok (.iload_n 3, 1) := by decide +kernel
theorem dX5_ownersOf_132 : decode cX5_ownersOf 132 = .ok (.aload_n 0, 1) := by decide +kernel
theorem dX5_ownersOf_133 : decode cX5_ownersOf 133 = .ok (.getfield 28, 3) := by decide +kernel
theorem dX5_ownersOf_136 : decode cX5_ownersOf 136 = .ok (.arraylength, 1) := by decide +kernel
theorem dX5_ownersOf_137 : decode cX5_ownersOf 137 = .ok (.if_icmp .ge 20, 3) := by decide +kernel
theorem dX5_ownersOf_140 : decode cX5_ownersOf 140 = .ok (.aload_n 0, 1) := by decide +kernel
theorem dX5_ownersOf_141 : decode cX5_ownersOf 141 = .ok (.getfield 28, 3) := by decide +kernel
theorem dX5_ownersOf_144 : decode cX5_ownersOf 144 = .ok (.iload_n 3, 1) := by decide +kernel
theorem dX5_ownersOf_145 : decode cX5_ownersOf 145 = .ok (.aload_n 0, 1) := by decide +kernel
theorem dX5_ownersOf_146 : decode cX5_ownersOf 146 = .ok (.aload_n 1, 1) := by decide +kernel
theorem dX5_ownersOf_147 : decode cX5_ownersOf 147 = .ok (.iload_n 2, 1) := by decide +kernel
theorem dX5_ownersOf_148 : decode cX5_ownersOf 148 = .ok (.iload 4, 2) := by decide +kernel
theorem dX5_ownersOf_150 : decode cX5_ownersOf 150 = .ok (.invokevirtual 87, 3) := by decide +kernel
theorem dX5_ownersOf_153 : decode cX5_ownersOf 153 = .ok (.iastore, 1) := by decide +kernel
theorem dX5_ownersOf_154 : decode cX5_ownersOf 154 = .ok (.iinc 3 1, 3) := by decide +kernel
theorem dX5_ownersOf_157 : decode cX5_ownersOf 157 = .ok (.iinc 4 1, 3) := by decide +kernel
theorem dX5_ownersOf_160 : decode cX5_ownersOf 160 = .ok (.goto (-155), 3) := by decide +kernel
theorem dX5_ownersOf_163 : decode cX5_ownersOf 163 = .ok (.iload_n 3, 1) := by decide +kernel
theorem dX5_ownersOf_164 : decode cX5_ownersOf 164 = .ok (.ifCond .le 18, 3) := by decide +kernel
theorem dX5_ownersOf_167 : decode cX5_ownersOf 167 = .ok (.aload_n 0, 1) := by decide +kernel
theorem dX5_ownersOf_168 : decode cX5_ownersOf 168 = .ok (.getfield 28, 3) := by decide +kernel
theorem dX5_ownersOf_171 : decode cX5_ownersOf 171 = .ok (.iconst 0, 1) := by decide +kernel
theorem dX5_ownersOf_172 : decode cX5_ownersOf 172 = .ok (.iaload, 1) := by decide +kernel
theorem dX5_ownersOf_173 : decode cX5_ownersOf 173 = .ok (.iconst 1, 1) := by decide +kernel
theorem dX5_ownersOf_174 : decode cX5_ownersOf 174 = .ok (.iload_n 2, 1) := by decide +kernel
theorem dX5_ownersOf_175 : decode cX5_ownersOf 175 = .ok (.ishl, 1) := by decide +kernel
theorem dX5_ownersOf_176 : decode cX5_ownersOf 176 = .ok (.iconst 1, 1) := by decide +kernel
theorem dX5_ownersOf_177 : decode cX5_ownersOf 177 = .ok (.isub, 1) := by decide +kernel
theorem dX5_ownersOf_178 : decode cX5_ownersOf 178 = .ok (.iand, 1) := by decide +kernel
theorem dX5_ownersOf_179 : decode cX5_ownersOf 179 = .ok (.goto 4, 3) := by decide +kernel
theorem dX5_ownersOf_182 : decode cX5_ownersOf 182 = .ok (.iconst 0, 1) := by decide +kernel
theorem dX5_ownersOf_183 : decode cX5_ownersOf 183 = .ok (.ireturn, 1) := by decide +kernel
theorem dX5_ownersOfOne_0 : decode cX5_ownersOfOne 0 = .ok (.iconst 0, 1) := by decide +kernel
theorem dX5_ownersOfOne_1 : decode cX5_ownersOfOne 1 = .ok (.istore 4, 2) := by decide +kernel
theorem dX5_ownersOfOne_3 : decode cX5_ownersOfOne 3 = .ok (.iconst 0, 1) := by decide +kernel
theorem dX5_ownersOfOne_4 : decode cX5_ownersOfOne 4 = .ok (.istore 5, 2) := by decide +kernel
theorem dX5_ownersOfOne_6 : decode cX5_ownersOfOne 6 = .ok (.iload 5, 2) := by decide +kernel
theorem dX5_ownersOfOne_8 : decode cX5_ownersOfOne 8 = .ok (.iload_n 2, 1) := by decide +kernel
theorem dX5_ownersOfOne_9 : decode cX5_ownersOfOne 9 = .ok (.if_icmp .ge 29, 3) := by decide +kernel
theorem dX5_ownersOfOne_12 : decode cX5_ownersOfOne 12 = .ok (.aload_n 0, 1) := by decide +kernel
theorem dX5_ownersOfOne_13 : decode cX5_ownersOfOne 13 = .ok (.aload_n 1, 1) := by decide +kernel
theorem dX5_ownersOfOne_14 : decode cX5_ownersOfOne 14 = .ok (.iload 5, 2) := by decide +kernel
theorem dX5_ownersOfOne_16 : decode cX5_ownersOfOne 16 = .ok (.iload_n 3, 1) := by decide +kernel
theorem dX5_ownersOfOne_17 : decode cX5_ownersOfOne 17 = .ok (.invokevirtual 91, 3) := by decide +kernel
theorem dX5_ownersOfOne_20 : decode cX5_ownersOfOne 20 = .ok (.ifCond .eq 12, 3) := by decide +kernel
theorem dX5_ownersOfOne_23 : decode cX5_ownersOfOne 23 = .ok (.iload 4, 2) := by decide +kernel
theorem dX5_ownersOfOne_25 : decode cX5_ownersOfOne 25 = .ok (.iconst 1, 1) := by decide +kernel
theorem dX5_ownersOfOne_26 : decode cX5_ownersOfOne 26 = .ok (.iload 5, 2) := by decide +kernel
theorem dX5_ownersOfOne_28 : decode cX5_ownersOfOne 28 = .ok (.ishl, 1) := by decide +kernel
theorem dX5_ownersOfOne_29 : decode cX5_ownersOfOne 29 = .ok (.ior, 1) := by decide +kernel
theorem dX5_ownersOfOne_30 : decode cX5_ownersOfOne 30 = .ok (.istore 4, 2) := by decide +kernel
theorem dX5_ownersOfOne_32 : decode cX5_ownersOfOne 32 = .ok (.iinc 5 1, 3) := by decide +kernel
theorem dX5_ownersOfOne_35 : decode cX5_ownersOfOne 35 = .ok (.goto (-29), 3) := by decide +kernel
theorem dX5_ownersOfOne_38 : decode cX5_ownersOfOne 38 = .ok (.iload 4, 2) := by decide +kernel
theorem dX5_ownersOfOne_40 : decode cX5_ownersOfOne 40 = .ok (.ireturn, 1) := by decide +kernel
theorem dX5_isSo_0 : decode cX5_isSo 0 = .ok (.aload_n 0, 1) := by decide +kernel
theorem dX5_isSo_1 : decode cX5_isSo 1 = .ok (.getfield 18, 3) := by decide +kernel
theorem dX5_isSo_4 : decode cX5_isSo 4 = .ok (.iload_n 3, 1) := by decide +kernel
theorem dX5_isSo_5 : decode cX5_isSo 5 = .ok (.iaload, 1) := by decide +kernel
theorem dX5_isSo_6 : decode cX5_isSo 6 = .ok (.tableswitch 101 18 22 #[34, 53, 65, 77, 89], 34) := by decide +kernel
theorem dX5_isSo_40 : decode cX5_isSo 40 = .ok (.aload_n 1, 1) := by decide +kernel
theorem dX5_isSo_41 : decode cX5_isSo 41 = .ok (.getfield 95, 3) := by decide +kernel
theorem dX5_isSo_44 : decode cX5_isSo 44 = .ok (.iload_n 2, 1) := by decide +kernel
theorem dX5_isSo_45 : decode cX5_isSo 45 = .ok (.iaload, 1) := by decide +kernel
theorem dX5_isSo_46 : decode cX5_isSo 46 = .ok (.aload_n 1, 1) := by decide +kernel
theorem dX5_isSo_47 : decode cX5_isSo 47 = .ok (.getfield 100, 3) := by decide +kernel
theorem dX5_isSo_50 : decode cX5_isSo 50 = .ok (.if_icmp .ne 7, 3) := by decide +kernel
theorem dX5_isSo_53 : decode cX5_isSo 53 = .ok (.iconst 1, 1) := by decide +kernel
theorem dX5_isSo_54 : decode cX5_isSo 54 = .ok (.goto 4, 3) := by decide +kernel
theorem dX5_isSo_57 : decode cX5_isSo 57 = .ok (.iconst 0, 1) := by decide +kernel
theorem dX5_isSo_58 : decode cX5_isSo 58 = .ok (.ireturn, 1) := by decide +kernel
theorem dX5_isSo_59 : decode cX5_isSo 59 = .ok (.aload_n 0, 1) := by decide +kernel
theorem dX5_isSo_60 : decode cX5_isSo 60 = .ok (.aload_n 1, 1) := by decide +kernel
theorem dX5_isSo_61 : decode cX5_isSo 61 = .ok (.getfield 103, 3) := by decide +kernel
theorem dX5_isSo_64 : decode cX5_isSo 64 = .ok (.iload_n 2, 1) := by decide +kernel
theorem dX5_isSo_65 : decode cX5_isSo 65 = .ok (.iaload, 1) := by decide +kernel
theorem dX5_isSo_66 : decode cX5_isSo 66 = .ok (.iload_n 3, 1) := by decide +kernel
theorem dX5_isSo_67 : decode cX5_isSo 67 = .ok (.invokevirtual 106, 3) := by decide +kernel
theorem dX5_isSo_70 : decode cX5_isSo 70 = .ok (.ireturn, 1) := by decide +kernel
theorem dX5_isSo_71 : decode cX5_isSo 71 = .ok (.aload_n 0, 1) := by decide +kernel
theorem dX5_isSo_72 : decode cX5_isSo 72 = .ok (.aload_n 1, 1) := by decide +kernel
theorem dX5_isSo_73 : decode cX5_isSo 73 = .ok (.getfield 109, 3) := by decide +kernel
theorem dX5_isSo_76 : decode cX5_isSo 76 = .ok (.iload_n 2, 1) := by decide +kernel
theorem dX5_isSo_77 : decode cX5_isSo 77 = .ok (.iaload, 1) := by decide +kernel
theorem dX5_isSo_78 : decode cX5_isSo 78 = .ok (.iload_n 3, 1) := by decide +kernel
theorem dX5_isSo_79 : decode cX5_isSo 79 = .ok (.invokevirtual 106, 3) := by decide +kernel
theorem dX5_isSo_82 : decode cX5_isSo 82 = .ok (.ireturn, 1) := by decide +kernel
theorem dX5_isSo_83 : decode cX5_isSo 83 = .ok (.aload_n 0, 1) := by decide +kernel
theorem dX5_isSo_84 : decode cX5_isSo 84 = .ok (.aload_n 1, 1) := by decide +kernel
theorem dX5_isSo_85 : decode cX5_isSo 85 = .ok (.getfield 112, 3) := by decide +kernel
theorem dX5_isSo_88 : decode cX5_isSo 88 = .ok (.iload_n 2, 1) := by decide +kernel
theorem dX5_isSo_89 : decode cX5_isSo 89 = .ok (.iaload, 1) := by decide +kernel
theorem dX5_isSo_90 : decode cX5_isSo 90 = .ok (.iload_n 3, 1) := by decide +kernel
theorem dX5_isSo_91 : decode cX5_isSo 91 = .ok (.invokevirtual 106, 3) := by decide +kernel
theorem dX5_isSo_94 : decode cX5_isSo 94 = .ok (.ireturn, 1) := by decide +kernel
theorem dX5_isSo_95 : decode cX5_isSo 95 = .ok (.aload_n 0, 1) := by decide +kernel
theorem dX5_isSo_96 : decode cX5_isSo 96 = .ok (.aload_n 1, 1) := by decide +kernel
theorem dX5_isSo_97 : decode cX5_isSo 97 = .ok (.getfield 95, 3) := by decide +kernel
theorem dX5_isSo_100 : decode cX5_isSo 100 = .ok (.iload_n 2, 1) := by decide +kernel
theorem dX5_isSo_101 : decode cX5_isSo 101 = .ok (.iaload, 1) := by decide +kernel
theorem dX5_isSo_102 : decode cX5_isSo 102 = .ok (.iload_n 3, 1) := by decide +kernel
theorem dX5_isSo_103 : decode cX5_isSo 103 = .ok (.invokevirtual 106, 3) := by decide +kernel
theorem dX5_isSo_106 : decode cX5_isSo 106 = .ok (.ireturn, 1) := by decide +kernel
theorem dX5_isSo_107 : decode cX5_isSo 107 = .ok (.aload_n 0, 1) := by decide +kernel
theorem dX5_isSo_108 : decode cX5_isSo 108 = .ok (.iload_n 2, 1) := by decide +kernel
theorem dX5_isSo_109 : decode cX5_isSo 109 = .ok (.iload_n 3, 1) := by decide +kernel
theorem dX5_isSo_110 : decode cX5_isSo 110 = .ok (.invokevirtual 106, 3) := by decide +kernel
theorem dX5_isSo_113 : decode cX5_isSo 113 = .ok (.ireturn, 1) := by decide +kernel
theorem dX5_compare_0 : decode cX5_compare 0 = .ok (.aload_n 0, 1) := by decide +kernel
theorem dX5_compare_1 : decode cX5_compare 1 = .ok (.getfield 22, 3) := by decide +kernel
theorem dX5_compare_4 : decode cX5_compare 4 = .ok (.iload_n 2, 1) := by decide +kernel
theorem dX5_compare_5 : decode cX5_compare 5 = .ok (.iaload, 1) := by decide +kernel
theorem dX5_compare_6 : decode cX5_compare 6 = .ok (.lookupswitch 58 #[(60, 26), (61, 42)], 26) := by decide +kernel
theorem dX5_compare_32 : decode cX5_compare 32 = .ok (.iload_n 1, 1) := by decide +kernel
theorem dX5_compare_33 : decode cX5_compare 33 = .ok (.aload_n 0, 1) := by decide +kernel
theorem dX5_compare_34 : decode cX5_compare 34 = .ok (.getfield 25, 3) := by decide +kernel
theorem dX5_compare_37 : decode cX5_compare 37 = .ok (.iload_n 2, 1) := by decide +kernel
theorem dX5_compare_38 : decode cX5_compare 38 = .ok (.iaload, 1) := by decide +kernel
theorem dX5_compare_39 : decode cX5_compare 39 = .ok (.if_icmp .ge 7, 3) := by decide +kernel
theorem dX5_compare_42 : decode cX5_compare 42 = .ok (.iconst 1, 1) := by decide +kernel
theorem dX5_compare_43 : decode cX5_compare 43 = .ok (.goto 4, 3) := by decide +kernel
theorem dX5_compare_46 : decode cX5_compare 46 = .ok (.iconst 0, 1) := by decide +kernel
theorem dX5_compare_47 : decode cX5_compare 47 = .ok (.ireturn, 1) := by decide +kernel
theorem dX5_compare_48 : decode cX5_compare 48 = .ok (.iload_n 1, 1) := by decide +kernel
theorem dX5_compare_49 : decode cX5_compare 49 = .ok (.aload_n 0, 1) := by decide +kernel
theorem dX5_compare_50 : decode cX5_compare 50 = .ok (.getfield 25, 3) := by decide +kernel
theorem dX5_compare_53 : decode cX5_compare 53 = .ok (.iload_n 2, 1) := by decide +kernel
theorem dX5_compare_54 : decode cX5_compare 54 = .ok (.iaload, 1) := by decide +kernel
theorem dX5_compare_55 : decode cX5_compare 55 = .ok (.if_icmp .ne 7, 3) := by decide +kernel
theorem dX5_compare_58 : decode cX5_compare 58 = .ok (.iconst 1, 1) := by decide +kernel
theorem dX5_compare_59 : decode cX5_compare 59 = .ok (.goto 4, 3) := by decide +kernel
theorem dX5_compare_62 : decode cX5_compare 62 = .ok (.iconst 0, 1) := by decide +kernel
theorem dX5_compare_63 : decode cX5_compare 63 = .ok (.ireturn, 1) := by decide +kernel
theorem dX5_compare_64 : decode cX5_compare 64 = .ok (.iload_n 1, 1) := by decide +kernel
theorem dX5_compare_65 : decode cX5_compare 65 = .ok (.aload_n 0, 1) := by decide +kernel
theorem dX5_compare_66 : decode cX5_compare 66 = .ok (.getfield 25, 3) := by decide +kernel
theorem dX5_compare_69 : decode cX5_compare 69 = .ok (.iload_n 2, 1) := by decide +kernel
theorem dX5_compare_70 : decode cX5_compare 70 = .ok (.iaload, 1) := by decide +kernel
theorem dX5_compare_71 : decode cX5_compare 71 = .ok (.if_icmp .le 7, 3) := by decide +kernel
theorem dX5_compare_74 : decode cX5_compare 74 = .ok (.iconst 1, 1) := by decide +kernel
theorem dX5_compare_75 : decode cX5_compare 75 = .ok (.goto 4, 3) := by decide +kernel
theorem dX5_compare_78 : decode cX5_compare 78 = .ok (.iconst 0, 1) := by decide +kernel
theorem dX5_compare_79 : decode cX5_compare 79 = .ok (.ireturn, 1) := by decide +kernel
theorem dX6_begin_0 : decode cX6_begin 0 = .ok (.aload_n 0, 1) := by decide +kernel
theorem dX6_begin_1 : decode cX6_begin 1 = .ok (.iconst 0, 1) := by decide +kernel
theorem dX6_begin_2 : decode cX6_begin 2 = .ok (.putfield 9, 3) := by decide +kernel
theorem dX6_begin_5 : decode cX6_begin 5 = .ok (.aload_n 0, 1) := by decide +kernel
theorem dX6_begin_6 : decode cX6_begin 6 = .ok (.iconst 0, 1) := by decide +kernel
theorem dX6_begin_7 : decode cX6_begin 7 = .ok (.putfield 15, 3) := by decide +kernel
theorem dX6_begin_10 : decode cX6_begin 10 = .ok (.aload_n 0, 1) := by decide +kernel
theorem dX6_begin_11 : decode cX6_begin 11 = .ok (.aload_n 1, 1) := by decide +kernel
theorem dX6_begin_12 : decode cX6_begin 12 = .ok (.getfield 55, 3) := by decide +kernel
theorem dX6_begin_15 : decode cX6_begin 15 = .ok (.putfield 18, 3) := by decide +kernel
theorem dX6_begin_18 : decode cX6_begin 18 = .ok (.aload_n 0, 1) := by decide +kernel
theorem dX6_begin_19 : decode cX6_begin 19 = .ok (.iconst 1, 1) := by decide +kernel
theorem dX6_begin_20 : decode cX6_begin 20 = .ok (.aload_n 1, 1) := by decide +kernel
theorem dX6_begin_21 : decode cX6_begin 21 = .ok (.getfield 58, 3) := by decide +kernel
theorem dX6_begin_24 : decode cX6_begin 24 = .ok (.ishl, 1) := by decide +kernel
theorem dX6_begin_25 : decode cX6_begin 25 = .ok (.iconst 1, 1) := by decide +kernel
theorem dX6_begin_26 : decode cX6_begin 26 = .ok (.isub, 1) := by decide +kernel
theorem dX6_begin_27 : decode cX6_begin 27 = .ok (.putfield 21, 3) := by decide +kernel
theorem dX6_begin_30 : decode cX6_begin 30 = .ok (.aload_n 0, 1) := by decide +kernel
theorem dX6_begin_31 : decode cX6_begin 31 = .ok (.iconst (-1), 1) := by decide +kernel
theorem dX6_begin_32 : decode cX6_begin 32 = .ok (.putfield 24, 3) := by decide +kernel
theorem dX6_begin_35 : decode cX6_begin 35 = .ok (.aload_n 0, 1) := by decide +kernel
theorem dX6_begin_36 : decode cX6_begin 36 = .ok (.iconst 0, 1) := by decide +kernel
theorem dX6_begin_37 : decode cX6_begin 37 = .ok (.putfield 27, 3) := by decide +kernel
theorem dX6_begin_40 : decode cX6_begin 40 = .ok (.iconst 0, 1) := by decide +kernel
theorem dX6_begin_41 : decode cX6_begin 41 = .ok (.istore_n 2, 1) := by decide +kernel
theorem dX6_begin_42 : decode cX6_begin 42 = .ok (.iload_n 2, 1) := by decide +kernel
theorem dX6_begin_43 : decode cX6_begin 43 = .ok (.bipush 8, 2) := by decide +kernel
theorem dX6_begin_45 : decode cX6_begin 45 = .ok (.if_icmp .ge 82, 3) := by decide +kernel
theorem dX6_begin_48 : decode cX6_begin 48 = .ok (.aload_n 0, 1) := by decide +kernel
theorem dX6_begin_49 : decode cX6_begin 49 = .ok (.getfield 30, 3) := by decide +kernel
theorem dX6_begin_52 : decode cX6_begin 52 = .ok (.iload_n 2, 1) := by decide +kernel
theorem dX6_begin_53 : decode cX6_begin 53 = .ok (.aload_n 1, 1) := by decide +kernel
theorem dX6_begin_54 : decode cX6_begin 54 = .ok (.getfield 61, 3) := by decide +kernel
theorem dX6_begin_57 : decode cX6_begin 57 = .ok (.getfield 65, 3) := by decide +kernel
theorem dX6_begin_60 : decode cX6_begin 60 = .ok (.iload_n 2, 1) := by decide +kernel
theorem dX6_begin_61 : decode cX6_begin 61 = .ok (.iaload, 1) := by decide +kernel
theorem dX6_begin_62 : decode cX6_begin 62 = .ok (.iastore, 1) := by decide +kernel
theorem dX6_begin_63 : decode cX6_begin 63 = .ok (.aload_n 0, 1) := by decide +kernel
theorem dX6_begin_64 : decode cX6_begin 64 = .ok (.getfield 34, 3) := by decide +kernel
theorem dX6_begin_67 : decode cX6_begin 67 = .ok (.iload_n 2, 1) := by decide +kernel
theorem dX6_begin_68 : decode cX6_begin 68 = .ok (.iconst 0, 1) := by decide +kernel
theorem dX6_begin_69 : decode cX6_begin 69 = .ok (.iastore, 1) := by decide +kernel
theorem dX6_begin_70 : decode cX6_begin 70 = .ok (.aload_n 0, 1) := by decide +kernel
theorem dX6_begin_71 : decode cX6_begin 71 = .ok (.getfield 37, 3) := by decide +kernel
theorem dX6_begin_74 : decode cX6_begin 74 = .ok (.iload_n 2, 1) := by decide +kernel
theorem dX6_begin_75 : decode cX6_begin 75 = .ok (.aload_n 1, 1) := by decide +kernel
theorem dX6_begin_76 : decode cX6_begin 76 = .ok (.getfield 61, 3) := by decide +kernel
theorem dX6_begin_79 : decode cX6_begin 79 = .ok (.getfield 68, 3) := by decide +kernel
theorem dX6_begin_82 : decode cX6_begin 82 = .ok (.iload_n 2, 1) := by decide +kernel
theorem dX6_begin_83 : decode cX6_begin 83 = .ok (.iaload, 1) := by decide +kernel
theorem dX6_begin_84 : decode cX6_begin 84 = .ok (.iastore, 1) := by decide +kernel
theorem dX6_begin_85 : decode cX6_begin 85 = .ok (.aload_n 0, 1) := by decide +kernel
theorem dX6_begin_86 : decode cX6_begin 86 = .ok (.getfield 40, 3) := by decide +kernel
theorem dX6_begin_89 : decode cX6_begin 89 = .ok (.iload_n 2, 1) := by decide +kernel
theorem dX6_begin_90 : decode cX6_begin 90 = .ok (.aload_n 1, 1) := by decide +kernel
theorem dX6_begin_91 : decode cX6_begin 91 = .ok (.getfield 61, 3) := by decide +kernel
theorem dX6_begin_94 : decode cX6_begin 94 = .ok (.getfield 69, 3) := by decide +kernel
theorem dX6_begin_97 : decode cX6_begin 97 = .ok (.iload_n 2, 1) := by decide +kernel
theorem dX6_begin_98 : decode cX6_begin 98 = .ok (.iaload, 1) := by decide +kernel
theorem dX6_begin_99 : decode cX6_begin 99 = .ok (.iastore, 1) := by decide +kernel
theorem dX6_begin_100 : decode cX6_begin 100 = .ok (.aload_n 0, 1) := by decide +kernel
theorem dX6_begin_101 : decode cX6_begin 101 = .ok (.getfield 43, 3) := by decide +kernel
theorem dX6_begin_104 : decode cX6_begin 104 = .ok (.iload_n 2, 1) := by decide +kernel
theorem dX6_begin_105 : decode cX6_begin 105 = .ok (.iconst 0, 1) := by decide +kernel
theorem dX6_begin_106 : decode cX6_begin 106 = .ok (.iastore, 1) := by decide +kernel
theorem dX6_begin_107 : decode cX6_begin 107 = .ok (.aload_n 0, 1) := by decide +kernel
theorem dX6_begin_108 : decode cX6_begin 108 = .ok (.getfield 46, 3) := by decide +kernel
theorem dX6_begin_111 : decode cX6_begin 111 = .ok (.iload_n 2, 1) := by decide +kernel
theorem dX6_begin_112 : decode cX6_begin 112 = .ok (.iconst 0, 1) := by decide +kernel
theorem dX6_begin_113 : decode cX6_begin 113 = .ok (.iastore, 1) := by decide +kernel
theorem dX6_begin_114 : decode cX6_begin 114 = .ok (.aload_n 0, 1) := by decide +kernel
theorem dX6_begin_115 : decode cX6_begin 115 = .ok (.getfield 49, 3) := by decide +kernel
theorem dX6_begin_118 : decode cX6_begin 118 = .ok (.iload_n 2, 1) := by decide +kernel
theorem dX6_begin_119 : decode cX6_begin 119 = .ok (.iconst 0, 1) := by decide +kernel
theorem dX6_begin_120 : decode cX6_begin 120 = .ok (.iastore, 1) := by decide +kernel
theorem dX6_begin_121 : decode cX6_begin 121 = .ok (.iinc 2 1, 3) := by decide +kernel
theorem dX6_begin_124 : decode cX6_begin 124 = .ok (.goto (-82), 3) := by decide +kernel
theorem dX6_begin_127 : decode cX6_begin 127 = .ok (.aload_n 1, 1) := by decide +kernel
theorem dX6_begin_128 : decode cX6_begin 128 = .ok (.getfield 70, 3) := by decide +kernel
theorem dX6_begin_131 : decode cX6_begin 131 = .ok (.iconst 0, 1) := by decide +kernel
theorem dX6_begin_132 : decode cX6_begin 132 = .ok (.aload_n 0, 1) := by decide +kernel
theorem dX6_begin_133 : decode cX6_begin 133 = .ok (.getfield 52, 3) := by decide +kernel
theorem dX6_begin_136 : decode cX6_begin 136 = .ok (.iconst 0, 1) := by decide +kernel
theorem dX6_begin_137 : decode cX6_begin 137 = .ok (.bipush 100, 2) := by decide +kernel
theorem dX6_begin_139 : decode cX6_begin 139 = .ok (.invokestatic 71, 3) := by decide +kernel
theorem dX6_begin_142 : decode cX6_begin 142 = .ok (.return_, 1) := by decide +kernel
theorem dX6_copy_0 : decode cX6_copy 0 = .ok (.aload_n 0, 1) := by decide +kernel
theorem dX6_copy_1 : decode cX6_copy 1 = .ok (.aload_n 1, 1) := by decide +kernel
theorem dX6_copy_2 : decode cX6_copy 2 = .ok (.getfield 9, 3) := by decide +kernel
theorem dX6_copy_5 : decode cX6_copy 5 = .ok (.putfield 9, 3) := by decide +kernel
theorem dX6_copy_8 : decode cX6_copy 8 = .ok (.aload_n 0, 1) := by decide +kernel
theorem dX6_copy_9 : decode cX6_copy 9 = .ok (.aload_n 1, 1) := by decide +kernel
theorem dX6_copy_10 : decode cX6_copy 10 = .ok (.getfield 15, 3) := by decide +kernel
theorem dX6_copy_13 : decode cX6_copy 13 = .ok (.putfield 15, 3) := by decide +kernel
theorem dX6_copy_16 : decode cX6_copy 16 = .ok (.aload_n 0, 1) := by decide +kernel
theorem dX6_copy_17 : decode cX6_copy 17 = .ok (.aload_n 1, 1) := by decide +kernel
theorem dX6_copy_18 : decode cX6_copy 18 = .ok (.getfield 18, 3) := by decide +kernel
theorem dX6_copy_21 : decode cX6_copy 21 = .ok (.putfield 18, 3) := by decide +kernel
theorem dX6_copy_24 : decode cX6_copy 24 = .ok (.aload_n 0, 1) := by decide +kernel
theorem dX6_copy_25 : decode cX6_copy 25 = .ok (.aload_n 1, 1) := by decide +kernel
theorem dX6_copy_26 : decode cX6_copy 26 = .ok (.getfield 21, 3) := by decide +kernel
theorem dX6_copy_29 : decode cX6_copy 29 = .ok (.putfield 21, 3) := by decide +kernel
theorem dX6_copy_32 : decode cX6_copy 32 = .ok (.aload_n 0, 1) := by decide +kernel
theorem dX6_copy_33 : decode cX6_copy 33 = .ok (.aload_n 1, 1) := by decide +kernel
theorem dX6_copy_34 : decode cX6_copy 34 = .ok (.getfield 24, 3) := by decide +kernel
theorem dX6_copy_37 : decode cX6_copy 37 = .ok (.putfield 24, 3) := by decide +kernel
theorem dX6_copy_40 : decode cX6_copy 40 = .ok (.aload_n 0, 1) := by decide +kernel
theorem dX6_copy_41 : decode cX6_copy 41 = .ok (.aload_n 1, 1) := by decide +kernel
theorem dX6_copy_42 : decode cX6_copy 42 = .ok (.getfield 27, 3) := by decide +kernel
theorem dX6_copy_45 : decode cX6_copy 45 = .ok (.putfield 27, 3) := by decide +kernel
theorem dX6_copy_48 : decode cX6_copy 48 = .ok (.aload_n 1, 1) := by decide +kernel
theorem dX6_copy_49 : decode cX6_copy 49 = .ok (.getfield 30, 3) := by decide +kernel
theorem dX6_copy_52 : decode cX6_copy 52 = .ok (.iconst 0, 1) := by decide +kernel
theorem dX6_copy_53 : decode cX6_copy 53 = .ok (.aload_n 0, 1) := by decide +kernel
theorem dX6_copy_54 : decode cX6_copy 54 = .ok (.getfield 30, 3) := by decide +kernel
theorem dX6_copy_57 : decode cX6_copy 57 = .ok (.iconst 0, 1) := by decide +kernel
theorem dX6_copy_58 : decode cX6_copy 58 = .ok (.bipush 8, 2) := by decide +kernel
theorem dX6_copy_60 : decode cX6_copy 60 = .ok (.invokestatic 71, 3) := by decide +kernel
theorem dX6_copy_63 : decode cX6_copy 63 = .ok (.aload_n 1, 1) := by decide +kernel
theorem dX6_copy_64 : decode cX6_copy 64 = .ok (.getfield 34, 3) := by decide +kernel
theorem dX6_copy_67 : decode cX6_copy 67 = .ok (.iconst 0, 1) := by decide +kernel
theorem dX6_copy_68 : decode cX6_copy 68 = .ok (.aload_n 0, 1) := by decide +kernel
theorem dX6_copy_69 : decode cX6_copy 69 = .ok (.getfield 34, 3) := by decide +kernel
theorem dX6_copy_72 : decode cX6_copy 72 = .ok (.iconst 0, 1) := by decide +kernel
theorem dX6_copy_73 : decode cX6_copy 73 = .ok (.bipush 8, 2) := by decide +kernel
theorem dX6_copy_75 : decode cX6_copy 75 = .ok (.invokestatic 71, 3) := by decide +kernel
theorem dX6_copy_78 : decode cX6_copy 78 = .ok (.aload_n 1, 1) := by decide +kernel
theorem dX6_copy_79 : decode cX6_copy 79 = .ok (.getfield 37, 3) := by decide +kernel
theorem dX6_copy_82 : decode cX6_copy 82 = .ok (.iconst 0, 1) := by decide +kernel
theorem dX6_copy_83 : decode cX6_copy 83 = .ok (.aload_n 0, 1) := by decide +kernel
theorem dX6_copy_84 : decode cX6_copy 84 = .ok (.getfield 37, 3) := by decide +kernel
theorem dX6_copy_87 : decode cX6_copy 87 = .ok (.iconst 0, 1) := by decide +kernel
theorem dX6_copy_88 : decode cX6_copy 88 = .ok (.bipush 8, 2) := by decide +kernel
theorem dX6_copy_90 : decode cX6_copy 90 = .ok (.invokestatic 71, 3) := by decide +kernel
theorem dX6_copy_93 : decode cX6_copy 93 = .ok (.aload_n 1, 1) := by decide +kernel
theorem dX6_copy_94 : decode cX6_copy 94 = .ok (.getfield 40, 3) := by decide +kernel
theorem dX6_copy_97 : decode cX6_copy 97 = .ok (.iconst 0, 1) := by decide +kernel
theorem dX6_copy_98 : decode cX6_copy 98 = .ok (.aload_n 0, 1) := by decide +kernel
theorem dX6_copy_99 : decode cX6_copy 99 = .ok (.getfield 40, 3) := by decide +kernel
theorem dX6_copy_102 : decode cX6_copy 102 = .ok (.iconst 0, 1) := by decide +kernel
theorem dX6_copy_103 : decode cX6_copy 103 = .ok (.bipush 8, 2) := by decide +kernel
theorem dX6_copy_105 : decode cX6_copy 105 = .ok (.invokestatic 71, 3) := by decide +kernel
theorem dX6_copy_108 : decode cX6_copy 108 = .ok (.aload_n 1, 1) := by decide +kernel
theorem dX6_copy_109 : decode cX6_copy 109 = .ok (.getfield 43, 3) := by decide +kernel
theorem dX6_copy_112 : decode cX6_copy 112 = .ok (.iconst 0, 1) := by decide +kernel
theorem dX6_copy_113 : decode cX6_copy 113 = .ok (.aload_n 0, 1) := by decide +kernel
theorem dX6_copy_114 : decode cX6_copy 114 = .ok (.getfield 43, 3) := by decide +kernel
theorem dX6_copy_117 : decode cX6_copy 117 = .ok (.iconst 0, 1) := by decide +kernel
theorem dX6_copy_118 : decode cX6_copy 118 = .ok (.bipush 8, 2) := by decide +kernel
theorem dX6_copy_120 : decode cX6_copy 120 = .ok (.invokestatic 71, 3) := by decide +kernel
theorem dX6_copy_123 : decode cX6_copy 123 = .ok (.aload_n 1, 1) := by decide +kernel
theorem dX6_copy_124 : decode cX6_copy 124 = .ok (.getfield 46, 3) := by decide +kernel
theorem dX6_copy_127 : decode cX6_copy 127 = .ok (.iconst 0, 1) := by decide +kernel
theorem dX6_copy_128 : decode cX6_copy 128 = .ok (.aload_n 0, 1) := by decide +kernel
theorem dX6_copy_129 : decode cX6_copy 129 = .ok (.getfield 46, 3) := by decide +kernel
theorem dX6_copy_132 : decode cX6_copy 132 = .ok (.iconst 0, 1) := by decide +kernel
theorem dX6_copy_133 : decode cX6_copy 133 = .ok (.bipush 8, 2) := by decide +kernel
theorem dX6_copy_135 : decode cX6_copy 135 = .ok (.invokestatic 71, 3) := by decide +kernel
theorem dX6_copy_138 : decode cX6_copy 138 = .ok (.aload_n 1, 1) := by decide +kernel
theorem dX6_copy_139 : decode cX6_copy 139 = .ok (.getfield 49, 3) := by decide +kernel
theorem dX6_copy_142 : decode cX6_copy 142 = .ok (.iconst 0, 1) := by decide +kernel
theorem dX6_copy_143 : decode cX6_copy 143 = .ok (.aload_n 0, 1) := by decide +kernel
theorem dX6_copy_144 : decode cX6_copy 144 = .ok (.getfield 49, 3) := by decide +kernel
theorem dX6_copy_147 : decode cX6_copy 147 = .ok (.iconst 0, 1) := by decide +kernel
theorem dX6_copy_148 : decode cX6_copy 148 = .ok (.bipush 8, 2) := by decide +kernel
theorem dX6_copy_150 : decode cX6_copy 150 = .ok (.invokestatic 71, 3) := by decide +kernel
theorem dX6_copy_153 : decode cX6_copy 153 = .ok (.aload_n 1, 1) := by decide +kernel
theorem dX6_copy_154 : decode cX6_copy 154 = .ok (.getfield 52, 3) := by decide +kernel
theorem dX6_copy_157 : decode cX6_copy 157 = .ok (.iconst 0, 1) := by decide +kernel
theorem dX6_copy_158 : decode cX6_copy 158 = .ok (.aload_n 0, 1) := by decide +kernel
theorem dX6_copy_159 : decode cX6_copy 159 = .ok (.getfield 52, 3) := by decide +kernel
theorem dX6_copy_162 : decode cX6_copy 162 = .ok (.iconst 0, 1) := by decide +kernel
theorem dX6_copy_163 : decode cX6_copy 163 = .ok (.bipush 100, 2) := by decide +kernel
theorem dX6_copy_165 : decode cX6_copy 165 = .ok (.invokestatic 71, 3) := by decide +kernel
theorem dX6_copy_168 : decode cX6_copy 168 = .ok (.return_, 1) := by decide +kernel
theorem dX6_wealth_0 : decode cX6_wealth 0 = .ok (.aload_n 0, 1) := by decide +kernel
theorem dX6_wealth_1 : decode cX6_wealth 1 = .ok (.getfield 30, 3) := by decide +kernel
theorem dX6_wealth_4 : decode cX6_wealth 4 = .ok (.iload_n 1, 1) := by decide +kernel
theorem dX6_wealth_5 : decode cX6_wealth 5 = .ok (.iaload, 1) := by decide +kernel
theorem dX6_wealth_6 : decode cX6_wealth 6 = .ok (.aload_n 0, 1) := by decide +kernel
theorem dX6_wealth_7 : decode cX6_wealth 7 = .ok (.getfield 34, 3) := by decide +kernel
theorem dX6_wealth_10 : decode cX6_wealth 10 = .ok (.iload_n 1, 1) := by decide +kernel
theorem dX6_wealth_11 : decode cX6_wealth 11 = .ok (.iaload, 1) := by decide +kernel
theorem dX6_wealth_12 : decode cX6_wealth 12 = .ok (.iadd, 1) := by decide +kernel
theorem dX6_wealth_13 : decode cX6_wealth 13 = .ok (.ireturn, 1) := by decide +kernel
theorem dX6_whyNoFence_0 : decode cX6_whyNoFence 0 = .ok (.iload_n 1, 1) := by decide +kernel
theorem dX6_whyNoFence_1 : decode cX6_whyNoFence 1 = .ok (.ifCond .lt 18, 3) := by decide +kernel
theorem dX6_whyNoFence_4 : decode cX6_whyNoFence 4 = .ok (.iload_n 1, 1) := by decide +kernel
theorem dX6_whyNoFence_5 : decode cX6_whyNoFence 5 = .ok (.bipush 100, 2) := by decide +kernel
theorem dX6_whyNoFence_7 : decode cX6_whyNoFence 7 = .ok (.if_icmp .ge 12, 3) := by decide +kernel
theorem dX6_whyNoFence_10 : decode cX6_whyNoFence 10 = .ok (.aload_n 0, 1) := by decide +kernel
theorem dX6_whyNoFence_11 : decode cX6_whyNoFence 11 = .ok (.getfield 52, 3) := by decide +kernel
theorem dX6_whyNoFence_14 : decode cX6_whyNoFence 14 = .ok (.iload_n 1, 1) := by decide +kernel
theorem dX6_whyNoFence_15 : decode cX6_whyNoFence 15 = .ok (.iaload, 1) := by decide +kernel
theorem dX6_whyNoFence_16 : decode cX6_whyNoFence 16 = .ok (.ifCond .eq 5, 3) := by decide +kernel
theorem dX6_whyNoFence_19 : decode cX6_whyNoFence 19 = .ok (.iconst 1, 1) := by decide +kernel
theorem dX6_whyNoFence_20 : decode cX6_whyNoFence 20 = .ok (.ireturn, 1) := by decide +kernel
theorem dX6_whyNoFence_21 : decode cX6_whyNoFence 21 = .ok (.aload_n 0, 1) := by decide +kernel
theorem dX6_whyNoFence_22 : decode cX6_whyNoFence 22 = .ok (.getfield 18, 3) := by decide +kernel
theorem dX6_whyNoFence_25 : decode cX6_whyNoFence 25 = .ok (.bipush 12, 2) := by decide +kernel
theorem dX6_whyNoFence_27 : decode cX6_whyNoFence 27 = .ok (.if_icmp .lt 7, 3) := by decide +kernel
theorem dX6_whyNoFence_30 : decode cX6_whyNoFence 30 = .ok (.iconst 2, 1) := by decide +kernel
theorem dX6_whyNoFence_31 : decode cX6_whyNoFence 31 = .ok (.goto 4, 3) := by decide +kernel
theorem dX6_whyNoFence_34 : decode cX6_whyNoFence 34 = .ok (.iconst 0, 1) := by decide +kernel
theorem dX6_whyNoFence_35 : decode cX6_whyNoFence 35 = .ok (.ireturn, 1) := by decide +kernel
theorem dX6_putFence_0 : decode cX6_putFence 0 = .ok (.iload_n 1, 1) := by decide +kernel
theorem dX6_putFence_1 : decode cX6_putFence 1 = .ok (.ifCond .lt 27, 3) := by decide +kernel
theorem dX6_putFence_4 : decode cX6_putFence 4 = .ok (.iload_n 1, 1) := by decide +kernel
theorem dX6_putFence_5 : decode cX6_putFence 5 = .ok (.bipush 100, 2) := by decide +kernel
theorem dX6_putFence_7 : decode cX6_putFence 7 = .ok (.if_icmp .ge 21, 3) := by decide +kernel
theorem dX6_putFence_10 : decode cX6_putFence 10 = .ok (.aload_n 0, 1) := by decide +kernel
theorem dX6_putFence_11 : decode cX6_putFence 11 = .ok (.getfield 52, 3) := by decide +kernel
theorem dX6_putFence_14 : decode cX6_putFence 14 = .ok (.iload_n 1, 1) := by decide +kernel
theorem dX6_putFence_15 : decode cX6_putFence 15 = .ok (.bipush 48, 2) := by decide +kernel
theorem dX6_putFence_17 : decode cX6_putFence 17 = .ok (.iastore, 1) := by decide +kernel
theorem dX6_putFence_18 : decode cX6_putFence 18 = .ok (.aload_n 0, 1) := by decide +kernel
theorem dX6_putFence_19 : decode cX6_putFence 19 = .ok (.dup, 1) := by decide +kernel
theorem dX6_putFence_20 : decode cX6_putFence 20 = .ok (.getfield 18, 3) := by decide +kernel
theorem dX6_putFence_23 : decode cX6_putFence 23 = .ok (.iconst 1, 1) := by decide +kernel
theorem dX6_putFence_24 : decode cX6_putFence 24 = .ok (.iadd, 1) := by decide +kernel
theorem dX6_putFence_25 : decode cX6_putFence 25 = .ok (.putfield 18, 3) := by decide +kernel
theorem dX6_putFence_28 : decode cX6_putFence 28 = .ok (.return_, 1) := by decide +kernel
theorem dX6_whyNoFelling_0 : decode cX6_whyNoFelling 0 = .ok (.iload_n 1, 1) := by decide +kernel
theorem dX6_whyNoFelling_1 : decode cX6_whyNoFelling 1 = .ok (.ifCond .lt 20, 3) := by decide +kernel
theorem dX6_whyNoFelling_4 : decode cX6_whyNoFelling 4 = .ok (.iload_n 1, 1) := by decide +kernel
theorem dX6_whyNoFelling_5 : decode cX6_whyNoFelling 5 = .ok (.bipush 12, 2) := by decide +kernel
theorem dX6_whyNoFelling_7 : decode cX6_whyNoFelling 7 = .ok (.if_icmp .ge 14, 3) := by decide +kernel
theorem dX6_whyNoFelling_10 : decode cX6_whyNoFelling 10 = .ok (.aload_n 0, 1) := by decide +kernel
theorem dX6_whyNoFelling_11 : decode cX6_whyNoFelling 11 = .ok (.getfield 21, 3) := by decide +kernel
theorem dX6_whyNoFelling_14 : decode cX6_whyNoFelling 14 = .ok (.iload_n 1, 1) := by decide +kernel
theorem dX6_whyNoFelling_15 : decode cX6_whyNoFelling 15 = .ok (.ishr, 1) := by decide +kernel
theorem dX6_whyNoFelling_16 : decode cX6_whyNoFelling 16 = .ok (.iconst 1, 1) := by decide +kernel
theorem dX6_whyNoFelling_17 : decode cX6_whyNoFelling 17 = .ok (.iand, 1) := by decide +kernel
theorem dX6_whyNoFelling_18 : decode cX6_whyNoFelling 18 = .ok (.ifCond .ne 7, 3) := by decide +kernel
theorem dX6_whyNoFelling_21 : decode cX6_whyNoFelling 21 = .ok (.iconst 3, 1) := by decide +kernel
theorem dX6_whyNoFelling_22 : decode cX6_whyNoFelling 22 = .ok (.goto 4, 3) := by decide +kernel
theorem dX6_whyNoFelling_25 : decode cX6_whyNoFelling 25 = .ok (.iconst 0, 1) := by decide +kernel
theorem dX6_whyNoFelling_26 : decode cX6_whyNoFelling 26 = .ok (.ireturn, 1) := by decide +kernel
theorem dX6_takeTree_0 : decode cX6_takeTree 0 = .ok (.iload_n 2, 1) := by decide +kernel
theorem dX6_takeTree_1 : decode cX6_takeTree 1 = .ok (.ifCond .lt 18, 3) := by decide +kernel
theorem dX6_takeTree_4 : decode cX6_takeTree 4 = .ok (.iload_n 2, 1) := by decide +kernel
theorem dX6_takeTree_5 : decode cX6_takeTree 5 = .ok (.bipush 12, 2) := by decide +kernel
theorem dX6_takeTree_7 : decode cX6_takeTree 7 = .ok (.if_icmp .ge 12, 3) := by decide +kernel
theorem dX6_takeTree_10 : decode cX6_takeTree 10 = .ok (.aload_n 1, 1) := by decide +kernel
theorem dX6_takeTree_11 : decode cX6_takeTree 11 = .ok (.getfield 77, 3) := by decide +kernel
theorem dX6_takeTree_14 : decode cX6_takeTree 14 = .ok (.iload_n 2, 1) := by decide +kernel
theorem dX6_takeTree_15 : decode cX6_takeTree 15 = .ok (.iaload, 1) := by decide +kernel
theorem dX6_takeTree_16 : decode cX6_takeTree 16 = .ok (.goto 4, 3) := by decide +kernel
theorem dX6_takeTree_19 : decode cX6_takeTree 19 = .ok (.iconst (-1), 1) := by decide +kernel
theorem dX6_takeTree_20 : decode cX6_takeTree 20 = .ok (.istore_n 3, 1) := by decide +kernel
theorem dX6_takeTree_21 : decode cX6_takeTree 21 = .ok (.iload_n 3, 1) := by decide +kernel
theorem dX6_takeTree_22 : decode cX6_takeTree 22 = .ok (.ifCond .lt 30, 3) := by decide +kernel
theorem dX6_takeTree_25 : decode cX6_takeTree 25 = .ok (.iload_n 3, 1) := by decide +kernel
theorem dX6_takeTree_26 : decode cX6_takeTree 26 = .ok (.bipush 100, 2) := by decide +kernel
theorem dX6_takeTree_28 : decode cX6_takeTree 28 = .ok (.if_icmp .ge 24, 3) := by decide +kernel
theorem dX6_takeTree_31 : decode cX6_takeTree 31 = .ok (.aload_n 0, 1) := by decide +kernel
theorem dX6_takeTree_32 : decode cX6_takeTree 32 = .ok (.getfield 52, 3) := by decide +kernel
theorem dX6_takeTree_35 : decode cX6_takeTree 35 = .ok (.iload_n 3, 1) := by decide +kernel
theorem dX6_takeTree_36 : decode cX6_takeTree 36 = .ok (.iconst 0, 1) := by decide +kernel
theorem dX6_takeTree_37 : decode cX6_takeTree 37 = .ok (.iastore, 1) := by decide +kernel
theorem dX6_takeTree_38 : decode cX6_takeTree 38 = .ok (.aload_n 0, 1) := by decide +kernel
theorem dX6_takeTree_39 : decode cX6_takeTree 39 = .ok (.dup, 1) := by decide +kernel
theorem dX6_takeTree_40 : decode cX6_takeTree 40 = .ok (.getfield 21, 3) := by decide +kernel
theorem dX6_takeTree_43 : decode cX6_takeTree 43 = .ok (.iconst 1, 1) := by decide +kernel
theorem dX6_takeTree_44 : decode cX6_takeTree 44 = .ok (.iload_n 2, 1) := by decide +kernel
theorem dX6_takeTree_45 : decode cX6_takeTree 45 = .ok (.ishl, 1) := by decide +kernel
theorem dX6_takeTree_46 : decode cX6_takeTree 46 = .ok (.iconst (-1), 1) := by decide +kernel
theorem dX6_takeTree_47 : decode cX6_takeTree 47 = .ok (.ixor, 1) := by decide +kernel
theorem dX6_takeTree_48 : decode cX6_takeTree 48 = .ok (.iand, 1) := by decide +kernel
theorem dX6_takeTree_49 : decode cX6_takeTree 49 = .ok (.putfield 21, 3) := by decide +kernel
theorem dX6_takeTree_52 : decode cX6_takeTree 52 = .ok (.return_, 1) := by decide +kernel
theorem dX6_oilVane_0 : decode cX6_oilVane 0 = .ok (.iload_n 1, 1) := by decide +kernel
theorem dX6_oilVane_1 : decode cX6_oilVane 1 = .ok (.ifCond .lt 23, 3) := by decide +kernel
theorem dX6_oilVane_4 : decode cX6_oilVane 4 = .ok (.iload_n 1, 1) := by decide +kernel
theorem dX6_oilVane_5 : decode cX6_oilVane 5 = .ok (.bipush 8, 2) := by decide +kernel
theorem dX6_oilVane_7 : decode cX6_oilVane 7 = .ok (.if_icmp .ge 17, 3) := by decide +kernel
theorem dX6_oilVane_10 : decode cX6_oilVane 10 = .ok (.aload_n 0, 1) := by decide +kernel
theorem dX6_oilVane_11 : decode cX6_oilVane 11 = .ok (.getfield 43, 3) := by decide +kernel
theorem dX6_oilVane_14 : decode cX6_oilVane 14 = .ok (.iload_n 1, 1) := by decide +kernel
theorem dX6_oilVane_15 : decode cX6_oilVane 15 = .ok (.iconst 0, 1) := by decide +kernel
theorem dX6_oilVane_16 : decode cX6_oilVane 16 = .ok (.iastore, 1) := by decide +kernel
theorem dX6_oilVane_17 : decode cX6_oilVane 17 = .ok (.aload_n 0, 1) := by decide +kernel
theorem dX6_oilVane_18 : decode cX6_oilVane 18 = .ok (.getfield 37, 3) := by decide +kernel
theorem dX6_oilVane_21 : decode cX6_oilVane 21 = .ok (.iload_n 1, 1) := by decide +kernel
theorem dX6_oilVane_22 : decode cX6_oilVane 22 = .ok (.iconst 0, 1) := by decide +kernel
theorem dX6_oilVane_23 : decode cX6_oilVane 23 = .ok (.iastore, 1) := by decide +kernel
theorem dX6_oilVane_24 : decode cX6_oilVane 24 = .ok (.return_, 1) := by decide +kernel
theorem dX6_stickVane_0 : decode cX6_stickVane 0 = .ok (.iload_n 1, 1) := by decide +kernel
theorem dX6_stickVane_1 : decode cX6_stickVane 1 = .ok (.ifCond .lt 23, 3) := by decide +kernel
theorem dX6_stickVane_4 : decode cX6_stickVane 4 = .ok (.iload_n 1, 1) := by decide +kernel
theorem dX6_stickVane_5 : decode cX6_stickVane 5 = .ok (.bipush 8, 2) := by decide +kernel
theorem dX6_stickVane_7 : decode cX6_stickVane 7 = .ok (.if_icmp .ge 17, 3) := by decide +kernel
theorem dX6_stickVane_10 : decode cX6_stickVane 10 = .ok (.aload_n 0, 1) := by decide +kernel
theorem dX6_stickVane_11 : decode cX6_stickVane 11 = .ok (.getfield 40, 3) := by decide +kernel
theorem dX6_stickVane_14 : decode cX6_stickVane 14 = .ok (.iload_n 1, 1) := by decide +kernel
theorem dX6_stickVane_15 : decode cX6_stickVane 15 = .ok (.iload_n 2, 1) := by decide +kernel
theorem dX6_stickVane_16 : decode cX6_stickVane 16 = .ok (.iastore, 1) := by decide +kernel
theorem dX6_stickVane_17 : decode cX6_stickVane 17 = .ok (.aload_n 0, 1) := by decide +kernel
theorem dX6_stickVane_18 : decode cX6_stickVane 18 = .ok (.getfield 43, 3) := by decide +kernel
theorem dX6_stickVane_21 : decode cX6_stickVane 21 = .ok (.iload_n 1, 1) := by decide +kernel
theorem dX6_stickVane_22 : decode cX6_stickVane 22 = .ok (.iconst 1, 1) := by decide +kernel
theorem dX6_stickVane_23 : decode cX6_stickVane 23 = .ok (.iastore, 1) := by decide +kernel
theorem dX6_stickVane_24 : decode cX6_stickVane 24 = .ok (.return_, 1) := by decide +kernel
theorem dX7_split_0 : decode cX7_split 0 = .ok (.aload_n 0, 1) := by decide +kernel
theorem dX7_split_1 : decode cX7_split 1 = .ok (.iconst 0, 1) := by decide +kernel
theorem dX7_split_2 : decode cX7_split 2 = .ok (.putfield 21, 3) := by decide +kernel
theorem dX7_split_5 : decode cX7_split 5 = .ok (.aload_n 0, 1) := by decide +kernel
theorem dX7_split_6 : decode cX7_split 6 = .ok (.iconst 0, 1) := by decide +kernel
theorem dX7_split_7 : decode cX7_split 7 = .ok (.putfield 25, 3) := by decide +kernel
theorem dX7_split_10 : decode cX7_split 10 = .ok (.aload_n 0, 1) := by decide +kernel
theorem dX7_split_11 : decode cX7_split 11 = .ok (.iconst 0, 1) := by decide +kernel
theorem dX7_split_12 : decode cX7_split 12 = .ok (.putfield 28, 3) := by decide +kernel
theorem dX7_split_15 : decode cX7_split 15 = .ok (.aload_n 0, 1) := by decide +kernel
theorem dX7_split_16 : decode cX7_split 16 = .ok (.iconst 0, 1) := by decide +kernel
theorem dX7_split_17 : decode cX7_split 17 = .ok (.putfield 31, 3) := by decide +kernel
theorem dX7_split_20 : decode cX7_split 20 = .ok (.iload_n 2, 1) := by decide +kernel
theorem dX7_split_21 : decode cX7_split 21 = .ok (.iload_n 3, 1) := by decide +kernel
theorem dX7_split_22 : decode cX7_split 22 = .ok (.invokestatic 34, 3) := by decide +kernel
theorem dX7_split_25 : decode cX7_split 25 = .ok (.istore 4, 2) := by decide +kernel
theorem dX7_split_27 : decode cX7_split 27 = .ok (.iconst 0, 1) := by decide +kernel
theorem dX7_split_28 : decode cX7_split 28 = .ok (.istore 5, 2) := by decide +kernel
theorem dX7_split_30 : decode cX7_split 30 = .ok (.iconst 0, 1) := by decide +kernel
theorem dX7_split_31 : decode cX7_split 31 = .ok (.istore 6, 2) := by decide +kernel
theorem dX7_split_33 : decode cX7_split 33 = .ok (.iload 6, 2) := by decide +kernel
theorem dX7_split_35 : decode cX7_split 35 = .ok (.sipush 940, 3) := by decide +kernel
theorem dX7_split_38 : decode cX7_split 38 = .ok (.if_icmp .ge 95, 3) := by decide +kernel
theorem dX7_split_41 : decode cX7_split 41 = .ok (.iload 5, 2) := by decide +kernel
theorem dX7_split_43 : decode cX7_split 43 = .ok (.iload 4, 2) := by decide +kernel
theorem dX7_split_45 : decode cX7_split 45 = .ok (.if_icmp .ge 88, 3) := by decide +kernel
theorem dX7_split_48 : decode cX7_split 48 = .ok (.aload_n 1, 1) := by decide +kernel
theorem dX7_split_49 : decode cX7_split 49 = .ok (.iload 5, 2) := by decide +kernel
theorem dX7_split_51 : decode cX7_split 51 = .ok (.baload, 1) := by decide +kernel
theorem dX7_split_52 : decode cX7_split 52 = .ok (.istore 7, 2) := by decide +kernel
theorem dX7_split_54 : decode cX7_split 54 = .ok (.iload 7, 2) := by decide +kernel
theorem dX7_split_56 : decode cX7_split 56 = .ok (.bipush 32, 2) := by decide +kernel
theorem dX7_split_58 : decode cX7_split 58 = .ok (.if_icmp .eq 10, 3) := by decide +kernel
theorem dX7_split_61 : decode cX7_split 61 = .ok (.iload 7, 2) := by decide +kernel
theorem dX7_split_63 : decode cX7_split 63 = .ok (.bipush 10, 2) := by decide +kernel
theorem dX7_split_65 : decode cX7_split 65 = .ok (.if_icmp .ne 9, 3) := by decide +kernel
theorem dX7_split_68 : decode cX7_split 68 = .ok (.iinc 5 1, 3) := by decide +kernel
theorem dX7_split_71 : decode cX7_split 71 = .ok (.goto 56, 3) := by decide +kernel
theorem dX7_split_74 : decode cX7_split 74 = .ok (.iload 7, 2) := by decide +kernel
theorem dX7_split_76 : decode cX7_split 76 = .ok (.invokestatic 40, 3) := by decide +kernel
theorem dX7_split_79 : decode cX7_split 79 = .ok (.ifCond .ne 11, 3) := by decide +kernel
theorem dX7_split_82 : decode cX7_split 82 = .ok (.iload 7, 2) := by decide +kernel
theorem dX7_split_84 : decode cX7_split 84 = .ok (.invokestatic 44, 3) := by decide +kernel
theorem dX7_split_87 : decode cX7_split 87 = .ok (.ifCond .eq 16, 3) := by decide +kernel
theorem dX7_split_90 : decode cX7_split 90 = .ok (.aload_n 0, 1) := by decide +kernel
theorem dX7_split_91 : decode cX7_split 91 = .ok (.aload_n 1, 1) := by decide +kernel
theorem dX7_split_92 : decode cX7_split 92 = .ok (.iload 5, 2) := by decide +kernel
theorem dX7_split_94 : decode cX7_split 94 = .ok (.iload_n 2, 1) := by decide +kernel
theorem dX7_split_95 : decode cX7_split 95 = .ok (.invokevirtual 47, 3) := by decide +kernel
theorem dX7_split_98 : decode cX7_split 98 = .ok (.istore 5, 2) := by decide +kernel
theorem dX7_split_100 : decode cX7_split 100 = .ok (.goto 27, 3) := by decide +kernel
theorem dX7_split_103 : decode cX7_split 103 = .ok (.aload_n 0, 1) := by decide +kernel
theorem dX7_split_104 : decode cX7_split 104 = .ok (.iload 7, 2) := by decide +kernel
theorem dX7_split_106 : decode cX7_split 106 = .ok (.invokestatic 51, 3) := by decide +kernel
theorem dX7_split_109 : decode cX7_split 109 = .ok (.ifCond .eq 7, 3) := by decide +kernel
theorem dX7_split_112 : decode cX7_split 112 = .ok (.iconst 5, 1) := by decide +kernel
theorem dX7_split_113 : decode cX7_split 113 = .ok (.goto 4, 3) := by decide +kernel
theorem dX7_split_116 : decode cX7_split 116 = .ok (.iconst 1, 1) := by decide +kernel
theorem dX7_split_117 : decode cX7_split 117 = .ok (.iload 7, 2) := by decide +kernel
theorem dX7_split_119 : decode cX7_split 119 = .ok (.iload 5, 2) := by decide +kernel
theorem dX7_split_121 : decode cX7_split 121 = .ok (.invokevirtual 54, 3) := by decide +kernel
theorem dX7_split_124 : decode cX7_split 124 = .ok (.iinc 5 1, 3) := by decide +kernel
theorem dX7_split_127 : decode cX7_split 127 = .ok (.iinc 6 1, 3) := by decide +kernel
theorem dX7_split_130 : decode cX7_split 130 = .ok (.goto (-97), 3) := by decide +kernel
theorem dX7_split_133 : decode cX7_split 133 = .ok (.aload_n 0, 1) := by decide +kernel
theorem dX7_split_134 : decode cX7_split 134 = .ok (.iload_n 2, 1) := by decide +kernel
theorem dX7_split_135 : decode cX7_split 135 = .ok (.iload_n 3, 1) := by decide +kernel
theorem dX7_split_136 : decode cX7_split 136 = .ok (.if_icmp .le 7, 3) := by decide +kernel
theorem dX7_split_139 : decode cX7_split 139 = .ok (.iconst 1, 1) := by decide +kernel
theorem dX7_split_140 : decode cX7_split 140 = .ok (.goto 4, 3) := by decide +kernel
theorem dX7_split_143 : decode cX7_split 143 = .ok (.iconst 0, 1) := by decide +kernel
theorem dX7_split_144 : decode cX7_split 144 = .ok (.iconst 0, 1) := by decide +kernel
theorem dX7_split_145 : decode cX7_split 145 = .ok (.iload 4, 2) := by decide +kernel
theorem dX7_split_147 : decode cX7_split 147 = .ok (.invokevirtual 54, 3) := by decide +kernel
theorem dX7_split_150 : decode cX7_split 150 = .ok (.return_, 1) := by decide +kernel
theorem dX7_splitRun_0 : decode cX7_splitRun 0 = .ok (.iload_n 2, 1) := by decide +kernel
theorem dX7_splitRun_1 : decode cX7_splitRun 1 = .ok (.istore 4, 2) := by decide +kernel
theorem dX7_splitRun_3 : decode cX7_splitRun 3 = .ok (.iconst 0, 1) := by decide +kernel
theorem dX7_splitRun_4 : decode cX7_splitRun 4 = .ok (.istore 5, 2) := by decide +kernel
theorem dX7_splitRun_6 : decode cX7_splitRun 6 = .ok (.iconst 0, 1) := by decide +kernel
theorem dX7_splitRun_7 : decode cX7_splitRun 7 = .ok (.istore 6, 2) := by decide +kernel
theorem dX7_splitRun_9 : decode cX7_splitRun 9 = .ok (.iconst 0, 1) := by decide +kernel
theorem dX7_splitRun_10 : decode cX7_splitRun 10 = .ok (.istore 7, 2) := by decide +kernel
theorem dX7_splitRun_12 : decode cX7_splitRun 12 = .ok (.iload 4, 2) := by decide +kernel
theorem dX7_splitRun_14 : decode cX7_splitRun 14 = .ok (.iload_n 3, 1) := by decide +kernel
theorem dX7_splitRun_15 : decode cX7_splitRun 15 = .ok (.if_icmp .ge 75, 3) := by decide +kernel
theorem dX7_splitRun_18 : decode cX7_splitRun 18 = .ok (.aload_n 1, 1) := by decide +kernel
theorem dX7_splitRun_19 : decode cX7_splitRun 19 = .ok (.iload 4, 2) := by decide +kernel
theorem dX7_splitRun_21 : decode cX7_splitRun 21 = .ok (.baload, 1) := by decide +kernel
theorem dX7_splitRun_22 : decode cX7_splitRun 22 = .ok (.invokestatic 40, 3) := by decide +kernel
theorem dX7_splitRun_25 : decode cX7_splitRun 25 = .ok (.ifCond .ne 13, 3) := by decide +kernel
theorem dX7_splitRun_28 : decode cX7_splitRun 28 = .ok (.aload_n 1, 1) := by decide +kernel
theorem dX7_splitRun_29 : decode cX7_splitRun 29 = .ok (.iload 4, 2) := by decide +kernel
theorem dX7_splitRun_31 : decode cX7_splitRun 31 = .ok (.baload, 1) := by decide +kernel
theorem dX7_splitRun_32 : decode cX7_splitRun 32 = .ok (.invokestatic 44, 3) := by decide +kernel
theorem dX7_splitRun_35 : decode cX7_splitRun 35 = .ok (.ifCond .eq 55, 3) := by decide +kernel
theorem dX7_splitRun_38 : decode cX7_splitRun 38 = .ok (.aload_n 1, 1) := by decide +kernel
theorem dX7_splitRun_39 : decode cX7_splitRun 39 = .ok (.iload 4, 2) := by decide +kernel
theorem dX7_splitRun_41 : decode cX7_splitRun 41 = .ok (.baload, 1) := by decide +kernel
theorem dX7_splitRun_42 : decode cX7_splitRun 42 = .ok (.invokestatic 40, 3) := by decide +kernel
theorem dX7_splitRun_45 : decode cX7_splitRun 45 = .ok (.ifCond .eq 24, 3) := by decide +kernel
theorem dX7_splitRun_48 : decode cX7_splitRun 48 = .ok (.iinc 5 1, 3) := by decide +kernel
theorem dX7_splitRun_51 : decode cX7_splitRun 51 = .ok (.iload 6, 2) := by decide +kernel
theorem dX7_splitRun_53 : decode cX7_splitRun 53 = .ok (.bipush 32, 2) := by decide +kernel
theorem dX7_splitRun_55 : decode cX7_splitRun 55 = .ok (.imul, 1) := by decide +kernel
theorem dX7_splitRun_56 : decode cX7_splitRun 56 = .ok (.aload_n 1, 1) := by decide +kernel
theorem dX7_splitRun_57 : decode cX7_splitRun 57 = .ok (.iload 4, 2) := by decide +kernel
theorem dX7_splitRun_59 : decode cX7_splitRun 59 = .ok (.baload, 1) := by decide +kernel
theorem dX7_splitRun_60 : decode cX7_splitRun 60 = .ok (.bipush 96, 2) := by decide +kernel
theorem dX7_splitRun_62 : decode cX7_splitRun 62 = .ok (.isub, 1) := by decide +kernel
theorem dX7_splitRun_63 : decode cX7_splitRun 63 = .ok (.iadd, 1) := by decide +kernel
theorem dX7_splitRun_64 : decode cX7_splitRun 64 = .ok (.istore 6, 2) := by decide +kernel
theorem dX7_splitRun_66 : decode cX7_splitRun 66 = .ok (.goto 18, 3) := by decide +kernel
theorem dX7_splitRun_69 : decode cX7_splitRun 69 = .ok (.iload 7, 2) := by decide +kernel
theorem dX7_splitRun_71 : decode cX7_splitRun 71 = .ok (.bipush 10, 2) := by decide +kernel
theorem dX7_splitRun_73 : decode cX7_splitRun 73 = .ok (.imul, 1) := by decide +kernel
theorem dX7_splitRun_74 : decode cX7_splitRun 74 = .ok (.aload_n 1, 1) := by decide +kernel
theorem dX7_splitRun_75 : decode cX7_splitRun 75 = .ok (.iload 4, 2) := by decide +kernel
theorem dX7_splitRun_77 : decode cX7_splitRun 77 = .ok (.baload, 1) := by decide +kernel
theorem dX7_splitRun_78 : decode cX7_splitRun 78 = .ok (.bipush 48, 2) := by decide +kernel
theorem dX7_splitRun_80 : decode cX7_splitRun 80 = .ok (.isub, 1) := by decide +kernel
theorem dX7_splitRun_81 : decode cX7_splitRun 81 = .ok (.iadd, 1) := by decide +kernel
theorem dX7_splitRun_82 : decode cX7_splitRun 82 = .ok (.istore 7, 2) := by decide +kernel
theorem dX7_splitRun_84 : decode cX7_splitRun 84 = .ok (.iinc 4 1, 3) := by decide +kernel
theorem dX7_splitRun_87 : decode cX7_splitRun 87 = .ok (.goto (-75), 3) := by decide +kernel
theorem dX7_splitRun_90 : decode cX7_splitRun 90 = .ok (.iload 4, 2) := by decide +kernel
theorem dX7_splitRun_92 : decode cX7_splitRun 92 = .ok (.iload_n 2, 1) := by decide +kernel
theorem dX7_splitRun_93 : decode cX7_splitRun 93 = .ok (.isub, 1) := by decide +kernel
theorem dX7_splitRun_94 : decode cX7_splitRun 94 = .ok (.istore 8, 2) := by decide +kernel
theorem dX7_splitRun_96 : decode cX7_splitRun 96 = .ok (.iload 5, 2) := by decide +kernel
theorem dX7_splitRun_98 : decode cX7_splitRun 98 = .ok (.iload 8, 2) := by decide +kernel
theorem dX7_splitRun_100 : decode cX7_splitRun 100 = .ok (.if_icmp .ne 49, 3) := by decide +kernel
theorem dX7_splitRun_103 : decode cX7_splitRun 103 = .ok (.iload 8, 2) := by decide +kernel
theorem dX7_splitRun_105 : decode cX7_splitRun 105 = .ok (.bipush 6, 2) := by decide +kernel
theorem dX7_splitRun_107 : decode cX7_splitRun 107 = .ok (.if_icmp .gt 42, 3) := by decide +kernel
theorem dX7_splitRun_110 : decode cX7_splitRun 110 = .ok (.iload 6, 2) := by decide +kernel
theorem dX7_splitRun_112 : decode cX7_splitRun 112 = .ok (.invokestatic 58, 3) := by decide +kernel
theorem dX7_splitRun_115 : decode cX7_splitRun 115 = .ok (.istore 9, 2) := by decide +kernel
theorem dX7_splitRun_117 : decode cX7_splitRun 117 = .ok (.aload_n 0, 1) := by decide +kernel
theorem dX7_splitRun_118 : decode cX7_splitRun 118 = .ok (.iload 9, 2) := by decide +kernel
theorem dX7_splitRun_120 : decode cX7_splitRun 120 = .ok (.iconst (-1), 1) := by decide +kernel
theorem dX7_splitRun_121 : decode cX7_splitRun 121 = .ok (.if_icmp .ne 7, 3) := by decide +kernel
theorem dX7_splitRun_124 : decode cX7_splitRun 124 = .ok (.iconst 3, 1) := by decide +kernel
theorem dX7_splitRun_125 : decode cX7_splitRun 125 = .ok (.goto 4, 3) := by decide +kernel
theorem dX7_splitRun_128 : decode cX7_splitRun 128 = .ok (.iconst 2, 1) := by decide +kernel
theorem dX7_splitRun_129 : decode cX7_splitRun 129 = .ok (.iload 9, 2) := by decide +kernel
theorem dX7_splitRun_131 : decode cX7_splitRun 131 = .ok (.iconst (-1), 1) := by decide +kernel
theorem dX7_splitRun_132 : decode cX7_splitRun 132 = .ok (.if_icmp .ne 8, 3) := by decide +kernel
theorem dX7_splitRun_135 : decode cX7_splitRun 135 = .ok (.iload 6, 2) := by decide +kernel
theorem dX7_splitRun_137 : decode cX7_splitRun 137 = .ok (.goto 5, 3) := by decide +kernel
theorem dX7_splitRun_140 : decode cX7_splitRun 140 = .ok (.iload 9, 2) := by decide +kernel
theorem dX7_splitRun_142 : decode cX7_splitRun 142 = .ok (.iload_n 2, 1) := by decide +kernel
theorem dX7_splitRun_143 : decode cX7_splitRun 143 = .ok (.invokevirtual 54, 3) := by decide +kernel
theorem dX7_splitRun_146 : decode cX7_splitRun 146 = .ok (.goto 32, 3) := by decide +kernel
theorem dX7_splitRun_149 : decode cX7_splitRun 149 = .ok (.iload 5, 2) := by decide +kernel
theorem dX7_splitRun_151 : decode cX7_splitRun 151 = .ok (.ifCond .ne 20, 3) := by decide +kernel
theorem dX7_splitRun_154 : decode cX7_splitRun 154 = .ok (.iload 8, 2) := by decide +kernel
theorem dX7_splitRun_156 : decode cX7_splitRun 156 = .ok (.iconst 3, 1) := by decide +kernel
theorem dX7_splitRun_157 : decode cX7_splitRun 157 = .ok (.if_icmp .gt 14, 3) := by decide +kernel
theorem dX7_splitRun_160 : decode cX7_splitRun 160 = .ok (.aload_n 0, 1) := by decide +kernel
theorem dX7_splitRun_161 : decode cX7_splitRun 161 = .ok (.iconst 4, 1) := by decide +kernel
theorem dX7_splitRun_162 : decode cX7_splitRun 162 = .ok (.iload 7, 2) := by decide +kernel
theorem dX7_splitRun_164 : decode cX7_splitRun 164 = .ok (.iload_n 2, 1) := by decide +kernel
theorem dX7_splitRun_165 : decode cX7_splitRun 165 = .ok (.invokevirtual 54, 3) := by decide +kernel
theorem dX7_splitRun_168 : decode cX7_splitRun 168 = .ok (.goto 10, 3) := by decide +kernel
theorem dX7_splitRun_171 : decode cX7_splitRun 171 = .ok (.aload_n 0, 1) := by decide +kernel
theorem dX7_splitRun_172 : decode cX7_splitRun 172 = .ok (.iconst 1, 1) := by decide +kernel
theorem dX7_splitRun_173 : decode cX7_splitRun 173 = .ok (.iconst 0, 1) := by decide +kernel
theorem dX7_splitRun_174 : decode cX7_splitRun 174 = .ok (.iload_n 2, 1) := by decide +kernel
theorem dX7_splitRun_175 : decode cX7_splitRun 175 = .ok (.invokevirtual 54, 3) := by decide +kernel
theorem dX7_splitRun_178 : decode cX7_splitRun 178 = .ok (.iload 4, 2) := by decide +kernel
theorem dX7_splitRun_180 : decode cX7_splitRun 180 = .ok (.ireturn, 1) := by decide +kernel
theorem dX7_wordOf_0 : decode cX7_wordOf 0 = .ok (.iconst 0, 1) := by decide +kernel
theorem dX7_wordOf_1 : decode cX7_wordOf 1 = .ok (.istore_n 1, 1) := by decide +kernel
theorem dX7_wordOf_2 : decode cX7_wordOf 2 = .ok (.iconst 0, 1) := by decide +kernel
theorem dX7_wordOf_3 : decode cX7_wordOf 3 = .ok (.istore_n 2, 1) := by decide +kernel
theorem dX7_wordOf_4 : decode cX7_wordOf 4 = .ok (.iconst 0, 1) := by decide +kernel
theorem dX7_wordOf_5 : decode cX7_wordOf 5 = .ok (.istore_n 3, 1) := by decide +kernel
theorem dX7_wordOf_6 : decode cX7_wordOf 6 = .ok (.iload_n 3, 1) := by decide +kernel
theorem dX7_wordOf_7 : decode cX7_wordOf 7 = .ok (.ldc 62, 2) := by decide +kernel
theorem dX7_wordOf_9 : decode cX7_wordOf 9 = .ok (.invokevirtual 64, 3) := by decide +kernel
theorem dX7_wordOf_12 : decode cX7_wordOf 12 = .ok (.if_icmp .ge 50, 3) := by decide +kernel
theorem dX7_wordOf_15 : decode cX7_wordOf 15 = .ok (.ldc 62, 2) := by decide +kernel
theorem dX7_wordOf_17 : decode cX7_wordOf 17 = .ok (.iload_n 3, 1) := by decide +kernel
theorem dX7_wordOf_18 : decode cX7_wordOf 18 = .ok (.invokevirtual 70, 3) := by decide +kernel
theorem dX7_wordOf_21 : decode cX7_wordOf 21 = .ok (.istore 4, 2) := by decide +kernel
theorem dX7_wordOf_23 : decode cX7_wordOf 23 = .ok (.iload 4, 2) := by decide +kernel
theorem dX7_wordOf_25 : decode cX7_wordOf 25 = .ok (.bipush 32, 2) := by decide +kernel
theorem dX7_wordOf_27 : decode cX7_wordOf 27 = .ok (.if_icmp .eq 17, 3) := by decide +kernel
theorem dX7_wordOf_30 : decode cX7_wordOf 30 = .ok (.iload_n 2, 1) := by decide +kernel
theorem dX7_wordOf_31 : decode cX7_wordOf 31 = .ok (.bipush 32, 2) := by decide +kernel
theorem dX7_wordOf_33 : decode cX7_wordOf 33 = .ok (.imul, 1) := by decide +kernel
theorem dX7_wordOf_34 : decode cX7_wordOf 34 = .ok (.iload 4, 2) := by decide +kernel
theorem dX7_wordOf_36 : decode cX7_wordOf 36 = .ok (.bipush 96, 2) := by decide +kernel
theorem dX7_wordOf_38 : decode cX7_wordOf 38 = .ok (.isub, 1) := by decide +kernel
theorem dX7_wordOf_39 : decode cX7_wordOf 39 = .ok (.iadd, 1) := by decide +kernel
theorem dX7_wordOf_40 : decode cX7_wordOf 40 = .ok (.istore_n 2, 1) := by decide +kernel
theorem dX7_wordOf_41 : decode cX7_wordOf 41 = .ok (.goto 15, 3) := by decide +kernel
theorem dX7_wordOf_44 : decode cX7_wordOf 44 = .ok (.iload_n 2, 1) := by decide +kernel
theorem dX7_wordOf_45 : decode cX7_wordOf 45 = .ok (.iload_n 0, 1) := by decide +kernel
theorem dX7_wordOf_46 : decode cX7_wordOf 46 = .ok (.if_icmp .ne 5, 3) := by decide +kernel
theorem dX7_wordOf_49 : decode cX7_wordOf 49 = .ok (.iload_n 1, 1) := by decide +kernel
theorem dX7_wordOf_50 : decode cX7_wordOf 50 = .ok (.ireturn, 1) := by decide +kernel
theorem dX7_wordOf_51 : decode cX7_wordOf 51 = .ok (.iinc 1 1, 3) := by decide +kernel
theorem dX7_wordOf_54 : decode cX7_wordOf 54 = .ok (.iconst 0, 1) := by decide +kernel
theorem dX7_wordOf_55 : decode cX7_wordOf 55 = .ok (.istore_n 2, 1) := by decide +kernel
theorem dX7_wordOf_56 : decode cX7_wordOf 56 = .ok (.iinc 3 1, 3) := by decide +kernel
theorem dX7_wordOf_59 : decode cX7_wordOf 59 = .ok (.goto (-53), 3) := by decide +kernel
theorem dX7_wordOf_62 : decode cX7_wordOf 62 = .ok (.iconst (-1), 1) := by decide +kernel
theorem dX7_wordOf_63 : decode cX7_wordOf 63 = .ok (.ireturn, 1) := by decide +kernel
theorem dX7_isLetter_0 : decode cX7_isLetter 0 = .ok (.iload_n 0, 1) := by decide +kernel
theorem dX7_isLetter_1 : decode cX7_isLetter 1 = .ok (.bipush 97, 2) := by decide +kernel
theorem dX7_isLetter_3 : decode cX7_isLetter 3 = .ok (.if_icmp .lt 13, 3) := by decide +kernel
theorem dX7_isLetter_6 : decode cX7_isLetter 6 = .ok (.iload_n 0, 1) := by decide +kernel
theorem dX7_isLetter_7 : decode cX7_isLetter 7 = .ok (.bipush 122, 2) := by decide +kernel
theorem dX7_isLetter_9 : decode cX7_isLetter 9 = .ok (.if_icmp .gt 7, 3) := by decide +kernel
theorem dX7_isLetter_12 : decode cX7_isLetter 12 = .ok (.iconst 1, 1) := by decide +kernel
theorem dX7_isLetter_13 : decode cX7_isLetter 13 = .ok (.goto 4, 3) := by decide +kernel
theorem dX7_isLetter_16 : decode cX7_isLetter 16 = .ok (.iconst 0, 1) := by decide +kernel
theorem dX7_isLetter_17 : decode cX7_isLetter 17 = .ok (.ireturn, 1) := by decide +kernel
theorem dX7_isDigit_0 : decode cX7_isDigit 0 = .ok (.iload_n 0, 1) := by decide +kernel
theorem dX7_isDigit_1 : decode cX7_isDigit 1 = .ok (.bipush 48, 2) := by decide +kernel
theorem dX7_isDigit_3 : decode cX7_isDigit 3 = .ok (.if_icmp .lt 13, 3) := by decide +kernel
theorem dX7_isDigit_6 : decode cX7_isDigit 6 = .ok (.iload_n 0, 1) := by decide +kernel
theorem dX7_isDigit_7 : decode cX7_isDigit 7 = .ok (.bipush 57, 2) := by decide +kernel
theorem dX7_isDigit_9 : decode cX7_isDigit 9 = .ok (.if_icmp .gt 7, 3) := by decide +kernel
theorem dX7_isDigit_12 : decode cX7_isDigit 12 = .ok (.iconst 1, 1) := by decide +kernel
theorem dX7_isDigit_13 : decode cX7_isDigit 13 = .ok (.goto 4, 3) := by decide +kernel
theorem dX7_isDigit_16 : decode cX7_isDigit 16 = .ok (.iconst 0, 1) := by decide +kernel
theorem dX7_isDigit_17 : decode cX7_isDigit 17 = .ok (.ireturn, 1) := by decide +kernel
theorem dX7_isMark_0 : decode cX7_isMark 0 = .ok (.iload_n 0, 1) := by decide +kernel
theorem dX7_isMark_1 : decode cX7_isMark 1 = .ok (.bipush 59, 2) := by decide +kernel
theorem dX7_isMark_3 : decode cX7_isMark 3 = .ok (.if_icmp .eq 33, 3) := by decide +kernel
theorem dX7_isMark_6 : decode cX7_isMark 6 = .ok (.iload_n 0, 1) := by decide +kernel
theorem dX7_isMark_7 : decode cX7_isMark 7 = .ok (.bipush 60, 2) := by decide +kernel
theorem dX7_isMark_9 : decode cX7_isMark 9 = .ok (.if_icmp .eq 27, 3) := by decide +kernel
theorem dX7_isMark_12 : decode cX7_isMark 12 = .ok (.iload_n 0, 1) := by decide +kernel
theorem dX7_isMark_13 : decode cX7_isMark 13 = .ok (.bipush 61, 2) := by decide +kernel
theorem dX7_isMark_15 : decode cX7_isMark 15 = .ok (.if_icmp .eq 21, 3) := by decide +kernel
theorem dX7_isMark_18 : decode cX7_isMark 18 = .ok (.iload_n 0, 1) := by decide +kernel
theorem dX7_isMark_19 : decode cX7_isMark 19 = .ok (.bipush 62, 2) := by decide +kernel
theorem dX7_isMark_21 : decode cX7_isMark 21 = .ok (.if_icmp .eq 15, 3) := by decide +kernel
theorem dX7_isMark_24 : decode cX7_isMark 24 = .ok (.iload_n 0, 1) := by decide +kernel
theorem dX7_isMark_25 : decode cX7_isMark 25 = .ok (.bipush 40, 2) := by decide +kernel
theorem dX7_isMark_27 : decode cX7_isMark 27 = .ok (.if_icmp .eq 9, 3) := by decide +kernel
theorem dX7_isMark_30 : decode cX7_isMark 30 = .ok (.iload_n 0, 1) := by decide +kernel
theorem dX7_isMark_31 : decode cX7_isMark 31 = .ok (.bipush 41, 2) := by decide +kernel
theorem dX7_isMark_33 : decode cX7_isMark 33 = .ok (.if_icmp .ne 7, 3) := by decide +kernel
theorem dX7_isMark_36 : decode cX7_isMark 36 = .ok (.iconst 1, 1) := by decide +kernel
theorem dX7_isMark_37 : decode cX7_isMark 37 = .ok (.goto 4, 3) := by decide +kernel
theorem dX7_isMark_40 : decode cX7_isMark 40 = .ok (.iconst 0, 1) := by decide +kernel
theorem dX7_isMark_41 : decode cX7_isMark 41 = .ok (.ireturn, 1) := by decide +kernel
theorem dX7_add_0 : decode cX7_add 0 = .ok (.aload_n 0, 1) := by decide +kernel
theorem dX7_add_1 : decode cX7_add 1 = .ok (.getfield 21, 3) := by decide +kernel
theorem dX7_add_4 : decode cX7_add 4 = .ok (.aload_n 0, 1) := by decide +kernel
theorem dX7_add_5 : decode cX7_add 5 = .ok (.getfield 9, 3) := by decide +kernel
theorem dX7_add_8 : decode cX7_add 8 = .ok (.arraylength, 1) := by decide +kernel
theorem dX7_add_9 : decode cX7_add 9 = .ok (.if_icmp .ge 43, 3) := by decide +kernel
theorem dX7_add_12 : decode cX7_add 12 = .ok (.aload_n 0, 1) := by decide +kernel
theorem dX7_add_13 : decode cX7_add 13 = .ok (.getfield 9, 3) := by decide +kernel
theorem dX7_add_16 : decode cX7_add 16 = .ok (.aload_n 0, 1) := by decide +kernel
theorem dX7_add_17 : decode cX7_add 17 = .ok (.getfield 21, 3) := by decide +kernel
theorem dX7_add_20 : decode cX7_add 20 = .ok (.iload_n 1, 1) := by decide +kernel
theorem dX7_add_21 : decode cX7_add 21 = .ok (.iastore, 1) := by decide +kernel
theorem dX7_add_22 : decode cX7_add 22 = .ok (.aload_n 0, 1) := by decide +kernel
theorem dX7_add_23 : decode cX7_add 23 = .ok (.getfield 15, 3) := by decide +kernel
theorem dX7_add_26 : decode cX7_add 26 = .ok (.aload_n 0, 1) := by decide +kernel
theorem dX7_add_27 : decode cX7_add 27 = .ok (.getfield 21, 3) := by decide +kernel
theorem dX7_add_30 : decode cX7_add 30 = .ok (.iload_n 2, 1) := by decide +kernel
theorem dX7_add_31 : decode cX7_add 31 = .ok (.iastore, 1) := by decide +kernel
theorem dX7_add_32 : decode cX7_add 32 = .ok (.aload_n 0, 1) := by decide +kernel
theorem dX7_add_33 : decode cX7_add 33 = .ok (.getfield 18, 3) := by decide +kernel
theorem dX7_add_36 : decode cX7_add 36 = .ok (.aload_n 0, 1) := by decide +kernel
theorem dX7_add_37 : decode cX7_add 37 = .ok (.getfield 21, 3) := by decide +kernel
theorem dX7_add_40 : decode cX7_add 40 = .ok (.iload_n 3, 1) := by decide +kernel
theorem dX7_add_41 : decode cX7_add 41 = .ok (.iastore, 1) := by decide +kernel
theorem dX7_add_42 : decode cX7_add 42 = .ok (.aload_n 0, 1) := by decide +kernel
theorem dX7_add_43 : decode cX7_add 43 = .ok (.dup, 1) := by decide +kernel
theorem dX7_add_44 : decode cX7_add 44 = .ok (.getfield 21, 3) := by decide +kernel
theorem dX7_add_47 : decode cX7_add 47 = .ok (.iconst 1, 1) := by decide +kernel
theorem dX7_add_48 : decode cX7_add 48 = .ok (.iadd, 1) := by decide +kernel
theorem dX7_add_49 : decode cX7_add 49 = .ok (.putfield 21, 3) := by decide +kernel
theorem dX7_add_52 : decode cX7_add 52 = .ok (.return_, 1) := by decide +kernel
theorem dX7_isSound_0 : decode cX7_isSound 0 = .ok (.aload_n 0, 1) := by decide +kernel
theorem dX7_isSound_1 : decode cX7_isSound 1 = .ok (.getfield 28, 3) := by decide +kernel
theorem dX7_isSound_4 : decode cX7_isSound 4 = .ok (.ifCond .ne 7, 3) := by decide +kernel
theorem dX7_isSound_7 : decode cX7_isSound 7 = .ok (.iconst 1, 1) := by decide +kernel
theorem dX7_isSound_8 : decode cX7_isSound 8 = .ok (.goto 4, 3) := by decide +kernel
theorem dX7_isSound_11 : decode cX7_isSound 11 = .ok (.iconst 0, 1) := by decide +kernel
theorem dX7_isSound_12 : decode cX7_isSound 12 = .ok (.ireturn, 1) := by decide +kernel
theorem dX7_goesOn_0 : decode cX7_goesOn 0 = .ok (.aload_n 0, 1) := by decide +kernel
theorem dX7_goesOn_1 : decode cX7_goesOn 1 = .ok (.getfield 28, 3) := by decide +kernel
theorem dX7_goesOn_4 : decode cX7_goesOn 4 = .ok (.ifCond .ne 16, 3) := by decide +kernel
theorem dX7_goesOn_7 : decode cX7_goesOn 7 = .ok (.aload_n 0, 1) := by decide +kernel
theorem dX7_goesOn_8 : decode cX7_goesOn 8 = .ok (.iconst 0, 1) := by decide +kernel
theorem dX7_goesOn_9 : decode cX7_goesOn 9 = .ok (.iconst 0, 1) := by decide +kernel
theorem dX7_goesOn_10 : decode cX7_goesOn 10 = .ok (.invokevirtual 74, 3) := by decide +kernel
theorem dX7_goesOn_13 : decode cX7_goesOn 13 = .ok (.ifCond .ne 7, 3) := by decide +kernel
theorem dX7_goesOn_16 : decode cX7_goesOn 16 = .ok (.iconst 1, 1) := by decide +kernel
theorem dX7_goesOn_17 : decode cX7_goesOn 17 = .ok (.goto 4, 3) := by decide +kernel
theorem dX7_goesOn_20 : decode cX7_goesOn 20 = .ok (.iconst 0, 1) := by decide +kernel
theorem dX7_goesOn_21 : decode cX7_goesOn 21 = .ok (.ireturn, 1) := by decide +kernel
theorem dX7_sees_0 : decode cX7_sees 0 = .ok (.aload_n 0, 1) := by decide +kernel
theorem dX7_sees_1 : decode cX7_sees 1 = .ok (.getfield 25, 3) := by decide +kernel
theorem dX7_sees_4 : decode cX7_sees 4 = .ok (.aload_n 0, 1) := by decide +kernel
theorem dX7_sees_5 : decode cX7_sees 5 = .ok (.getfield 21, 3) := by decide +kernel
theorem dX7_sees_8 : decode cX7_sees 8 = .ok (.if_icmp .ge 33, 3) := by decide +kernel
theorem dX7_sees_11 : decode cX7_sees 11 = .ok (.aload_n 0, 1) := by decide +kernel
theorem dX7_sees_12 : decode cX7_sees 12 = .ok (.getfield 9, 3) := by decide +kernel
theorem dX7_sees_15 : decode cX7_sees 15 = .ok (.aload_n 0, 1) := by decide +kernel
theorem dX7_sees_16 : decode cX7_sees 16 = .ok (.getfield 25, 3) := by decide +kernel
theorem dX7_sees_19 : decode cX7_sees 19 = .ok (.iaload, 1) := by decide +kernel
theorem dX7_sees_20 : decode cX7_sees 20 = .ok (.iload_n 1, 1) := by decide +kernel
theorem dX7_sees_21 : decode cX7_sees 21 = .ok (.if_icmp .ne 20, 3) := by decide +kernel
theorem dX7_sees_24 : decode cX7_sees 24 = .ok (.aload_n 0, 1) := by decide +kernel
theorem dX7_sees_25 : decode cX7_sees 25 = .ok (.getfield 15, 3) := by decide +kernel
theorem dX7_sees_28 : decode cX7_sees 28 = .ok (.aload_n 0, 1) := by decide +kernel
theorem dX7_sees_29 : decode cX7_sees 29 = .ok (.getfield 25, 3) := by decide +kernel
theorem dX7_sees_32 : decode cX7_sees 32 = .ok (.iaload, 1) := by decide +kernel
theorem dX7_sees_33 : decode cX7_sees 33 = .ok (.iload_n 2, 1) := by decide +kernel
theorem dX7_sees_34 : decode cX7_sees 34 = .ok (.if_icmp .ne 7, 3) := by decide +kernel
theorem dX7_sees_37 : decode cX7_sees 37 = .ok (.iconst 1, 1) := by decide +kernel
theorem dX7_sees_38 : decode cX7_sees 38 = .ok (.goto 4, 3) := by decide +kernel
theorem dX7_sees_41 : decode cX7_sees 41 = .ok (.iconst 0, 1) := by decide +kernel
theorem dX7_sees_42 : decode cX7_sees 42 = .ok (.ireturn, 1) := by decide +kernel
theorem dX7_nextWord_0 : decode cX7_nextWord 0 = .ok (.aload_n 0, 1) := by decide +kernel
theorem dX7_nextWord_1 : decode cX7_nextWord 1 = .ok (.getfield 25, 3) := by decide +kernel
theorem dX7_nextWord_4 : decode cX7_nextWord 4 = .ok (.aload_n 0, 1) := by decide +kernel
theorem dX7_nextWord_5 : decode cX7_nextWord 5 = .ok (.getfield 21, 3) := by decide +kernel
theorem dX7_nextWord_8 : decode cX7_nextWord 8 = .ok (.if_icmp .ge 28, 3) := by decide +kernel
theorem dX7_nextWord_11 : decode cX7_nextWord 11 = .ok (.aload_n 0, 1) := by decide +kernel
theorem dX7_nextWord_12 : decode cX7_nextWord 12 = .ok (.getfield 9, 3) := by decide +kernel
theorem dX7_nextWord_15 : decode cX7_nextWord 15 = .ok (.aload_n 0, 1) := by decide +kernel
theorem dX7_nextWord_16 : decode cX7_nextWord 16 = .ok (.getfield 25, 3) := by decide +kernel
theorem dX7_nextWord_19 : decode cX7_nextWord 19 = .ok (.iaload, 1) := by decide +kernel
theorem dX7_nextWord_20 : decode cX7_nextWord 20 = .ok (.iconst 2, 1) := by decide +kernel
theorem dX7_nextWord_21 : decode cX7_nextWord 21 = .ok (.if_icmp .ne 15, 3) := by decide +kernel
theorem dX7_nextWord_24 : decode cX7_nextWord 24 = .ok (.aload_n 0, 1) := by decide +kernel
theorem dX7_nextWord_25 : decode cX7_nextWord 25 = .ok (.getfield 15, 3) := by decide +kernel
theorem dX7_nextWord_28 : decode cX7_nextWord 28 = .ok (.aload_n 0, 1) := by decide +kernel
theorem dX7_nextWord_29 : decode cX7_nextWord 29 = .ok (.getfield 25, 3) := by decide +kernel
theorem dX7_nextWord_32 : decode cX7_nextWord 32 = .ok (.iaload, 1) := by decide +kernel
theorem dX7_nextWord_33 : decode cX7_nextWord 33 = .ok (.goto 4, 3) := by decide +kernel
theorem dX7_nextWord_36 : decode cX7_nextWord 36 = .ok (.iconst (-1), 1) := by decide +kernel
theorem dX7_nextWord_37 : decode cX7_nextWord 37 = .ok (.ireturn, 1) := by decide +kernel
theorem dX7_blameNext_0 : decode cX7_blameNext 0 = .ok (.aload_n 0, 1) := by decide +kernel
theorem dX7_blameNext_1 : decode cX7_blameNext 1 = .ok (.getfield 28, 3) := by decide +kernel
theorem dX7_blameNext_4 : decode cX7_blameNext 4 = .ok (.ifCond .ne 32, 3) := by decide +kernel
theorem dX7_blameNext_7 : decode cX7_blameNext 7 = .ok (.aload_n 0, 1) := by decide +kernel
theorem dX7_blameNext_8 : decode cX7_blameNext 8 = .ok (.getfield 25, 3) := by decide +kernel
theorem dX7_blameNext_11 : decode cX7_blameNext 11 = .ok (.aload_n 0, 1) := by decide +kernel
theorem dX7_blameNext_12 : decode cX7_blameNext 12 = .ok (.getfield 21, 3) := by decide +kernel
theorem dX7_blameNext_15 : decode cX7_blameNext 15 = .ok (.if_icmp .ge 21, 3) := by decide +kernel
theorem dX7_blameNext_18 : decode cX7_blameNext 18 = .ok (.aload_n 0, 1) := by decide +kernel
theorem dX7_blameNext_19 : decode cX7_blameNext 19 = .ok (.iload_n 1, 1) := by decide +kernel
theorem dX7_blameNext_20 : decode cX7_blameNext 20 = .ok (.putfield 28, 3) := by decide +kernel
theorem dX7_blameNext_23 : decode cX7_blameNext 23 = .ok (.aload_n 0, 1) := by decide +kernel
theorem dX7_blameNext_24 : decode cX7_blameNext 24 = .ok (.aload_n 0, 1) := by decide +kernel
theorem dX7_blameNext_25 : decode cX7_blameNext 25 = .ok (.getfield 18, 3) := by decide +kernel
theorem dX7_blameNext_28 : decode cX7_blameNext 28 = .ok (.aload_n 0, 1) := by decide +kernel
theorem dX7_blameNext_29 : decode cX7_blameNext 29 = .ok (.getfield 25, 3) := by decide +kernel
theorem dX7_blameNext_32 : decode cX7_blameNext 32 = .ok (.iaload, 1) := by decide +kernel
theorem dX7_blameNext_33 : decode cX7_blameNext 33 = .ok (.putfield 31, 3) := by decide +kernel
theorem dX7_blameNext_36 : decode cX7_blameNext 36 = .ok (.return_, 1) := by decide +kernel
theorem dX7_blameTaken_0 : decode cX7_blameTaken 0 = .ok (.aload_n 0, 1) := by decide +kernel
theorem dX7_blameTaken_1 : decode cX7_blameTaken 1 = .ok (.getfield 28, 3) := by decide +kernel
theorem dX7_blameTaken_4 : decode cX7_blameTaken 4 = .ok (.ifCond .ne 41, 3) := by decide +kernel
theorem dX7_blameTaken_7 : decode cX7_blameTaken 7 = .ok (.aload_n 0, 1) := by decide +kernel
theorem dX7_blameTaken_8 : decode cX7_blameTaken 8 = .ok (.getfield 25, 3) := by decide +kernel
theorem dX7_blameTaken_11 : decode cX7_blameTaken 11 = .ok (.ifCond .le 34, 3) := by decide +kernel
theorem dX7_blameTaken_14 : decode cX7_blameTaken 14 = .ok (.aload_n 0, 1) := by decide +kernel
theorem dX7_blameTaken_15 : decode cX7_blameTaken 15 = .ok (.getfield 25, 3) := by decide +kernel
theorem dX7_blameTaken_18 : decode cX7_blameTaken 18 = .ok (.aload_n 0, 1) := by decide +kernel
theorem dX7_blameTaken_19 : decode cX7_blameTaken 19 = .ok (.getfield 21, 3) := by decide +kernel
theorem dX7_blameTaken_22 : decode cX7_blameTaken 22 = .ok (.if_icmp .gt 23, 3) := by decide +kernel
theorem dX7_blameTaken_25 : decode cX7_blameTaken 25 = .ok (.aload_n 0, 1) := by decide +kernel
theorem dX7_blameTaken_26 : decode cX7_blameTaken 26 = .ok (.iload_n 1, 1) := by decide +kernel
theorem dX7_blameTaken_27 : decode cX7_blameTaken 27 = .ok (.putfield 28, 3) := by decide +kernel
theorem dX7_blameTaken_30 : decode cX7_blameTaken 30 = .ok (.aload_n 0, 1) := by decide +kernel
theorem dX7_blameTaken_31 : decode cX7_blameTaken 31 = .ok (.aload_n 0, 1) := by decide +kernel
theorem dX7_blameTaken_32 : decode cX7_blameTaken 32 = .ok (.getfield 18, 3) := by decide +kernel
theorem dX7_blameTaken_35 : decode cX7_blameTaken 35 = .ok (.aload_n 0, 1) := by decide +kernel
theorem dX7_blameTaken_36 : decode cX7_blameTaken 36 = .ok (.getfield 25, 3) := by decide +kernel
theorem dX7_blameTaken_39 : decode cX7_blameTaken 39 = .ok (.iconst 1, 1) := by decide +kernel
theorem dX7_blameTaken_40 : decode cX7_blameTaken 40 = .ok (.isub, 1) := by decide +kernel
theorem dX7_blameTaken_41 : decode cX7_blameTaken 41 = .ok (.iaload, 1) := by decide +kernel
theorem dX7_blameTaken_42 : decode cX7_blameTaken 42 = .ok (.putfield 31, 3) := by decide +kernel
theorem dX7_blameTaken_45 : decode cX7_blameTaken 45 = .ok (.return_, 1) := by decide +kernel
theorem dX7_take_0 : decode cX7_take 0 = .ok (.aload_n 0, 1) := by decide +kernel
theorem dX7_take_1 : decode cX7_take 1 = .ok (.getfield 25, 3) := by decide +kernel
theorem dX7_take_4 : decode cX7_take 4 = .ok (.aload_n 0, 1) := by decide +kernel
theorem dX7_take_5 : decode cX7_take 5 = .ok (.getfield 21, 3) := by decide +kernel
theorem dX7_take_8 : decode cX7_take 8 = .ok (.if_icmp .ge 13, 3) := by decide +kernel
theorem dX7_take_11 : decode cX7_take 11 = .ok (.aload_n 0, 1) := by decide +kernel
theorem dX7_take_12 : decode cX7_take 12 = .ok (.dup, 1) := by decide +kernel
theorem dX7_take_13 : decode cX7_take 13 = .ok (.getfield 25, 3) := by decide +kernel
theorem dX7_take_16 : decode cX7_take 16 = .ok (.iconst 1, 1) := by decide +kernel
theorem dX7_take_17 : decode cX7_take 17 = .ok (.iadd, 1) := by decide +kernel
theorem dX7_take_18 : decode cX7_take 18 = .ok (.putfield 25, 3) := by decide +kernel
theorem dX7_take_21 : decode cX7_take 21 = .ok (.return_, 1) := by decide +kernel
theorem dX7_takeKind_0 : decode cX7_takeKind 0 = .ok (.aload_n 0, 1) := by decide +kernel
theorem dX7_takeKind_1 : decode cX7_takeKind 1 = .ok (.getfield 28, 3) := by decide +kernel
theorem dX7_takeKind_4 : decode cX7_takeKind 4 = .ok (.ifCond .ne 14, 3) := by decide +kernel
theorem dX7_takeKind_7 : decode cX7_takeKind 7 = .ok (.aload_n 0, 1) := by decide +kernel
theorem dX7_takeKind_8 : decode cX7_takeKind 8 = .ok (.getfield 25, 3) := by decide +kernel
theorem dX7_takeKind_11 : decode cX7_takeKind 11 = .ok (.aload_n 0, 1) := by decide +kernel
theorem dX7_takeKind_12 : decode cX7_takeKind 12 = .ok (.getfield 21, 3) := by decide +kernel
theorem dX7_takeKind_15 : decode cX7_takeKind 15 = .ok (.if_icmp .lt 5, 3) := by decide +kernel
theorem dX7_takeKind_18 : decode cX7_takeKind 18 = .ok (.iconst (-1), 1) := by decide +kernel
theorem dX7_takeKind_19 : decode cX7_takeKind 19 = .ok (.ireturn, 1) := by decide +kernel
theorem dX7_takeKind_20 : decode cX7_takeKind 20 = .ok (.aload_n 0, 1) := by decide +kernel
theorem dX7_takeKind_21 : decode cX7_takeKind 21 = .ok (.getfield 9, 3) := by decide +kernel
theorem dX7_takeKind_24 : decode cX7_takeKind 24 = .ok (.aload_n 0, 1) := by decide +kernel
theorem dX7_takeKind_25 : decode cX7_takeKind 25 = .ok (.getfield 25, 3) := by decide +kernel
theorem dX7_takeKind_28 : decode cX7_takeKind 28 = .ok (.iaload, 1) := by decide +kernel
theorem dX7_takeKind_29 : decode cX7_takeKind 29 = .ok (.iload_n 1, 1) := by decide +kernel
theorem dX7_takeKind_30 : decode cX7_takeKind 30 = .ok (.if_icmp .eq 23, 3) := by decide +kernel
theorem dX7_takeKind_33 : decode cX7_takeKind 33 = .ok (.aload_n 0, 1) := by decide +kernel
theorem dX7_takeKind_34 : decode cX7_takeKind 34 = .ok (.iconst 1, 1) := by decide +kernel
theorem dX7_takeKind_35 : decode cX7_takeKind 35 = .ok (.putfield 28, 3) := by decide +kernel
theorem dX7_takeKind_38 : decode cX7_takeKind 38 = .ok (.aload_n 0, 1) := by decide +kernel
theorem dX7_takeKind_39 : decode cX7_takeKind 39 = .ok (.aload_n 0, 1) := by decide +kernel
theorem dX7_takeKind_40 : decode cX7_takeKind 40 = .ok (.getfield 18, 3) := by decide +kernel
theorem dX7_takeKind_43 : decode cX7_takeKind 43 = .ok (.aload_n 0, 1) := by decide +kernel
theorem dX7_takeKind_44 : decode cX7_takeKind 44 = .ok (.getfield 25, 3) := by decide +kernel
theorem dX7_takeKind_47 : decode cX7_takeKind 47 = .ok (.iaload, 1) := by decide +kernel
theorem dX7_takeKind_48 : decode cX7_takeKind 48 = .ok (.putfield 31, 3) := by decide +kernel
theorem dX7_takeKind_51 : decode cX7_takeKind 51 = .ok (.iconst (-1), 1) := by decide +kernel
theorem dX7_takeKind_52 : decode cX7_takeKind 52 = .ok (.ireturn, 1) := by decide +kernel
theorem dX7_takeKind_53 : decode cX7_takeKind 53 = .ok (.aload_n 0, 1) := by decide +kernel
theorem dX7_takeKind_54 : decode cX7_takeKind 54 = .ok (.getfield 15, 3) := by decide +kernel
theorem dX7_takeKind_57 : decode cX7_takeKind 57 = .ok (.aload_n 0, 1) := by decide +kernel
theorem dX7_takeKind_58 : decode cX7_takeKind 58 = .ok (.getfield 25, 3) := by decide +kernel
theorem dX7_takeKind_61 : decode cX7_takeKind 61 = .ok (.iaload, 1) := by decide +kernel
theorem dX7_takeKind_62 : decode cX7_takeKind 62 = .ok (.istore_n 2, 1) := by decide +kernel
theorem dX7_takeKind_63 : decode cX7_takeKind 63 = .ok (.aload_n 0, 1) := by decide +kernel
theorem dX7_takeKind_64 : decode cX7_takeKind 64 = .ok (.dup, 1) := by decide +kernel
theorem dX7_takeKind_65 : decode cX7_takeKind 65 = .ok (.getfield 25, 3) := by decide +kernel
theorem dX7_takeKind_68 : decode cX7_takeKind 68 = .ok (.iconst 1, 1) := by decide +kernel
theorem dX7_takeKind_69 : decode cX7_takeKind 69 = .ok (.iadd, 1) := by decide +kernel
theorem dX7_takeKind_70 : decode cX7_takeKind 70 = .ok (.putfield 25, 3) := by decide +kernel
theorem dX7_takeKind_73 : decode cX7_takeKind 73 = .ok (.iload_n 2, 1) := by decide +kernel
theorem dX7_takeKind_74 : decode cX7_takeKind 74 = .ok (.ireturn, 1) := by decide +kernel
theorem dX7_takeWord_0 : decode cX7_takeWord 0 = .ok (.aload_n 0, 1) := by decide +kernel
theorem dX7_takeWord_1 : decode cX7_takeWord 1 = .ok (.invokevirtual 78, 3) := by decide +kernel
theorem dX7_takeWord_4 : decode cX7_takeWord 4 = .ok (.istore_n 3, 1) := by decide +kernel
theorem dX7_takeWord_5 : decode cX7_takeWord 5 = .ok (.iload_n 3, 1) := by decide +kernel
theorem dX7_takeWord_6 : decode cX7_takeWord 6 = .ok (.iload_n 1, 1) := by decide +kernel
theorem dX7_takeWord_7 : decode cX7_takeWord 7 = .ok (.if_icmp .lt 8, 3) := by decide +kernel
theorem dX7_takeWord_10 : decode cX7_takeWord 10 = .ok (.iload_n 3, 1) := by decide +kernel
theorem dX7_takeWord_11 : decode cX7_takeWord 11 = .ok (.iload_n 2, 1) := by decide +kernel
theorem dX7_takeWord_12 : decode cX7_takeWord 12 = .ok (.if_icmp .le 10, 3) := by decide +kernel
theorem dX7_takeWord_15 : decode cX7_takeWord 15 = .ok (.aload_n 0, 1) := by decide +kernel
theorem dX7_takeWord_16 : decode cX7_takeWord 16 = .ok (.iconst 1, 1) := by decide +kernel
theorem dX7_takeWord_17 : decode cX7_takeWord 17 = .ok (.invokevirtual 81, 3) := by decide +kernel
theorem dX7_takeWord_20 : decode cX7_takeWord 20 = .ok (.iconst (-1), 1) := by decide +kernel
theorem dX7_takeWord_21 : decode cX7_takeWord 21 = .ok (.ireturn, 1) := by decide +kernel
theorem dX7_takeWord_22 : decode cX7_takeWord 22 = .ok (.aload_n 0, 1) := by decide +kernel
theorem dX7_takeWord_23 : decode cX7_takeWord 23 = .ok (.iconst 2, 1) := by decide +kernel
theorem dX7_takeWord_24 : decode cX7_takeWord 24 = .ok (.invokevirtual 85, 3) := by decide +kernel
theorem dX7_takeWord_27 : decode cX7_takeWord 27 = .ok (.ireturn, 1) := by decide +kernel
theorem dX7_takeName_0 : decode cX7_takeName 0 = .ok (.aload_n 0, 1) := by decide +kernel
theorem dX7_takeName_1 : decode cX7_takeName 1 = .ok (.iconst 3, 1) := by decide +kernel
theorem dX7_takeName_2 : decode cX7_takeName 2 = .ok (.invokevirtual 85, 3) := by decide +kernel
theorem dX7_takeName_5 : decode cX7_takeName 5 = .ok (.ireturn, 1) := by decide +kernel
theorem dX7_takeNumber_0 : decode cX7_takeNumber 0 = .ok (.aload_n 0, 1) := by decide +kernel
theorem dX7_takeNumber_1 : decode cX7_takeNumber 1 = .ok (.iconst 4, 1) := by decide +kernel
theorem dX7_takeNumber_2 : decode cX7_takeNumber 2 = .ok (.invokevirtual 85, 3) := by decide +kernel
theorem dX7_takeNumber_5 : decode cX7_takeNumber 5 = .ok (.istore_n 3, 1) := by decide +kernel
theorem dX7_takeNumber_6 : decode cX7_takeNumber 6 = .ok (.aload_n 0, 1) := by decide +kernel
theorem dX7_takeNumber_7 : decode cX7_takeNumber 7 = .ok (.getfield 28, 3) := by decide +kernel
theorem dX7_takeNumber_10 : decode cX7_takeNumber 10 = .ok (.ifCond .ne 18, 3) := by decide +kernel
theorem dX7_takeNumber_13 : decode cX7_takeNumber 13 = .ok (.iload_n 3, 1) := by decide +kernel
theorem dX7_takeNumber_14 : decode cX7_takeNumber 14 = .ok (.iload_n 1, 1) := by decide +kernel
theorem dX7_takeNumber_15 : decode cX7_takeNumber 15 = .ok (.if_icmp .lt 8, 3) := by decide +kernel
theorem dX7_takeNumber_18 : decode cX7_takeNumber 18 = .ok (.iload_n 3, 1) := by decide +kernel
theorem dX7_takeNumber_19 : decode cX7_takeNumber 19 = .ok (.iload_n 2, 1) := by decide +kernel
theorem dX7_takeNumber_20 : decode cX7_takeNumber 20 = .ok (.if_icmp .le 8, 3) := by decide +kernel
theorem dX7_takeNumber_23 : decode cX7_takeNumber 23 = .ok (.aload_n 0, 1) := by decide +kernel
theorem dX7_takeNumber_24 : decode cX7_takeNumber 24 = .ok (.iconst 2, 1) := by decide +kernel
theorem dX7_takeNumber_25 : decode cX7_takeNumber 25 = .ok (.invokevirtual 88, 3) := by decide +kernel
theorem dX7_takeNumber_28 : decode cX7_takeNumber 28 = .ok (.aload_n 0, 1) := by decide +kernel
theorem dX7_takeNumber_29 : decode cX7_takeNumber 29 = .ok (.getfield 28, 3) := by decide +kernel
theorem dX7_takeNumber_32 : decode cX7_takeNumber 32 = .ok (.ifCond .ne 7, 3) := by decide +kernel
theorem dX7_takeNumber_35 : decode cX7_takeNumber 35 = .ok (.iload_n 3, 1) := by decide +kernel
theorem dX7_takeNumber_36 : decode cX7_takeNumber 36 = .ok (.goto 4, 3) := by decide +kernel
theorem dX7_takeNumber_39 : decode cX7_takeNumber 39 = .ok (.iconst (-1), 1) := by decide +kernel
theorem dX7_takeNumber_40 : decode cX7_takeNumber 40 = .ok (.ireturn, 1) := by decide +kernel
theorem dX7_takeMark_0 : decode cX7_takeMark 0 = .ok (.aload_n 0, 1) := by decide +kernel
theorem dX7_takeMark_1 : decode cX7_takeMark 1 = .ok (.iconst 5, 1) := by decide +kernel
theorem dX7_takeMark_2 : decode cX7_takeMark 2 = .ok (.iload_n 1, 1) := by decide +kernel
theorem dX7_takeMark_3 : decode cX7_takeMark 3 = .ok (.invokevirtual 74, 3) := by decide +kernel
theorem dX7_takeMark_6 : decode cX7_takeMark 6 = .ok (.ifCond .eq 10, 3) := by decide +kernel
theorem dX7_takeMark_9 : decode cX7_takeMark 9 = .ok (.aload_n 0, 1) := by decide +kernel
theorem dX7_takeMark_10 : decode cX7_takeMark 10 = .ok (.invokevirtual 91, 3) := by decide +kernel
theorem dX7_takeMark_13 : decode cX7_takeMark 13 = .ok (.goto 8, 3) := by decide +kernel
theorem dX7_takeMark_16 : decode cX7_takeMark 16 = .ok (.aload_n 0, 1) := by decide +kernel
theorem dX7_takeMark_17 : decode cX7_takeMark 17 = .ok (.iconst 1, 1) := by decide +kernel
theorem dX7_takeMark_18 : decode cX7_takeMark 18 = .ok (.invokevirtual 81, 3) := by decide +kernel
theorem dX7_takeMark_21 : decode cX7_takeMark 21 = .ok (.return_, 1) := by decide +kernel
theorem dX8_copy_0 : decode cX8_copy 0 = .ok (.aload_n 0, 1) := by decide +kernel
theorem dX8_copy_1 : decode cX8_copy 1 = .ok (.getfield 16, 3) := by decide +kernel
theorem dX8_copy_4 : decode cX8_copy 4 = .ok (.aload_n 1, 1) := by decide +kernel
theorem dX8_copy_5 : decode cX8_copy 5 = .ok (.getfield 16, 3) := by decide +kernel
theorem dX8_copy_8 : decode cX8_copy 8 = .ok (.invokevirtual 41, 3) := by decide +kernel
theorem dX8_copy_11 : decode cX8_copy 11 = .ok (.aload_n 0, 1) := by decide +kernel
theorem dX8_copy_12 : decode cX8_copy 12 = .ok (.getfield 23, 3) := by decide +kernel
theorem dX8_copy_15 : decode cX8_copy 15 = .ok (.aload_n 1, 1) := by decide +kernel
theorem dX8_copy_16 : decode cX8_copy 16 = .ok (.getfield 23, 3) := by decide +kernel
theorem dX8_copy_19 : decode cX8_copy 19 = .ok (.invokevirtual 45, 3) := by decide +kernel
theorem dX8_copy_22 : decode cX8_copy 22 = .ok (.aload_n 0, 1) := by decide +kernel
theorem dX8_copy_23 : decode cX8_copy 23 = .ok (.getfield 30, 3) := by decide +kernel
theorem dX8_copy_26 : decode cX8_copy 26 = .ok (.aload_n 1, 1) := by decide +kernel
theorem dX8_copy_27 : decode cX8_copy 27 = .ok (.getfield 30, 3) := by decide +kernel
theorem dX8_copy_30 : decode cX8_copy 30 = .ok (.invokevirtual 48, 3) := by decide +kernel
theorem dX8_copy_33 : decode cX8_copy 33 = .ok (.aload_n 0, 1) := by decide +kernel
theorem dX8_copy_34 : decode cX8_copy 34 = .ok (.getfield 37, 3) := by decide +kernel
theorem dX8_copy_37 : decode cX8_copy 37 = .ok (.aload_n 1, 1) := by decide +kernel
theorem dX8_copy_38 : decode cX8_copy 38 = .ok (.getfield 37, 3) := by decide +kernel
theorem dX8_copy_41 : decode cX8_copy 41 = .ok (.invokevirtual 51, 3) := by decide +kernel
theorem dX8_copy_44 : decode cX8_copy 44 = .ok (.return_, 1) := by decide +kernel
theorem dX9_turned_0 : decode cX9_turned 0 = .ok (.iload_n 1, 1) := by decide +kernel
theorem dX9_turned_1 : decode cX9_turned 1 = .ok (.iload_n 0, 1) := by decide +kernel
theorem dX9_turned_2 : decode cX9_turned 2 = .ok (.isub, 1) := by decide +kernel
theorem dX9_turned_3 : decode cX9_turned 3 = .ok (.bipush 7, 2) := by decide +kernel
theorem dX9_turned_5 : decode cX9_turned 5 = .ok (.iand, 1) := by decide +kernel
theorem dX9_turned_6 : decode cX9_turned 6 = .ok (.istore_n 3, 1) := by decide +kernel
theorem dX9_turned_7 : decode cX9_turned 7 = .ok (.iload_n 2, 1) := by decide +kernel
theorem dX9_turned_8 : decode cX9_turned 8 = .ok (.ifCond .gt 5, 3) := by decide +kernel
theorem dX9_turned_11 : decode cX9_turned 11 = .ok (.iload_n 0, 1) := by decide +kernel
theorem dX9_turned_12 : decode cX9_turned 12 = .ok (.ireturn, 1) := by decide +kernel
theorem dX9_turned_13 : decode cX9_turned 13 = .ok (.iload_n 3, 1) := by decide +kernel
theorem dX9_turned_14 : decode cX9_turned 14 = .ok (.iconst 4, 1) := by decide +kernel
theorem dX9_turned_15 : decode cX9_turned 15 = .ok (.if_icmp .gt 14, 3) := by decide +kernel
theorem dX9_turned_18 : decode cX9_turned 18 = .ok (.iload_n 0, 1) := by decide +kernel
theorem dX9_turned_19 : decode cX9_turned 19 = .ok (.iload_n 3, 1) := by decide +kernel
theorem dX9_turned_20 : decode cX9_turned 20 = .ok (.iload_n 2, 1) := by decide +kernel
theorem dX9_turned_21 : decode cX9_turned 21 = .ok (.invokestatic 25, 3) := by decide +kernel
theorem dX9_turned_24 : decode cX9_turned 24 = .ok (.iadd, 1) := by decide +kernel
theorem dX9_turned_25 : decode cX9_turned 25 = .ok (.bipush 7, 2) := by decide +kernel
theorem dX9_turned_27 : decode cX9_turned 27 = .ok (.iand, 1) := by decide +kernel
theorem dX9_turned_28 : decode cX9_turned 28 = .ok (.ireturn, 1) := by decide +kernel
theorem dX9_turned_29 : decode cX9_turned 29 = .ok (.iload_n 0, 1) := by decide +kernel
theorem dX9_turned_30 : decode cX9_turned 30 = .ok (.bipush 8, 2) := by decide +kernel
theorem dX9_turned_32 : decode cX9_turned 32 = .ok (.iload_n 3, 1) := by decide +kernel
theorem dX9_turned_33 : decode cX9_turned 33 = .ok (.isub, 1) := by decide +kernel
theorem dX9_turned_34 : decode cX9_turned 34 = .ok (.iload_n 2, 1) := by decide +kernel
theorem dX9_turned_35 : decode cX9_turned 35 = .ok (.invokestatic 25, 3) := by decide +kernel
theorem dX9_turned_38 : decode cX9_turned 38 = .ok (.isub, 1) := by decide +kernel
theorem dX9_turned_39 : decode cX9_turned 39 = .ok (.bipush 7, 2) := by decide +kernel
theorem dX9_turned_41 : decode cX9_turned 41 = .ok (.iand, 1) := by decide +kernel
theorem dX9_turned_42 : decode cX9_turned 42 = .ok (.ireturn, 1) := by decide +kernel
theorem dX9_turnVanes_0 : decode cX9_turnVanes 0 = .ok (.iconst 0, 1) := by decide +kernel
theorem dX9_turnVanes_1 : decode cX9_turnVanes 1 = .ok (.istore 5, 2) := by decide +kernel
theorem dX9_turnVanes_3 : decode cX9_turnVanes 3 = .ok (.iconst 0, 1) := by decide +kernel
theorem dX9_turnVanes_4 : decode cX9_turnVanes 4 = .ok (.istore 6, 2) := by decide +kernel
theorem dX9_turnVanes_6 : decode cX9_turnVanes 6 = .ok (.iload 6, 2) := by decide +kernel
theorem dX9_turnVanes_8 : decode cX9_turnVanes 8 = .ok (.aload_n 1, 1) := by decide +kernel
theorem dX9_turnVanes_9 : decode cX9_turnVanes 9 = .ok (.getfield 31, 3) := by decide +kernel
theorem dX9_turnVanes_12 : decode cX9_turnVanes 12 = .ok (.getfield 37, 3) := by decide +kernel
theorem dX9_turnVanes_15 : decode cX9_turnVanes 15 = .ok (.if_icmp .ge 110, 3) := by decide +kernel
theorem dX9_turnVanes_18 : decode cX9_turnVanes 18 = .ok (.aload_n 1, 1) := by decide +kernel
theorem dX9_turnVanes_19 : decode cX9_turnVanes 19 = .ok (.getfield 31, 3) := by decide +kernel
theorem dX9_turnVanes_22 : decode cX9_turnVanes 22 = .ok (.getfield 42, 3) := by decide +kernel
theorem dX9_turnVanes_25 : decode cX9_turnVanes 25 = .ok (.iload 6, 2) := by decide +kernel
theorem dX9_turnVanes_27 : decode cX9_turnVanes 27 = .ok (.iaload, 1) := by decide +kernel
theorem dX9_turnVanes_28 : decode cX9_turnVanes 28 = .ok (.istore 7, 2) := by decide +kernel
theorem dX9_turnVanes_30 : decode cX9_turnVanes 30 = .ok (.aload_n 1, 1) := by decide +kernel
theorem dX9_turnVanes_31 : decode cX9_turnVanes 31 = .ok (.iload 7, 2) := by decide +kernel
theorem dX9_turnVanes_33 : decode cX9_turnVanes 33 = .ok (.iload_n 3, 1) := by decide +kernel
theorem dX9_turnVanes_34 : decode cX9_turnVanes 34 = .ok (.invokevirtual 45, 3) := by decide +kernel
theorem dX9_turnVanes_37 : decode cX9_turnVanes 37 = .ok (.istore 8, 2) := by decide +kernel
theorem dX9_turnVanes_39 : decode cX9_turnVanes 39 = .ok (.aload_n 1, 1) := by decide +kernel
theorem dX9_turnVanes_40 : decode cX9_turnVanes 40 = .ok (.aload_n 2, 1) := by decide +kernel
theorem dX9_turnVanes_41 : decode cX9_turnVanes 41 = .ok (.getfield 48, 3) := by decide +kernel
theorem dX9_turnVanes_44 : decode cX9_turnVanes 44 = .ok (.iload 7, 2) := by decide +kernel
theorem dX9_turnVanes_46 : decode cX9_turnVanes 46 = .ok (.iload_n 3, 1) := by decide +kernel
theorem dX9_turnVanes_47 : decode cX9_turnVanes 47 = .ok (.iload 4, 2) := by decide +kernel
theorem dX9_turnVanes_49 : decode cX9_turnVanes 49 = .ok (.invokevirtual 53, 3) := by decide +kernel
theorem dX9_turnVanes_52 : decode cX9_turnVanes 52 = .ok (.istore 9, 2) := by decide +kernel
theorem dX9_turnVanes_54 : decode cX9_turnVanes 54 = .ok (.aload_n 2, 1) := by decide +kernel
theorem dX9_turnVanes_55 : decode cX9_turnVanes 55 = .ok (.getfield 57, 3) := by decide +kernel
theorem dX9_turnVanes_58 : decode cX9_turnVanes 58 = .ok (.iload 6, 2) := by decide +kernel
theorem dX9_turnVanes_60 : decode cX9_turnVanes 60 = .ok (.iaload, 1) := by decide +kernel
theorem dX9_turnVanes_61 : decode cX9_turnVanes 61 = .ok (.ifCond .ne 32, 3) := by decide +kernel
theorem dX9_turnVanes_64 : decode cX9_turnVanes 64 = .ok (.aload_n 2, 1) := by decide +kernel
theorem dX9_turnVanes_65 : decode cX9_turnVanes 65 = .ok (.getfield 60, 3) := by decide +kernel
theorem dX9_turnVanes_68 : decode cX9_turnVanes 68 = .ok (.iload 6, 2) := by decide +kernel
theorem dX9_turnVanes_70 : decode cX9_turnVanes 70 = .ok (.aload_n 2, 1) := by decide +kernel
theorem dX9_turnVanes_71 : decode cX9_turnVanes 71 = .ok (.getfield 60, 3) := by decide +kernel
theorem dX9_turnVanes_74 : decode cX9_turnVanes 74 = .ok (.iload 6, 2) := by decide +kernel
theorem dX9_turnVanes_76 : decode cX9_turnVanes 76 = .ok (.iaload, 1) := by decide +kernel
theorem dX9_turnVanes_77 : decode cX9_turnVanes 77 = .ok (.iload 8, 2) := by decide +kernel
theorem dX9_turnVanes_79 : decode cX9_turnVanes 79 = .ok (.iload 9, 2) := by decide +kernel
theorem dX9_turnVanes_81 : decode cX9_turnVanes 81 = .ok (.aload_n 2, 1) := by decide +kernel
theorem dX9_turnVanes_82 : decode cX9_turnVanes 82 = .ok (.getfield 63, 3) := by decide +kernel
theorem dX9_turnVanes_85 : decode cX9_turnVanes 85 = .ok (.iload 6, 2) := by decide +kernel
theorem dX9_turnVanes_87 : decode cX9_turnVanes 87 = .ok (.iaload, 1) := by decide +kernel
theorem dX9_turnVanes_88 : decode cX9_turnVanes 88 = .ok (.isub, 1) := by decide +kernel
theorem dX9_turnVanes_89 : decode cX9_turnVanes 89 = .ok (.invokestatic 66, 3) := by decide +kernel
theorem dX9_turnVanes_92 : decode cX9_turnVanes 92 = .ok (.iastore, 1) := by decide +kernel
theorem dX9_turnVanes_93 : decode cX9_turnVanes 93 = .ok (.iload 9, 2) := by decide +kernel
theorem dX9_turnVanes_95 : decode cX9_turnVanes 95 = .ok (.ifCond .le 24, 3) := by decide +kernel
theorem dX9_turnVanes_98 : decode cX9_turnVanes 98 = .ok (.aload_n 2, 1) := by decide +kernel
theorem dX9_turnVanes_99 : decode cX9_turnVanes 99 = .ok (.getfield 60, 3) := by decide +kernel
theorem dX9_turnVanes_102 : decode cX9_turnVanes 102 = .ok (.iload 6, 2) := by decide +kernel
theorem dX9_turnVanes_104 : decode cX9_turnVanes 104 = .ok (.iaload, 1) := by decide +kernel
theorem dX9_turnVanes_105 : decode cX9_turnVanes 105 = .ok (.iload 8, 2) := by decide +kernel
theorem dX9_turnVanes_107 : decode cX9_turnVanes 107 = .ok (.if_icmp .ne 12, 3) := by decide +kernel
theorem dX9_turnVanes_110 : decode cX9_turnVanes 110 = .ok (.iload 5, 2) := by decide +kernel
theorem dX9_turnVanes_112 : decode cX9_turnVanes 112 = .ok (.iconst 1, 1) := by decide +kernel
theorem dX9_turnVanes_113 : decode cX9_turnVanes 113 = .ok (.iload 6, 2) := by decide +kernel
theorem dX9_turnVanes_115 : decode cX9_turnVanes 115 = .ok (.ishl, 1) := by decide +kernel
theorem dX9_turnVanes_116 : decode cX9_turnVanes 116 = .ok (.ior, 1) := by decide +kernel
theorem dX9_turnVanes_117 : decode cX9_turnVanes 117 = .ok (.istore 5, 2) := by decide +kernel
theorem dX9_turnVanes_119 : decode cX9_turnVanes 119 = .ok (.iinc 6 1, 3) := by decide +kernel
theorem dX9_turnVanes_122 : decode cX9_turnVanes 122 = .ok (.goto (-116), 3) := by decide +kernel
theorem dX9_turnVanes_125 : decode cX9_turnVanes 125 = .ok (.iload 5, 2) := by decide +kernel
theorem dX9_turnVanes_127 : decode cX9_turnVanes 127 = .ok (.ireturn, 1) := by decide +kernel
theorem dX9_gale_0 : decode cX9_gale 0 = .ok (.aload_n 0, 1) := by decide +kernel
theorem dX9_gale_1 : decode cX9_gale 1 = .ok (.aload_n 1, 1) := by decide +kernel
theorem dX9_gale_2 : decode cX9_gale 2 = .ok (.aload_n 2, 1) := by decide +kernel
theorem dX9_gale_3 : decode cX9_gale 3 = .ok (.iload_n 3, 1) := by decide +kernel
theorem dX9_gale_4 : decode cX9_gale 4 = .ok (.iload 4, 2) := by decide +kernel
theorem dX9_gale_6 : decode cX9_gale 6 = .ok (.invokevirtual 70, 3) := by decide +kernel
theorem dX9_gale_9 : decode cX9_gale 9 = .ok (.istore 5, 2) := by decide +kernel
theorem dX9_gale_11 : decode cX9_gale 11 = .ok (.aload_n 2, 1) := by decide +kernel
theorem dX9_gale_12 : decode cX9_gale 12 = .ok (.iload_n 3, 1) := by decide +kernel
theorem dX9_gale_13 : decode cX9_gale 13 = .ok (.putfield 74, 3) := by decide +kernel
theorem dX9_gale_16 : decode cX9_gale 16 = .ok (.iconst 0, 1) := by decide +kernel
theorem dX9_gale_17 : decode cX9_gale 17 = .ok (.istore 6, 2) := by decide +kernel
theorem dX9_gale_19 : decode cX9_gale 19 = .ok (.iconst 0, 1) := by decide +kernel
theorem dX9_gale_20 : decode cX9_gale 20 = .ok (.istore 7, 2) := by decide +kernel
theorem dX9_gale_22 : decode cX9_gale 22 = .ok (.iload 7, 2) := by decide +kernel
theorem dX9_gale_24 : decode cX9_gale 24 = .ok (.aload_n 1, 1) := by decide +kernel
theorem dX9_gale_25 : decode cX9_gale 25 = .ok (.getfield 31, 3) := by decide +kernel
theorem dX9_gale_28 : decode cX9_gale 28 = .ok (.getfield 37, 3) := by decide +kernel
theorem dX9_gale_31 : decode cX9_gale 31 = .ok (.if_icmp .ge 64, 3) := by decide +kernel
theorem dX9_gale_34 : decode cX9_gale 34 = .ok (.iload 5, 2) := by decide +kernel
theorem dX9_gale_36 : decode cX9_gale 36 = .ok (.iload 7, 2) := by decide +kernel
theorem dX9_gale_38 : decode cX9_gale 38 = .ok (.ishr, 1) := by decide +kernel
theorem dX9_gale_39 : decode cX9_gale 39 = .ok (.iconst 1, 1) := by decide +kernel
theorem dX9_gale_40 : decode cX9_gale 40 = .ok (.iand, 1) := by decide +kernel
theorem dX9_gale_41 : decode cX9_gale 41 = .ok (.ifCond .ne 48, 3) := by decide +kernel
theorem dX9_gale_44 : decode cX9_gale 44 = .ok (.iload 4, 2) := by decide +kernel
