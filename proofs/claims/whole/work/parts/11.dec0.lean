theorem dX7_sees_0 : decode cX7_sees 0 = .ok (.aload_n 0, 1) := by decide +kernel
theorem dX7_sees_1 : decode cX7_sees 1 = .ok (.getfield 25, 3) := by decide +kernel
theorem dX7_sees_4 : decode cX7_sees 4 = .ok (.aload_n 0, 1) := by decide +kernel
theorem dX7_sees_5 : decode cX7_sees 5 = .ok (.getfield 21, 3) := by decide +kernel
theorem dX7_sees_8 : decode cX7_sees 8 = .ok (.if_icmp .ge 33, 3) := by decide +kernel
theorem dX7_sees_11 : decode cX7_sees 11 = .ok (.aload_n 0, 1) := by decide +kernel
theorem dX7_sees_12 : decode cX7_sees 12 = .ok (.getfield 9, 3) := by decide +kernel
theorem dX7_sees_15 : decode cX7_sees 15 = .ok (.aload_n 0, 1) := by decide +kernel
theorem dX7_sees_16 : decode cX7_sees 16 = .ok (.getfield 25, 3) := by decide +kernel
theorem dX7_sees_19 : decode cX7_sees 19 = .ok (.iaload, 1) := by decide +kernel
theorem dX7_sees_20 : decode cX7_sees 20 = .ok (.iload_n 1, 1) := by decide +kernel
theorem dX7_sees_21 : decode cX7_sees 21 = .ok (.if_icmp .ne 20, 3) := by decide +kernel
theorem dX7_sees_24 : decode cX7_sees 24 = .ok (.aload_n 0, 1) := by decide +kernel
theorem dX7_sees_25 : decode cX7_sees 25 = .ok (.getfield 15, 3) := by decide +kernel
theorem dX7_sees_28 : decode cX7_sees 28 = .ok (.aload_n 0, 1) := by decide +kernel
theorem dX7_sees_29 : decode cX7_sees 29 = .ok (.getfield 25, 3) := by decide +kernel
theorem dX7_sees_32 : decode cX7_sees 32 = .ok (.iaload, 1) := by decide +kernel
theorem dX7_sees_33 : decode cX7_sees 33 = .ok (.iload_n 2, 1) := by decide +kernel
theorem dX7_sees_34 : decode cX7_sees 34 = .ok (.if_icmp .ne 7, 3) := by decide +kernel
theorem dX7_sees_37 : decode cX7_sees 37 = .ok (.iconst 1, 1) := by decide +kernel
theorem dX7_sees_38 : decode cX7_sees 38 = .ok (.goto 4, 3) := by decide +kernel
theorem dX7_sees_41 : decode cX7_sees 41 = .ok (.iconst 0, 1) := by decide +kernel
theorem dX7_sees_42 : decode cX7_sees 42 = .ok (.ireturn, 1) := by decide +kernel
theorem dX7_nextWord_0 : decode cX7_nextWord 0 = .ok (.aload_n 0, 1) := by decide +kernel
theorem dX7_nextWord_1 : decode cX7_nextWord 1 = .ok (.getfield 25, 3) := by decide +kernel
theorem dX7_nextWord_4 : decode cX7_nextWord 4 = .ok (.aload_n 0, 1) := by decide +kernel
theorem dX7_nextWord_5 : decode cX7_nextWord 5 = .ok (.getfield 21, 3) := by decide +kernel
theorem dX7_nextWord_8 : decode cX7_nextWord 8 = .ok (.if_icmp .ge 28, 3) := by decide +kernel
theorem dX7_nextWord_11 : decode cX7_nextWord 11 = .ok (.aload_n 0, 1) := by decide +kernel
theorem dX7_nextWord_12 : decode cX7_nextWord 12 = .ok (.getfield 9, 3) := by decide +kernel
theorem dX7_nextWord_15 : decode cX7_nextWord 15 = .ok (.aload_n 0, 1) := by decide +kernel
theorem dX7_nextWord_16 : decode cX7_nextWord 16 = .ok (.getfield 25, 3) := by decide +kernel
theorem dX7_nextWord_19 : decode cX7_nextWord 19 = .ok (.iaload, 1) := by decide +kernel
theorem dX7_nextWord_20 : decode cX7_nextWord 20 = .ok (.iconst 2, 1) := by decide +kernel
theorem dX7_nextWord_21 : decode cX7_nextWord 21 = .ok (.if_icmp .ne 15, 3) := by decide +kernel
theorem dX7_nextWord_24 : decode cX7_nextWord 24 = .ok (.aload_n 0, 1) := by decide +kernel
theorem dX7_nextWord_25 : decode cX7_nextWord 25 = .ok (.getfield 15, 3) := by decide +kernel
theorem dX7_nextWord_28 : decode cX7_nextWord 28 = .ok (.aload_n 0, 1) := by decide +kernel
theorem dX7_nextWord_29 : decode cX7_nextWord 29 = .ok (.getfield 25, 3) := by decide +kernel
theorem dX7_nextWord_32 : decode cX7_nextWord 32 = .ok (.iaload, 1) := by decide +kernel
theorem dX7_nextWord_33 : decode cX7_nextWord 33 = .ok (.goto 4, 3) := by decide +kernel
theorem dX7_nextWord_36 : decode cX7_nextWord 36 = .ok (.iconst (-1), 1) := by decide +kernel
theorem dX7_nextWord_37 : decode cX7_nextWord 37 = .ok (.ireturn, 1) := by decide +kernel
theorem dX7_blameNext_0 : decode cX7_blameNext 0 = .ok (.aload_n 0, 1) := by decide +kernel
theorem dX7_blameNext_1 : decode cX7_blameNext 1 = .ok (.getfield 28, 3) := by decide +kernel
theorem dX7_blameNext_4 : decode cX7_blameNext 4 = .ok (.ifCond .ne 32, 3) := by decide +kernel
theorem dX7_blameNext_7 : decode cX7_blameNext 7 = .ok (.aload_n 0, 1) := by decide +kernel
theorem dX7_blameNext_8 : decode cX7_blameNext 8 = .ok (.getfield 25, 3) := by decide +kernel
theorem dX7_blameNext_11 : decode cX7_blameNext 11 = .ok (.aload_n 0, 1) := by decide +kernel
theorem dX7_blameNext_12 : decode cX7_blameNext 12 = .ok (.getfield 21, 3) := by decide +kernel
theorem dX7_blameNext_15 : decode cX7_blameNext 15 = .ok (.if_icmp .ge 21, 3) := by decide +kernel
theorem dX7_blameNext_18 : decode cX7_blameNext 18 = .ok (.aload_n 0, 1) := by decide +kernel
theorem dX7_blameNext_19 : decode cX7_blameNext 19 = .ok (.iload_n 1, 1) := by decide +kernel
theorem dX7_blameNext_20 : decode cX7_blameNext 20 = .ok (.putfield 28, 3) := by decide +kernel
theorem dX7_blameNext_23 : decode cX7_blameNext 23 = .ok (.aload_n 0, 1) := by decide +kernel
theorem dX7_blameNext_24 : decode cX7_blameNext 24 = .ok (.aload_n 0, 1) := by decide +kernel
theorem dX7_blameNext_25 : decode cX7_blameNext 25 = .ok (.getfield 18, 3) := by decide +kernel
theorem dX7_blameNext_28 : decode cX7_blameNext 28 = .ok (.aload_n 0, 1) := by decide +kernel
theorem dX7_blameNext_29 : decode cX7_blameNext 29 = .ok (.getfield 25, 3) := by decide +kernel
theorem dX7_blameNext_32 : decode cX7_blameNext 32 = .ok (.iaload, 1) := by decide +kernel
theorem dX7_blameNext_33 : decode cX7_blameNext 33 = .ok (.putfield 31, 3) := by decide +kernel
theorem dX7_blameNext_36 : decode cX7_blameNext 36 = .ok (.return_, 1) := by decide +kernel
theorem dX7_isSound_0 : decode cX7_isSound 0 = .ok (.aload_n 0, 1) := by decide +kernel
theorem dX7_isSound_1 : decode cX7_isSound 1 = .ok (.getfield 28, 3) := by decide +kernel
theorem dX7_isSound_4 : decode cX7_isSound 4 = .ok (.ifCond .ne 7, 3) := by decide +kernel
theorem dX7_isSound_7 : decode cX7_isSound 7 = .ok (.iconst 1, 1) := by decide +kernel
theorem dX7_isSound_8 : decode cX7_isSound 8 = .ok (.goto 4, 3) := by decide +kernel
theorem dX7_isSound_11 : decode cX7_isSound 11 = .ok (.iconst 0, 1) := by decide +kernel
theorem dX7_isSound_12 : decode cX7_isSound 12 = .ok (.ireturn, 1) := by decide +kernel
theorem dX7_take_0 : decode cX7_take 0 = .ok (.aload_n 0, 1) := by decide +kernel
theorem dX7_take_1 : decode cX7_take 1 = .ok (.getfield 25, 3) := by decide +kernel
theorem dX7_take_4 : decode cX7_take 4 = .ok (.aload_n 0, 1) := by decide +kernel
theorem dX7_take_5 : decode cX7_take 5 = .ok (.getfield 21, 3) := by decide +kernel
theorem dX7_take_8 : decode cX7_take 8 = .ok (.if_icmp .ge 13, 3) := by decide +kernel
theorem dX7_take_11 : decode cX7_take 11 = .ok (.aload_n 0, 1) := by decide +kernel
theorem dX7_take_12 : decode cX7_take 12 = .ok (.dup, 1) := by decide +kernel
theorem dX7_take_13 : decode cX7_take 13 = .ok (.getfield 25, 3) := by decide +kernel
theorem dX7_take_16 : decode cX7_take 16 = .ok (.iconst 1, 1) := by decide +kernel
theorem dX7_take_17 : decode cX7_take 17 = .ok (.iadd, 1) := by decide +kernel
theorem dX7_take_18 : decode cX7_take 18 = .ok (.putfield 25, 3) := by decide +kernel
theorem dX7_take_21 : decode cX7_take 21 = .ok (.return_, 1) := by decide +kernel
theorem dX5_takeSign_0 : decode cX5_takeSign 0 = .ok (.bipush 60, 2) := by decide +kernel
theorem dX5_takeSign_2 : decode cX5_takeSign 2 = .ok (.istore_n 1, 1) := by decide +kernel
theorem dX5_takeSign_3 : decode cX5_takeSign 3 = .ok (.iload_n 1, 1) := by decide +kernel
theorem dX5_takeSign_4 : decode cX5_takeSign 4 = .ok (.bipush 62, 2) := by decide +kernel
theorem dX5_takeSign_6 : decode cX5_takeSign 6 = .ok (.if_icmp .gt 24, 3) := by decide +kernel
theorem dX5_takeSign_9 : decode cX5_takeSign 9 = .ok (.aload_n 0, 1) := by decide +kernel
theorem dX5_takeSign_10 : decode cX5_takeSign 10 = .ok (.iconst 5, 1) := by decide +kernel
theorem dX5_takeSign_11 : decode cX5_takeSign 11 = .ok (.iload_n 1, 1) := by decide +kernel
theorem dX5_takeSign_12 : decode cX5_takeSign 12 = .ok (.invokevirtual 71, 3) := by decide +kernel
theorem dX5_takeSign_15 : decode cX5_takeSign 15 = .ok (.ifCond .eq 9, 3) := by decide +kernel
theorem dX5_takeSign_18 : decode cX5_takeSign 18 = .ok (.aload_n 0, 1) := by decide +kernel
theorem dX5_takeSign_19 : decode cX5_takeSign 19 = .ok (.invokevirtual 61, 3) := by decide +kernel
theorem dX5_takeSign_22 : decode cX5_takeSign 22 = .ok (.iload_n 1, 1) := by decide +kernel
theorem dX5_takeSign_23 : decode cX5_takeSign 23 = .ok (.ireturn, 1) := by decide +kernel
theorem dX5_takeSign_24 : decode cX5_takeSign 24 = .ok (.iinc 1 1, 3) := by decide +kernel
theorem dX5_takeSign_27 : decode cX5_takeSign 27 = .ok (.goto (-24), 3) := by decide +kernel
theorem dX5_takeSign_30 : decode cX5_takeSign 30 = .ok (.aload_n 0, 1) := by decide +kernel
theorem dX5_takeSign_31 : decode cX5_takeSign 31 = .ok (.iconst 1, 1) := by decide +kernel
theorem dX5_takeSign_32 : decode cX5_takeSign 32 = .ok (.invokevirtual 47, 3) := by decide +kernel
theorem dX5_takeSign_35 : decode cX5_takeSign 35 = .ok (.iconst (-1), 1) := by decide +kernel
theorem dX5_takeSign_36 : decode cX5_takeSign 36 = .ok (.ireturn, 1) := by decide +kernel
theorem dX7_takeKind_0 : decode cX7_takeKind 0 = .ok (.aload_n 0, 1) := by decide +kernel
theorem dX7_takeKind_1 : decode cX7_takeKind 1 = .ok (.getfield 28, 3) := by decide +kernel
theorem dX7_takeKind_4 : decode cX7_takeKind 4 = .ok (.ifCond .ne 14, 3) := by decide +kernel
theorem dX7_takeKind_7 : decode cX7_takeKind 7 = .ok (.aload_n 0, 1) := by decide +kernel
theorem dX7_takeKind_8 : decode cX7_takeKind 8 = .ok (.getfield 25, 3) := by decide +kernel
theorem dX7_takeKind_11 : decode cX7_takeKind 11 = .ok (.aload_n 0, 1) := by decide +kernel
theorem dX7_takeKind_12 : decode cX7_takeKind 12 = .ok (.getfield 21, 3) := by decide +kernel
theorem dX7_takeKind_15 : decode cX7_takeKind 15 = .ok (.if_icmp .lt 5, 3) := by decide +kernel
theorem dX7_takeKind_18 : decode cX7_takeKind 18 = .ok (.iconst (-1), 1) := by decide +kernel
theorem dX7_takeKind_19 : decode cX7_takeKind 19 = .ok (.ireturn, 1) := by decide +kernel
theorem dX7_takeKind_20 : decode cX7_takeKind 20 = .ok (.aload_n 0, 1) := by decide +kernel
theorem dX7_takeKind_21 : decode cX7_takeKind 21 = .ok (.getfield 9, 3) := by decide +kernel
theorem dX7_takeKind_24 : decode cX7_takeKind 24 = .ok (.aload_n 0, 1) := by decide +kernel
theorem dX7_takeKind_25 : decode cX7_takeKind 25 = .ok (.getfield 25, 3) := by decide +kernel
theorem dX7_takeKind_28 : decode cX7_takeKind 28 = .ok (.iaload, 1) := by decide +kernel
theorem dX7_takeKind_29 : decode cX7_takeKind 29 = .ok (.iload_n 1, 1) := by decide +kernel
theorem dX7_takeKind_30 : decode cX7_takeKind 30 = .ok (.if_icmp .eq 23, 3) := by decide +kernel
theorem dX7_takeKind_33 : decode cX7_takeKind 33 = .ok (.aload_n 0, 1) := by decide +kernel
theorem dX7_takeKind_34 : decode cX7_takeKind 34 = .ok (.iconst 1, 1) := by decide +kernel
theorem dX7_takeKind_35 : decode cX7_takeKind 35 = .ok (.putfield 28, 3) := by decide +kernel
theorem dX7_takeKind_38 : decode cX7_takeKind 38 = .ok (.aload_n 0, 1) := by decide +kernel
theorem dX7_takeKind_39 : decode cX7_takeKind 39 = .ok (.aload_n 0, 1) := by decide +kernel
theorem dX7_takeKind_40 : decode cX7_takeKind 40 = .ok (.getfield 18, 3) := by decide +kernel
theorem dX7_takeKind_43 : decode cX7_takeKind 43 = .ok (.aload_n 0, 1) := by decide +kernel
theorem dX7_takeKind_44 : decode cX7_takeKind 44 = .ok (.getfield 25, 3) := by decide +kernel
theorem dX7_takeKind_47 : decode cX7_takeKind 47 = .ok (.iaload, 1) := by decide +kernel
theorem dX7_takeKind_48 : decode cX7_takeKind 48 = .ok (.putfield 31, 3) := by decide +kernel
theorem dX7_takeKind_51 : decode cX7_takeKind 51 = .ok (.iconst (-1), 1) := by decide +kernel
theorem dX7_takeKind_52 : decode cX7_takeKind 52 = .ok (.ireturn, 1) := by decide +kernel
theorem dX7_takeKind_53 : decode cX7_takeKind 53 = .ok (.aload_n 0, 1) := by decide +kernel
theorem dX7_takeKind_54 : decode cX7_takeKind 54 = .ok (.getfield 15, 3) := by decide +kernel
theorem dX7_takeKind_57 : decode cX7_takeKind 57 = .ok (.aload_n 0, 1) := by decide +kernel
theorem dX7_takeKind_58 : decode cX7_takeKind 58 = .ok (.getfield 25, 3) := by decide +kernel
theorem dX7_takeKind_61 : decode cX7_takeKind 61 = .ok (.iaload, 1) := by decide +kernel
theorem dX7_takeKind_62 : decode cX7_takeKind 62 = .ok (.istore_n 2, 1) := by decide +kernel
theorem dX7_takeKind_63 : decode cX7_takeKind 63 = .ok (.aload_n 0, 1) := by decide +kernel
theorem dX7_takeKind_64 : decode cX7_takeKind 64 = .ok (.dup, 1) := by decide +kernel
theorem dX7_takeKind_65 : decode cX7_takeKind 65 = .ok (.getfield 25, 3) := by decide +kernel
theorem dX7_takeKind_68 : decode cX7_takeKind 68 = .ok (.iconst 1, 1) := by decide +kernel
theorem dX7_takeKind_69 : decode cX7_takeKind 69 = .ok (.iadd, 1) := by decide +kernel
theorem dX7_takeKind_70 : decode cX7_takeKind 70 = .ok (.putfield 25, 3) := by decide +kernel
theorem dX7_takeKind_73 : decode cX7_takeKind 73 = .ok (.iload_n 2, 1) := by decide +kernel
theorem dX7_takeKind_74 : decode cX7_takeKind 74 = .ok (.ireturn, 1) := by decide +kernel
theorem dX7_blameTaken_0 : decode cX7_blameTaken 0 = .ok (.aload_n 0, 1) := by decide +kernel
theorem dX7_blameTaken_1 : decode cX7_blameTaken 1 = .ok (.getfield 28, 3) := by decide +kernel
theorem dX7_blameTaken_4 : decode cX7_blameTaken 4 = .ok (.ifCond .ne 41, 3) := by decide +kernel
theorem dX7_blameTaken_7 : decode cX7_blameTaken 7 = .ok (.aload_n 0, 1) := by decide +kernel
theorem dX7_blameTaken_8 : decode cX7_blameTaken 8 = .ok (.getfield 25, 3) := by decide +kernel
theorem dX7_blameTaken_11 : decode cX7_blameTaken 11 = .ok (.ifCond .le 34, 3) := by decide +kernel
theorem dX7_blameTaken_14 : decode cX7_blameTaken 14 = .ok (.aload_n 0, 1) := by decide +kernel
theorem dX7_blameTaken_15 : decode cX7_blameTaken 15 = .ok (.getfield 25, 3) := by decide +kernel
theorem dX7_blameTaken_18 : decode cX7_blameTaken 18 = .ok (.aload_n 0, 1) := by decide +kernel
theorem dX7_blameTaken_19 : decode cX7_blameTaken 19 = .ok (.getfield 21, 3) := by decide +kernel
theorem dX7_blameTaken_22 : decode cX7_blameTaken 22 = .ok (.if_icmp .gt 23, 3) := by decide +kernel
theorem dX7_blameTaken_25 : decode cX7_blameTaken 25 = .ok (.aload_n 0, 1) := by decide +kernel
theorem dX7_blameTaken_26 : decode cX7_blameTaken 26 = .ok (.iload_n 1, 1) := by decide +kernel
theorem dX7_blameTaken_27 : decode cX7_blameTaken 27 = .ok (.putfield 28, 3) := by decide +kernel
theorem dX7_blameTaken_30 : decode cX7_blameTaken 30 = .ok (.aload_n 0, 1) := by decide +kernel
theorem dX7_blameTaken_31 : decode cX7_blameTaken 31 = .ok (.aload_n 0, 1) := by decide +kernel
theorem dX7_blameTaken_32 : decode cX7_blameTaken 32 = .ok (.getfield 18, 3) := by decide +kernel
theorem dX7_blameTaken_35 : decode cX7_blameTaken 35 = .ok (.aload_n 0, 1) := by decide +kernel
theorem dX7_blameTaken_36 : decode cX7_blameTaken 36 = .ok (.getfield 25, 3) := by decide +kernel
theorem dX7_blameTaken_39 : decode cX7_blameTaken 39 = .ok (.iconst 1, 1) := by decide +kernel
theorem dX7_blameTaken_40 : decode cX7_blameTaken 40 = .ok (.isub, 1) := by decide +kernel
theorem dX7_blameTaken_41 : decode cX7_blameTaken 41 = .ok (.iaload, 1) := by decide +kernel
theorem dX7_blameTaken_42 : decode cX7_blameTaken 42 = .ok (.putfield 31, 3) := by decide +kernel
theorem dX7_blameTaken_45 : decode cX7_blameTaken 45 = .ok (.return_, 1) := by decide +kernel
theorem dX7_takeNumber_0 : decode cX7_takeNumber 0 = .ok (.aload_n 0, 1) := by decide +kernel
theorem dX7_takeNumber_1 : decode cX7_takeNumber 1 = .ok (.iconst 4, 1) := by decide +kernel
theorem dX7_takeNumber_2 : decode cX7_takeNumber 2 = .ok (.invokevirtual 85, 3) := by decide +kernel
theorem dX7_takeNumber_5 : decode cX7_takeNumber 5 = .ok (.istore_n 3, 1) := by decide +kernel
theorem dX7_takeNumber_6 : decode cX7_takeNumber 6 = .ok (.aload_n 0, 1) := by decide +kernel
theorem dX7_takeNumber_7 : decode cX7_takeNumber 7 = .ok (.getfield 28, 3) := by decide +kernel
theorem dX7_takeNumber_10 : decode cX7_takeNumber 10 = .ok (.ifCond .ne 18, 3) := by decide +kernel
theorem dX7_takeNumber_13 : decode cX7_takeNumber 13 = .ok (.iload_n 3, 1) := by decide +kernel
theorem dX7_takeNumber_14 : decode cX7_takeNumber 14 = .ok (.iload_n 1, 1) := by decide +kernel
theorem dX7_takeNumber_15 : decode cX7_takeNumber 15 = .ok (.if_icmp .lt 8, 3) := by decide +kernel
theorem dX7_takeNumber_18 : decode cX7_takeNumber 18 = .ok (.iload_n 3, 1) := by decide +kernel
theorem dX7_takeNumber_19 : decode cX7_takeNumber 19 = .ok (.iload_n 2, 1) := by decide +kernel
theorem dX7_takeNumber_20 : decode cX7_takeNumber 20 = .ok (.if_icmp .le 8, 3) := by decide +kernel
theorem dX7_takeNumber_23 : decode cX7_takeNumber 23 = .ok (.aload_n 0, 1) := by decide +kernel
theorem dX7_takeNumber_24 : decode cX7_takeNumber 24 = .ok (.iconst 2, 1) := by decide +kernel
theorem dX7_takeNumber_25 : decode cX7_takeNumber 25 = .ok (.invokevirtual 88, 3) := by decide +kernel
theorem dX7_takeNumber_28 : decode cX7_takeNumber 28 = .ok (.aload_n 0, 1) := by decide +kernel
theorem dX7_takeNumber_29 : decode cX7_takeNumber 29 = .ok (.getfield 28, 3) := by decide +kernel
theorem dX7_takeNumber_32 : decode cX7_takeNumber 32 = .ok (.ifCond .ne 7, 3) := by decide +kernel
theorem dX7_takeNumber_35 : decode cX7_takeNumber 35 = .ok (.iload_n 3, 1) := by decide +kernel
theorem dX7_takeNumber_36 : decode cX7_takeNumber 36 = .ok (.goto 4, 3) := by decide +kernel
theorem dX7_takeNumber_39 : decode cX7_takeNumber 39 = .ok (.iconst (-1), 1) := by decide +kernel
theorem dX7_takeNumber_40 : decode cX7_takeNumber 40 = .ok (.ireturn, 1) := by decide +kernel
theorem dX5_add_0 : decode cX5_add 0 = .ok (.aload_n 0, 1) := by decide +kernel
theorem dX5_add_1 : decode cX5_add 1 = .ok (.getfield 15, 3) := by decide +kernel
theorem dX5_add_4 : decode cX5_add 4 = .ok (.bipush 40, 2) := by decide +kernel
theorem dX5_add_6 : decode cX5_add 6 = .ok (.if_icmp .ge 43, 3) := by decide +kernel
theorem dX5_add_9 : decode cX5_add 9 = .ok (.aload_n 0, 1) := by decide +kernel
theorem dX5_add_10 : decode cX5_add 10 = .ok (.getfield 18, 3) := by decide +kernel
theorem dX5_add_13 : decode cX5_add 13 = .ok (.aload_n 0, 1) := by decide +kernel
theorem dX5_add_14 : decode cX5_add 14 = .ok (.getfield 15, 3) := by decide +kernel
theorem dX5_add_17 : decode cX5_add 17 = .ok (.iload_n 1, 1) := by decide +kernel
theorem dX5_add_18 : decode cX5_add 18 = .ok (.iastore, 1) := by decide +kernel
theorem dX5_add_19 : decode cX5_add 19 = .ok (.aload_n 0, 1) := by decide +kernel
theorem dX5_add_20 : decode cX5_add 20 = .ok (.getfield 22, 3) := by decide +kernel
theorem dX5_add_23 : decode cX5_add 23 = .ok (.aload_n 0, 1) := by decide +kernel
theorem dX5_add_24 : decode cX5_add 24 = .ok (.getfield 15, 3) := by decide +kernel
theorem dX5_add_27 : decode cX5_add 27 = .ok (.iload_n 2, 1) := by decide +kernel
theorem dX5_add_28 : decode cX5_add 28 = .ok (.iastore, 1) := by decide +kernel
theorem dX5_add_29 : decode cX5_add 29 = .ok (.aload_n 0, 1) := by decide +kernel
theorem dX5_add_30 : decode cX5_add 30 = .ok (.getfield 25, 3) := by decide +kernel
theorem dX5_add_33 : decode cX5_add 33 = .ok (.aload_n 0, 1) := by decide +kernel
theorem dX5_add_34 : decode cX5_add 34 = .ok (.getfield 15, 3) := by decide +kernel
theorem dX5_add_37 : decode cX5_add 37 = .ok (.iload_n 3, 1) := by decide +kernel
theorem dX5_add_38 : decode cX5_add 38 = .ok (.iastore, 1) := by decide +kernel
theorem dX5_add_39 : decode cX5_add 39 = .ok (.aload_n 0, 1) := by decide +kernel
theorem dX5_add_40 : decode cX5_add 40 = .ok (.dup, 1) := by decide +kernel
theorem dX5_add_41 : decode cX5_add 41 = .ok (.getfield 15, 3) := by decide +kernel
theorem dX5_add_44 : decode cX5_add 44 = .ok (.iconst 1, 1) := by decide +kernel
theorem dX5_add_45 : decode cX5_add 45 = .ok (.iadd, 1) := by decide +kernel
theorem dX5_add_46 : decode cX5_add 46 = .ok (.putfield 15, 3) := by decide +kernel
theorem dX5_add_49 : decode cX5_add 49 = .ok (.return_, 1) := by decide +kernel
theorem dX5_readAll_0 : decode cX5_readAll 0 = .ok (.aload_n 0, 1) := by decide +kernel
theorem dX5_readAll_1 : decode cX5_readAll 1 = .ok (.aload_n 1, 1) := by decide +kernel
theorem dX5_readAll_2 : decode cX5_readAll 2 = .ok (.iload_n 2, 1) := by decide +kernel
theorem dX5_readAll_3 : decode cX5_readAll 3 = .ok (.invokevirtual 68, 3) := by decide +kernel
theorem dX5_readAll_6 : decode cX5_readAll 6 = .ok (.iconst 0, 1) := by decide +kernel
theorem dX5_readAll_7 : decode cX5_readAll 7 = .ok (.istore_n 3, 1) := by decide +kernel
theorem dX5_readAll_8 : decode cX5_readAll 8 = .ok (.iload_n 3, 1) := by decide +kernel
theorem dX5_readAll_9 : decode cX5_readAll 9 = .ok (.bipush 20, 2) := by decide +kernel
theorem dX5_readAll_11 : decode cX5_readAll 11 = .ok (.if_icmp .ge 43, 3) := by decide +kernel
theorem dX5_readAll_14 : decode cX5_readAll 14 = .ok (.aload_n 1, 1) := by decide +kernel
theorem dX5_readAll_15 : decode cX5_readAll 15 = .ok (.invokevirtual 54, 3) := by decide +kernel
theorem dX5_readAll_18 : decode cX5_readAll 18 = .ok (.ifCond .eq 36, 3) := by decide +kernel
theorem dX5_readAll_21 : decode cX5_readAll 21 = .ok (.aload_n 1, 1) := by decide +kernel
theorem dX5_readAll_22 : decode cX5_readAll 22 = .ok (.invokevirtual 57, 3) := by decide +kernel
theorem dX5_readAll_25 : decode cX5_readAll 25 = .ok (.bipush 16, 2) := by decide +kernel
theorem dX5_readAll_27 : decode cX5_readAll 27 = .ok (.if_icmp .ne 27, 3) := by decide +kernel
theorem dX5_readAll_30 : decode cX5_readAll 30 = .ok (.aload_n 1, 1) := by decide +kernel
theorem dX5_readAll_31 : decode cX5_readAll 31 = .ok (.invokevirtual 61, 3) := by decide +kernel
theorem dX5_readAll_34 : decode cX5_readAll 34 = .ok (.aload_n 0, 1) := by decide +kernel
theorem dX5_readAll_35 : decode cX5_readAll 35 = .ok (.aload_n 1, 1) := by decide +kernel
theorem dX5_readAll_36 : decode cX5_readAll 36 = .ok (.iload_n 2, 1) := by decide +kernel
theorem dX5_readAll_37 : decode cX5_readAll 37 = .ok (.invokevirtual 68, 3) := by decide +kernel
theorem dX5_readAll_40 : decode cX5_readAll 40 = .ok (.aload_n 0, 1) := by decide +kernel
theorem dX5_readAll_41 : decode cX5_readAll 41 = .ok (.bipush 16, 2) := by decide +kernel
theorem dX5_readAll_43 : decode cX5_readAll 43 = .ok (.iconst 0, 1) := by decide +kernel
theorem dX5_readAll_44 : decode cX5_readAll 44 = .ok (.iconst 0, 1) := by decide +kernel
theorem dX5_readAll_45 : decode cX5_readAll 45 = .ok (.invokevirtual 64, 3) := by decide +kernel
theorem dX5_readAll_48 : decode cX5_readAll 48 = .ok (.iinc 3 1, 3) := by decide +kernel
theorem dX5_readAll_51 : decode cX5_readAll 51 = .ok (.goto (-43), 3) := by decide +kernel
theorem dX5_readAll_54 : decode cX5_readAll 54 = .ok (.return_, 1) := by decide +kernel
theorem dX5_readCond_0 : decode cX5_readCond 0 = .ok (.aload_n 0, 1) := by decide +kernel
theorem dX5_readCond_1 : decode cX5_readCond 1 = .ok (.aload_n 1, 1) := by decide +kernel
theorem dX5_readCond_2 : decode cX5_readCond 2 = .ok (.iload_n 2, 1) := by decide +kernel
theorem dX5_readCond_3 : decode cX5_readCond 3 = .ok (.invokevirtual 51, 3) := by decide +kernel
theorem dX5_readCond_6 : decode cX5_readCond 6 = .ok (.iconst 0, 1) := by decide +kernel
theorem dX5_readCond_7 : decode cX5_readCond 7 = .ok (.istore_n 3, 1) := by decide +kernel
theorem dX5_readCond_8 : decode cX5_readCond 8 = .ok (.iload_n 3, 1) := by decide +kernel
theorem dX5_readCond_9 : decode cX5_readCond 9 = .ok (.bipush 20, 2) := by decide +kernel
theorem dX5_readCond_11 : decode cX5_readCond 11 = .ok (.if_icmp .ge 43, 3) := by decide +kernel
theorem dX5_readCond_14 : decode cX5_readCond 14 = .ok (.aload_n 1, 1) := by decide +kernel
theorem dX5_readCond_15 : decode cX5_readCond 15 = .ok (.invokevirtual 54, 3) := by decide +kernel
theorem dX5_readCond_18 : decode cX5_readCond 18 = .ok (.ifCond .eq 36, 3) := by decide +kernel
theorem dX5_readCond_21 : decode cX5_readCond 21 = .ok (.aload_n 1, 1) := by decide +kernel
theorem dX5_readCond_22 : decode cX5_readCond 22 = .ok (.invokevirtual 57, 3) := by decide +kernel
theorem dX5_readCond_25 : decode cX5_readCond 25 = .ok (.bipush 15, 2) := by decide +kernel
theorem dX5_readCond_27 : decode cX5_readCond 27 = .ok (.if_icmp .ne 27, 3) := by decide +kernel
theorem dX5_readCond_30 : decode cX5_readCond 30 = .ok (.aload_n 1, 1) := by decide +kernel
theorem dX5_readCond_31 : decode cX5_readCond 31 = .ok (.invokevirtual 61, 3) := by decide +kernel
theorem dX5_readCond_34 : decode cX5_readCond 34 = .ok (.aload_n 0, 1) := by decide +kernel
theorem dX5_readCond_35 : decode cX5_readCond 35 = .ok (.aload_n 1, 1) := by decide +kernel
theorem dX5_readCond_36 : decode cX5_readCond 36 = .ok (.iload_n 2, 1) := by decide +kernel
theorem dX5_readCond_37 : decode cX5_readCond 37 = .ok (.invokevirtual 51, 3) := by decide +kernel
theorem dX5_readCond_40 : decode cX5_readCond 40 = .ok (.aload_n 0, 1) := by decide +kernel
theorem dX5_readCond_41 : decode cX5_readCond 41 = .ok (.bipush 15, 2) := by decide +kernel
theorem dX5_readCond_43 : decode cX5_readCond 43 = .ok (.iconst 0, 1) := by decide +kernel
theorem dX5_readCond_44 : decode cX5_readCond 44 = .ok (.iconst 0, 1) := by decide +kernel
theorem dX5_readCond_45 : decode cX5_readCond 45 = .ok (.invokevirtual 64, 3) := by decide +kernel
theorem dX5_readCond_48 : decode cX5_readCond 48 = .ok (.iinc 3 1, 3) := by decide +kernel
theorem dX5_readCond_51 : decode cX5_readCond 51 = .ok (.goto (-43), 3) := by decide +kernel
theorem dX5_readCond_54 : decode cX5_readCond 54 = .ok (.return_, 1) := by decide +kernel
theorem dX7_takeMark_0 : decode cX7_takeMark 0 = .ok (.aload_n 0, 1) := by decide +kernel
theorem dX7_takeMark_1 : decode cX7_takeMark 1 = .ok (.iconst 5, 1) := by decide +kernel
theorem dX7_takeMark_2 : decode cX7_takeMark 2 = .ok (.iload_n 1, 1) := by decide +kernel
theorem dX7_takeMark_3 : decode cX7_takeMark 3 = .ok (.invokevirtual 74, 3) := by decide +kernel
theorem dX7_takeMark_6 : decode cX7_takeMark 6 = .ok (.ifCond .eq 10, 3) := by decide +kernel
theorem dX7_takeMark_9 : decode cX7_takeMark 9 = .ok (.aload_n 0, 1) := by decide +kernel
theorem dX7_takeMark_10 : decode cX7_takeMark 10 = .ok (.invokevirtual 91, 3) := by decide +kernel
theorem dX7_takeMark_13 : decode cX7_takeMark 13 = .ok (.goto 8, 3) := by decide +kernel
theorem dX7_takeMark_16 : decode cX7_takeMark 16 = .ok (.aload_n 0, 1) := by decide +kernel
theorem dX7_takeMark_17 : decode cX7_takeMark 17 = .ok (.iconst 1, 1) := by decide +kernel
theorem dX7_takeMark_18 : decode cX7_takeMark 18 = .ok (.invokevirtual 81, 3) := by decide +kernel
theorem dX7_takeMark_21 : decode cX7_takeMark 21 = .ok (.return_, 1) := by decide +kernel
theorem dX5_readOne_0 : decode cX5_readOne 0 = .ok (.aload_n 1, 1) := by decide +kernel
theorem dX5_readOne_1 : decode cX5_readOne 1 = .ok (.iconst 5, 1) := by decide +kernel
theorem dX5_readOne_2 : decode cX5_readOne 2 = .ok (.bipush 40, 2) := by decide +kernel
theorem dX5_readOne_4 : decode cX5_readOne 4 = .ok (.invokevirtual 71, 3) := by decide +kernel
theorem dX5_readOne_7 : decode cX5_readOne 7 = .ok (.istore_n 3, 1) := by decide +kernel
theorem dX5_readOne_8 : decode cX5_readOne 8 = .ok (.aload_n 1, 1) := by decide +kernel
theorem dX5_readOne_9 : decode cX5_readOne 9 = .ok (.invokevirtual 57, 3) := by decide +kernel
theorem dX5_readOne_12 : decode cX5_readOne 12 = .ok (.istore 4, 2) := by decide +kernel
theorem dX5_readOne_14 : decode cX5_readOne 14 = .ok (.iload_n 3, 1) := by decide +kernel
theorem dX5_readOne_15 : decode cX5_readOne 15 = .ok (.ifCond .ne 25, 3) := by decide +kernel
theorem dX5_readOne_18 : decode cX5_readOne 18 = .ok (.iload 4, 2) := by decide +kernel
theorem dX5_readOne_20 : decode cX5_readOne 20 = .ok (.bipush 17, 2) := by decide +kernel
theorem dX5_readOne_22 : decode cX5_readOne 22 = .ok (.if_icmp .lt 10, 3) := by decide +kernel
theorem dX5_readOne_25 : decode cX5_readOne 25 = .ok (.iload 4, 2) := by decide +kernel
theorem dX5_readOne_27 : decode cX5_readOne 27 = .ok (.bipush 23, 2) := by decide +kernel
theorem dX5_readOne_29 : decode cX5_readOne 29 = .ok (.if_icmp .le 11, 3) := by decide +kernel
theorem dX5_readOne_32 : decode cX5_readOne 32 = .ok (.aload_n 1, 1) := by decide +kernel
theorem dX5_readOne_33 : decode cX5_readOne 33 = .ok (.iconst 1, 1) := by decide +kernel
theorem dX5_readOne_34 : decode cX5_readOne 34 = .ok (.invokevirtual 47, 3) := by decide +kernel
theorem dX5_readOne_37 : decode cX5_readOne 37 = .ok (.goto 23, 3) := by decide +kernel
theorem dX5_readOne_40 : decode cX5_readOne 40 = .ok (.aload_n 0, 1) := by decide +kernel
theorem dX5_readOne_41 : decode cX5_readOne 41 = .ok (.getfield 9, 3) := by decide +kernel
theorem dX5_readOne_44 : decode cX5_readOne 44 = .ok (.bipush 20, 2) := by decide +kernel
theorem dX5_readOne_46 : decode cX5_readOne 46 = .ok (.if_icmp .ge 9, 3) := by decide +kernel
theorem dX5_readOne_49 : decode cX5_readOne 49 = .ok (.iload_n 2, 1) := by decide +kernel
theorem dX5_readOne_50 : decode cX5_readOne 50 = .ok (.bipush 8, 2) := by decide +kernel
theorem dX5_readOne_52 : decode cX5_readOne 52 = .ok (.if_icmp .le 8, 3) := by decide +kernel
theorem dX5_readOne_55 : decode cX5_readOne 55 = .ok (.aload_n 1, 1) := by decide +kernel
theorem dX5_readOne_56 : decode cX5_readOne 56 = .ok (.iconst 4, 1) := by decide +kernel
theorem dX5_readOne_57 : decode cX5_readOne 57 = .ok (.invokevirtual 47, 3) := by decide +kernel
theorem dX5_readOne_60 : decode cX5_readOne 60 = .ok (.aload_n 1, 1) := by decide +kernel
theorem dX5_readOne_61 : decode cX5_readOne 61 = .ok (.invokevirtual 54, 3) := by decide +kernel
theorem dX5_readOne_64 : decode cX5_readOne 64 = .ok (.ifCond .eq 9, 3) := by decide +kernel
theorem dX5_readOne_67 : decode cX5_readOne 67 = .ok (.iload_n 2, 1) := by decide +kernel
theorem dX5_readOne_68 : decode cX5_readOne 68 = .ok (.bipush 8, 2) := by decide +kernel
theorem dX5_readOne_70 : decode cX5_readOne 70 = .ok (.if_icmp .le 4, 3) := by decide +kernel
theorem dX5_readOne_73 : decode cX5_readOne 73 = .ok (.return_, 1) := by decide +kernel
theorem dX5_readOne_74 : decode cX5_readOne 74 = .ok (.aload_n 0, 1) := by decide +kernel
theorem dX5_readOne_75 : decode cX5_readOne 75 = .ok (.dup, 1) := by decide +kernel
theorem dX5_readOne_76 : decode cX5_readOne 76 = .ok (.getfield 9, 3) := by decide +kernel
theorem dX5_readOne_79 : decode cX5_readOne 79 = .ok (.iconst 1, 1) := by decide +kernel
theorem dX5_readOne_80 : decode cX5_readOne 80 = .ok (.iadd, 1) := by decide +kernel
theorem dX5_readOne_81 : decode cX5_readOne 81 = .ok (.putfield 9, 3) := by decide +kernel
theorem dX5_readOne_84 : decode cX5_readOne 84 = .ok (.aload_n 1, 1) := by decide +kernel
theorem dX5_readOne_85 : decode cX5_readOne 85 = .ok (.invokevirtual 61, 3) := by decide +kernel
theorem dX5_readOne_88 : decode cX5_readOne 88 = .ok (.iload_n 3, 1) := by decide +kernel
theorem dX5_readOne_89 : decode cX5_readOne 89 = .ok (.ifCond .eq 20, 3) := by decide +kernel
theorem dX5_readOne_92 : decode cX5_readOne 92 = .ok (.aload_n 0, 1) := by decide +kernel
theorem dX5_readOne_93 : decode cX5_readOne 93 = .ok (.aload_n 1, 1) := by decide +kernel
theorem dX5_readOne_94 : decode cX5_readOne 94 = .ok (.iload_n 2, 1) := by decide +kernel
theorem dX5_readOne_95 : decode cX5_readOne 95 = .ok (.iconst 1, 1) := by decide +kernel
theorem dX5_readOne_96 : decode cX5_readOne 96 = .ok (.iadd, 1) := by decide +kernel
theorem dX5_readOne_97 : decode cX5_readOne 97 = .ok (.invokevirtual 37, 3) := by decide +kernel
theorem dX5_readOne_100 : decode cX5_readOne 100 = .ok (.aload_n 1, 1) := by decide +kernel
theorem dX5_readOne_101 : decode cX5_readOne 101 = .ok (.bipush 41, 2) := by decide +kernel
theorem dX5_readOne_103 : decode cX5_readOne 103 = .ok (.invokevirtual 75, 3) := by decide +kernel
theorem dX5_readOne_106 : decode cX5_readOne 106 = .ok (.goto 69, 3) := by decide +kernel
theorem dX5_readOne_109 : decode cX5_readOne 109 = .ok (.iload 4, 2) := by decide +kernel
theorem dX5_readOne_111 : decode cX5_readOne 111 = .ok (.bipush 17, 2) := by decide +kernel
theorem dX5_readOne_113 : decode cX5_readOne 113 = .ok (.if_icmp .ne 22, 3) := by decide +kernel
theorem dX5_readOne_116 : decode cX5_readOne 116 = .ok (.aload_n 0, 1) := by decide +kernel
theorem dX5_readOne_117 : decode cX5_readOne 117 = .ok (.aload_n 1, 1) := by decide +kernel
theorem dX5_readOne_118 : decode cX5_readOne 118 = .ok (.iload_n 2, 1) := by decide +kernel
theorem dX5_readOne_119 : decode cX5_readOne 119 = .ok (.iconst 1, 1) := by decide +kernel
theorem dX5_readOne_120 : decode cX5_readOne 120 = .ok (.iadd, 1) := by decide +kernel
theorem dX5_readOne_121 : decode cX5_readOne 121 = .ok (.invokevirtual 68, 3) := by decide +kernel
theorem dX5_readOne_124 : decode cX5_readOne 124 = .ok (.aload_n 0, 1) := by decide +kernel
theorem dX5_readOne_125 : decode cX5_readOne 125 = .ok (.bipush 17, 2) := by decide +kernel
theorem dX5_readOne_127 : decode cX5_readOne 127 = .ok (.iconst 0, 1) := by decide +kernel
theorem dX5_readOne_128 : decode cX5_readOne 128 = .ok (.iconst 0, 1) := by decide +kernel
theorem dX5_readOne_129 : decode cX5_readOne 129 = .ok (.invokevirtual 64, 3) := by decide +kernel
theorem dX5_readOne_132 : decode cX5_readOne 132 = .ok (.goto 43, 3) := by decide +kernel
theorem dX5_readOne_135 : decode cX5_readOne 135 = .ok (.iload 4, 2) := by decide +kernel
theorem dX5_readOne_137 : decode cX5_readOne 137 = .ok (.bipush 18, 2) := by decide +kernel
theorem dX5_readOne_139 : decode cX5_readOne 139 = .ok (.if_icmp .ne 14, 3) := by decide +kernel
theorem dX5_readOne_142 : decode cX5_readOne 142 = .ok (.aload_n 0, 1) := by decide +kernel
theorem dX5_readOne_143 : decode cX5_readOne 143 = .ok (.bipush 18, 2) := by decide +kernel
theorem dX5_readOne_145 : decode cX5_readOne 145 = .ok (.iconst 0, 1) := by decide +kernel
theorem dX5_readOne_146 : decode cX5_readOne 146 = .ok (.iconst 0, 1) := by decide +kernel
theorem dX5_readOne_147 : decode cX5_readOne 147 = .ok (.invokevirtual 64, 3) := by decide +kernel
theorem dX5_readOne_150 : decode cX5_readOne 150 = .ok (.goto 25, 3) := by decide +kernel
theorem dX5_readOne_153 : decode cX5_readOne 153 = .ok (.aload_n 1, 1) := by decide +kernel
theorem dX5_readOne_154 : decode cX5_readOne 154 = .ok (.invokestatic 79, 3) := by decide +kernel
theorem dX5_readOne_157 : decode cX5_readOne 157 = .ok (.istore 5, 2) := by decide +kernel
theorem dX5_readOne_159 : decode cX5_readOne 159 = .ok (.aload_n 0, 1) := by decide +kernel
theorem dX5_readOne_160 : decode cX5_readOne 160 = .ok (.iload 4, 2) := by decide +kernel
theorem dX5_readOne_162 : decode cX5_readOne 162 = .ok (.iload 5, 2) := by decide +kernel
theorem dX5_readOne_164 : decode cX5_readOne 164 = .ok (.aload_n 1, 1) := by decide +kernel
theorem dX5_readOne_165 : decode cX5_readOne 165 = .ok (.iconst 0, 1) := by decide +kernel
theorem dX5_readOne_166 : decode cX5_readOne 166 = .ok (.sipush 999, 3) := by decide +kernel
theorem dX5_readOne_169 : decode cX5_readOne 169 = .ok (.invokevirtual 83, 3) := by decide +kernel
theorem dX5_readOne_172 : decode cX5_readOne 172 = .ok (.invokevirtual 64, 3) := by decide +kernel
theorem dX5_readOne_175 : decode cX5_readOne 175 = .ok (.return_, 1) := by decide +kernel
theorem dX10_putFour_0 : decode cX10_putFour 0 = .ok (.bipush 24, 2) := by decide +kernel
theorem dX10_putFour_2 : decode cX10_putFour 2 = .ok (.istore_n 2, 1) := by decide +kernel
theorem dX10_putFour_3 : decode cX10_putFour 3 = .ok (.iload_n 2, 1) := by decide +kernel
theorem dX10_putFour_4 : decode cX10_putFour 4 = .ok (.ifCond .lt 42, 3) := by decide +kernel
theorem dX10_putFour_7 : decode cX10_putFour 7 = .ok (.aload_n 0, 1) := by decide +kernel
theorem dX10_putFour_8 : decode cX10_putFour 8 = .ok (.getfield 13, 3) := by decide +kernel
theorem dX10_putFour_11 : decode cX10_putFour 11 = .ok (.sipush 940, 3) := by decide +kernel
theorem dX10_putFour_14 : decode cX10_putFour 14 = .ok (.if_icmp .ge 26, 3) := by decide +kernel
theorem dX10_putFour_17 : decode cX10_putFour 17 = .ok (.aload_n 0, 1) := by decide +kernel
theorem dX10_putFour_18 : decode cX10_putFour 18 = .ok (.getfield 9, 3) := by decide +kernel
theorem dX10_putFour_21 : decode cX10_putFour 21 = .ok (.aload_n 0, 1) := by decide +kernel
theorem dX10_putFour_22 : decode cX10_putFour 22 = .ok (.getfield 13, 3) := by decide +kernel
theorem dX10_putFour_25 : decode cX10_putFour 25 = .ok (.iload_n 1, 1) := by decide +kernel
theorem dX10_putFour_26 : decode cX10_putFour 26 = .ok (.iload_n 2, 1) := by decide +kernel
theorem dX10_putFour_27 : decode cX10_putFour 27 = .ok (.iushr, 1) := by decide +kernel
theorem dX10_putFour_28 : decode cX10_putFour 28 = .ok (.i2b, 1) := by decide +kernel
theorem dX10_putFour_29 : decode cX10_putFour 29 = .ok (.bastore, 1) := by decide +kernel
theorem dX10_putFour_30 : decode cX10_putFour 30 = .ok (.aload_n 0, 1) := by decide +kernel
theorem dX10_putFour_31 : decode cX10_putFour 31 = .ok (.dup, 1) := by decide +kernel
theorem dX10_putFour_32 : decode cX10_putFour 32 = .ok (.getfield 13, 3) := by decide +kernel
theorem dX10_putFour_35 : decode cX10_putFour 35 = .ok (.iconst 1, 1) := by decide +kernel
theorem dX10_putFour_36 : decode cX10_putFour 36 = .ok (.iadd, 1) := by decide +kernel
theorem dX10_putFour_37 : decode cX10_putFour 37 = .ok (.putfield 13, 3) := by decide +kernel
theorem dX10_putFour_40 : decode cX10_putFour 40 = .ok (.iinc 2 (-8), 3) := by decide +kernel
theorem dX10_putFour_43 : decode cX10_putFour 43 = .ok (.goto (-40), 3) := by decide +kernel
theorem dX10_putFour_46 : decode cX10_putFour 46 = .ok (.return_, 1) := by decide +kernel
theorem dX10_feed_0 : decode cX10_feed 0 = .ok (.aload_n 0, 1) := by decide +kernel
theorem dX10_feed_1 : decode cX10_feed 1 = .ok (.getfield 13, 3) := by decide +kernel
theorem dX10_feed_4 : decode cX10_feed 4 = .ok (.sipush 920, 3) := by decide +kernel
theorem dX10_feed_7 : decode cX10_feed 7 = .ok (.if_icmp .le 5, 3) := by decide +kernel
theorem dX10_feed_10 : decode cX10_feed 10 = .ok (.iconst (-1), 1) := by decide +kernel
theorem dX10_feed_11 : decode cX10_feed 11 = .ok (.ireturn, 1) := by decide +kernel
theorem dX10_feed_12 : decode cX10_feed 12 = .ok (.aload_n 0, 1) := by decide +kernel
theorem dX10_feed_13 : decode cX10_feed 13 = .ok (.iload_n 1, 1) := by decide +kernel
theorem dX10_feed_14 : decode cX10_feed 14 = .ok (.invokevirtual 103, 3) := by decide +kernel
theorem dX10_feed_17 : decode cX10_feed 17 = .ok (.aload_n 0, 1) := by decide +kernel
theorem dX10_feed_18 : decode cX10_feed 18 = .ok (.iload_n 2, 1) := by decide +kernel
theorem dX10_feed_19 : decode cX10_feed 19 = .ok (.invokevirtual 103, 3) := by decide +kernel
theorem dX10_feed_22 : decode cX10_feed 22 = .ok (.aload_n 0, 1) := by decide +kernel
theorem dX10_feed_23 : decode cX10_feed 23 = .ok (.iload_n 3, 1) := by decide +kernel
theorem dX10_feed_24 : decode cX10_feed 24 = .ok (.invokevirtual 103, 3) := by decide +kernel
theorem dX10_feed_27 : decode cX10_feed 27 = .ok (.aload_n 0, 1) := by decide +kernel
theorem dX10_feed_28 : decode cX10_feed 28 = .ok (.iload 4, 2) := by decide +kernel
theorem dX10_feed_30 : decode cX10_feed 30 = .ok (.invokevirtual 103, 3) := by decide +kernel
theorem dX10_feed_33 : decode cX10_feed 33 = .ok (.aload_n 0, 1) := by decide +kernel
theorem dX10_feed_34 : decode cX10_feed 34 = .ok (.iload 5, 2) := by decide +kernel
theorem dX10_feed_36 : decode cX10_feed 36 = .ok (.invokevirtual 103, 3) := by decide +kernel
theorem dX10_feed_39 : decode cX10_feed 39 = .ok (.aload_n 0, 1) := by decide +kernel
theorem dX10_feed_40 : decode cX10_feed 40 = .ok (.getfield 13, 3) := by decide +kernel
theorem dX10_feed_43 : decode cX10_feed 43 = .ok (.ireturn, 1) := by decide +kernel
theorem dX10_end_0 : decode cX10_end 0 = .ok (.iload_n 1, 1) := by decide +kernel
theorem dX10_end_1 : decode cX10_end 1 = .ok (.ifCond .lt 11, 3) := by decide +kernel
theorem dX10_end_4 : decode cX10_end 4 = .ok (.iload_n 1, 1) := by decide +kernel
theorem dX10_end_5 : decode cX10_end 5 = .ok (.aload_n 0, 1) := by decide +kernel
theorem dX10_end_6 : decode cX10_end 6 = .ok (.getfield 13, 3) := by decide +kernel
theorem dX10_end_9 : decode cX10_end 9 = .ok (.if_icmp .le 5, 3) := by decide +kernel
theorem dX10_end_12 : decode cX10_end 12 = .ok (.iconst 0, 1) := by decide +kernel
theorem dX10_end_13 : decode cX10_end 13 = .ok (.ireturn, 1) := by decide +kernel
theorem dX10_end_14 : decode cX10_end 14 = .ok (.aload_n 0, 1) := by decide +kernel
theorem dX10_end_15 : decode cX10_end 15 = .ok (.iload_n 1, 1) := by decide +kernel
theorem dX10_end_16 : decode cX10_end 16 = .ok (.putfield 13, 3) := by decide +kernel
theorem dX10_end_19 : decode cX10_end 19 = .ok (.iconst 1, 1) := by decide +kernel
theorem dX10_end_20 : decode cX10_end 20 = .ok (.ireturn, 1) := by decide +kernel
theorem dX7_isLetter_0 : decode cX7_isLetter 0 = .ok (.iload_n 0, 1) := by decide +kernel
theorem dX7_isLetter_1 : decode cX7_isLetter 1 = .ok (.bipush 97, 2) := by decide +kernel
theorem dX7_isLetter_3 : decode cX7_isLetter 3 = .ok (.if_icmp .lt 13, 3) := by decide +kernel
theorem dX7_isLetter_6 : decode cX7_isLetter 6 = .ok (.iload_n 0, 1) := by decide +kernel
theorem dX7_isLetter_7 : decode cX7_isLetter 7 = .ok (.bipush 122, 2) := by decide +kernel
theorem dX7_isLetter_9 : decode cX7_isLetter 9 = .ok (.if_icmp .gt 7, 3) := by decide +kernel
theorem dX7_isLetter_12 : decode cX7_isLetter 12 = .ok (.iconst 1, 1) := by decide +kernel
theorem dX7_isLetter_13 : decode cX7_isLetter 13 = .ok (.goto 4, 3) := by decide +kernel
theorem dX7_isLetter_16 : decode cX7_isLetter 16 = .ok (.iconst 0, 1) := by decide +kernel
theorem dX7_isLetter_17 : decode cX7_isLetter 17 = .ok (.ireturn, 1) := by decide +kernel
theorem dX7_isDigit_0 : decode cX7_isDigit 0 = .ok (.iload_n 0, 1) := by decide +kernel
theorem dX7_isDigit_1 : decode cX7_isDigit 1 = .ok (.bipush 48, 2) := by decide +kernel
theorem dX7_isDigit_3 : decode cX7_isDigit 3 = .ok (.if_icmp .lt 13, 3) := by decide +kernel
theorem dX7_isDigit_6 : decode cX7_isDigit 6 = .ok (.iload_n 0, 1) := by decide +kernel
theorem dX7_isDigit_7 : decode cX7_isDigit 7 = .ok (.bipush 57, 2) := by decide +kernel
theorem dX7_isDigit_9 : decode cX7_isDigit 9 = .ok (.if_icmp .gt 7, 3) := by decide +kernel
theorem dX7_isDigit_12 : decode cX7_isDigit 12 = .ok (.iconst 1, 1) := by decide +kernel
theorem dX7_isDigit_13 : decode cX7_isDigit 13 = .ok (.goto 4, 3) := by decide +kernel
theorem dX7_isDigit_16 : decode cX7_isDigit 16 = .ok (.iconst 0, 1) := by decide +kernel
theorem dX7_isDigit_17 : decode cX7_isDigit 17 = .ok (.ireturn, 1) := by decide +kernel
theorem dX7_isMark_0 : decode cX7_isMark 0 = .ok (.iload_n 0, 1) := by decide +kernel
theorem dX7_isMark_1 : decode cX7_isMark 1 = .ok (.bipush 59, 2) := by decide +kernel
theorem dX7_isMark_3 : decode cX7_isMark 3 = .ok (.if_icmp .eq 33, 3) := by decide +kernel
theorem dX7_isMark_6 : decode cX7_isMark 6 = .ok (.iload_n 0, 1) := by decide +kernel
theorem dX7_isMark_7 : decode cX7_isMark 7 = .ok (.bipush 60, 2) := by decide +kernel
theorem dX7_isMark_9 : decode cX7_isMark 9 = .ok (.if_icmp .eq 27, 3) := by decide +kernel
theorem dX7_isMark_12 : decode cX7_isMark 12 = .ok (.iload_n 0, 1) := by decide +kernel
theorem dX7_isMark_13 : decode cX7_isMark 13 = .ok (.bipush 61, 2) := by decide +kernel
theorem dX7_isMark_15 : decode cX7_isMark 15 = .ok (.if_icmp .eq 21, 3) := by decide +kernel
theorem dX7_isMark_18 : decode cX7_isMark 18 = .ok (.iload_n 0, 1) := by decide +kernel
theorem dX7_isMark_19 : decode cX7_isMark 19 = .ok (.bipush 62, 2) := by decide +kernel
theorem dX7_isMark_21 : decode cX7_isMark 21 = .ok (.if_icmp .eq 15, 3) := by decide +kernel
theorem dX7_isMark_24 : decode cX7_isMark 24 = .ok (.iload_n 0, 1) := by decide +kernel
theorem dX7_isMark_25 : decode cX7_isMark 25 = .ok (.bipush 40, 2) := by decide +kernel
theorem dX7_isMark_27 : decode cX7_isMark 27 = .ok (.if_icmp .eq 9, 3) := by decide +kernel
theorem dX7_isMark_30 : decode cX7_isMark 30 = .ok (.iload_n 0, 1) := by decide +kernel
theorem dX7_isMark_31 : decode cX7_isMark 31 = .ok (.bipush 41, 2) := by decide +kernel
theorem dX7_isMark_33 : decode cX7_isMark 33 = .ok (.if_icmp .ne 7, 3) := by decide +kernel
theorem dX7_isMark_36 : decode cX7_isMark 36 = .ok (.iconst 1, 1) := by decide +kernel
theorem dX7_isMark_37 : decode cX7_isMark 37 = .ok (.goto 4, 3) := by decide +kernel
theorem dX7_isMark_40 : decode cX7_isMark 40 = .ok (.iconst 0, 1) := by decide +kernel
theorem dX7_isMark_41 : decode cX7_isMark 41 = .ok (.ireturn, 1) := by decide +kernel
theorem dX7_add_0 : decode cX7_add 0 = .ok (.aload_n 0, 1) := by decide +kernel
theorem dX7_add_1 : decode cX7_add 1 = .ok (.getfield 21, 3) := by decide +kernel
theorem dX7_add_4 : decode cX7_add 4 = .ok (.aload_n 0, 1) := by decide +kernel
theorem dX7_add_5 : decode cX7_add 5 = .ok (.getfield 9, 3) := by decide +kernel
theorem dX7_add_8 : decode cX7_add 8 = .ok (.arraylength, 1) := by decide +kernel
theorem dX7_add_9 : decode cX7_add 9 = .ok (.if_icmp .ge 43, 3) := by decide +kernel
theorem dX7_add_12 : decode cX7_add 12 = .ok (.aload_n 0, 1) := by decide +kernel
theorem dX7_add_13 : decode cX7_add 13 = .ok (.getfield 9, 3) := by decide +kernel
theorem dX7_add_16 : decode cX7_add 16 = .ok (.aload_n 0, 1) := by decide +kernel
theorem dX7_add_17 : decode cX7_add 17 = .ok (.getfield 21, 3) := by decide +kernel
theorem dX7_add_20 : decode cX7_add 20 = .ok (.iload_n 1, 1) := by decide +kernel
theorem dX7_add_21 : decode cX7_add 21 = .ok (.iastore, 1) := by decide +kernel
theorem dX7_add_22 : decode cX7_add 22 = .ok (.aload_n 0, 1) := by decide +kernel
theorem dX7_add_23 : decode cX7_add 23 = .ok (.getfield 15, 3) := by decide +kernel
theorem dX7_add_26 : decode cX7_add 26 = .ok (.aload_n 0, 1) := by decide +kernel
theorem dX7_add_27 : decode cX7_add 27 = .ok (.getfield 21, 3) := by decide +kernel
theorem dX7_add_30 : decode cX7_add 30 = .ok (.iload_n 2, 1) := by decide +kernel
theorem dX7_add_31 : decode cX7_add 31 = .ok (.iastore, 1) := by decide +kernel
theorem dX7_add_32 : decode cX7_add 32 = .ok (.aload_n 0, 1) := by decide +kernel
theorem dX7_add_33 : decode cX7_add 33 = .ok (.getfield 18, 3) := by decide +kernel
theorem dX7_add_36 : decode cX7_add 36 = .ok (.aload_n 0, 1) := by decide +kernel
theorem dX7_add_37 : decode cX7_add 37 = .ok (.getfield 21, 3) := by decide +kernel
theorem dX7_add_40 : decode cX7_add 40 = .ok (.iload_n 3, 1) := by decide +kernel
theorem dX7_add_41 : decode cX7_add 41 = .ok (.iastore, 1) := by decide +kernel
theorem dX7_add_42 : decode cX7_add 42 = .ok (.aload_n 0, 1) := by decide +kernel
theorem dX7_add_43 : decode cX7_add 43 = .ok (.dup, 1) := by decide +kernel
theorem dX7_add_44 : decode cX7_add 44 = .ok (.getfield 21, 3) := by decide +kernel
theorem dX7_add_47 : decode cX7_add 47 = .ok (.iconst 1, 1) := by decide +kernel
theorem dX7_add_48 : decode cX7_add 48 = .ok (.iadd, 1) := by decide +kernel
theorem dX7_add_49 : decode cX7_add 49 = .ok (.putfield 21, 3) := by decide +kernel
theorem dX7_add_52 : decode cX7_add 52 = .ok (.return_, 1) := by decide +kernel
theorem dX7_splitRun_0 : decode cX7_splitRun 0 = .ok (.iload_n 2, 1) := by decide +kernel
theorem dX7_splitRun_1 : decode cX7_splitRun 1 = .ok (.istore 4, 2) := by decide +kernel
theorem dX7_splitRun_3 : decode cX7_splitRun 3 = .ok (.iconst 0, 1) := by decide +kernel
theorem dX7_splitRun_4 : decode cX7_splitRun 4 = .ok (.istore 5, 2) := by decide +kernel
theorem dX7_splitRun_6 : decode cX7_splitRun 6 = .ok (.iconst 0, 1) := by decide +kernel
theorem dX7_splitRun_7 : decode cX7_splitRun 7 = .ok (.istore 6, 2) := by decide +kernel
theorem dX7_splitRun_9 : decode cX7_splitRun 9 = .ok (.iconst 0, 1) := by decide +kernel
theorem dX7_splitRun_10 : decode cX7_splitRun 10 = .ok (.istore 7, 2) := by decide +kernel
theorem dX7_splitRun_12 : decode cX7_splitRun 12 = .ok (.iload 4, 2) := by decide +kernel
theorem dX7_splitRun_14 : decode cX7_splitRun 14 = .ok (.iload_n 3, 1) := by decide +kernel
theorem dX7_splitRun_15 : decode cX7_splitRun 15 = .ok (.if_icmp .ge 75, 3) := by decide +kernel
theorem dX7_splitRun_18 : decode cX7_splitRun 18 = .ok (.aload_n 1, 1) := by decide +kernel
theorem dX7_splitRun_19 : decode cX7_splitRun 19 = .ok (.iload 4, 2) := by decide +kernel
theorem dX7_splitRun_21 : decode cX7_splitRun 21 = .ok (.baload, 1) := by decide +kernel
theorem dX7_splitRun_22 : decode cX7_splitRun 22 = .ok (.invokestatic 40, 3) := by decide +kernel
theorem dX7_splitRun_25 : decode cX7_splitRun 25 = .ok (.ifCond .ne 13, 3) := by decide +kernel
theorem dX7_splitRun_28 : decode cX7_splitRun 28 = .ok (.aload_n 1, 1) := by decide +kernel
theorem dX7_splitRun_29 : decode cX7_splitRun 29 = .ok (.iload 4, 2) := by decide +kernel
theorem dX7_splitRun_31 : decode cX7_splitRun 31 = .ok (.baload, 1) := by decide +kernel
theorem dX7_splitRun_32 : decode cX7_splitRun 32 = .ok (.invokestatic 44, 3) := by decide +kernel
theorem dX7_splitRun_35 : decode cX7_splitRun 35 = .ok (.ifCond .eq 55, 3) := by decide +kernel
theorem dX7_splitRun_38 : decode cX7_splitRun 38 = .ok (.aload_n 1, 1) := by decide +kernel
theorem dX7_splitRun_39 : decode cX7_splitRun 39 = .ok (.iload 4, 2) := by decide +kernel
theorem dX7_splitRun_41 : decode cX7_splitRun 41 = .ok (.baload, 1) := by decide +kernel
theorem dX7_splitRun_42 : decode cX7_splitRun 42 = .ok (.invokestatic 40, 3) := by decide +kernel
theorem dX7_splitRun_45 : decode cX7_splitRun 45 = .ok (.ifCond .eq 24, 3) := by decide +kernel
theorem dX7_splitRun_48 : decode cX7_splitRun 48 = .ok (.iinc 5 1, 3) := by decide +kernel
theorem dX7_splitRun_51 : decode cX7_splitRun 51 = .ok (.iload 6, 2) := by decide +kernel
theorem dX7_splitRun_53 : decode cX7_splitRun 53 = .ok (.bipush 32, 2) := by decide +kernel
theorem dX7_splitRun_55 : decode cX7_splitRun 55 = .ok (.imul, 1) := by decide +kernel
theorem dX7_splitRun_56 : decode cX7_splitRun 56 = .ok (.aload_n 1, 1) := by decide +kernel
theorem dX7_splitRun_57 : decode cX7_splitRun 57 = .ok (.iload 4, 2) := by decide +kernel
theorem dX7_splitRun_59 : decode cX7_splitRun 59 = .ok (.baload, 1) := by decide +kernel
theorem dX7_splitRun_60 : decode cX7_splitRun 60 = .ok (.bipush 96, 2) := by decide +kernel
theorem dX7_splitRun_62 : decode cX7_splitRun 62 = .ok (.isub, 1) := by decide +kernel
theorem dX7_splitRun_63 : decode cX7_splitRun 63 = .ok (.iadd, 1) := by decide +kernel
theorem dX7_splitRun_64 : decode cX7_splitRun 64 = .ok (.istore 6, 2) := by decide +kernel
theorem dX7_splitRun_66 : decode cX7_splitRun 66 = .ok (.goto 18, 3) := by decide +kernel
theorem dX7_splitRun_69 : decode cX7_splitRun 69 = .ok (.iload 7, 2) := by decide +kernel
theorem dX7_splitRun_71 : decode cX7_splitRun 71 = .ok (.bipush 10, 2) := by decide +kernel
theorem dX7_splitRun_73 : decode cX7_splitRun 73 = .ok (.imul, 1) := by decide +kernel
theorem dX7_splitRun_74 : decode cX7_splitRun 74 = .ok (.aload_n 1, 1) := by decide +kernel
theorem dX7_splitRun_75 : decode cX7_splitRun 75 = .ok (.iload 4, 2) := by decide +kernel
theorem dX7_splitRun_77 : decode cX7_splitRun 77 = .ok (.baload, 1) := by decide +kernel
theorem dX7_splitRun_78 : decode cX7_splitRun 78 = .ok (.bipush 48, 2) := by decide +kernel
theorem dX7_splitRun_80 : decode cX7_splitRun 80 = .ok (.isub, 1) := by decide +kernel
theorem dX7_splitRun_81 : decode cX7_splitRun 81 = .ok (.iadd, 1) := by decide +kernel
theorem dX7_splitRun_82 : decode cX7_splitRun 82 = .ok (.istore 7, 2) := by decide +kernel
theorem dX7_splitRun_84 : decode cX7_splitRun 84 = .ok (.iinc 4 1, 3) := by decide +kernel
theorem dX7_splitRun_87 : decode cX7_splitRun 87 = .ok (.goto (-75), 3) := by decide +kernel
theorem dX7_splitRun_90 : decode cX7_splitRun 90 = .ok (.iload 4, 2) := by decide +kernel
theorem dX7_splitRun_92 : decode cX7_splitRun 92 = .ok (.iload_n 2, 1) := by decide +kernel
theorem dX7_splitRun_93 : decode cX7_splitRun 93 = .ok (.isub, 1) := by decide +kernel
theorem dX7_splitRun_94 : decode cX7_splitRun 94 = .ok (.istore 8, 2) := by decide +kernel
theorem dX7_splitRun_96 : decode cX7_splitRun 96 = .ok (.iload 5, 2) := by decide +kernel
theorem dX7_splitRun_98 : decode cX7_splitRun 98 = .ok (.iload 8, 2) := by decide +kernel
theorem dX7_splitRun_100 : decode cX7_splitRun 100 = .ok (.if_icmp .ne 49, 3) := by decide +kernel
theorem dX7_splitRun_103 : decode cX7_splitRun 103 = .ok (.iload 8, 2) := by decide +kernel
theorem dX7_splitRun_105 : decode cX7_splitRun 105 = .ok (.bipush 6, 2) := by decide +kernel
theorem dX7_splitRun_107 : decode cX7_splitRun 107 = .ok (.if_icmp .gt 42, 3) := by decide +kernel
theorem dX7_splitRun_110 : decode cX7_splitRun 110 = .ok (.iload 6, 2) := by decide +kernel
theorem dX7_splitRun_112 : decode cX7_splitRun 112 = .ok (.invokestatic 58, 3) := by decide +kernel
theorem dX7_splitRun_115 : decode cX7_splitRun 115 = .ok (.istore 9, 2) := by decide +kernel
theorem dX7_splitRun_117 : decode cX7_splitRun 117 = .ok (.aload_n 0, 1) := by decide +kernel
theorem dX7_splitRun_118 : decode cX7_splitRun 118 = .ok (.iload 9, 2) := by decide +kernel
theorem dX7_splitRun_120 : decode cX7_splitRun 120 = .ok (.iconst (-1), 1) := by decide +kernel
theorem dX7_splitRun_121 : decode cX7_splitRun 121 = .ok (.if_icmp .ne 7, 3) := by decide +kernel
theorem dX7_splitRun_124 : decode cX7_splitRun 124 = .ok (.iconst 3, 1) := by decide +kernel
theorem dX7_splitRun_125 : decode cX7_splitRun 125 = .ok (.goto 4, 3) := by decide +kernel
theorem dX7_splitRun_128 : decode cX7_splitRun 128 = .ok (.iconst 2, 1) := by decide +kernel
theorem dX7_splitRun_129 : decode cX7_splitRun 129 = .ok (.iload 9, 2) := by decide +kernel
theorem dX7_splitRun_131 : decode cX7_splitRun 131 = .ok (.iconst (-1), 1) := by decide +kernel
theorem dX7_splitRun_132 : decode cX7_splitRun 132 = .ok (.if_icmp .ne 8, 3) := by decide +kernel
theorem dX7_splitRun_135 : decode cX7_splitRun 135 = .ok (.iload 6, 2) := by decide +kernel
theorem dX7_splitRun_137 : decode cX7_splitRun 137 = .ok (.goto 5, 3) := by decide +kernel
theorem dX7_splitRun_140 : decode cX7_splitRun 140 = .ok (.iload 9, 2) := by decide +kernel
theorem dX7_splitRun_142 : decode cX7_splitRun 142 = .ok (.iload_n 2, 1) := by decide +kernel
theorem dX7_splitRun_143 : decode cX7_splitRun 143 = .ok (.invokevirtual 54, 3) := by decide +kernel
theorem dX7_splitRun_146 : decode cX7_splitRun 146 = .ok (.goto 32, 3) := by decide +kernel
theorem dX7_splitRun_149 : decode cX7_splitRun 149 = .ok (.iload 5, 2) := by decide +kernel
theorem dX7_splitRun_151 : decode cX7_splitRun 151 = .ok (.ifCond .ne 20, 3) := by decide +kernel
theorem dX7_splitRun_154 : decode cX7_splitRun 154 = .ok (.iload 8, 2) := by decide +kernel
theorem dX7_splitRun_156 : decode cX7_splitRun 156 = .ok (.iconst 3, 1) := by decide +kernel
theorem dX7_splitRun_157 : decode cX7_splitRun 157 = .ok (.if_icmp .gt 14, 3) := by decide +kernel
theorem dX7_splitRun_160 : decode cX7_splitRun 160 = .ok (.aload_n 0, 1) := by decide +kernel
theorem dX7_splitRun_161 : decode cX7_splitRun 161 = .ok (.iconst 4, 1) := by decide +kernel
theorem dX7_splitRun_162 : decode cX7_splitRun 162 = .ok (.iload 7, 2) := by decide +kernel
theorem dX7_splitRun_164 : decode cX7_splitRun 164 = .ok (.iload_n 2, 1) := by decide +kernel
theorem dX7_splitRun_165 : decode cX7_splitRun 165 = .ok (.invokevirtual 54, 3) := by decide +kernel
theorem dX7_splitRun_168 : decode cX7_splitRun 168 = .ok (.goto 10, 3) := by decide +kernel
theorem dX7_splitRun_171 : decode cX7_splitRun 171 = .ok (.aload_n 0, 1) := by decide +kernel
theorem dX7_splitRun_172 : decode cX7_splitRun 172 = .ok (.iconst 1, 1) := by decide +kernel
theorem dX7_splitRun_173 : decode cX7_splitRun 173 = .ok (.iconst 0, 1) := by decide +kernel
theorem dX7_splitRun_174 : decode cX7_splitRun 174 = .ok (.iload_n 2, 1) := by decide +kernel
theorem dX7_splitRun_175 : decode cX7_splitRun 175 = .ok (.invokevirtual 54, 3) := by decide +kernel
theorem dX7_splitRun_178 : decode cX7_splitRun 178 = .ok (.iload 4, 2) := by decide +kernel
theorem dX7_splitRun_180 : decode cX7_splitRun 180 = .ok (.ireturn, 1) := by decide +kernel
theorem dX7_split_0 : decode cX7_split 0 = .ok (.aload_n 0, 1) := by decide +kernel
theorem dX7_split_1 : decode cX7_split 1 = .ok (.iconst 0, 1) := by decide +kernel
theorem dX7_split_2 : decode cX7_split 2 = .ok (.putfield 21, 3) := by decide +kernel
theorem dX7_split_5 : decode cX7_split 5 = .ok (.aload_n 0, 1) := by decide +kernel
theorem dX7_split_6 : decode cX7_split 6 = .ok (.iconst 0, 1) := by decide +kernel
theorem dX7_split_7 : decode cX7_split 7 = .ok (.putfield 25, 3) := by decide +kernel
theorem dX7_split_10 : decode cX7_split 10 = .ok (.aload_n 0, 1) := by decide +kernel
theorem dX7_split_11 : decode cX7_split 11 = .ok (.iconst 0, 1) := by decide +kernel
theorem dX7_split_12 : decode cX7_split 12 = .ok (.putfield 28, 3) := by decide +kernel
theorem dX7_split_15 : decode cX7_split 15 = .ok (.aload_n 0, 1) := by decide +kernel
theorem dX7_split_16 : decode cX7_split 16 = .ok (.iconst 0, 1) := by decide +kernel
theorem dX7_split_17 : decode cX7_split 17 = .ok (.putfield 31, 3) := by decide +kernel
theorem dX7_split_20 : decode cX7_split 20 = .ok (.iload_n 2, 1) := by decide +kernel
theorem dX7_split_21 : decode cX7_split 21 = .ok (.iload_n 3, 1) := by decide +kernel
theorem dX7_split_22 : decode cX7_split 22 = .ok (.invokestatic 34, 3) := by decide +kernel
theorem dX7_split_25 : decode cX7_split 25 = .ok (.istore 4, 2) := by decide +kernel
theorem dX7_split_27 : decode cX7_split 27 = .ok (.iconst 0, 1) := by decide +kernel
theorem dX7_split_28 : decode cX7_split 28 = .ok (.istore 5, 2) := by decide +kernel
theorem dX7_split_30 : decode cX7_split 30 = .ok (.iconst 0, 1) := by decide +kernel
theorem dX7_split_31 : decode cX7_split 31 = .ok (.istore 6, 2) := by decide +kernel
theorem dX7_split_33 : decode cX7_split 33 = .ok (.iload 6, 2) := by decide +kernel
theorem dX7_split_35 : decode cX7_split 35 = .ok (.sipush 940, 3) := by decide +kernel
theorem dX7_split_38 : decode cX7_split 38 = .ok (.if_icmp .ge 95, 3) := by decide +kernel
theorem dX7_split_41 : decode cX7_split 41 = .ok (.iload 5, 2) := by decide +kernel
theorem dX7_split_43 : decode cX7_split 43 = .ok (.iload 4, 2) := by decide +kernel
theorem dX7_split_45 : decode cX7_split 45 = .ok (.if_icmp .ge 88, 3) := by decide +kernel
theorem dX7_split_48 : decode cX7_split 48 = .ok (.aload_n 1, 1) := by decide +kernel
theorem dX7_split_49 : decode cX7_split 49 = .ok (.iload 5, 2) := by decide +kernel
theorem dX7_split_51 : decode cX7_split 51 = .ok (.baload, 1) := by decide +kernel
theorem dX7_split_52 : decode cX7_split 52 = .ok (.istore 7, 2) := by decide +kernel
theorem dX7_split_54 : decode cX7_split 54 = .ok (.iload 7, 2) := by decide +kernel
theorem dX7_split_56 : decode cX7_split 56 = .ok (.bipush 32, 2) := by decide +kernel
theorem dX7_split_58 : decode cX7_split 58 = .ok (.if_icmp .eq 10, 3) := by decide +kernel
theorem dX7_split_61 : decode cX7_split 61 = .ok (.iload 7, 2) := by decide +kernel
theorem dX7_split_63 : decode cX7_split 63 = .ok (.bipush 10, 2) := by decide +kernel
theorem dX7_split_65 : decode cX7_split 65 = .ok (.if_icmp .ne 9, 3) := by decide +kernel
theorem dX7_split_68 : decode cX7_split 68 = .ok (.iinc 5 1, 3) := by decide +kernel
theorem dX7_split_71 : decode cX7_split 71 = .ok (.goto 56, 3) := by decide +kernel
theorem dX7_split_74 : decode cX7_split 74 = .ok (.iload 7, 2) := by decide +kernel
theorem dX7_split_76 : decode cX7_split 76 = .ok (.invokestatic 40, 3) := by decide +kernel
theorem dX7_split_79 : decode cX7_split 79 = .ok (.ifCond .ne 11, 3) := by decide +kernel
theorem dX7_split_82 : decode cX7_split 82 = .ok (.iload 7, 2) := by decide +kernel
theorem dX7_split_84 : decode cX7_split 84 = .ok (.invokestatic 44, 3) := by decide +kernel
theorem dX7_split_87 : decode cX7_split 87 = .ok (.ifCond .eq 16, 3) := by decide +kernel
theorem dX7_split_90 : decode cX7_split 90 = .ok (.aload_n 0, 1) := by decide +kernel
theorem dX7_split_91 : decode cX7_split 91 = .ok (.aload_n 1, 1) := by decide +kernel
theorem dX7_split_92 : decode cX7_split 92 = .ok (.iload 5, 2) := by decide +kernel
theorem dX7_split_94 : decode cX7_split 94 = .ok (.iload_n 2, 1) := by decide +kernel
theorem dX7_split_95 : decode cX7_split 95 = .ok (.invokevirtual 47, 3) := by decide +kernel
theorem dX7_split_98 : decode cX7_split 98 = .ok (.istore 5, 2) := by decide +kernel
theorem dX7_split_100 : decode cX7_split 100 = .ok (.goto 27, 3) := by decide +kernel
theorem dX7_split_103 : decode cX7_split 103 = .ok (.aload_n 0, 1) := by decide +kernel
theorem dX7_split_104 : decode cX7_split 104 = .ok (.iload 7, 2) := by decide +kernel
theorem dX7_split_106 : decode cX7_split 106 = .ok (.invokestatic 51, 3) := by decide +kernel
theorem dX7_split_109 : decode cX7_split 109 = .ok (.ifCond .eq 7, 3) := by decide +kernel
theorem dX7_split_112 : decode cX7_split 112 = .ok (.iconst 5, 1) := by decide +kernel
theorem dX7_split_113 : decode cX7_split 113 = .ok (.goto 4, 3) := by decide +kernel
theorem dX7_split_116 : decode cX7_split 116 = .ok (.iconst 1, 1) := by decide +kernel
theorem dX7_split_117 : decode cX7_split 117 = .ok (.iload 7, 2) := by decide +kernel
theorem dX7_split_119 : decode cX7_split 119 = .ok (.iload 5, 2) := by decide +kernel
theorem dX7_split_121 : decode cX7_split 121 = .ok (.invokevirtual 54, 3) := by decide +kernel
theorem dX7_split_124 : decode cX7_split 124 = .ok (.iinc 5 1, 3) := by decide +kernel
theorem dX7_split_127 : decode cX7_split 127 = .ok (.iinc 6 1, 3) := by decide +kernel
theorem dX7_split_130 : decode cX7_split 130 = .ok (.goto (-97), 3) := by decide +kernel
theorem dX7_split_133 : decode cX7_split 133 = .ok (.aload_n 0, 1) := by decide +kernel
theorem dX7_split_134 : decode cX7_split 134 = .ok (.iload_n 2, 1) := by decide +kernel
theorem dX7_split_135 : decode cX7_split 135 = .ok (.iload_n 3, 1) := by decide +kernel
theorem dX7_split_136 : decode cX7_split 136 = .ok (.if_icmp .le 7, 3) := by decide +kernel
theorem dX7_split_139 : decode cX7_split 139 = .ok (.iconst 1, 1) := by decide +kernel
theorem dX7_split_140 : decode cX7_split 140 = .ok (.goto 4, 3) := by decide +kernel
theorem dX7_split_143 : decode cX7_split 143 = .ok (.iconst 0, 1) := by decide +kernel
theorem dX7_split_144 : decode cX7_split 144 = .ok (.iconst 0, 1) := by decide +kernel
theorem dX7_split_145 : decode cX7_split 145 = .ok (.iload 4, 2) := by decide +kernel
theorem dX7_split_147 : decode cX7_split 147 = .ok (.invokevirtual 54, 3) := by decide +kernel
theorem dX7_split_150 : decode cX7_split 150 = .ok (.return_, 1) := by decide +kernel
theorem dX10_splitTape_0 : decode cX10_splitTape 0 = .ok (.aload_n 0, 1) := by decide +kernel
theorem dX10_splitTape_1 : decode cX10_splitTape 1 = .ok (.getfield 20, 3) := by decide +kernel
theorem dX10_splitTape_4 : decode cX10_splitTape 4 = .ok (.aload_n 0, 1) := by decide +kernel
theorem dX10_splitTape_5 : decode cX10_splitTape 5 = .ok (.getfield 9, 3) := by decide +kernel
theorem dX10_splitTape_8 : decode cX10_splitTape 8 = .ok (.aload_n 0, 1) := by decide +kernel
theorem dX10_splitTape_9 : decode cX10_splitTape 9 = .ok (.getfield 13, 3) := by decide +kernel
theorem dX10_splitTape_12 : decode cX10_splitTape 12 = .ok (.iload_n 1, 1) := by decide +kernel
theorem dX10_splitTape_13 : decode cX10_splitTape 13 = .ok (.invokevirtual 107, 3) := by decide +kernel
theorem dX10_splitTape_16 : decode cX10_splitTape 16 = .ok (.aload_n 0, 1) := by decide +kernel
theorem dX10_splitTape_17 : decode cX10_splitTape 17 = .ok (.iconst 0, 1) := by decide +kernel
theorem dX10_splitTape_18 : decode cX10_splitTape 18 = .ok (.putfield 13, 3) := by decide +kernel
theorem dX10_splitTape_21 : decode cX10_splitTape 21 = .ok (.return_, 1) := by decide +kernel
theorem dX1_clear_0 : decode cX1_clear 0 = .ok (.aload_n 0, 1) := by decide +kernel
theorem dX1_clear_1 : decode cX1_clear 1 = .ok (.iconst 0, 1) := by decide +kernel
theorem dX1_clear_2 : decode cX1_clear 2 = .ok (.putfield 9, 3) := by decide +kernel
theorem dX1_clear_5 : decode cX1_clear 5 = .ok (.aload_n 0, 1) := by decide +kernel
theorem dX1_clear_6 : decode cX1_clear 6 = .ok (.iconst 0, 1) := by decide +kernel
theorem dX1_clear_7 : decode cX1_clear 7 = .ok (.putfield 15, 3) := by decide +kernel
theorem dX1_clear_10 : decode cX1_clear 10 = .ok (.iconst 0, 1) := by decide +kernel
theorem dX1_clear_11 : decode cX1_clear 11 = .ok (.istore_n 1, 1) := by decide +kernel
theorem dX1_clear_12 : decode cX1_clear 12 = .ok (.iload_n 1, 1) := by decide +kernel
theorem dX1_clear_13 : decode cX1_clear 13 = .ok (.bipush 8, 2) := by decide +kernel
theorem dX1_clear_15 : decode cX1_clear 15 = .ok (.if_icmp .ge 44, 3) := by decide +kernel
theorem dX1_clear_18 : decode cX1_clear 18 = .ok (.aload_n 0, 1) := by decide +kernel
theorem dX1_clear_19 : decode cX1_clear 19 = .ok (.getfield 25, 3) := by decide +kernel
theorem dX1_clear_22 : decode cX1_clear 22 = .ok (.iload_n 1, 1) := by decide +kernel
theorem dX1_clear_23 : decode cX1_clear 23 = .ok (.iconst 0, 1) := by decide +kernel
theorem dX1_clear_24 : decode cX1_clear 24 = .ok (.iastore, 1) := by decide +kernel
theorem dX1_clear_25 : decode cX1_clear 25 = .ok (.aload_n 0, 1) := by decide +kernel
theorem dX1_clear_26 : decode cX1_clear 26 = .ok (.getfield 31, 3) := by decide +kernel
theorem dX1_clear_29 : decode cX1_clear 29 = .ok (.iload_n 1, 1) := by decide +kernel
theorem dX1_clear_30 : decode cX1_clear 30 = .ok (.iconst 0, 1) := by decide +kernel
theorem dX1_clear_31 : decode cX1_clear 31 = .ok (.iastore, 1) := by decide +kernel
theorem dX1_clear_32 : decode cX1_clear 32 = .ok (.aload_n 0, 1) := by decide +kernel
theorem dX1_clear_33 : decode cX1_clear 33 = .ok (.getfield 34, 3) := by decide +kernel
theorem dX1_clear_36 : decode cX1_clear 36 = .ok (.iload_n 1, 1) := by decide +kernel
theorem dX1_clear_37 : decode cX1_clear 37 = .ok (.iconst 0, 1) := by decide +kernel
theorem dX1_clear_38 : decode cX1_clear 38 = .ok (.iastore, 1) := by decide +kernel
theorem dX1_clear_39 : decode cX1_clear 39 = .ok (.aload_n 0, 1) := by decide +kernel
theorem dX1_clear_40 : decode cX1_clear 40 = .ok (.getfield 37, 3) := by decide +kernel
theorem dX1_clear_43 : decode cX1_clear 43 = .ok (.iload_n 1, 1) := by decide +kernel
theorem dX1_clear_44 : decode cX1_clear 44 = .ok (.iconst (-1), 1) := by decide +kernel
theorem dX1_clear_45 : decode cX1_clear 45 = .ok (.iastore, 1) := by decide +kernel
theorem dX1_clear_46 : decode cX1_clear 46 = .ok (.aload_n 0, 1) := by decide +kernel
theorem dX1_clear_47 : decode cX1_clear 47 = .ok (.getfield 40, 3) := by decide +kernel
theorem dX1_clear_50 : decode cX1_clear 50 = .ok (.iload_n 1, 1) := by decide +kernel
theorem dX1_clear_51 : decode cX1_clear 51 = .ok (.iconst (-1), 1) := by decide +kernel
theorem dX1_clear_52 : decode cX1_clear 52 = .ok (.iastore, 1) := by decide +kernel
theorem dX1_clear_53 : decode cX1_clear 53 = .ok (.iinc 1 1, 3) := by decide +kernel
theorem dX1_clear_56 : decode cX1_clear 56 = .ok (.goto (-44), 3) := by decide +kernel
theorem dX1_clear_59 : decode cX1_clear 59 = .ok (.return_, 1) := by decide +kernel
theorem dX0_clear_0 : decode cX0_clear 0 = .ok (.aload_n 0, 1) := by decide +kernel
theorem dX0_clear_1 : decode cX0_clear 1 = .ok (.iconst 0, 1) := by decide +kernel
theorem dX0_clear_2 : decode cX0_clear 2 = .ok (.putfield 9, 3) := by decide +kernel
theorem dX0_clear_5 : decode cX0_clear 5 = .ok (.aload_n 0, 1) := by decide +kernel
theorem dX0_clear_6 : decode cX0_clear 6 = .ok (.iconst 0, 1) := by decide +kernel
theorem dX0_clear_7 : decode cX0_clear 7 = .ok (.putfield 15, 3) := by decide +kernel
theorem dX0_clear_10 : decode cX0_clear 10 = .ok (.aload_n 0, 1) := by decide +kernel
theorem dX0_clear_11 : decode cX0_clear 11 = .ok (.iconst 0, 1) := by decide +kernel
theorem dX0_clear_12 : decode cX0_clear 12 = .ok (.putfield 18, 3) := by decide +kernel
theorem dX0_clear_15 : decode cX0_clear 15 = .ok (.aload_n 0, 1) := by decide +kernel
theorem dX0_clear_16 : decode cX0_clear 16 = .ok (.iconst 0, 1) := by decide +kernel
theorem dX0_clear_17 : decode cX0_clear 17 = .ok (.putfield 21, 3) := by decide +kernel
theorem dX0_clear_20 : decode cX0_clear 20 = .ok (.aload_n 0, 1) := by decide +kernel
theorem dX0_clear_21 : decode cX0_clear 21 = .ok (.iconst 0, 1) := by decide +kernel
theorem dX0_clear_22 : decode cX0_clear 22 = .ok (.putfield 24, 3) := by decide +kernel
theorem dX0_clear_25 : decode cX0_clear 25 = .ok (.aload_n 0, 1) := by decide +kernel
theorem dX0_clear_26 : decode cX0_clear 26 = .ok (.iconst 0, 1) := by decide +kernel
theorem dX0_clear_27 : decode cX0_clear 27 = .ok (.putfield 27, 3) := by decide +kernel
theorem dX0_clear_30 : decode cX0_clear 30 = .ok (.aload_n 0, 1) := by decide +kernel
theorem dX0_clear_31 : decode cX0_clear 31 = .ok (.iconst 0, 1) := by decide +kernel
theorem dX0_clear_32 : decode cX0_clear 32 = .ok (.putfield 30, 3) := by decide +kernel
theorem dX0_clear_35 : decode cX0_clear 35 = .ok (.aload_n 0, 1) := by decide +kernel
theorem dX0_clear_36 : decode cX0_clear 36 = .ok (.iconst 0, 1) := by decide +kernel
theorem dX0_clear_37 : decode cX0_clear 37 = .ok (.putfield 33, 3) := by decide +kernel
theorem dX0_clear_40 : decode cX0_clear 40 = .ok (.aload_n 0, 1) := by decide +kernel
theorem dX0_clear_41 : decode cX0_clear 41 = .ok (.iconst 0, 1) := by decide +kernel
theorem dX0_clear_42 : decode cX0_clear 42 = .ok (.putfield 37, 3) := by decide +kernel
theorem dX0_clear_45 : decode cX0_clear 45 = .ok (.aload_n 0, 1) := by decide +kernel
theorem dX0_clear_46 : decode cX0_clear 46 = .ok (.iconst 0, 1) := by decide +kernel
theorem dX0_clear_47 : decode cX0_clear 47 = .ok (.putfield 40, 3) := by decide +kernel
theorem dX0_clear_50 : decode cX0_clear 50 = .ok (.aload_n 0, 1) := by decide +kernel
theorem dX0_clear_51 : decode cX0_clear 51 = .ok (.getfield 46, 3) := by decide +kernel
theorem dX0_clear_54 : decode cX0_clear 54 = .ok (.invokevirtual 66, 3) := by decide +kernel
theorem dX0_clear_57 : decode cX0_clear 57 = .ok (.iconst 0, 1) := by decide +kernel
theorem dX0_clear_58 : decode cX0_clear 58 = .ok (.istore_n 1, 1) := by decide +kernel
theorem dX0_clear_59 : decode cX0_clear 59 = .ok (.iload_n 1, 1) := by decide +kernel
theorem dX0_clear_60 : decode cX0_clear 60 = .ok (.bipush 100, 2) := by decide +kernel
theorem dX0_clear_62 : decode cX0_clear 62 = .ok (.if_icmp .ge 23, 3) := by decide +kernel
theorem dX0_clear_65 : decode cX0_clear 65 = .ok (.aload_n 0, 1) := by decide +kernel
theorem dX0_clear_66 : decode cX0_clear 66 = .ok (.getfield 50, 3) := by decide +kernel
theorem dX0_clear_69 : decode cX0_clear 69 = .ok (.iload_n 1, 1) := by decide +kernel
theorem dX0_clear_70 : decode cX0_clear 70 = .ok (.iconst 0, 1) := by decide +kernel
theorem dX0_clear_71 : decode cX0_clear 71 = .ok (.iastore, 1) := by decide +kernel
theorem dX0_clear_72 : decode cX0_clear 72 = .ok (.aload_n 0, 1) := by decide +kernel
theorem dX0_clear_73 : decode cX0_clear 73 = .ok (.getfield 54, 3) := by decide +kernel
theorem dX0_clear_76 : decode cX0_clear 76 = .ok (.iload_n 1, 1) := by decide +kernel
theorem dX0_clear_77 : decode cX0_clear 77 = .ok (.iconst 0, 1) := by decide +kernel
theorem dX0_clear_78 : decode cX0_clear 78 = .ok (.iastore, 1) := by decide +kernel
theorem dX0_clear_79 : decode cX0_clear 79 = .ok (.iinc 1 1, 3) := by decide +kernel
theorem dX0_clear_82 : decode cX0_clear 82 = .ok (.goto (-23), 3) := by decide +kernel
theorem dX0_clear_85 : decode cX0_clear 85 = .ok (.iconst 0, 1) := by decide +kernel
theorem dX0_clear_86 : decode cX0_clear 86 = .ok (.istore_n 1, 1) := by decide +kernel
theorem dX0_clear_87 : decode cX0_clear 87 = .ok (.iload_n 1, 1) := by decide +kernel
theorem dX0_clear_88 : decode cX0_clear 88 = .ok (.bipush 48, 2) := by decide +kernel
theorem dX0_clear_90 : decode cX0_clear 90 = .ok (.if_icmp .ge 16, 3) := by decide +kernel
theorem dX0_clear_93 : decode cX0_clear 93 = .ok (.aload_n 0, 1) := by decide +kernel
theorem dX0_clear_94 : decode cX0_clear 94 = .ok (.getfield 63, 3) := by decide +kernel
theorem dX0_clear_97 : decode cX0_clear 97 = .ok (.iload_n 1, 1) := by decide +kernel
theorem dX0_clear_98 : decode cX0_clear 98 = .ok (.iconst 0, 1) := by decide +kernel
theorem dX0_clear_99 : decode cX0_clear 99 = .ok (.iastore, 1) := by decide +kernel
theorem dX0_clear_100 : decode cX0_clear 100 = .ok (.iinc 1 1, 3) := by decide +kernel
theorem dX0_clear_103 : decode cX0_clear 103 = .ok (.goto (-16), 3) := by decide +kernel
theorem dX0_clear_106 : decode cX0_clear 106 = .ok (.return_, 1) := by decide +kernel
theorem dX7_goesOn_0 : decode cX7_goesOn 0 = .ok (.aload_n 0, 1) := by decide +kernel
theorem dX7_goesOn_1 : decode cX7_goesOn 1 = .ok (.getfield 28, 3) := by decide +kernel
theorem dX7_goesOn_4 : decode cX7_goesOn 4 = .ok (.ifCond .ne 16, 3) := by decide +kernel
theorem dX7_goesOn_7 : decode cX7_goesOn 7 = .ok (.aload_n 0, 1) := by decide +kernel
theorem dX7_goesOn_8 : decode cX7_goesOn 8 = .ok (.iconst 0, 1) := by decide +kernel
theorem dX7_goesOn_9 : decode cX7_goesOn 9 = .ok (.iconst 0, 1) := by decide +kernel
theorem dX7_goesOn_10 : decode cX7_goesOn 10 = .ok (.invokevirtual 74, 3) := by decide +kernel
theorem dX7_goesOn_13 : decode cX7_goesOn 13 = .ok (.ifCond .ne 7, 3) := by decide +kernel
theorem dX7_goesOn_16 : decode cX7_goesOn 16 = .ok (.iconst 1, 1) := by decide +kernel
theorem dX7_goesOn_17 : decode cX7_goesOn 17 = .ok (.goto 4, 3) := by decide +kernel
theorem dX7_goesOn_20 : decode cX7_goesOn 20 = .ok (.iconst 0, 1) := by decide +kernel
theorem dX7_goesOn_21 : decode cX7_goesOn 21 = .ok (.ireturn, 1) := by decide +kernel
theorem dX7_takeWord_0 : decode cX7_takeWord 0 = .ok (.aload_n 0, 1) := by decide +kernel
theorem dX7_takeWord_1 : decode cX7_takeWord 1 = .ok (.invokevirtual 78, 3) := by decide +kernel
theorem dX7_takeWord_4 : decode cX7_takeWord 4 = .ok (.istore_n 3, 1) := by decide +kernel
theorem dX7_takeWord_5 : decode cX7_takeWord 5 = .ok (.iload_n 3, 1) := by decide +kernel
theorem dX7_takeWord_6 : decode cX7_takeWord 6 = .ok (.iload_n 1, 1) := by decide +kernel
theorem dX7_takeWord_7 : decode cX7_takeWord 7 = .ok (.if_icmp .lt 8, 3) := by decide +kernel
theorem dX7_takeWord_10 : decode cX7_takeWord 10 = .ok (.iload_n 3, 1) := by decide +kernel
theorem dX7_takeWord_11 : decode cX7_takeWord 11 = .ok (.iload_n 2, 1) := by decide +kernel
theorem dX7_takeWord_12 : decode cX7_takeWord 12 = .ok (.if_icmp .le 10, 3) := by decide +kernel
theorem dX7_takeWord_15 : decode cX7_takeWord 15 = .ok (.aload_n 0, 1) := by decide +kernel
theorem dX7_takeWord_16 : decode cX7_takeWord 16 = .ok (.iconst 1, 1) := by decide +kernel
theorem dX7_takeWord_17 : decode cX7_takeWord 17 = .ok (.invokevirtual 81, 3) := by decide +kernel
theorem dX7_takeWord_20 : decode cX7_takeWord 20 = .ok (.iconst (-1), 1) := by decide +kernel
theorem dX7_takeWord_21 : decode cX7_takeWord 21 = .ok (.ireturn, 1) := by decide +kernel
theorem dX7_takeWord_22 : decode cX7_takeWord 22 = .ok (.aload_n 0, 1) := by decide +kernel
theorem dX7_takeWord_23 : decode cX7_takeWord 23 = .ok (.iconst 2, 1) := by decide +kernel
theorem dX7_takeWord_24 : decode cX7_takeWord 24 = .ok (.invokevirtual 85, 3) := by decide +kernel
theorem dX7_takeWord_27 : decode cX7_takeWord 27 = .ok (.ireturn, 1) := by decide +kernel
theorem dX0_readYard_0 : decode cX0_readYard 0 = .ok (.aload_n 0, 1) := by decide +kernel
theorem dX0_readYard_1 : decode cX0_readYard 1 = .ok (.getfield 15, 3) := by decide +kernel
theorem dX0_readYard_4 : decode cX0_readYard 4 = .ok (.ifCond .eq 8, 3) := by decide +kernel
theorem dX0_readYard_7 : decode cX0_readYard 7 = .ok (.aload_n 1, 1) := by decide +kernel
theorem dX0_readYard_8 : decode cX0_readYard 8 = .ok (.iconst 3, 1) := by decide +kernel
theorem dX0_readYard_9 : decode cX0_readYard 9 = .ok (.invokevirtual 151, 3) := by decide +kernel
theorem dX0_readYard_12 : decode cX0_readYard 12 = .ok (.aload_n 1, 1) := by decide +kernel
theorem dX0_readYard_13 : decode cX0_readYard 13 = .ok (.iconst 2, 1) := by decide +kernel
theorem dX0_readYard_14 : decode cX0_readYard 14 = .ok (.bipush 10, 2) := by decide +kernel
theorem dX0_readYard_16 : decode cX0_readYard 16 = .ok (.invokevirtual 145, 3) := by decide +kernel
theorem dX0_readYard_19 : decode cX0_readYard 19 = .ok (.istore_n 2, 1) := by decide +kernel
theorem dX0_readYard_20 : decode cX0_readYard 20 = .ok (.aload_n 1, 1) := by decide +kernel
theorem dX0_readYard_21 : decode cX0_readYard 21 = .ok (.iconst 2, 1) := by decide +kernel
theorem dX0_readYard_22 : decode cX0_readYard 22 = .ok (.bipush 10, 2) := by decide +kernel
theorem dX0_readYard_24 : decode cX0_readYard 24 = .ok (.invokevirtual 145, 3) := by decide +kernel
theorem dX0_readYard_27 : decode cX0_readYard 27 = .ok (.istore_n 3, 1) := by decide +kernel
theorem dX0_readYard_28 : decode cX0_readYard 28 = .ok (.aload_n 1, 1) := by decide +kernel
theorem dX0_readYard_29 : decode cX0_readYard 29 = .ok (.invokevirtual 148, 3) := by decide +kernel
theorem dX0_readYard_32 : decode cX0_readYard 32 = .ok (.ifCond .eq 13, 3) := by decide +kernel
theorem dX0_readYard_35 : decode cX0_readYard 35 = .ok (.aload_n 0, 1) := by decide +kernel
theorem dX0_readYard_36 : decode cX0_readYard 36 = .ok (.iload_n 2, 1) := by decide +kernel
theorem dX0_readYard_37 : decode cX0_readYard 37 = .ok (.putfield 15, 3) := by decide +kernel
theorem dX0_readYard_40 : decode cX0_readYard 40 = .ok (.aload_n 0, 1) := by decide +kernel
theorem dX0_readYard_41 : decode cX0_readYard 41 = .ok (.iload_n 3, 1) := by decide +kernel
theorem dX0_readYard_42 : decode cX0_readYard 42 = .ok (.putfield 18, 3) := by decide +kernel
theorem dX0_readYard_45 : decode cX0_readYard 45 = .ok (.return_, 1) := by decide +kernel
theorem dX7_takeName_0 : decode cX7_takeName 0 = .ok (.aload_n 0, 1) := by decide +kernel
theorem dX7_takeName_1 : decode cX7_takeName 1 = .ok (.iconst 3, 1) := by decide +kernel
theorem dX7_takeName_2 : decode cX7_takeName 2 = .ok (.invokevirtual 85, 3) := by decide +kernel
theorem dX7_takeName_5 : decode cX7_takeName 5 = .ok (.ireturn, 1) := by decide +kernel
theorem dX1_find_0 : decode cX1_find 0 = .ok (.iconst 0, 1) := by decide +kernel
theorem dX1_find_1 : decode cX1_find 1 = .ok (.istore_n 2, 1) := by decide +kernel
theorem dX1_find_2 : decode cX1_find 2 = .ok (.iload_n 2, 1) := by decide +kernel
theorem dX1_find_3 : decode cX1_find 3 = .ok (.aload_n 0, 1) := by decide +kernel
theorem dX1_find_4 : decode cX1_find 4 = .ok (.getfield 9, 3) := by decide +kernel
theorem dX1_find_7 : decode cX1_find 7 = .ok (.if_icmp .ge 21, 3) := by decide +kernel
theorem dX1_find_10 : decode cX1_find 10 = .ok (.aload_n 0, 1) := by decide +kernel
theorem dX1_find_11 : decode cX1_find 11 = .ok (.getfield 18, 3) := by decide +kernel
theorem dX1_find_14 : decode cX1_find 14 = .ok (.iload_n 2, 1) := by decide +kernel
theorem dX1_find_15 : decode cX1_find 15 = .ok (.iaload, 1) := by decide +kernel
theorem dX1_find_16 : decode cX1_find 16 = .ok (.iload_n 1, 1) := by decide +kernel
theorem dX1_find_17 : decode cX1_find 17 = .ok (.if_icmp .ne 5, 3) := by decide +kernel
theorem dX1_find_20 : decode cX1_find 20 = .ok (.iload_n 2, 1) := by decide +kernel
theorem dX1_find_21 : decode cX1_find 21 = .ok (.ireturn, 1) := by decide +kernel
theorem dX1_find_22 : decode cX1_find 22 = .ok (.iinc 2 1, 3) := by decide +kernel
theorem dX1_find_25 : decode cX1_find 25 = .ok (.goto (-23), 3) := by decide +kernel
theorem dX1_find_28 : decode cX1_find 28 = .ok (.iconst (-1), 1) := by decide +kernel
theorem dX1_find_29 : decode cX1_find 29 = .ok (.ireturn, 1) := by decide +kernel
theorem dX0_takeCell_0 : decode cX0_takeCell 0 = .ok (.aload_n 1, 1) := by decide +kernel
theorem dX0_takeCell_1 : decode cX0_takeCell 1 = .ok (.iconst 0, 1) := by decide +kernel
theorem dX0_takeCell_2 : decode cX0_takeCell 2 = .ok (.aload_n 0, 1) := by decide +kernel
theorem dX0_takeCell_3 : decode cX0_takeCell 3 = .ok (.getfield 15, 3) := by decide +kernel
theorem dX0_takeCell_6 : decode cX0_takeCell 6 = .ok (.iconst 1, 1) := by decide +kernel
theorem dX0_takeCell_7 : decode cX0_takeCell 7 = .ok (.isub, 1) := by decide +kernel
theorem dX0_takeCell_8 : decode cX0_takeCell 8 = .ok (.invokevirtual 145, 3) := by decide +kernel
theorem dX0_takeCell_11 : decode cX0_takeCell 11 = .ok (.istore_n 2, 1) := by decide +kernel
theorem dX0_takeCell_12 : decode cX0_takeCell 12 = .ok (.aload_n 1, 1) := by decide +kernel
theorem dX0_takeCell_13 : decode cX0_takeCell 13 = .ok (.iconst 0, 1) := by decide +kernel
theorem dX0_takeCell_14 : decode cX0_takeCell 14 = .ok (.aload_n 0, 1) := by decide +kernel
theorem dX0_takeCell_15 : decode cX0_takeCell 15 = .ok (.getfield 18, 3) := by decide +kernel
theorem dX0_takeCell_18 : decode cX0_takeCell 18 = .ok (.iconst 1, 1) := by decide +kernel
theorem dX0_takeCell_19 : decode cX0_takeCell 19 = .ok (.isub, 1) := by decide +kernel
theorem dX0_takeCell_20 : decode cX0_takeCell 20 = .ok (.invokevirtual 145, 3) := by decide +kernel
theorem dX0_takeCell_23 : decode cX0_takeCell 23 = .ok (.istore_n 3, 1) := by decide +kernel
theorem dX0_takeCell_24 : decode cX0_takeCell 24 = .ok (.aload_n 1, 1) := by decide +kernel
theorem dX0_takeCell_25 : decode cX0_takeCell 25 = .ok (.invokevirtual 148, 3) := by decide +kernel
theorem dX0_takeCell_28 : decode cX0_takeCell 28 = .ok (.ifCond .eq 12, 3) := by decide +kernel
theorem dX0_takeCell_31 : decode cX0_takeCell 31 = .ok (.iload_n 3, 1) := by decide +kernel
theorem dX0_takeCell_32 : decode cX0_takeCell 32 = .ok (.bipush 10, 2) := by decide +kernel
theorem dX0_takeCell_34 : decode cX0_takeCell 34 = .ok (.imul, 1) := by decide +kernel
theorem dX0_takeCell_35 : decode cX0_takeCell 35 = .ok (.iload_n 2, 1) := by decide +kernel
theorem dX0_takeCell_36 : decode cX0_takeCell 36 = .ok (.iadd, 1) := by decide +kernel
theorem dX0_takeCell_37 : decode cX0_takeCell 37 = .ok (.goto 4, 3) := by decide +kernel
theorem dX0_takeCell_40 : decode cX0_takeCell 40 = .ok (.iconst (-1), 1) := by decide +kernel
theorem dX0_takeCell_41 : decode cX0_takeCell 41 = .ok (.ireturn, 1) := by decide +kernel
theorem dX0_refuseIfTaken_0 : decode cX0_refuseIfTaken 0 = .ok (.iload_n 2, 1) := by decide +kernel
theorem dX0_refuseIfTaken_1 : decode cX0_refuseIfTaken 1 = .ok (.ifCond .lt 20, 3) := by decide +kernel
theorem dX0_refuseIfTaken_4 : decode cX0_refuseIfTaken 4 = .ok (.iload_n 2, 1) := by decide +kernel
theorem dX0_refuseIfTaken_5 : decode cX0_refuseIfTaken 5 = .ok (.aload_n 1, 1) := by decide +kernel
theorem dX0_refuseIfTaken_6 : decode cX0_refuseIfTaken 6 = .ok (.arraylength, 1) := by decide +kernel
theorem dX0_refuseIfTaken_7 : decode cX0_refuseIfTaken 7 = .ok (.if_icmp .ge 14, 3) := by decide +kernel
theorem dX0_refuseIfTaken_10 : decode cX0_refuseIfTaken 10 = .ok (.aload_n 1, 1) := by decide +kernel
theorem dX0_refuseIfTaken_11 : decode cX0_refuseIfTaken 11 = .ok (.iload_n 2, 1) := by decide +kernel
theorem dX0_refuseIfTaken_12 : decode cX0_refuseIfTaken 12 = .ok (.iaload, 1) := by decide +kernel
theorem dX0_refuseIfTaken_13 : decode cX0_refuseIfTaken 13 = .ok (.ifCond .eq 8, 3) := by decide +kernel
theorem dX0_refuseIfTaken_16 : decode cX0_refuseIfTaken 16 = .ok (.aload_n 0, 1) := by decide +kernel
theorem dX0_refuseIfTaken_17 : decode cX0_refuseIfTaken 17 = .ok (.iconst 3, 1) := by decide +kernel
theorem dX0_refuseIfTaken_18 : decode cX0_refuseIfTaken 18 = .ok (.invokevirtual 151, 3) := by decide +kernel
theorem dX0_refuseIfTaken_21 : decode cX0_refuseIfTaken 21 = .ok (.return_, 1) := by decide +kernel
theorem dX0_readOwner_0 : decode cX0_readOwner 0 = .ok (.aload_n 0, 1) := by decide +kernel
theorem dX0_readOwner_1 : decode cX0_readOwner 1 = .ok (.getfield 46, 3) := by decide +kernel
theorem dX0_readOwner_4 : decode cX0_readOwner 4 = .ok (.getfield 79, 3) := by decide +kernel
theorem dX0_readOwner_7 : decode cX0_readOwner 7 = .ok (.bipush 8, 2) := by decide +kernel
theorem dX0_readOwner_9 : decode cX0_readOwner 9 = .ok (.if_icmp .lt 8, 3) := by decide +kernel
theorem dX0_readOwner_12 : decode cX0_readOwner 12 = .ok (.aload_n 1, 1) := by decide +kernel
theorem dX0_readOwner_13 : decode cX0_readOwner 13 = .ok (.iconst 4, 1) := by decide +kernel
theorem dX0_readOwner_14 : decode cX0_readOwner 14 = .ok (.invokevirtual 151, 3) := by decide +kernel
theorem dX0_readOwner_17 : decode cX0_readOwner 17 = .ok (.aload_n 1, 1) := by decide +kernel
theorem dX0_readOwner_18 : decode cX0_readOwner 18 = .ok (.invokevirtual 155, 3) := by decide +kernel
theorem dX0_readOwner_21 : decode cX0_readOwner 21 = .ok (.istore_n 2, 1) := by decide +kernel
theorem dX0_readOwner_22 : decode cX0_readOwner 22 = .ok (.aload_n 0, 1) := by decide +kernel
theorem dX0_readOwner_23 : decode cX0_readOwner 23 = .ok (.getfield 46, 3) := by decide +kernel
theorem dX0_readOwner_26 : decode cX0_readOwner 26 = .ok (.iload_n 2, 1) := by decide +kernel
theorem dX0_readOwner_27 : decode cX0_readOwner 27 = .ok (.invokevirtual 159, 3) := by decide +kernel
theorem dX0_readOwner_30 : decode cX0_readOwner 30 = .ok (.iconst (-1), 1) := by decide +kernel
theorem dX0_readOwner_31 : decode cX0_readOwner 31 = .ok (.if_icmp .eq 8, 3) := by decide +kernel
theorem dX0_readOwner_34 : decode cX0_readOwner 34 = .ok (.aload_n 1, 1) := by decide +kernel
theorem dX0_readOwner_35 : decode cX0_readOwner 35 = .ok (.iconst 3, 1) := by decide +kernel
theorem dX0_readOwner_36 : decode cX0_readOwner 36 = .ok (.invokevirtual 151, 3) := by decide +kernel
theorem dX0_readOwner_39 : decode cX0_readOwner 39 = .ok (.aload_n 0, 1) := by decide +kernel
theorem dX0_readOwner_40 : decode cX0_readOwner 40 = .ok (.aload_n 1, 1) := by decide +kernel
theorem dX0_readOwner_41 : decode cX0_readOwner 41 = .ok (.invokevirtual 163, 3) := by decide +kernel
theorem dX0_readOwner_44 : decode cX0_readOwner 44 = .ok (.istore_n 3, 1) := by decide +kernel
theorem dX0_readOwner_45 : decode cX0_readOwner 45 = .ok (.aload_n 1, 1) := by decide +kernel
theorem dX0_readOwner_46 : decode cX0_readOwner 46 = .ok (.aload_n 0, 1) := by decide +kernel
theorem dX0_readOwner_47 : decode cX0_readOwner 47 = .ok (.getfield 50, 3) := by decide +kernel
theorem dX0_readOwner_50 : decode cX0_readOwner 50 = .ok (.iload_n 3, 1) := by decide +kernel
theorem dX0_readOwner_51 : decode cX0_readOwner 51 = .ok (.invokestatic 167, 3) := by decide +kernel
theorem dX0_readOwner_54 : decode cX0_readOwner 54 = .ok (.aload_n 1, 1) := by decide +kernel
theorem dX0_readOwner_55 : decode cX0_readOwner 55 = .ok (.iconst 0, 1) := by decide +kernel
theorem dX0_readOwner_56 : decode cX0_readOwner 56 = .ok (.sipush 999, 3) := by decide +kernel
theorem dX0_readOwner_59 : decode cX0_readOwner 59 = .ok (.invokevirtual 145, 3) := by decide +kernel
theorem dX0_readOwner_62 : decode cX0_readOwner 62 = .ok (.istore 4, 2) := by decide +kernel
theorem dX0_readOwner_64 : decode cX0_readOwner 64 = .ok (.aload_n 1, 1) := by decide +kernel
theorem dX0_readOwner_65 : decode cX0_readOwner 65 = .ok (.iconst 1, 1) := by decide +kernel
theorem dX0_readOwner_66 : decode cX0_readOwner 66 = .ok (.bipush 99, 2) := by decide +kernel
theorem dX0_readOwner_68 : decode cX0_readOwner 68 = .ok (.invokevirtual 145, 3) := by decide +kernel
theorem dX0_readOwner_71 : decode cX0_readOwner 71 = .ok (.istore 5, 2) := by decide +kernel
theorem dX0_readOwner_73 : decode cX0_readOwner 73 = .ok (.aload_n 1, 1) := by decide +kernel
theorem dX0_readOwner_74 : decode cX0_readOwner 74 = .ok (.iconst 0, 1) := by decide +kernel
theorem dX0_readOwner_75 : decode cX0_readOwner 75 = .ok (.bipush 9, 2) := by decide +kernel
theorem dX0_readOwner_77 : decode cX0_readOwner 77 = .ok (.invokevirtual 145, 3) := by decide +kernel
theorem dX0_readOwner_80 : decode cX0_readOwner 80 = .ok (.istore 6, 2) := by decide +kernel
theorem dX0_readOwner_82 : decode cX0_readOwner 82 = .ok (.aload_n 0, 1) := by decide +kernel
theorem dX0_readOwner_83 : decode cX0_readOwner 83 = .ok (.getfield 46, 3) := by decide +kernel
theorem dX0_readOwner_86 : decode cX0_readOwner 86 = .ok (.getfield 79, 3) := by decide +kernel
theorem dX0_readOwner_89 : decode cX0_readOwner 89 = .ok (.istore 7, 2) := by decide +kernel
theorem dX0_readOwner_91 : decode cX0_readOwner 91 = .ok (.aload_n 1, 1) := by decide +kernel
theorem dX0_readOwner_92 : decode cX0_readOwner 92 = .ok (.invokevirtual 148, 3) := by decide +kernel
theorem dX0_readOwner_95 : decode cX0_readOwner 95 = .ok (.ifCond .eq 102, 3) := by decide +kernel
theorem dX0_readOwner_98 : decode cX0_readOwner 98 = .ok (.iload 7, 2) := by decide +kernel
theorem dX0_readOwner_100 : decode cX0_readOwner 100 = .ok (.bipush 8, 2) := by decide +kernel
theorem dX0_readOwner_102 : decode cX0_readOwner 102 = .ok (.if_icmp .ge 95, 3) := by decide +kernel
theorem dX0_readOwner_105 : decode cX0_readOwner 105 = .ok (.iload_n 3, 1) := by decide +kernel
theorem dX0_readOwner_106 : decode cX0_readOwner 106 = .ok (.ifCond .lt 91, 3) := by decide +kernel
theorem dX0_readOwner_109 : decode cX0_readOwner 109 = .ok (.iload_n 3, 1) := by decide +kernel
theorem dX0_readOwner_110 : decode cX0_readOwner 110 = .ok (.bipush 100, 2) := by decide +kernel
theorem dX0_readOwner_112 : decode cX0_readOwner 112 = .ok (.if_icmp .ge 85, 3) := by decide +kernel
theorem dX0_readOwner_115 : decode cX0_readOwner 115 = .ok (.aload_n 0, 1) := by decide +kernel
theorem dX0_readOwner_116 : decode cX0_readOwner 116 = .ok (.getfield 46, 3) := by decide +kernel
theorem dX0_readOwner_119 : decode cX0_readOwner 119 = .ok (.getfield 171, 3) := by decide +kernel
theorem dX0_readOwner_122 : decode cX0_readOwner 122 = .ok (.iload 7, 2) := by decide +kernel
theorem dX0_readOwner_124 : decode cX0_readOwner 124 = .ok (.iload_n 2, 1) := by decide +kernel
theorem dX0_readOwner_125 : decode cX0_readOwner 125 = .ok (.iastore, 1) := by decide +kernel
theorem dX0_readOwner_126 : decode cX0_readOwner 126 = .ok (.aload_n 0, 1) := by decide +kernel
theorem dX0_readOwner_127 : decode cX0_readOwner 127 = .ok (.getfield 46, 3) := by decide +kernel
theorem dX0_readOwner_130 : decode cX0_readOwner 130 = .ok (.getfield 174, 3) := by decide +kernel
theorem dX0_readOwner_133 : decode cX0_readOwner 133 = .ok (.iload 7, 2) := by decide +kernel
theorem dX0_readOwner_135 : decode cX0_readOwner 135 = .ok (.iload_n 3, 1) := by decide +kernel
theorem dX0_readOwner_136 : decode cX0_readOwner 136 = .ok (.iastore, 1) := by decide +kernel
theorem dX0_readOwner_137 : decode cX0_readOwner 137 = .ok (.aload_n 0, 1) := by decide +kernel
theorem dX0_readOwner_138 : decode cX0_readOwner 138 = .ok (.getfield 46, 3) := by decide +kernel
theorem dX0_readOwner_141 : decode cX0_readOwner 141 = .ok (.getfield 177, 3) := by decide +kernel
theorem dX0_readOwner_144 : decode cX0_readOwner 144 = .ok (.iload 7, 2) := by decide +kernel
theorem dX0_readOwner_146 : decode cX0_readOwner 146 = .ok (.iload 4, 2) := by decide +kernel
theorem dX0_readOwner_148 : decode cX0_readOwner 148 = .ok (.iastore, 1) := by decide +kernel
theorem dX0_readOwner_149 : decode cX0_readOwner 149 = .ok (.aload_n 0, 1) := by decide +kernel
theorem dX0_readOwner_150 : decode cX0_readOwner 150 = .ok (.getfield 46, 3) := by decide +kernel
theorem dX0_readOwner_153 : decode cX0_readOwner 153 = .ok (.getfield 180, 3) := by decide +kernel
theorem dX0_readOwner_156 : decode cX0_readOwner 156 = .ok (.iload 7, 2) := by decide +kernel
theorem dX0_readOwner_158 : decode cX0_readOwner 158 = .ok (.iload 5, 2) := by decide +kernel
theorem dX0_readOwner_160 : decode cX0_readOwner 160 = .ok (.iastore, 1) := by decide +kernel
theorem dX0_readOwner_161 : decode cX0_readOwner 161 = .ok (.aload_n 0, 1) := by decide +kernel
theorem dX0_readOwner_162 : decode cX0_readOwner 162 = .ok (.getfield 46, 3) := by decide +kernel
theorem dX0_readOwner_165 : decode cX0_readOwner 165 = .ok (.getfield 183, 3) := by decide +kernel
theorem dX0_readOwner_168 : decode cX0_readOwner 168 = .ok (.iload 7, 2) := by decide +kernel
theorem dX0_readOwner_170 : decode cX0_readOwner 170 = .ok (.iload 6, 2) := by decide +kernel
theorem dX0_readOwner_172 : decode cX0_readOwner 172 = .ok (.iastore, 1) := by decide +kernel
theorem dX0_readOwner_173 : decode cX0_readOwner 173 = .ok (.aload_n 0, 1) := by decide +kernel
theorem dX0_readOwner_174 : decode cX0_readOwner 174 = .ok (.getfield 50, 3) := by decide +kernel
theorem dX0_readOwner_177 : decode cX0_readOwner 177 = .ok (.iload_n 3, 1) := by decide +kernel
theorem dX0_readOwner_178 : decode cX0_readOwner 178 = .ok (.bipush 16, 2) := by decide +kernel
theorem dX0_readOwner_180 : decode cX0_readOwner 180 = .ok (.iload 7, 2) := by decide +kernel
theorem dX0_readOwner_182 : decode cX0_readOwner 182 = .ok (.iadd, 1) := by decide +kernel
theorem dX0_readOwner_183 : decode cX0_readOwner 183 = .ok (.iastore, 1) := by decide +kernel
theorem dX0_readOwner_184 : decode cX0_readOwner 184 = .ok (.aload_n 0, 1) := by decide +kernel
theorem dX0_readOwner_185 : decode cX0_readOwner 185 = .ok (.getfield 46, 3) := by decide +kernel
theorem dX0_readOwner_188 : decode cX0_readOwner 188 = .ok (.dup, 1) := by decide +kernel
theorem dX0_readOwner_189 : decode cX0_readOwner 189 = .ok (.getfield 79, 3) := by decide +kernel
theorem dX0_readOwner_192 : decode cX0_readOwner 192 = .ok (.iconst 1, 1) := by decide +kernel
theorem dX0_readOwner_193 : decode cX0_readOwner 193 = .ok (.iadd, 1) := by decide +kernel
theorem dX0_readOwner_194 : decode cX0_readOwner 194 = .ok (.putfield 79, 3) := by decide +kernel
theorem dX0_readOwner_197 : decode cX0_readOwner 197 = .ok (.return_, 1) := by decide +kernel
theorem dX1_take_0 : decode cX1_take 0 = .ok (.aload_n 0, 1) := by decide +kernel
theorem dX1_take_1 : decode cX1_take 1 = .ok (.aload_n 1, 1) := by decide +kernel
theorem dX1_take_2 : decode cX1_take 2 = .ok (.invokevirtual 52, 3) := by decide +kernel
theorem dX1_take_5 : decode cX1_take 5 = .ok (.invokevirtual 58, 3) := by decide +kernel
theorem dX1_take_8 : decode cX1_take 8 = .ok (.istore_n 2, 1) := by decide +kernel
theorem dX1_take_9 : decode cX1_take 9 = .ok (.iload_n 2, 1) := by decide +kernel
theorem dX1_take_10 : decode cX1_take 10 = .ok (.iconst (-1), 1) := by decide +kernel
theorem dX1_take_11 : decode cX1_take 11 = .ok (.if_icmp .ne 8, 3) := by decide +kernel
theorem dX1_take_14 : decode cX1_take 14 = .ok (.aload_n 1, 1) := by decide +kernel
theorem dX1_take_15 : decode cX1_take 15 = .ok (.iconst 3, 1) := by decide +kernel
theorem dX1_take_16 : decode cX1_take 16 = .ok (.invokevirtual 62, 3) := by decide +kernel
theorem dX1_take_19 : decode cX1_take 19 = .ok (.aload_n 1, 1) := by decide +kernel
theorem dX1_take_20 : decode cX1_take 20 = .ok (.invokevirtual 66, 3) := by decide +kernel
theorem dX1_take_23 : decode cX1_take 23 = .ok (.ifCond .eq 7, 3) := by decide +kernel
theorem dX1_take_26 : decode cX1_take 26 = .ok (.iload_n 2, 1) := by decide +kernel
theorem dX1_take_27 : decode cX1_take 27 = .ok (.goto 4, 3) := by decide +kernel
theorem dX1_take_30 : decode cX1_take 30 = .ok (.iconst (-1), 1) := by decide +kernel
theorem dX1_take_31 : decode cX1_take 31 = .ok (.ireturn, 1) := by decide +kernel
theorem dX0_isOwner_0 : decode cX0_isOwner 0 = .ok (.iload_n 1, 1) := by decide +kernel
theorem dX0_isOwner_1 : decode cX0_isOwner 1 = .ok (.ifCond .lt 18, 3) := by decide +kernel
theorem dX0_isOwner_4 : decode cX0_isOwner 4 = .ok (.iload_n 1, 1) := by decide +kernel
theorem dX0_isOwner_5 : decode cX0_isOwner 5 = .ok (.aload_n 0, 1) := by decide +kernel
theorem dX0_isOwner_6 : decode cX0_isOwner 6 = .ok (.getfield 46, 3) := by decide +kernel
theorem dX0_isOwner_9 : decode cX0_isOwner 9 = .ok (.getfield 79, 3) := by decide +kernel
theorem dX0_isOwner_12 : decode cX0_isOwner 12 = .ok (.if_icmp .ge 7, 3) := by decide +kernel
theorem dX0_isOwner_15 : decode cX0_isOwner 15 = .ok (.iconst 1, 1) := by decide +kernel
theorem dX0_isOwner_16 : decode cX0_isOwner 16 = .ok (.goto 4, 3) := by decide +kernel
theorem dX0_isOwner_19 : decode cX0_isOwner 19 = .ok (.iconst 0, 1) := by decide +kernel
theorem dX0_isOwner_20 : decode cX0_isOwner 20 = .ok (.ireturn, 1) := by decide +kernel
theorem dX0_readVane_0 : decode cX0_readVane 0 = .ok (.aload_n 0, 1) := by decide +kernel
theorem dX0_readVane_1 : decode cX0_readVane 1 = .ok (.getfield 46, 3) := by decide +kernel
theorem dX0_readVane_4 : decode cX0_readVane 4 = .ok (.aload_n 1, 1) := by decide +kernel
theorem dX0_readVane_5 : decode cX0_readVane 5 = .ok (.invokevirtual 186, 3) := by decide +kernel
theorem dX0_readVane_8 : decode cX0_readVane 8 = .ok (.istore_n 2, 1) := by decide +kernel
theorem dX0_readVane_9 : decode cX0_readVane 9 = .ok (.aload_n 1, 1) := by decide +kernel
theorem dX0_readVane_10 : decode cX0_readVane 10 = .ok (.invokevirtual 148, 3) := by decide +kernel
theorem dX0_readVane_13 : decode cX0_readVane 13 = .ok (.ifCond .eq 23, 3) := by decide +kernel
theorem dX0_readVane_16 : decode cX0_readVane 16 = .ok (.aload_n 0, 1) := by decide +kernel
theorem dX0_readVane_17 : decode cX0_readVane 17 = .ok (.getfield 46, 3) := by decide +kernel
theorem dX0_readVane_20 : decode cX0_readVane 20 = .ok (.getfield 189, 3) := by decide +kernel
theorem dX0_readVane_23 : decode cX0_readVane 23 = .ok (.iload_n 2, 1) := by decide +kernel
theorem dX0_readVane_24 : decode cX0_readVane 24 = .ok (.ishr, 1) := by decide +kernel
theorem dX0_readVane_25 : decode cX0_readVane 25 = .ok (.iconst 1, 1) := by decide +kernel
theorem dX0_readVane_26 : decode cX0_readVane 26 = .ok (.iand, 1) := by decide +kernel
theorem dX0_readVane_27 : decode cX0_readVane 27 = .ok (.iconst 1, 1) := by decide +kernel
theorem dX0_readVane_28 : decode cX0_readVane 28 = .ok (.if_icmp .ne 8, 3) := by decide +kernel
theorem dX0_readVane_31 : decode cX0_readVane 31 = .ok (.aload_n 1, 1) := by decide +kernel
theorem dX0_readVane_32 : decode cX0_readVane 32 = .ok (.iconst 3, 1) := by decide +kernel
theorem dX0_readVane_33 : decode cX0_readVane 33 = .ok (.invokevirtual 151, 3) := by decide +kernel
theorem dX0_readVane_36 : decode cX0_readVane 36 = .ok (.aload_n 1, 1) := by decide +kernel
theorem dX0_readVane_37 : decode cX0_readVane 37 = .ok (.iconst 0, 1) := by decide +kernel
theorem dX0_readVane_38 : decode cX0_readVane 38 = .ok (.bipush 7, 2) := by decide +kernel
theorem dX0_readVane_40 : decode cX0_readVane 40 = .ok (.invokevirtual 145, 3) := by decide +kernel
theorem dX0_readVane_43 : decode cX0_readVane 43 = .ok (.istore_n 3, 1) := by decide +kernel
theorem dX0_readVane_44 : decode cX0_readVane 44 = .ok (.aload_n 1, 1) := by decide +kernel
theorem dX0_readVane_45 : decode cX0_readVane 45 = .ok (.invokevirtual 148, 3) := by decide +kernel
theorem dX0_readVane_48 : decode cX0_readVane 48 = .ok (.ifCond .eq 36, 3) := by decide +kernel
theorem dX0_readVane_51 : decode cX0_readVane 51 = .ok (.aload_n 0, 1) := by decide +kernel
theorem dX0_readVane_52 : decode cX0_readVane 52 = .ok (.iload_n 2, 1) := by decide +kernel
theorem dX0_readVane_53 : decode cX0_readVane 53 = .ok (.invokevirtual 192, 3) := by decide +kernel
theorem dX0_readVane_56 : decode cX0_readVane 56 = .ok (.ifCond .eq 28, 3) := by decide +kernel
theorem dX0_readVane_59 : decode cX0_readVane 59 = .ok (.aload_n 0, 1) := by decide +kernel
theorem dX0_readVane_60 : decode cX0_readVane 60 = .ok (.getfield 46, 3) := by decide +kernel
theorem dX0_readVane_63 : decode cX0_readVane 63 = .ok (.dup, 1) := by decide +kernel
theorem dX0_readVane_64 : decode cX0_readVane 64 = .ok (.getfield 189, 3) := by decide +kernel
theorem dX0_readVane_67 : decode cX0_readVane 67 = .ok (.iconst 1, 1) := by decide +kernel
theorem dX0_readVane_68 : decode cX0_readVane 68 = .ok (.iload_n 2, 1) := by decide +kernel
theorem dX0_readVane_69 : decode cX0_readVane 69 = .ok (.ishl, 1) := by decide +kernel
theorem dX0_readVane_70 : decode cX0_readVane 70 = .ok (.ior, 1) := by decide +kernel
theorem dX0_readVane_71 : decode cX0_readVane 71 = .ok (.putfield 189, 3) := by decide +kernel
theorem dX0_readVane_74 : decode cX0_readVane 74 = .ok (.aload_n 0, 1) := by decide +kernel
theorem dX0_readVane_75 : decode cX0_readVane 75 = .ok (.getfield 46, 3) := by decide +kernel
theorem dX0_readVane_78 : decode cX0_readVane 78 = .ok (.getfield 196, 3) := by decide +kernel
theorem dX0_readVane_81 : decode cX0_readVane 81 = .ok (.iload_n 2, 1) := by decide +kernel
theorem dX0_readVane_82 : decode cX0_readVane 82 = .ok (.iload_n 3, 1) := by decide +kernel
theorem dX0_readVane_83 : decode cX0_readVane 83 = .ok (.iastore, 1) := by decide +kernel
theorem dX0_readVane_84 : decode cX0_readVane 84 = .ok (.return_, 1) := by decide +kernel
theorem dX0_readTree_0 : decode cX0_readTree 0 = .ok (.aload_n 0, 1) := by decide +kernel
theorem dX0_readTree_1 : decode cX0_readTree 1 = .ok (.getfield 21, 3) := by decide +kernel
theorem dX0_readTree_4 : decode cX0_readTree 4 = .ok (.bipush 12, 2) := by decide +kernel
theorem dX0_readTree_6 : decode cX0_readTree 6 = .ok (.if_icmp .lt 8, 3) := by decide +kernel
theorem dX0_readTree_9 : decode cX0_readTree 9 = .ok (.aload_n 1, 1) := by decide +kernel
theorem dX0_readTree_10 : decode cX0_readTree 10 = .ok (.iconst 4, 1) := by decide +kernel
theorem dX0_readTree_11 : decode cX0_readTree 11 = .ok (.invokevirtual 151, 3) := by decide +kernel
theorem dX0_readTree_14 : decode cX0_readTree 14 = .ok (.aload_n 0, 1) := by decide +kernel
theorem dX0_readTree_15 : decode cX0_readTree 15 = .ok (.aload_n 1, 1) := by decide +kernel
theorem dX0_readTree_16 : decode cX0_readTree 16 = .ok (.invokevirtual 163, 3) := by decide +kernel
theorem dX0_readTree_19 : decode cX0_readTree 19 = .ok (.istore_n 2, 1) := by decide +kernel
theorem dX0_readTree_20 : decode cX0_readTree 20 = .ok (.aload_n 1, 1) := by decide +kernel
theorem dX0_readTree_21 : decode cX0_readTree 21 = .ok (.aload_n 0, 1) := by decide +kernel
theorem dX0_readTree_22 : decode cX0_readTree 22 = .ok (.getfield 50, 3) := by decide +kernel
theorem dX0_readTree_25 : decode cX0_readTree 25 = .ok (.iload_n 2, 1) := by decide +kernel
theorem dX0_readTree_26 : decode cX0_readTree 26 = .ok (.invokestatic 167, 3) := by decide +kernel
theorem dX0_readTree_29 : decode cX0_readTree 29 = .ok (.aload_n 1, 1) := by decide +kernel
theorem dX0_readTree_30 : decode cX0_readTree 30 = .ok (.invokevirtual 148, 3) := by decide +kernel
theorem dX0_readTree_33 : decode cX0_readTree 33 = .ok (.ifCond .eq 55, 3) := by decide +kernel
theorem dX0_readTree_36 : decode cX0_readTree 36 = .ok (.aload_n 0, 1) := by decide +kernel
theorem dX0_readTree_37 : decode cX0_readTree 37 = .ok (.getfield 21, 3) := by decide +kernel
theorem dX0_readTree_40 : decode cX0_readTree 40 = .ok (.bipush 12, 2) := by decide +kernel
theorem dX0_readTree_42 : decode cX0_readTree 42 = .ok (.if_icmp .ge 46, 3) := by decide +kernel
theorem dX0_readTree_45 : decode cX0_readTree 45 = .ok (.iload_n 2, 1) := by decide +kernel
theorem dX0_readTree_46 : decode cX0_readTree 46 = .ok (.ifCond .lt 42, 3) := by decide +kernel
theorem dX0_readTree_49 : decode cX0_readTree 49 = .ok (.iload_n 2, 1) := by decide +kernel
theorem dX0_readTree_50 : decode cX0_readTree 50 = .ok (.bipush 100, 2) := by decide +kernel
theorem dX0_readTree_52 : decode cX0_readTree 52 = .ok (.if_icmp .ge 36, 3) := by decide +kernel
theorem dX0_readTree_55 : decode cX0_readTree 55 = .ok (.aload_n 0, 1) := by decide +kernel
theorem dX0_readTree_56 : decode cX0_readTree 56 = .ok (.getfield 50, 3) := by decide +kernel
theorem dX0_readTree_59 : decode cX0_readTree 59 = .ok (.iload_n 2, 1) := by decide +kernel
theorem dX0_readTree_60 : decode cX0_readTree 60 = .ok (.bipush 32, 2) := by decide +kernel
theorem dX0_readTree_62 : decode cX0_readTree 62 = .ok (.aload_n 0, 1) := by decide +kernel
theorem dX0_readTree_63 : decode cX0_readTree 63 = .ok (.getfield 21, 3) := by decide +kernel
theorem dX0_readTree_66 : decode cX0_readTree 66 = .ok (.iadd, 1) := by decide +kernel
theorem dX0_readTree_67 : decode cX0_readTree 67 = .ok (.iastore, 1) := by decide +kernel
theorem dX0_readTree_68 : decode cX0_readTree 68 = .ok (.aload_n 0, 1) := by decide +kernel
theorem dX0_readTree_69 : decode cX0_readTree 69 = .ok (.getfield 57, 3) := by decide +kernel
theorem dX0_readTree_72 : decode cX0_readTree 72 = .ok (.aload_n 0, 1) := by decide +kernel
theorem dX0_readTree_73 : decode cX0_readTree 73 = .ok (.getfield 21, 3) := by decide +kernel
theorem dX0_readTree_76 : decode cX0_readTree 76 = .ok (.iload_n 2, 1) := by decide +kernel
theorem dX0_readTree_77 : decode cX0_readTree 77 = .ok (.iastore, 1) := by decide +kernel
theorem dX0_readTree_78 : decode cX0_readTree 78 = .ok (.aload_n 0, 1) := by decide +kernel
theorem dX0_readTree_79 : decode cX0_readTree 79 = .ok (.dup, 1) := by decide +kernel
theorem dX0_readTree_80 : decode cX0_readTree 80 = .ok (.getfield 21, 3) := by decide +kernel
theorem dX0_readTree_83 : decode cX0_readTree 83 = .ok (.iconst 1, 1) := by decide +kernel
theorem dX0_readTree_84 : decode cX0_readTree 84 = .ok (.iadd, 1) := by decide +kernel
theorem dX0_readTree_85 : decode cX0_readTree 85 = .ok (.putfield 21, 3) := by decide +kernel
theorem dX0_readTree_88 : decode cX0_readTree 88 = .ok (.return_, 1) := by decide +kernel
theorem dX0_readFence_0 : decode cX0_readFence 0 = .ok (.aload_n 0, 1) := by decide +kernel
theorem dX0_readFence_1 : decode cX0_readFence 1 = .ok (.getfield 24, 3) := by decide +kernel
theorem dX0_readFence_4 : decode cX0_readFence 4 = .ok (.bipush 12, 2) := by decide +kernel
theorem dX0_readFence_6 : decode cX0_readFence 6 = .ok (.if_icmp .lt 8, 3) := by decide +kernel
theorem dX0_readFence_9 : decode cX0_readFence 9 = .ok (.aload_n 1, 1) := by decide +kernel
theorem dX0_readFence_10 : decode cX0_readFence 10 = .ok (.iconst 4, 1) := by decide +kernel
theorem dX0_readFence_11 : decode cX0_readFence 11 = .ok (.invokevirtual 151, 3) := by decide +kernel
theorem dX0_readFence_14 : decode cX0_readFence 14 = .ok (.aload_n 0, 1) := by decide +kernel
theorem dX0_readFence_15 : decode cX0_readFence 15 = .ok (.aload_n 1, 1) := by decide +kernel
theorem dX0_readFence_16 : decode cX0_readFence 16 = .ok (.invokevirtual 163, 3) := by decide +kernel
theorem dX0_readFence_19 : decode cX0_readFence 19 = .ok (.istore_n 2, 1) := by decide +kernel
theorem dX0_readFence_20 : decode cX0_readFence 20 = .ok (.aload_n 1, 1) := by decide +kernel
theorem dX0_readFence_21 : decode cX0_readFence 21 = .ok (.aload_n 0, 1) := by decide +kernel
theorem dX0_readFence_22 : decode cX0_readFence 22 = .ok (.getfield 50, 3) := by decide +kernel
theorem dX0_readFence_25 : decode cX0_readFence 25 = .ok (.iload_n 2, 1) := by decide +kernel
theorem dX0_readFence_26 : decode cX0_readFence 26 = .ok (.invokestatic 167, 3) := by decide +kernel
theorem dX0_readFence_29 : decode cX0_readFence 29 = .ok (.aload_n 1, 1) := by decide +kernel
theorem dX0_readFence_30 : decode cX0_readFence 30 = .ok (.invokevirtual 148, 3) := by decide +kernel
theorem dX0_readFence_33 : decode cX0_readFence 33 = .ok (.ifCond .eq 31, 3) := by decide +kernel
theorem dX0_readFence_36 : decode cX0_readFence 36 = .ok (.iload_n 2, 1) := by decide +kernel
theorem dX0_readFence_37 : decode cX0_readFence 37 = .ok (.ifCond .lt 27, 3) := by decide +kernel
theorem dX0_readFence_40 : decode cX0_readFence 40 = .ok (.iload_n 2, 1) := by decide +kernel
theorem dX0_readFence_41 : decode cX0_readFence 41 = .ok (.bipush 100, 2) := by decide +kernel
theorem dX0_readFence_43 : decode cX0_readFence 43 = .ok (.if_icmp .ge 21, 3) := by decide +kernel
theorem dX0_readFence_46 : decode cX0_readFence 46 = .ok (.aload_n 0, 1) := by decide +kernel
theorem dX0_readFence_47 : decode cX0_readFence 47 = .ok (.getfield 50, 3) := by decide +kernel
theorem dX0_readFence_50 : decode cX0_readFence 50 = .ok (.iload_n 2, 1) := by decide +kernel
theorem dX0_readFence_51 : decode cX0_readFence 51 = .ok (.bipush 48, 2) := by decide +kernel
theorem dX0_readFence_53 : decode cX0_readFence 53 = .ok (.iastore, 1) := by decide +kernel
theorem dX0_readFence_54 : decode cX0_readFence 54 = .ok (.aload_n 0, 1) := by decide +kernel
theorem dX0_readFence_55 : decode cX0_readFence 55 = .ok (.dup, 1) := by decide +kernel
theorem dX0_readFence_56 : decode cX0_readFence 56 = .ok (.getfield 24, 3) := by decide +kernel
theorem dX0_readFence_59 : decode cX0_readFence 59 = .ok (.iconst 1, 1) := by decide +kernel
theorem dX0_readFence_60 : decode cX0_readFence 60 = .ok (.iadd, 1) := by decide +kernel
theorem dX0_readFence_61 : decode cX0_readFence 61 = .ok (.putfield 24, 3) := by decide +kernel
theorem dX0_readFence_64 : decode cX0_readFence 64 = .ok (.return_, 1) := by decide +kernel
theorem dX0_readEddy_0 : decode cX0_readEddy 0 = .ok (.aload_n 0, 1) := by decide +kernel
theorem dX0_readEddy_1 : decode cX0_readEddy 1 = .ok (.getfield 27, 3) := by decide +kernel
theorem dX0_readEddy_4 : decode cX0_readEddy 4 = .ok (.bipush 8, 2) := by decide +kernel
theorem dX0_readEddy_6 : decode cX0_readEddy 6 = .ok (.if_icmp .lt 8, 3) := by decide +kernel
theorem dX0_readEddy_9 : decode cX0_readEddy 9 = .ok (.aload_n 1, 1) := by decide +kernel
theorem dX0_readEddy_10 : decode cX0_readEddy 10 = .ok (.iconst 4, 1) := by decide +kernel
theorem dX0_readEddy_11 : decode cX0_readEddy 11 = .ok (.invokevirtual 151, 3) := by decide +kernel
theorem dX0_readEddy_14 : decode cX0_readEddy 14 = .ok (.aload_n 0, 1) := by decide +kernel
theorem dX0_readEddy_15 : decode cX0_readEddy 15 = .ok (.aload_n 1, 1) := by decide +kernel
theorem dX0_readEddy_16 : decode cX0_readEddy 16 = .ok (.invokevirtual 163, 3) := by decide +kernel
theorem dX0_readEddy_19 : decode cX0_readEddy 19 = .ok (.istore_n 2, 1) := by decide +kernel
theorem dX0_readEddy_20 : decode cX0_readEddy 20 = .ok (.aload_n 1, 1) := by decide +kernel
theorem dX0_readEddy_21 : decode cX0_readEddy 21 = .ok (.aload_n 0, 1) := by decide +kernel
theorem dX0_readEddy_22 : decode cX0_readEddy 22 = .ok (.getfield 54, 3) := by decide +kernel
theorem dX0_readEddy_25 : decode cX0_readEddy 25 = .ok (.iload_n 2, 1) := by decide +kernel
theorem dX0_readEddy_26 : decode cX0_readEddy 26 = .ok (.invokestatic 167, 3) := by decide +kernel
theorem dX0_readEddy_29 : decode cX0_readEddy 29 = .ok (.aload_n 1, 1) := by decide +kernel
theorem dX0_readEddy_30 : decode cX0_readEddy 30 = .ok (.iconst 1, 1) := by decide +kernel
theorem dX0_readEddy_31 : decode cX0_readEddy 31 = .ok (.bipush 7, 2) := by decide +kernel
theorem dX0_readEddy_33 : decode cX0_readEddy 33 = .ok (.invokevirtual 145, 3) := by decide +kernel
theorem dX0_readEddy_36 : decode cX0_readEddy 36 = .ok (.istore_n 3, 1) := by decide +kernel
theorem dX0_readEddy_37 : decode cX0_readEddy 37 = .ok (.aload_n 1, 1) := by decide +kernel
theorem dX0_readEddy_38 : decode cX0_readEddy 38 = .ok (.invokevirtual 148, 3) := by decide +kernel
theorem dX0_readEddy_41 : decode cX0_readEddy 41 = .ok (.ifCond .eq 30, 3) := by decide +kernel
theorem dX0_readEddy_44 : decode cX0_readEddy 44 = .ok (.iload_n 2, 1) := by decide +kernel
theorem dX0_readEddy_45 : decode cX0_readEddy 45 = .ok (.ifCond .lt 26, 3) := by decide +kernel
theorem dX0_readEddy_48 : decode cX0_readEddy 48 = .ok (.iload_n 2, 1) := by decide +kernel
theorem dX0_readEddy_49 : decode cX0_readEddy 49 = .ok (.bipush 100, 2) := by decide +kernel
theorem dX0_readEddy_51 : decode cX0_readEddy 51 = .ok (.if_icmp .ge 20, 3) := by decide +kernel
theorem dX0_readEddy_54 : decode cX0_readEddy 54 = .ok (.aload_n 0, 1) := by decide +kernel
theorem dX0_readEddy_55 : decode cX0_readEddy 55 = .ok (.getfield 54, 3) := by decide +kernel
theorem dX0_readEddy_58 : decode cX0_readEddy 58 = .ok (.iload_n 2, 1) := by decide +kernel
theorem dX0_readEddy_59 : decode cX0_readEddy 59 = .ok (.iload_n 3, 1) := by decide +kernel
theorem dX0_readEddy_60 : decode cX0_readEddy 60 = .ok (.iastore, 1) := by decide +kernel
theorem dX0_readEddy_61 : decode cX0_readEddy 61 = .ok (.aload_n 0, 1) := by decide +kernel
theorem dX0_readEddy_62 : decode cX0_readEddy 62 = .ok (.dup, 1) := by decide +kernel
theorem dX0_readEddy_63 : decode cX0_readEddy 63 = .ok (.getfield 27, 3) := by decide +kernel
theorem dX0_readEddy_66 : decode cX0_readEddy 66 = .ok (.iconst 1, 1) := by decide +kernel
theorem dX0_readEddy_67 : decode cX0_readEddy 67 = .ok (.iadd, 1) := by decide +kernel
theorem dX0_readEddy_68 : decode cX0_readEddy 68 = .ok (.putfield 27, 3) := by decide +kernel
theorem dX0_readEddy_71 : decode cX0_readEddy 71 = .ok (.return_, 1) := by decide +kernel
theorem dX0_readGust_0 : decode cX0_readGust 0 = .ok (.aload_n 0, 1) := by decide +kernel
theorem dX0_readGust_1 : decode cX0_readGust 1 = .ok (.getfield 30, 3) := by decide +kernel
theorem dX0_readGust_4 : decode cX0_readGust 4 = .ok (.bipush 30, 2) := by decide +kernel
theorem dX0_readGust_6 : decode cX0_readGust 6 = .ok (.if_icmp .lt 8, 3) := by decide +kernel
theorem dX0_readGust_9 : decode cX0_readGust 9 = .ok (.aload_n 1, 1) := by decide +kernel
theorem dX0_readGust_10 : decode cX0_readGust 10 = .ok (.iconst 4, 1) := by decide +kernel
theorem dX0_readGust_11 : decode cX0_readGust 11 = .ok (.invokevirtual 151, 3) := by decide +kernel
theorem dX0_readGust_14 : decode cX0_readGust 14 = .ok (.aload_n 1, 1) := by decide +kernel
theorem dX0_readGust_15 : decode cX0_readGust 15 = .ok (.iconst 0, 1) := by decide +kernel
theorem dX0_readGust_16 : decode cX0_readGust 16 = .ok (.bipush 47, 2) := by decide +kernel
theorem dX0_readGust_18 : decode cX0_readGust 18 = .ok (.invokevirtual 145, 3) := by decide +kernel
theorem dX0_readGust_21 : decode cX0_readGust 21 = .ok (.istore_n 2, 1) := by decide +kernel
theorem dX0_readGust_22 : decode cX0_readGust 22 = .ok (.iload_n 2, 1) := by decide +kernel
theorem dX0_readGust_23 : decode cX0_readGust 23 = .ok (.ifCond .lt 23, 3) := by decide +kernel
theorem dX0_readGust_26 : decode cX0_readGust 26 = .ok (.iload_n 2, 1) := by decide +kernel
theorem dX0_readGust_27 : decode cX0_readGust 27 = .ok (.bipush 48, 2) := by decide +kernel
theorem dX0_readGust_29 : decode cX0_readGust 29 = .ok (.if_icmp .ge 17, 3) := by decide +kernel
theorem dX0_readGust_32 : decode cX0_readGust 32 = .ok (.aload_n 0, 1) := by decide +kernel
theorem dX0_readGust_33 : decode cX0_readGust 33 = .ok (.getfield 63, 3) := by decide +kernel
theorem dX0_readGust_36 : decode cX0_readGust 36 = .ok (.iload_n 2, 1) := by decide +kernel
theorem dX0_readGust_37 : decode cX0_readGust 37 = .ok (.iaload, 1) := by decide +kernel
theorem dX0_readGust_38 : decode cX0_readGust 38 = .ok (.ifCond .eq 8, 3) := by decide +kernel
theorem dX0_readGust_41 : decode cX0_readGust 41 = .ok (.aload_n 1, 1) := by decide +kernel
theorem dX0_readGust_42 : decode cX0_readGust 42 = .ok (.iconst 3, 1) := by decide +kernel
theorem dX0_readGust_43 : decode cX0_readGust 43 = .ok (.invokevirtual 151, 3) := by decide +kernel
theorem dX0_readGust_46 : decode cX0_readGust 46 = .ok (.aload_n 1, 1) := by decide +kernel
theorem dX0_readGust_47 : decode cX0_readGust 47 = .ok (.iconst 0, 1) := by decide +kernel
theorem dX0_readGust_48 : decode cX0_readGust 48 = .ok (.bipush 7, 2) := by decide +kernel
theorem dX0_readGust_50 : decode cX0_readGust 50 = .ok (.invokevirtual 145, 3) := by decide +kernel
theorem dX0_readGust_53 : decode cX0_readGust 53 = .ok (.istore_n 3, 1) := by decide +kernel
theorem dX0_readGust_54 : decode cX0_readGust 54 = .ok (.aload_n 1, 1) := by decide +kernel
theorem dX0_readGust_55 : decode cX0_readGust 55 = .ok (.iconst 1, 1) := by decide +kernel
theorem dX0_readGust_56 : decode cX0_readGust 56 = .ok (.bipush 9, 2) := by decide +kernel
theorem dX0_readGust_58 : decode cX0_readGust 58 = .ok (.invokevirtual 145, 3) := by decide +kernel
theorem dX0_readGust_61 : decode cX0_readGust 61 = .ok (.istore 4, 2) := by decide +kernel
theorem dX0_readGust_63 : decode cX0_readGust 63 = .ok (.aload_n 1, 1) := by decide +kernel
theorem dX0_readGust_64 : decode cX0_readGust 64 = .ok (.invokevirtual 148, 3) := by decide +kernel
theorem dX0_readGust_67 : decode cX0_readGust 67 = .ok (.ifCond .eq 38, 3) := by decide +kernel
theorem dX0_readGust_70 : decode cX0_readGust 70 = .ok (.iload_n 2, 1) := by decide +kernel
theorem dX0_readGust_71 : decode cX0_readGust 71 = .ok (.ifCond .lt 34, 3) := by decide +kernel
theorem dX0_readGust_74 : decode cX0_readGust 74 = .ok (.iload_n 2, 1) := by decide +kernel
theorem dX0_readGust_75 : decode cX0_readGust 75 = .ok (.bipush 48, 2) := by decide +kernel
theorem dX0_readGust_77 : decode cX0_readGust 77 = .ok (.if_icmp .ge 28, 3) := by decide +kernel
theorem dX0_readGust_80 : decode cX0_readGust 80 = .ok (.aload_n 0, 1) := by decide +kernel
theorem dX0_readGust_81 : decode cX0_readGust 81 = .ok (.getfield 60, 3) := by decide +kernel
theorem dX0_readGust_84 : decode cX0_readGust 84 = .ok (.iload_n 2, 1) := by decide +kernel
theorem dX0_readGust_85 : decode cX0_readGust 85 = .ok (.iload_n 3, 1) := by decide +kernel
theorem dX0_readGust_86 : decode cX0_readGust 86 = .ok (.iastore, 1) := by decide +kernel
theorem dX0_readGust_87 : decode cX0_readGust 87 = .ok (.aload_n 0, 1) := by decide +kernel
theorem dX0_readGust_88 : decode cX0_readGust 88 = .ok (.getfield 63, 3) := by decide +kernel
theorem dX0_readGust_91 : decode cX0_readGust 91 = .ok (.iload_n 2, 1) := by decide +kernel
theorem dX0_readGust_92 : decode cX0_readGust 92 = .ok (.iload 4, 2) := by decide +kernel
theorem dX0_readGust_94 : decode cX0_readGust 94 = .ok (.iastore, 1) := by decide +kernel
theorem dX0_readGust_95 : decode cX0_readGust 95 = .ok (.aload_n 0, 1) := by decide +kernel
theorem dX0_readGust_96 : decode cX0_readGust 96 = .ok (.dup, 1) := by decide +kernel
theorem dX0_readGust_97 : decode cX0_readGust 97 = .ok (.getfield 30, 3) := by decide +kernel
theorem dX0_readGust_100 : decode cX0_readGust 100 = .ok (.iconst 1, 1) := by decide +kernel
theorem dX0_readGust_101 : decode cX0_readGust 101 = .ok (.iadd, 1) := by decide +kernel
theorem dX0_readGust_102 : decode cX0_readGust 102 = .ok (.putfield 30, 3) := by decide +kernel
theorem dX0_readGust_105 : decode cX0_readGust 105 = .ok (.return_, 1) := by decide +kernel
theorem dX0_readPact_0 : decode cX0_readPact 0 = .ok (.aload_n 0, 1) := by decide +kernel
theorem dX0_readPact_1 : decode cX0_readPact 1 = .ok (.getfield 46, 3) := by decide +kernel
theorem dX0_readPact_4 : decode cX0_readPact 4 = .ok (.aload_n 1, 1) := by decide +kernel
theorem dX0_readPact_5 : decode cX0_readPact 5 = .ok (.invokevirtual 186, 3) := by decide +kernel
theorem dX0_readPact_8 : decode cX0_readPact 8 = .ok (.istore_n 2, 1) := by decide +kernel
theorem dX0_readPact_9 : decode cX0_readPact 9 = .ok (.aload_n 0, 1) := by decide +kernel
theorem dX0_readPact_10 : decode cX0_readPact 10 = .ok (.iload_n 2, 1) := by decide +kernel
theorem dX0_readPact_11 : decode cX0_readPact 11 = .ok (.invokevirtual 192, 3) := by decide +kernel
theorem dX0_readPact_14 : decode cX0_readPact 14 = .ok (.ifCond .eq 21, 3) := by decide +kernel
theorem dX0_readPact_17 : decode cX0_readPact 17 = .ok (.aload_n 0, 1) := by decide +kernel
theorem dX0_readPact_18 : decode cX0_readPact 18 = .ok (.getfield 46, 3) := by decide +kernel
theorem dX0_readPact_21 : decode cX0_readPact 21 = .ok (.getfield 199, 3) := by decide +kernel
theorem dX0_readPact_24 : decode cX0_readPact 24 = .ok (.iload_n 2, 1) := by decide +kernel
theorem dX0_readPact_25 : decode cX0_readPact 25 = .ok (.iaload, 1) := by decide +kernel
theorem dX0_readPact_26 : decode cX0_readPact 26 = .ok (.iconst (-1), 1) := by decide +kernel
theorem dX0_readPact_27 : decode cX0_readPact 27 = .ok (.if_icmp .eq 8, 3) := by decide +kernel
theorem dX0_readPact_30 : decode cX0_readPact 30 = .ok (.aload_n 1, 1) := by decide +kernel
theorem dX0_readPact_31 : decode cX0_readPact 31 = .ok (.iconst 3, 1) := by decide +kernel
theorem dX0_readPact_32 : decode cX0_readPact 32 = .ok (.invokevirtual 151, 3) := by decide +kernel
theorem dX0_readPact_35 : decode cX0_readPact 35 = .ok (.aload_n 0, 1) := by decide +kernel
theorem dX0_readPact_36 : decode cX0_readPact 36 = .ok (.getfield 46, 3) := by decide +kernel
theorem dX0_readPact_39 : decode cX0_readPact 39 = .ok (.aload_n 1, 1) := by decide +kernel
theorem dX0_readPact_40 : decode cX0_readPact 40 = .ok (.invokevirtual 186, 3) := by decide +kernel
theorem dX0_readPact_43 : decode cX0_readPact 43 = .ok (.istore_n 3, 1) := by decide +kernel
theorem dX0_readPact_44 : decode cX0_readPact 44 = .ok (.iload_n 2, 1) := by decide +kernel
theorem dX0_readPact_45 : decode cX0_readPact 45 = .ok (.iload_n 3, 1) := by decide +kernel
theorem dX0_readPact_46 : decode cX0_readPact 46 = .ok (.if_icmp .ne 8, 3) := by decide +kernel
theorem dX0_readPact_49 : decode cX0_readPact 49 = .ok (.aload_n 1, 1) := by decide +kernel
theorem dX0_readPact_50 : decode cX0_readPact 50 = .ok (.iconst 3, 1) := by decide +kernel
theorem dX0_readPact_51 : decode cX0_readPact 51 = .ok (.invokevirtual 151, 3) := by decide +kernel
theorem dX0_readPact_54 : decode cX0_readPact 54 = .ok (.aload_n 1, 1) := by decide +kernel
theorem dX0_readPact_55 : decode cX0_readPact 55 = .ok (.invokevirtual 148, 3) := by decide +kernel
theorem dX0_readPact_58 : decode cX0_readPact 58 = .ok (.ifCond .eq 21, 3) := by decide +kernel
theorem dX0_readPact_61 : decode cX0_readPact 61 = .ok (.aload_n 0, 1) := by decide +kernel
theorem dX0_readPact_62 : decode cX0_readPact 62 = .ok (.iload_n 2, 1) := by decide +kernel
theorem dX0_readPact_63 : decode cX0_readPact 63 = .ok (.invokevirtual 192, 3) := by decide +kernel
theorem dX0_readPact_66 : decode cX0_readPact 66 = .ok (.ifCond .eq 13, 3) := by decide +kernel
theorem dX0_readPact_69 : decode cX0_readPact 69 = .ok (.aload_n 0, 1) := by decide +kernel
theorem dX0_readPact_70 : decode cX0_readPact 70 = .ok (.getfield 46, 3) := by decide +kernel
theorem dX0_readPact_73 : decode cX0_readPact 73 = .ok (.getfield 199, 3) := by decide +kernel
theorem dX0_readPact_76 : decode cX0_readPact 76 = .ok (.iload_n 2, 1) := by decide +kernel
theorem dX0_readPact_77 : decode cX0_readPact 77 = .ok (.iload_n 3, 1) := by decide +kernel
theorem dX0_readPact_78 : decode cX0_readPact 78 = .ok (.iastore, 1) := by decide +kernel
theorem dX0_readPact_79 : decode cX0_readPact 79 = .ok (.return_, 1) := by decide +kernel
theorem dX1_hasPlotOn_0 : decode cX1_hasPlotOn 0 = .ok (.iconst 0, 1) := by decide +kernel
theorem dX1_hasPlotOn_1 : decode cX1_hasPlotOn 1 = .ok (.istore_n 2, 1) := by decide +kernel
theorem dX1_hasPlotOn_2 : decode cX1_hasPlotOn 2 = .ok (.iload_n 2, 1) := by decide +kernel
theorem dX1_hasPlotOn_3 : decode cX1_hasPlotOn 3 = .ok (.aload_n 0, 1) := by decide +kernel
theorem dX1_hasPlotOn_4 : decode cX1_hasPlotOn 4 = .ok (.getfield 9, 3) := by decide +kernel
theorem dX1_hasPlotOn_7 : decode cX1_hasPlotOn 7 = .ok (.if_icmp .ge 21, 3) := by decide +kernel
theorem dX1_hasPlotOn_10 : decode cX1_hasPlotOn 10 = .ok (.aload_n 0, 1) := by decide +kernel
theorem dX1_hasPlotOn_11 : decode cX1_hasPlotOn 11 = .ok (.getfield 40, 3) := by decide +kernel
theorem dX1_hasPlotOn_14 : decode cX1_hasPlotOn 14 = .ok (.iload_n 2, 1) := by decide +kernel
theorem dX1_hasPlotOn_15 : decode cX1_hasPlotOn 15 = .ok (.iaload, 1) := by decide +kernel
theorem dX1_hasPlotOn_16 : decode cX1_hasPlotOn 16 = .ok (.iload_n 1, 1) := by decide +kernel
theorem dX1_hasPlotOn_17 : decode cX1_hasPlotOn 17 = .ok (.if_icmp .ne 5, 3) := by decide +kernel
theorem dX1_hasPlotOn_20 : decode cX1_hasPlotOn 20 = .ok (.iconst 1, 1) := by decide +kernel
theorem dX1_hasPlotOn_21 : decode cX1_hasPlotOn 21 = .ok (.ireturn, 1) := by decide +kernel
theorem dX1_hasPlotOn_22 : decode cX1_hasPlotOn 22 = .ok (.iinc 2 1, 3) := by decide +kernel
theorem dX1_hasPlotOn_25 : decode cX1_hasPlotOn 25 = .ok (.goto (-23), 3) := by decide +kernel
theorem dX1_hasPlotOn_28 : decode cX1_hasPlotOn 28 = .ok (.iconst 0, 1) := by decide +kernel
theorem dX1_hasPlotOn_29 : decode cX1_hasPlotOn 29 = .ok (.ireturn, 1) := by decide +kernel
theorem dX0_readPlot_0 : decode cX0_readPlot 0 = .ok (.aload_n 0, 1) := by decide +kernel
theorem dX0_readPlot_1 : decode cX0_readPlot 1 = .ok (.getfield 46, 3) := by decide +kernel
theorem dX0_readPlot_4 : decode cX0_readPlot 4 = .ok (.aload_n 1, 1) := by decide +kernel
theorem dX0_readPlot_5 : decode cX0_readPlot 5 = .ok (.invokevirtual 186, 3) := by decide +kernel
theorem dX0_readPlot_8 : decode cX0_readPlot 8 = .ok (.istore_n 2, 1) := by decide +kernel
theorem dX0_readPlot_9 : decode cX0_readPlot 9 = .ok (.aload_n 0, 1) := by decide +kernel
theorem dX0_readPlot_10 : decode cX0_readPlot 10 = .ok (.iload_n 2, 1) := by decide +kernel
theorem dX0_readPlot_11 : decode cX0_readPlot 11 = .ok (.invokevirtual 192, 3) := by decide +kernel
theorem dX0_readPlot_14 : decode cX0_readPlot 14 = .ok (.ifCond .eq 21, 3) := by decide +kernel
theorem dX0_readPlot_17 : decode cX0_readPlot 17 = .ok (.aload_n 0, 1) := by decide +kernel
theorem dX0_readPlot_18 : decode cX0_readPlot 18 = .ok (.getfield 46, 3) := by decide +kernel
theorem dX0_readPlot_21 : decode cX0_readPlot 21 = .ok (.getfield 202, 3) := by decide +kernel
theorem dX0_readPlot_24 : decode cX0_readPlot 24 = .ok (.iload_n 2, 1) := by decide +kernel
theorem dX0_readPlot_25 : decode cX0_readPlot 25 = .ok (.iaload, 1) := by decide +kernel
theorem dX0_readPlot_26 : decode cX0_readPlot 26 = .ok (.iconst (-1), 1) := by decide +kernel
theorem dX0_readPlot_27 : decode cX0_readPlot 27 = .ok (.if_icmp .eq 8, 3) := by decide +kernel
theorem dX0_readPlot_30 : decode cX0_readPlot 30 = .ok (.aload_n 1, 1) := by decide +kernel
theorem dX0_readPlot_31 : decode cX0_readPlot 31 = .ok (.iconst 3, 1) := by decide +kernel
theorem dX0_readPlot_32 : decode cX0_readPlot 32 = .ok (.invokevirtual 151, 3) := by decide +kernel
theorem dX0_readPlot_35 : decode cX0_readPlot 35 = .ok (.aload_n 0, 1) := by decide +kernel
theorem dX0_readPlot_36 : decode cX0_readPlot 36 = .ok (.aload_n 1, 1) := by decide +kernel
theorem dX0_readPlot_37 : decode cX0_readPlot 37 = .ok (.invokevirtual 163, 3) := by decide +kernel
theorem dX0_readPlot_40 : decode cX0_readPlot 40 = .ok (.istore_n 3, 1) := by decide +kernel
theorem dX0_readPlot_41 : decode cX0_readPlot 41 = .ok (.aload_n 1, 1) := by decide +kernel
theorem dX0_readPlot_42 : decode cX0_readPlot 42 = .ok (.invokevirtual 148, 3) := by decide +kernel
theorem dX0_readPlot_45 : decode cX0_readPlot 45 = .ok (.ifCond .eq 19, 3) := by decide +kernel
theorem dX0_readPlot_48 : decode cX0_readPlot 48 = .ok (.aload_n 0, 1) := by decide +kernel
theorem dX0_readPlot_49 : decode cX0_readPlot 49 = .ok (.getfield 46, 3) := by decide +kernel
theorem dX0_readPlot_52 : decode cX0_readPlot 52 = .ok (.iload_n 3, 1) := by decide +kernel
theorem dX0_readPlot_53 : decode cX0_readPlot 53 = .ok (.invokevirtual 205, 3) := by decide +kernel
theorem dX0_readPlot_56 : decode cX0_readPlot 56 = .ok (.ifCond .eq 8, 3) := by decide +kernel
theorem dX0_readPlot_59 : decode cX0_readPlot 59 = .ok (.aload_n 1, 1) := by decide +kernel
theorem dX0_readPlot_60 : decode cX0_readPlot 60 = .ok (.iconst 3, 1) := by decide +kernel
theorem dX0_readPlot_61 : decode cX0_readPlot 61 = .ok (.invokevirtual 151, 3) := by decide +kernel
theorem dX0_readPlot_64 : decode cX0_readPlot 64 = .ok (.aload_n 1, 1) := by decide +kernel
theorem dX0_readPlot_65 : decode cX0_readPlot 65 = .ok (.invokevirtual 148, 3) := by decide +kernel
theorem dX0_readPlot_68 : decode cX0_readPlot 68 = .ok (.ifCond .eq 21, 3) := by decide +kernel
theorem dX0_readPlot_71 : decode cX0_readPlot 71 = .ok (.aload_n 0, 1) := by decide +kernel
theorem dX0_readPlot_72 : decode cX0_readPlot 72 = .ok (.iload_n 2, 1) := by decide +kernel
theorem dX0_readPlot_73 : decode cX0_readPlot 73 = .ok (.invokevirtual 192, 3) := by decide +kernel
theorem dX0_readPlot_76 : decode cX0_readPlot 76 = .ok (.ifCond .eq 13, 3) := by decide +kernel
theorem dX0_readPlot_79 : decode cX0_readPlot 79 = .ok (.aload_n 0, 1) := by decide +kernel
theorem dX0_readPlot_80 : decode cX0_readPlot 80 = .ok (.getfield 46, 3) := by decide +kernel
theorem dX0_readPlot_83 : decode cX0_readPlot 83 = .ok (.getfield 202, 3) := by decide +kernel
theorem dX0_readPlot_86 : decode cX0_readPlot 86 = .ok (.iload_n 2, 1) := by decide +kernel
theorem dX0_readPlot_87 : decode cX0_readPlot 87 = .ok (.iload_n 3, 1) := by decide +kernel
theorem dX0_readPlot_88 : decode cX0_readPlot 88 = .ok (.iastore, 1) := by decide +kernel
theorem dX0_readPlot_89 : decode cX0_readPlot 89 = .ok (.return_, 1) := by decide +kernel
theorem dX0_readRun_0 : decode cX0_readRun 0 = .ok (.aload_n 0, 1) := by decide +kernel
theorem dX0_readRun_1 : decode cX0_readRun 1 = .ok (.getfield 33, 3) := by decide +kernel
theorem dX0_readRun_4 : decode cX0_readRun 4 = .ok (.ifCond .eq 8, 3) := by decide +kernel
theorem dX0_readRun_7 : decode cX0_readRun 7 = .ok (.aload_n 1, 1) := by decide +kernel
theorem dX0_readRun_8 : decode cX0_readRun 8 = .ok (.iconst 3, 1) := by decide +kernel
theorem dX0_readRun_9 : decode cX0_readRun 9 = .ok (.invokevirtual 151, 3) := by decide +kernel
theorem dX0_readRun_12 : decode cX0_readRun 12 = .ok (.aload_n 1, 1) := by decide +kernel
theorem dX0_readRun_13 : decode cX0_readRun 13 = .ok (.iconst 0, 1) := by decide +kernel
theorem dX0_readRun_14 : decode cX0_readRun 14 = .ok (.bipush 99, 2) := by decide +kernel
theorem dX0_readRun_16 : decode cX0_readRun 16 = .ok (.invokevirtual 145, 3) := by decide +kernel
theorem dX0_readRun_19 : decode cX0_readRun 19 = .ok (.istore_n 2, 1) := by decide +kernel
theorem dX0_readRun_20 : decode cX0_readRun 20 = .ok (.aload_n 1, 1) := by decide +kernel
theorem dX0_readRun_21 : decode cX0_readRun 21 = .ok (.iconst 0, 1) := by decide +kernel
theorem dX0_readRun_22 : decode cX0_readRun 22 = .ok (.sipush 999, 3) := by decide +kernel
theorem dX0_readRun_25 : decode cX0_readRun 25 = .ok (.invokevirtual 145, 3) := by decide +kernel
theorem dX0_readRun_28 : decode cX0_readRun 28 = .ok (.istore_n 3, 1) := by decide +kernel
theorem dX0_readRun_29 : decode cX0_readRun 29 = .ok (.aload_n 1, 1) := by decide +kernel
theorem dX0_readRun_30 : decode cX0_readRun 30 = .ok (.invokevirtual 148, 3) := by decide +kernel
theorem dX0_readRun_33 : decode cX0_readRun 33 = .ok (.ifCond .eq 18, 3) := by decide +kernel
theorem dX0_readRun_36 : decode cX0_readRun 36 = .ok (.aload_n 0, 1) := by decide +kernel
theorem dX0_readRun_37 : decode cX0_readRun 37 = .ok (.iconst 1, 1) := by decide +kernel
theorem dX0_readRun_38 : decode cX0_readRun 38 = .ok (.putfield 33, 3) := by decide +kernel
theorem dX0_readRun_41 : decode cX0_readRun 41 = .ok (.aload_n 0, 1) := by decide +kernel
theorem dX0_readRun_42 : decode cX0_readRun 42 = .ok (.iload_n 2, 1) := by decide +kernel
theorem dX0_readRun_43 : decode cX0_readRun 43 = .ok (.putfield 37, 3) := by decide +kernel
theorem dX0_readRun_46 : decode cX0_readRun 46 = .ok (.aload_n 0, 1) := by decide +kernel
theorem dX0_readRun_47 : decode cX0_readRun 47 = .ok (.iload_n 3, 1) := by decide +kernel
theorem dX0_readRun_48 : decode cX0_readRun 48 = .ok (.putfield 40, 3) := by decide +kernel
theorem dX0_readRun_51 : decode cX0_readRun 51 = .ok (.return_, 1) := by decide +kernel
theorem dX0_readLine_0 : decode cX0_readLine 0 = .ok (.aload_n 1, 1) := by decide +kernel
theorem dX0_readLine_1 : decode cX0_readLine 1 = .ok (.iconst 0, 1) := by decide +kernel
theorem dX0_readLine_2 : decode cX0_readLine 2 = .ok (.bipush 9, 2) := by decide +kernel
theorem dX0_readLine_4 : decode cX0_readLine 4 = .ok (.invokevirtual 112, 3) := by decide +kernel
theorem dX0_readLine_7 : decode cX0_readLine 7 = .ok (.tableswitch 133 0 9 #[53, 61, 69, 77, 85, 93, 101, 109, 117, 125], 53) := by decide +kernel
theorem dX0_readLine_60 : decode cX0_readLine 60 = .ok (.aload_n 0, 1) := by decide +kernel
theorem dX0_readLine_61 : decode cX0_readLine 61 = .ok (.aload_n 1, 1) := by decide +kernel
theorem dX0_readLine_62 : decode cX0_readLine 62 = .ok (.invokevirtual 115, 3) := by decide +kernel
theorem dX0_readLine_65 : decode cX0_readLine 65 = .ok (.goto 75, 3) := by decide +kernel
theorem dX0_readLine_68 : decode cX0_readLine 68 = .ok (.aload_n 0, 1) := by decide +kernel
theorem dX0_readLine_69 : decode cX0_readLine 69 = .ok (.aload_n 1, 1) := by decide +kernel
theorem dX0_readLine_70 : decode cX0_readLine 70 = .ok (.invokevirtual 118, 3) := by decide +kernel
theorem dX0_readLine_73 : decode cX0_readLine 73 = .ok (.goto 67, 3) := by decide +kernel
theorem dX0_readLine_76 : decode cX0_readLine 76 = .ok (.aload_n 0, 1) := by decide +kernel
theorem dX0_readLine_77 : decode cX0_readLine 77 = .ok (.aload_n 1, 1) := by decide +kernel
theorem dX0_readLine_78 : decode cX0_readLine 78 = .ok (.invokevirtual 121, 3) := by decide +kernel
theorem dX0_readLine_81 : decode cX0_readLine 81 = .ok (.goto 59, 3) := by decide +kernel
theorem dX0_readLine_84 : decode cX0_readLine 84 = .ok (.aload_n 0, 1) := by decide +kernel
theorem dX0_readLine_85 : decode cX0_readLine 85 = .ok (.aload_n 1, 1) := by decide +kernel
theorem dX0_readLine_86 : decode cX0_readLine 86 = .ok (.invokevirtual 124, 3) := by decide +kernel
theorem dX0_readLine_89 : decode cX0_readLine 89 = .ok (.goto 51, 3) := by decide +kernel
theorem dX0_readLine_92 : decode cX0_readLine 92 = .ok (.aload_n 0, 1) := by decide +kernel
theorem dX0_readLine_93 : decode cX0_readLine 93 = .ok (.aload_n 1, 1) := by decide +kernel
theorem dX0_readLine_94 : decode cX0_readLine 94 = .ok (.invokevirtual 127, 3) := by decide +kernel
theorem dX0_readLine_97 : decode cX0_readLine 97 = .ok (.goto 43, 3) := by decide +kernel
theorem dX0_readLine_100 : decode cX0_readLine 100 = .ok (.aload_n 0, 1) := by decide +kernel
theorem dX0_readLine_101 : decode cX0_readLine 101 = .ok (.aload_n 1, 1) := by decide +kernel
theorem dX0_readLine_102 : decode cX0_readLine 102 = .ok (.invokevirtual 130, 3) := by decide +kernel
theorem dX0_readLine_105 : decode cX0_readLine 105 = .ok (.goto 35, 3) := by decide +kernel
theorem dX0_readLine_108 : decode cX0_readLine 108 = .ok (.aload_n 0, 1) := by decide +kernel
theorem dX0_readLine_109 : decode cX0_readLine 109 = .ok (.aload_n 1, 1) := by decide +kernel
theorem dX0_readLine_110 : decode cX0_readLine 110 = .ok (.invokevirtual 133, 3) := by decide +kernel
theorem dX0_readLine_113 : decode cX0_readLine 113 = .ok (.goto 27, 3) := by decide +kernel
theorem dX0_readLine_116 : decode cX0_readLine 116 = .ok (.aload_n 0, 1) := by decide +kernel
theorem dX0_readLine_117 : decode cX0_readLine 117 = .ok (.aload_n 1, 1) := by decide +kernel
theorem dX0_readLine_118 : decode cX0_readLine 118 = .ok (.invokevirtual 136, 3) := by decide +kernel
theorem dX0_readLine_121 : decode cX0_readLine 121 = .ok (.goto 19, 3) := by decide +kernel
theorem dX0_readLine_124 : decode cX0_readLine 124 = .ok (.aload_n 0, 1) := by decide +kernel
theorem dX0_readLine_125 : decode cX0_readLine 125 = .ok (.aload_n 1, 1) := by decide +kernel
theorem dX0_readLine_126 : decode cX0_readLine 126 = .ok (.invokevirtual 139, 3) := by decide +kernel
theorem dX0_readLine_129 : decode cX0_readLine 129 = .ok (.goto 11, 3) := by decide +kernel
theorem dX0_readLine_132 : decode cX0_readLine 132 = .ok (.aload_n 0, 1) := by decide +kernel
theorem dX0_readLine_133 : decode cX0_readLine 133 = .ok (.aload_n 1, 1) := by decide +kernel
theorem dX0_readLine_134 : decode cX0_readLine 134 = .ok (.invokevirtual 142, 3) := by decide +kernel
theorem dX0_readLine_137 : decode cX0_readLine 137 = .ok (.goto 3, 3) := by decide +kernel
theorem dX0_readLine_140 : decode cX0_readLine 140 = .ok (.return_, 1) := by decide +kernel
theorem dX1_sortByShare_0 : decode cX1_sortByShare 0 = .ok (.iconst 0, 1) := by decide +kernel
theorem dX1_sortByShare_1 : decode cX1_sortByShare 1 = .ok (.istore_n 1, 1) := by decide +kernel
theorem dX1_sortByShare_2 : decode cX1_sortByShare 2 = .ok (.iload_n 1, 1) := by decide +kernel
theorem dX1_sortByShare_3 : decode cX1_sortByShare 3 = .ok (.aload_n 0, 1) := by decide +kernel
theorem dX1_sortByShare_4 : decode cX1_sortByShare 4 = .ok (.getfield 9, 3) := by decide +kernel
theorem dX1_sortByShare_7 : decode cX1_sortByShare 7 = .ok (.if_icmp .ge 78, 3) := by decide +kernel
theorem dX1_sortByShare_10 : decode cX1_sortByShare 10 = .ok (.iconst 0, 1) := by decide +kernel
theorem dX1_sortByShare_11 : decode cX1_sortByShare 11 = .ok (.istore_n 2, 1) := by decide +kernel
theorem dX1_sortByShare_12 : decode cX1_sortByShare 12 = .ok (.iconst 0, 1) := by decide +kernel
theorem dX1_sortByShare_13 : decode cX1_sortByShare 13 = .ok (.istore_n 3, 1) := by decide +kernel
theorem dX1_sortByShare_14 : decode cX1_sortByShare 14 = .ok (.iload_n 3, 1) := by decide +kernel
theorem dX1_sortByShare_15 : decode cX1_sortByShare 15 = .ok (.aload_n 0, 1) := by decide +kernel
theorem dX1_sortByShare_16 : decode cX1_sortByShare 16 = .ok (.getfield 9, 3) := by decide +kernel
theorem dX1_sortByShare_19 : decode cX1_sortByShare 19 = .ok (.if_icmp .ge 47, 3) := by decide +kernel
theorem dX1_sortByShare_22 : decode cX1_sortByShare 22 = .ok (.aload_n 0, 1) := by decide +kernel
theorem dX1_sortByShare_23 : decode cX1_sortByShare 23 = .ok (.getfield 28, 3) := by decide +kernel
theorem dX1_sortByShare_26 : decode cX1_sortByShare 26 = .ok (.iload_n 3, 1) := by decide +kernel
theorem dX1_sortByShare_27 : decode cX1_sortByShare 27 = .ok (.iaload, 1) := by decide +kernel
theorem dX1_sortByShare_28 : decode cX1_sortByShare 28 = .ok (.aload_n 0, 1) := by decide +kernel
theorem dX1_sortByShare_29 : decode cX1_sortByShare 29 = .ok (.getfield 28, 3) := by decide +kernel
theorem dX1_sortByShare_32 : decode cX1_sortByShare 32 = .ok (.iload_n 1, 1) := by decide +kernel
