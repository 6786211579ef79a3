theorem dX10_feed_0 : decode cX10_feed 0 = .ok (.aload_n 0, 1) := by decide +kernel
theorem dX10_feed_1 : decode cX10_feed 1 = .ok (.getfield 13, 3) := by decide +kernel
theorem dX10_feed_4 : decode cX10_feed 4 = .ok (.sipush 920, 3) := by decide +kernel
theorem dX10_feed_7 : decode cX10_feed 7 = .ok (.if_icmp .le 5, 3) := by decide +kernel
theorem dX10_feed_10 : decode cX10_feed 10 = .ok (.iconst (-1), 1) := by decide +kernel
theorem dX10_feed_11 : decode cX10_feed 11 = .ok (.ireturn, 1) := by decide +kernel
theorem dX10_feed_12 : decode cX10_feed 12 = .ok (.aload_n 0, 1) := by decide +kernel
theorem dX10_feed_13 : decode cX10_feed 13 = .ok (.iload_n 1, 1) := by decide +kernel
theorem dX10_feed_14 : decode cX10_feed 14 = .ok (.invokevirtual 103, 3) := by decide +kernel
theorem dX10_feed_17 : decode cX10_feed 17 = .ok (.aload_n 0, 1) := by decide +kernel
theorem dX10_feed_18 : decode cX10_feed 18 = .ok (.iload_n 2, 1) := by decide +kernel
theorem dX10_feed_19 : decode cX10_feed 19 = .ok (.invokevirtual 103, 3) := by decide +kernel
theorem dX10_feed_22 : decode cX10_feed 22 = .ok (.aload_n 0, 1) := by decide +kernel
theorem dX10_feed_23 : decode cX10_feed 23 = .ok (.iload_n 3, 1) := by decide +kernel
theorem dX10_feed_24 : decode cX10_feed 24 = .ok (.invokevirtual 103, 3) := by decide +kernel
theorem dX10_feed_27 : decode cX10_feed 27 = .ok (.aload_n 0, 1) := by decide +kernel
theorem dX10_feed_28 : decode cX10_feed 28 = .ok (.iload 4, 2) := by decide +kernel
theorem dX10_feed_30 : decode cX10_feed 30 = .ok (.invokevirtual 103, 3) := by decide +kernel
theorem dX10_feed_33 : decode cX10_feed 33 = .ok (.aload_n 0, 1) := by decide +kernel
theorem dX10_feed_34 : decode cX10_feed 34 = .ok (.iload 5, 2) := by decide +kernel
theorem dX10_feed_36 : decode cX10_feed 36 = .ok (.invokevirtual 103, 3) := by decide +kernel
theorem dX10_feed_39 : decode cX10_feed 39 = .ok (.aload_n 0, 1) := by decide +kernel
theorem dX10_feed_40 : decode cX10_feed 40 = .ok (.getfield 13, 3) := by decide +kernel
theorem dX10_feed_43 : decode cX10_feed 43 = .ok (.ireturn, 1) := by decide +kernel
theorem dX10_putFour_0 : decode cX10_putFour 0 = .ok (.bipush 24, 2) := by decide +kernel
theorem dX10_putFour_2 : decode cX10_putFour 2 = .ok (.istore_n 2, 1) := by decide +kernel
theorem dX10_putFour_3 : decode cX10_putFour 3 = .ok (.iload_n 2, 1) := by decide +kernel
theorem dX10_putFour_4 : decode cX10_putFour 4 = .ok (.ifCond .lt 42, 3) := by decide +kernel
theorem dX10_putFour_7 : decode cX10_putFour 7 = .ok (.aload_n 0, 1) := by decide +kernel
theorem dX10_putFour_8 : decode cX10_putFour 8 = .ok (.getfield 13, 3) := by decide +kernel
theorem dX10_putFour_11 : decode cX10_putFour 11 = .ok (.sipush 940, 3) := by decide +kernel
theorem dX10_putFour_14 : decode cX10_putFour 14 = .ok (.if_icmp .ge 26, 3) := by decide +kernel
theorem dX10_putFour_17 : decode cX10_putFour 17 = .ok (.aload_n 0, 1) := by decide +kernel
theorem dX10_putFour_18 : decode cX10_putFour 18 = .ok (.getfield 9, 3) := by decide +kernel
theorem dX10_putFour_21 : decode cX10_putFour 21 = .ok (.aload_n 0, 1) := by decide +kernel
theorem dX10_putFour_22 : decode cX10_putFour 22 = .ok (.getfield 13, 3) := by decide +kernel
theorem dX10_putFour_25 : decode cX10_putFour 25 = .ok (.iload_n 1, 1) := by decide +kernel
theorem dX10_putFour_26 : decode cX10_putFour 26 = .ok (.iload_n 2, 1) := by decide +kernel
theorem dX10_putFour_27 : decode cX10_putFour 27 = .ok (.iushr, 1) := by decide +kernel
theorem dX10_putFour_28 : decode cX10_putFour 28 = .ok (.i2b, 1) := by decide +kernel
theorem dX10_putFour_29 : decode cX10_putFour 29 = .ok (.bastore, 1) := by decide +kernel
theorem dX10_putFour_30 : decode cX10_putFour 30 = .ok (.aload_n 0, 1) := by decide +kernel
theorem dX10_putFour_31 : decode cX10_putFour 31 = .ok (.dup, 1) := by decide +kernel
theorem dX10_putFour_32 : decode cX10_putFour 32 = .ok (.getfield 13, 3) := by decide +kernel
theorem dX10_putFour_35 : decode cX10_putFour 35 = .ok (.iconst 1, 1) := by decide +kernel
theorem dX10_putFour_36 : decode cX10_putFour 36 = .ok (.iadd, 1) := by decide +kernel
theorem dX10_putFour_37 : decode cX10_putFour 37 = .ok (.putfield 13, 3) := by decide +kernel
theorem dX10_putFour_40 : decode cX10_putFour 40 = .ok (.iinc 2 (-8), 3) := by decide +kernel
theorem dX10_putFour_43 : decode cX10_putFour 43 = .ok (.goto (-40), 3) := by decide +kernel
theorem dX10_putFour_46 : decode cX10_putFour 46 = .ok (.return_, 1) := by decide +kernel
theorem dX10_end_0 : decode cX10_end 0 = .ok (.iload_n 1, 1) := by decide +kernel
theorem dX10_end_1 : decode cX10_end 1 = .ok (.ifCond .lt 11, 3) := by decide +kernel
theorem dX10_end_4 : decode cX10_end 4 = .ok (.iload_n 1, 1) := by decide +kernel
theorem dX10_end_5 : decode cX10_end 5 = .ok (.aload_n 0, 1) := by decide +kernel
theorem dX10_end_6 : decode cX10_end 6 = .ok (.getfield 13, 3) := by decide +kernel
theorem dX10_end_9 : decode cX10_end 9 = .ok (.if_icmp .le 5, 3) := by decide +kernel
theorem dX10_end_12 : decode cX10_end 12 = .ok (.iconst 0, 1) := by decide +kernel
theorem dX10_end_13 : decode cX10_end 13 = .ok (.ireturn, 1) := by decide +kernel
theorem dX10_end_14 : decode cX10_end 14 = .ok (.aload_n 0, 1) := by decide +kernel
theorem dX10_end_15 : decode cX10_end 15 = .ok (.iload_n 1, 1) := by decide +kernel
theorem dX10_end_16 : decode cX10_end 16 = .ok (.putfield 13, 3) := by decide +kernel
theorem dX10_end_19 : decode cX10_end 19 = .ok (.iconst 1, 1) := by decide +kernel
theorem dX10_end_20 : decode cX10_end 20 = .ok (.ireturn, 1) := by decide +kernel
theorem dX10_splitTape_0 : decode cX10_splitTape 0 = .ok (.aload_n 0, 1) := by decide +kernel
theorem dX10_splitTape_1 : decode cX10_splitTape 1 = .ok (.getfield 20, 3) := by decide +kernel
theorem dX10_splitTape_4 : decode cX10_splitTape 4 = .ok (.aload_n 0, 1) := by decide +kernel
theorem dX10_splitTape_5 : decode cX10_splitTape 5 = .ok (.getfield 9, 3) := by decide +kernel
theorem dX10_splitTape_8 : decode cX10_splitTape 8 = .ok (.aload_n 0, 1) := by decide +kernel
theorem dX10_splitTape_9 : decode cX10_splitTape 9 = .ok (.getfield 13, 3) := by decide +kernel
theorem dX10_splitTape_12 : decode cX10_splitTape 12 = .ok (.iload_n 1, 1) := by decide +kernel
theorem dX10_splitTape_13 : decode cX10_splitTape 13 = .ok (.invokevirtual 107, 3) := by decide +kernel
theorem dX10_splitTape_16 : decode cX10_splitTape 16 = .ok (.aload_n 0, 1) := by decide +kernel
theorem dX10_splitTape_17 : decode cX10_splitTape 17 = .ok (.iconst 0, 1) := by decide +kernel
theorem dX10_splitTape_18 : decode cX10_splitTape 18 = .ok (.putfield 13, 3) := by decide +kernel
theorem dX10_splitTape_21 : decode cX10_splitTape 21 = .ok (.return_, 1) := by decide +kernel
theorem dX10_bank_0 : decode cX10_bank 0 = .ok (.aload_n 0, 1) := by decide +kernel
theorem dX10_bank_1 : decode cX10_bank 1 = .ok (.sipush 900, 3) := by decide +kernel
theorem dX10_bank_4 : decode cX10_bank 4 = .ok (.invokevirtual 111, 3) := by decide +kernel
theorem dX10_bank_7 : decode cX10_bank 7 = .ok (.aload_n 0, 1) := by decide +kernel
theorem dX10_bank_8 : decode cX10_bank 8 = .ok (.getfield 41, 3) := by decide +kernel
theorem dX10_bank_11 : decode cX10_bank 11 = .ok (.aload_n 0, 1) := by decide +kernel
theorem dX10_bank_12 : decode cX10_bank 12 = .ok (.getfield 20, 3) := by decide +kernel
theorem dX10_bank_15 : decode cX10_bank 15 = .ok (.invokevirtual 114, 3) := by decide +kernel
theorem dX10_bank_18 : decode cX10_bank 18 = .ok (.aload_n 0, 1) := by decide +kernel
theorem dX10_bank_19 : decode cX10_bank 19 = .ok (.aload_n 0, 1) := by decide +kernel
theorem dX10_bank_20 : decode cX10_bank 20 = .ok (.getfield 20, 3) := by decide +kernel
theorem dX10_bank_23 : decode cX10_bank 23 = .ok (.getfield 118, 3) := by decide +kernel
theorem dX10_bank_26 : decode cX10_bank 26 = .ok (.putfield 24, 3) := by decide +kernel
theorem dX10_bank_29 : decode cX10_bank 29 = .ok (.aload_n 0, 1) := by decide +kernel
theorem dX10_bank_30 : decode cX10_bank 30 = .ok (.getfield 24, 3) := by decide +kernel
theorem dX10_bank_33 : decode cX10_bank 33 = .ok (.ifCond .eq 13, 3) := by decide +kernel
theorem dX10_bank_36 : decode cX10_bank 36 = .ok (.iconst (-1), 1) := by decide +kernel
theorem dX10_bank_37 : decode cX10_bank 37 = .ok (.aload_n 0, 1) := by decide +kernel
theorem dX10_bank_38 : decode cX10_bank 38 = .ok (.getfield 20, 3) := by decide +kernel
theorem dX10_bank_41 : decode cX10_bank 41 = .ok (.getfield 121, 3) := by decide +kernel
theorem dX10_bank_44 : decode cX10_bank 44 = .ok (.isub, 1) := by decide +kernel
theorem dX10_bank_45 : decode cX10_bank 45 = .ok (.ireturn, 1) := by decide +kernel
theorem dX10_bank_46 : decode cX10_bank 46 = .ok (.aload_n 0, 1) := by decide +kernel
theorem dX10_bank_47 : decode cX10_bank 47 = .ok (.getfield 30, 3) := by decide +kernel
theorem dX10_bank_50 : decode cX10_bank 50 = .ok (.getfield 124, 3) := by decide +kernel
theorem dX10_bank_53 : decode cX10_bank 53 = .ok (.astore_n 1, 1) := by decide +kernel
theorem dX10_bank_54 : decode cX10_bank 54 = .ok (.aload_n 0, 1) := by decide +kernel
theorem dX10_bank_55 : decode cX10_bank 55 = .ok (.getfield 30, 3) := by decide +kernel
theorem dX10_bank_58 : decode cX10_bank 58 = .ok (.aload_n 0, 1) := by decide +kernel
theorem dX10_bank_59 : decode cX10_bank 59 = .ok (.getfield 41, 3) := by decide +kernel
theorem dX10_bank_62 : decode cX10_bank 62 = .ok (.putfield 124, 3) := by decide +kernel
theorem dX10_bank_65 : decode cX10_bank 65 = .ok (.aload_n 0, 1) := by decide +kernel
theorem dX10_bank_66 : decode cX10_bank 66 = .ok (.aload_n 1, 1) := by decide +kernel
theorem dX10_bank_67 : decode cX10_bank 67 = .ok (.putfield 41, 3) := by decide +kernel
theorem dX10_bank_70 : decode cX10_bank 70 = .ok (.aload_n 0, 1) := by decide +kernel
theorem dX10_bank_71 : decode cX10_bank 71 = .ok (.getfield 30, 3) := by decide +kernel
theorem dX10_bank_74 : decode cX10_bank 74 = .ok (.getfield 127, 3) := by decide +kernel
theorem dX10_bank_77 : decode cX10_bank 77 = .ok (.aload_n 0, 1) := by decide +kernel
theorem dX10_bank_78 : decode cX10_bank 78 = .ok (.getfield 30, 3) := by decide +kernel
theorem dX10_bank_81 : decode cX10_bank 81 = .ok (.getfield 124, 3) := by decide +kernel
theorem dX10_bank_84 : decode cX10_bank 84 = .ok (.invokevirtual 130, 3) := by decide +kernel
theorem dX10_bank_87 : decode cX10_bank 87 = .ok (.aload_n 0, 1) := by decide +kernel
theorem dX10_bank_88 : decode cX10_bank 88 = .ok (.getfield 30, 3) := by decide +kernel
theorem dX10_bank_91 : decode cX10_bank 91 = .ok (.getfield 134, 3) := by decide +kernel
theorem dX10_bank_94 : decode cX10_bank 94 = .ok (.iconst 0, 1) := by decide +kernel
theorem dX10_bank_95 : decode cX10_bank 95 = .ok (.putfield 137, 3) := by decide +kernel
theorem dX10_bank_98 : decode cX10_bank 98 = .ok (.aload_n 0, 1) := by decide +kernel
theorem dX10_bank_99 : decode cX10_bank 99 = .ok (.getfield 30, 3) := by decide +kernel
theorem dX10_bank_102 : decode cX10_bank 102 = .ok (.getfield 140, 3) := by decide +kernel
theorem dX10_bank_105 : decode cX10_bank 105 = .ok (.iconst 0, 1) := by decide +kernel
theorem dX10_bank_106 : decode cX10_bank 106 = .ok (.putfield 143, 3) := by decide +kernel
theorem dX10_bank_109 : decode cX10_bank 109 = .ok (.aload_n 0, 1) := by decide +kernel
theorem dX10_bank_110 : decode cX10_bank 110 = .ok (.getfield 62, 3) := by decide +kernel
theorem dX10_bank_113 : decode cX10_bank 113 = .ok (.invokevirtual 146, 3) := by decide +kernel
theorem dX10_bank_116 : decode cX10_bank 116 = .ok (.aload_n 0, 1) := by decide +kernel
theorem dX10_bank_117 : decode cX10_bank 117 = .ok (.getfield 76, 3) := by decide +kernel
theorem dX10_bank_120 : decode cX10_bank 120 = .ok (.iconst 0, 1) := by decide +kernel
theorem dX10_bank_121 : decode cX10_bank 121 = .ok (.putfield 149, 3) := by decide +kernel
theorem dX10_bank_124 : decode cX10_bank 124 = .ok (.aload_n 0, 1) := by decide +kernel
theorem dX10_bank_125 : decode cX10_bank 125 = .ok (.getfield 30, 3) := by decide +kernel
theorem dX10_bank_128 : decode cX10_bank 128 = .ok (.getfield 124, 3) := by decide +kernel
theorem dX10_bank_131 : decode cX10_bank 131 = .ok (.getfield 153, 3) := by decide +kernel
theorem dX10_bank_134 : decode cX10_bank 134 = .ok (.ireturn, 1) := by decide +kernel
theorem dX10_plan_0 : decode cX10_plan 0 = .ok (.aload_n 0, 1) := by decide +kernel
theorem dX10_plan_1 : decode cX10_plan 1 = .ok (.sipush 400, 3) := by decide +kernel
theorem dX10_plan_4 : decode cX10_plan 4 = .ok (.invokevirtual 111, 3) := by decide +kernel
theorem dX10_plan_7 : decode cX10_plan 7 = .ok (.aload_n 0, 1) := by decide +kernel
theorem dX10_plan_8 : decode cX10_plan 8 = .ok (.getfield 48, 3) := by decide +kernel
theorem dX10_plan_11 : decode cX10_plan 11 = .ok (.aload_n 0, 1) := by decide +kernel
theorem dX10_plan_12 : decode cX10_plan 12 = .ok (.getfield 20, 3) := by decide +kernel
theorem dX10_plan_15 : decode cX10_plan 15 = .ok (.aload_n 0, 1) := by decide +kernel
theorem dX10_plan_16 : decode cX10_plan 16 = .ok (.getfield 30, 3) := by decide +kernel
theorem dX10_plan_19 : decode cX10_plan 19 = .ok (.getfield 124, 3) := by decide +kernel
theorem dX10_plan_22 : decode cX10_plan 22 = .ok (.invokevirtual 154, 3) := by decide +kernel
theorem dX10_plan_25 : decode cX10_plan 25 = .ok (.aload_n 0, 1) := by decide +kernel
theorem dX10_plan_26 : decode cX10_plan 26 = .ok (.aload_n 0, 1) := by decide +kernel
theorem dX10_plan_27 : decode cX10_plan 27 = .ok (.getfield 20, 3) := by decide +kernel
theorem dX10_plan_30 : decode cX10_plan 30 = .ok (.getfield 118, 3) := by decide +kernel
theorem dX10_plan_33 : decode cX10_plan 33 = .ok (.putfield 24, 3) := by decide +kernel
theorem dX10_plan_36 : decode cX10_plan 36 = .ok (.aload_n 0, 1) := by decide +kernel
theorem dX10_plan_37 : decode cX10_plan 37 = .ok (.getfield 24, 3) := by decide +kernel
theorem dX10_plan_40 : decode cX10_plan 40 = .ok (.ifCond .eq 13, 3) := by decide +kernel
theorem dX10_plan_43 : decode cX10_plan 43 = .ok (.iconst (-1), 1) := by decide +kernel
theorem dX10_plan_44 : decode cX10_plan 44 = .ok (.aload_n 0, 1) := by decide +kernel
theorem dX10_plan_45 : decode cX10_plan 45 = .ok (.getfield 20, 3) := by decide +kernel
theorem dX10_plan_48 : decode cX10_plan 48 = .ok (.getfield 121, 3) := by decide +kernel
theorem dX10_plan_51 : decode cX10_plan 51 = .ok (.isub, 1) := by decide +kernel
theorem dX10_plan_52 : decode cX10_plan 52 = .ok (.ireturn, 1) := by decide +kernel
theorem dX10_plan_53 : decode cX10_plan 53 = .ok (.aload_n 0, 1) := by decide +kernel
theorem dX10_plan_54 : decode cX10_plan 54 = .ok (.getfield 30, 3) := by decide +kernel
theorem dX10_plan_57 : decode cX10_plan 57 = .ok (.getfield 134, 3) := by decide +kernel
theorem dX10_plan_60 : decode cX10_plan 60 = .ok (.astore_n 1, 1) := by decide +kernel
theorem dX10_plan_61 : decode cX10_plan 61 = .ok (.aload_n 0, 1) := by decide +kernel
theorem dX10_plan_62 : decode cX10_plan 62 = .ok (.getfield 30, 3) := by decide +kernel
theorem dX10_plan_65 : decode cX10_plan 65 = .ok (.aload_n 0, 1) := by decide +kernel
theorem dX10_plan_66 : decode cX10_plan 66 = .ok (.getfield 48, 3) := by decide +kernel
theorem dX10_plan_69 : decode cX10_plan 69 = .ok (.putfield 134, 3) := by decide +kernel
theorem dX10_plan_72 : decode cX10_plan 72 = .ok (.aload_n 0, 1) := by decide +kernel
theorem dX10_plan_73 : decode cX10_plan 73 = .ok (.aload_n 1, 1) := by decide +kernel
theorem dX10_plan_74 : decode cX10_plan 74 = .ok (.putfield 48, 3) := by decide +kernel
theorem dX10_plan_77 : decode cX10_plan 77 = .ok (.aload_n 0, 1) := by decide +kernel
theorem dX10_plan_78 : decode cX10_plan 78 = .ok (.getfield 30, 3) := by decide +kernel
theorem dX10_plan_81 : decode cX10_plan 81 = .ok (.getfield 134, 3) := by decide +kernel
theorem dX10_plan_84 : decode cX10_plan 84 = .ok (.getfield 137, 3) := by decide +kernel
theorem dX10_plan_87 : decode cX10_plan 87 = .ok (.ireturn, 1) := by decide +kernel
theorem dX10_sentence_0 : decode cX10_sentence 0 = .ok (.aload_n 0, 1) := by decide +kernel
theorem dX10_sentence_1 : decode cX10_sentence 1 = .ok (.sipush 200, 3) := by decide +kernel
theorem dX10_sentence_4 : decode cX10_sentence 4 = .ok (.invokevirtual 111, 3) := by decide +kernel
theorem dX10_sentence_7 : decode cX10_sentence 7 = .ok (.aload_n 0, 1) := by decide +kernel
theorem dX10_sentence_8 : decode cX10_sentence 8 = .ok (.getfield 55, 3) := by decide +kernel
theorem dX10_sentence_11 : decode cX10_sentence 11 = .ok (.aload_n 0, 1) := by decide +kernel
theorem dX10_sentence_12 : decode cX10_sentence 12 = .ok (.getfield 20, 3) := by decide +kernel
theorem dX10_sentence_15 : decode cX10_sentence 15 = .ok (.invokevirtual 157, 3) := by decide +kernel
theorem dX10_sentence_18 : decode cX10_sentence 18 = .ok (.aload_n 0, 1) := by decide +kernel
theorem dX10_sentence_19 : decode cX10_sentence 19 = .ok (.aload_n 0, 1) := by decide +kernel
theorem dX10_sentence_20 : decode cX10_sentence 20 = .ok (.getfield 20, 3) := by decide +kernel
theorem dX10_sentence_23 : decode cX10_sentence 23 = .ok (.getfield 118, 3) := by decide +kernel
theorem dX10_sentence_26 : decode cX10_sentence 26 = .ok (.putfield 24, 3) := by decide +kernel
theorem dX10_sentence_29 : decode cX10_sentence 29 = .ok (.aload_n 0, 1) := by decide +kernel
theorem dX10_sentence_30 : decode cX10_sentence 30 = .ok (.getfield 24, 3) := by decide +kernel
theorem dX10_sentence_33 : decode cX10_sentence 33 = .ok (.ifCond .eq 13, 3) := by decide +kernel
theorem dX10_sentence_36 : decode cX10_sentence 36 = .ok (.iconst (-1), 1) := by decide +kernel
theorem dX10_sentence_37 : decode cX10_sentence 37 = .ok (.aload_n 0, 1) := by decide +kernel
theorem dX10_sentence_38 : decode cX10_sentence 38 = .ok (.getfield 20, 3) := by decide +kernel
theorem dX10_sentence_41 : decode cX10_sentence 41 = .ok (.getfield 121, 3) := by decide +kernel
theorem dX10_sentence_44 : decode cX10_sentence 44 = .ok (.isub, 1) := by decide +kernel
theorem dX10_sentence_45 : decode cX10_sentence 45 = .ok (.ireturn, 1) := by decide +kernel
theorem dX10_sentence_46 : decode cX10_sentence 46 = .ok (.aload_n 0, 1) := by decide +kernel
theorem dX10_sentence_47 : decode cX10_sentence 47 = .ok (.getfield 30, 3) := by decide +kernel
theorem dX10_sentence_50 : decode cX10_sentence 50 = .ok (.getfield 140, 3) := by decide +kernel
theorem dX10_sentence_53 : decode cX10_sentence 53 = .ok (.astore_n 1, 1) := by decide +kernel
theorem dX10_sentence_54 : decode cX10_sentence 54 = .ok (.aload_n 0, 1) := by decide +kernel
theorem dX10_sentence_55 : decode cX10_sentence 55 = .ok (.getfield 30, 3) := by decide +kernel
theorem dX10_sentence_58 : decode cX10_sentence 58 = .ok (.aload_n 0, 1) := by decide +kernel
theorem dX10_sentence_59 : decode cX10_sentence 59 = .ok (.getfield 55, 3) := by decide +kernel
theorem dX10_sentence_62 : decode cX10_sentence 62 = .ok (.putfield 140, 3) := by decide +kernel
theorem dX10_sentence_65 : decode cX10_sentence 65 = .ok (.aload_n 0, 1) := by decide +kernel
theorem dX10_sentence_66 : decode cX10_sentence 66 = .ok (.aload_n 1, 1) := by decide +kernel
theorem dX10_sentence_67 : decode cX10_sentence 67 = .ok (.putfield 55, 3) := by decide +kernel
theorem dX10_sentence_70 : decode cX10_sentence 70 = .ok (.aload_n 0, 1) := by decide +kernel
theorem dX10_sentence_71 : decode cX10_sentence 71 = .ok (.getfield 30, 3) := by decide +kernel
theorem dX10_sentence_74 : decode cX10_sentence 74 = .ok (.getfield 140, 3) := by decide +kernel
theorem dX10_sentence_77 : decode cX10_sentence 77 = .ok (.getfield 143, 3) := by decide +kernel
theorem dX10_sentence_80 : decode cX10_sentence 80 = .ok (.ireturn, 1) := by decide +kernel
theorem dX10_fault_0 : decode cX10_fault 0 = .ok (.aload_n 0, 1) := by decide +kernel
theorem dX10_fault_1 : decode cX10_fault 1 = .ok (.getfield 24, 3) := by decide +kernel
theorem dX10_fault_4 : decode cX10_fault 4 = .ok (.ireturn, 1) := by decide +kernel
theorem dX10_gust_0 : decode cX10_gust 0 = .ok (.iload_n 1, 1) := by decide +kernel
theorem dX10_gust_1 : decode cX10_gust 1 = .ok (.ifCond .lt 24, 3) := by decide +kernel
theorem dX10_gust_4 : decode cX10_gust 4 = .ok (.iload_n 1, 1) := by decide +kernel
theorem dX10_gust_5 : decode cX10_gust 5 = .ok (.bipush 48, 2) := by decide +kernel
theorem dX10_gust_7 : decode cX10_gust 7 = .ok (.if_icmp .ge 18, 3) := by decide +kernel
theorem dX10_gust_10 : decode cX10_gust 10 = .ok (.aload_n 0, 1) := by decide +kernel
theorem dX10_gust_11 : decode cX10_gust 11 = .ok (.getfield 30, 3) := by decide +kernel
theorem dX10_gust_14 : decode cX10_gust 14 = .ok (.getfield 124, 3) := by decide +kernel
theorem dX10_gust_17 : decode cX10_gust 17 = .ok (.getfield 213, 3) := by decide +kernel
theorem dX10_gust_20 : decode cX10_gust 20 = .ok (.iload_n 1, 1) := by decide +kernel
theorem dX10_gust_21 : decode cX10_gust 21 = .ok (.iaload, 1) := by decide +kernel
theorem dX10_gust_22 : decode cX10_gust 22 = .ok (.ifCond .ne 5, 3) := by decide +kernel
theorem dX10_gust_25 : decode cX10_gust 25 = .ok (.iconst (-1), 1) := by decide +kernel
theorem dX10_gust_26 : decode cX10_gust 26 = .ok (.ireturn, 1) := by decide +kernel
theorem dX10_gust_27 : decode cX10_gust 27 = .ok (.iload_n 2, 1) := by decide +kernel
theorem dX10_gust_28 : decode cX10_gust 28 = .ok (.lookupswitch 54 #[(0, 28), (1, 41)], 28) := by decide +kernel
theorem dX10_gust_56 : decode cX10_gust 56 = .ok (.aload_n 0, 1) := by decide +kernel
theorem dX10_gust_57 : decode cX10_gust 57 = .ok (.getfield 30, 3) := by decide +kernel
theorem dX10_gust_60 : decode cX10_gust 60 = .ok (.getfield 124, 3) := by decide +kernel
theorem dX10_gust_63 : decode cX10_gust 63 = .ok (.getfield 216, 3) := by decide +kernel
theorem dX10_gust_66 : decode cX10_gust 66 = .ok (.iload_n 1, 1) := by decide +kernel
theorem dX10_gust_67 : decode cX10_gust 67 = .ok (.iaload, 1) := by decide +kernel
theorem dX10_gust_68 : decode cX10_gust 68 = .ok (.ireturn, 1) := by decide +kernel
theorem dX10_gust_69 : decode cX10_gust 69 = .ok (.aload_n 0, 1) := by decide +kernel
theorem dX10_gust_70 : decode cX10_gust 70 = .ok (.getfield 30, 3) := by decide +kernel
theorem dX10_gust_73 : decode cX10_gust 73 = .ok (.getfield 124, 3) := by decide +kernel
theorem dX10_gust_76 : decode cX10_gust 76 = .ok (.getfield 213, 3) := by decide +kernel
theorem dX10_gust_79 : decode cX10_gust 79 = .ok (.iload_n 1, 1) := by decide +kernel
theorem dX10_gust_80 : decode cX10_gust 80 = .ok (.iaload, 1) := by decide +kernel
theorem dX10_gust_81 : decode cX10_gust 81 = .ok (.ireturn, 1) := by decide +kernel
theorem dX10_gust_82 : decode cX10_gust 82 = .ok (.iconst (-1), 1) := by decide +kernel
theorem dX10_gust_83 : decode cX10_gust 83 = .ok (.ireturn, 1) := by decide +kernel
theorem dX10_now_0 : decode cX10_now 0 = .ok (.aload_n 0, 1) := by decide +kernel
theorem dX10_now_1 : decode cX10_now 1 = .ok (.getfield 30, 3) := by decide +kernel
theorem dX10_now_4 : decode cX10_now 4 = .ok (.getfield 127, 3) := by decide +kernel
theorem dX10_now_7 : decode cX10_now 7 = .ok (.astore_n 2, 1) := by decide +kernel
theorem dX10_now_8 : decode cX10_now 8 = .ok (.iload_n 1, 1) := by decide +kernel
theorem dX10_now_9 : decode cX10_now 9 = .ok (.tableswitch 96 0 7 #[47, 52, 57, 65, 73, 78, 86, 91], 47) := by decide +kernel
theorem dX10_now_56 : decode cX10_now 56 = .ok (.aload_n 2, 1) := by decide +kernel
theorem dX10_now_57 : decode cX10_now 57 = .ok (.getfield 219, 3) := by decide +kernel
theorem dX10_now_60 : decode cX10_now 60 = .ok (.ireturn, 1) := by decide +kernel
theorem dX10_now_61 : decode cX10_now 61 = .ok (.aload_n 2, 1) := by decide +kernel
theorem dX10_now_62 : decode cX10_now 62 = .ok (.getfield 222, 3) := by decide +kernel
theorem dX10_now_65 : decode cX10_now 65 = .ok (.ireturn, 1) := by decide +kernel
theorem dX10_now_66 : decode cX10_now 66 = .ok (.aload_n 2, 1) := by decide +kernel
theorem dX10_now_67 : decode cX10_now 67 = .ok (.getfield 183, 3) := by decide +kernel
theorem dX10_now_70 : decode cX10_now 70 = .ok (.invokestatic 225, 3) := by decide +kernel
theorem dX10_now_73 : decode cX10_now 73 = .ok (.ireturn, 1) := by decide +kernel
theorem dX10_now_74 : decode cX10_now 74 = .ok (.aload_n 2, 1) := by decide +kernel
theorem dX10_now_75 : decode cX10_now 75 = .ok (.getfield 186, 3) := by decide +kernel
theorem dX10_now_78 : decode cX10_now 78 = .ok (.invokestatic 225, 3) := by decide +kernel
theorem dX10_now_81 : decode cX10_now 81 = .ok (.ireturn, 1) := by decide +kernel
theorem dX10_now_82 : decode cX10_now 82 = .ok (.aload_n 2, 1) := by decide +kernel
theorem dX10_now_83 : decode cX10_now 83 = .ok (.getfield 229, 3) := by decide +kernel
theorem dX10_now_86 : decode cX10_now 86 = .ok (.ireturn, 1) := by decide +kernel
theorem dX10_now_87 : decode cX10_now 87 = .ok (.aload_n 2, 1) := by decide +kernel
theorem dX10_now_88 : decode cX10_now 88 = .ok (.getfield 232, 3) := by decide +kernel
theorem dX10_now_91 : decode cX10_now 91 = .ok (.invokestatic 235, 3) := by decide +kernel
theorem dX10_now_94 : decode cX10_now 94 = .ok (.ireturn, 1) := by decide +kernel
theorem dX10_now_95 : decode cX10_now 95 = .ok (.aload_n 2, 1) := by decide +kernel
theorem dX10_now_96 : decode cX10_now 96 = .ok (.getfield 241, 3) := by decide +kernel
theorem dX10_now_99 : decode cX10_now 99 = .ok (.ireturn, 1) := by decide +kernel
theorem dX10_now_100 : decode cX10_now 100 = .ok (.aload_n 2, 1) := by decide +kernel
theorem dX10_now_101 : decode cX10_now 101 = .ok (.getfield 244, 3) := by decide +kernel
theorem dX10_now_104 : decode cX10_now 104 = .ok (.ireturn, 1) := by decide +kernel
theorem dX10_now_105 : decode cX10_now 105 = .ok (.iconst (-1), 1) := by decide +kernel
theorem dX10_now_106 : decode cX10_now 106 = .ok (.ireturn, 1) := by decide +kernel
theorem dX10_sum_0 : decode cX10_sum 0 = .ok (.iconst 0, 1) := by decide +kernel
theorem dX10_sum_1 : decode cX10_sum 1 = .ok (.istore_n 1, 1) := by decide +kernel
theorem dX10_sum_2 : decode cX10_sum 2 = .ok (.iconst 0, 1) := by decide +kernel
theorem dX10_sum_3 : decode cX10_sum 3 = .ok (.istore_n 2, 1) := by decide +kernel
theorem dX10_sum_4 : decode cX10_sum 4 = .ok (.iload_n 2, 1) := by decide +kernel
theorem dX10_sum_5 : decode cX10_sum 5 = .ok (.aload_n 0, 1) := by decide +kernel
theorem dX10_sum_6 : decode cX10_sum 6 = .ok (.arraylength, 1) := by decide +kernel
theorem dX10_sum_7 : decode cX10_sum 7 = .ok (.if_icmp .ge 15, 3) := by decide +kernel
theorem dX10_sum_10 : decode cX10_sum 10 = .ok (.iload_n 1, 1) := by decide +kernel
theorem dX10_sum_11 : decode cX10_sum 11 = .ok (.aload_n 0, 1) := by decide +kernel
theorem dX10_sum_12 : decode cX10_sum 12 = .ok (.iload_n 2, 1) := by decide +kernel
theorem dX10_sum_13 : decode cX10_sum 13 = .ok (.iaload, 1) := by decide +kernel
theorem dX10_sum_14 : decode cX10_sum 14 = .ok (.iadd, 1) := by decide +kernel
theorem dX10_sum_15 : decode cX10_sum 15 = .ok (.istore_n 1, 1) := by decide +kernel
theorem dX10_sum_16 : decode cX10_sum 16 = .ok (.iinc 2 1, 3) := by decide +kernel
theorem dX10_sum_19 : decode cX10_sum 19 = .ok (.goto (-15), 3) := by decide +kernel
theorem dX10_sum_22 : decode cX10_sum 22 = .ok (.iload_n 1, 1) := by decide +kernel
theorem dX10_sum_23 : decode cX10_sum 23 = .ok (.ireturn, 1) := by decide +kernel
theorem dX10_count_0 : decode cX10_count 0 = .ok (.aload_n 0, 1) := by decide +kernel
theorem dX10_count_1 : decode cX10_count 1 = .ok (.getfield 30, 3) := by decide +kernel
theorem dX10_count_4 : decode cX10_count 4 = .ok (.getfield 124, 3) := by decide +kernel
theorem dX10_count_7 : decode cX10_count 7 = .ok (.astore_n 2, 1) := by decide +kernel
theorem dX10_count_8 : decode cX10_count 8 = .ok (.iload_n 1, 1) := by decide +kernel
theorem dX10_count_9 : decode cX10_count 9 = .ok (.tableswitch 105 0 8 #[51, 56, 61, 69, 74, 79, 84, 89, 100], 51) := by decide +kernel
theorem dX10_count_60 : decode cX10_count 60 = .ok (.aload_n 2, 1) := by decide +kernel
theorem dX10_count_61 : decode cX10_count 61 = .ok (.getfield 247, 3) := by decide +kernel
theorem dX10_count_64 : decode cX10_count 64 = .ok (.ireturn, 1) := by decide +kernel
theorem dX10_count_65 : decode cX10_count 65 = .ok (.aload_n 2, 1) := by decide +kernel
theorem dX10_count_66 : decode cX10_count 66 = .ok (.getfield 250, 3) := by decide +kernel
theorem dX10_count_69 : decode cX10_count 69 = .ok (.ireturn, 1) := by decide +kernel
theorem dX10_count_70 : decode cX10_count 70 = .ok (.aload_n 2, 1) := by decide +kernel
theorem dX10_count_71 : decode cX10_count 71 = .ok (.getfield 174, 3) := by decide +kernel
theorem dX10_count_74 : decode cX10_count 74 = .ok (.getfield 253, 3) := by decide +kernel
theorem dX10_count_77 : decode cX10_count 77 = .ok (.ireturn, 1) := by decide +kernel
theorem dX10_count_78 : decode cX10_count 78 = .ok (.aload_n 2, 1) := by decide +kernel
theorem dX10_count_79 : decode cX10_count 79 = .ok (.getfield 256, 3) := by decide +kernel
theorem dX10_count_82 : decode cX10_count 82 = .ok (.ireturn, 1) := by decide +kernel
theorem dX10_count_83 : decode cX10_count 83 = .ok (.aload_n 2, 1) := by decide +kernel
theorem dX10_count_84 : decode cX10_count 84 = .ok (.getfield 259, 3) := by decide +kernel
theorem dX10_count_87 : decode cX10_count 87 = .ok (.ireturn, 1) := by decide +kernel
theorem dX10_count_88 : decode cX10_count 88 = .ok (.aload_n 2, 1) := by decide +kernel
theorem dX10_count_89 : decode cX10_count 89 = .ok (.getfield 262, 3) := by decide +kernel
theorem dX10_count_92 : decode cX10_count 92 = .ok (.ireturn, 1) := by decide +kernel
theorem dX10_count_93 : decode cX10_count 93 = .ok (.aload_n 2, 1) := by decide +kernel
theorem dX10_count_94 : decode cX10_count 94 = .ok (.getfield 265, 3) := by decide +kernel
theorem dX10_count_97 : decode cX10_count 97 = .ok (.ireturn, 1) := by decide +kernel
theorem dX10_count_98 : decode cX10_count 98 = .ok (.aload_n 0, 1) := by decide +kernel
theorem dX10_count_99 : decode cX10_count 99 = .ok (.getfield 30, 3) := by decide +kernel
theorem dX10_count_102 : decode cX10_count 102 = .ok (.getfield 134, 3) := by decide +kernel
theorem dX10_count_105 : decode cX10_count 105 = .ok (.getfield 137, 3) := by decide +kernel
theorem dX10_count_108 : decode cX10_count 108 = .ok (.ireturn, 1) := by decide +kernel
theorem dX10_count_109 : decode cX10_count 109 = .ok (.aload_n 0, 1) := by decide +kernel
theorem dX10_count_110 : decode cX10_count 110 = .ok (.getfield 13, 3) := by decide +kernel
theorem dX10_count_113 : decode cX10_count 113 = .ok (.ireturn, 1) := by decide +kernel
theorem dX10_count_114 : decode cX10_count 114 = .ok (.iconst (-1), 1) := by decide +kernel
theorem dX10_count_115 : decode cX10_count 115 = .ok (.ireturn, 1) := by decide +kernel
theorem dX10_isGust_0 : decode cX10_isGust 0 = .ok (.iload_n 0, 1) := by decide +kernel
theorem dX10_isGust_1 : decode cX10_isGust 1 = .ok (.ifCond .lt 24, 3) := by decide +kernel
theorem dX10_isGust_4 : decode cX10_isGust 4 = .ok (.iload_n 0, 1) := by decide +kernel
theorem dX10_isGust_5 : decode cX10_isGust 5 = .ok (.bipush 8, 2) := by decide +kernel
theorem dX10_isGust_7 : decode cX10_isGust 7 = .ok (.if_icmp .ge 18, 3) := by decide +kernel
theorem dX10_isGust_10 : decode cX10_isGust 10 = .ok (.iload_n 1, 1) := by decide +kernel
theorem dX10_isGust_11 : decode cX10_isGust 11 = .ok (.iconst 1, 1) := by decide +kernel
theorem dX10_isGust_12 : decode cX10_isGust 12 = .ok (.if_icmp .lt 13, 3) := by decide +kernel
theorem dX10_isGust_15 : decode cX10_isGust 15 = .ok (.iload_n 1, 1) := by decide +kernel
theorem dX10_isGust_16 : decode cX10_isGust 16 = .ok (.bipush 9, 2) := by decide +kernel
theorem dX10_isGust_18 : decode cX10_isGust 18 = .ok (.if_icmp .gt 7, 3) := by decide +kernel
theorem dX10_isGust_21 : decode cX10_isGust 21 = .ok (.iconst 1, 1) := by decide +kernel
theorem dX10_isGust_22 : decode cX10_isGust 22 = .ok (.goto 4, 3) := by decide +kernel
theorem dX10_isGust_25 : decode cX10_isGust 25 = .ok (.iconst 0, 1) := by decide +kernel
theorem dX10_isGust_26 : decode cX10_isGust 26 = .ok (.ireturn, 1) := by decide +kernel
theorem dX10_comes_0 : decode cX10_comes 0 = .ok (.aload_n 0, 1) := by decide +kernel
theorem dX10_comes_1 : decode cX10_comes 1 = .ok (.getfield 30, 3) := by decide +kernel
theorem dX10_comes_4 : decode cX10_comes 4 = .ok (.getfield 124, 3) := by decide +kernel
theorem dX10_comes_7 : decode cX10_comes 7 = .ok (.iload_n 1, 1) := by decide +kernel
theorem dX10_comes_8 : decode cX10_comes 8 = .ok (.invokevirtual 158, 3) := by decide +kernel
theorem dX10_comes_11 : decode cX10_comes 11 = .ok (.ifCond .eq 11, 3) := by decide +kernel
theorem dX10_comes_14 : decode cX10_comes 14 = .ok (.iload_n 2, 1) := by decide +kernel
theorem dX10_comes_15 : decode cX10_comes 15 = .ok (.iload_n 3, 1) := by decide +kernel
theorem dX10_comes_16 : decode cX10_comes 16 = .ok (.invokestatic 268, 3) := by decide +kernel
theorem dX10_comes_19 : decode cX10_comes 19 = .ok (.ifCond .ne 5, 3) := by decide +kernel
theorem dX10_comes_22 : decode cX10_comes 22 = .ok (.iconst (-1), 1) := by decide +kernel
theorem dX10_comes_23 : decode cX10_comes 23 = .ok (.ireturn, 1) := by decide +kernel
theorem dX10_comes_24 : decode cX10_comes 24 = .ok (.iload 4, 2) := by decide +kernel
theorem dX10_comes_26 : decode cX10_comes 26 = .ok (.lookupswitch 63 #[(0, 26), (1, 39)], 26) := by decide +kernel
theorem dX10_comes_52 : decode cX10_comes 52 = .ok (.aload_n 0, 1) := by decide +kernel
theorem dX10_comes_53 : decode cX10_comes 53 = .ok (.getfield 30, 3) := by decide +kernel
theorem dX10_comes_56 : decode cX10_comes 56 = .ok (.getfield 124, 3) := by decide +kernel
theorem dX10_comes_59 : decode cX10_comes 59 = .ok (.iload_n 1, 1) := by decide +kernel
theorem dX10_comes_60 : decode cX10_comes 60 = .ok (.iload_n 2, 1) := by decide +kernel
theorem dX10_comes_61 : decode cX10_comes 61 = .ok (.invokevirtual 272, 3) := by decide +kernel
theorem dX10_comes_64 : decode cX10_comes 64 = .ok (.ireturn, 1) := by decide +kernel
theorem dX10_comes_65 : decode cX10_comes 65 = .ok (.aload_n 0, 1) := by decide +kernel
theorem dX10_comes_66 : decode cX10_comes 66 = .ok (.getfield 30, 3) := by decide +kernel
theorem dX10_comes_69 : decode cX10_comes 69 = .ok (.getfield 124, 3) := by decide +kernel
theorem dX10_comes_72 : decode cX10_comes 72 = .ok (.aload_n 0, 1) := by decide +kernel
theorem dX10_comes_73 : decode cX10_comes 73 = .ok (.getfield 30, 3) := by decide +kernel
theorem dX10_comes_76 : decode cX10_comes 76 = .ok (.getfield 127, 3) := by decide +kernel
theorem dX10_comes_79 : decode cX10_comes 79 = .ok (.getfield 165, 3) := by decide +kernel
theorem dX10_comes_82 : decode cX10_comes 82 = .ok (.iload_n 1, 1) := by decide +kernel
theorem dX10_comes_83 : decode cX10_comes 83 = .ok (.iload_n 2, 1) := by decide +kernel
theorem dX10_comes_84 : decode cX10_comes 84 = .ok (.iload_n 3, 1) := by decide +kernel
theorem dX10_comes_85 : decode cX10_comes 85 = .ok (.invokevirtual 276, 3) := by decide +kernel
theorem dX10_comes_88 : decode cX10_comes 88 = .ok (.ireturn, 1) := by decide +kernel
theorem dX10_comes_89 : decode cX10_comes 89 = .ok (.iconst (-1), 1) := by decide +kernel
theorem dX10_comes_90 : decode cX10_comes 90 = .ok (.ireturn, 1) := by decide +kernel
theorem dX10_faces_0 : decode cX10_faces 0 = .ok (.iload_n 1, 1) := by decide +kernel
theorem dX10_faces_1 : decode cX10_faces 1 = .ok (.iload_n 2, 1) := by decide +kernel
theorem dX10_faces_2 : decode cX10_faces 2 = .ok (.invokestatic 268, 3) := by decide +kernel
theorem dX10_faces_5 : decode cX10_faces 5 = .ok (.ifCond .ne 5, 3) := by decide +kernel
theorem dX10_faces_8 : decode cX10_faces 8 = .ok (.iconst (-1), 1) := by decide +kernel
theorem dX10_faces_9 : decode cX10_faces 9 = .ok (.ireturn, 1) := by decide +kernel
theorem dX10_faces_10 : decode cX10_faces 10 = .ok (.aload_n 0, 1) := by decide +kernel
theorem dX10_faces_11 : decode cX10_faces 11 = .ok (.getfield 83, 3) := by decide +kernel
theorem dX10_faces_14 : decode cX10_faces 14 = .ok (.aload_n 0, 1) := by decide +kernel
theorem dX10_faces_15 : decode cX10_faces 15 = .ok (.getfield 30, 3) := by decide +kernel
theorem dX10_faces_18 : decode cX10_faces 18 = .ok (.getfield 127, 3) := by decide +kernel
theorem dX10_faces_21 : decode cX10_faces 21 = .ok (.invokevirtual 280, 3) := by decide +kernel
theorem dX10_faces_24 : decode cX10_faces 24 = .ok (.aload_n 0, 1) := by decide +kernel
theorem dX10_faces_25 : decode cX10_faces 25 = .ok (.getfield 69, 3) := by decide +kernel
theorem dX10_faces_28 : decode cX10_faces 28 = .ok (.aload_n 0, 1) := by decide +kernel
theorem dX10_faces_29 : decode cX10_faces 29 = .ok (.getfield 30, 3) := by decide +kernel
theorem dX10_faces_32 : decode cX10_faces 32 = .ok (.getfield 124, 3) := by decide +kernel
theorem dX10_faces_35 : decode cX10_faces 35 = .ok (.aload_n 0, 1) := by decide +kernel
theorem dX10_faces_36 : decode cX10_faces 36 = .ok (.getfield 83, 3) := by decide +kernel
theorem dX10_faces_39 : decode cX10_faces 39 = .ok (.iload_n 1, 1) := by decide +kernel
theorem dX10_faces_40 : decode cX10_faces 40 = .ok (.iload_n 2, 1) := by decide +kernel
theorem dX10_faces_41 : decode cX10_faces 41 = .ok (.invokevirtual 284, 3) := by decide +kernel
theorem dX10_faces_44 : decode cX10_faces 44 = .ok (.ireturn, 1) := by decide +kernel
theorem dX10_gains_0 : decode cX10_gains 0 = .ok (.aload_n 0, 1) := by decide +kernel
theorem dX10_gains_1 : decode cX10_gains 1 = .ok (.getfield 30, 3) := by decide +kernel
theorem dX10_gains_4 : decode cX10_gains 4 = .ok (.getfield 124, 3) := by decide +kernel
theorem dX10_gains_7 : decode cX10_gains 7 = .ok (.iload_n 1, 1) := by decide +kernel
theorem dX10_gains_8 : decode cX10_gains 8 = .ok (.invokevirtual 171, 3) := by decide +kernel
theorem dX10_gains_11 : decode cX10_gains 11 = .ok (.ifCond .eq 11, 3) := by decide +kernel
theorem dX10_gains_14 : decode cX10_gains 14 = .ok (.iload_n 2, 1) := by decide +kernel
theorem dX10_gains_15 : decode cX10_gains 15 = .ok (.iload_n 3, 1) := by decide +kernel
theorem dX10_gains_16 : decode cX10_gains 16 = .ok (.invokestatic 268, 3) := by decide +kernel
theorem dX10_gains_19 : decode cX10_gains 19 = .ok (.ifCond .ne 7, 3) := by decide +kernel
theorem dX10_gains_22 : decode cX10_gains 22 = .ok (.sipush (-1001), 3) := by decide +kernel
theorem dX10_gains_25 : decode cX10_gains 25 = .ok (.ireturn, 1) := by decide +kernel
theorem dX10_gains_26 : decode cX10_gains 26 = .ok (.aload_n 0, 1) := by decide +kernel
theorem dX10_gains_27 : decode cX10_gains 27 = .ok (.iload_n 1, 1) := by decide +kernel
theorem dX10_gains_28 : decode cX10_gains 28 = .ok (.iload_n 2, 1) := by decide +kernel
theorem dX10_gains_29 : decode cX10_gains 29 = .ok (.iload_n 3, 1) := by decide +kernel
theorem dX10_gains_30 : decode cX10_gains 30 = .ok (.invokevirtual 288, 3) := by decide +kernel
theorem dX10_gains_33 : decode cX10_gains 33 = .ok (.ireturn, 1) := by decide +kernel
theorem dX10_gainNow_0 : decode cX10_gainNow 0 = .ok (.aload_n 0, 1) := by decide +kernel
theorem dX10_gainNow_1 : decode cX10_gainNow 1 = .ok (.getfield 83, 3) := by decide +kernel
theorem dX10_gainNow_4 : decode cX10_gainNow 4 = .ok (.aload_n 0, 1) := by decide +kernel
theorem dX10_gainNow_5 : decode cX10_gainNow 5 = .ok (.getfield 30, 3) := by decide +kernel
theorem dX10_gainNow_8 : decode cX10_gainNow 8 = .ok (.getfield 127, 3) := by decide +kernel
theorem dX10_gainNow_11 : decode cX10_gainNow 11 = .ok (.invokevirtual 280, 3) := by decide +kernel
theorem dX10_gainNow_14 : decode cX10_gainNow 14 = .ok (.aload_n 0, 1) := by decide +kernel
theorem dX10_gainNow_15 : decode cX10_gainNow 15 = .ok (.getfield 69, 3) := by decide +kernel
theorem dX10_gainNow_18 : decode cX10_gainNow 18 = .ok (.aload_n 0, 1) := by decide +kernel
theorem dX10_gainNow_19 : decode cX10_gainNow 19 = .ok (.getfield 30, 3) := by decide +kernel
theorem dX10_gainNow_22 : decode cX10_gainNow 22 = .ok (.getfield 124, 3) := by decide +kernel
theorem dX10_gainNow_25 : decode cX10_gainNow 25 = .ok (.aload_n 0, 1) := by decide +kernel
theorem dX10_gainNow_26 : decode cX10_gainNow 26 = .ok (.getfield 83, 3) := by decide +kernel
theorem dX10_gainNow_29 : decode cX10_gainNow 29 = .ok (.iload_n 2, 1) := by decide +kernel
theorem dX10_gainNow_30 : decode cX10_gainNow 30 = .ok (.iload_n 3, 1) := by decide +kernel
theorem dX10_gainNow_31 : decode cX10_gainNow 31 = .ok (.invokevirtual 292, 3) := by decide +kernel
theorem dX10_gainNow_34 : decode cX10_gainNow 34 = .ok (.aload_n 0, 1) := by decide +kernel
theorem dX10_gainNow_35 : decode cX10_gainNow 35 = .ok (.getfield 83, 3) := by decide +kernel
theorem dX10_gainNow_38 : decode cX10_gainNow 38 = .ok (.getfield 183, 3) := by decide +kernel
theorem dX10_gainNow_41 : decode cX10_gainNow 41 = .ok (.iload_n 1, 1) := by decide +kernel
theorem dX10_gainNow_42 : decode cX10_gainNow 42 = .ok (.iaload, 1) := by decide +kernel
theorem dX10_gainNow_43 : decode cX10_gainNow 43 = .ok (.aload_n 0, 1) := by decide +kernel
theorem dX10_gainNow_44 : decode cX10_gainNow 44 = .ok (.getfield 30, 3) := by decide +kernel
theorem dX10_gainNow_47 : decode cX10_gainNow 47 = .ok (.getfield 127, 3) := by decide +kernel
theorem dX10_gainNow_50 : decode cX10_gainNow 50 = .ok (.getfield 183, 3) := by decide +kernel
theorem dX10_gainNow_53 : decode cX10_gainNow 53 = .ok (.iload_n 1, 1) := by decide +kernel
theorem dX10_gainNow_54 : decode cX10_gainNow 54 = .ok (.iaload, 1) := by decide +kernel
theorem dX10_gainNow_55 : decode cX10_gainNow 55 = .ok (.isub, 1) := by decide +kernel
theorem dX10_gainNow_56 : decode cX10_gainNow 56 = .ok (.ireturn, 1) := by decide +kernel
theorem dX10_best_0 : decode cX10_best 0 = .ok (.aload_n 0, 1) := by decide +kernel
theorem dX10_best_1 : decode cX10_best 1 = .ok (.getfield 30, 3) := by decide +kernel
theorem dX10_best_4 : decode cX10_best 4 = .ok (.getfield 124, 3) := by decide +kernel
theorem dX10_best_7 : decode cX10_best 7 = .ok (.iload_n 1, 1) := by decide +kernel
theorem dX10_best_8 : decode cX10_best 8 = .ok (.invokevirtual 171, 3) := by decide +kernel
theorem dX10_best_11 : decode cX10_best 11 = .ok (.ifCond .eq 11, 3) := by decide +kernel
theorem dX10_best_14 : decode cX10_best 14 = .ok (.iconst 0, 1) := by decide +kernel
theorem dX10_best_15 : decode cX10_best 15 = .ok (.iload_n 2, 1) := by decide +kernel
theorem dX10_best_16 : decode cX10_best 16 = .ok (.invokestatic 268, 3) := by decide +kernel
theorem dX10_best_19 : decode cX10_best 19 = .ok (.ifCond .ne 5, 3) := by decide +kernel
theorem dX10_best_22 : decode cX10_best 22 = .ok (.iconst (-1), 1) := by decide +kernel
theorem dX10_best_23 : decode cX10_best 23 = .ok (.ireturn, 1) := by decide +kernel
theorem dX10_best_24 : decode cX10_best 24 = .ok (.iconst 0, 1) := by decide +kernel
theorem dX10_best_25 : decode cX10_best 25 = .ok (.istore_n 3, 1) := by decide +kernel
theorem dX10_best_26 : decode cX10_best 26 = .ok (.aload_n 0, 1) := by decide +kernel
theorem dX10_best_27 : decode cX10_best 27 = .ok (.iload_n 1, 1) := by decide +kernel
theorem dX10_best_28 : decode cX10_best 28 = .ok (.iconst 0, 1) := by decide +kernel
theorem dX10_best_29 : decode cX10_best 29 = .ok (.iload_n 2, 1) := by decide +kernel
theorem dX10_best_30 : decode cX10_best 30 = .ok (.invokevirtual 288, 3) := by decide +kernel
theorem dX10_best_33 : decode cX10_best 33 = .ok (.istore 4, 2) := by decide +kernel
theorem dX10_best_35 : decode cX10_best 35 = .ok (.iconst 1, 1) := by decide +kernel
theorem dX10_best_36 : decode cX10_best 36 = .ok (.istore 5, 2) := by decide +kernel
theorem dX10_best_38 : decode cX10_best 38 = .ok (.iload 5, 2) := by decide +kernel
theorem dX10_best_40 : decode cX10_best 40 = .ok (.bipush 8, 2) := by decide +kernel
theorem dX10_best_42 : decode cX10_best 42 = .ok (.if_icmp .ge 33, 3) := by decide +kernel
theorem dX10_best_45 : decode cX10_best 45 = .ok (.aload_n 0, 1) := by decide +kernel
theorem dX10_best_46 : decode cX10_best 46 = .ok (.iload_n 1, 1) := by decide +kernel
theorem dX10_best_47 : decode cX10_best 47 = .ok (.iload 5, 2) := by decide +kernel
theorem dX10_best_49 : decode cX10_best 49 = .ok (.iload_n 2, 1) := by decide +kernel
theorem dX10_best_50 : decode cX10_best 50 = .ok (.invokevirtual 288, 3) := by decide +kernel
theorem dX10_best_53 : decode cX10_best 53 = .ok (.istore 6, 2) := by decide +kernel
theorem dX10_best_55 : decode cX10_best 55 = .ok (.iload 6, 2) := by decide +kernel
theorem dX10_best_57 : decode cX10_best 57 = .ok (.iload 4, 2) := by decide +kernel
theorem dX10_best_59 : decode cX10_best 59 = .ok (.if_icmp .le 10, 3) := by decide +kernel
theorem dX10_best_62 : decode cX10_best 62 = .ok (.iload 5, 2) := by decide +kernel
theorem dX10_best_64 : decode cX10_best 64 = .ok (.istore_n 3, 1) := by decide +kernel
theorem dX10_best_65 : decode cX10_best 65 = .ok (.iload 6, 2) := by decide +kernel
theorem dX10_best_67 : decode cX10_best 67 = .ok (.istore 4, 2) := by decide +kernel
theorem dX10_best_69 : decode cX10_best 69 = .ok (.iinc 5 1, 3) := by decide +kernel
theorem dX10_best_72 : decode cX10_best 72 = .ok (.goto (-34), 3) := by decide +kernel
theorem dX10_best_75 : decode cX10_best 75 = .ok (.iload_n 3, 1) := by decide +kernel
theorem dX10_best_76 : decode cX10_best 76 = .ok (.ireturn, 1) := by decide +kernel
theorem dX10_keepPast_0 : decode cX10_keepPast 0 = .ok (.aload_n 0, 1) := by decide +kernel
theorem dX10_keepPast_1 : decode cX10_keepPast 1 = .ok (.getfield 62, 3) := by decide +kernel
theorem dX10_keepPast_4 : decode cX10_keepPast 4 = .ok (.aload_n 0, 1) := by decide +kernel
theorem dX10_keepPast_5 : decode cX10_keepPast 5 = .ok (.getfield 30, 3) := by decide +kernel
theorem dX10_keepPast_8 : decode cX10_keepPast 8 = .ok (.getfield 127, 3) := by decide +kernel
theorem dX10_keepPast_11 : decode cX10_keepPast 11 = .ok (.invokevirtual 296, 3) := by decide +kernel
theorem dX10_keepPast_14 : decode cX10_keepPast 14 = .ok (.aload_n 0, 1) := by decide +kernel
theorem dX10_keepPast_15 : decode cX10_keepPast 15 = .ok (.getfield 76, 3) := by decide +kernel
theorem dX10_keepPast_18 : decode cX10_keepPast 18 = .ok (.iconst 0, 1) := by decide +kernel
theorem dX10_keepPast_19 : decode cX10_keepPast 19 = .ok (.putfield 149, 3) := by decide +kernel
theorem dX10_keepPast_22 : decode cX10_keepPast 22 = .ok (.return_, 1) := by decide +kernel
theorem dX10_blow_0 : decode cX10_blow 0 = .ok (.iload_n 1, 1) := by decide +kernel
theorem dX10_blow_1 : decode cX10_blow 1 = .ok (.iconst 1, 1) := by decide +kernel
theorem dX10_blow_2 : decode cX10_blow 2 = .ok (.if_icmp .lt 9, 3) := by decide +kernel
theorem dX10_blow_5 : decode cX10_blow 5 = .ok (.iload_n 1, 1) := by decide +kernel
theorem dX10_blow_6 : decode cX10_blow 6 = .ok (.bipush 48, 2) := by decide +kernel
theorem dX10_blow_8 : decode cX10_blow 8 = .ok (.if_icmp .le 5, 3) := by decide +kernel
theorem dX10_blow_11 : decode cX10_blow 11 = .ok (.iconst (-1), 1) := by decide +kernel
theorem dX10_blow_12 : decode cX10_blow 12 = .ok (.ireturn, 1) := by decide +kernel
theorem dX10_blow_13 : decode cX10_blow 13 = .ok (.aload_n 0, 1) := by decide +kernel
theorem dX10_blow_14 : decode cX10_blow 14 = .ok (.getfield 30, 3) := by decide +kernel
theorem dX10_blow_17 : decode cX10_blow 17 = .ok (.getfield 127, 3) := by decide +kernel
theorem dX10_blow_20 : decode cX10_blow 20 = .ok (.getfield 219, 3) := by decide +kernel
theorem dX10_blow_23 : decode cX10_blow 23 = .ok (.bipush 48, 2) := by decide +kernel
theorem dX10_blow_25 : decode cX10_blow 25 = .ok (.if_icmp .lt 5, 3) := by decide +kernel
theorem dX10_blow_28 : decode cX10_blow 28 = .ok (.iconst 0, 1) := by decide +kernel
theorem dX10_blow_29 : decode cX10_blow 29 = .ok (.ireturn, 1) := by decide +kernel
theorem dX10_blow_30 : decode cX10_blow 30 = .ok (.aload_n 0, 1) := by decide +kernel
theorem dX10_blow_31 : decode cX10_blow 31 = .ok (.invokevirtual 299, 3) := by decide +kernel
theorem dX10_blow_34 : decode cX10_blow 34 = .ok (.aload_n 0, 1) := by decide +kernel
theorem dX10_blow_35 : decode cX10_blow 35 = .ok (.getfield 69, 3) := by decide +kernel
theorem dX10_blow_38 : decode cX10_blow 38 = .ok (.aload_n 0, 1) := by decide +kernel
theorem dX10_blow_39 : decode cX10_blow 39 = .ok (.getfield 30, 3) := by decide +kernel
theorem dX10_blow_42 : decode cX10_blow 42 = .ok (.getfield 124, 3) := by decide +kernel
theorem dX10_blow_45 : decode cX10_blow 45 = .ok (.aload_n 0, 1) := by decide +kernel
theorem dX10_blow_46 : decode cX10_blow 46 = .ok (.getfield 30, 3) := by decide +kernel
theorem dX10_blow_49 : decode cX10_blow 49 = .ok (.getfield 127, 3) := by decide +kernel
theorem dX10_blow_52 : decode cX10_blow 52 = .ok (.iload_n 1, 1) := by decide +kernel
theorem dX10_blow_53 : decode cX10_blow 53 = .ok (.invokevirtual 302, 3) := by decide +kernel
theorem dX10_blow_56 : decode cX10_blow 56 = .ok (.ireturn, 1) := by decide +kernel
theorem dX10_set_0 : decode cX10_set 0 = .ok (.aload_n 0, 1) := by decide +kernel
theorem dX10_set_1 : decode cX10_set 1 = .ok (.getfield 30, 3) := by decide +kernel
theorem dX10_set_4 : decode cX10_set 4 = .ok (.getfield 124, 3) := by decide +kernel
theorem dX10_set_7 : decode cX10_set 7 = .ok (.iload_n 1, 1) := by decide +kernel
theorem dX10_set_8 : decode cX10_set 8 = .ok (.invokevirtual 158, 3) := by decide +kernel
theorem dX10_set_11 : decode cX10_set 11 = .ok (.ifCond .ne 5, 3) := by decide +kernel
theorem dX10_set_14 : decode cX10_set 14 = .ok (.iconst (-1), 1) := by decide +kernel
theorem dX10_set_15 : decode cX10_set 15 = .ok (.ireturn, 1) := by decide +kernel
theorem dX10_set_16 : decode cX10_set 16 = .ok (.aload_n 0, 1) := by decide +kernel
theorem dX10_set_17 : decode cX10_set 17 = .ok (.getfield 30, 3) := by decide +kernel
theorem dX10_set_20 : decode cX10_set 20 = .ok (.getfield 127, 3) := by decide +kernel
theorem dX10_set_23 : decode cX10_set 23 = .ok (.iload_n 1, 1) := by decide +kernel
theorem dX10_set_24 : decode cX10_set 24 = .ok (.invokevirtual 306, 3) := by decide +kernel
theorem dX10_set_27 : decode cX10_set 27 = .ok (.istore_n 2, 1) := by decide +kernel
theorem dX10_set_28 : decode cX10_set 28 = .ok (.iload_n 2, 1) := by decide +kernel
theorem dX10_set_29 : decode cX10_set 29 = .ok (.ifCond .ne 18, 3) := by decide +kernel
theorem dX10_set_32 : decode cX10_set 32 = .ok (.aload_n 0, 1) := by decide +kernel
theorem dX10_set_33 : decode cX10_set 33 = .ok (.invokevirtual 299, 3) := by decide +kernel
theorem dX10_set_36 : decode cX10_set 36 = .ok (.aload_n 0, 1) := by decide +kernel
theorem dX10_set_37 : decode cX10_set 37 = .ok (.getfield 30, 3) := by decide +kernel
theorem dX10_set_40 : decode cX10_set 40 = .ok (.getfield 127, 3) := by decide +kernel
theorem dX10_set_43 : decode cX10_set 43 = .ok (.iload_n 1, 1) := by decide +kernel
theorem dX10_set_44 : decode cX10_set 44 = .ok (.invokevirtual 309, 3) := by decide +kernel
theorem dX10_set_47 : decode cX10_set 47 = .ok (.iload_n 2, 1) := by decide +kernel
theorem dX10_set_48 : decode cX10_set 48 = .ok (.ireturn, 1) := by decide +kernel
theorem dX10_fell_0 : decode cX10_fell 0 = .ok (.aload_n 0, 1) := by decide +kernel
theorem dX10_fell_1 : decode cX10_fell 1 = .ok (.getfield 30, 3) := by decide +kernel
theorem dX10_fell_4 : decode cX10_fell 4 = .ok (.getfield 127, 3) := by decide +kernel
theorem dX10_fell_7 : decode cX10_fell 7 = .ok (.iload_n 1, 1) := by decide +kernel
theorem dX10_fell_8 : decode cX10_fell 8 = .ok (.invokevirtual 312, 3) := by decide +kernel
theorem dX10_fell_11 : decode cX10_fell 11 = .ok (.istore_n 2, 1) := by decide +kernel
theorem dX10_fell_12 : decode cX10_fell 12 = .ok (.iload_n 2, 1) := by decide +kernel
theorem dX10_fell_13 : decode cX10_fell 13 = .ok (.ifCond .ne 25, 3) := by decide +kernel
theorem dX10_fell_16 : decode cX10_fell 16 = .ok (.aload_n 0, 1) := by decide +kernel
theorem dX10_fell_17 : decode cX10_fell 17 = .ok (.invokevirtual 299, 3) := by decide +kernel
theorem dX10_fell_20 : decode cX10_fell 20 = .ok (.aload_n 0, 1) := by decide +kernel
theorem dX10_fell_21 : decode cX10_fell 21 = .ok (.getfield 30, 3) := by decide +kernel
theorem dX10_fell_24 : decode cX10_fell 24 = .ok (.getfield 127, 3) := by decide +kernel
theorem dX10_fell_27 : decode cX10_fell 27 = .ok (.aload_n 0, 1) := by decide +kernel
theorem dX10_fell_28 : decode cX10_fell 28 = .ok (.getfield 30, 3) := by decide +kernel
theorem dX10_fell_31 : decode cX10_fell 31 = .ok (.getfield 124, 3) := by decide +kernel
theorem dX10_fell_34 : decode cX10_fell 34 = .ok (.iload_n 1, 1) := by decide +kernel
theorem dX10_fell_35 : decode cX10_fell 35 = .ok (.invokevirtual 315, 3) := by decide +kernel
theorem dX10_fell_38 : decode cX10_fell 38 = .ok (.iload_n 2, 1) := by decide +kernel
theorem dX10_fell_39 : decode cX10_fell 39 = .ok (.ireturn, 1) := by decide +kernel
theorem dX10_oil_0 : decode cX10_oil 0 = .ok (.aload_n 0, 1) := by decide +kernel
theorem dX10_oil_1 : decode cX10_oil 1 = .ok (.getfield 30, 3) := by decide +kernel
theorem dX10_oil_4 : decode cX10_oil 4 = .ok (.getfield 124, 3) := by decide +kernel
theorem dX10_oil_7 : decode cX10_oil 7 = .ok (.iload_n 1, 1) := by decide +kernel
theorem dX10_oil_8 : decode cX10_oil 8 = .ok (.invokevirtual 171, 3) := by decide +kernel
theorem dX10_oil_11 : decode cX10_oil 11 = .ok (.ifCond .ne 5, 3) := by decide +kernel
theorem dX10_oil_14 : decode cX10_oil 14 = .ok (.iconst 0, 1) := by decide +kernel
theorem dX10_oil_15 : decode cX10_oil 15 = .ok (.ireturn, 1) := by decide +kernel
theorem dX10_oil_16 : decode cX10_oil 16 = .ok (.aload_n 0, 1) := by decide +kernel
theorem dX10_oil_17 : decode cX10_oil 17 = .ok (.invokevirtual 299, 3) := by decide +kernel
theorem dX10_oil_20 : decode cX10_oil 20 = .ok (.aload_n 0, 1) := by decide +kernel
theorem dX10_oil_21 : decode cX10_oil 21 = .ok (.getfield 30, 3) := by decide +kernel
theorem dX10_oil_24 : decode cX10_oil 24 = .ok (.getfield 127, 3) := by decide +kernel
theorem dX10_oil_27 : decode cX10_oil 27 = .ok (.iload_n 1, 1) := by decide +kernel
theorem dX10_oil_28 : decode cX10_oil 28 = .ok (.invokevirtual 319, 3) := by decide +kernel
theorem dX10_oil_31 : decode cX10_oil 31 = .ok (.iconst 1, 1) := by decide +kernel
theorem dX10_oil_32 : decode cX10_oil 32 = .ok (.ireturn, 1) := by decide +kernel
theorem dX10_point_0 : decode cX10_point 0 = .ok (.aload_n 0, 1) := by decide +kernel
theorem dX10_point_1 : decode cX10_point 1 = .ok (.getfield 30, 3) := by decide +kernel
theorem dX10_point_4 : decode cX10_point 4 = .ok (.getfield 124, 3) := by decide +kernel
theorem dX10_point_7 : decode cX10_point 7 = .ok (.iload_n 1, 1) := by decide +kernel
theorem dX10_point_8 : decode cX10_point 8 = .ok (.invokevirtual 171, 3) := by decide +kernel
theorem dX10_point_11 : decode cX10_point 11 = .ok (.ifCond .eq 13, 3) := by decide +kernel
theorem dX10_point_14 : decode cX10_point 14 = .ok (.iload_n 2, 1) := by decide +kernel
theorem dX10_point_15 : decode cX10_point 15 = .ok (.ifCond .lt 9, 3) := by decide +kernel
theorem dX10_point_18 : decode cX10_point 18 = .ok (.iload_n 2, 1) := by decide +kernel
theorem dX10_point_19 : decode cX10_point 19 = .ok (.bipush 8, 2) := by decide +kernel
theorem dX10_point_21 : decode cX10_point 21 = .ok (.if_icmp .lt 5, 3) := by decide +kernel
theorem dX10_point_24 : decode cX10_point 24 = .ok (.iconst 0, 1) := by decide +kernel
theorem dX10_point_25 : decode cX10_point 25 = .ok (.ireturn, 1) := by decide +kernel
theorem dX10_point_26 : decode cX10_point 26 = .ok (.aload_n 0, 1) := by decide +kernel
theorem dX10_point_27 : decode cX10_point 27 = .ok (.invokevirtual 299, 3) := by decide +kernel
theorem dX10_point_30 : decode cX10_point 30 = .ok (.aload_n 0, 1) := by decide +kernel
theorem dX10_point_31 : decode cX10_point 31 = .ok (.getfield 30, 3) := by decide +kernel
theorem dX10_point_34 : decode cX10_point 34 = .ok (.getfield 127, 3) := by decide +kernel
theorem dX10_point_37 : decode cX10_point 37 = .ok (.iload_n 1, 1) := by decide +kernel
theorem dX10_point_38 : decode cX10_point 38 = .ok (.iload_n 2, 1) := by decide +kernel
theorem dX10_point_39 : decode cX10_point 39 = .ok (.invokevirtual 322, 3) := by decide +kernel
theorem dX10_point_42 : decode cX10_point 42 = .ok (.iconst 1, 1) := by decide +kernel
theorem dX10_point_43 : decode cX10_point 43 = .ok (.ireturn, 1) := by decide +kernel
theorem dX10_undo_0 : decode cX10_undo 0 = .ok (.aload_n 0, 1) := by decide +kernel
theorem dX10_undo_1 : decode cX10_undo 1 = .ok (.getfield 62, 3) := by decide +kernel
theorem dX10_undo_4 : decode cX10_undo 4 = .ok (.getfield 326, 3) := by decide +kernel
theorem dX10_undo_7 : decode cX10_undo 7 = .ok (.ifCond .ne 5, 3) := by decide +kernel
theorem dX10_undo_10 : decode cX10_undo 10 = .ok (.iconst (-1), 1) := by decide +kernel
theorem dX10_undo_11 : decode cX10_undo 11 = .ok (.ireturn, 1) := by decide +kernel
theorem dX10_undo_12 : decode cX10_undo 12 = .ok (.aload_n 0, 1) := by decide +kernel
theorem dX10_undo_13 : decode cX10_undo 13 = .ok (.getfield 62, 3) := by decide +kernel
theorem dX10_undo_16 : decode cX10_undo 16 = .ok (.aload_n 0, 1) := by decide +kernel
theorem dX10_undo_17 : decode cX10_undo 17 = .ok (.getfield 30, 3) := by decide +kernel
theorem dX10_undo_20 : decode cX10_undo 20 = .ok (.getfield 127, 3) := by decide +kernel
theorem dX10_undo_23 : decode cX10_undo 23 = .ok (.invokevirtual 329, 3) := by decide +kernel
theorem dX10_undo_26 : decode cX10_undo 26 = .ok (.aload_n 0, 1) := by decide +kernel
theorem dX10_undo_27 : decode cX10_undo 27 = .ok (.getfield 76, 3) := by decide +kernel
theorem dX10_undo_30 : decode cX10_undo 30 = .ok (.iconst 0, 1) := by decide +kernel
theorem dX10_undo_31 : decode cX10_undo 31 = .ok (.putfield 149, 3) := by decide +kernel
theorem dX10_undo_34 : decode cX10_undo 34 = .ok (.aload_n 0, 1) := by decide +kernel
theorem dX10_undo_35 : decode cX10_undo 35 = .ok (.getfield 62, 3) := by decide +kernel
theorem dX10_undo_38 : decode cX10_undo 38 = .ok (.getfield 326, 3) := by decide +kernel
theorem dX10_undo_41 : decode cX10_undo 41 = .ok (.ireturn, 1) := by decide +kernel
theorem dX10_richest_0 : decode cX10_richest 0 = .ok (.aload_n 0, 1) := by decide +kernel
theorem dX10_richest_1 : decode cX10_richest 1 = .ok (.getfield 83, 3) := by decide +kernel
theorem dX10_richest_4 : decode cX10_richest 4 = .ok (.aload_n 0, 1) := by decide +kernel
theorem dX10_richest_5 : decode cX10_richest 5 = .ok (.getfield 30, 3) := by decide +kernel
theorem dX10_richest_8 : decode cX10_richest 8 = .ok (.getfield 127, 3) := by decide +kernel
theorem dX10_richest_11 : decode cX10_richest 11 = .ok (.invokevirtual 280, 3) := by decide +kernel
theorem dX10_richest_14 : decode cX10_richest 14 = .ok (.aload_n 0, 1) := by decide +kernel
theorem dX10_richest_15 : decode cX10_richest 15 = .ok (.getfield 69, 3) := by decide +kernel
theorem dX10_richest_18 : decode cX10_richest 18 = .ok (.aload_n 0, 1) := by decide +kernel
theorem dX10_richest_19 : decode cX10_richest 19 = .ok (.getfield 30, 3) := by decide +kernel
theorem dX10_richest_22 : decode cX10_richest 22 = .ok (.getfield 124, 3) := by decide +kernel
theorem dX10_richest_25 : decode cX10_richest 25 = .ok (.aload_n 0, 1) := by decide +kernel
theorem dX10_richest_26 : decode cX10_richest 26 = .ok (.getfield 83, 3) := by decide +kernel
theorem dX10_richest_29 : decode cX10_richest 29 = .ok (.bipush 48, 2) := by decide +kernel
theorem dX10_richest_31 : decode cX10_richest 31 = .ok (.invokevirtual 302, 3) := by decide +kernel
theorem dX10_richest_34 : decode cX10_richest 34 = .ok (.pop, 1) := by decide +kernel
theorem dX10_richest_35 : decode cX10_richest 35 = .ok (.iconst (-1), 1) := by decide +kernel
theorem dX10_richest_36 : decode cX10_richest 36 = .ok (.istore_n 1, 1) := by decide +kernel
theorem dX10_richest_37 : decode cX10_richest 37 = .ok (.iconst 0, 1) := by decide +kernel
theorem dX10_richest_38 : decode cX10_richest 38 = .ok (.istore_n 2, 1) := by decide +kernel
theorem dX10_richest_39 : decode cX10_richest 39 = .ok (.iload_n 2, 1) := by decide +kernel
theorem dX10_richest_40 : decode cX10_richest 40 = .ok (.aload_n 0, 1) := by decide +kernel
theorem dX10_richest_41 : decode cX10_richest 41 = .ok (.getfield 30, 3) := by decide +kernel
theorem dX10_richest_44 : decode cX10_richest 44 = .ok (.getfield 124, 3) := by decide +kernel
theorem dX10_richest_47 : decode cX10_richest 47 = .ok (.getfield 174, 3) := by decide +kernel
theorem dX10_richest_50 : decode cX10_richest 50 = .ok (.getfield 253, 3) := by decide +kernel
theorem dX10_richest_53 : decode cX10_richest 53 = .ok (.if_icmp .ge 35, 3) := by decide +kernel
theorem dX10_richest_56 : decode cX10_richest 56 = .ok (.iload_n 1, 1) := by decide +kernel
theorem dX10_richest_57 : decode cX10_richest 57 = .ok (.iconst (-1), 1) := by decide +kernel
theorem dX10_richest_58 : decode cX10_richest 58 = .ok (.if_icmp .eq 22, 3) := by decide +kernel
theorem dX10_richest_61 : decode cX10_richest 61 = .ok (.aload_n 0, 1) := by decide +kernel
theorem dX10_richest_62 : decode cX10_richest 62 = .ok (.getfield 83, 3) := by decide +kernel
theorem dX10_richest_65 : decode cX10_richest 65 = .ok (.iload_n 2, 1) := by decide +kernel
theorem dX10_richest_66 : decode cX10_richest 66 = .ok (.invokevirtual 332, 3) := by decide +kernel
theorem dX10_richest_69 : decode cX10_richest 69 = .ok (.aload_n 0, 1) := by decide +kernel
theorem dX10_richest_70 : decode cX10_richest 70 = .ok (.getfield 83, 3) := by decide +kernel
theorem dX10_richest_73 : decode cX10_richest 73 = .ok (.iload_n 1, 1) := by decide +kernel
theorem dX10_richest_74 : decode cX10_richest 74 = .ok (.invokevirtual 332, 3) := by decide +kernel
theorem dX10_richest_77 : decode cX10_richest 77 = .ok (.if_icmp .le 5, 3) := by decide +kernel
theorem dX10_richest_80 : decode cX10_richest 80 = .ok (.iload_n 2, 1) := by decide +kernel
theorem dX10_richest_81 : decode cX10_richest 81 = .ok (.istore_n 1, 1) := by decide +kernel
theorem dX10_richest_82 : decode cX10_richest 82 = .ok (.iinc 2 1, 3) := by decide +kernel
theorem dX10_richest_85 : decode cX10_richest 85 = .ok (.goto (-46), 3) := by decide +kernel
theorem dX10_richest_88 : decode cX10_richest 88 = .ok (.iload_n 1, 1) := by decide +kernel
theorem dX10_richest_89 : decode cX10_richest 89 = .ok (.ireturn, 1) := by decide +kernel
theorem dX10_wealthAtEnd_0 : decode cX10_wealthAtEnd 0 = .ok (.aload_n 0, 1) := by decide +kernel
theorem dX10_wealthAtEnd_1 : decode cX10_wealthAtEnd 1 = .ok (.getfield 83, 3) := by decide +kernel
theorem dX10_wealthAtEnd_4 : decode cX10_wealthAtEnd 4 = .ok (.aload_n 0, 1) := by decide +kernel
theorem dX10_wealthAtEnd_5 : decode cX10_wealthAtEnd 5 = .ok (.getfield 30, 3) := by decide +kernel
theorem dX10_wealthAtEnd_8 : decode cX10_wealthAtEnd 8 = .ok (.getfield 127, 3) := by decide +kernel
theorem dX10_wealthAtEnd_11 : decode cX10_wealthAtEnd 11 = .ok (.invokevirtual 280, 3) := by decide +kernel
theorem dX10_wealthAtEnd_14 : decode cX10_wealthAtEnd 14 = .ok (.aload_n 0, 1) := by decide +kernel
theorem dX10_wealthAtEnd_15 : decode cX10_wealthAtEnd 15 = .ok (.getfield 69, 3) := by decide +kernel
theorem dX10_wealthAtEnd_18 : decode cX10_wealthAtEnd 18 = .ok (.aload_n 0, 1) := by decide +kernel
theorem dX10_wealthAtEnd_19 : decode cX10_wealthAtEnd 19 = .ok (.getfield 30, 3) := by decide +kernel
theorem dX10_wealthAtEnd_22 : decode cX10_wealthAtEnd 22 = .ok (.getfield 124, 3) := by decide +kernel
theorem dX10_wealthAtEnd_25 : decode cX10_wealthAtEnd 25 = .ok (.aload_n 0, 1) := by decide +kernel
theorem dX10_wealthAtEnd_26 : decode cX10_wealthAtEnd 26 = .ok (.getfield 83, 3) := by decide +kernel
theorem dX10_wealthAtEnd_29 : decode cX10_wealthAtEnd 29 = .ok (.bipush 48, 2) := by decide +kernel
theorem dX10_wealthAtEnd_31 : decode cX10_wealthAtEnd 31 = .ok (.invokevirtual 302, 3) := by decide +kernel
theorem dX10_wealthAtEnd_34 : decode cX10_wealthAtEnd 34 = .ok (.pop, 1) := by decide +kernel
theorem dX10_wealthAtEnd_35 : decode cX10_wealthAtEnd 35 = .ok (.aload_n 0, 1) := by decide +kernel
theorem dX10_wealthAtEnd_36 : decode cX10_wealthAtEnd 36 = .ok (.getfield 83, 3) := by decide +kernel
theorem dX10_wealthAtEnd_39 : decode cX10_wealthAtEnd 39 = .ok (.iload_n 1, 1) := by decide +kernel
theorem dX10_wealthAtEnd_40 : decode cX10_wealthAtEnd 40 = .ok (.invokevirtual 332, 3) := by decide +kernel
theorem dX10_wealthAtEnd_43 : decode cX10_wealthAtEnd 43 = .ok (.ireturn, 1) := by decide +kernel
theorem dX10_fence_0 : decode cX10_fence 0 = .ok (.aload_n 0, 1) := by decide +kernel
theorem dX10_fence_1 : decode cX10_fence 1 = .ok (.getfield 30, 3) := by decide +kernel
theorem dX10_fence_4 : decode cX10_fence 4 = .ok (.getfield 124, 3) := by decide +kernel
theorem dX10_fence_7 : decode cX10_fence 7 = .ok (.iload_n 1, 1) := by decide +kernel
theorem dX10_fence_8 : decode cX10_fence 8 = .ok (.invokevirtual 171, 3) := by decide +kernel
theorem dX10_fence_11 : decode cX10_fence 11 = .ok (.ifCond .eq 18, 3) := by decide +kernel
theorem dX10_fence_14 : decode cX10_fence 14 = .ok (.aload_n 0, 1) := by decide +kernel
theorem dX10_fence_15 : decode cX10_fence 15 = .ok (.getfield 30, 3) := by decide +kernel
theorem dX10_fence_18 : decode cX10_fence 18 = .ok (.getfield 127, 3) := by decide +kernel
theorem dX10_fence_21 : decode cX10_fence 21 = .ok (.getfield 229, 3) := by decide +kernel
theorem dX10_fence_24 : decode cX10_fence 24 = .ok (.bipush 12, 2) := by decide +kernel
theorem dX10_fence_26 : decode cX10_fence 26 = .ok (.if_icmp .lt 5, 3) := by decide +kernel
theorem dX10_fence_29 : decode cX10_fence 29 = .ok (.iconst (-1), 1) := by decide +kernel
theorem dX10_fence_30 : decode cX10_fence 30 = .ok (.ireturn, 1) := by decide +kernel
theorem dX10_fence_31 : decode cX10_fence 31 = .ok (.aload_n 0, 1) := by decide +kernel
theorem dX10_fence_32 : decode cX10_fence 32 = .ok (.iload_n 1, 1) := by decide +kernel
theorem dX10_fence_33 : decode cX10_fence 33 = .ok (.invokevirtual 335, 3) := by decide +kernel
theorem dX10_fence_36 : decode cX10_fence 36 = .ok (.istore_n 2, 1) := by decide +kernel
theorem dX10_fence_37 : decode cX10_fence 37 = .ok (.iload_n 2, 1) := by decide +kernel
theorem dX10_fence_38 : decode cX10_fence 38 = .ok (.istore_n 3, 1) := by decide +kernel
theorem dX10_fence_39 : decode cX10_fence 39 = .ok (.iconst (-1), 1) := by decide +kernel
theorem dX10_fence_40 : decode cX10_fence 40 = .ok (.istore 4, 2) := by decide +kernel
theorem dX10_fence_42 : decode cX10_fence 42 = .ok (.iconst 0, 1) := by decide +kernel
theorem dX10_fence_43 : decode cX10_fence 43 = .ok (.istore 5, 2) := by decide +kernel
theorem dX10_fence_45 : decode cX10_fence 45 = .ok (.iload 5, 2) := by decide +kernel
theorem dX10_fence_47 : decode cX10_fence 47 = .ok (.bipush 100, 2) := by decide +kernel
theorem dX10_fence_49 : decode cX10_fence 49 = .ok (.if_icmp .ge 109, 3) := by decide +kernel
theorem dX10_fence_52 : decode cX10_fence 52 = .ok (.aload_n 0, 1) := by decide +kernel
theorem dX10_fence_53 : decode cX10_fence 53 = .ok (.getfield 30, 3) := by decide +kernel
theorem dX10_fence_56 : decode cX10_fence 56 = .ok (.getfield 124, 3) := by decide +kernel
theorem dX10_fence_59 : decode cX10_fence 59 = .ok (.iload 5, 2) := by decide +kernel
theorem dX10_fence_61 : decode cX10_fence 61 = .ok (.invokevirtual 158, 3) := by decide +kernel
theorem dX10_fence_64 : decode cX10_fence 64 = .ok (.ifCond .eq 88, 3) := by decide +kernel
theorem dX10_fence_67 : decode cX10_fence 67 = .ok (.aload_n 0, 1) := by decide +kernel
theorem dX10_fence_68 : decode cX10_fence 68 = .ok (.getfield 30, 3) := by decide +kernel
theorem dX10_fence_71 : decode cX10_fence 71 = .ok (.getfield 127, 3) := by decide +kernel
theorem dX10_fence_74 : decode cX10_fence 74 = .ok (.getfield 165, 3) := by decide +kernel
theorem dX10_fence_77 : decode cX10_fence 77 = .ok (.iload 5, 2) := by decide +kernel
theorem dX10_fence_79 : decode cX10_fence 79 = .ok (.iaload, 1) := by decide +kernel
theorem dX10_fence_80 : decode cX10_fence 80 = .ok (.ifCond .ne 72, 3) := by decide +kernel
theorem dX10_fence_83 : decode cX10_fence 83 = .ok (.aload_n 0, 1) := by decide +kernel
theorem dX10_fence_84 : decode cX10_fence 84 = .ok (.getfield 83, 3) := by decide +kernel
theorem dX10_fence_87 : decode cX10_fence 87 = .ok (.aload_n 0, 1) := by decide +kernel
theorem dX10_fence_88 : decode cX10_fence 88 = .ok (.getfield 30, 3) := by decide +kernel
theorem dX10_fence_91 : decode cX10_fence 91 = .ok (.getfield 127, 3) := by decide +kernel
theorem dX10_fence_94 : decode cX10_fence 94 = .ok (.invokevirtual 280, 3) := by decide +kernel
theorem dX10_fence_97 : decode cX10_fence 97 = .ok (.aload_n 0, 1) := by decide +kernel
theorem dX10_fence_98 : decode cX10_fence 98 = .ok (.getfield 83, 3) := by decide +kernel
theorem dX10_fence_101 : decode cX10_fence 101 = .ok (.iload 5, 2) := by decide +kernel
theorem dX10_fence_103 : decode cX10_fence 103 = .ok (.invokevirtual 309, 3) := by decide +kernel
theorem dX10_fence_106 : decode cX10_fence 106 = .ok (.aload_n 0, 1) := by decide +kernel
theorem dX10_fence_107 : decode cX10_fence 107 = .ok (.getfield 69, 3) := by decide +kernel
theorem dX10_fence_110 : decode cX10_fence 110 = .ok (.aload_n 0, 1) := by decide +kernel
theorem dX10_fence_111 : decode cX10_fence 111 = .ok (.getfield 30, 3) := by decide +kernel
theorem dX10_fence_114 : decode cX10_fence 114 = .ok (.getfield 124, 3) := by decide +kernel
theorem dX10_fence_117 : decode cX10_fence 117 = .ok (.aload_n 0, 1) := by decide +kernel
theorem dX10_fence_118 : decode cX10_fence 118 = .ok (.getfield 83, 3) := by decide +kernel
theorem dX10_fence_121 : decode cX10_fence 121 = .ok (.bipush 48, 2) := by decide +kernel
theorem dX10_fence_123 : decode cX10_fence 123 = .ok (.invokevirtual 302, 3) := by decide +kernel
theorem dX10_fence_126 : decode cX10_fence 126 = .ok (.pop, 1) := by decide +kernel
theorem dX10_fence_127 : decode cX10_fence 127 = .ok (.aload_n 0, 1) := by decide +kernel
theorem dX10_fence_128 : decode cX10_fence 128 = .ok (.getfield 83, 3) := by decide +kernel
theorem dX10_fence_131 : decode cX10_fence 131 = .ok (.iload_n 1, 1) := by decide +kernel
theorem dX10_fence_132 : decode cX10_fence 132 = .ok (.invokevirtual 332, 3) := by decide +kernel
theorem dX10_fence_135 : decode cX10_fence 135 = .ok (.iload_n 3, 1) := by decide +kernel
theorem dX10_fence_136 : decode cX10_fence 136 = .ok (.if_icmp .le 16, 3) := by decide +kernel
theorem dX10_fence_139 : decode cX10_fence 139 = .ok (.aload_n 0, 1) := by decide +kernel
theorem dX10_fence_140 : decode cX10_fence 140 = .ok (.getfield 83, 3) := by decide +kernel
theorem dX10_fence_143 : decode cX10_fence 143 = .ok (.iload_n 1, 1) := by decide +kernel
theorem dX10_fence_144 : decode cX10_fence 144 = .ok (.invokevirtual 332, 3) := by decide +kernel
theorem dX10_fence_147 : decode cX10_fence 147 = .ok (.istore_n 3, 1) := by decide +kernel
theorem dX10_fence_148 : decode cX10_fence 148 = .ok (.iload 5, 2) := by decide +kernel
theorem dX10_fence_150 : decode cX10_fence 150 = .ok (.istore 4, 2) := by decide +kernel
theorem dX10_fence_152 : decode cX10_fence 152 = .ok (.iinc 5 1, 3) := by decide +kernel
theorem dX10_fence_155 : decode cX10_fence 155 = .ok (.goto (-110), 3) := by decide +kernel
theorem dX10_fence_158 : decode cX10_fence 158 = .ok (.iload 4, 2) := by decide +kernel
theorem dX10_fence_160 : decode cX10_fence 160 = .ok (.iconst (-1), 1) := by decide +kernel
theorem dX10_fence_161 : decode cX10_fence 161 = .ok (.if_icmp .eq 10, 3) := by decide +kernel
theorem dX10_fence_164 : decode cX10_fence 164 = .ok (.aload_n 0, 1) := by decide +kernel
theorem dX10_fence_165 : decode cX10_fence 165 = .ok (.iload_n 3, 1) := by decide +kernel
theorem dX10_fence_166 : decode cX10_fence 166 = .ok (.iload_n 2, 1) := by decide +kernel
theorem dX10_fence_167 : decode cX10_fence 167 = .ok (.isub, 1) := by decide +kernel
theorem dX10_fence_168 : decode cX10_fence 168 = .ok (.putfield 87, 3) := by decide +kernel
theorem dX10_fence_171 : decode cX10_fence 171 = .ok (.iload 4, 2) := by decide +kernel
theorem dX10_fence_173 : decode cX10_fence 173 = .ok (.ireturn, 1) := by decide +kernel
theorem dX10_more_0 : decode cX10_more 0 = .ok (.aload_n 0, 1) := by decide +kernel
theorem dX10_more_1 : decode cX10_more 1 = .ok (.getfield 87, 3) := by decide +kernel
theorem dX10_more_4 : decode cX10_more 4 = .ok (.ireturn, 1) := by decide +kernel
theorem dX10_suit_0 : decode cX10_suit 0 = .ok (.aload_n 0, 1) := by decide +kernel
theorem dX10_suit_1 : decode cX10_suit 1 = .ok (.getfield 30, 3) := by decide +kernel
theorem dX10_suit_4 : decode cX10_suit 4 = .ok (.getfield 124, 3) := by decide +kernel
theorem dX10_suit_7 : decode cX10_suit 7 = .ok (.iload_n 1, 1) := by decide +kernel
theorem dX10_suit_8 : decode cX10_suit 8 = .ok (.invokevirtual 171, 3) := by decide +kernel
theorem dX10_suit_11 : decode cX10_suit 11 = .ok (.ifCond .eq 17, 3) := by decide +kernel
theorem dX10_suit_14 : decode cX10_suit 14 = .ok (.aload_n 0, 1) := by decide +kernel
theorem dX10_suit_15 : decode cX10_suit 15 = .ok (.getfield 30, 3) := by decide +kernel
theorem dX10_suit_18 : decode cX10_suit 18 = .ok (.getfield 127, 3) := by decide +kernel
theorem dX10_suit_21 : decode cX10_suit 21 = .ok (.iload_n 2, 1) := by decide +kernel
theorem dX10_suit_22 : decode cX10_suit 22 = .ok (.invokevirtual 312, 3) := by decide +kernel
theorem dX10_suit_25 : decode cX10_suit 25 = .ok (.ifCond .eq 7, 3) := by decide +kernel
theorem dX10_suit_28 : decode cX10_suit 28 = .ok (.sipush (-10001), 3) := by decide +kernel
theorem dX10_suit_31 : decode cX10_suit 31 = .ok (.ireturn, 1) := by decide +kernel
theorem dX10_suit_32 : decode cX10_suit 32 = .ok (.aload_n 0, 1) := by decide +kernel
theorem dX10_suit_33 : decode cX10_suit 33 = .ok (.iload_n 1, 1) := by decide +kernel
theorem dX10_suit_34 : decode cX10_suit 34 = .ok (.invokevirtual 335, 3) := by decide +kernel
theorem dX10_suit_37 : decode cX10_suit 37 = .ok (.istore_n 3, 1) := by decide +kernel
theorem dX10_suit_38 : decode cX10_suit 38 = .ok (.aload_n 0, 1) := by decide +kernel
theorem dX10_suit_39 : decode cX10_suit 39 = .ok (.getfield 83, 3) := by decide +kernel
theorem dX10_suit_42 : decode cX10_suit 42 = .ok (.aload_n 0, 1) := by decide +kernel
theorem dX10_suit_43 : decode cX10_suit 43 = .ok (.getfield 30, 3) := by decide +kernel
theorem dX10_suit_46 : decode cX10_suit 46 = .ok (.getfield 127, 3) := by decide +kernel
theorem dX10_suit_49 : decode cX10_suit 49 = .ok (.invokevirtual 280, 3) := by decide +kernel
theorem dX10_suit_52 : decode cX10_suit 52 = .ok (.aload_n 0, 1) := by decide +kernel
theorem dX10_suit_53 : decode cX10_suit 53 = .ok (.getfield 83, 3) := by decide +kernel
theorem dX10_suit_56 : decode cX10_suit 56 = .ok (.aload_n 0, 1) := by decide +kernel
theorem dX10_suit_57 : decode cX10_suit 57 = .ok (.getfield 30, 3) := by decide +kernel
theorem dX10_suit_60 : decode cX10_suit 60 = .ok (.getfield 124, 3) := by decide +kernel
theorem dX10_suit_63 : decode cX10_suit 63 = .ok (.iload_n 2, 1) := by decide +kernel
theorem dX10_suit_64 : decode cX10_suit 64 = .ok (.invokevirtual 315, 3) := by decide +kernel
theorem dX10_suit_67 : decode cX10_suit 67 = .ok (.aload_n 0, 1) := by decide +kernel
theorem dX10_suit_68 : decode cX10_suit 68 = .ok (.getfield 69, 3) := by decide +kernel
theorem dX10_suit_71 : decode cX10_suit 71 = .ok (.aload_n 0, 1) := by decide +kernel
theorem dX10_suit_72 : decode cX10_suit 72 = .ok (.getfield 30, 3) := by decide +kernel
theorem dX10_suit_75 : decode cX10_suit 75 = .ok (.getfield 124, 3) := by decide +kernel
theorem dX10_suit_78 : decode cX10_suit 78 = .ok (.aload_n 0, 1) := by decide +kernel
theorem dX10_suit_79 : decode cX10_suit 79 = .ok (.getfield 83, 3) := by decide +kernel
theorem dX10_suit_82 : decode cX10_suit 82 = .ok (.bipush 48, 2) := by decide +kernel
theorem dX10_suit_84 : decode cX10_suit 84 = .ok (.invokevirtual 302, 3) := by decide +kernel
theorem dX10_suit_87 : decode cX10_suit 87 = .ok (.pop, 1) := by decide +kernel
theorem dX10_suit_88 : decode cX10_suit 88 = .ok (.aload_n 0, 1) := by decide +kernel
theorem dX10_suit_89 : decode cX10_suit 89 = .ok (.getfield 83, 3) := by decide +kernel
theorem dX10_suit_92 : decode cX10_suit 92 = .ok (.iload_n 1, 1) := by decide +kernel
theorem dX10_suit_93 : decode cX10_suit 93 = .ok (.invokevirtual 332, 3) := by decide +kernel
theorem dX10_suit_96 : decode cX10_suit 96 = .ok (.iload_n 3, 1) := by decide +kernel
theorem dX10_suit_97 : decode cX10_suit 97 = .ok (.isub, 1) := by decide +kernel
theorem dX10_suit_98 : decode cX10_suit 98 = .ok (.ireturn, 1) := by decide +kernel
theorem dX10_has_0 : decode cX10_has 0 = .ok (.aload_n 0, 1) := by decide +kernel
theorem dX10_has_1 : decode cX10_has 1 = .ok (.getfield 30, 3) := by decide +kernel
theorem dX10_has_4 : decode cX10_has 4 = .ok (.getfield 124, 3) := by decide +kernel
theorem dX10_has_7 : decode cX10_has 7 = .ok (.iload_n 1, 1) := by decide +kernel
theorem dX10_has_8 : decode cX10_has 8 = .ok (.invokevirtual 171, 3) := by decide +kernel
theorem dX10_has_11 : decode cX10_has 11 = .ok (.ifCond .eq 14, 3) := by decide +kernel
theorem dX10_has_14 : decode cX10_has 14 = .ok (.iload_n 2, 1) := by decide +kernel
theorem dX10_has_15 : decode cX10_has 15 = .ok (.aload_n 0, 1) := by decide +kernel
theorem dX10_has_16 : decode cX10_has 16 = .ok (.invokevirtual 338, 3) := by decide +kernel
theorem dX10_has_19 : decode cX10_has 19 = .ok (.iconst (-1), 1) := by decide +kernel
theorem dX10_has_20 : decode cX10_has 20 = .ok (.ixor, 1) := by decide +kernel
theorem dX10_has_21 : decode cX10_has 21 = .ok (.iand, 1) := by decide +kernel
theorem dX10_has_22 : decode cX10_has 22 = .ok (.ifCond .eq 5, 3) := by decide +kernel
theorem dX10_has_25 : decode cX10_has 25 = .ok (.iconst (-1), 1) := by decide +kernel
theorem dX10_has_26 : decode cX10_has 26 = .ok (.ireturn, 1) := by decide +kernel
theorem dX10_has_27 : decode cX10_has 27 = .ok (.aload_n 0, 1) := by decide +kernel
theorem dX10_has_28 : decode cX10_has 28 = .ok (.iload_n 2, 1) := by decide +kernel
theorem dX10_has_29 : decode cX10_has 29 = .ok (.invokevirtual 342, 3) := by decide +kernel
theorem dX10_has_32 : decode cX10_has 32 = .ok (.aload_n 0, 1) := by decide +kernel
theorem dX10_has_33 : decode cX10_has 33 = .ok (.getfield 83, 3) := by decide +kernel
theorem dX10_has_36 : decode cX10_has 36 = .ok (.iload_n 1, 1) := by decide +kernel
theorem dX10_has_37 : decode cX10_has 37 = .ok (.invokevirtual 332, 3) := by decide +kernel
theorem dX10_has_40 : decode cX10_has 40 = .ok (.ireturn, 1) := by decide +kernel
theorem dX10_freePlots_0 : decode cX10_freePlots 0 = .ok (.iconst 0, 1) := by decide +kernel
theorem dX10_freePlots_1 : decode cX10_freePlots 1 = .ok (.istore_n 1, 1) := by decide +kernel
theorem dX10_freePlots_2 : decode cX10_freePlots 2 = .ok (.iconst 0, 1) := by decide +kernel
theorem dX10_freePlots_3 : decode cX10_freePlots 3 = .ok (.istore_n 2, 1) := by decide +kernel
theorem dX10_freePlots_4 : decode cX10_freePlots 4 = .ok (.iload_n 2, 1) := by decide +kernel
theorem dX10_freePlots_5 : decode cX10_freePlots 5 = .ok (.aload_n 0, 1) := by decide +kernel
theorem dX10_freePlots_6 : decode cX10_freePlots 6 = .ok (.getfield 30, 3) := by decide +kernel
theorem dX10_freePlots_9 : decode cX10_freePlots 9 = .ok (.getfield 124, 3) := by decide +kernel
theorem dX10_freePlots_12 : decode cX10_freePlots 12 = .ok (.getfield 174, 3) := by decide +kernel
theorem dX10_freePlots_15 : decode cX10_freePlots 15 = .ok (.getfield 253, 3) := by decide +kernel
theorem dX10_freePlots_18 : decode cX10_freePlots 18 = .ok (.if_icmp .ge 56, 3) := by decide +kernel
theorem dX10_freePlots_21 : decode cX10_freePlots 21 = .ok (.aload_n 0, 1) := by decide +kernel
theorem dX10_freePlots_22 : decode cX10_freePlots 22 = .ok (.getfield 30, 3) := by decide +kernel
theorem dX10_freePlots_25 : decode cX10_freePlots 25 = .ok (.getfield 124, 3) := by decide +kernel
theorem dX10_freePlots_28 : decode cX10_freePlots 28 = .ok (.getfield 174, 3) := by decide +kernel
theorem dX10_freePlots_31 : decode cX10_freePlots 31 = .ok (.getfield 204, 3) := by decide +kernel
theorem dX10_freePlots_34 : decode cX10_freePlots 34 = .ok (.iload_n 2, 1) := by decide +kernel
theorem dX10_freePlots_35 : decode cX10_freePlots 35 = .ok (.iaload, 1) := by decide +kernel
theorem dX10_freePlots_36 : decode cX10_freePlots 36 = .ok (.istore_n 3, 1) := by decide +kernel
theorem dX10_freePlots_37 : decode cX10_freePlots 37 = .ok (.iload_n 3, 1) := by decide +kernel
theorem dX10_freePlots_38 : decode cX10_freePlots 38 = .ok (.ifCond .lt 30, 3) := by decide +kernel
theorem dX10_freePlots_41 : decode cX10_freePlots 41 = .ok (.iload_n 3, 1) := by decide +kernel
theorem dX10_freePlots_42 : decode cX10_freePlots 42 = .ok (.bipush 100, 2) := by decide +kernel
theorem dX10_freePlots_44 : decode cX10_freePlots 44 = .ok (.if_icmp .ge 24, 3) := by decide +kernel
theorem dX10_freePlots_47 : decode cX10_freePlots 47 = .ok (.aload_n 0, 1) := by decide +kernel
theorem dX10_freePlots_48 : decode cX10_freePlots 48 = .ok (.getfield 30, 3) := by decide +kernel
theorem dX10_freePlots_51 : decode cX10_freePlots 51 = .ok (.getfield 127, 3) := by decide +kernel
theorem dX10_freePlots_54 : decode cX10_freePlots 54 = .ok (.getfield 165, 3) := by decide +kernel
theorem dX10_freePlots_57 : decode cX10_freePlots 57 = .ok (.iload_n 3, 1) := by decide +kernel
theorem dX10_freePlots_58 : decode cX10_freePlots 58 = .ok (.iaload, 1) := by decide +kernel
theorem dX10_freePlots_59 : decode cX10_freePlots 59 = .ok (.ifCond .ne 9, 3) := by decide +kernel
theorem dX10_freePlots_62 : decode cX10_freePlots 62 = .ok (.iload_n 1, 1) := by decide +kernel
theorem dX10_freePlots_63 : decode cX10_freePlots 63 = .ok (.iconst 1, 1) := by decide +kernel
theorem dX10_freePlots_64 : decode cX10_freePlots 64 = .ok (.iload_n 2, 1) := by decide +kernel
theorem dX10_freePlots_65 : decode cX10_freePlots 65 = .ok (.ishl, 1) := by decide +kernel
theorem dX10_freePlots_66 : decode cX10_freePlots 66 = .ok (.ior, 1) := by decide +kernel
theorem dX10_freePlots_67 : decode cX10_freePlots 67 = .ok (.istore_n 1, 1) := by decide +kernel
theorem dX10_freePlots_68 : decode cX10_freePlots 68 = .ok (.iinc 2 1, 3) := by decide +kernel
theorem dX10_freePlots_71 : decode cX10_freePlots 71 = .ok (.goto (-67), 3) := by decide +kernel
theorem dX10_freePlots_74 : decode cX10_freePlots 74 = .ok (.iload_n 1, 1) := by decide +kernel
theorem dX10_freePlots_75 : decode cX10_freePlots 75 = .ok (.ireturn, 1) := by decide +kernel
theorem dX10_tryPlots_0 : decode cX10_tryPlots 0 = .ok (.aload_n 0, 1) := by decide +kernel
theorem dX10_tryPlots_1 : decode cX10_tryPlots 1 = .ok (.getfield 83, 3) := by decide +kernel
theorem dX10_tryPlots_4 : decode cX10_tryPlots 4 = .ok (.aload_n 0, 1) := by decide +kernel
theorem dX10_tryPlots_5 : decode cX10_tryPlots 5 = .ok (.getfield 30, 3) := by decide +kernel
theorem dX10_tryPlots_8 : decode cX10_tryPlots 8 = .ok (.getfield 127, 3) := by decide +kernel
theorem dX10_tryPlots_11 : decode cX10_tryPlots 11 = .ok (.invokevirtual 280, 3) := by decide +kernel
theorem dX10_tryPlots_14 : decode cX10_tryPlots 14 = .ok (.iconst 0, 1) := by decide +kernel
theorem dX10_tryPlots_15 : decode cX10_tryPlots 15 = .ok (.istore_n 2, 1) := by decide +kernel
theorem dX10_tryPlots_16 : decode cX10_tryPlots 16 = .ok (.iload_n 2, 1) := by decide +kernel
theorem dX10_tryPlots_17 : decode cX10_tryPlots 17 = .ok (.aload_n 0, 1) := by decide +kernel
theorem dX10_tryPlots_18 : decode cX10_tryPlots 18 = .ok (.getfield 30, 3) := by decide +kernel
theorem dX10_tryPlots_21 : decode cX10_tryPlots 21 = .ok (.getfield 124, 3) := by decide +kernel
theorem dX10_tryPlots_24 : decode cX10_tryPlots 24 = .ok (.getfield 174, 3) := by decide +kernel
theorem dX10_tryPlots_27 : decode cX10_tryPlots 27 = .ok (.getfield 253, 3) := by decide +kernel
theorem dX10_tryPlots_30 : decode cX10_tryPlots 30 = .ok (.if_icmp .ge 42, 3) := by decide +kernel
theorem dX10_tryPlots_33 : decode cX10_tryPlots 33 = .ok (.aload_n 0, 1) := by decide +kernel
theorem dX10_tryPlots_34 : decode cX10_tryPlots 34 = .ok (.getfield 30, 3) := by decide +kernel
theorem dX10_tryPlots_37 : decode cX10_tryPlots 37 = .ok (.getfield 124, 3) := by decide +kernel
theorem dX10_tryPlots_40 : decode cX10_tryPlots 40 = .ok (.getfield 174, 3) := by decide +kernel
theorem dX10_tryPlots_43 : decode cX10_tryPlots 43 = .ok (.getfield 204, 3) := by decide +kernel
theorem dX10_tryPlots_46 : decode cX10_tryPlots 46 = .ok (.iload_n 2, 1) := by decide +kernel
theorem dX10_tryPlots_47 : decode cX10_tryPlots 47 = .ok (.iaload, 1) := by decide +kernel
theorem dX10_tryPlots_48 : decode cX10_tryPlots 48 = .ok (.istore_n 3, 1) := by decide +kernel
theorem dX10_tryPlots_49 : decode cX10_tryPlots 49 = .ok (.iload_n 1, 1) := by decide +kernel
theorem dX10_tryPlots_50 : decode cX10_tryPlots 50 = .ok (.iload_n 2, 1) := by decide +kernel
theorem dX10_tryPlots_51 : decode cX10_tryPlots 51 = .ok (.ishr, 1) := by decide +kernel
theorem dX10_tryPlots_52 : decode cX10_tryPlots 52 = .ok (.iconst 1, 1) := by decide +kernel
theorem dX10_tryPlots_53 : decode cX10_tryPlots 53 = .ok (.iand, 1) := by decide +kernel
theorem dX10_tryPlots_54 : decode cX10_tryPlots 54 = .ok (.iconst 1, 1) := by decide +kernel
theorem dX10_tryPlots_55 : decode cX10_tryPlots 55 = .ok (.if_icmp .ne 11, 3) := by decide +kernel
theorem dX10_tryPlots_58 : decode cX10_tryPlots 58 = .ok (.aload_n 0, 1) := by decide +kernel
theorem dX10_tryPlots_59 : decode cX10_tryPlots 59 = .ok (.getfield 83, 3) := by decide +kernel
theorem dX10_tryPlots_62 : decode cX10_tryPlots 62 = .ok (.iload_n 3, 1) := by decide +kernel
theorem dX10_tryPlots_63 : decode cX10_tryPlots 63 = .ok (.invokevirtual 309, 3) := by decide +kernel
theorem dX10_tryPlots_66 : decode cX10_tryPlots 66 = .ok (.iinc 2 1, 3) := by decide +kernel
theorem dX10_tryPlots_69 : decode cX10_tryPlots 69 = .ok (.goto (-53), 3) := by decide +kernel
theorem dX10_tryPlots_72 : decode cX10_tryPlots 72 = .ok (.aload_n 0, 1) := by decide +kernel
theorem dX10_tryPlots_73 : decode cX10_tryPlots 73 = .ok (.getfield 69, 3) := by decide +kernel
theorem dX10_tryPlots_76 : decode cX10_tryPlots 76 = .ok (.aload_n 0, 1) := by decide +kernel
theorem dX10_tryPlots_77 : decode cX10_tryPlots 77 = .ok (.getfield 30, 3) := by decide +kernel
theorem dX10_tryPlots_80 : decode cX10_tryPlots 80 = .ok (.getfield 124, 3) := by decide +kernel
theorem dX10_tryPlots_83 : decode cX10_tryPlots 83 = .ok (.aload_n 0, 1) := by decide +kernel
theorem dX10_tryPlots_84 : decode cX10_tryPlots 84 = .ok (.getfield 83, 3) := by decide +kernel
theorem dX10_tryPlots_87 : decode cX10_tryPlots 87 = .ok (.bipush 48, 2) := by decide +kernel
theorem dX10_tryPlots_89 : decode cX10_tryPlots 89 = .ok (.invokevirtual 302, 3) := by decide +kernel
theorem dX10_tryPlots_92 : decode cX10_tryPlots 92 = .ok (.pop, 1) := by decide +kernel
theorem dX10_tryPlots_93 : decode cX10_tryPlots 93 = .ok (.return_, 1) := by decide +kernel
theorem dX10_rests_0 : decode cX10_rests 0 = .ok (.aload_n 0, 1) := by decide +kernel
theorem dX10_rests_1 : decode cX10_rests 1 = .ok (.getfield 76, 3) := by decide +kernel
theorem dX10_rests_4 : decode cX10_rests 4 = .ok (.getfield 149, 3) := by decide +kernel
theorem dX10_rests_7 : decode cX10_rests 7 = .ok (.ifCond .ne 7, 3) := by decide +kernel
theorem dX10_rests_10 : decode cX10_rests 10 = .ok (.aload_n 0, 1) := by decide +kernel
theorem dX10_rests_11 : decode cX10_rests 11 = .ok (.invokevirtual 345, 3) := by decide +kernel
theorem dX10_rests_14 : decode cX10_rests 14 = .ok (.iload_n 1, 1) := by decide +kernel
theorem dX10_rests_15 : decode cX10_rests 15 = .ok (.iconst (-1), 1) := by decide +kernel
theorem dX10_rests_16 : decode cX10_rests 16 = .ok (.if_icmp .ne 11, 3) := by decide +kernel
theorem dX10_rests_19 : decode cX10_rests 19 = .ok (.aload_n 0, 1) := by decide +kernel
theorem dX10_rests_20 : decode cX10_rests 20 = .ok (.getfield 76, 3) := by decide +kernel
theorem dX10_rests_23 : decode cX10_rests 23 = .ok (.getfield 348, 3) := by decide +kernel
theorem dX10_rests_26 : decode cX10_rests 26 = .ok (.ireturn, 1) := by decide +kernel
theorem dX10_rests_27 : decode cX10_rests 27 = .ok (.iload_n 1, 1) := by decide +kernel
theorem dX10_rests_28 : decode cX10_rests 28 = .ok (.ifCond .lt 26, 3) := by decide +kernel
theorem dX10_rests_31 : decode cX10_rests 31 = .ok (.iload_n 1, 1) := by decide +kernel
theorem dX10_rests_32 : decode cX10_rests 32 = .ok (.aload_n 0, 1) := by decide +kernel
theorem dX10_rests_33 : decode cX10_rests 33 = .ok (.getfield 76, 3) := by decide +kernel
theorem dX10_rests_36 : decode cX10_rests 36 = .ok (.getfield 348, 3) := by decide +kernel
theorem dX10_rests_39 : decode cX10_rests 39 = .ok (.if_icmp .ge 15, 3) := by decide +kernel
theorem dX10_rests_42 : decode cX10_rests 42 = .ok (.aload_n 0, 1) := by decide +kernel
theorem dX10_rests_43 : decode cX10_rests 43 = .ok (.getfield 76, 3) := by decide +kernel
theorem dX10_rests_46 : decode cX10_rests 46 = .ok (.getfield 351, 3) := by decide +kernel
theorem dX10_rests_49 : decode cX10_rests 49 = .ok (.iload_n 1, 1) := by decide +kernel
theorem dX10_rests_50 : decode cX10_rests 50 = .ok (.iaload, 1) := by decide +kernel
theorem dX10_rests_51 : decode cX10_rests 51 = .ok (.goto 4, 3) := by decide +kernel
theorem dX10_rests_54 : decode cX10_rests 54 = .ok (.iconst (-1), 1) := by decide +kernel
theorem dX10_rests_55 : decode cX10_rests 55 = .ok (.ireturn, 1) := by decide +kernel
theorem dX10_tryAllPlots_0 : decode cX10_tryAllPlots 0 = .ok (.aload_n 0, 1) := by decide +kernel
theorem dX10_tryAllPlots_1 : decode cX10_tryAllPlots 1 = .ok (.invokevirtual 338, 3) := by decide +kernel
theorem dX10_tryAllPlots_4 : decode cX10_tryAllPlots 4 = .ok (.istore_n 1, 1) := by decide +kernel
theorem dX10_tryAllPlots_5 : decode cX10_tryAllPlots 5 = .ok (.iconst 0, 1) := by decide +kernel
theorem dX10_tryAllPlots_6 : decode cX10_tryAllPlots 6 = .ok (.istore_n 2, 1) := by decide +kernel
theorem dX10_tryAllPlots_7 : decode cX10_tryAllPlots 7 = .ok (.iload_n 2, 1) := by decide +kernel
theorem dX10_tryAllPlots_8 : decode cX10_tryAllPlots 8 = .ok (.sipush 256, 3) := by decide +kernel
theorem dX10_tryAllPlots_11 : decode cX10_tryAllPlots 11 = .ok (.if_icmp .ge 34, 3) := by decide +kernel
theorem dX10_tryAllPlots_14 : decode cX10_tryAllPlots 14 = .ok (.iload_n 2, 1) := by decide +kernel
theorem dX10_tryAllPlots_15 : decode cX10_tryAllPlots 15 = .ok (.iload_n 1, 1) := by decide +kernel
theorem dX10_tryAllPlots_16 : decode cX10_tryAllPlots 16 = .ok (.iconst (-1), 1) := by decide +kernel
theorem dX10_tryAllPlots_17 : decode cX10_tryAllPlots 17 = .ok (.ixor, 1) := by decide +kernel
theorem dX10_tryAllPlots_18 : decode cX10_tryAllPlots 18 = .ok (.iand, 1) := by decide +kernel
theorem dX10_tryAllPlots_19 : decode cX10_tryAllPlots 19 = .ok (.ifCond .ne 20, 3) := by decide +kernel
theorem dX10_tryAllPlots_22 : decode cX10_tryAllPlots 22 = .ok (.aload_n 0, 1) := by decide +kernel
theorem dX10_tryAllPlots_23 : decode cX10_tryAllPlots 23 = .ok (.iload_n 2, 1) := by decide +kernel
theorem dX10_tryAllPlots_24 : decode cX10_tryAllPlots 24 = .ok (.invokevirtual 342, 3) := by decide +kernel
theorem dX10_tryAllPlots_27 : decode cX10_tryAllPlots 27 = .ok (.aload_n 0, 1) := by decide +kernel
theorem dX10_tryAllPlots_28 : decode cX10_tryAllPlots 28 = .ok (.getfield 76, 3) := by decide +kernel
theorem dX10_tryAllPlots_31 : decode cX10_tryAllPlots 31 = .ok (.iload_n 2, 1) := by decide +kernel
theorem dX10_tryAllPlots_32 : decode cX10_tryAllPlots 32 = .ok (.aload_n 0, 1) := by decide +kernel
theorem dX10_tryAllPlots_33 : decode cX10_tryAllPlots 33 = .ok (.getfield 83, 3) := by decide +kernel
theorem dX10_tryAllPlots_36 : decode cX10_tryAllPlots 36 = .ok (.invokevirtual 354, 3) := by decide +kernel
theorem dX10_tryAllPlots_39 : decode cX10_tryAllPlots 39 = .ok (.iinc 2 1, 3) := by decide +kernel
theorem dX10_tryAllPlots_42 : decode cX10_tryAllPlots 42 = .ok (.goto (-35), 3) := by decide +kernel
theorem dX10_tryAllPlots_45 : decode cX10_tryAllPlots 45 = .ok (.aload_n 0, 1) := by decide +kernel
theorem dX10_tryAllPlots_46 : decode cX10_tryAllPlots 46 = .ok (.getfield 76, 3) := by decide +kernel
theorem dX10_tryAllPlots_49 : decode cX10_tryAllPlots 49 = .ok (.iload_n 1, 1) := by decide +kernel
theorem dX10_tryAllPlots_50 : decode cX10_tryAllPlots 50 = .ok (.invokevirtual 358, 3) := by decide +kernel
theorem dX10_tryAllPlots_53 : decode cX10_tryAllPlots 53 = .ok (.return_, 1) := by decide +kernel
theorem dX10_oiled_0 : decode cX10_oiled 0 = .ok (.aload_n 0, 1) := by decide +kernel
theorem dX10_oiled_1 : decode cX10_oiled 1 = .ok (.getfield 13, 3) := by decide +kernel
theorem dX10_oiled_4 : decode cX10_oiled 4 = .ok (.istore_n 1, 1) := by decide +kernel
theorem dX10_oiled_5 : decode cX10_oiled 5 = .ok (.aload_n 0, 1) := by decide +kernel
theorem dX10_oiled_6 : decode cX10_oiled 6 = .ok (.iconst 0, 1) := by decide +kernel
theorem dX10_oiled_7 : decode cX10_oiled 7 = .ok (.putfield 13, 3) := by decide +kernel
theorem dX10_oiled_10 : decode cX10_oiled 10 = .ok (.aload_n 0, 1) := by decide +kernel
theorem dX10_oiled_11 : decode cX10_oiled 11 = .ok (.getfield 30, 3) := by decide +kernel
theorem dX10_oiled_14 : decode cX10_oiled 14 = .ok (.getfield 124, 3) := by decide +kernel
theorem dX10_oiled_17 : decode cX10_oiled 17 = .ok (.getfield 174, 3) := by decide +kernel
theorem dX10_oiled_20 : decode cX10_oiled 20 = .ok (.getfield 253, 3) := by decide +kernel
theorem dX10_oiled_23 : decode cX10_oiled 23 = .ok (.istore_n 2, 1) := by decide +kernel
theorem dX10_oiled_24 : decode cX10_oiled 24 = .ok (.iload_n 2, 1) := by decide +kernel
theorem dX10_oiled_25 : decode cX10_oiled 25 = .ok (.ifCond .eq 8, 3) := by decide +kernel
theorem dX10_oiled_28 : decode cX10_oiled 28 = .ok (.iload_n 1, 1) := by decide +kernel
theorem dX10_oiled_29 : decode cX10_oiled 29 = .ok (.iload_n 2, 1) := by decide +kernel
theorem dX10_oiled_30 : decode cX10_oiled 30 = .ok (.if_icmp .eq 5, 3) := by decide +kernel
theorem dX10_oiled_33 : decode cX10_oiled 33 = .ok (.iconst (-1), 1) := by decide +kernel
theorem dX10_oiled_34 : decode cX10_oiled 34 = .ok (.ireturn, 1) := by decide +kernel
theorem dX10_oiled_35 : decode cX10_oiled 35 = .ok (.iconst 0, 1) := by decide +kernel
theorem dX10_oiled_36 : decode cX10_oiled 36 = .ok (.istore_n 3, 1) := by decide +kernel
theorem dX10_oiled_37 : decode cX10_oiled 37 = .ok (.iload_n 3, 1) := by decide +kernel
theorem dX10_oiled_38 : decode cX10_oiled 38 = .ok (.iload_n 2, 1) := by decide +kernel
theorem dX10_oiled_39 : decode cX10_oiled 39 = .ok (.if_icmp .ge 31, 3) := by decide +kernel
theorem dX10_oiled_42 : decode cX10_oiled 42 = .ok (.aload_n 0, 1) := by decide +kernel
theorem dX10_oiled_43 : decode cX10_oiled 43 = .ok (.getfield 9, 3) := by decide +kernel
theorem dX10_oiled_46 : decode cX10_oiled 46 = .ok (.iload_n 3, 1) := by decide +kernel
theorem dX10_oiled_47 : decode cX10_oiled 47 = .ok (.baload, 1) := by decide +kernel
theorem dX10_oiled_48 : decode cX10_oiled 48 = .ok (.ifCond .lt 14, 3) := by decide +kernel
theorem dX10_oiled_51 : decode cX10_oiled 51 = .ok (.aload_n 0, 1) := by decide +kernel
theorem dX10_oiled_52 : decode cX10_oiled 52 = .ok (.getfield 9, 3) := by decide +kernel
theorem dX10_oiled_55 : decode cX10_oiled 55 = .ok (.iload_n 3, 1) := by decide +kernel
theorem dX10_oiled_56 : decode cX10_oiled 56 = .ok (.baload, 1) := by decide +kernel
theorem dX10_oiled_57 : decode cX10_oiled 57 = .ok (.bipush 8, 2) := by decide +kernel
theorem dX10_oiled_59 : decode cX10_oiled 59 = .ok (.if_icmp .lt 5, 3) := by decide +kernel
theorem dX10_oiled_62 : decode cX10_oiled 62 = .ok (.iconst (-1), 1) := by decide +kernel
theorem dX10_oiled_63 : decode cX10_oiled 63 = .ok (.ireturn, 1) := by decide +kernel
theorem dX10_oiled_64 : decode cX10_oiled 64 = .ok (.iinc 3 1, 3) := by decide +kernel
theorem dX10_oiled_67 : decode cX10_oiled 67 = .ok (.goto (-30), 3) := by decide +kernel
theorem dX10_oiled_70 : decode cX10_oiled 70 = .ok (.aload_n 0, 1) := by decide +kernel
theorem dX10_oiled_71 : decode cX10_oiled 71 = .ok (.iconst 0, 1) := by decide +kernel
theorem dX10_oiled_72 : decode cX10_oiled 72 = .ok (.putfield 94, 3) := by decide +kernel
theorem dX10_oiled_75 : decode cX10_oiled 75 = .ok (.aload_n 0, 1) := by decide +kernel
theorem dX10_oiled_76 : decode cX10_oiled 76 = .ok (.iload_n 2, 1) := by decide +kernel
theorem dX10_oiled_77 : decode cX10_oiled 77 = .ok (.invokevirtual 361, 3) := by decide +kernel
theorem dX10_oiled_80 : decode cX10_oiled 80 = .ok (.istore_n 3, 1) := by decide +kernel
theorem dX10_oiled_81 : decode cX10_oiled 81 = .ok (.iconst 0, 1) := by decide +kernel
theorem dX10_oiled_82 : decode cX10_oiled 82 = .ok (.istore 4, 2) := by decide +kernel
theorem dX10_oiled_84 : decode cX10_oiled 84 = .ok (.iload 4, 2) := by decide +kernel
theorem dX10_oiled_86 : decode cX10_oiled 86 = .ok (.iload_n 2, 1) := by decide +kernel
theorem dX10_oiled_87 : decode cX10_oiled 87 = .ok (.if_icmp .ge 26, 3) := by decide +kernel
theorem dX10_oiled_90 : decode cX10_oiled 90 = .ok (.iload_n 3, 1) := by decide +kernel
theorem dX10_oiled_91 : decode cX10_oiled 91 = .ok (.iconst 1, 1) := by decide +kernel
theorem dX10_oiled_92 : decode cX10_oiled 92 = .ok (.iload 4, 2) := by decide +kernel
theorem dX10_oiled_94 : decode cX10_oiled 94 = .ok (.ishl, 1) := by decide +kernel
theorem dX10_oiled_95 : decode cX10_oiled 95 = .ok (.iconst (-1), 1) := by decide +kernel
theorem dX10_oiled_96 : decode cX10_oiled 96 = .ok (.ixor, 1) := by decide +kernel
theorem dX10_oiled_97 : decode cX10_oiled 97 = .ok (.iand, 1) := by decide +kernel
theorem dX10_oiled_98 : decode cX10_oiled 98 = .ok (.ifCond .ne 9, 3) := by decide +kernel
theorem dX10_oiled_101 : decode cX10_oiled 101 = .ok (.aload_n 0, 1) := by decide +kernel
theorem dX10_oiled_102 : decode cX10_oiled 102 = .ok (.iload 4, 2) := by decide +kernel
theorem dX10_oiled_104 : decode cX10_oiled 104 = .ok (.invokevirtual 364, 3) := by decide +kernel
theorem dX10_oiled_107 : decode cX10_oiled 107 = .ok (.iinc 4 1, 3) := by decide +kernel
theorem dX10_oiled_110 : decode cX10_oiled 110 = .ok (.goto (-26), 3) := by decide +kernel
theorem dX10_oiled_113 : decode cX10_oiled 113 = .ok (.aload_n 0, 1) := by decide +kernel
theorem dX10_oiled_114 : decode cX10_oiled 114 = .ok (.getfield 94, 3) := by decide +kernel
theorem dX10_oiled_117 : decode cX10_oiled 117 = .ok (.ireturn, 1) := by decide +kernel
theorem dX10_unlikeWithoutOil_0 : decode cX10_unlikeWithoutOil 0 = .ok (.iconst 0, 1) := by decide +kernel
theorem dX10_unlikeWithoutOil_1 : decode cX10_unlikeWithoutOil 1 = .ok (.istore_n 2, 1) := by decide +kernel
theorem dX10_unlikeWithoutOil_2 : decode cX10_unlikeWithoutOil 2 = .ok (.iconst 0, 1) := by decide +kernel
theorem dX10_unlikeWithoutOil_3 : decode cX10_unlikeWithoutOil 3 = .ok (.istore_n 3, 1) := by decide +kernel
theorem dX10_unlikeWithoutOil_4 : decode cX10_unlikeWithoutOil 4 = .ok (.iload_n 3, 1) := by decide +kernel
theorem dX10_unlikeWithoutOil_5 : decode cX10_unlikeWithoutOil 5 = .ok (.iload_n 1, 1) := by decide +kernel
theorem dX10_unlikeWithoutOil_6 : decode cX10_unlikeWithoutOil 6 = .ok (.if_icmp .ge 50, 3) := by decide +kernel
theorem dX10_unlikeWithoutOil_9 : decode cX10_unlikeWithoutOil 9 = .ok (.aload_n 0, 1) := by decide +kernel
theorem dX10_unlikeWithoutOil_10 : decode cX10_unlikeWithoutOil 10 = .ok (.getfield 69, 3) := by decide +kernel
theorem dX10_unlikeWithoutOil_13 : decode cX10_unlikeWithoutOil 13 = .ok (.aload_n 0, 1) := by decide +kernel
theorem dX10_unlikeWithoutOil_14 : decode cX10_unlikeWithoutOil 14 = .ok (.getfield 30, 3) := by decide +kernel
theorem dX10_unlikeWithoutOil_17 : decode cX10_unlikeWithoutOil 17 = .ok (.getfield 124, 3) := by decide +kernel
theorem dX10_unlikeWithoutOil_20 : decode cX10_unlikeWithoutOil 20 = .ok (.iload_n 3, 1) := by decide +kernel
theorem dX10_unlikeWithoutOil_21 : decode cX10_unlikeWithoutOil 21 = .ok (.iconst (-1), 1) := by decide +kernel
theorem dX10_unlikeWithoutOil_22 : decode cX10_unlikeWithoutOil 22 = .ok (.aload_n 0, 1) := by decide +kernel
theorem dX10_unlikeWithoutOil_23 : decode cX10_unlikeWithoutOil 23 = .ok (.getfield 30, 3) := by decide +kernel
theorem dX10_unlikeWithoutOil_26 : decode cX10_unlikeWithoutOil 26 = .ok (.getfield 127, 3) := by decide +kernel
theorem dX10_unlikeWithoutOil_29 : decode cX10_unlikeWithoutOil 29 = .ok (.getfield 219, 3) := by decide +kernel
theorem dX10_unlikeWithoutOil_32 : decode cX10_unlikeWithoutOil 32 = .ok (.invokevirtual 367, 3) := by decide +kernel
theorem dX10_unlikeWithoutOil_35 : decode cX10_unlikeWithoutOil 35 = .ok (.aload_n 0, 1) := by decide +kernel
theorem dX10_unlikeWithoutOil_36 : decode cX10_unlikeWithoutOil 36 = .ok (.getfield 9, 3) := by decide +kernel
theorem dX10_unlikeWithoutOil_39 : decode cX10_unlikeWithoutOil 39 = .ok (.iload_n 3, 1) := by decide +kernel
theorem dX10_unlikeWithoutOil_40 : decode cX10_unlikeWithoutOil 40 = .ok (.baload, 1) := by decide +kernel
theorem dX10_unlikeWithoutOil_41 : decode cX10_unlikeWithoutOil 41 = .ok (.if_icmp .eq 9, 3) := by decide +kernel
theorem dX10_unlikeWithoutOil_44 : decode cX10_unlikeWithoutOil 44 = .ok (.iload_n 2, 1) := by decide +kernel
theorem dX10_unlikeWithoutOil_45 : decode cX10_unlikeWithoutOil 45 = .ok (.iconst 1, 1) := by decide +kernel
theorem dX10_unlikeWithoutOil_46 : decode cX10_unlikeWithoutOil 46 = .ok (.iload_n 3, 1) := by decide +kernel
theorem dX10_unlikeWithoutOil_47 : decode cX10_unlikeWithoutOil 47 = .ok (.ishl, 1) := by decide +kernel
theorem dX10_unlikeWithoutOil_48 : decode cX10_unlikeWithoutOil 48 = .ok (.ior, 1) := by decide +kernel
theorem dX10_unlikeWithoutOil_49 : decode cX10_unlikeWithoutOil 49 = .ok (.istore_n 2, 1) := by decide +kernel
theorem dX10_unlikeWithoutOil_50 : decode cX10_unlikeWithoutOil 50 = .ok (.iinc 3 1, 3) := by decide +kernel
theorem dX10_unlikeWithoutOil_53 : decode cX10_unlikeWithoutOil 53 = .ok (.goto (-49), 3) := by decide +kernel
theorem dX10_unlikeWithoutOil_56 : decode cX10_unlikeWithoutOil 56 = .ok (.iload_n 2, 1) := by decide +kernel
theorem dX10_unlikeWithoutOil_57 : decode cX10_unlikeWithoutOil 57 = .ok (.ireturn, 1) := by decide +kernel
theorem dX10_findPairs_0 : decode cX10_findPairs 0 = .ok (.aload_n 0, 1) := by decide +kernel
theorem dX10_findPairs_1 : decode cX10_findPairs 1 = .ok (.getfield 30, 3) := by decide +kernel
theorem dX10_findPairs_4 : decode cX10_findPairs 4 = .ok (.getfield 127, 3) := by decide +kernel
theorem dX10_findPairs_7 : decode cX10_findPairs 7 = .ok (.getfield 219, 3) := by decide +kernel
theorem dX10_findPairs_10 : decode cX10_findPairs 10 = .ok (.istore_n 2, 1) := by decide +kernel
theorem dX10_findPairs_11 : decode cX10_findPairs 11 = .ok (.iconst 0, 1) := by decide +kernel
theorem dX10_findPairs_12 : decode cX10_findPairs 12 = .ok (.istore_n 3, 1) := by decide +kernel
theorem dX10_findPairs_13 : decode cX10_findPairs 13 = .ok (.iload_n 3, 1) := by decide +kernel
theorem dX10_findPairs_14 : decode cX10_findPairs 14 = .ok (.iload_n 2, 1) := by decide +kernel
theorem dX10_findPairs_15 : decode cX10_findPairs 15 = .ok (.if_icmp .ge 84, 3) := by decide +kernel
theorem dX10_findPairs_18 : decode cX10_findPairs 18 = .ok (.aload_n 0, 1) := by decide +kernel
theorem dX10_findPairs_19 : decode cX10_findPairs 19 = .ok (.getfield 69, 3) := by decide +kernel
theorem dX10_findPairs_22 : decode cX10_findPairs 22 = .ok (.aload_n 0, 1) := by decide +kernel
theorem dX10_findPairs_23 : decode cX10_findPairs 23 = .ok (.getfield 30, 3) := by decide +kernel
theorem dX10_findPairs_26 : decode cX10_findPairs 26 = .ok (.getfield 124, 3) := by decide +kernel
theorem dX10_findPairs_29 : decode cX10_findPairs 29 = .ok (.iload_n 1, 1) := by decide +kernel
theorem dX10_findPairs_30 : decode cX10_findPairs 30 = .ok (.iload_n 3, 1) := by decide +kernel
theorem dX10_findPairs_31 : decode cX10_findPairs 31 = .ok (.iload_n 2, 1) := by decide +kernel
theorem dX10_findPairs_32 : decode cX10_findPairs 32 = .ok (.invokevirtual 367, 3) := by decide +kernel
theorem dX10_findPairs_35 : decode cX10_findPairs 35 = .ok (.aload_n 0, 1) := by decide +kernel
theorem dX10_findPairs_36 : decode cX10_findPairs 36 = .ok (.getfield 9, 3) := by decide +kernel
theorem dX10_findPairs_39 : decode cX10_findPairs 39 = .ok (.iload_n 1, 1) := by decide +kernel
theorem dX10_findPairs_40 : decode cX10_findPairs 40 = .ok (.baload, 1) := by decide +kernel
theorem dX10_findPairs_41 : decode cX10_findPairs 41 = .ok (.if_icmp .ne 7, 3) := by decide +kernel
theorem dX10_findPairs_44 : decode cX10_findPairs 44 = .ok (.iconst 1, 1) := by decide +kernel
theorem dX10_findPairs_45 : decode cX10_findPairs 45 = .ok (.goto 4, 3) := by decide +kernel
theorem dX10_findPairs_48 : decode cX10_findPairs 48 = .ok (.iconst 0, 1) := by decide +kernel
theorem dX10_findPairs_49 : decode cX10_findPairs 49 = .ok (.istore 4, 2) := by decide +kernel
theorem dX10_findPairs_51 : decode cX10_findPairs 51 = .ok (.iload 4, 2) := by decide +kernel
theorem dX10_findPairs_53 : decode cX10_findPairs 53 = .ok (.ifCond .eq 40, 3) := by decide +kernel
theorem dX10_findPairs_56 : decode cX10_findPairs 56 = .ok (.aload_n 0, 1) := by decide +kernel
theorem dX10_findPairs_57 : decode cX10_findPairs 57 = .ok (.getfield 94, 3) := by decide +kernel
theorem dX10_findPairs_60 : decode cX10_findPairs 60 = .ok (.aload_n 0, 1) := by decide +kernel
theorem dX10_findPairs_61 : decode cX10_findPairs 61 = .ok (.getfield 90, 3) := by decide +kernel
theorem dX10_findPairs_64 : decode cX10_findPairs 64 = .ok (.arraylength, 1) := by decide +kernel
theorem dX10_findPairs_65 : decode cX10_findPairs 65 = .ok (.if_icmp .ge 28, 3) := by decide +kernel
theorem dX10_findPairs_68 : decode cX10_findPairs 68 = .ok (.aload_n 0, 1) := by decide +kernel
theorem dX10_findPairs_69 : decode cX10_findPairs 69 = .ok (.getfield 90, 3) := by decide +kernel
theorem dX10_findPairs_72 : decode cX10_findPairs 72 = .ok (.aload_n 0, 1) := by decide +kernel
theorem dX10_findPairs_73 : decode cX10_findPairs 73 = .ok (.getfield 94, 3) := by decide +kernel
theorem dX10_findPairs_76 : decode cX10_findPairs 76 = .ok (.bipush 100, 2) := by decide +kernel
theorem dX10_findPairs_78 : decode cX10_findPairs 78 = .ok (.iload_n 1, 1) := by decide +kernel
theorem dX10_findPairs_79 : decode cX10_findPairs 79 = .ok (.imul, 1) := by decide +kernel
theorem dX10_findPairs_80 : decode cX10_findPairs 80 = .ok (.iload_n 3, 1) := by decide +kernel
theorem dX10_findPairs_81 : decode cX10_findPairs 81 = .ok (.iadd, 1) := by decide +kernel
theorem dX10_findPairs_82 : decode cX10_findPairs 82 = .ok (.iastore, 1) := by decide +kernel
theorem dX10_findPairs_83 : decode cX10_findPairs 83 = .ok (.aload_n 0, 1) := by decide +kernel
theorem dX10_findPairs_84 : decode cX10_findPairs 84 = .ok (.dup, 1) := by decide +kernel
theorem dX10_findPairs_85 : decode cX10_findPairs 85 = .ok (.getfield 94, 3) := by decide +kernel
theorem dX10_findPairs_88 : decode cX10_findPairs 88 = .ok (.iconst 1, 1) := by decide +kernel
theorem dX10_findPairs_89 : decode cX10_findPairs 89 = .ok (.iadd, 1) := by decide +kernel
theorem dX10_findPairs_90 : decode cX10_findPairs 90 = .ok (.putfield 94, 3) := by decide +kernel
theorem dX10_findPairs_93 : decode cX10_findPairs 93 = .ok (.iinc 3 1, 3) := by decide +kernel
theorem dX10_findPairs_96 : decode cX10_findPairs 96 = .ok (.goto (-83), 3) := by decide +kernel
theorem dX10_findPairs_99 : decode cX10_findPairs 99 = .ok (.return_, 1) := by decide +kernel
theorem dX10_oiledAt_0 : decode cX10_oiledAt 0 = .ok (.iload_n 1, 1) := by decide +kernel
theorem dX10_oiledAt_1 : decode cX10_oiledAt 1 = .ok (.ifCond .lt 20, 3) := by decide +kernel
theorem dX10_oiledAt_4 : decode cX10_oiledAt 4 = .ok (.iload_n 1, 1) := by decide +kernel
theorem dX10_oiledAt_5 : decode cX10_oiledAt 5 = .ok (.aload_n 0, 1) := by decide +kernel
theorem dX10_oiledAt_6 : decode cX10_oiledAt 6 = .ok (.getfield 94, 3) := by decide +kernel
theorem dX10_oiledAt_9 : decode cX10_oiledAt 9 = .ok (.if_icmp .ge 12, 3) := by decide +kernel
theorem dX10_oiledAt_12 : decode cX10_oiledAt 12 = .ok (.aload_n 0, 1) := by decide +kernel
theorem dX10_oiledAt_13 : decode cX10_oiledAt 13 = .ok (.getfield 90, 3) := by decide +kernel
theorem dX10_oiledAt_16 : decode cX10_oiledAt 16 = .ok (.iload_n 1, 1) := by decide +kernel
theorem dX10_oiledAt_17 : decode cX10_oiledAt 17 = .ok (.iaload, 1) := by decide +kernel
theorem dX10_oiledAt_18 : decode cX10_oiledAt 18 = .ok (.goto 4, 3) := by decide +kernel
theorem dX10_oiledAt_21 : decode cX10_oiledAt 21 = .ok (.iconst (-1), 1) := by decide +kernel
theorem dX10_oiledAt_22 : decode cX10_oiledAt 22 = .ok (.ireturn, 1) := by decide +kernel
theorem dX10_worth_0 : decode cX10_worth 0 = .ok (.aload_n 0, 1) := by decide +kernel
theorem dX10_worth_1 : decode cX10_worth 1 = .ok (.getfield 13, 3) := by decide +kernel
theorem dX10_worth_4 : decode cX10_worth 4 = .ok (.istore_n 2, 1) := by decide +kernel
theorem dX10_worth_5 : decode cX10_worth 5 = .ok (.aload_n 0, 1) := by decide +kernel
theorem dX10_worth_6 : decode cX10_worth 6 = .ok (.iconst 0, 1) := by decide +kernel
theorem dX10_worth_7 : decode cX10_worth 7 = .ok (.putfield 13, 3) := by decide +kernel
theorem dX10_worth_10 : decode cX10_worth 10 = .ok (.aload_n 0, 1) := by decide +kernel
theorem dX10_worth_11 : decode cX10_worth 11 = .ok (.getfield 30, 3) := by decide +kernel
theorem dX10_worth_14 : decode cX10_worth 14 = .ok (.getfield 124, 3) := by decide +kernel
theorem dX10_worth_17 : decode cX10_worth 17 = .ok (.iload_n 1, 1) := by decide +kernel
theorem dX10_worth_18 : decode cX10_worth 18 = .ok (.invokevirtual 171, 3) := by decide +kernel
theorem dX10_worth_21 : decode cX10_worth 21 = .ok (.ifCond .eq 11, 3) := by decide +kernel
theorem dX10_worth_24 : decode cX10_worth 24 = .ok (.aload_n 0, 1) := by decide +kernel
theorem dX10_worth_25 : decode cX10_worth 25 = .ok (.iload_n 2, 1) := by decide +kernel
theorem dX10_worth_26 : decode cX10_worth 26 = .ok (.invokevirtual 371, 3) := by decide +kernel
theorem dX10_worth_29 : decode cX10_worth 29 = .ok (.ifCond .ne 7, 3) := by decide +kernel
theorem dX10_worth_32 : decode cX10_worth 32 = .ok (.sipush (-10001), 3) := by decide +kernel
theorem dX10_worth_35 : decode cX10_worth 35 = .ok (.ireturn, 1) := by decide +kernel
theorem dX10_worth_36 : decode cX10_worth 36 = .ok (.aload_n 0, 1) := by decide +kernel
theorem dX10_worth_37 : decode cX10_worth 37 = .ok (.iload_n 1, 1) := by decide +kernel
theorem dX10_worth_38 : decode cX10_worth 38 = .ok (.invokevirtual 335, 3) := by decide +kernel
theorem dX10_worth_41 : decode cX10_worth 41 = .ok (.istore_n 3, 1) := by decide +kernel
theorem dX10_worth_42 : decode cX10_worth 42 = .ok (.aload_n 0, 1) := by decide +kernel
theorem dX10_worth_43 : decode cX10_worth 43 = .ok (.getfield 83, 3) := by decide +kernel
theorem dX10_worth_46 : decode cX10_worth 46 = .ok (.aload_n 0, 1) := by decide +kernel
theorem dX10_worth_47 : decode cX10_worth 47 = .ok (.getfield 30, 3) := by decide +kernel
theorem dX10_worth_50 : decode cX10_worth 50 = .ok (.getfield 127, 3) := by decide +kernel
theorem dX10_worth_53 : decode cX10_worth 53 = .ok (.invokevirtual 280, 3) := by decide +kernel
theorem dX10_worth_56 : decode cX10_worth 56 = .ok (.aload_n 0, 1) := by decide +kernel
theorem dX10_worth_57 : decode cX10_worth 57 = .ok (.getfield 30, 3) := by decide +kernel
theorem dX10_worth_60 : decode cX10_worth 60 = .ok (.getfield 127, 3) := by decide +kernel
theorem dX10_worth_63 : decode cX10_worth 63 = .ok (.getfield 219, 3) := by decide +kernel
theorem dX10_worth_66 : decode cX10_worth 66 = .ok (.istore 4, 2) := by decide +kernel
theorem dX10_worth_68 : decode cX10_worth 68 = .ok (.iload 4, 2) := by decide +kernel
theorem dX10_worth_70 : decode cX10_worth 70 = .ok (.bipush 48, 2) := by decide +kernel
theorem dX10_worth_72 : decode cX10_worth 72 = .ok (.if_icmp .ge 56, 3) := by decide +kernel
theorem dX10_worth_75 : decode cX10_worth 75 = .ok (.aload_n 0, 1) := by decide +kernel
theorem dX10_worth_76 : decode cX10_worth 76 = .ok (.getfield 97, 3) := by decide +kernel
theorem dX10_worth_79 : decode cX10_worth 79 = .ok (.iload 4, 2) := by decide +kernel
theorem dX10_worth_81 : decode cX10_worth 81 = .ok (.iaload, 1) := by decide +kernel
theorem dX10_worth_82 : decode cX10_worth 82 = .ok (.iconst (-1), 1) := by decide +kernel
theorem dX10_worth_83 : decode cX10_worth 83 = .ok (.if_icmp .eq 19, 3) := by decide +kernel
theorem dX10_worth_86 : decode cX10_worth 86 = .ok (.aload_n 0, 1) := by decide +kernel
theorem dX10_worth_87 : decode cX10_worth 87 = .ok (.getfield 83, 3) := by decide +kernel
theorem dX10_worth_90 : decode cX10_worth 90 = .ok (.getfield 195, 3) := by decide +kernel
theorem dX10_worth_93 : decode cX10_worth 93 = .ok (.iload_n 1, 1) := by decide +kernel
theorem dX10_worth_94 : decode cX10_worth 94 = .ok (.aload_n 0, 1) := by decide +kernel
theorem dX10_worth_95 : decode cX10_worth 95 = .ok (.getfield 97, 3) := by decide +kernel
theorem dX10_worth_98 : decode cX10_worth 98 = .ok (.iload 4, 2) := by decide +kernel
theorem dX10_worth_100 : decode cX10_worth 100 = .ok (.iaload, 1) := by decide +kernel
theorem dX10_worth_101 : decode cX10_worth 101 = .ok (.iastore, 1) := by decide +kernel
theorem dX10_worth_102 : decode cX10_worth 102 = .ok (.aload_n 0, 1) := by decide +kernel
theorem dX10_worth_103 : decode cX10_worth 103 = .ok (.getfield 69, 3) := by decide +kernel
theorem dX10_worth_106 : decode cX10_worth 106 = .ok (.aload_n 0, 1) := by decide +kernel
theorem dX10_worth_107 : decode cX10_worth 107 = .ok (.getfield 30, 3) := by decide +kernel
theorem dX10_worth_110 : decode cX10_worth 110 = .ok (.getfield 124, 3) := by decide +kernel
theorem dX10_worth_113 : decode cX10_worth 113 = .ok (.aload_n 0, 1) := by decide +kernel
theorem dX10_worth_114 : decode cX10_worth 114 = .ok (.getfield 83, 3) := by decide +kernel
theorem dX10_worth_117 : decode cX10_worth 117 = .ok (.iconst 1, 1) := by decide +kernel
theorem dX10_worth_118 : decode cX10_worth 118 = .ok (.invokevirtual 302, 3) := by decide +kernel
theorem dX10_worth_121 : decode cX10_worth 121 = .ok (.pop, 1) := by decide +kernel
theorem dX10_worth_122 : decode cX10_worth 122 = .ok (.iinc 4 1, 3) := by decide +kernel
theorem dX10_worth_125 : decode cX10_worth 125 = .ok (.goto (-57), 3) := by decide +kernel
theorem dX10_worth_128 : decode cX10_worth 128 = .ok (.aload_n 0, 1) := by decide +kernel
theorem dX10_worth_129 : decode cX10_worth 129 = .ok (.getfield 83, 3) := by decide +kernel
theorem dX10_worth_132 : decode cX10_worth 132 = .ok (.iload_n 1, 1) := by decide +kernel
theorem dX10_worth_133 : decode cX10_worth 133 = .ok (.invokevirtual 332, 3) := by decide +kernel
theorem dX10_worth_136 : decode cX10_worth 136 = .ok (.iload_n 3, 1) := by decide +kernel
theorem dX10_worth_137 : decode cX10_worth 137 = .ok (.isub, 1) := by decide +kernel
theorem dX10_worth_138 : decode cX10_worth 138 = .ok (.ireturn, 1) := by decide +kernel
theorem dX10_readForecast_0 : decode cX10_readForecast 0 = .ok (.iload_n 1, 1) := by decide +kernel
theorem dX10_readForecast_1 : decode cX10_readForecast 1 = .ok (.iconst 2, 1) := by decide +kernel
theorem dX10_readForecast_2 : decode cX10_readForecast 2 = .ok (.if_icmp .lt 15, 3) := by decide +kernel
theorem dX10_readForecast_5 : decode cX10_readForecast 5 = .ok (.iload_n 1, 1) := by decide +kernel
theorem dX10_readForecast_6 : decode cX10_readForecast 6 = .ok (.bipush 48, 2) := by decide +kernel
theorem dX10_readForecast_8 : decode cX10_readForecast 8 = .ok (.if_icmp .gt 9, 3) := by decide +kernel
theorem dX10_readForecast_11 : decode cX10_readForecast 11 = .ok (.iload_n 1, 1) := by decide +kernel
theorem dX10_readForecast_12 : decode cX10_readForecast 12 = .ok (.iconst 2, 1) := by decide +kernel
theorem dX10_readForecast_13 : decode cX10_readForecast 13 = .ok (.irem, 1) := by decide +kernel
theorem dX10_readForecast_14 : decode cX10_readForecast 14 = .ok (.ifCond .eq 5, 3) := by decide +kernel
theorem dX10_readForecast_17 : decode cX10_readForecast 17 = .ok (.iconst 0, 1) := by decide +kernel
theorem dX10_readForecast_18 : decode cX10_readForecast 18 = .ok (.ireturn, 1) := by decide +kernel
theorem dX10_readForecast_19 : decode cX10_readForecast 19 = .ok (.iconst 0, 1) := by decide +kernel
theorem dX10_readForecast_20 : decode cX10_readForecast 20 = .ok (.istore_n 2, 1) := by decide +kernel
theorem dX10_readForecast_21 : decode cX10_readForecast 21 = .ok (.iload_n 2, 1) := by decide +kernel
theorem dX10_readForecast_22 : decode cX10_readForecast 22 = .ok (.bipush 48, 2) := by decide +kernel
theorem dX10_readForecast_24 : decode cX10_readForecast 24 = .ok (.if_icmp .ge 16, 3) := by decide +kernel
theorem dX10_readForecast_27 : decode cX10_readForecast 27 = .ok (.aload_n 0, 1) := by decide +kernel
theorem dX10_readForecast_28 : decode cX10_readForecast 28 = .ok (.getfield 97, 3) := by decide +kernel
theorem dX10_readForecast_31 : decode cX10_readForecast 31 = .ok (.iload_n 2, 1) := by decide +kernel
theorem dX10_readForecast_32 : decode cX10_readForecast 32 = .ok (.iconst (-1), 1) := by decide +kernel
theorem dX10_readForecast_33 : decode cX10_readForecast 33 = .ok (.iastore, 1) := by decide +kernel
theorem dX10_readForecast_34 : decode cX10_readForecast 34 = .ok (.iinc 2 1, 3) := by decide +kernel
theorem dX10_readForecast_37 : decode cX10_readForecast 37 = .ok (.goto (-16), 3) := by decide +kernel
theorem dX10_readForecast_40 : decode cX10_readForecast 40 = .ok (.iconst (-1), 1) := by decide +kernel
theorem dX10_readForecast_41 : decode cX10_readForecast 41 = .ok (.istore_n 2, 1) := by decide +kernel
theorem dX10_readForecast_42 : decode cX10_readForecast 42 = .ok (.iconst 0, 1) := by decide +kernel
theorem dX10_readForecast_43 : decode cX10_readForecast 43 = .ok (.istore_n 3, 1) := by decide +kernel
theorem dX10_readForecast_44 : decode cX10_readForecast 44 = .ok (.iload_n 3, 1) := by decide +kernel
theorem dX10_readForecast_45 : decode cX10_readForecast 45 = .ok (.iconst 1, 1) := by decide +kernel
theorem dX10_readForecast_46 : decode cX10_readForecast 46 = .ok (.iadd, 1) := by decide +kernel
theorem dX10_readForecast_47 : decode cX10_readForecast 47 = .ok (.iload_n 1, 1) := by decide +kernel
theorem dX10_readForecast_48 : decode cX10_readForecast 48 = .ok (.if_icmp .ge 66, 3) := by decide +kernel
theorem dX10_readForecast_51 : decode cX10_readForecast 51 = .ok (.aload_n 0, 1) := by decide +kernel
theorem dX10_readForecast_52 : decode cX10_readForecast 52 = .ok (.getfield 9, 3) := by decide +kernel
theorem dX10_readForecast_55 : decode cX10_readForecast 55 = .ok (.iload_n 3, 1) := by decide +kernel
theorem dX10_readForecast_56 : decode cX10_readForecast 56 = .ok (.baload, 1) := by decide +kernel
theorem dX10_readForecast_57 : decode cX10_readForecast 57 = .ok (.istore 4, 2) := by decide +kernel
theorem dX10_readForecast_59 : decode cX10_readForecast 59 = .ok (.aload_n 0, 1) := by decide +kernel
theorem dX10_readForecast_60 : decode cX10_readForecast 60 = .ok (.getfield 9, 3) := by decide +kernel
theorem dX10_readForecast_63 : decode cX10_readForecast 63 = .ok (.iload_n 3, 1) := by decide +kernel
theorem dX10_readForecast_64 : decode cX10_readForecast 64 = .ok (.iconst 1, 1) := by decide +kernel
theorem dX10_readForecast_65 : decode cX10_readForecast 65 = .ok (.iadd, 1) := by decide +kernel
theorem dX10_readForecast_66 : decode cX10_readForecast 66 = .ok (.baload, 1) := by decide +kernel
theorem dX10_readForecast_67 : decode cX10_readForecast 67 = .ok (.istore 5, 2) := by decide +kernel
theorem dX10_readForecast_69 : decode cX10_readForecast 69 = .ok (.iload 4, 2) := by decide +kernel
theorem dX10_readForecast_71 : decode cX10_readForecast 71 = .ok (.iload_n 2, 1) := by decide +kernel
theorem dX10_readForecast_72 : decode cX10_readForecast 72 = .ok (.if_icmp .le 22, 3) := by decide +kernel
theorem dX10_readForecast_75 : decode cX10_readForecast 75 = .ok (.iload 4, 2) := by decide +kernel
theorem dX10_readForecast_77 : decode cX10_readForecast 77 = .ok (.bipush 48, 2) := by decide +kernel
theorem dX10_readForecast_79 : decode cX10_readForecast 79 = .ok (.if_icmp .ge 15, 3) := by decide +kernel
theorem dX10_readForecast_82 : decode cX10_readForecast 82 = .ok (.iload 5, 2) := by decide +kernel
theorem dX10_readForecast_84 : decode cX10_readForecast 84 = .ok (.ifCond .lt 10, 3) := by decide +kernel
theorem dX10_readForecast_87 : decode cX10_readForecast 87 = .ok (.iload 5, 2) := by decide +kernel
theorem dX10_readForecast_89 : decode cX10_readForecast 89 = .ok (.bipush 8, 2) := by decide +kernel
theorem dX10_readForecast_91 : decode cX10_readForecast 91 = .ok (.if_icmp .lt 5, 3) := by decide +kernel
theorem dX10_readForecast_94 : decode cX10_readForecast 94 = .ok (.iconst 0, 1) := by decide +kernel
theorem dX10_readForecast_95 : decode cX10_readForecast 95 = .ok (.ireturn, 1) := by decide +kernel
theorem dX10_readForecast_96 : decode cX10_readForecast 96 = .ok (.aload_n 0, 1) := by decide +kernel
theorem dX10_readForecast_97 : decode cX10_readForecast 97 = .ok (.getfield 97, 3) := by decide +kernel
theorem dX10_readForecast_100 : decode cX10_readForecast 100 = .ok (.iload 4, 2) := by decide +kernel
theorem dX10_readForecast_102 : decode cX10_readForecast 102 = .ok (.iload 5, 2) := by decide +kernel
theorem dX10_readForecast_104 : decode cX10_readForecast 104 = .ok (.iastore, 1) := by decide +kernel
theorem dX10_readForecast_105 : decode cX10_readForecast 105 = .ok (.iload 4, 2) := by decide +kernel
theorem dX10_readForecast_107 : decode cX10_readForecast 107 = .ok (.istore_n 2, 1) := by decide +kernel
theorem dX10_readForecast_108 : decode cX10_readForecast 108 = .ok (.iinc 3 2, 3) := by decide +kernel
theorem dX10_readForecast_111 : decode cX10_readForecast 111 = .ok (.goto (-67), 3) := by decide +kernel
theorem dX10_readForecast_114 : decode cX10_readForecast 114 = .ok (.iconst 1, 1) := by decide +kernel
theorem dX10_readForecast_115 : decode cX10_readForecast 115 = .ok (.ireturn, 1) := by decide +kernel
theorem dX10_drawn_0 : decode cX10_drawn 0 = .ok (.aload_n 0, 1) := by decide +kernel
theorem dX10_drawn_1 : decode cX10_drawn 1 = .ok (.getfield 30, 3) := by decide +kernel
theorem dX10_drawn_4 : decode cX10_drawn 4 = .ok (.getfield 124, 3) := by decide +kernel
theorem dX10_drawn_7 : decode cX10_drawn 7 = .ok (.iload_n 1, 1) := by decide +kernel
theorem dX10_drawn_8 : decode cX10_drawn 8 = .ok (.invokevirtual 171, 3) := by decide +kernel
theorem dX10_drawn_11 : decode cX10_drawn 11 = .ok (.ifCond .eq 14, 3) := by decide +kernel
theorem dX10_drawn_14 : decode cX10_drawn 14 = .ok (.iload_n 2, 1) := by decide +kernel
theorem dX10_drawn_15 : decode cX10_drawn 15 = .ok (.iconst 1, 1) := by decide +kernel
theorem dX10_drawn_16 : decode cX10_drawn 16 = .ok (.if_icmp .lt 9, 3) := by decide +kernel
theorem dX10_drawn_19 : decode cX10_drawn 19 = .ok (.iload_n 2, 1) := by decide +kernel
theorem dX10_drawn_20 : decode cX10_drawn 20 = .ok (.bipush 48, 2) := by decide +kernel
theorem dX10_drawn_22 : decode cX10_drawn 22 = .ok (.if_icmp .le 5, 3) := by decide +kernel
theorem dX10_drawn_25 : decode cX10_drawn 25 = .ok (.iconst (-1), 1) := by decide +kernel
theorem dX10_drawn_26 : decode cX10_drawn 26 = .ok (.ireturn, 1) := by decide +kernel
theorem dX10_drawn_27 : decode cX10_drawn 27 = .ok (.aload_n 0, 1) := by decide +kernel
theorem dX10_drawn_28 : decode cX10_drawn 28 = .ok (.iload_n 1, 1) := by decide +kernel
theorem dX10_drawn_29 : decode cX10_drawn 29 = .ok (.iload_n 2, 1) := by decide +kernel
theorem dX10_drawn_30 : decode cX10_drawn 30 = .ok (.iload_n 3, 1) := by decide +kernel
theorem dX10_drawn_31 : decode cX10_drawn 31 = .ok (.invokevirtual 374, 3) := by decide +kernel
theorem dX10_drawn_34 : decode cX10_drawn 34 = .ok (.ireturn, 1) := by decide +kernel
theorem dX10_wealthDrawn_0 : decode cX10_wealthDrawn 0 = .ok (.aload_n 0, 1) := by decide +kernel
theorem dX10_wealthDrawn_1 : decode cX10_wealthDrawn 1 = .ok (.getfield 83, 3) := by decide +kernel
theorem dX10_wealthDrawn_4 : decode cX10_wealthDrawn 4 = .ok (.aload_n 0, 1) := by decide +kernel
theorem dX10_wealthDrawn_5 : decode cX10_wealthDrawn 5 = .ok (.getfield 30, 3) := by decide +kernel
theorem dX10_wealthDrawn_8 : decode cX10_wealthDrawn 8 = .ok (.getfield 127, 3) := by decide +kernel
theorem dX10_wealthDrawn_11 : decode cX10_wealthDrawn 11 = .ok (.invokevirtual 280, 3) := by decide +kernel
theorem dX10_wealthDrawn_14 : decode cX10_wealthDrawn 14 = .ok (.aload_n 0, 1) := by decide +kernel
theorem dX10_wealthDrawn_15 : decode cX10_wealthDrawn 15 = .ok (.getfield 69, 3) := by decide +kernel
theorem dX10_wealthDrawn_18 : decode cX10_wealthDrawn 18 = .ok (.aload_n 0, 1) := by decide +kernel
theorem dX10_wealthDrawn_19 : decode cX10_wealthDrawn 19 = .ok (.getfield 30, 3) := by decide +kernel
theorem dX10_wealthDrawn_22 : decode cX10_wealthDrawn 22 = .ok (.getfield 124, 3) := by decide +kernel
theorem dX10_wealthDrawn_25 : decode cX10_wealthDrawn 25 = .ok (.aload_n 0, 1) := by decide +kernel
theorem dX10_wealthDrawn_26 : decode cX10_wealthDrawn 26 = .ok (.getfield 83, 3) := by decide +kernel
theorem dX10_wealthDrawn_29 : decode cX10_wealthDrawn 29 = .ok (.iload_n 2, 1) := by decide +kernel
theorem dX10_wealthDrawn_30 : decode cX10_wealthDrawn 30 = .ok (.iload_n 3, 1) := by decide +kernel
theorem dX10_wealthDrawn_31 : decode cX10_wealthDrawn 31 = .ok (.invokevirtual 377, 3) := by decide +kernel
theorem dX10_wealthDrawn_34 : decode cX10_wealthDrawn 34 = .ok (.aload_n 0, 1) := by decide +kernel
theorem dX10_wealthDrawn_35 : decode cX10_wealthDrawn 35 = .ok (.getfield 83, 3) := by decide +kernel
theorem dX10_wealthDrawn_38 : decode cX10_wealthDrawn 38 = .ok (.iload_n 1, 1) := by decide +kernel
theorem dX10_wealthDrawn_39 : decode cX10_wealthDrawn 39 = .ok (.invokevirtual 332, 3) := by decide +kernel
theorem dX10_wealthDrawn_42 : decode cX10_wealthDrawn 42 = .ok (.ireturn, 1) := by decide +kernel
theorem dX10_odds_0 : decode cX10_odds 0 = .ok (.aload_n 0, 1) := by decide +kernel
theorem dX10_odds_1 : decode cX10_odds 1 = .ok (.getfield 30, 3) := by decide +kernel
theorem dX10_odds_4 : decode cX10_odds 4 = .ok (.getfield 124, 3) := by decide +kernel
theorem dX10_odds_7 : decode cX10_odds 7 = .ok (.iload_n 1, 1) := by decide +kernel
theorem dX10_odds_8 : decode cX10_odds 8 = .ok (.invokevirtual 171, 3) := by decide +kernel
theorem dX10_odds_11 : decode cX10_odds 11 = .ok (.ifCond .eq 14, 3) := by decide +kernel
theorem dX10_odds_14 : decode cX10_odds 14 = .ok (.iload_n 2, 1) := by decide +kernel
theorem dX10_odds_15 : decode cX10_odds 15 = .ok (.iconst 1, 1) := by decide +kernel
theorem dX10_odds_16 : decode cX10_odds 16 = .ok (.if_icmp .lt 9, 3) := by decide +kernel
theorem dX10_odds_19 : decode cX10_odds 19 = .ok (.iload_n 2, 1) := by decide +kernel
theorem dX10_odds_20 : decode cX10_odds 20 = .ok (.bipush 100, 2) := by decide +kernel
theorem dX10_odds_22 : decode cX10_odds 22 = .ok (.if_icmp .le 5, 3) := by decide +kernel
theorem dX10_odds_25 : decode cX10_odds 25 = .ok (.iconst (-1), 1) := by decide +kernel
theorem dX10_odds_26 : decode cX10_odds 26 = .ok (.ireturn, 1) := by decide +kernel
theorem dX10_odds_27 : decode cX10_odds 27 = .ok (.iconst 0, 1) := by decide +kernel
theorem dX10_odds_28 : decode cX10_odds 28 = .ok (.istore 4, 2) := by decide +kernel
theorem dX10_odds_30 : decode cX10_odds 30 = .ok (.iconst 0, 1) := by decide +kernel
theorem dX10_odds_31 : decode cX10_odds 31 = .ok (.istore 5, 2) := by decide +kernel
theorem dX10_odds_33 : decode cX10_odds 33 = .ok (.iload 5, 2) := by decide +kernel
theorem dX10_odds_35 : decode cX10_odds 35 = .ok (.iload_n 2, 1) := by decide +kernel
theorem dX10_odds_36 : decode cX10_odds 36 = .ok (.if_icmp .ge 37, 3) := by decide +kernel
theorem dX10_odds_39 : decode cX10_odds 39 = .ok (.aload_n 0, 1) := by decide +kernel
theorem dX10_odds_40 : decode cX10_odds 40 = .ok (.iload_n 1, 1) := by decide +kernel
theorem dX10_odds_41 : decode cX10_odds 41 = .ok (.bipush 12, 2) := by decide +kernel
theorem dX10_odds_43 : decode cX10_odds 43 = .ok (.iload_n 3, 1) := by decide +kernel
theorem dX10_odds_44 : decode cX10_odds 44 = .ok (.iload 5, 2) := by decide +kernel
theorem dX10_odds_46 : decode cX10_odds 46 = .ok (.iadd, 1) := by decide +kernel
theorem dX10_odds_47 : decode cX10_odds 47 = .ok (.invokevirtual 374, 3) := by decide +kernel
theorem dX10_odds_50 : decode cX10_odds 50 = .ok (.aload_n 0, 1) := by decide +kernel
theorem dX10_odds_51 : decode cX10_odds 51 = .ok (.getfield 30, 3) := by decide +kernel
theorem dX10_odds_54 : decode cX10_odds 54 = .ok (.getfield 127, 3) := by decide +kernel
theorem dX10_odds_57 : decode cX10_odds 57 = .ok (.iload_n 1, 1) := by decide +kernel
theorem dX10_odds_58 : decode cX10_odds 58 = .ok (.invokevirtual 332, 3) := by decide +kernel
theorem dX10_odds_61 : decode cX10_odds 61 = .ok (.if_icmp .ge 6, 3) := by decide +kernel
theorem dX10_odds_64 : decode cX10_odds 64 = .ok (.iinc 4 1, 3) := by decide +kernel
theorem dX10_odds_67 : decode cX10_odds 67 = .ok (.iinc 5 1, 3) := by decide +kernel
theorem dX10_odds_70 : decode cX10_odds 70 = .ok (.goto (-37), 3) := by decide +kernel
theorem dX10_odds_73 : decode cX10_odds 73 = .ok (.iload 4, 2) := by decide +kernel
theorem dX10_odds_75 : decode cX10_odds 75 = .ok (.ireturn, 1) := by decide +kernel
theorem dX10_judge_0 : decode cX10_judge 0 = .ok (.iload_n 1, 1) := by decide +kernel
theorem dX10_judge_1 : decode cX10_judge 1 = .ok (.ifCond .eq 11, 3) := by decide +kernel
theorem dX10_judge_4 : decode cX10_judge 4 = .ok (.iload_n 1, 1) := by decide +kernel
theorem dX10_judge_5 : decode cX10_judge 5 = .ok (.iconst 1, 1) := by decide +kernel
theorem dX10_judge_6 : decode cX10_judge 6 = .ok (.if_icmp .eq 6, 3) := by decide +kernel
theorem dX10_judge_9 : decode cX10_judge 9 = .ok (.bipush (-2), 2) := by decide +kernel
theorem dX10_judge_11 : decode cX10_judge 11 = .ok (.ireturn, 1) := by decide +kernel
theorem dX10_judge_12 : decode cX10_judge 12 = .ok (.aload_n 0, 1) := by decide +kernel
theorem dX10_judge_13 : decode cX10_judge 13 = .ok (.getfield 83, 3) := by decide +kernel
theorem dX10_judge_16 : decode cX10_judge 16 = .ok (.aload_n 0, 1) := by decide +kernel
theorem dX10_judge_17 : decode cX10_judge 17 = .ok (.getfield 30, 3) := by decide +kernel
theorem dX10_judge_20 : decode cX10_judge 20 = .ok (.getfield 127, 3) := by decide +kernel
theorem dX10_judge_23 : decode cX10_judge 23 = .ok (.invokevirtual 280, 3) := by decide +kernel
theorem dX10_judge_26 : decode cX10_judge 26 = .ok (.iconst 0, 1) := by decide +kernel
theorem dX10_judge_27 : decode cX10_judge 27 = .ok (.istore_n 2, 1) := by decide +kernel
theorem dX10_judge_28 : decode cX10_judge 28 = .ok (.iconst 0, 1) := by decide +kernel
theorem dX10_judge_29 : decode cX10_judge 29 = .ok (.istore_n 3, 1) := by decide +kernel
theorem dX10_judge_30 : decode cX10_judge 30 = .ok (.iload_n 2, 1) := by decide +kernel
theorem dX10_judge_31 : decode cX10_judge 31 = .ok (.ifCond .ne 54, 3) := by decide +kernel
theorem dX10_judge_34 : decode cX10_judge 34 = .ok (.iload_n 3, 1) := by decide +kernel
theorem dX10_judge_35 : decode cX10_judge 35 = .ok (.aload_n 0, 1) := by decide +kernel
theorem dX10_judge_36 : decode cX10_judge 36 = .ok (.getfield 30, 3) := by decide +kernel
theorem dX10_judge_39 : decode cX10_judge 39 = .ok (.getfield 134, 3) := by decide +kernel
theorem dX10_judge_42 : decode cX10_judge 42 = .ok (.getfield 137, 3) := by decide +kernel
theorem dX10_judge_45 : decode cX10_judge 45 = .ok (.if_icmp .ge 40, 3) := by decide +kernel
theorem dX10_judge_48 : decode cX10_judge 48 = .ok (.aload_n 0, 1) := by decide +kernel
theorem dX10_judge_49 : decode cX10_judge 49 = .ok (.getfield 30, 3) := by decide +kernel
theorem dX10_judge_52 : decode cX10_judge 52 = .ok (.getfield 134, 3) := by decide +kernel
theorem dX10_judge_55 : decode cX10_judge 55 = .ok (.iload_n 3, 1) := by decide +kernel
theorem dX10_judge_56 : decode cX10_judge 56 = .ok (.aload_n 0, 1) := by decide +kernel
theorem dX10_judge_57 : decode cX10_judge 57 = .ok (.getfield 30, 3) := by decide +kernel
theorem dX10_judge_60 : decode cX10_judge 60 = .ok (.getfield 124, 3) := by decide +kernel
theorem dX10_judge_63 : decode cX10_judge 63 = .ok (.aload_n 0, 1) := by decide +kernel
theorem dX10_judge_64 : decode cX10_judge 64 = .ok (.getfield 83, 3) := by decide +kernel
theorem dX10_judge_67 : decode cX10_judge 67 = .ok (.aload_n 0, 1) := by decide +kernel
theorem dX10_judge_68 : decode cX10_judge 68 = .ok (.getfield 69, 3) := by decide +kernel
theorem dX10_judge_71 : decode cX10_judge 71 = .ok (.invokevirtual 380, 3) := by decide +kernel
theorem dX10_judge_74 : decode cX10_judge 74 = .ok (.istore_n 2, 1) := by decide +kernel
theorem dX10_judge_75 : decode cX10_judge 75 = .ok (.iload_n 2, 1) := by decide +kernel
theorem dX10_judge_76 : decode cX10_judge 76 = .ok (.ifCond .ne (-46), 3) := by decide +kernel
theorem dX10_judge_79 : decode cX10_judge 79 = .ok (.iinc 3 1, 3) := by decide +kernel
theorem dX10_judge_82 : decode cX10_judge 82 = .ok (.goto (-52), 3) := by decide +kernel
theorem dX10_judge_85 : decode cX10_judge 85 = .ok (.aload_n 0, 1) := by decide +kernel
theorem dX10_judge_86 : decode cX10_judge 86 = .ok (.getfield 100, 3) := by decide +kernel
theorem dX10_judge_89 : decode cX10_judge 89 = .ok (.iconst 0, 1) := by decide +kernel
theorem dX10_judge_90 : decode cX10_judge 90 = .ok (.iload_n 2, 1) := by decide +kernel
theorem dX10_judge_91 : decode cX10_judge 91 = .ok (.iastore, 1) := by decide +kernel
theorem dX10_judge_92 : decode cX10_judge 92 = .ok (.aload_n 0, 1) := by decide +kernel
theorem dX10_judge_93 : decode cX10_judge 93 = .ok (.getfield 100, 3) := by decide +kernel
theorem dX10_judge_96 : decode cX10_judge 96 = .ok (.iconst 1, 1) := by decide +kernel
theorem dX10_judge_97 : decode cX10_judge 97 = .ok (.iload_n 3, 1) := by decide +kernel
theorem dX10_judge_98 : decode cX10_judge 98 = .ok (.iastore, 1) := by decide +kernel
theorem dX10_judge_99 : decode cX10_judge 99 = .ok (.aload_n 0, 1) := by decide +kernel
theorem dX10_judge_100 : decode cX10_judge 100 = .ok (.getfield 100, 3) := by decide +kernel
theorem dX10_judge_103 : decode cX10_judge 103 = .ok (.iconst 2, 1) := by decide +kernel
theorem dX10_judge_104 : decode cX10_judge 104 = .ok (.aload_n 0, 1) := by decide +kernel
theorem dX10_judge_105 : decode cX10_judge 105 = .ok (.getfield 83, 3) := by decide +kernel
theorem dX10_judge_108 : decode cX10_judge 108 = .ok (.getfield 219, 3) := by decide +kernel
theorem dX10_judge_111 : decode cX10_judge 111 = .ok (.iastore, 1) := by decide +kernel
theorem dX10_judge_112 : decode cX10_judge 112 = .ok (.aload_n 0, 1) := by decide +kernel
theorem dX10_judge_113 : decode cX10_judge 113 = .ok (.getfield 100, 3) := by decide +kernel
theorem dX10_judge_116 : decode cX10_judge 116 = .ok (.iconst 3, 1) := by decide +kernel
theorem dX10_judge_117 : decode cX10_judge 117 = .ok (.aload_n 0, 1) := by decide +kernel
theorem dX10_judge_118 : decode cX10_judge 118 = .ok (.getfield 83, 3) := by decide +kernel
theorem dX10_judge_121 : decode cX10_judge 121 = .ok (.getfield 222, 3) := by decide +kernel
theorem dX10_judge_124 : decode cX10_judge 124 = .ok (.iastore, 1) := by decide +kernel
theorem dX10_judge_125 : decode cX10_judge 125 = .ok (.aload_n 0, 1) := by decide +kernel
theorem dX10_judge_126 : decode cX10_judge 126 = .ok (.getfield 100, 3) := by decide +kernel
theorem dX10_judge_129 : decode cX10_judge 129 = .ok (.iconst 4, 1) := by decide +kernel
theorem dX10_judge_130 : decode cX10_judge 130 = .ok (.aload_n 0, 1) := by decide +kernel
theorem dX10_judge_131 : decode cX10_judge 131 = .ok (.getfield 83, 3) := by decide +kernel
theorem dX10_judge_134 : decode cX10_judge 134 = .ok (.getfield 229, 3) := by decide +kernel
theorem dX10_judge_137 : decode cX10_judge 137 = .ok (.iastore, 1) := by decide +kernel
theorem dX10_judge_138 : decode cX10_judge 138 = .ok (.iload_n 1, 1) := by decide +kernel
theorem dX10_judge_139 : decode cX10_judge 139 = .ok (.iconst 1, 1) := by decide +kernel
theorem dX10_judge_140 : decode cX10_judge 140 = .ok (.if_icmp .ne 25, 3) := by decide +kernel
theorem dX10_judge_143 : decode cX10_judge 143 = .ok (.iload_n 3, 1) := by decide +kernel
theorem dX10_judge_144 : decode cX10_judge 144 = .ok (.ifCond .le 21, 3) := by decide +kernel
theorem dX10_judge_147 : decode cX10_judge 147 = .ok (.aload_n 0, 1) := by decide +kernel
theorem dX10_judge_148 : decode cX10_judge 148 = .ok (.invokevirtual 299, 3) := by decide +kernel
theorem dX10_judge_151 : decode cX10_judge 151 = .ok (.aload_n 0, 1) := by decide +kernel
theorem dX10_judge_152 : decode cX10_judge 152 = .ok (.getfield 30, 3) := by decide +kernel
theorem dX10_judge_155 : decode cX10_judge 155 = .ok (.getfield 127, 3) := by decide +kernel
theorem dX10_judge_158 : decode cX10_judge 158 = .ok (.aload_n 0, 1) := by decide +kernel
theorem dX10_judge_159 : decode cX10_judge 159 = .ok (.getfield 83, 3) := by decide +kernel
theorem dX10_judge_162 : decode cX10_judge 162 = .ok (.invokevirtual 280, 3) := by decide +kernel
theorem dX10_judge_165 : decode cX10_judge 165 = .ok (.iload_n 2, 1) := by decide +kernel
theorem dX10_judge_166 : decode cX10_judge 166 = .ok (.ifCond .ne 7, 3) := by decide +kernel
theorem dX10_judge_169 : decode cX10_judge 169 = .ok (.iconst (-1), 1) := by decide +kernel
