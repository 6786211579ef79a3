theorem dX10_judge_170 : decode cX10_judge 170 = .ok (.goto 4, 3) := by decide +kernel
theorem dX10_judge_173 : decode cX10_judge 173 = .ok (.iload_n 3, 1) := by decide +kernel
theorem dX10_judge_174 : decode cX10_judge 174 = .ok (.ireturn, 1) := by decide +kernel
theorem dX10_judged_0 : decode cX10_judged 0 = .ok (.iload_n 1, 1) := by decide +kernel
theorem dX10_judged_1 : decode cX10_judged 1 = .ok (.ifCond .lt 21, 3) := by decide +kernel
theorem dX10_judged_4 : decode cX10_judged 4 = .ok (.iload_n 1, 1) := by decide +kernel
theorem dX10_judged_5 : decode cX10_judged 5 = .ok (.aload_n 0, 1) := by decide +kernel
theorem dX10_judged_6 : decode cX10_judged 6 = .ok (.getfield 100, 3) := by decide +kernel
theorem dX10_judged_9 : decode cX10_judged 9 = .ok (.arraylength, 1) := by decide +kernel
theorem dX10_judged_10 : decode cX10_judged 10 = .ok (.if_icmp .ge 12, 3) := by decide +kernel
theorem dX10_judged_13 : decode cX10_judged 13 = .ok (.aload_n 0, 1) := by decide +kernel
theorem dX10_judged_14 : decode cX10_judged 14 = .ok (.getfield 100, 3) := by decide +kernel
theorem dX10_judged_17 : decode cX10_judged 17 = .ok (.iload_n 1, 1) := by decide +kernel
theorem dX10_judged_18 : decode cX10_judged 18 = .ok (.iaload, 1) := by decide +kernel
theorem dX10_judged_19 : decode cX10_judged 19 = .ok (.goto 4, 3) := by decide +kernel
theorem dX10_judged_22 : decode cX10_judged 22 = .ok (.iconst (-1), 1) := by decide +kernel
theorem dX10_judged_23 : decode cX10_judged 23 = .ok (.ireturn, 1) := by decide +kernel
theorem dX10_said_0 : decode cX10_said 0 = .ok (.aload_n 0, 1) := by decide +kernel
theorem dX10_said_1 : decode cX10_said 1 = .ok (.getfield 30, 3) := by decide +kernel
theorem dX10_said_4 : decode cX10_said 4 = .ok (.getfield 140, 3) := by decide +kernel
theorem dX10_said_7 : decode cX10_said 7 = .ok (.getfield 143, 3) := by decide +kernel
theorem dX10_said_10 : decode cX10_said 10 = .ok (.ifCond .ne 5, 3) := by decide +kernel
theorem dX10_said_13 : decode cX10_said 13 = .ok (.iconst (-1), 1) := by decide +kernel
theorem dX10_said_14 : decode cX10_said 14 = .ok (.ireturn, 1) := by decide +kernel
theorem dX10_said_15 : decode cX10_said 15 = .ok (.aload_n 0, 1) := by decide +kernel
theorem dX10_said_16 : decode cX10_said 16 = .ok (.getfield 30, 3) := by decide +kernel
theorem dX10_said_19 : decode cX10_said 19 = .ok (.getfield 140, 3) := by decide +kernel
theorem dX10_said_22 : decode cX10_said 22 = .ok (.aload_n 0, 1) := by decide +kernel
theorem dX10_said_23 : decode cX10_said 23 = .ok (.getfield 30, 3) := by decide +kernel
theorem dX10_said_26 : decode cX10_said 26 = .ok (.getfield 127, 3) := by decide +kernel
theorem dX10_said_29 : decode cX10_said 29 = .ok (.aload_n 0, 1) := by decide +kernel
theorem dX10_said_30 : decode cX10_said 30 = .ok (.getfield 30, 3) := by decide +kernel
theorem dX10_said_33 : decode cX10_said 33 = .ok (.getfield 124, 3) := by decide +kernel
theorem dX10_said_36 : decode cX10_said 36 = .ok (.getfield 174, 3) := by decide +kernel
theorem dX10_said_39 : decode cX10_said 39 = .ok (.getfield 253, 3) := by decide +kernel
theorem dX10_said_42 : decode cX10_said 42 = .ok (.invokevirtual 384, 3) := by decide +kernel
theorem dX10_said_45 : decode cX10_said 45 = .ok (.istore_n 2, 1) := by decide +kernel
theorem dX10_said_46 : decode cX10_said 46 = .ok (.iload_n 1, 1) := by decide +kernel
theorem dX10_said_47 : decode cX10_said 47 = .ok (.iconst (-1), 1) := by decide +kernel
theorem dX10_said_48 : decode cX10_said 48 = .ok (.if_icmp .ne 8, 3) := by decide +kernel
theorem dX10_said_51 : decode cX10_said 51 = .ok (.iload_n 2, 1) := by decide +kernel
theorem dX10_said_52 : decode cX10_said 52 = .ok (.invokestatic 235, 3) := by decide +kernel
theorem dX10_said_55 : decode cX10_said 55 = .ok (.ireturn, 1) := by decide +kernel
theorem dX10_said_56 : decode cX10_said 56 = .ok (.iconst 0, 1) := by decide +kernel
theorem dX10_said_57 : decode cX10_said 57 = .ok (.istore_n 3, 1) := by decide +kernel
theorem dX10_said_58 : decode cX10_said 58 = .ok (.iconst 0, 1) := by decide +kernel
theorem dX10_said_59 : decode cX10_said 59 = .ok (.istore 4, 2) := by decide +kernel
theorem dX10_said_61 : decode cX10_said 61 = .ok (.iload 4, 2) := by decide +kernel
theorem dX10_said_63 : decode cX10_said 63 = .ok (.bipush 8, 2) := by decide +kernel
theorem dX10_said_65 : decode cX10_said 65 = .ok (.if_icmp .ge 30, 3) := by decide +kernel
theorem dX10_said_68 : decode cX10_said 68 = .ok (.iload_n 2, 1) := by decide +kernel
theorem dX10_said_69 : decode cX10_said 69 = .ok (.iload 4, 2) := by decide +kernel
theorem dX10_said_71 : decode cX10_said 71 = .ok (.ishr, 1) := by decide +kernel
theorem dX10_said_72 : decode cX10_said 72 = .ok (.iconst 1, 1) := by decide +kernel
theorem dX10_said_73 : decode cX10_said 73 = .ok (.iand, 1) := by decide +kernel
theorem dX10_said_74 : decode cX10_said 74 = .ok (.iconst 1, 1) := by decide +kernel
theorem dX10_said_75 : decode cX10_said 75 = .ok (.if_icmp .ne 14, 3) := by decide +kernel
theorem dX10_said_78 : decode cX10_said 78 = .ok (.iload_n 3, 1) := by decide +kernel
theorem dX10_said_79 : decode cX10_said 79 = .ok (.iload_n 1, 1) := by decide +kernel
theorem dX10_said_80 : decode cX10_said 80 = .ok (.if_icmp .ne 6, 3) := by decide +kernel
theorem dX10_said_83 : decode cX10_said 83 = .ok (.iload 4, 2) := by decide +kernel
theorem dX10_said_85 : decode cX10_said 85 = .ok (.ireturn, 1) := by decide +kernel
theorem dX10_said_86 : decode cX10_said 86 = .ok (.iinc 3 1, 3) := by decide +kernel
theorem dX10_said_89 : decode cX10_said 89 = .ok (.iinc 4 1, 3) := by decide +kernel
theorem dX10_said_92 : decode cX10_said 92 = .ok (.goto (-31), 3) := by decide +kernel
theorem dX10_said_95 : decode cX10_said 95 = .ok (.iconst (-1), 1) := by decide +kernel
theorem dX10_said_96 : decode cX10_said 96 = .ok (.ireturn, 1) := by decide +kernel
theorem dX10_image_0 : decode cX10_image 0 = .ok (.iload_n 1, 1) := by decide +kernel
theorem dX10_image_1 : decode cX10_image 1 = .ok (.ifCond .lt 8, 3) := by decide +kernel
theorem dX10_image_4 : decode cX10_image 4 = .ok (.iload_n 1, 1) := by decide +kernel
theorem dX10_image_5 : decode cX10_image 5 = .ok (.iconst 2, 1) := by decide +kernel
theorem dX10_image_6 : decode cX10_image 6 = .ok (.if_icmp .lt 5, 3) := by decide +kernel
theorem dX10_image_9 : decode cX10_image 9 = .ok (.iconst 0, 1) := by decide +kernel
theorem dX10_image_10 : decode cX10_image 10 = .ok (.ireturn, 1) := by decide +kernel
theorem dX10_image_11 : decode cX10_image 11 = .ok (.aload_n 0, 1) := by decide +kernel
theorem dX10_image_12 : decode cX10_image 12 = .ok (.getfield 34, 3) := by decide +kernel
theorem dX10_image_15 : decode cX10_image 15 = .ok (.iload_n 1, 1) := by decide +kernel
theorem dX10_image_16 : decode cX10_image 16 = .ok (.aaload, 1) := by decide +kernel
theorem dX10_image_17 : decode cX10_image 17 = .ok (.aload_n 0, 1) := by decide +kernel
theorem dX10_image_18 : decode cX10_image 18 = .ok (.getfield 30, 3) := by decide +kernel
theorem dX10_image_21 : decode cX10_image 21 = .ok (.invokevirtual 388, 3) := by decide +kernel
theorem dX10_image_24 : decode cX10_image 24 = .ok (.aload_n 0, 1) := by decide +kernel
theorem dX10_image_25 : decode cX10_image 25 = .ok (.getfield 34, 3) := by decide +kernel
theorem dX10_image_28 : decode cX10_image 28 = .ok (.iload_n 1, 1) := by decide +kernel
theorem dX10_image_29 : decode cX10_image 29 = .ok (.aaload, 1) := by decide +kernel
theorem dX10_image_30 : decode cX10_image 30 = .ok (.iconst 1, 1) := by decide +kernel
theorem dX10_image_31 : decode cX10_image 31 = .ok (.putfield 391, 3) := by decide +kernel
theorem dX10_image_34 : decode cX10_image 34 = .ok (.iconst 1, 1) := by decide +kernel
theorem dX10_image_35 : decode cX10_image 35 = .ok (.ireturn, 1) := by decide +kernel
theorem dX10_restore_0 : decode cX10_restore 0 = .ok (.iload_n 1, 1) := by decide +kernel
theorem dX10_restore_1 : decode cX10_restore 1 = .ok (.ifCond .lt 20, 3) := by decide +kernel
theorem dX10_restore_4 : decode cX10_restore 4 = .ok (.iload_n 1, 1) := by decide +kernel
theorem dX10_restore_5 : decode cX10_restore 5 = .ok (.iconst 2, 1) := by decide +kernel
theorem dX10_restore_6 : decode cX10_restore 6 = .ok (.if_icmp .ge 15, 3) := by decide +kernel
theorem dX10_restore_9 : decode cX10_restore 9 = .ok (.aload_n 0, 1) := by decide +kernel
theorem dX10_restore_10 : decode cX10_restore 10 = .ok (.getfield 34, 3) := by decide +kernel
theorem dX10_restore_13 : decode cX10_restore 13 = .ok (.iload_n 1, 1) := by decide +kernel
theorem dX10_restore_14 : decode cX10_restore 14 = .ok (.aaload, 1) := by decide +kernel
theorem dX10_restore_15 : decode cX10_restore 15 = .ok (.getfield 391, 3) := by decide +kernel
theorem dX10_restore_18 : decode cX10_restore 18 = .ok (.ifCond .ne 5, 3) := by decide +kernel
theorem dX10_restore_21 : decode cX10_restore 21 = .ok (.iconst 0, 1) := by decide +kernel
theorem dX10_restore_22 : decode cX10_restore 22 = .ok (.ireturn, 1) := by decide +kernel
theorem dX10_restore_23 : decode cX10_restore 23 = .ok (.aload_n 0, 1) := by decide +kernel
theorem dX10_restore_24 : decode cX10_restore 24 = .ok (.getfield 30, 3) := by decide +kernel
theorem dX10_restore_27 : decode cX10_restore 27 = .ok (.aload_n 0, 1) := by decide +kernel
theorem dX10_restore_28 : decode cX10_restore 28 = .ok (.getfield 34, 3) := by decide +kernel
theorem dX10_restore_31 : decode cX10_restore 31 = .ok (.iload_n 1, 1) := by decide +kernel
theorem dX10_restore_32 : decode cX10_restore 32 = .ok (.aaload, 1) := by decide +kernel
theorem dX10_restore_33 : decode cX10_restore 33 = .ok (.invokevirtual 388, 3) := by decide +kernel
theorem dX10_restore_36 : decode cX10_restore 36 = .ok (.aload_n 0, 1) := by decide +kernel
theorem dX10_restore_37 : decode cX10_restore 37 = .ok (.getfield 62, 3) := by decide +kernel
theorem dX10_restore_40 : decode cX10_restore 40 = .ok (.invokevirtual 146, 3) := by decide +kernel
theorem dX10_restore_43 : decode cX10_restore 43 = .ok (.aload_n 0, 1) := by decide +kernel
theorem dX10_restore_44 : decode cX10_restore 44 = .ok (.getfield 76, 3) := by decide +kernel
theorem dX10_restore_47 : decode cX10_restore 47 = .ok (.iconst 0, 1) := by decide +kernel
theorem dX10_restore_48 : decode cX10_restore 48 = .ok (.putfield 149, 3) := by decide +kernel
theorem dX10_restore_51 : decode cX10_restore 51 = .ok (.iconst 1, 1) := by decide +kernel
theorem dX10_restore_52 : decode cX10_restore 52 = .ok (.ireturn, 1) := by decide +kernel
theorem dX0_clear_0 : decode cX0_clear 0 = .ok (.aload_n 0, 1) := by decide +kernel
theorem dX0_clear_1 : decode cX0_clear 1 = .ok (.iconst 0, 1) := by decide +kernel
theorem dX0_clear_2 : decode cX0_clear 2 = .ok (.putfield 9, 3) := by decide +kernel
theorem dX0_clear_5 : decode cX0_clear 5 = .ok (.aload_n 0, 1) := by decide +kernel
theorem dX0_clear_6 : decode cX0_clear 6 = .ok (.iconst 0, 1) := by decide +kernel
theorem dX0_clear_7 : decode cX0_clear 7 = .ok (.putfield 15, 3) := by decide +kernel
theorem dX0_clear_10 : decode cX0_clear 10 = .ok (.aload_n 0, 1) := by decide +kernel
theorem dX0_clear_11 : decode cX0_clear 11 = .ok (.iconst 0, 1) := by decide +kernel
theorem dX0_clear_12 : decode cX0_clear 12 = .ok (.putfield 18, 3) := by decide +kernel
theorem dX0_clear_15 : decode cX0_clear 15 = .ok (.aload_n 0, 1) := by decide +kernel
theorem dX0_clear_16 : decode cX0_clear 16 = .ok (.iconst 0, 1) := by decide +kernel
theorem dX0_clear_17 : decode cX0_clear 17 = .ok (.putfield 21, 3) := by decide +kernel
theorem dX0_clear_20 : decode cX0_clear 20 = .ok (.aload_n 0, 1) := by decide +kernel
theorem dX0_clear_21 : decode cX0_clear 21 = .ok (.iconst 0, 1) := by decide +kernel
theorem dX0_clear_22 : decode cX0_clear 22 = .ok (.putfield 24, 3) := by decide +kernel
theorem dX0_clear_25 : decode cX0_clear 25 = .ok (.aload_n 0, 1) := by decide +kernel
theorem dX0_clear_26 : decode cX0_clear 26 = .ok (.iconst 0, 1) := by decide +kernel
theorem dX0_clear_27 : decode cX0_clear 27 = .ok (.putfield 27, 3) := by decide +kernel
theorem dX0_clear_30 : decode cX0_clear 30 = .ok (.aload_n 0, 1) := by decide +kernel
theorem dX0_clear_31 : decode cX0_clear 31 = .ok (.iconst 0, 1) := by decide +kernel
theorem dX0_clear_32 : decode cX0_clear 32 = .ok (.putfield 30, 3) := by decide +kernel
theorem dX0_clear_35 : decode cX0_clear 35 = .ok (.aload_n 0, 1) := by decide +kernel
theorem dX0_clear_36 : decode cX0_clear 36 = .ok (.iconst 0, 1) := by decide +kernel
theorem dX0_clear_37 : decode cX0_clear 37 = .ok (.putfield 33, 3) := by decide +kernel
theorem dX0_clear_40 : decode cX0_clear 40 = .ok (.aload_n 0, 1) := by decide +kernel
theorem dX0_clear_41 : decode cX0_clear 41 = .ok (.iconst 0, 1) := by decide +kernel
theorem dX0_clear_42 : decode cX0_clear 42 = .ok (.putfield 37, 3) := by decide +kernel
theorem dX0_clear_45 : decode cX0_clear 45 = .ok (.aload_n 0, 1) := by decide +kernel
theorem dX0_clear_46 : decode cX0_clear 46 = .ok (.iconst 0, 1) := by decide +kernel
theorem dX0_clear_47 : decode cX0_clear 47 = .ok (.putfield 40, 3) := by decide +kernel
theorem dX0_clear_50 : decode cX0_clear 50 = .ok (.aload_n 0, 1) := by decide +kernel
theorem dX0_clear_51 : decode cX0_clear 51 = .ok (.getfield 46, 3) := by decide +kernel
theorem dX0_clear_54 : decode cX0_clear 54 = .ok (.invokevirtual 66, 3) := by decide +kernel
theorem dX0_clear_57 : decode cX0_clear 57 = .ok (.iconst 0, 1) := by decide +kernel
theorem dX0_clear_58 : decode cX0_clear 58 = .ok (.istore_n 1, 1) := by decide +kernel
theorem dX0_clear_59 : decode cX0_clear 59 = .ok (.iload_n 1, 1) := by decide +kernel
theorem dX0_clear_60 : decode cX0_clear 60 = .ok (.bipush 100, 2) := by decide +kernel
theorem dX0_clear_62 : decode cX0_clear 62 = .ok (.if_icmp .ge 23, 3) := by decide +kernel
theorem dX0_clear_65 : decode cX0_clear 65 = .ok (.aload_n 0, 1) := by decide +kernel
theorem dX0_clear_66 : decode cX0_clear 66 = .ok (.getfield 50, 3) := by decide +kernel
theorem dX0_clear_69 : decode cX0_clear 69 = .ok (.iload_n 1, 1) := by decide +kernel
theorem dX0_clear_70 : decode cX0_clear 70 = .ok (.iconst 0, 1) := by decide +kernel
theorem dX0_clear_71 : decode cX0_clear 71 = .ok (.iastore, 1) := by decide +kernel
theorem dX0_clear_72 : decode cX0_clear 72 = .ok (.aload_n 0, 1) := by decide +kernel
theorem dX0_clear_73 : decode cX0_clear 73 = .ok (.getfield 54, 3) := by decide +kernel
theorem dX0_clear_76 : decode cX0_clear 76 = .ok (.iload_n 1, 1) := by decide +kernel
theorem dX0_clear_77 : decode cX0_clear 77 = .ok (.iconst 0, 1) := by decide +kernel
theorem dX0_clear_78 : decode cX0_clear 78 = .ok (.iastore, 1) := by decide +kernel
theorem dX0_clear_79 : decode cX0_clear 79 = .ok (.iinc 1 1, 3) := by decide +kernel
theorem dX0_clear_82 : decode cX0_clear 82 = .ok (.goto (-23), 3) := by decide +kernel
theorem dX0_clear_85 : decode cX0_clear 85 = .ok (.iconst 0, 1) := by decide +kernel
theorem dX0_clear_86 : decode cX0_clear 86 = .ok (.istore_n 1, 1) := by decide +kernel
theorem dX0_clear_87 : decode cX0_clear 87 = .ok (.iload_n 1, 1) := by decide +kernel
theorem dX0_clear_88 : decode cX0_clear 88 = .ok (.bipush 48, 2) := by decide +kernel
theorem dX0_clear_90 : decode cX0_clear 90 = .ok (.if_icmp .ge 16, 3) := by decide +kernel
theorem dX0_clear_93 : decode cX0_clear 93 = .ok (.aload_n 0, 1) := by decide +kernel
theorem dX0_clear_94 : decode cX0_clear 94 = .ok (.getfield 63, 3) := by decide +kernel
theorem dX0_clear_97 : decode cX0_clear 97 = .ok (.iload_n 1, 1) := by decide +kernel
theorem dX0_clear_98 : decode cX0_clear 98 = .ok (.iconst 0, 1) := by decide +kernel
theorem dX0_clear_99 : decode cX0_clear 99 = .ok (.iastore, 1) := by decide +kernel
theorem dX0_clear_100 : decode cX0_clear 100 = .ok (.iinc 1 1, 3) := by decide +kernel
theorem dX0_clear_103 : decode cX0_clear 103 = .ok (.goto (-16), 3) := by decide +kernel
theorem dX0_clear_106 : decode cX0_clear 106 = .ok (.return_, 1) := by decide +kernel
theorem dX0_copy_0 : decode cX0_copy 0 = .ok (.aload_n 0, 1) := by decide +kernel
theorem dX0_copy_1 : decode cX0_copy 1 = .ok (.aload_n 1, 1) := by decide +kernel
theorem dX0_copy_2 : decode cX0_copy 2 = .ok (.getfield 9, 3) := by decide +kernel
theorem dX0_copy_5 : decode cX0_copy 5 = .ok (.putfield 9, 3) := by decide +kernel
theorem dX0_copy_8 : decode cX0_copy 8 = .ok (.aload_n 0, 1) := by decide +kernel
theorem dX0_copy_9 : decode cX0_copy 9 = .ok (.aload_n 1, 1) := by decide +kernel
theorem dX0_copy_10 : decode cX0_copy 10 = .ok (.getfield 15, 3) := by decide +kernel
theorem dX0_copy_13 : decode cX0_copy 13 = .ok (.putfield 15, 3) := by decide +kernel
theorem dX0_copy_16 : decode cX0_copy 16 = .ok (.aload_n 0, 1) := by decide +kernel
theorem dX0_copy_17 : decode cX0_copy 17 = .ok (.aload_n 1, 1) := by decide +kernel
theorem dX0_copy_18 : decode cX0_copy 18 = .ok (.getfield 18, 3) := by decide +kernel
theorem dX0_copy_21 : decode cX0_copy 21 = .ok (.putfield 18, 3) := by decide +kernel
theorem dX0_copy_24 : decode cX0_copy 24 = .ok (.aload_n 0, 1) := by decide +kernel
theorem dX0_copy_25 : decode cX0_copy 25 = .ok (.aload_n 1, 1) := by decide +kernel
theorem dX0_copy_26 : decode cX0_copy 26 = .ok (.getfield 21, 3) := by decide +kernel
theorem dX0_copy_29 : decode cX0_copy 29 = .ok (.putfield 21, 3) := by decide +kernel
theorem dX0_copy_32 : decode cX0_copy 32 = .ok (.aload_n 0, 1) := by decide +kernel
theorem dX0_copy_33 : decode cX0_copy 33 = .ok (.aload_n 1, 1) := by decide +kernel
theorem dX0_copy_34 : decode cX0_copy 34 = .ok (.getfield 24, 3) := by decide +kernel
theorem dX0_copy_37 : decode cX0_copy 37 = .ok (.putfield 24, 3) := by decide +kernel
theorem dX0_copy_40 : decode cX0_copy 40 = .ok (.aload_n 0, 1) := by decide +kernel
theorem dX0_copy_41 : decode cX0_copy 41 = .ok (.aload_n 1, 1) := by decide +kernel
theorem dX0_copy_42 : decode cX0_copy 42 = .ok (.getfield 27, 3) := by decide +kernel
theorem dX0_copy_45 : decode cX0_copy 45 = .ok (.putfield 27, 3) := by decide +kernel
theorem dX0_copy_48 : decode cX0_copy 48 = .ok (.aload_n 0, 1) := by decide +kernel
theorem dX0_copy_49 : decode cX0_copy 49 = .ok (.aload_n 1, 1) := by decide +kernel
theorem dX0_copy_50 : decode cX0_copy 50 = .ok (.getfield 30, 3) := by decide +kernel
theorem dX0_copy_53 : decode cX0_copy 53 = .ok (.putfield 30, 3) := by decide +kernel
theorem dX0_copy_56 : decode cX0_copy 56 = .ok (.aload_n 0, 1) := by decide +kernel
theorem dX0_copy_57 : decode cX0_copy 57 = .ok (.aload_n 1, 1) := by decide +kernel
theorem dX0_copy_58 : decode cX0_copy 58 = .ok (.getfield 33, 3) := by decide +kernel
theorem dX0_copy_61 : decode cX0_copy 61 = .ok (.putfield 33, 3) := by decide +kernel
theorem dX0_copy_64 : decode cX0_copy 64 = .ok (.aload_n 0, 1) := by decide +kernel
theorem dX0_copy_65 : decode cX0_copy 65 = .ok (.aload_n 1, 1) := by decide +kernel
theorem dX0_copy_66 : decode cX0_copy 66 = .ok (.getfield 37, 3) := by decide +kernel
theorem dX0_copy_69 : decode cX0_copy 69 = .ok (.putfield 37, 3) := by decide +kernel
theorem dX0_copy_72 : decode cX0_copy 72 = .ok (.aload_n 0, 1) := by decide +kernel
theorem dX0_copy_73 : decode cX0_copy 73 = .ok (.aload_n 1, 1) := by decide +kernel
theorem dX0_copy_74 : decode cX0_copy 74 = .ok (.getfield 40, 3) := by decide +kernel
theorem dX0_copy_77 : decode cX0_copy 77 = .ok (.putfield 40, 3) := by decide +kernel
theorem dX0_copy_80 : decode cX0_copy 80 = .ok (.aload_n 0, 1) := by decide +kernel
theorem dX0_copy_81 : decode cX0_copy 81 = .ok (.getfield 46, 3) := by decide +kernel
theorem dX0_copy_84 : decode cX0_copy 84 = .ok (.aload_n 1, 1) := by decide +kernel
theorem dX0_copy_85 : decode cX0_copy 85 = .ok (.getfield 46, 3) := by decide +kernel
theorem dX0_copy_88 : decode cX0_copy 88 = .ok (.invokevirtual 69, 3) := by decide +kernel
theorem dX0_copy_91 : decode cX0_copy 91 = .ok (.aload_n 1, 1) := by decide +kernel
theorem dX0_copy_92 : decode cX0_copy 92 = .ok (.getfield 50, 3) := by decide +kernel
theorem dX0_copy_95 : decode cX0_copy 95 = .ok (.iconst 0, 1) := by decide +kernel
theorem dX0_copy_96 : decode cX0_copy 96 = .ok (.aload_n 0, 1) := by decide +kernel
theorem dX0_copy_97 : decode cX0_copy 97 = .ok (.getfield 50, 3) := by decide +kernel
theorem dX0_copy_100 : decode cX0_copy 100 = .ok (.iconst 0, 1) := by decide +kernel
theorem dX0_copy_101 : decode cX0_copy 101 = .ok (.bipush 100, 2) := by decide +kernel
theorem dX0_copy_103 : decode cX0_copy 103 = .ok (.invokestatic 73, 3) := by decide +kernel
theorem dX0_copy_106 : decode cX0_copy 106 = .ok (.aload_n 1, 1) := by decide +kernel
theorem dX0_copy_107 : decode cX0_copy 107 = .ok (.getfield 54, 3) := by decide +kernel
theorem dX0_copy_110 : decode cX0_copy 110 = .ok (.iconst 0, 1) := by decide +kernel
theorem dX0_copy_111 : decode cX0_copy 111 = .ok (.aload_n 0, 1) := by decide +kernel
theorem dX0_copy_112 : decode cX0_copy 112 = .ok (.getfield 54, 3) := by decide +kernel
theorem dX0_copy_115 : decode cX0_copy 115 = .ok (.iconst 0, 1) := by decide +kernel
theorem dX0_copy_116 : decode cX0_copy 116 = .ok (.bipush 100, 2) := by decide +kernel
theorem dX0_copy_118 : decode cX0_copy 118 = .ok (.invokestatic 73, 3) := by decide +kernel
theorem dX0_copy_121 : decode cX0_copy 121 = .ok (.aload_n 1, 1) := by decide +kernel
theorem dX0_copy_122 : decode cX0_copy 122 = .ok (.getfield 57, 3) := by decide +kernel
theorem dX0_copy_125 : decode cX0_copy 125 = .ok (.iconst 0, 1) := by decide +kernel
theorem dX0_copy_126 : decode cX0_copy 126 = .ok (.aload_n 0, 1) := by decide +kernel
theorem dX0_copy_127 : decode cX0_copy 127 = .ok (.getfield 57, 3) := by decide +kernel
theorem dX0_copy_130 : decode cX0_copy 130 = .ok (.iconst 0, 1) := by decide +kernel
theorem dX0_copy_131 : decode cX0_copy 131 = .ok (.bipush 12, 2) := by decide +kernel
theorem dX0_copy_133 : decode cX0_copy 133 = .ok (.invokestatic 73, 3) := by decide +kernel
theorem dX0_copy_136 : decode cX0_copy 136 = .ok (.aload_n 1, 1) := by decide +kernel
theorem dX0_copy_137 : decode cX0_copy 137 = .ok (.getfield 60, 3) := by decide +kernel
theorem dX0_copy_140 : decode cX0_copy 140 = .ok (.iconst 0, 1) := by decide +kernel
theorem dX0_copy_141 : decode cX0_copy 141 = .ok (.aload_n 0, 1) := by decide +kernel
theorem dX0_copy_142 : decode cX0_copy 142 = .ok (.getfield 60, 3) := by decide +kernel
theorem dX0_copy_145 : decode cX0_copy 145 = .ok (.iconst 0, 1) := by decide +kernel
theorem dX0_copy_146 : decode cX0_copy 146 = .ok (.bipush 48, 2) := by decide +kernel
theorem dX0_copy_148 : decode cX0_copy 148 = .ok (.invokestatic 73, 3) := by decide +kernel
theorem dX0_copy_151 : decode cX0_copy 151 = .ok (.aload_n 1, 1) := by decide +kernel
theorem dX0_copy_152 : decode cX0_copy 152 = .ok (.getfield 63, 3) := by decide +kernel
theorem dX0_copy_155 : decode cX0_copy 155 = .ok (.iconst 0, 1) := by decide +kernel
theorem dX0_copy_156 : decode cX0_copy 156 = .ok (.aload_n 0, 1) := by decide +kernel
theorem dX0_copy_157 : decode cX0_copy 157 = .ok (.getfield 63, 3) := by decide +kernel
theorem dX0_copy_160 : decode cX0_copy 160 = .ok (.iconst 0, 1) := by decide +kernel
theorem dX0_copy_161 : decode cX0_copy 161 = .ok (.bipush 48, 2) := by decide +kernel
theorem dX0_copy_163 : decode cX0_copy 163 = .ok (.invokestatic 73, 3) := by decide +kernel
theorem dX0_copy_166 : decode cX0_copy 166 = .ok (.return_, 1) := by decide +kernel
theorem dX0_isCell_0 : decode cX0_isCell 0 = .ok (.iload_n 1, 1) := by decide +kernel
theorem dX0_isCell_1 : decode cX0_isCell 1 = .ok (.ifCond .lt 35, 3) := by decide +kernel
theorem dX0_isCell_4 : decode cX0_isCell 4 = .ok (.iload_n 1, 1) := by decide +kernel
theorem dX0_isCell_5 : decode cX0_isCell 5 = .ok (.bipush 100, 2) := by decide +kernel
theorem dX0_isCell_7 : decode cX0_isCell 7 = .ok (.if_icmp .ge 29, 3) := by decide +kernel
theorem dX0_isCell_10 : decode cX0_isCell 10 = .ok (.iload_n 1, 1) := by decide +kernel
theorem dX0_isCell_11 : decode cX0_isCell 11 = .ok (.bipush 10, 2) := by decide +kernel
theorem dX0_isCell_13 : decode cX0_isCell 13 = .ok (.irem, 1) := by decide +kernel
theorem dX0_isCell_14 : decode cX0_isCell 14 = .ok (.aload_n 0, 1) := by decide +kernel
theorem dX0_isCell_15 : decode cX0_isCell 15 = .ok (.getfield 15, 3) := by decide +kernel
theorem dX0_isCell_18 : decode cX0_isCell 18 = .ok (.if_icmp .ge 18, 3) := by decide +kernel
theorem dX0_isCell_21 : decode cX0_isCell 21 = .ok (.iload_n 1, 1) := by decide +kernel
theorem dX0_isCell_22 : decode cX0_isCell 22 = .ok (.bipush 10, 2) := by decide +kernel
theorem dX0_isCell_24 : decode cX0_isCell 24 = .ok (.idiv, 1) := by decide +kernel
theorem dX0_isCell_25 : decode cX0_isCell 25 = .ok (.aload_n 0, 1) := by decide +kernel
theorem dX0_isCell_26 : decode cX0_isCell 26 = .ok (.getfield 18, 3) := by decide +kernel
theorem dX0_isCell_29 : decode cX0_isCell 29 = .ok (.if_icmp .ge 7, 3) := by decide +kernel
theorem dX0_isCell_32 : decode cX0_isCell 32 = .ok (.iconst 1, 1) := by decide +kernel
theorem dX0_isCell_33 : decode cX0_isCell 33 = .ok (.goto 4, 3) := by decide +kernel
theorem dX0_isCell_36 : decode cX0_isCell 36 = .ok (.iconst 0, 1) := by decide +kernel
theorem dX0_isCell_37 : decode cX0_isCell 37 = .ok (.ireturn, 1) := by decide +kernel
theorem dX0_isOwner_0 : decode cX0_isOwner 0 = .ok (.iload_n 1, 1) := by decide +kernel
theorem dX0_isOwner_1 : decode cX0_isOwner 1 = .ok (.ifCond .lt 18, 3) := by decide +kernel
theorem dX0_isOwner_4 : decode cX0_isOwner 4 = .ok (.iload_n 1, 1) := by decide +kernel
theorem dX0_isOwner_5 : decode cX0_isOwner 5 = .ok (.aload_n 0, 1) := by decide +kernel
theorem dX0_isOwner_6 : decode cX0_isOwner 6 = .ok (.getfield 46, 3) := by decide +kernel
theorem dX0_isOwner_9 : decode cX0_isOwner 9 = .ok (.getfield 79, 3) := by decide +kernel
theorem dX0_isOwner_12 : decode cX0_isOwner 12 = .ok (.if_icmp .ge 7, 3) := by decide +kernel
theorem dX0_isOwner_15 : decode cX0_isOwner 15 = .ok (.iconst 1, 1) := by decide +kernel
theorem dX0_isOwner_16 : decode cX0_isOwner 16 = .ok (.goto 4, 3) := by decide +kernel
theorem dX0_isOwner_19 : decode cX0_isOwner 19 = .ok (.iconst 0, 1) := by decide +kernel
theorem dX0_isOwner_20 : decode cX0_isOwner 20 = .ok (.ireturn, 1) := by decide +kernel
theorem dX0_dirAt_0 : decode cX0_dirAt 0 = .ok (.iload_n 1, 1) := by decide +kernel
theorem dX0_dirAt_1 : decode cX0_dirAt 1 = .ok (.ifCond .lt 18, 3) := by decide +kernel
theorem dX0_dirAt_4 : decode cX0_dirAt 4 = .ok (.iload_n 1, 1) := by decide +kernel
theorem dX0_dirAt_5 : decode cX0_dirAt 5 = .ok (.bipush 100, 2) := by decide +kernel
theorem dX0_dirAt_7 : decode cX0_dirAt 7 = .ok (.if_icmp .ge 12, 3) := by decide +kernel
theorem dX0_dirAt_10 : decode cX0_dirAt 10 = .ok (.aload_n 0, 1) := by decide +kernel
theorem dX0_dirAt_11 : decode cX0_dirAt 11 = .ok (.getfield 54, 3) := by decide +kernel
theorem dX0_dirAt_14 : decode cX0_dirAt 14 = .ok (.iload_n 1, 1) := by decide +kernel
theorem dX0_dirAt_15 : decode cX0_dirAt 15 = .ok (.iaload, 1) := by decide +kernel
theorem dX0_dirAt_16 : decode cX0_dirAt 16 = .ok (.goto 4, 3) := by decide +kernel
theorem dX0_dirAt_19 : decode cX0_dirAt 19 = .ok (.iconst 0, 1) := by decide +kernel
theorem dX0_dirAt_20 : decode cX0_dirAt 20 = .ok (.istore_n 3, 1) := by decide +kernel
theorem dX0_dirAt_21 : decode cX0_dirAt 21 = .ok (.iload_n 2, 1) := by decide +kernel
theorem dX0_dirAt_22 : decode cX0_dirAt 22 = .ok (.iload_n 3, 1) := by decide +kernel
theorem dX0_dirAt_23 : decode cX0_dirAt 23 = .ok (.iadd, 1) := by decide +kernel
theorem dX0_dirAt_24 : decode cX0_dirAt 24 = .ok (.bipush 7, 2) := by decide +kernel
theorem dX0_dirAt_26 : decode cX0_dirAt 26 = .ok (.iand, 1) := by decide +kernel
theorem dX0_dirAt_27 : decode cX0_dirAt 27 = .ok (.ireturn, 1) := by decide +kernel
theorem dX0_forceAt_0 : decode cX0_forceAt 0 = .ok (.iload 4, 2) := by decide +kernel
theorem dX0_forceAt_2 : decode cX0_forceAt 2 = .ok (.istore 5, 2) := by decide +kernel
theorem dX0_forceAt_4 : decode cX0_forceAt 4 = .ok (.getstatic 82, 3) := by decide +kernel
theorem dX0_forceAt_7 : decode cX0_forceAt 7 = .ok (.iload_n 3, 1) := by decide +kernel
theorem dX0_forceAt_8 : decode cX0_forceAt 8 = .ok (.bipush 7, 2) := by decide +kernel
theorem dX0_forceAt_10 : decode cX0_forceAt 10 = .ok (.iand, 1) := by decide +kernel
theorem dX0_forceAt_11 : decode cX0_forceAt 11 = .ok (.iaload, 1) := by decide +kernel
theorem dX0_forceAt_12 : decode cX0_forceAt 12 = .ok (.istore 6, 2) := by decide +kernel
theorem dX0_forceAt_14 : decode cX0_forceAt 14 = .ok (.getstatic 85, 3) := by decide +kernel
theorem dX0_forceAt_17 : decode cX0_forceAt 17 = .ok (.iload_n 3, 1) := by decide +kernel
theorem dX0_forceAt_18 : decode cX0_forceAt 18 = .ok (.bipush 7, 2) := by decide +kernel
theorem dX0_forceAt_20 : decode cX0_forceAt 20 = .ok (.iand, 1) := by decide +kernel
theorem dX0_forceAt_21 : decode cX0_forceAt 21 = .ok (.iaload, 1) := by decide +kernel
theorem dX0_forceAt_22 : decode cX0_forceAt 22 = .ok (.istore 7, 2) := by decide +kernel
theorem dX0_forceAt_24 : decode cX0_forceAt 24 = .ok (.iload_n 2, 1) := by decide +kernel
theorem dX0_forceAt_25 : decode cX0_forceAt 25 = .ok (.bipush 10, 2) := by decide +kernel
theorem dX0_forceAt_27 : decode cX0_forceAt 27 = .ok (.irem, 1) := by decide +kernel
theorem dX0_forceAt_28 : decode cX0_forceAt 28 = .ok (.istore 8, 2) := by decide +kernel
theorem dX0_forceAt_30 : decode cX0_forceAt 30 = .ok (.iload_n 2, 1) := by decide +kernel
theorem dX0_forceAt_31 : decode cX0_forceAt 31 = .ok (.bipush 10, 2) := by decide +kernel
theorem dX0_forceAt_33 : decode cX0_forceAt 33 = .ok (.idiv, 1) := by decide +kernel
theorem dX0_forceAt_34 : decode cX0_forceAt 34 = .ok (.istore 9, 2) := by decide +kernel
theorem dX0_forceAt_36 : decode cX0_forceAt 36 = .ok (.iconst 0, 1) := by decide +kernel
theorem dX0_forceAt_37 : decode cX0_forceAt 37 = .ok (.istore 10, 2) := by decide +kernel
theorem dX0_forceAt_39 : decode cX0_forceAt 39 = .ok (.iload 10, 2) := by decide +kernel
theorem dX0_forceAt_41 : decode cX0_forceAt 41 = .ok (.iconst 3, 1) := by decide +kernel
theorem dX0_forceAt_42 : decode cX0_forceAt 42 = .ok (.if_icmp .ge 93, 3) := by decide +kernel
theorem dX0_forceAt_45 : decode cX0_forceAt 45 = .ok (.iload 8, 2) := by decide +kernel
theorem dX0_forceAt_47 : decode cX0_forceAt 47 = .ok (.iload 6, 2) := by decide +kernel
theorem dX0_forceAt_49 : decode cX0_forceAt 49 = .ok (.iadd, 1) := by decide +kernel
theorem dX0_forceAt_50 : decode cX0_forceAt 50 = .ok (.istore 8, 2) := by decide +kernel
theorem dX0_forceAt_52 : decode cX0_forceAt 52 = .ok (.iload 9, 2) := by decide +kernel
theorem dX0_forceAt_54 : decode cX0_forceAt 54 = .ok (.iload 7, 2) := by decide +kernel
theorem dX0_forceAt_56 : decode cX0_forceAt 56 = .ok (.iadd, 1) := by decide +kernel
theorem dX0_forceAt_57 : decode cX0_forceAt 57 = .ok (.istore 9, 2) := by decide +kernel
theorem dX0_forceAt_59 : decode cX0_forceAt 59 = .ok (.iload 8, 2) := by decide +kernel
theorem dX0_forceAt_61 : decode cX0_forceAt 61 = .ok (.ifCond .lt 74, 3) := by decide +kernel
theorem dX0_forceAt_64 : decode cX0_forceAt 64 = .ok (.iload 8, 2) := by decide +kernel
theorem dX0_forceAt_66 : decode cX0_forceAt 66 = .ok (.aload_n 0, 1) := by decide +kernel
theorem dX0_forceAt_67 : decode cX0_forceAt 67 = .ok (.getfield 15, 3) := by decide +kernel
theorem dX0_forceAt_70 : decode cX0_forceAt 70 = .ok (.if_icmp .ge 65, 3) := by decide +kernel
theorem dX0_forceAt_73 : decode cX0_forceAt 73 = .ok (.iload 9, 2) := by decide +kernel
theorem dX0_forceAt_75 : decode cX0_forceAt 75 = .ok (.ifCond .lt 60, 3) := by decide +kernel
theorem dX0_forceAt_78 : decode cX0_forceAt 78 = .ok (.iload 9, 2) := by decide +kernel
theorem dX0_forceAt_80 : decode cX0_forceAt 80 = .ok (.aload_n 0, 1) := by decide +kernel
theorem dX0_forceAt_81 : decode cX0_forceAt 81 = .ok (.getfield 18, 3) := by decide +kernel
theorem dX0_forceAt_84 : decode cX0_forceAt 84 = .ok (.if_icmp .lt 6, 3) := by decide +kernel
theorem dX0_forceAt_87 : decode cX0_forceAt 87 = .ok (.goto 48, 3) := by decide +kernel
theorem dX0_forceAt_90 : decode cX0_forceAt 90 = .ok (.aload_n 1, 1) := by decide +kernel
theorem dX0_forceAt_91 : decode cX0_forceAt 91 = .ok (.iload 9, 2) := by decide +kernel
theorem dX0_forceAt_93 : decode cX0_forceAt 93 = .ok (.bipush 10, 2) := by decide +kernel
theorem dX0_forceAt_95 : decode cX0_forceAt 95 = .ok (.imul, 1) := by decide +kernel
theorem dX0_forceAt_96 : decode cX0_forceAt 96 = .ok (.iload 8, 2) := by decide +kernel
theorem dX0_forceAt_98 : decode cX0_forceAt 98 = .ok (.iadd, 1) := by decide +kernel
theorem dX0_forceAt_99 : decode cX0_forceAt 99 = .ok (.iaload, 1) := by decide +kernel
theorem dX0_forceAt_100 : decode cX0_forceAt 100 = .ok (.iconst 4, 1) := by decide +kernel
theorem dX0_forceAt_101 : decode cX0_forceAt 101 = .ok (.ishr, 1) := by decide +kernel
theorem dX0_forceAt_102 : decode cX0_forceAt 102 = .ok (.iconst 4, 1) := by decide +kernel
theorem dX0_forceAt_103 : decode cX0_forceAt 103 = .ok (.ishl, 1) := by decide +kernel
theorem dX0_forceAt_104 : decode cX0_forceAt 104 = .ok (.istore 11, 2) := by decide +kernel
theorem dX0_forceAt_106 : decode cX0_forceAt 106 = .ok (.iload 11, 2) := by decide +kernel
theorem dX0_forceAt_108 : decode cX0_forceAt 108 = .ok (.bipush 32, 2) := by decide +kernel
theorem dX0_forceAt_110 : decode cX0_forceAt 110 = .ok (.if_icmp .ne 9, 3) := by decide +kernel
theorem dX0_forceAt_113 : decode cX0_forceAt 113 = .ok (.iinc 5 (-2), 3) := by decide +kernel
theorem dX0_forceAt_116 : decode cX0_forceAt 116 = .ok (.goto 13, 3) := by decide +kernel
theorem dX0_forceAt_119 : decode cX0_forceAt 119 = .ok (.iload 11, 2) := by decide +kernel
theorem dX0_forceAt_121 : decode cX0_forceAt 121 = .ok (.bipush 48, 2) := by decide +kernel
theorem dX0_forceAt_123 : decode cX0_forceAt 123 = .ok (.if_icmp .ne 6, 3) := by decide +kernel
theorem dX0_forceAt_126 : decode cX0_forceAt 126 = .ok (.iinc 5 (-3), 3) := by decide +kernel
theorem dX0_forceAt_129 : decode cX0_forceAt 129 = .ok (.iinc 10 1, 3) := by decide +kernel
theorem dX0_forceAt_132 : decode cX0_forceAt 132 = .ok (.goto (-93), 3) := by decide +kernel
theorem dX0_forceAt_135 : decode cX0_forceAt 135 = .ok (.iload 5, 2) := by decide +kernel
theorem dX0_forceAt_137 : decode cX0_forceAt 137 = .ok (.iconst 0, 1) := by decide +kernel
theorem dX0_forceAt_138 : decode cX0_forceAt 138 = .ok (.invokestatic 88, 3) := by decide +kernel
theorem dX0_forceAt_141 : decode cX0_forceAt 141 = .ok (.ireturn, 1) := by decide +kernel
theorem dX0_read_0 : decode cX0_read 0 = .ok (.aload_n 0, 1) := by decide +kernel
theorem dX0_read_1 : decode cX0_read 1 = .ok (.invokevirtual 94, 3) := by decide +kernel
theorem dX0_read_4 : decode cX0_read 4 = .ok (.iconst 0, 1) := by decide +kernel
theorem dX0_read_5 : decode cX0_read 5 = .ok (.istore_n 2, 1) := by decide +kernel
theorem dX0_read_6 : decode cX0_read 6 = .ok (.iload_n 2, 1) := by decide +kernel
theorem dX0_read_7 : decode cX0_read 7 = .ok (.sipush 900, 3) := by decide +kernel
theorem dX0_read_10 : decode cX0_read 10 = .ok (.if_icmp .ge 37, 3) := by decide +kernel
theorem dX0_read_13 : decode cX0_read 13 = .ok (.aload_n 1, 1) := by decide +kernel
theorem dX0_read_14 : decode cX0_read 14 = .ok (.invokevirtual 95, 3) := by decide +kernel
theorem dX0_read_17 : decode cX0_read 17 = .ok (.ifCond .eq 30, 3) := by decide +kernel
theorem dX0_read_20 : decode cX0_read 20 = .ok (.aload_n 0, 1) := by decide +kernel
theorem dX0_read_21 : decode cX0_read 21 = .ok (.aload_n 1, 1) := by decide +kernel
theorem dX0_read_22 : decode cX0_read 22 = .ok (.invokevirtual 101, 3) := by decide +kernel
theorem dX0_read_25 : decode cX0_read 25 = .ok (.aload_n 1, 1) := by decide +kernel
theorem dX0_read_26 : decode cX0_read 26 = .ok (.bipush 59, 2) := by decide +kernel
theorem dX0_read_28 : decode cX0_read 28 = .ok (.invokevirtual 105, 3) := by decide +kernel
theorem dX0_read_31 : decode cX0_read 31 = .ok (.aload_n 0, 1) := by decide +kernel
theorem dX0_read_32 : decode cX0_read 32 = .ok (.dup, 1) := by decide +kernel
theorem dX0_read_33 : decode cX0_read 33 = .ok (.getfield 9, 3) := by decide +kernel
theorem dX0_read_36 : decode cX0_read 36 = .ok (.iconst 1, 1) := by decide +kernel
theorem dX0_read_37 : decode cX0_read 37 = .ok (.iadd, 1) := by decide +kernel
theorem dX0_read_38 : decode cX0_read 38 = .ok (.putfield 9, 3) := by decide +kernel
theorem dX0_read_41 : decode cX0_read 41 = .ok (.iinc 2 1, 3) := by decide +kernel
theorem dX0_read_44 : decode cX0_read 44 = .ok (.goto (-38), 3) := by decide +kernel
theorem dX0_read_47 : decode cX0_read 47 = .ok (.aload_n 0, 1) := by decide +kernel
theorem dX0_read_48 : decode cX0_read 48 = .ok (.getfield 46, 3) := by decide +kernel
theorem dX0_read_51 : decode cX0_read 51 = .ok (.invokevirtual 109, 3) := by decide +kernel
theorem dX0_read_54 : decode cX0_read 54 = .ok (.return_, 1) := by decide +kernel
theorem dX0_readLine_0 : decode cX0_readLine 0 = .ok (.aload_n 1, 1) := by decide +kernel
theorem dX0_readLine_1 : decode cX0_readLine 1 = .ok (.iconst 0, 1) := by decide +kernel
theorem dX0_readLine_2 : decode cX0_readLine 2 = .ok (.bipush 9, 2) := by decide +kernel
theorem dX0_readLine_4 : decode cX0_readLine 4 = .ok (.invokevirtual 112, 3) := by decide +kernel
theorem dX0_readLine_7 : decode cX0_readLine 7 = .ok (.tableswitch 133 0 9 #[53, 61, 69, 77, 85, 93, 101, 109, 117, 125], 53) := by decide +kernel
theorem dX0_readLine_60 : decode cX0_readLine 60 = .ok (.aload_n 0, 1) := by decide +kernel
theorem dX0_readLine_61 : decode cX0_readLine 61 = .ok (.aload_n 1, 1) := by decide +kernel
theorem dX0_readLine_62 : decode cX0_readLine 62 = .ok (.invokevirtual 115, 3) := by decide +kernel
theorem dX0_readLine_65 : decode cX0_readLine 65 = .ok (.goto 75, 3) := by decide +kernel
theorem dX0_readLine_68 : decode cX0_readLine 68 = .ok (.aload_n 0, 1) := by decide +kernel
theorem dX0_readLine_69 : decode cX0_readLine 69 = .ok (.aload_n 1, 1) := by decide +kernel
theorem dX0_readLine_70 : decode cX0_readLine 70 = .ok (.invokevirtual 118, 3) := by decide +kernel
theorem dX0_readLine_73 : decode cX0_readLine 73 = .ok (.goto 67, 3) := by decide +kernel
theorem dX0_readLine_76 : decode cX0_readLine 76 = .ok (.aload_n 0, 1) := by decide +kernel
theorem dX0_readLine_77 : decode cX0_readLine 77 = .ok (.aload_n 1, 1) := by decide +kernel
theorem dX0_readLine_78 : decode cX0_readLine 78 = .ok (.invokevirtual 121, 3) := by decide +kernel
theorem dX0_readLine_81 : decode cX0_readLine 81 = .ok (.goto 59, 3) := by decide +kernel
theorem dX0_readLine_84 : decode cX0_readLine 84 = .ok (.aload_n 0, 1) := by decide +kernel
theorem dX0_readLine_85 : decode cX0_readLine 85 = .ok (.aload_n 1, 1) := by decide +kernel
theorem dX0_readLine_86 : decode cX0_readLine 86 = .ok (.invokevirtual 124, 3) := by decide +kernel
theorem dX0_readLine_89 : decode cX0_readLine 89 = .ok (.goto 51, 3) := by decide +kernel
theorem dX0_readLine_92 : decode cX0_readLine 92 = .ok (.aload_n 0, 1) := by decide +kernel
theorem dX0_readLine_93 : decode cX0_readLine 93 = .ok (.aload_n 1, 1) := by decide +kernel
theorem dX0_readLine_94 : decode cX0_readLine 94 = .ok (.invokevirtual 127, 3) := by decide +kernel
theorem dX0_readLine_97 : decode cX0_readLine 97 = .ok (.goto 43, 3) := by decide +kernel
theorem dX0_readLine_100 : decode cX0_readLine 100 = .ok (.aload_n 0, 1) := by decide +kernel
theorem dX0_readLine_101 : decode cX0_readLine 101 = .ok (.aload_n 1, 1) := by decide +kernel
theorem dX0_readLine_102 : decode cX0_readLine 102 = .ok (.invokevirtual 130, 3) := by decide +kernel
theorem dX0_readLine_105 : decode cX0_readLine 105 = .ok (.goto 35, 3) := by decide +kernel
theorem dX0_readLine_108 : decode cX0_readLine 108 = .ok (.aload_n 0, 1) := by decide +kernel
theorem dX0_readLine_109 : decode cX0_readLine 109 = .ok (.aload_n 1, 1) := by decide +kernel
theorem dX0_readLine_110 : decode cX0_readLine 110 = .ok (.invokevirtual 133, 3) := by decide +kernel
theorem dX0_readLine_113 : decode cX0_readLine 113 = .ok (.goto 27, 3) := by decide +kernel
theorem dX0_readLine_116 : decode cX0_readLine 116 = .ok (.aload_n 0, 1) := by decide +kernel
theorem dX0_readLine_117 : decode cX0_readLine 117 = .ok (.aload_n 1, 1) := by decide +kernel
theorem dX0_readLine_118 : decode cX0_readLine 118 = .ok (.invokevirtual 136, 3) := by decide +kernel
theorem dX0_readLine_121 : decode cX0_readLine 121 = .ok (.goto 19, 3) := by decide +kernel
theorem dX0_readLine_124 : decode cX0_readLine 124 = .ok (.aload_n 0, 1) := by decide +kernel
theorem dX0_readLine_125 : decode cX0_readLine 125 = .ok (.aload_n 1, 1) := by decide +kernel
theorem dX0_readLine_126 : decode cX0_readLine 126 = .ok (.invokevirtual 139, 3) := by decide +kernel
theorem dX0_readLine_129 : decode cX0_readLine 129 = .ok (.goto 11, 3) := by decide +kernel
theorem dX0_readLine_132 : decode cX0_readLine 132 = .ok (.aload_n 0, 1) := by decide +kernel
theorem dX0_readLine_133 : decode cX0_readLine 133 = .ok (.aload_n 1, 1) := by decide +kernel
theorem dX0_readLine_134 : decode cX0_readLine 134 = .ok (.invokevirtual 142, 3) := by decide +kernel
theorem dX0_readLine_137 : decode cX0_readLine 137 = .ok (.goto 3, 3) := by decide +kernel
theorem dX0_readLine_140 : decode cX0_readLine 140 = .ok (.return_, 1) := by decide +kernel
theorem dX0_takeCell_0 : decode cX0_takeCell 0 = .ok (.aload_n 1, 1) := by decide +kernel
theorem dX0_takeCell_1 : decode cX0_takeCell 1 = .ok (.iconst 0, 1) := by decide +kernel
theorem dX0_takeCell_2 : decode cX0_takeCell 2 = .ok (.aload_n 0, 1) := by decide +kernel
theorem dX0_takeCell_3 : decode cX0_takeCell 3 = .ok (.getfield 15, 3) := by decide +kernel
theorem dX0_takeCell_6 : decode cX0_takeCell 6 = .ok (.iconst 1, 1) := by decide +kernel
theorem dX0_takeCell_7 : decode cX0_takeCell 7 = .ok (.isub, 1) := by decide +kernel
theorem dX0_takeCell_8 : decode cX0_takeCell 8 = .ok (.invokevirtual 145, 3) := by decide +kernel
theorem dX0_takeCell_11 : decode cX0_takeCell 11 = .ok (.istore_n 2, 1) := by decide +kernel
theorem dX0_takeCell_12 : decode cX0_takeCell 12 = .ok (.aload_n 1, 1) := by decide +kernel
theorem dX0_takeCell_13 : decode cX0_takeCell 13 = .ok (.iconst 0, 1) := by decide +kernel
theorem dX0_takeCell_14 : decode cX0_takeCell 14 = .ok (.aload_n 0, 1) := by decide +kernel
theorem dX0_takeCell_15 : decode cX0_takeCell 15 = .ok (.getfield 18, 3) := by decide +kernel
theorem dX0_takeCell_18 : decode cX0_takeCell 18 = .ok (.iconst 1, 1) := by decide +kernel
theorem dX0_takeCell_19 : decode cX0_takeCell 19 = .ok (.isub, 1) := by decide +kernel
theorem dX0_takeCell_20 : decode cX0_takeCell 20 = .ok (.invokevirtual 145, 3) := by decide +kernel
theorem dX0_takeCell_23 : decode cX0_takeCell 23 = .ok (.istore_n 3, 1) := by decide +kernel
theorem dX0_takeCell_24 : decode cX0_takeCell 24 = .ok (.aload_n 1, 1) := by decide +kernel
theorem dX0_takeCell_25 : decode cX0_takeCell 25 = .ok (.invokevirtual 148, 3) := by decide +kernel
theorem dX0_takeCell_28 : decode cX0_takeCell 28 = .ok (.ifCond .eq 12, 3) := by decide +kernel
theorem dX0_takeCell_31 : decode cX0_takeCell 31 = .ok (.iload_n 3, 1) := by decide +kernel
theorem dX0_takeCell_32 : decode cX0_takeCell 32 = .ok (.bipush 10, 2) := by decide +kernel
theorem dX0_takeCell_34 : decode cX0_takeCell 34 = .ok (.imul, 1) := by decide +kernel
theorem dX0_takeCell_35 : decode cX0_takeCell 35 = .ok (.iload_n 2, 1) := by decide +kernel
theorem dX0_takeCell_36 : decode cX0_takeCell 36 = .ok (.iadd, 1) := by decide +kernel
theorem dX0_takeCell_37 : decode cX0_takeCell 37 = .ok (.goto 4, 3) := by decide +kernel
theorem dX0_takeCell_40 : decode cX0_takeCell 40 = .ok (.iconst (-1), 1) := by decide +kernel
theorem dX0_takeCell_41 : decode cX0_takeCell 41 = .ok (.ireturn, 1) := by decide +kernel
theorem dX0_refuseIfTaken_0 : decode cX0_refuseIfTaken 0 = .ok (.iload_n 2, 1) := by decide +kernel
theorem dX0_refuseIfTaken_1 : decode cX0_refuseIfTaken 1 = .ok (.ifCond .lt 20, 3) := by decide +kernel
theorem dX0_refuseIfTaken_4 : decode cX0_refuseIfTaken 4 = .ok (.iload_n 2, 1) := by decide +kernel
theorem dX0_refuseIfTaken_5 : decode cX0_refuseIfTaken 5 = .ok (.aload_n 1, 1) := by decide +kernel
theorem dX0_refuseIfTaken_6 : decode cX0_refuseIfTaken 6 = .ok (.arraylength, 1) := by decide +kernel
theorem dX0_refuseIfTaken_7 : decode cX0_refuseIfTaken 7 = .ok (.if_icmp .ge 14, 3) := by decide +kernel
theorem dX0_refuseIfTaken_10 : decode cX0_refuseIfTaken 10 = .ok (.aload_n 1, 1) := by decide +kernel
theorem dX0_refuseIfTaken_11 : decode cX0_refuseIfTaken 11 = .ok (.iload_n 2, 1) := by decide +kernel
theorem dX0_refuseIfTaken_12 : decode cX0_refuseIfTaken 12 = .ok (.iaload, 1) := by decide +kernel
theorem dX0_refuseIfTaken_13 : decode cX0_refuseIfTaken 13 = .ok (.ifCond .eq 8, 3) := by decide +kernel
theorem dX0_refuseIfTaken_16 : decode cX0_refuseIfTaken 16 = .ok (.aload_n 0, 1) := by decide +kernel
theorem dX0_refuseIfTaken_17 : decode cX0_refuseIfTaken 17 = .ok (.iconst 3, 1) := by decide +kernel
theorem dX0_refuseIfTaken_18 : decode cX0_refuseIfTaken 18 = .ok (.invokevirtual 151, 3) := by decide +kernel
theorem dX0_refuseIfTaken_21 : decode cX0_refuseIfTaken 21 = .ok (.return_, 1) := by decide +kernel
theorem dX0_readYard_0 : decode cX0_readYard 0 = .ok (.aload_n 0, 1) := by decide +kernel
theorem dX0_readYard_1 : decode cX0_readYard 1 = .ok (.getfield 15, 3) := by decide +kernel
theorem dX0_readYard_4 : decode cX0_readYard 4 = .ok (.ifCond .eq 8, 3) := by decide +kernel
theorem dX0_readYard_7 : decode cX0_readYard 7 = .ok (.aload_n 1, 1) := by decide +kernel
theorem dX0_readYard_8 : decode cX0_readYard 8 = .ok (.iconst 3, 1) := by decide +kernel
theorem dX0_readYard_9 : decode cX0_readYard 9 = .ok (.invokevirtual 151, 3) := by decide +kernel
theorem dX0_readYard_12 : decode cX0_readYard 12 = .ok (.aload_n 1, 1) := by decide +kernel
theorem dX0_readYard_13 : decode cX0_readYard 13 = .ok (.iconst 2, 1) := by decide +kernel
theorem dX0_readYard_14 : decode cX0_readYard 14 = .ok (.bipush 10, 2) := by decide +kernel
theorem dX0_readYard_16 : decode cX0_readYard 16 = .ok (.invokevirtual 145, 3) := by decide +kernel
theorem dX0_readYard_19 : decode cX0_readYard 19 = .ok (.istore_n 2, 1) := by decide +kernel
theorem dX0_readYard_20 : decode cX0_readYard 20 = .ok (.aload_n 1, 1) := by decide +kernel
theorem dX0_readYard_21 : decode cX0_readYard 21 = .ok (.iconst 2, 1) := by decide +kernel
theorem dX0_readYard_22 : decode cX0_readYard 22 = .ok (.bipush 10, 2) := by decide +kernel
theorem dX0_readYard_24 : decode cX0_readYard 24 = .ok (.invokevirtual 145, 3) := by decide +kernel
theorem dX0_readYard_27 : decode cX0_readYard 27 = .ok (.istore_n 3, 1) := by decide +kernel
theorem dX0_readYard_28 : decode cX0_readYard 28 = .ok (.aload_n 1, 1) := by decide +kernel
theorem dX0_readYard_29 : decode cX0_readYard 29 = .ok (.invokevirtual 148, 3) := by decide +kernel
theorem dX0_readYard_32 : decode cX0_readYard 32 = .ok (.ifCond .eq 13, 3) := by decide +kernel
theorem dX0_readYard_35 : decode cX0_readYard 35 = .ok (.aload_n 0, 1) := by decide +kernel
theorem dX0_readYard_36 : decode cX0_readYard 36 = .ok (.iload_n 2, 1) := by decide +kernel
theorem dX0_readYard_37 : decode cX0_readYard 37 = .ok (.putfield 15, 3) := by decide +kernel
theorem dX0_readYard_40 : decode cX0_readYard 40 = .ok (.aload_n 0, 1) := by decide +kernel
theorem dX0_readYard_41 : decode cX0_readYard 41 = .ok (.iload_n 3, 1) := by decide +kernel
theorem dX0_readYard_42 : decode cX0_readYard 42 = .ok (.putfield 18, 3) := by decide +kernel
theorem dX0_readYard_45 : decode cX0_readYard 45 = .ok (.return_, 1) := by decide +kernel
theorem dX0_readOwner_0 : decode cX0_readOwner 0 = .ok (.aload_n 0, 1) := by decide +kernel
theorem dX0_readOwner_1 : decode cX0_readOwner 1 = .ok (.getfield 46, 3) := by decide +kernel
theorem dX0_readOwner_4 : decode cX0_readOwner 4 = .ok (.getfield 79, 3) := by decide +kernel
theorem dX0_readOwner_7 : decode cX0_readOwner 7 = .ok (.bipush 8, 2) := by decide +kernel
theorem dX0_readOwner_9 : decode cX0_readOwner 9 = .ok (.if_icmp .lt 8, 3) := by decide +kernel
theorem dX0_readOwner_12 : decode cX0_readOwner 12 = .ok (.aload_n 1, 1) := by decide +kernel
theorem dX0_readOwner_13 : decode cX0_readOwner 13 = .ok (.iconst 4, 1) := by decide +kernel
theorem dX0_readOwner_14 : decode cX0_readOwner 14 = .ok (.invokevirtual 151, 3) := by decide +kernel
theorem dX0_readOwner_17 : decode cX0_readOwner 17 = .ok (.aload_n 1, 1) := by decide +kernel
theorem dX0_readOwner_18 : decode cX0_readOwner 18 = .ok (.invokevirtual 155, 3) := by decide +kernel
theorem dX0_readOwner_21 : decode cX0_readOwner 21 = .ok (.istore_n 2, 1) := by decide +kernel
theorem dX0_readOwner_22 : decode cX0_readOwner 22 = .ok (.aload_n 0, 1) := by decide +kernel
theorem dX0_readOwner_23 : decode cX0_readOwner 23 = .ok (.getfield 46, 3) := by decide +kernel
theorem dX0_readOwner_26 : decode cX0_readOwner 26 = .ok (.iload_n 2, 1) := by decide +kernel
theorem dX0_readOwner_27 : decode cX0_readOwner 27 = .ok (.invokevirtual 159, 3) := by decide +kernel
theorem dX0_readOwner_30 : decode cX0_readOwner 30 = .ok (.iconst (-1), 1) := by decide +kernel
theorem dX0_readOwner_31 : decode cX0_readOwner 31 = .ok (.if_icmp .eq 8, 3) := by decide +kernel
theorem dX0_readOwner_34 : decode cX0_readOwner 34 = .ok (.aload_n 1, 1) := by decide +kernel
theorem dX0_readOwner_35 : decode cX0_readOwner 35 = .ok (.iconst 3, 1) := by decide +kernel
theorem dX0_readOwner_36 : decode cX0_readOwner 36 = .ok (.invokevirtual 151, 3) := by decide +kernel
theorem dX0_readOwner_39 : decode cX0_readOwner 39 = .ok (.aload_n 0, 1) := by decide +kernel
theorem dX0_readOwner_40 : decode cX0_readOwner 40 = .ok (.aload_n 1, 1) := by decide +kernel
theorem dX0_readOwner_41 : decode cX0_readOwner 41 = .ok (.invokevirtual 163, 3) := by decide +kernel
theorem dX0_readOwner_44 : decode cX0_readOwner 44 = .ok (.istore_n 3, 1) := by decide +kernel
theorem dX0_readOwner_45 : decode cX0_readOwner 45 = .ok (.aload_n 1, 1) := by decide +kernel
theorem dX0_readOwner_46 : decode cX0_readOwner 46 = .ok (.aload_n 0, 1) := by decide +kernel
theorem dX0_readOwner_47 : decode cX0_readOwner 47 = .ok (.getfield 50, 3) := by decide +kernel
theorem dX0_readOwner_50 : decode cX0_readOwner 50 = .ok (.iload_n 3, 1) := by decide +kernel
theorem dX0_readOwner_51 : decode cX0_readOwner 51 = .ok (.invokestatic 167, 3) := by decide +kernel
theorem dX0_readOwner_54 : decode cX0_readOwner 54 = .ok (.aload_n 1, 1) := by decide +kernel
theorem dX0_readOwner_55 : decode cX0_readOwner 55 = .ok (.iconst 0, 1) := by decide +kernel
theorem dX0_readOwner_56 : decode cX0_readOwner 56 = .ok (.sipush 999, 3) := by decide +kernel
theorem dX0_readOwner_59 : decode cX0_readOwner 59 = .ok (.invokevirtual 145, 3) := by decide +kernel
theorem dX0_readOwner_62 : decode cX0_readOwner 62 = .ok (.istore 4, 2) := by decide +kernel
theorem dX0_readOwner_64 : decode cX0_readOwner 64 = .ok (.aload_n 1, 1) := by decide +kernel
theorem dX0_readOwner_65 : decode cX0_readOwner 65 = .ok (.iconst 1, 1) := by decide +kernel
theorem dX0_readOwner_66 : decode cX0_readOwner 66 = .ok (.bipush 99, 2) := by decide +kernel
theorem dX0_readOwner_68 : decode cX0_readOwner 68 = .ok (.invokevirtual 145, 3) := by decide +kernel
theorem dX0_readOwner_71 : decode cX0_readOwner 71 = .ok (.istore 5, 2) := by decide +kernel
theorem dX0_readOwner_73 : decode cX0_readOwner 73 = .ok (.aload_n 1, 1) := by decide +kernel
theorem dX0_readOwner_74 : decode cX0_readOwner 74 = .ok (.iconst 0, 1) := by decide +kernel
theorem dX0_readOwner_75 : decode cX0_readOwner 75 = .ok (.bipush 9, 2) := by decide +kernel
theorem dX0_readOwner_77 : decode cX0_readOwner 77 = .ok (.invokevirtual 145, 3) := by decide +kernel
theorem dX0_readOwner_80 : decode cX0_readOwner 80 = .ok (.istore 6, 2) := by decide +kernel
theorem dX0_readOwner_82 : decode cX0_readOwner 82 = .ok (.aload_n 0, 1) := by decide +kernel
theorem dX0_readOwner_83 : decode cX0_readOwner 83 = .ok (.getfield 46, 3) := by decide +kernel
theorem dX0_readOwner_86 : decode cX0_readOwner 86 = .ok (.getfield 79, 3) := by decide +kernel
theorem dX0_readOwner_89 : decode cX0_readOwner 89 = .ok (.istore 7, 2) := by decide +kernel
theorem dX0_readOwner_91 : decode cX0_readOwner 91 = .ok (.aload_n 1, 1) := by decide +kernel
theorem dX0_readOwner_92 : decode cX0_readOwner 92 = .ok (.invokevirtual 148, 3) := by decide +kernel
theorem dX0_readOwner_95 : decode cX0_readOwner 95 = .ok (.ifCond .eq 102, 3) := by decide +kernel
theorem dX0_readOwner_98 : decode cX0_readOwner 98 = .ok (.iload 7, 2) := by decide +kernel
theorem dX0_readOwner_100 : decode cX0_readOwner 100 = .ok (.bipush 8, 2) := by decide +kernel
theorem dX0_readOwner_102 : decode cX0_readOwner 102 = .ok (.if_icmp .ge 95, 3) := by decide +kernel
theorem dX0_readOwner_105 : decode cX0_readOwner 105 = .ok (.iload_n 3, 1) := by decide +kernel
theorem dX0_readOwner_106 : decode cX0_readOwner 106 = .ok (.ifCond .lt 91, 3) := by decide +kernel
theorem dX0_readOwner_109 : decode cX0_readOwner 109 = .ok (.iload_n 3, 1) := by decide +kernel
theorem dX0_readOwner_110 : decode cX0_readOwner 110 = .ok (.bipush 100, 2) := by decide +kernel
theorem dX0_readOwner_112 : decode cX0_readOwner 112 = .ok (.if_icmp .ge 85, 3) := by decide +kernel
theorem dX0_readOwner_115 : decode cX0_readOwner 115 = .ok (.aload_n 0, 1) := by decide +kernel
theorem dX0_readOwner_116 : decode cX0_readOwner 116 = .ok (.getfield 46, 3) := by decide +kernel
theorem dX0_readOwner_119 : decode cX0_readOwner 119 = .ok (.getfield 171, 3) := by decide +kernel
theorem dX0_readOwner_122 : decode cX0_readOwner 122 = .ok (.iload 7, 2) := by decide +kernel
theorem dX0_readOwner_124 : decode cX0_readOwner 124 = .ok (.iload_n 2, 1) := by decide +kernel
theorem dX0_readOwner_125 : decode cX0_readOwner 125 = .ok (.iastore, 1) := by decide +kernel
theorem dX0_readOwner_126 : decode cX0_readOwner 126 = .ok (.aload_n 0, 1) := by decide +kernel
theorem dX0_readOwner_127 : decode cX0_readOwner 127 = .ok (.getfield 46, 3) := by decide +kernel
theorem dX0_readOwner_130 : decode cX0_readOwner 130 = .ok (.getfield 174, 3) := by decide +kernel
theorem dX0_readOwner_133 : decode cX0_readOwner 133 = .ok (.iload 7, 2) := by decide +kernel
theorem dX0_readOwner_135 : decode cX0_readOwner 135 = .ok (.iload_n 3, 1) := by decide +kernel
theorem dX0_readOwner_136 : decode cX0_readOwner 136 = .ok (.iastore, 1) := by decide +kernel
theorem dX0_readOwner_137 : decode cX0_readOwner 137 = .ok (.aload_n 0, 1) := by decide +kernel
theorem dX0_readOwner_138 : decode cX0_readOwner 138 = .ok (.getfield 46, 3) := by decide +kernel
theorem dX0_readOwner_141 : decode cX0_readOwner 141 = .ok (.getfield 177, 3) := by decide +kernel
theorem dX0_readOwner_144 : decode cX0_readOwner 144 = .ok (.iload 7, 2) := by decide +kernel
theorem dX0_readOwner_146 : decode cX0_readOwner 146 = .ok (.iload 4, 2) := by decide +kernel
theorem dX0_readOwner_148 : decode cX0_readOwner 148 = .ok (.iastore, 1) := by decide +kernel
theorem dX0_readOwner_149 : decode cX0_readOwner 149 = .ok (.aload_n 0, 1) := by decide +kernel
theorem dX0_readOwner_150 : decode cX0_readOwner 150 = .ok (.getfield 46, 3) := by decide +kernel
theorem dX0_readOwner_153 : decode cX0_readOwner 153 = .ok (.getfield 180, 3) := by decide +kernel
theorem dX0_readOwner_156 : decode cX0_readOwner 156 = .ok (.iload 7, 2) := by decide +kernel
theorem dX0_readOwner_158 : decode cX0_readOwner 158 = .ok (.iload 5, 2) := by decide +kernel
theorem dX0_readOwner_160 : decode cX0_readOwner 160 = .ok (.iastore, 1) := by decide +kernel
theorem dX0_readOwner_161 : decode cX0_readOwner 161 = .ok (.aload_n 0, 1) := by decide +kernel
theorem dX0_readOwner_162 : decode cX0_readOwner 162 = .ok (.getfield 46, 3) := by decide +kernel
theorem dX0_readOwner_165 : decode cX0_readOwner 165 = .ok (.getfield 183, 3) := by decide +kernel
theorem dX0_readOwner_168 : decode cX0_readOwner 168 = .ok (.iload 7, 2) := by decide +kernel
theorem dX0_readOwner_170 : decode cX0_readOwner 170 = .ok (.iload 6, 2) := by decide +kernel
theorem dX0_readOwner_172 : decode cX0_readOwner 172 = .ok (.iastore, 1) := by decide +kernel
theorem dX0_readOwner_173 : decode cX0_readOwner 173 = .ok (.aload_n 0, 1) := by decide +kernel
theorem dX0_readOwner_174 : decode cX0_readOwner 174 = .ok (.getfield 50, 3) := by decide +kernel
theorem dX0_readOwner_177 : decode cX0_readOwner 177 = .ok (.iload_n 3, 1) := by decide +kernel
theorem dX0_readOwner_178 : decode cX0_readOwner 178 = .ok (.bipush 16, 2) := by decide +kernel
theorem dX0_readOwner_180 : decode cX0_readOwner 180 = .ok (.iload 7, 2) := by decide +kernel
theorem dX0_readOwner_182 : decode cX0_readOwner 182 = .ok (.iadd, 1) := by decide +kernel
theorem dX0_readOwner_183 : decode cX0_readOwner 183 = .ok (.iastore, 1) := by decide +kernel
theorem dX0_readOwner_184 : decode cX0_readOwner 184 = .ok (.aload_n 0, 1) := by decide +kernel
theorem dX0_readOwner_185 : decode cX0_readOwner 185 = .ok (.getfield 46, 3) := by decide +kernel
theorem dX0_readOwner_188 : decode cX0_readOwner 188 = .ok (.dup, 1) := by decide +kernel
theorem dX0_readOwner_189 : decode cX0_readOwner 189 = .ok (.getfield 79, 3) := by decide +kernel
theorem dX0_readOwner_192 : decode cX0_readOwner 192 = .ok (.iconst 1, 1) := by decide +kernel
theorem dX0_readOwner_193 : decode cX0_readOwner 193 = .ok (.iadd, 1) := by decide +kernel
theorem dX0_readOwner_194 : decode cX0_readOwner 194 = .ok (.putfield 79, 3) := by decide +kernel
theorem dX0_readOwner_197 : decode cX0_readOwner 197 = .ok (.return_, 1) := by decide +kernel
theorem dX0_readVane_0 : decode cX0_readVane 0 = .ok (.aload_n 0, 1) := by decide +kernel
theorem dX0_readVane_1 : decode cX0_readVane 1 = .ok (.getfield 46, 3) := by decide +kernel
theorem dX0_readVane_4 : decode cX0_readVane 4 = .ok (.aload_n 1, 1) := by decide +kernel
theorem dX0_readVane_5 : decode cX0_readVane 5 = .ok (.invokevirtual 186, 3) := by decide +kernel
theorem dX0_readVane_8 : decode cX0_readVane 8 = .ok (.istore_n 2, 1) := by decide +kernel
theorem dX0_readVane_9 : decode cX0_readVane 9 = .ok (.aload_n 1, 1) := by decide +kernel
theorem dX0_readVane_10 : decode cX0_readVane 10 = .ok (.invokevirtual 148, 3) := by decide +kernel
theorem dX0_readVane_13 : decode cX0_readVane 13 = .ok (.ifCond .eq 23, 3) := by decide +kernel
theorem dX0_readVane_16 : decode cX0_readVane 16 = .ok (.aload_n 0, 1) := by decide +kernel
theorem dX0_readVane_17 : decode cX0_readVane 17 = .ok (.getfield 46, 3) := by decide +kernel
theorem dX0_readVane_20 : decode cX0_readVane 20 = .ok (.getfield 189, 3) := by decide +kernel
theorem dX0_readVane_23 : decode cX0_readVane 23 = .ok (.iload_n 2, 1) := by decide +kernel
theorem dX0_readVane_24 : decode cX0_readVane 24 = .ok (.ishr, 1) := by decide +kernel
theorem dX0_readVane_25 : decode cX0_readVane 25 = .ok (.iconst 1, 1) := by decide +kernel
theorem dX0_readVane_26 : decode cX0_readVane 26 = .ok (.iand, 1) := by decide +kernel
theorem dX0_readVane_27 : decode cX0_readVane 27 = .ok (.iconst 1, 1) := by decide +kernel
theorem dX0_readVane_28 : decode cX0_readVane 28 = .ok (.if_icmp .ne 8, 3) := by decide +kernel
theorem dX0_readVane_31 : decode cX0_readVane 31 = .ok (.aload_n 1, 1) := by decide +kernel
theorem dX0_readVane_32 : decode cX0_readVane 32 = .ok (.iconst 3, 1) := by decide +kernel
theorem dX0_readVane_33 : decode cX0_readVane 33 = .ok (.invokevirtual 151, 3) := by decide +kernel
theorem dX0_readVane_36 : decode cX0_readVane 36 = .ok (.aload_n 1, 1) := by decide +kernel
theorem dX0_readVane_37 : decode cX0_readVane 37 = .ok (.iconst 0, 1) := by decide +kernel
theorem dX0_readVane_38 : decode cX0_readVane 38 = .ok (.bipush 7, 2) := by decide +kernel
theorem dX0_readVane_40 : decode cX0_readVane 40 = .ok (.invokevirtual 145, 3) := by decide +kernel
theorem dX0_readVane_43 : decode cX0_readVane 43 = .ok (.istore_n 3, 1) := by decide +kernel
theorem dX0_readVane_44 : decode cX0_readVane 44 = .ok (.aload_n 1, 1) := by decide +kernel
theorem dX0_readVane_45 : decode cX0_readVane 45 = .ok (.invokevirtual 148, 3) := by decide +kernel
theorem dX0_readVane_48 : decode cX0_readVane 48 = .ok (.ifCond .eq 36, 3) := by decide +kernel
theorem dX0_readVane_51 : decode cX0_readVane 51 = .ok (.aload_n 0, 1) := by decide +kernel
theorem dX0_readVane_52 : decode cX0_readVane 52 = .ok (.iload_n 2, 1) := by decide +kernel
theorem dX0_readVane_53 : decode cX0_readVane 53 = .ok (.invokevirtual 192, 3) := by decide +kernel
theorem dX0_readVane_56 : decode cX0_readVane 56 = .ok (.ifCond .eq 28, 3) := by decide +kernel
theorem dX0_readVane_59 : decode cX0_readVane 59 = .ok (.aload_n 0, 1) := by decide +kernel
theorem dX0_readVane_60 : decode cX0_readVane 60 = .ok (.getfield 46, 3) := by decide +kernel
theorem dX0_readVane_63 : decode cX0_readVane 63 = .ok (.dup, 1) := by decide +kernel
theorem dX0_readVane_64 : decode cX0_readVane 64 = .ok (.getfield 189, 3) := by decide +kernel
theorem dX0_readVane_67 : decode cX0_readVane 67 = .ok (.iconst 1, 1) := by decide +kernel
theorem dX0_readVane_68 : decode cX0_readVane 68 = .ok (.iload_n 2, 1) := by decide +kernel
theorem dX0_readVane_69 : decode cX0_readVane 69 = .ok (.ishl, 1) := by decide +kernel
theorem dX0_readVane_70 : decode cX0_readVane 70 = .ok (.ior, 1) := by decide +kernel
theorem dX0_readVane_71 : decode cX0_readVane 71 = .ok (.putfield 189, 3) := by decide +kernel
theorem dX0_readVane_74 : decode cX0_readVane 74 = .ok (.aload_n 0, 1) := by decide +kernel
theorem dX0_readVane_75 : decode cX0_readVane 75 = .ok (.getfield 46, 3) := by decide +kernel
theorem dX0_readVane_78 : decode cX0_readVane 78 = .ok (.getfield 196, 3) := by decide +kernel
theorem dX0_readVane_81 : decode cX0_readVane 81 = .ok (.iload_n 2, 1) := by decide +kernel
theorem dX0_readVane_82 : decode cX0_readVane 82 = .ok (.iload_n 3, 1) := by decide +kernel
theorem dX0_readVane_83 : decode cX0_readVane 83 = .ok (.iastore, 1) := by decide +kernel
theorem dX0_readVane_84 : decode cX0_readVane 84 = .ok (.return_, 1) := by decide +kernel
theorem dX0_readTree_0 : decode cX0_readTree 0 = .ok (.aload_n 0, 1) := by decide +kernel
theorem dX0_readTree_1 : decode cX0_readTree 1 = .ok (.getfield 21, 3) := by decide +kernel
theorem dX0_readTree_4 : decode cX0_readTree 4 = .ok (.bipush 12, 2) := by decide +kernel
theorem dX0_readTree_6 : decode cX0_readTree 6 = .ok (.if_icmp .lt 8, 3) := by decide +kernel
theorem dX0_readTree_9 : decode cX0_readTree 9 = .ok (.aload_n 1, 1) := by decide +kernel
theorem dX0_readTree_10 : decode cX0_readTree 10 = .ok (.iconst 4, 1) := by decide +kernel
theorem dX0_readTree_11 : decode cX0_readTree 11 = .ok (.invokevirtual 151, 3) := by decide +kernel
theorem dX0_readTree_14 : decode cX0_readTree 14 = .ok (.aload_n 0, 1) := by decide +kernel
theorem dX0_readTree_15 : decode cX0_readTree 15 = .ok (.aload_n 1, 1) := by decide +kernel
theorem dX0_readTree_16 : decode cX0_readTree 16 = .ok (.invokevirtual 163, 3) := by decide +kernel
theorem dX0_readTree_19 : decode cX0_readTree 19 = .ok (.istore_n 2, 1) := by decide +kernel
theorem dX0_readTree_20 : decode cX0_readTree 20 = .ok (.aload_n 1, 1) := by decide +kernel
theorem dX0_readTree_21 : decode cX0_readTree 21 = .ok (.aload_n 0, 1) := by decide +kernel
theorem dX0_readTree_22 : decode cX0_readTree 22 = .ok (.getfield 50, 3) := by decide +kernel
theorem dX0_readTree_25 : decode cX0_readTree 25 = .ok (.iload_n 2, 1) := by decide +kernel
theorem dX0_readTree_26 : decode cX0_readTree 26 = .ok (.invokestatic 167, 3) := by decide +kernel
theorem dX0_readTree_29 : decode cX0_readTree 29 = .ok (.aload_n 1, 1) := by decide +kernel
theorem dX0_readTree_30 : decode cX0_readTree 30 = .ok (.invokevirtual 148, 3) := by decide +kernel
theorem dX0_readTree_33 : decode cX0_readTree 33 = .ok (.ifCond .eq 55, 3) := by decide +kernel
theorem dX0_readTree_36 : decode cX0_readTree 36 = .ok (.aload_n 0, 1) := by decide +kernel
theorem dX0_readTree_37 : decode cX0_readTree 37 = .ok (.getfield 21, 3) := by decide +kernel
theorem dX0_readTree_40 : decode cX0_readTree 40 = .ok (.bipush 12, 2) := by decide +kernel
theorem dX0_readTree_42 : decode cX0_readTree 42 = .ok (.if_icmp .ge 46, 3) := by decide +kernel
theorem dX0_readTree_45 : decode cX0_readTree 45 = .ok (.iload_n 2, 1) := by decide +kernel
theorem dX0_readTree_46 : decode cX0_readTree 46 = .ok (.ifCond .lt 42, 3) := by decide +kernel
theorem dX0_readTree_49 : decode cX0_readTree 49 = .ok (.iload_n 2, 1) := by decide +kernel
theorem dX0_readTree_50 : decode cX0_readTree 50 = .ok (.bipush 100, 2) := by decide +kernel
theorem dX0_readTree_52 : decode cX0_readTree 52 = .ok (.if_icmp .ge 36, 3) := by decide +kernel
theorem dX0_readTree_55 : decode cX0_readTree 55 = .ok (.aload_n 0, 1) := by decide +kernel
theorem dX0_readTree_56 : decode cX0_readTree 56 = .ok (.getfield 50, 3) := by decide +kernel
theorem dX0_readTree_59 : decode cX0_readTree 59 = .ok (.iload_n 2, 1) := by decide +kernel
theorem dX0_readTree_60 : decode cX0_readTree 60 = .ok (.bipush 32, 2) := by decide +kernel
theorem dX0_readTree_62 : decode cX0_readTree 62 = .ok (.aload_n 0, 1) := by decide +kernel
theorem dX0_readTree_63 : decode cX0_readTree 63 = .ok (.getfield 21, 3) := by decide +kernel
theorem dX0_readTree_66 : decode cX0_readTree 66 = .ok (.iadd, 1) := by decide +kernel
theorem dX0_readTree_67 : decode cX0_readTree 67 = .ok (.iastore, 1) := by decide +kernel
theorem dX0_readTree_68 : decode cX0_readTree 68 = .ok (.aload_n 0, 1) := by decide +kernel
theorem dX0_readTree_69 : decode cX0_readTree 69 = .ok (.getfield 57, 3) := by decide +kernel
theorem dX0_readTree_72 : decode cX0_readTree 72 = .ok (.aload_n 0, 1) := by decide +kernel
theorem dX0_readTree_73 : decode cX0_readTree 73 = .ok (.getfield 21, 3) := by decide +kernel
theorem dX0_readTree_76 : decode cX0_readTree 76 = .ok (.iload_n 2, 1) := by decide +kernel
theorem dX0_readTree_77 : decode cX0_readTree 77 = .ok (.iastore, 1) := by decide +kernel
theorem dX0_readTree_78 : decode cX0_readTree 78 = .ok (.aload_n 0, 1) := by decide +kernel
theorem dX0_readTree_79 : decode cX0_readTree 79 = .ok (.dup, 1) := by decide +kernel
theorem dX0_readTree_80 : decode cX0_readTree 80 = .ok (.getfield 21, 3) := by decide +kernel
theorem dX0_readTree_83 : decode cX0_readTree 83 = .ok (.iconst 1, 1) := by decide +kernel
theorem dX0_readTree_84 : decode cX0_readTree 84 = .ok (.iadd, 1) := by decide +kernel
theorem dX0_readTree_85 : decode cX0_readTree 85 = .ok (.putfield 21, 3) := by decide +kernel
theorem dX0_readTree_88 : decode cX0_readTree 88 = .ok (.return_, 1) := by decide +kernel
theorem dX0_readFence_0 : decode cX0_readFence 0 = .ok (.aload_n 0, 1) := by decide +kernel
theorem dX0_readFence_1 : decode cX0_readFence 1 = .ok (.getfield 24, 3) := by decide +kernel
theorem dX0_readFence_4 : decode cX0_readFence 4 = .ok (.bipush 12, 2) := by decide +kernel
theorem dX0_readFence_6 : decode cX0_readFence 6 = .ok (.if_icmp .lt 8, 3) := by decide +kernel
theorem dX0_readFence_9 : decode cX0_readFence 9 = .ok (.aload_n 1, 1) := by decide +kernel
theorem dX0_readFence_10 : decode cX0_readFence 10 = .ok (.iconst 4, 1) := by decide +kernel
theorem dX0_readFence_11 : decode cX0_readFence 11 = .ok (.invokevirtual 151, 3) := by decide +kernel
theorem dX0_readFence_14 : decode cX0_readFence 14 = .ok (.aload_n 0, 1) := by decide +kernel
theorem dX0_readFence_15 : decode cX0_readFence 15 = .ok (.aload_n 1, 1) := by decide +kernel
theorem dX0_readFence_16 : decode cX0_readFence 16 = .ok (.invokevirtual 163, 3) := by decide +kernel
theorem dX0_readFence_19 : decode cX0_readFence 19 = .ok (.istore_n 2, 1) := by decide +kernel
theorem dX0_readFence_20 : decode cX0_readFence 20 = .ok (.aload_n 1, 1) := by decide +kernel
theorem dX0_readFence_21 : decode cX0_readFence 21 = .ok (.aload_n 0, 1) := by decide +kernel
theorem dX0_readFence_22 : decode cX0_readFence 22 = .ok (.getfield 50, 3) := by decide +kernel
theorem dX0_readFence_25 : decode cX0_readFence 25 = .ok (.iload_n 2, 1) := by decide +kernel
theorem dX0_readFence_26 : decode cX0_readFence 26 = .ok (.invokestatic 167, 3) := by decide +kernel
theorem dX0_readFence_29 : decode cX0_readFence 29 = .ok (.aload_n 1, 1) := by decide +kernel
theorem dX0_readFence_30 : decode cX0_readFence 30 = .ok (.invokevirtual 148, 3) := by decide +kernel
theorem dX0_readFence_33 : decode cX0_readFence 33 = .ok (.ifCond .eq 31, 3) := by decide +kernel
theorem dX0_readFence_36 : decode cX0_readFence 36 = .ok (.iload_n 2, 1) := by decide +kernel
theorem dX0_readFence_37 : decode cX0_readFence 37 = .ok (.ifCond .lt 27, 3) := by decide +kernel
theorem dX0_readFence_40 : decode cX0_readFence 40 = .ok (.iload_n 2, 1) := by decide +kernel
theorem dX0_readFence_41 : decode cX0_readFence 41 = .ok (.bipush 100, 2) := by decide +kernel
theorem dX0_readFence_43 : decode cX0_readFence 43 = .ok (.if_icmp .ge 21, 3) := by decide +kernel
theorem dX0_readFence_46 : decode cX0_readFence 46 = .ok (.aload_n 0, 1) := by decide +kernel
theorem dX0_readFence_47 : decode cX0_readFence 47 = .ok (.getfield 50, 3) := by decide +kernel
theorem dX0_readFence_50 : decode cX0_readFence 50 = .ok (.iload_n 2, 1) := by decide +kernel
theorem dX0_readFence_51 : decode cX0_readFence 51 = .ok (.bipush 48, 2) := by decide +kernel
theorem dX0_readFence_53 : decode cX0_readFence 53 = .ok (.iastore, 1) := by decide +kernel
theorem dX0_readFence_54 : decode cX0_readFence 54 = .ok (.aload_n 0, 1) := by decide +kernel
theorem dX0_readFence_55 : decode cX0_readFence 55 = .ok (.dup, 1) := by decide +kernel
theorem dX0_readFence_56 : decode cX0_readFence 56 = .ok (.getfield 24, 3) := by decide +kernel
theorem dX0_readFence_59 : decode cX0_readFence 59 = .ok (.iconst 1, 1) := by decide +kernel
theorem dX0_readFence_60 : decode cX0_readFence 60 = .ok (.iadd, 1) := by decide +kernel
theorem dX0_readFence_61 : decode cX0_readFence 61 = .ok (.putfield 24, 3) := by decide +kernel
theorem dX0_readFence_64 : decode cX0_readFence 64 = .ok (.return_, 1) := by decide +kernel
theorem dX0_readEddy_0 : decode cX0_readEddy 0 = .ok (.aload_n 0, 1) := by decide +kernel
theorem dX0_readEddy_1 : decode cX0_readEddy 1 = .ok (.getfield 27, 3) := by decide +kernel
theorem dX0_readEddy_4 : decode cX0_readEddy 4 = .ok (.bipush 8, 2) := by decide +kernel
theorem dX0_readEddy_6 : decode cX0_readEddy 6 = .ok (.if_icmp .lt 8, 3) := by decide +kernel
theorem dX0_readEddy_9 : decode cX0_readEddy 9 = .ok (.aload_n 1, 1) := by decide +kernel
theorem dX0_readEddy_10 : decode cX0_readEddy 10 = .ok (.iconst 4, 1) := by decide +kernel
theorem dX0_readEddy_11 : decode cX0_readEddy 11 = .ok (.invokevirtual 151, 3) := by decide +kernel
theorem dX0_readEddy_14 : decode cX0_readEddy 14 = .ok (.aload_n 0, 1) := by decide +kernel
theorem dX0_readEddy_15 : decode cX0_readEddy 15 = .ok (.aload_n 1, 1) := by decide +kernel
theorem dX0_readEddy_16 : decode cX0_readEddy 16 = .ok (.invokevirtual 163, 3) := by decide +kernel
theorem dX0_readEddy_19 : decode cX0_readEddy 19 = .ok (.istore_n 2, 1) := by decide +kernel
theorem dX0_readEddy_20 : decode cX0_readEddy 20 = .ok (.aload_n 1, 1) := by decide +kernel
theorem dX0_readEddy_21 : decode cX0_readEddy 21 = .ok (.aload_n 0, 1) := by decide +kernel
theorem dX0_readEddy_22 : decode cX0_readEddy 22 = .ok (.getfield 54, 3) := by decide +kernel
theorem dX0_readEddy_25 : decode cX0_readEddy 25 = .ok (.iload_n 2, 1) := by decide +kernel
theorem dX0_readEddy_26 : decode cX0_readEddy 26 = .ok (.invokestatic 167, 3) := by decide +kernel
theorem dX0_readEddy_29 : decode cX0_readEddy 29 = .ok (.aload_n 1, 1) := by decide +kernel
theorem dX0_readEddy_30 : decode cX0_readEddy 30 = .ok (.iconst 1, 1) := by decide +kernel
theorem dX0_readEddy_31 : decode cX0_readEddy 31 = .ok (.bipush 7, 2) := by decide +kernel
theorem dX0_readEddy_33 : decode cX0_readEddy 33 = .ok (.invokevirtual 145, 3) := by decide +kernel
theorem dX0_readEddy_36 : decode cX0_readEddy 36 = .ok (.istore_n 3, 1) := by decide +kernel
theorem dX0_readEddy_37 : decode cX0_readEddy 37 = .ok (.aload_n 1, 1) := by decide +kernel
theorem dX0_readEddy_38 : decode cX0_readEddy 38 = .ok (.invokevirtual 148, 3) := by decide +kernel
theorem dX0_readEddy_41 : decode cX0_readEddy 41 = .ok (.ifCond .eq 30, 3) := by decide +kernel
theorem dX0_readEddy_44 : decode cX0_readEddy 44 = .ok (.iload_n 2, 1) := by decide +kernel
theorem dX0_readEddy_45 : decode cX0_readEddy 45 = .ok (.ifCond .lt 26, 3) := by decide +kernel
theorem dX0_readEddy_48 : decode cX0_readEddy 48 = .ok (.iload_n 2, 1) := by decide +kernel
theorem dX0_readEddy_49 : decode cX0_readEddy 49 = .ok (.bipush 100, 2) := by decide +kernel
theorem dX0_readEddy_51 : decode cX0_readEddy 51 = .ok (.if_icmp .ge 20, 3) := by decide +kernel
theorem dX0_readEddy_54 : decode cX0_readEddy 54 = .ok (.aload_n 0, 1) := by decide +kernel
theorem dX0_readEddy_55 : decode cX0_readEddy 55 = .ok (.getfield 54, 3) := by decide +kernel
theorem dX0_readEddy_58 : decode cX0_readEddy 58 = .ok (.iload_n 2, 1) := by decide +kernel
theorem dX0_readEddy_59 : decode cX0_readEddy 59 = .ok (.iload_n 3, 1) := by decide +kernel
theorem dX0_readEddy_60 : decode cX0_readEddy 60 = .ok (.iastore, 1) := by decide +kernel
theorem dX0_readEddy_61 : decode cX0_readEddy 61 = .ok (.aload_n 0, 1) := by decide +kernel
theorem dX0_readEddy_62 : decode cX0_readEddy 62 = .ok (.dup, 1) := by decide +kernel
theorem dX0_readEddy_63 : decode cX0_readEddy 63 = .ok (.getfield 27, 3) := by decide +kernel
theorem dX0_readEddy_66 : decode cX0_readEddy 66 = .ok (.iconst 1, 1) := by decide +kernel
theorem dX0_readEddy_67 : decode cX0_readEddy 67 = .ok (.iadd, 1) := by decide +kernel
theorem dX0_readEddy_68 : decode cX0_readEddy 68 = .ok (.putfield 27, 3) := by decide +kernel
theorem dX0_readEddy_71 : decode cX0_readEddy 71 = .ok (.return_, 1) := by decide +kernel
theorem dX0_readGust_0 : decode cX0_readGust 0 = .ok (.aload_n 0, 1) := by decide +kernel
theorem dX0_readGust_1 : decode cX0_readGust 1 = .ok (.getfield 30, 3) := by decide +kernel
theorem dX0_readGust_4 : decode cX0_readGust 4 = .ok (.bipush 30, 2) := by decide +kernel
theorem dX0_readGust_6 : decode cX0_readGust 6 = .ok (.if_icmp .lt 8, 3) := by decide +kernel
theorem dX0_readGust_9 : decode cX0_readGust 9 = .ok (.aload_n 1, 1) := by decide +kernel
theorem dX0_readGust_10 : decode cX0_readGust 10 = .ok (.iconst 4, 1) := by decide +kernel
theorem dX0_readGust_11 : decode cX0_readGust 11 = .ok (.invokevirtual 151, 3) := by decide +kernel
theorem dX0_readGust_14 : decode cX0_readGust 14 = .ok (.aload_n 1, 1) := by decide +kernel
theorem dX0_readGust_15 : decode cX0_readGust 15 = .ok (.iconst 0, 1) := by decide +kernel
theorem dX0_readGust_16 : decode cX0_readGust 16 = .ok (.bipush 47, 2) := by decide +kernel
theorem dX0_readGust_18 : decode cX0_readGust 18 = .ok (.invokevirtual 145, 3) := by decide +kernel
theorem dX0_readGust_21 : decode cX0_readGust 21 = .ok (.istore_n 2, 1) := by decide +kernel
theorem dX0_readGust_22 : decode cX0_readGust 22 = .ok (.iload_n 2, 1) := by decide +kernel
theorem dX0_readGust_23 : decode cX0_readGust 23 = .ok (.ifCond .lt 23, 3) := by decide +kernel
theorem dX0_readGust_26 : decode cX0_readGust 26 = .ok (.iload_n 2, 1) := by decide +kernel
theorem dX0_readGust_27 : decode cX0_readGust 27 = .ok (.bipush 48, 2) := by decide +kernel
theorem dX0_readGust_29 : decode cX0_readGust 29 = .ok (.if_icmp .ge 17, 3) := by decide +kernel
theorem dX0_readGust_32 : decode cX0_readGust 32 = .ok (.aload_n 0, 1) := by decide +kernel
theorem dX0_readGust_33 : decode cX0_readGust 33 = .ok (.getfield 63, 3) := by decide +kernel
theorem dX0_readGust_36 : decode cX0_readGust 36 = .ok (.iload_n 2, 1) := by decide +kernel
theorem dX0_readGust_37 : decode cX0_readGust 37 = .ok (.iaload, 1) := by decide +kernel
theorem dX0_readGust_38 : decode cX0_readGust 38 = .ok (.ifCond .eq 8, 3) := by decide +kernel
theorem dX0_readGust_41 : decode cX0_readGust 41 = .ok (.aload_n 1, 1) := by decide +kernel
theorem dX0_readGust_42 : decode cX0_readGust 42 = .ok (.iconst 3, 1) := by decide +kernel
theorem dX0_readGust_43 : decode cX0_readGust 43 = .ok (.invokevirtual 151, 3) := by decide +kernel
theorem dX0_readGust_46 : decode cX0_readGust 46 = .ok (.aload_n 1, 1) := by decide +kernel
theorem dX0_readGust_47 : decode cX0_readGust 47 = .ok (.iconst 0, 1) := by decide +kernel
theorem dX0_readGust_48 : decode cX0_readGust 48 = .ok (.bipush 7, 2) := by decide +kernel
theorem dX0_readGust_50 : decode cX0_readGust 50 = .ok (.invokevirtual 145, 3) := by decide +kernel
theorem dX0_readGust_53 : decode cX0_readGust 53 = .ok (.istore_n 3, 1) := by decide +kernel
theorem dX0_readGust_54 : decode cX0_readGust 54 = .ok (.aload_n 1, 1) := by decide +kernel
theorem dX0_readGust_55 : decode cX0_readGust 55 = .ok (.iconst 1, 1) := by decide +kernel
theorem dX0_readGust_56 : decode cX0_readGust 56 = .ok (.bipush 9, 2) := by decide +kernel
theorem dX0_readGust_58 : decode cX0_readGust 58 = .ok (.invokevirtual 145, 3) := by decide +kernel
theorem dX0_readGust_61 : decode cX0_readGust 61 = .ok (.istore 4, 2) := by decide +kernel
theorem dX0_readGust_63 : decode cX0_readGust 63 = .ok (.aload_n 1, 1) := by decide +kernel
theorem dX0_readGust_64 : decode cX0_readGust 64 = .ok (.invokevirtual 148, 3) := by decide +kernel
theorem dX0_readGust_67 : decode cX0_readGust 67 = .ok (.ifCond .eq 38, 3) := by decide +kernel
theorem dX0_readGust_70 : decode cX0_readGust 70 = .ok (.iload_n 2, 1) := by decide +kernel
theorem dX0_readGust_71 : decode cX0_readGust 71 = .ok (.ifCond .lt 34, 3) := by decide +kernel
theorem dX0_readGust_74 : decode cX0_readGust 74 = .ok (.iload_n 2, 1) := by decide +kernel
theorem dX0_readGust_75 : decode cX0_readGust 75 = .ok (.bipush 48, 2) := by decide +kernel
theorem dX0_readGust_77 : decode cX0_readGust 77 = .ok (.if_icmp .ge 28, 3) := by decide +kernel
theorem dX0_readGust_80 : decode cX0_readGust 80 = .ok (.aload_n 0, 1) := by decide +kernel
theorem dX0_readGust_81 : decode cX0_readGust 81 = .ok (.getfield 60, 3) := by decide +kernel
theorem dX0_readGust_84 : decode cX0_readGust 84 = .ok (.iload_n 2, 1) := by decide +kernel
theorem dX0_readGust_85 : decode cX0_readGust 85 = .ok (.iload_n 3, 1) := by decide +kernel
theorem dX0_readGust_86 : decode cX0_readGust 86 = .ok (.iastore, 1) := by decide +kernel
theorem dX0_readGust_87 : decode cX0_readGust 87 = .ok (.aload_n 0, 1) := by decide +kernel
theorem dX0_readGust_88 : decode cX0_readGust 88 = .ok (.getfield 63, 3) := by decide +kernel
theorem dX0_readGust_91 : decode cX0_readGust 91 = .ok (.iload_n 2, 1) := by decide +kernel
theorem dX0_readGust_92 : decode cX0_readGust 92 = .ok (.iload 4, 2) := by decide +kernel
theorem dX0_readGust_94 : decode cX0_readGust 94 = .ok (.iastore, 1) := by decide +kernel
theorem dX0_readGust_95 : decode cX0_readGust 95 = .ok (.aload_n 0, 1) := by decide +kernel
theorem dX0_readGust_96 : decode cX0_readGust 96 = .ok (.dup, 1) := by decide +kernel
theorem dX0_readGust_97 : decode cX0_readGust 97 = .ok (.getfield 30, 3) := by decide +kernel
theorem dX0_readGust_100 : decode cX0_readGust 100 = .ok (.iconst 1, 1) := by decide +kernel
theorem dX0_readGust_101 : decode cX0_readGust 101 = .ok (.iadd, 1) := by decide +kernel
theorem dX0_readGust_102 : decode cX0_readGust 102 = .ok (.putfield 30, 3) := by decide +kernel
theorem dX0_readGust_105 : decode cX0_readGust 105 = .ok (.return_, 1) := by decide +kernel
theorem dX0_readPact_0 : decode cX0_readPact 0 = .ok (.aload_n 0, 1) := by decide +kernel
theorem dX0_readPact_1 : decode cX0_readPact 1 = .ok (.getfield 46, 3) := by decide +kernel
theorem dX0_readPact_4 : decode cX0_readPact 4 = .ok (.aload_n 1, 1) := by decide +kernel
theorem dX0_readPact_5 : decode cX0_readPact 5 = .ok (.invokevirtual 186, 3) := by decide +kernel
theorem dX0_readPact_8 : decode cX0_readPact 8 = .ok (.istore_n 2, 1) := by decide +kernel
theorem dX0_readPact_9 : decode cX0_readPact 9 = .ok (.aload_n 0, 1) := by decide +kernel
theorem dX0_readPact_10 : decode cX0_readPact 10 = .ok (.iload_n 2, 1) := by decide +kernel
theorem dX0_readPact_11 : decode cX0_readPact 11 = .ok (.invokevirtual 192, 3) := by decide +kernel
theorem dX0_readPact_14 : decode cX0_readPact 14 = .ok (.ifCond .eq 21, 3) := by decide +kernel
theorem dX0_readPact_17 : decode cX0_readPact 17 = .ok (.aload_n 0, 1) := by decide +kernel
theorem dX0_readPact_18 : decode cX0_readPact 18 = .ok (.getfield 46, 3) := by decide +kernel
theorem dX0_readPact_21 : decode cX0_readPact 21 = .ok (.getfield 199, 3) := by decide +kernel
theorem dX0_readPact_24 : decode cX0_readPact 24 = .ok (.iload_n 2, 1) := by decide +kernel
theorem dX0_readPact_25 : decode cX0_readPact 25 = .ok (.iaload, 1) := by decide +kernel
theorem dX0_readPact_26 : decode cX0_readPact 26 = .ok (.iconst (-1), 1) := by decide +kernel
theorem dX0_readPact_27 : decode cX0_readPact 27 = .ok (.if_icmp .eq 8, 3) := by decide +kernel
theorem dX0_readPact_30 : decode cX0_readPact 30 = .ok (.aload_n 1, 1) := by decide +kernel
theorem dX0_readPact_31 : decode cX0_readPact 31 = .ok (.iconst 3, 1) := by decide +kernel
theorem dX0_readPact_32 : decode cX0_readPact 32 = .ok (.invokevirtual 151, 3) := by decide +kernel
theorem dX0_readPact_35 : decode cX0_readPact 35 = .ok (.aload_n 0, 1) := by decide +kernel
theorem dX0_readPact_36 : decode cX0_readPact 36 = .ok (.getfield 46, 3) := by decide +kernel
theorem dX0_readPact_39 : decode cX0_readPact 39 = .ok (.aload_n 1, 1) := by decide +kernel
theorem dX0_readPact_40 : decode cX0_readPact 40 = .ok (.invokevirtual 186, 3) := by decide +kernel
theorem dX0_readPact_43 : decode cX0_readPact 43 = .ok (.istore_n 3, 1) := by decide +kernel
theorem dX0_readPact_44 : decode cX0_readPact 44 = .ok (.iload_n 2, 1) := by decide +kernel
theorem dX0_readPact_45 : decode cX0_readPact 45 = .ok (.iload_n 3, 1) := by decide +kernel
theorem dX0_readPact_46 : decode cX0_readPact 46 = .ok (.if_icmp .ne 8, 3) := by decide +kernel
theorem dX0_readPact_49 : decode cX0_readPact 49 = .ok (.aload_n 1, 1) := by decide +kernel
theorem dX0_readPact_50 : decode cX0_readPact 50 = .ok (.iconst 3, 1) := by decide +kernel
theorem dX0_readPact_51 : decode cX0_readPact 51 = .ok (.invokevirtual 151, 3) := by decide +kernel
theorem dX0_readPact_54 : decode cX0_readPact 54 = .ok (.aload_n 1, 1) := by decide +kernel
theorem dX0_readPact_55 : decode cX0_readPact 55 = .ok (.invokevirtual 148, 3) := by decide +kernel
theorem dX0_readPact_58 : decode cX0_readPact 58 = .ok (.ifCond .eq 21, 3) := by decide +kernel
theorem dX0_readPact_61 : decode cX0_readPact 61 = .ok (.aload_n 0, 1) := by decide +kernel
theorem dX0_readPact_62 : decode cX0_readPact 62 = .ok (.iload_n 2, 1) := by decide +kernel
theorem dX0_readPact_63 : decode cX0_readPact 63 = .ok (.invokevirtual 192, 3) := by decide +kernel
theorem dX0_readPact_66 : decode cX0_readPact 66 = .ok (.ifCond .eq 13, 3) := by decide +kernel
theorem dX0_readPact_69 : decode cX0_readPact 69 = .ok (.aload_n 0, 1) := by decide +kernel
theorem dX0_readPact_70 : decode cX0_readPact 70 = .ok (.getfield 46, 3) := by decide +kernel
theorem dX0_readPact_73 : decode cX0_readPact 73 = .ok (.getfield 199, 3) := by decide +kernel
theorem dX0_readPact_76 : decode cX0_readPact 76 = .ok (.iload_n 2, 1) := by decide +kernel
theorem dX0_readPact_77 : decode cX0_readPact 77 = .ok (.iload_n 3, 1) := by decide +kernel
theorem dX0_readPact_78 : decode cX0_readPact 78 = .ok (.iastore, 1) := by decide +kernel
theorem dX0_readPact_79 : decode cX0_readPact 79 = .ok (.return_, 1) := by decide +kernel
theorem dX0_readPlot_0 : decode cX0_readPlot 0 = .ok (.aload_n 0, 1) := by decide +kernel
theorem dX0_readPlot_1 : decode cX0_readPlot 1 = .ok (.getfield 46, 3) := by decide +kernel
theorem dX0_readPlot_4 : decode cX0_readPlot 4 = .ok (.aload_n 1, 1) := by decide +kernel
theorem dX0_readPlot_5 : decode cX0_readPlot 5 = .ok (.invokevirtual 186, 3) := by decide +kernel
theorem dX0_readPlot_8 : decode cX0_readPlot 8 = .ok (.istore_n 2, 1) := by decide +kernel
theorem dX0_readPlot_9 : decode cX0_readPlot 9 = .ok (.aload_n 0, 1) := by decide +kernel
theorem dX0_readPlot_10 : decode cX0_readPlot 10 = .ok (.iload_n 2, 1) := by decide +kernel
theorem dX0_readPlot_11 : decode cX0_readPlot 11 = .ok (.invokevirtual 192, 3) := by decide +kernel
theorem dX0_readPlot_14 : decode cX0_readPlot 14 = .ok (.ifCond .eq 21, 3) := by decide +kernel
theorem dX0_readPlot_17 : decode cX0_readPlot 17 = .ok (.aload_n 0, 1) := by decide +kernel
theorem dX0_readPlot_18 : decode cX0_readPlot 18 = .ok (.getfield 46, 3) := by decide +kernel
theorem dX0_readPlot_21 : decode cX0_readPlot 21 = .ok (.getfield 202, 3) := by decide +kernel
theorem dX0_readPlot_24 : decode cX0_readPlot 24 = .ok (.iload_n 2, 1) := by decide +kernel
theorem dX0_readPlot_25 : decode cX0_readPlot 25 = .ok (.iaload, 1) := by decide +kernel
theorem dX0_readPlot_26 : decode cX0_readPlot 26 = .ok (.iconst (-1), 1) := by decide +kernel
theorem dX0_readPlot_27 : decode cX0_readPlot 27 = .ok (.if_icmp .eq 8, 3) := by decide +kernel
theorem dX0_readPlot_30 : decode cX0_readPlot 30 = .ok (.aload_n 1, 1) := by decide +kernel
theorem dX0_readPlot_31 : decode cX0_readPlot 31 = .ok (.iconst 3, 1) := by decide +kernel
theorem dX0_readPlot_32 : decode cX0_readPlot 32 = .ok (.invokevirtual 151, 3) := by decide +kernel
theorem dX0_readPlot_35 : decode cX0_readPlot 35 = .ok (.aload_n 0, 1) := by decide +kernel
theorem dX0_readPlot_36 : decode cX0_readPlot 36 = .ok (.aload_n 1, 1) := by decide +kernel
theorem dX0_readPlot_37 : decode cX0_readPlot 37 = .ok (.invokevirtual 163, 3) := by decide +kernel
theorem dX0_readPlot_40 : decode cX0_readPlot 40 = .ok (.istore_n 3, 1) := by decide +kernel
theorem dX0_readPlot_41 : decode cX0_readPlot 41 = .ok (.aload_n 1, 1) := by decide +kernel
theorem dX0_readPlot_42 : decode cX0_readPlot 42 = .ok (.invokevirtual 148, 3) := by decide +kernel
theorem dX0_readPlot_45 : decode cX0_readPlot 45 = .ok (.ifCond .eq 19, 3) := by decide +kernel
theorem dX0_readPlot_48 : decode cX0_readPlot 48 = .ok (.aload_n 0, 1) := by decide +kernel
theorem dX0_readPlot_49 : decode cX0_readPlot 49 = .ok (.getfield 46, 3) := by decide +kernel
theorem dX0_readPlot_52 : decode cX0_readPlot 52 = .ok (.iload_n 3, 1) := by decide +kernel
theorem dX0_readPlot_53 : decode cX0_readPlot 53 = .ok (.invokevirtual 205, 3) := by decide +kernel
theorem dX0_readPlot_56 : decode cX0_readPlot 56 = .ok (.ifCond .eq 8, 3) := by decide +kernel
theorem dX0_readPlot_59 : decode cX0_readPlot 59 = .ok (.aload_n 1, 1) := by decide +kernel
theorem dX0_readPlot_60 : decode cX0_readPlot 60 = .ok (.iconst 3, 1) := by decide +kernel
theorem dX0_readPlot_61 : decode cX0_readPlot 61 = .ok (.invokevirtual 151, 3) := by decide +kernel
theorem dX0_readPlot_64 : decode cX0_readPlot 64 = .ok (.aload_n 1, 1) := by decide +kernel
theorem dX0_readPlot_65 : decode cX0_readPlot 65 = .ok (.invokevirtual 148, 3) := by decide +kernel
theorem dX0_readPlot_68 : decode cX0_readPlot 68 = .ok (.ifCond .eq 21, 3) := by decide +kernel
theorem dX0_readPlot_71 : decode cX0_readPlot 71 = .ok (.aload_n 0, 1) := by decide +kernel
theorem dX0_readPlot_72 : decode cX0_readPlot 72 = .ok (.iload_n 2, 1) := by decide +kernel
theorem dX0_readPlot_73 : decode cX0_readPlot 73 = .ok (.invokevirtual 192, 3) := by decide +kernel
theorem dX0_readPlot_76 : decode cX0_readPlot 76 = .ok (.ifCond .eq 13, 3) := by decide +kernel
theorem dX0_readPlot_79 : decode cX0_readPlot 79 = .ok (.aload_n 0, 1) := by decide +kernel
theorem dX0_readPlot_80 : decode cX0_readPlot 80 = .ok (.getfield 46, 3) := by decide +kernel
theorem dX0_readPlot_83 : decode cX0_readPlot 83 = .ok (.getfield 202, 3) := by decide +kernel
theorem dX0_readPlot_86 : decode cX0_readPlot 86 = .ok (.iload_n 2, 1) := by decide +kernel
theorem dX0_readPlot_87 : decode cX0_readPlot 87 = .ok (.iload_n 3, 1) := by decide +kernel
theorem dX0_readPlot_88 : decode cX0_readPlot 88 = .ok (.iastore, 1) := by decide +kernel
theorem dX0_readPlot_89 : decode cX0_readPlot 89 = .ok (.return_, 1) := by decide +kernel
theorem dX0_readRun_0 : decode cX0_readRun 0 = .ok (.aload_n 0, 1) := by decide +kernel
theorem dX0_readRun_1 : decode cX0_readRun 1 = .ok (.getfield 33, 3) := by decide +kernel
theorem dX0_readRun_4 : decode cX0_readRun 4 = .ok (.ifCond .eq 8, 3) := by decide +kernel
theorem dX0_readRun_7 : decode cX0_readRun 7 = .ok (.aload_n 1, 1) := by decide +kernel
theorem dX0_readRun_8 : decode cX0_readRun 8 = .ok (.iconst 3, 1) := by decide +kernel
theorem dX0_readRun_9 : decode cX0_readRun 9 = .ok (.invokevirtual 151, 3) := by decide +kernel
theorem dX0_readRun_12 : decode cX0_readRun 12 = .ok (.aload_n 1, 1) := by decide +kernel
theorem dX0_readRun_13 : decode cX0_readRun 13 = .ok (.iconst 0, 1) := by decide +kernel
theorem dX0_readRun_14 : decode cX0_readRun 14 = .ok (.bipush 99, 2) := by decide +kernel
theorem dX0_readRun_16 : decode cX0_readRun 16 = .ok (.invokevirtual 145, 3) := by decide +kernel
theorem dX0_readRun_19 : decode cX0_readRun 19 = .ok (.istore_n 2, 1) := by decide +kernel
theorem dX0_readRun_20 : decode cX0_readRun 20 = .ok (.aload_n 1, 1) := by decide +kernel
theorem dX0_readRun_21 : decode cX0_readRun 21 = .ok (.iconst 0, 1) := by decide +kernel
theorem dX0_readRun_22 : decode cX0_readRun 22 = .ok (.sipush 999, 3) := by decide +kernel
theorem dX0_readRun_25 : decode cX0_readRun 25 = .ok (.invokevirtual 145, 3) := by decide +kernel
theorem dX0_readRun_28 : decode cX0_readRun 28 = .ok (.istore_n 3, 1) := by decide +kernel
theorem dX0_readRun_29 : decode cX0_readRun 29 = .ok (.aload_n 1, 1) := by decide +kernel
theorem dX0_readRun_30 : decode cX0_readRun 30 = .ok (.invokevirtual 148, 3) := by decide +kernel
theorem dX0_readRun_33 : decode cX0_readRun 33 = .ok (.ifCond .eq 18, 3) := by decide +kernel
theorem dX0_readRun_36 : decode cX0_readRun 36 = .ok (.aload_n 0, 1) := by decide +kernel
theorem dX0_readRun_37 : decode cX0_readRun 37 = .ok (.iconst 1, 1) := by decide +kernel
theorem dX0_readRun_38 : decode cX0_readRun 38 = .ok (.putfield 33, 3) := by decide +kernel
theorem dX0_readRun_41 : decode cX0_readRun 41 = .ok (.aload_n 0, 1) := by decide +kernel
theorem dX0_readRun_42 : decode cX0_readRun 42 = .ok (.iload_n 2, 1) := by decide +kernel
theorem dX0_readRun_43 : decode cX0_readRun 43 = .ok (.putfield 37, 3) := by decide +kernel
theorem dX0_readRun_46 : decode cX0_readRun 46 = .ok (.aload_n 0, 1) := by decide +kernel
theorem dX0_readRun_47 : decode cX0_readRun 47 = .ok (.iload_n 3, 1) := by decide +kernel
theorem dX0_readRun_48 : decode cX0_readRun 48 = .ok (.putfield 40, 3) := by decide +kernel
theorem dX0_readRun_51 : decode cX0_readRun 51 = .ok (.return_, 1) := by decide +kernel
theorem dX1_clear_0 : decode cX1_clear 0 = .ok (.aload_n 0, 1) := by decide +kernel
theorem dX1_clear_1 : decode cX1_clear 1 = .ok (.iconst 0, 1) := by decide +kernel
theorem dX1_clear_2 : decode cX1_clear 2 = .ok (.putfield 9, 3) := by decide +kernel
theorem dX1_clear_5 : decode cX1_clear 5 = .ok (.aload_n 0, 1) := by decide +kernel
theorem dX1_clear_6 : decode cX1_clear 6 = .ok (.iconst 0, 1) := by decide +kernel
theorem dX1_clear_7 : decode cX1_clear 7 = .ok (.putfield 15, 3) := by decide +kernel
theorem dX1_clear_10 : decode cX1_clear 10 = .ok (.iconst 0, 1) := by decide +kernel
theorem dX1_clear_11 : decode cX1_clear 11 = .ok (.istore_n 1, 1) := by decide +kernel
theorem dX1_clear_12 : decode cX1_clear 12 = .ok (.iload_n 1, 1) := by decide +kernel
theorem dX1_clear_13 : decode cX1_clear 13 = .ok (.bipush 8, 2) := by decide +kernel
theorem dX1_clear_15 : decode cX1_clear 15 = .ok (.if_icmp .ge 44, 3) := by decide +kernel
theorem dX1_clear_18 : decode cX1_clear 18 = .ok (.aload_n 0, 1) := by decide +kernel
theorem dX1_clear_19 : decode cX1_clear 19 = .ok (.getfield 25, 3) := by decide +kernel
theorem dX1_clear_22 : decode cX1_clear 22 = .ok (.iload_n 1, 1) := by decide +kernel
theorem dX1_clear_23 : decode cX1_clear 23 = .ok (.iconst 0, 1) := by decide +kernel
theorem dX1_clear_24 : decode cX1_clear 24 = .ok (.iastore, 1) := by decide +kernel
theorem dX1_clear_25 : decode cX1_clear 25 = .ok (.aload_n 0, 1) := by decide +kernel
theorem dX1_clear_26 : decode cX1_clear 26 = .ok (.getfield 31, 3) := by decide +kernel
theorem dX1_clear_29 : decode cX1_clear 29 = .ok (.iload_n 1, 1) := by decide +kernel
theorem dX1_clear_30 : decode cX1_clear 30 = .ok (.iconst 0, 1) := by decide +kernel
theorem dX1_clear_31 : decode cX1_clear 31 = .ok (.iastore, 1) := by decide +kernel
theorem dX1_clear_32 : decode cX1_clear 32 = .ok (.aload_n 0, 1) := by decide +kernel
theorem dX1_clear_33 : decode cX1_clear 33 = .ok (.getfield 34, 3) := by decide +kernel
theorem dX1_clear_36 : decode cX1_clear 36 = .ok (.iload_n 1, 1) := by decide +kernel
theorem dX1_clear_37 : decode cX1_clear 37 = .ok (.iconst 0, 1) := by decide +kernel
theorem dX1_clear_38 : decode cX1_clear 38 = .ok (.iastore, 1) := by decide +kernel
theorem dX1_clear_39 : decode cX1_clear 39 = .ok (.aload_n 0, 1) := by decide +kernel
theorem dX1_clear_40 : decode cX1_clear 40 = .ok (.getfield 37, 3) := by decide +kernel
theorem dX1_clear_43 : decode cX1_clear 43 = .ok (.iload_n 1, 1) := by decide +kernel
theorem dX1_clear_44 : decode cX1_clear 44 = .ok (.iconst (-1), 1) := by decide +kernel
theorem dX1_clear_45 : decode cX1_clear 45 = .ok (.iastore, 1) := by decide +kernel
theorem dX1_clear_46 : decode cX1_clear 46 = .ok (.aload_n 0, 1) := by decide +kernel
theorem dX1_clear_47 : decode cX1_clear 47 = .ok (.getfield 40, 3) := by decide +kernel
theorem dX1_clear_50 : decode cX1_clear 50 = .ok (.iload_n 1, 1) := by decide +kernel
theorem dX1_clear_51 : decode cX1_clear 51 = .ok (.iconst (-1), 1) := by decide +kernel
theorem dX1_clear_52 : decode cX1_clear 52 = .ok (.iastore, 1) := by decide +kernel
theorem dX1_clear_53 : decode cX1_clear 53 = .ok (.iinc 1 1, 3) := by decide +kernel
theorem dX1_clear_56 : decode cX1_clear 56 = .ok (.goto (-44), 3) := by decide +kernel
theorem dX1_clear_59 : decode cX1_clear 59 = .ok (.return_, 1) := by decide +kernel
theorem dX1_copy_0 : decode cX1_copy 0 = .ok (.aload_n 0, 1) := by decide +kernel
theorem dX1_copy_1 : decode cX1_copy 1 = .ok (.aload_n 1, 1) := by decide +kernel
theorem dX1_copy_2 : decode cX1_copy 2 = .ok (.getfield 9, 3) := by decide +kernel
theorem dX1_copy_5 : decode cX1_copy 5 = .ok (.putfield 9, 3) := by decide +kernel
theorem dX1_copy_8 : decode cX1_copy 8 = .ok (.aload_n 0, 1) := by decide +kernel
theorem dX1_copy_9 : decode cX1_copy 9 = .ok (.aload_n 1, 1) := by decide +kernel
theorem dX1_copy_10 : decode cX1_copy 10 = .ok (.getfield 15, 3) := by decide +kernel
theorem dX1_copy_13 : decode cX1_copy 13 = .ok (.putfield 15, 3) := by decide +kernel
theorem dX1_copy_16 : decode cX1_copy 16 = .ok (.aload_n 1, 1) := by decide +kernel
theorem dX1_copy_17 : decode cX1_copy 17 = .ok (.getfield 18, 3) := by decide +kernel
theorem dX1_copy_20 : decode cX1_copy 20 = .ok (.iconst 0, 1) := by decide +kernel
theorem dX1_copy_21 : decode cX1_copy 21 = .ok (.aload_n 0, 1) := by decide +kernel
theorem dX1_copy_22 : decode cX1_copy 22 = .ok (.getfield 18, 3) := by decide +kernel
theorem dX1_copy_25 : decode cX1_copy 25 = .ok (.iconst 0, 1) := by decide +kernel
theorem dX1_copy_26 : decode cX1_copy 26 = .ok (.bipush 8, 2) := by decide +kernel
theorem dX1_copy_28 : decode cX1_copy 28 = .ok (.invokestatic 46, 3) := by decide +kernel
theorem dX1_copy_31 : decode cX1_copy 31 = .ok (.aload_n 1, 1) := by decide +kernel
theorem dX1_copy_32 : decode cX1_copy 32 = .ok (.getfield 22, 3) := by decide +kernel
theorem dX1_copy_35 : decode cX1_copy 35 = .ok (.iconst 0, 1) := by decide +kernel
theorem dX1_copy_36 : decode cX1_copy 36 = .ok (.aload_n 0, 1) := by decide +kernel
theorem dX1_copy_37 : decode cX1_copy 37 = .ok (.getfield 22, 3) := by decide +kernel
theorem dX1_copy_40 : decode cX1_copy 40 = .ok (.iconst 0, 1) := by decide +kernel
theorem dX1_copy_41 : decode cX1_copy 41 = .ok (.bipush 8, 2) := by decide +kernel
theorem dX1_copy_43 : decode cX1_copy 43 = .ok (.invokestatic 46, 3) := by decide +kernel
theorem dX1_copy_46 : decode cX1_copy 46 = .ok (.aload_n 1, 1) := by decide +kernel
theorem dX1_copy_47 : decode cX1_copy 47 = .ok (.getfield 25, 3) := by decide +kernel
theorem dX1_copy_50 : decode cX1_copy 50 = .ok (.iconst 0, 1) := by decide +kernel
theorem dX1_copy_51 : decode cX1_copy 51 = .ok (.aload_n 0, 1) := by decide +kernel
theorem dX1_copy_52 : decode cX1_copy 52 = .ok (.getfield 25, 3) := by decide +kernel
theorem dX1_copy_55 : decode cX1_copy 55 = .ok (.iconst 0, 1) := by decide +kernel
theorem dX1_copy_56 : decode cX1_copy 56 = .ok (.bipush 8, 2) := by decide +kernel
theorem dX1_copy_58 : decode cX1_copy 58 = .ok (.invokestatic 46, 3) := by decide +kernel
theorem dX1_copy_61 : decode cX1_copy 61 = .ok (.aload_n 1, 1) := by decide +kernel
theorem dX1_copy_62 : decode cX1_copy 62 = .ok (.getfield 28, 3) := by decide +kernel
theorem dX1_copy_65 : decode cX1_copy 65 = .ok (.iconst 0, 1) := by decide +kernel
theorem dX1_copy_66 : decode cX1_copy 66 = .ok (.aload_n 0, 1) := by decide +kernel
theorem dX1_copy_67 : decode cX1_copy 67 = .ok (.getfield 28, 3) := by decide +kernel
theorem dX1_copy_70 : decode cX1_copy 70 = .ok (.iconst 0, 1) := by decide +kernel
theorem dX1_copy_71 : decode cX1_copy 71 = .ok (.bipush 8, 2) := by decide +kernel
theorem dX1_copy_73 : decode cX1_copy 73 = .ok (.invokestatic 46, 3) := by decide +kernel
theorem dX1_copy_76 : decode cX1_copy 76 = .ok (.aload_n 1, 1) := by decide +kernel
theorem dX1_copy_77 : decode cX1_copy 77 = .ok (.getfield 31, 3) := by decide +kernel
theorem dX1_copy_80 : decode cX1_copy 80 = .ok (.iconst 0, 1) := by decide +kernel
theorem dX1_copy_81 : decode cX1_copy 81 = .ok (.aload_n 0, 1) := by decide +kernel
theorem dX1_copy_82 : decode cX1_copy 82 = .ok (.getfield 31, 3) := by decide +kernel
theorem dX1_copy_85 : decode cX1_copy 85 = .ok (.iconst 0, 1) := by decide +kernel
theorem dX1_copy_86 : decode cX1_copy 86 = .ok (.bipush 8, 2) := by decide +kernel
theorem dX1_copy_88 : decode cX1_copy 88 = .ok (.invokestatic 46, 3) := by decide +kernel
theorem dX1_copy_91 : decode cX1_copy 91 = .ok (.aload_n 1, 1) := by decide +kernel
theorem dX1_copy_92 : decode cX1_copy 92 = .ok (.getfield 34, 3) := by decide +kernel
theorem dX1_copy_95 : decode cX1_copy 95 = .ok (.iconst 0, 1) := by decide +kernel
theorem dX1_copy_96 : decode cX1_copy 96 = .ok (.aload_n 0, 1) := by decide +kernel
theorem dX1_copy_97 : decode cX1_copy 97 = .ok (.getfield 34, 3) := by decide +kernel
theorem dX1_copy_100 : decode cX1_copy 100 = .ok (.iconst 0, 1) := by decide +kernel
theorem dX1_copy_101 : decode cX1_copy 101 = .ok (.bipush 8, 2) := by decide +kernel
theorem dX1_copy_103 : decode cX1_copy 103 = .ok (.invokestatic 46, 3) := by decide +kernel
theorem dX1_copy_106 : decode cX1_copy 106 = .ok (.aload_n 1, 1) := by decide +kernel
theorem dX1_copy_107 : decode cX1_copy 107 = .ok (.getfield 37, 3) := by decide +kernel
theorem dX1_copy_110 : decode cX1_copy 110 = .ok (.iconst 0, 1) := by decide +kernel
theorem dX1_copy_111 : decode cX1_copy 111 = .ok (.aload_n 0, 1) := by decide +kernel
theorem dX1_copy_112 : decode cX1_copy 112 = .ok (.getfield 37, 3) := by decide +kernel
theorem dX1_copy_115 : decode cX1_copy 115 = .ok (.iconst 0, 1) := by decide +kernel
theorem dX1_copy_116 : decode cX1_copy 116 = .ok (.bipush 8, 2) := by decide +kernel
theorem dX1_copy_118 : decode cX1_copy 118 = .ok (.invokestatic 46, 3) := by decide +kernel
theorem dX1_copy_121 : decode cX1_copy 121 = .ok (.aload_n 1, 1) := by decide +kernel
theorem dX1_copy_122 : decode cX1_copy 122 = .ok (.getfield 40, 3) := by decide +kernel
theorem dX1_copy_125 : decode cX1_copy 125 = .ok (.iconst 0, 1) := by decide +kernel
theorem dX1_copy_126 : decode cX1_copy 126 = .ok (.aload_n 0, 1) := by decide +kernel
theorem dX1_copy_127 : decode cX1_copy 127 = .ok (.getfield 40, 3) := by decide +kernel
theorem dX1_copy_130 : decode cX1_copy 130 = .ok (.iconst 0, 1) := by decide +kernel
theorem dX1_copy_131 : decode cX1_copy 131 = .ok (.bipush 8, 2) := by decide +kernel
theorem dX1_copy_133 : decode cX1_copy 133 = .ok (.invokestatic 46, 3) := by decide +kernel
theorem dX1_copy_136 : decode cX1_copy 136 = .ok (.aload_n 1, 1) := by decide +kernel
theorem dX1_copy_137 : decode cX1_copy 137 = .ok (.getfield 43, 3) := by decide +kernel
theorem dX1_copy_140 : decode cX1_copy 140 = .ok (.iconst 0, 1) := by decide +kernel
theorem dX1_copy_141 : decode cX1_copy 141 = .ok (.aload_n 0, 1) := by decide +kernel
theorem dX1_copy_142 : decode cX1_copy 142 = .ok (.getfield 43, 3) := by decide +kernel
theorem dX1_copy_145 : decode cX1_copy 145 = .ok (.iconst 0, 1) := by decide +kernel
theorem dX1_copy_146 : decode cX1_copy 146 = .ok (.bipush 8, 2) := by decide +kernel
theorem dX1_copy_148 : decode cX1_copy 148 = .ok (.invokestatic 46, 3) := by decide +kernel
theorem dX1_copy_151 : decode cX1_copy 151 = .ok (.return_, 1) := by decide +kernel
theorem dX1_find_0 : decode cX1_find 0 = .ok (.iconst 0, 1) := by decide +kernel
theorem dX1_find_1 : decode cX1_find 1 = .ok (.istore_n 2, 1) := by decide +kernel
theorem dX1_find_2 : decode cX1_find 2 = .ok (.iload_n 2, 1) := by decide +kernel
theorem dX1_find_3 : decode cX1_find 3 = .ok (.aload_n 0, 1) := by decide +kernel
theorem dX1_find_4 : decode cX1_find 4 = .ok (.getfield 9, 3) := by decide +kernel
theorem dX1_find_7 : decode cX1_find 7 = .ok (.if_icmp .ge 21, 3) := by decide +kernel
theorem dX1_find_10 : decode cX1_find 10 = .ok (.aload_n 0, 1) := by decide +kernel
theorem dX1_find_11 : decode cX1_find 11 = .ok (.getfield 18, 3) := by decide +kernel
theorem dX1_find_14 : decode cX1_find 14 = .ok (.iload_n 2, 1) := by decide +kernel
theorem dX1_find_15 : decode cX1_find 15 = .ok (.iaload, 1) := by decide +kernel
theorem dX1_find_16 : decode cX1_find 16 = .ok (.iload_n 1, 1) := by decide +kernel
theorem dX1_find_17 : decode cX1_find 17 = .ok (.if_icmp .ne 5, 3) := by decide +kernel
theorem dX1_find_20 : decode cX1_find 20 = .ok (.iload_n 2, 1) := by decide +kernel
theorem dX1_find_21 : decode cX1_find 21 = .ok (.ireturn, 1) := by decide +kernel
theorem dX1_find_22 : decode cX1_find 22 = .ok (.iinc 2 1, 3) := by decide +kernel
theorem dX1_find_25 : decode cX1_find 25 = .ok (.goto (-23), 3) := by decide +kernel
theorem dX1_find_28 : decode cX1_find 28 = .ok (.iconst (-1), 1) := by decide +kernel
theorem dX1_find_29 : decode cX1_find 29 = .ok (.ireturn, 1) := by decide +kernel
theorem dX1_take_0 : decode cX1_take 0 = .ok (.aload_n 0, 1) := by decide +kernel
theorem dX1_take_1 : decode cX1_take 1 = .ok (.aload_n 1, 1) := by decide +kernel
theorem dX1_take_2 : decode cX1_take 2 = .ok (.invokevirtual 52, 3) := by decide +kernel
theorem dX1_take_5 : decode cX1_take 5 = .ok (.invokevirtual 58, 3) := by decide +kernel
theorem dX1_take_8 : decode cX1_take 8 = .ok (.istore_n 2, 1) := by decide +kernel
theorem dX1_take_9 : decode cX1_take 9 = .ok (.iload_n 2, 1) := by decide +kernel
theorem dX1_take_10 : decode cX1_take 10 = .ok (.iconst (-1), 1) := by decide +kernel
theorem dX1_take_11 : decode cX1_take 11 = .ok (.if_icmp .ne 8, 3) := by decide +kernel
theorem dX1_take_14 : decode cX1_take 14 = .ok (.aload_n 1, 1) := by decide +kernel
theorem dX1_take_15 : decode cX1_take 15 = .ok (.iconst 3, 1) := by decide +kernel
theorem dX1_take_16 : decode cX1_take 16 = .ok (.invokevirtual 62, 3) := by decide +kernel
theorem dX1_take_19 : decode cX1_take 19 = .ok (.aload_n 1, 1) := by decide +kernel
theorem dX1_take_20 : decode cX1_take 20 = .ok (.invokevirtual 66, 3) := by decide +kernel
theorem dX1_take_23 : decode cX1_take 23 = .ok (.ifCond .eq 7, 3) := by decide +kernel
theorem dX1_take_26 : decode cX1_take 26 = .ok (.iload_n 2, 1) := by decide +kernel
theorem dX1_take_27 : decode cX1_take 27 = .ok (.goto 4, 3) := by decide +kernel
theorem dX1_take_30 : decode cX1_take 30 = .ok (.iconst (-1), 1) := by decide +kernel
theorem dX1_take_31 : decode cX1_take 31 = .ok (.ireturn, 1) := by decide +kernel
theorem dX1_hasPlotOn_0 : decode cX1_hasPlotOn 0 = .ok (.iconst 0, 1) := by decide +kernel
theorem dX1_hasPlotOn_1 : decode cX1_hasPlotOn 1 = .ok (.istore_n 2, 1) := by decide +kernel
theorem dX1_hasPlotOn_2 : decode cX1_hasPlotOn 2 = .ok (.iload_n 2, 1) := by decide +kernel
theorem dX1_hasPlotOn_3 : decode cX1_hasPlotOn 3 = .ok (.aload_n 0, 1) := by decide +kernel
theorem dX1_hasPlotOn_4 : decode cX1_hasPlotOn 4 = .ok (.getfield 9, 3) := by decide +kernel
theorem dX1_hasPlotOn_7 : decode cX1_hasPlotOn 7 = .ok (.if_icmp .ge 21, 3) := by decide +kernel
theorem dX1_hasPlotOn_10 : decode cX1_hasPlotOn 10 = .ok (.aload_n 0, 1) := by decide +kernel
theorem dX1_hasPlotOn_11 : decode cX1_hasPlotOn 11 = .ok (.getfield 40, 3) := by decide +kernel
theorem dX1_hasPlotOn_14 : decode cX1_hasPlotOn 14 = .ok (.iload_n 2, 1) := by decide +kernel
theorem dX1_hasPlotOn_15 : decode cX1_hasPlotOn 15 = .ok (.iaload, 1) := by decide +kernel
theorem dX1_hasPlotOn_16 : decode cX1_hasPlotOn 16 = .ok (.iload_n 1, 1) := by decide +kernel
theorem dX1_hasPlotOn_17 : decode cX1_hasPlotOn 17 = .ok (.if_icmp .ne 5, 3) := by decide +kernel
theorem dX1_hasPlotOn_20 : decode cX1_hasPlotOn 20 = .ok (.iconst 1, 1) := by decide +kernel
theorem dX1_hasPlotOn_21 : decode cX1_hasPlotOn 21 = .ok (.ireturn, 1) := by decide +kernel
theorem dX1_hasPlotOn_22 : decode cX1_hasPlotOn 22 = .ok (.iinc 2 1, 3) := by decide +kernel
theorem dX1_hasPlotOn_25 : decode cX1_hasPlotOn 25 = .ok (.goto (-23), 3) := by decide +kernel
theorem dX1_hasPlotOn_28 : decode cX1_hasPlotOn 28 = .ok (.iconst 0, 1) := by decide +kernel
theorem dX1_hasPlotOn_29 : decode cX1_hasPlotOn 29 = .ok (.ireturn, 1) := by decide +kernel
theorem dX1_sortByShare_0 : decode cX1_sortByShare 0 = .ok (.iconst 0, 1) := by decide +kernel
theorem dX1_sortByShare_1 : decode cX1_sortByShare 1 = .ok (.istore_n 1, 1) := by decide +kernel
theorem dX1_sortByShare_2 : decode cX1_sortByShare 2 = .ok (.iload_n 1, 1) := by decide +kernel
theorem dX1_sortByShare_3 : decode cX1_sortByShare 3 = .ok (.aload_n 0, 1) := by decide +kernel
theorem dX1_sortByShare_4 : decode cX1_sortByShare 4 = .ok (.getfield 9, 3) := by decide +kernel
theorem dX1_sortByShare_7 : decode cX1_sortByShare 7 = .ok (.if_icmp .ge 78, 3) := by decide +kernel
theorem dX1_sortByShare_10 : decode cX1_sortByShare 10 = .ok (.iconst 0, 1) := by decide +kernel
theorem dX1_sortByShare_11 : decode cX1_sortByShare 11 = .ok (.istore_n 2, 1) := by decide +kernel
theorem dX1_sortByShare_12 : decode cX1_sortByShare 12 = .ok (.iconst 0, 1) := by decide +kernel
theorem dX1_sortByShare_13 : decode cX1_sortByShare 13 = .ok (.istore_n 3, 1) := by decide +kernel
theorem dX1_sortByShare_14 : decode cX1_sortByShare 14 = .ok (.iload_n 3, 1) := by decide +kernel
theorem dX1_sortByShare_15 : decode cX1_sortByShare 15 = .ok (.aload_n 0, 1) := by decide +kernel
theorem dX1_sortByShare_16 : decode cX1_sortByShare 16 = .ok (.getfield 9, 3) := by decide +kernel
theorem dX1_sortByShare_19 : decode cX1_sortByShare 19 = .ok (.if_icmp .ge 47, 3) := by decide +kernel
theorem dX1_sortByShare_22 : decode cX1_sortByShare 22 = .ok (.aload_n 0, 1) := by decide +kernel
theorem dX1_sortByShare_23 : decode cX1_sortByShare 23 = .ok (.getfield 28, 3) := by decide +kernel
theorem dX1_sortByShare_26 : decode cX1_sortByShare 26 = .ok (.iload_n 3, 1) := by decide +kernel
theorem dX1_sortByShare_27 : decode cX1_sortByShare 27 = .ok (.iaload, 1) := by decide +kernel
theorem dX1_sortByShare_28 : decode cX1_sortByShare 28 = .ok (.aload_n 0, 1) := by decide +kernel
theorem dX1_sortByShare_29 : decode cX1_sortByShare 29 = .ok (.getfield 28, 3) := by decide +kernel
theorem dX1_sortByShare_32 : decode cX1_sortByShare 32 = .ok (.iload_n 1, 1) := by decide +kernel
theorem dX1_sortByShare_33 : decode cX1_sortByShare 33 = .ok (.iaload, 1) := by decide +kernel
theorem dX1_sortByShare_34 : decode cX1_sortByShare 34 = .ok (.if_icmp .gt 23, 3) := by decide +kernel
theorem dX1_sortByShare_37 : decode cX1_sortByShare 37 = .ok (.aload_n 0, 1) := by decide +kernel
theorem dX1_sortByShare_38 : decode cX1_sortByShare 38 = .ok (.getfield 28, 3) := by decide +kernel
theorem dX1_sortByShare_41 : decode cX1_sortByShare 41 = .ok (.iload_n 3, 1) := by decide +kernel
theorem dX1_sortByShare_42 : decode cX1_sortByShare 42 = .ok (.iaload, 1) := by decide +kernel
theorem dX1_sortByShare_43 : decode cX1_sortByShare 43 = .ok (.aload_n 0, 1) := by decide +kernel
theorem dX1_sortByShare_44 : decode cX1_sortByShare 44 = .ok (.getfield 28, 3) := by decide +kernel
theorem dX1_sortByShare_47 : decode cX1_sortByShare 47 = .ok (.iload_n 1, 1) := by decide +kernel
theorem dX1_sortByShare_48 : decode cX1_sortByShare 48 = .ok (.iaload, 1) := by decide +kernel
theorem dX1_sortByShare_49 : decode cX1_sortByShare 49 = .ok (.if_icmp .ne 11, 3) := by decide +kernel
theorem dX1_sortByShare_52 : decode cX1_sortByShare 52 = .ok (.iload_n 3, 1) := by decide +kernel
theorem dX1_sortByShare_53 : decode cX1_sortByShare 53 = .ok (.iload_n 1, 1) := by decide +kernel
theorem dX1_sortByShare_54 : decode cX1_sortByShare 54 = .ok (.if_icmp .ge 6, 3) := by decide +kernel
theorem dX1_sortByShare_57 : decode cX1_sortByShare 57 = .ok (.iinc 2 1, 3) := by decide +kernel
theorem dX1_sortByShare_60 : decode cX1_sortByShare 60 = .ok (.iinc 3 1, 3) := by decide +kernel
theorem dX1_sortByShare_63 : decode cX1_sortByShare 63 = .ok (.goto (-49), 3) := by decide +kernel
theorem dX1_sortByShare_66 : decode cX1_sortByShare 66 = .ok (.iload_n 2, 1) := by decide +kernel
theorem dX1_sortByShare_67 : decode cX1_sortByShare 67 = .ok (.bipush 8, 2) := by decide +kernel
theorem dX1_sortByShare_69 : decode cX1_sortByShare 69 = .ok (.if_icmp .ge 10, 3) := by decide +kernel
theorem dX1_sortByShare_72 : decode cX1_sortByShare 72 = .ok (.aload_n 0, 1) := by decide +kernel
theorem dX1_sortByShare_73 : decode cX1_sortByShare 73 = .ok (.getfield 43, 3) := by decide +kernel
theorem dX1_sortByShare_76 : decode cX1_sortByShare 76 = .ok (.iload_n 2, 1) := by decide +kernel
theorem dX1_sortByShare_77 : decode cX1_sortByShare 77 = .ok (.iload_n 1, 1) := by decide +kernel
theorem dX1_sortByShare_78 : decode cX1_sortByShare 78 = .ok (.iastore, 1) := by decide +kernel
theorem dX1_sortByShare_79 : decode cX1_sortByShare 79 = .ok (.iinc 1 1, 3) := by decide +kernel
theorem dX1_sortByShare_82 : decode cX1_sortByShare 82 = .ok (.goto (-80), 3) := by decide +kernel
theorem dX1_sortByShare_85 : decode cX1_sortByShare 85 = .ok (.return_, 1) := by decide +kernel
theorem dX2_forget_0 : decode cX2_forget 0 = .ok (.aload_n 0, 1) := by decide +kernel
theorem dX2_forget_1 : decode cX2_forget 1 = .ok (.iconst 0, 1) := by decide +kernel
theorem dX2_forget_2 : decode cX2_forget 2 = .ok (.putfield 21, 3) := by decide +kernel
theorem dX2_forget_5 : decode cX2_forget 5 = .ok (.return_, 1) := by decide +kernel
theorem dX2_push_0 : decode cX2_push 0 = .ok (.aload_n 0, 1) := by decide +kernel
theorem dX2_push_1 : decode cX2_push 1 = .ok (.getfield 11, 3) := by decide +kernel
theorem dX2_push_4 : decode cX2_push 4 = .ok (.aload_n 0, 1) := by decide +kernel
theorem dX2_push_5 : decode cX2_push 5 = .ok (.getfield 17, 3) := by decide +kernel
theorem dX2_push_8 : decode cX2_push 8 = .ok (.aaload, 1) := by decide +kernel
theorem dX2_push_9 : decode cX2_push 9 = .ok (.aload_n 1, 1) := by decide +kernel
theorem dX2_push_10 : decode cX2_push 10 = .ok (.invokevirtual 25, 3) := by decide +kernel
theorem dX2_push_13 : decode cX2_push 13 = .ok (.aload_n 0, 1) := by decide +kernel
theorem dX2_push_14 : decode cX2_push 14 = .ok (.aload_n 0, 1) := by decide +kernel
theorem dX2_push_15 : decode cX2_push 15 = .ok (.getfield 17, 3) := by decide +kernel
theorem dX2_push_18 : decode cX2_push 18 = .ok (.iconst 1, 1) := by decide +kernel
theorem dX2_push_19 : decode cX2_push 19 = .ok (.iadd, 1) := by decide +kernel
theorem dX2_push_20 : decode cX2_push 20 = .ok (.bipush 8, 2) := by decide +kernel
theorem dX2_push_22 : decode cX2_push 22 = .ok (.irem, 1) := by decide +kernel
theorem dX2_push_23 : decode cX2_push 23 = .ok (.putfield 17, 3) := by decide +kernel
theorem dX2_push_26 : decode cX2_push 26 = .ok (.aload_n 0, 1) := by decide +kernel
theorem dX2_push_27 : decode cX2_push 27 = .ok (.aload_n 0, 1) := by decide +kernel
theorem dX2_push_28 : decode cX2_push 28 = .ok (.getfield 21, 3) := by decide +kernel
theorem dX2_push_31 : decode cX2_push 31 = .ok (.iconst 1, 1) := by decide +kernel
theorem dX2_push_32 : decode cX2_push 32 = .ok (.iadd, 1) := by decide +kernel
theorem dX2_push_33 : decode cX2_push 33 = .ok (.bipush 8, 2) := by decide +kernel
theorem dX2_push_35 : decode cX2_push 35 = .ok (.invokestatic 29, 3) := by decide +kernel
theorem dX2_push_38 : decode cX2_push 38 = .ok (.putfield 21, 3) := by decide +kernel
theorem dX2_push_41 : decode cX2_push 41 = .ok (.return_, 1) := by decide +kernel
theorem dX2_pop_0 : decode cX2_pop 0 = .ok (.aload_n 0, 1) := by decide +kernel
theorem dX2_pop_1 : decode cX2_pop 1 = .ok (.getfield 21, 3) := by decide +kernel
theorem dX2_pop_4 : decode cX2_pop 4 = .ok (.ifCond .le 42, 3) := by decide +kernel
theorem dX2_pop_7 : decode cX2_pop 7 = .ok (.aload_n 0, 1) := by decide +kernel
theorem dX2_pop_8 : decode cX2_pop 8 = .ok (.aload_n 0, 1) := by decide +kernel
theorem dX2_pop_9 : decode cX2_pop 9 = .ok (.getfield 17, 3) := by decide +kernel
theorem dX2_pop_12 : decode cX2_pop 12 = .ok (.bipush 8, 2) := by decide +kernel
theorem dX2_pop_14 : decode cX2_pop 14 = .ok (.iadd, 1) := by decide +kernel
theorem dX2_pop_15 : decode cX2_pop 15 = .ok (.iconst 1, 1) := by decide +kernel
theorem dX2_pop_16 : decode cX2_pop 16 = .ok (.isub, 1) := by decide +kernel
theorem dX2_pop_17 : decode cX2_pop 17 = .ok (.bipush 8, 2) := by decide +kernel
theorem dX2_pop_19 : decode cX2_pop 19 = .ok (.irem, 1) := by decide +kernel
theorem dX2_pop_20 : decode cX2_pop 20 = .ok (.putfield 17, 3) := by decide +kernel
theorem dX2_pop_23 : decode cX2_pop 23 = .ok (.aload_n 0, 1) := by decide +kernel
theorem dX2_pop_24 : decode cX2_pop 24 = .ok (.dup, 1) := by decide +kernel
theorem dX2_pop_25 : decode cX2_pop 25 = .ok (.getfield 21, 3) := by decide +kernel
theorem dX2_pop_28 : decode cX2_pop 28 = .ok (.iconst 1, 1) := by decide +kernel
theorem dX2_pop_29 : decode cX2_pop 29 = .ok (.isub, 1) := by decide +kernel
theorem dX2_pop_30 : decode cX2_pop 30 = .ok (.putfield 21, 3) := by decide +kernel
theorem dX2_pop_33 : decode cX2_pop 33 = .ok (.aload_n 1, 1) := by decide +kernel
theorem dX2_pop_34 : decode cX2_pop 34 = .ok (.aload_n 0, 1) := by decide +kernel
theorem dX2_pop_35 : decode cX2_pop 35 = .ok (.getfield 11, 3) := by decide +kernel
theorem dX2_pop_38 : decode cX2_pop 38 = .ok (.aload_n 0, 1) := by decide +kernel
theorem dX2_pop_39 : decode cX2_pop 39 = .ok (.getfield 17, 3) := by decide +kernel
theorem dX2_pop_42 : decode cX2_pop 42 = .ok (.aaload, 1) := by decide +kernel
theorem dX2_pop_43 : decode cX2_pop 43 = .ok (.invokevirtual 25, 3) := by decide +kernel
theorem dX2_pop_46 : decode cX2_pop 46 = .ok (.return_, 1) := by decide +kernel
theorem dX3_copy_0 : decode cX3_copy 0 = .ok (.aload_n 0, 1) := by decide +kernel
theorem dX3_copy_1 : decode cX3_copy 1 = .ok (.aload_n 1, 1) := by decide +kernel
theorem dX3_copy_2 : decode cX3_copy 2 = .ok (.getfield 9, 3) := by decide +kernel
theorem dX3_copy_5 : decode cX3_copy 5 = .ok (.putfield 9, 3) := by decide +kernel
theorem dX3_copy_8 : decode cX3_copy 8 = .ok (.aload_n 1, 1) := by decide +kernel
theorem dX3_copy_9 : decode cX3_copy 9 = .ok (.getfield 15, 3) := by decide +kernel
theorem dX3_copy_12 : decode cX3_copy 12 = .ok (.iconst 0, 1) := by decide +kernel
theorem dX3_copy_13 : decode cX3_copy 13 = .ok (.aload_n 0, 1) := by decide +kernel
theorem dX3_copy_14 : decode cX3_copy 14 = .ok (.getfield 15, 3) := by decide +kernel
theorem dX3_copy_17 : decode cX3_copy 17 = .ok (.iconst 0, 1) := by decide +kernel
theorem dX3_copy_18 : decode cX3_copy 18 = .ok (.bipush 30, 2) := by decide +kernel
theorem dX3_copy_20 : decode cX3_copy 20 = .ok (.invokestatic 25, 3) := by decide +kernel
theorem dX3_copy_23 : decode cX3_copy 23 = .ok (.aload_n 1, 1) := by decide +kernel
theorem dX3_copy_24 : decode cX3_copy 24 = .ok (.getfield 19, 3) := by decide +kernel
theorem dX3_copy_27 : decode cX3_copy 27 = .ok (.iconst 0, 1) := by decide +kernel
theorem dX3_copy_28 : decode cX3_copy 28 = .ok (.aload_n 0, 1) := by decide +kernel
theorem dX3_copy_29 : decode cX3_copy 29 = .ok (.getfield 19, 3) := by decide +kernel
theorem dX3_copy_32 : decode cX3_copy 32 = .ok (.iconst 0, 1) := by decide +kernel
theorem dX3_copy_33 : decode cX3_copy 33 = .ok (.bipush 30, 2) := by decide +kernel
theorem dX3_copy_35 : decode cX3_copy 35 = .ok (.invokestatic 25, 3) := by decide +kernel
theorem dX3_copy_38 : decode cX3_copy 38 = .ok (.aload_n 1, 1) := by decide +kernel
theorem dX3_copy_39 : decode cX3_copy 39 = .ok (.getfield 22, 3) := by decide +kernel
theorem dX3_copy_42 : decode cX3_copy 42 = .ok (.iconst 0, 1) := by decide +kernel
theorem dX3_copy_43 : decode cX3_copy 43 = .ok (.aload_n 0, 1) := by decide +kernel
theorem dX3_copy_44 : decode cX3_copy 44 = .ok (.getfield 22, 3) := by decide +kernel
theorem dX3_copy_47 : decode cX3_copy 47 = .ok (.iconst 0, 1) := by decide +kernel
theorem dX3_copy_48 : decode cX3_copy 48 = .ok (.bipush 30, 2) := by decide +kernel
theorem dX3_copy_50 : decode cX3_copy 50 = .ok (.invokestatic 25, 3) := by decide +kernel
theorem dX3_copy_53 : decode cX3_copy 53 = .ok (.return_, 1) := by decide +kernel
theorem dX3_read_0 : decode cX3_read 0 = .ok (.aload_n 0, 1) := by decide +kernel
theorem dX3_read_1 : decode cX3_read 1 = .ok (.iconst 0, 1) := by decide +kernel
theorem dX3_read_2 : decode cX3_read 2 = .ok (.putfield 9, 3) := by decide +kernel
theorem dX3_read_5 : decode cX3_read 5 = .ok (.iconst 0, 1) := by decide +kernel
theorem dX3_read_6 : decode cX3_read 6 = .ok (.istore_n 3, 1) := by decide +kernel
theorem dX3_read_7 : decode cX3_read 7 = .ok (.iload_n 3, 1) := by decide +kernel
theorem dX3_read_8 : decode cX3_read 8 = .ok (.bipush 30, 2) := by decide +kernel
theorem dX3_read_10 : decode cX3_read 10 = .ok (.if_icmp .gt 71, 3) := by decide +kernel
theorem dX3_read_13 : decode cX3_read 13 = .ok (.aload_n 1, 1) := by decide +kernel
theorem dX3_read_14 : decode cX3_read 14 = .ok (.invokevirtual 31, 3) := by decide +kernel
theorem dX3_read_17 : decode cX3_read 17 = .ok (.ifCond .eq 64, 3) := by decide +kernel
theorem dX3_read_20 : decode cX3_read 20 = .ok (.aload_n 1, 1) := by decide +kernel
theorem dX3_read_21 : decode cX3_read 21 = .ok (.bipush 10, 2) := by decide +kernel
theorem dX3_read_23 : decode cX3_read 23 = .ok (.bipush 14, 2) := by decide +kernel
theorem dX3_read_25 : decode cX3_read 25 = .ok (.invokevirtual 37, 3) := by decide +kernel
theorem dX3_read_28 : decode cX3_read 28 = .ok (.istore 4, 2) := by decide +kernel
theorem dX3_read_30 : decode cX3_read 30 = .ok (.aload_n 0, 1) := by decide +kernel
theorem dX3_read_31 : decode cX3_read 31 = .ok (.getfield 9, 3) := by decide +kernel
theorem dX3_read_34 : decode cX3_read 34 = .ok (.bipush 30, 2) := by decide +kernel
theorem dX3_read_36 : decode cX3_read 36 = .ok (.if_icmp .lt 8, 3) := by decide +kernel
theorem dX3_read_39 : decode cX3_read 39 = .ok (.aload_n 1, 1) := by decide +kernel
theorem dX3_read_40 : decode cX3_read 40 = .ok (.iconst 4, 1) := by decide +kernel
theorem dX3_read_41 : decode cX3_read 41 = .ok (.invokevirtual 41, 3) := by decide +kernel
theorem dX3_read_44 : decode cX3_read 44 = .ok (.aload_n 0, 1) := by decide +kernel
theorem dX3_read_45 : decode cX3_read 45 = .ok (.aload_n 1, 1) := by decide +kernel
theorem dX3_read_46 : decode cX3_read 46 = .ok (.aload_n 2, 1) := by decide +kernel
theorem dX3_read_47 : decode cX3_read 47 = .ok (.iload 4, 2) := by decide +kernel
theorem dX3_read_49 : decode cX3_read 49 = .ok (.invokevirtual 45, 3) := by decide +kernel
theorem dX3_read_52 : decode cX3_read 52 = .ok (.aload_n 1, 1) := by decide +kernel
theorem dX3_read_53 : decode cX3_read 53 = .ok (.bipush 59, 2) := by decide +kernel
theorem dX3_read_55 : decode cX3_read 55 = .ok (.invokevirtual 49, 3) := by decide +kernel
theorem dX3_read_58 : decode cX3_read 58 = .ok (.aload_n 1, 1) := by decide +kernel
theorem dX3_read_59 : decode cX3_read 59 = .ok (.invokevirtual 53, 3) := by decide +kernel
theorem dX3_read_62 : decode cX3_read 62 = .ok (.ifCond .eq 13, 3) := by decide +kernel
theorem dX3_read_65 : decode cX3_read 65 = .ok (.aload_n 0, 1) := by decide +kernel
theorem dX3_read_66 : decode cX3_read 66 = .ok (.dup, 1) := by decide +kernel
theorem dX3_read_67 : decode cX3_read 67 = .ok (.getfield 9, 3) := by decide +kernel
theorem dX3_read_70 : decode cX3_read 70 = .ok (.iconst 1, 1) := by decide +kernel
theorem dX3_read_71 : decode cX3_read 71 = .ok (.iadd, 1) := by decide +kernel
theorem dX3_read_72 : decode cX3_read 72 = .ok (.putfield 9, 3) := by decide +kernel
theorem dX3_read_75 : decode cX3_read 75 = .ok (.iinc 3 1, 3) := by decide +kernel
theorem dX3_read_78 : decode cX3_read 78 = .ok (.goto (-71), 3) := by decide +kernel
theorem dX3_read_81 : decode cX3_read 81 = .ok (.return_, 1) := by decide +kernel
theorem dX3_readLine_0 : decode cX3_readLine 0 = .ok (.aload_n 1, 1) := by decide +kernel
theorem dX3_readLine_1 : decode cX3_readLine 1 = .ok (.invokevirtual 53, 3) := by decide +kernel
theorem dX3_readLine_4 : decode cX3_readLine 4 = .ok (.ifCond .eq 12, 3) := by decide +kernel
theorem dX3_readLine_7 : decode cX3_readLine 7 = .ok (.aload_n 0, 1) := by decide +kernel
theorem dX3_readLine_8 : decode cX3_readLine 8 = .ok (.getfield 9, 3) := by decide +kernel
theorem dX3_readLine_11 : decode cX3_readLine 11 = .ok (.bipush 30, 2) := by decide +kernel
theorem dX3_readLine_13 : decode cX3_readLine 13 = .ok (.if_icmp .lt 4, 3) := by decide +kernel
theorem dX3_readLine_16 : decode cX3_readLine 16 = .ok (.return_, 1) := by decide +kernel
theorem dX3_readLine_17 : decode cX3_readLine 17 = .ok (.aload_n 0, 1) := by decide +kernel
theorem dX3_readLine_18 : decode cX3_readLine 18 = .ok (.getfield 15, 3) := by decide +kernel
theorem dX3_readLine_21 : decode cX3_readLine 21 = .ok (.aload_n 0, 1) := by decide +kernel
theorem dX3_readLine_22 : decode cX3_readLine 22 = .ok (.getfield 9, 3) := by decide +kernel
theorem dX3_readLine_25 : decode cX3_readLine 25 = .ok (.iload_n 3, 1) := by decide +kernel
theorem dX3_readLine_26 : decode cX3_readLine 26 = .ok (.iastore, 1) := by decide +kernel
theorem dX3_readLine_27 : decode cX3_readLine 27 = .ok (.aload_n 0, 1) := by decide +kernel
theorem dX3_readLine_28 : decode cX3_readLine 28 = .ok (.getfield 22, 3) := by decide +kernel
theorem dX3_readLine_31 : decode cX3_readLine 31 = .ok (.aload_n 0, 1) := by decide +kernel
theorem dX3_readLine_32 : decode cX3_readLine 32 = .ok (.getfield 9, 3) := by decide +kernel
theorem dX3_readLine_35 : decode cX3_readLine 35 = .ok (.iconst 0, 1) := by decide +kernel
theorem dX3_readLine_36 : decode cX3_readLine 36 = .ok (.iastore, 1) := by decide +kernel
theorem dX3_readLine_37 : decode cX3_readLine 37 = .ok (.iload_n 3, 1) := by decide +kernel
theorem dX3_readLine_38 : decode cX3_readLine 38 = .ok (.tableswitch 123 10 13 #[30, 47, 67, 87], 30) := by decide +kernel
theorem dX3_readLine_68 : decode cX3_readLine 68 = .ok (.aload_n 0, 1) := by decide +kernel
theorem dX3_readLine_69 : decode cX3_readLine 69 = .ok (.getfield 19, 3) := by decide +kernel
theorem dX3_readLine_72 : decode cX3_readLine 72 = .ok (.aload_n 0, 1) := by decide +kernel
theorem dX3_readLine_73 : decode cX3_readLine 73 = .ok (.getfield 9, 3) := by decide +kernel
theorem dX3_readLine_76 : decode cX3_readLine 76 = .ok (.aload_n 2, 1) := by decide +kernel
theorem dX3_readLine_77 : decode cX3_readLine 77 = .ok (.aload_n 1, 1) := by decide +kernel
theorem dX3_readLine_78 : decode cX3_readLine 78 = .ok (.invokevirtual 56, 3) := by decide +kernel
theorem dX3_readLine_81 : decode cX3_readLine 81 = .ok (.iastore, 1) := by decide +kernel
theorem dX3_readLine_82 : decode cX3_readLine 82 = .ok (.goto 95, 3) := by decide +kernel
theorem dX3_readLine_85 : decode cX3_readLine 85 = .ok (.aload_n 0, 1) := by decide +kernel
theorem dX3_readLine_86 : decode cX3_readLine 86 = .ok (.getfield 19, 3) := by decide +kernel
theorem dX3_readLine_89 : decode cX3_readLine 89 = .ok (.aload_n 0, 1) := by decide +kernel
theorem dX3_readLine_90 : decode cX3_readLine 90 = .ok (.getfield 9, 3) := by decide +kernel
theorem dX3_readLine_93 : decode cX3_readLine 93 = .ok (.aload_n 1, 1) := by decide +kernel
theorem dX3_readLine_94 : decode cX3_readLine 94 = .ok (.iconst 0, 1) := by decide +kernel
theorem dX3_readLine_95 : decode cX3_readLine 95 = .ok (.sipush 999, 3) := by decide +kernel
theorem dX3_readLine_98 : decode cX3_readLine 98 = .ok (.invokevirtual 62, 3) := by decide +kernel
theorem dX3_readLine_101 : decode cX3_readLine 101 = .ok (.iastore, 1) := by decide +kernel
theorem dX3_readLine_102 : decode cX3_readLine 102 = .ok (.goto 75, 3) := by decide +kernel
theorem dX3_readLine_105 : decode cX3_readLine 105 = .ok (.aload_n 0, 1) := by decide +kernel
theorem dX3_readLine_106 : decode cX3_readLine 106 = .ok (.getfield 19, 3) := by decide +kernel
theorem dX3_readLine_109 : decode cX3_readLine 109 = .ok (.aload_n 0, 1) := by decide +kernel
theorem dX3_readLine_110 : decode cX3_readLine 110 = .ok (.getfield 9, 3) := by decide +kernel
theorem dX3_readLine_113 : decode cX3_readLine 113 = .ok (.aload_n 2, 1) := by decide +kernel
theorem dX3_readLine_114 : decode cX3_readLine 114 = .ok (.getfield 65, 3) := by decide +kernel
theorem dX3_readLine_117 : decode cX3_readLine 117 = .ok (.aload_n 1, 1) := by decide +kernel
theorem dX3_readLine_118 : decode cX3_readLine 118 = .ok (.invokevirtual 69, 3) := by decide +kernel
theorem dX3_readLine_121 : decode cX3_readLine 121 = .ok (.iastore, 1) := by decide +kernel
theorem dX3_readLine_122 : decode cX3_readLine 122 = .ok (.goto 55, 3) := by decide +kernel
theorem dX3_readLine_125 : decode cX3_readLine 125 = .ok (.aload_n 0, 1) := by decide +kernel
theorem dX3_readLine_126 : decode cX3_readLine 126 = .ok (.getfield 19, 3) := by decide +kernel
theorem dX3_readLine_129 : decode cX3_readLine 129 = .ok (.aload_n 0, 1) := by decide +kernel
theorem dX3_readLine_130 : decode cX3_readLine 130 = .ok (.getfield 9, 3) := by decide +kernel
theorem dX3_readLine_133 : decode cX3_readLine 133 = .ok (.aload_n 2, 1) := by decide +kernel
theorem dX3_readLine_134 : decode cX3_readLine 134 = .ok (.getfield 65, 3) := by decide +kernel
theorem dX3_readLine_137 : decode cX3_readLine 137 = .ok (.aload_n 1, 1) := by decide +kernel
theorem dX3_readLine_138 : decode cX3_readLine 138 = .ok (.invokevirtual 69, 3) := by decide +kernel
theorem dX3_readLine_141 : decode cX3_readLine 141 = .ok (.iastore, 1) := by decide +kernel
theorem dX3_readLine_142 : decode cX3_readLine 142 = .ok (.aload_n 0, 1) := by decide +kernel
theorem dX3_readLine_143 : decode cX3_readLine 143 = .ok (.getfield 22, 3) := by decide +kernel
theorem dX3_readLine_146 : decode cX3_readLine 146 = .ok (.aload_n 0, 1) := by decide +kernel
theorem dX3_readLine_147 : decode cX3_readLine 147 = .ok (.getfield 9, 3) := by decide +kernel
theorem dX3_readLine_150 : decode cX3_readLine 150 = .ok (.aload_n 1, 1) := by decide +kernel
theorem dX3_readLine_151 : decode cX3_readLine 151 = .ok (.iconst 0, 1) := by decide +kernel
theorem dX3_readLine_152 : decode cX3_readLine 152 = .ok (.bipush 7, 2) := by decide +kernel
theorem dX3_readLine_154 : decode cX3_readLine 154 = .ok (.invokevirtual 62, 3) := by decide +kernel
theorem dX3_readLine_157 : decode cX3_readLine 157 = .ok (.iastore, 1) := by decide +kernel
theorem dX3_readLine_158 : decode cX3_readLine 158 = .ok (.goto 19, 3) := by decide +kernel
theorem dX3_readLine_161 : decode cX3_readLine 161 = .ok (.aload_n 0, 1) := by decide +kernel
theorem dX3_readLine_162 : decode cX3_readLine 162 = .ok (.getfield 19, 3) := by decide +kernel
theorem dX3_readLine_165 : decode cX3_readLine 165 = .ok (.aload_n 0, 1) := by decide +kernel
theorem dX3_readLine_166 : decode cX3_readLine 166 = .ok (.getfield 9, 3) := by decide +kernel
theorem dX3_readLine_169 : decode cX3_readLine 169 = .ok (.aload_n 1, 1) := by decide +kernel
theorem dX3_readLine_170 : decode cX3_readLine 170 = .ok (.iconst 1, 1) := by decide +kernel
theorem dX3_readLine_171 : decode cX3_readLine 171 = .ok (.bipush 48, 2) := by decide +kernel
theorem dX3_readLine_173 : decode cX3_readLine 173 = .ok (.invokevirtual 62, 3) := by decide +kernel
theorem dX3_readLine_176 : decode cX3_readLine 176 = .ok (.iastore, 1) := by decide +kernel
theorem dX3_readLine_177 : decode cX3_readLine 177 = .ok (.return_, 1) := by decide +kernel
theorem dX3_perform_0 : decode cX3_perform 0 = .ok (.aload_n 0, 1) := by decide +kernel
theorem dX3_perform_1 : decode cX3_perform 1 = .ok (.getfield 19, 3) := by decide +kernel
theorem dX3_perform_4 : decode cX3_perform 4 = .ok (.iload_n 1, 1) := by decide +kernel
theorem dX3_perform_5 : decode cX3_perform 5 = .ok (.iaload, 1) := by decide +kernel
theorem dX3_perform_6 : decode cX3_perform 6 = .ok (.istore 5, 2) := by decide +kernel
theorem dX3_perform_8 : decode cX3_perform 8 = .ok (.iconst 0, 1) := by decide +kernel
theorem dX3_perform_9 : decode cX3_perform 9 = .ok (.istore 6, 2) := by decide +kernel
theorem dX3_perform_11 : decode cX3_perform 11 = .ok (.aload_n 0, 1) := by decide +kernel
theorem dX3_perform_12 : decode cX3_perform 12 = .ok (.getfield 15, 3) := by decide +kernel
theorem dX3_perform_15 : decode cX3_perform 15 = .ok (.iload_n 1, 1) := by decide +kernel
theorem dX3_perform_16 : decode cX3_perform 16 = .ok (.iaload, 1) := by decide +kernel
theorem dX3_perform_17 : decode cX3_perform 17 = .ok (.tableswitch 100 10 13 #[31, 53, 76, 85], 31) := by decide +kernel
theorem dX3_perform_48 : decode cX3_perform 48 = .ok (.aload_n 3, 1) := by decide +kernel
theorem dX3_perform_49 : decode cX3_perform 49 = .ok (.iload 5, 2) := by decide +kernel
theorem dX3_perform_51 : decode cX3_perform 51 = .ok (.invokevirtual 74, 3) := by decide +kernel
theorem dX3_perform_54 : decode cX3_perform 54 = .ok (.istore 6, 2) := by decide +kernel
theorem dX3_perform_56 : decode cX3_perform 56 = .ok (.iload 6, 2) := by decide +kernel
theorem dX3_perform_58 : decode cX3_perform 58 = .ok (.ifCond .ne 78, 3) := by decide +kernel
theorem dX3_perform_61 : decode cX3_perform 61 = .ok (.aload_n 3, 1) := by decide +kernel
theorem dX3_perform_62 : decode cX3_perform 62 = .ok (.iload 5, 2) := by decide +kernel
theorem dX3_perform_64 : decode cX3_perform 64 = .ok (.invokevirtual 80, 3) := by decide +kernel
theorem dX3_perform_67 : decode cX3_perform 67 = .ok (.goto 69, 3) := by decide +kernel
theorem dX3_perform_70 : decode cX3_perform 70 = .ok (.aload_n 3, 1) := by decide +kernel
theorem dX3_perform_71 : decode cX3_perform 71 = .ok (.iload 5, 2) := by decide +kernel
theorem dX3_perform_73 : decode cX3_perform 73 = .ok (.invokevirtual 83, 3) := by decide +kernel
theorem dX3_perform_76 : decode cX3_perform 76 = .ok (.istore 6, 2) := by decide +kernel
theorem dX3_perform_78 : decode cX3_perform 78 = .ok (.iload 6, 2) := by decide +kernel
theorem dX3_perform_80 : decode cX3_perform 80 = .ok (.ifCond .ne 56, 3) := by decide +kernel
theorem dX3_perform_83 : decode cX3_perform 83 = .ok (.aload_n 3, 1) := by decide +kernel
theorem dX3_perform_84 : decode cX3_perform 84 = .ok (.aload_n 2, 1) := by decide +kernel
theorem dX3_perform_85 : decode cX3_perform 85 = .ok (.iload 5, 2) := by decide +kernel
theorem dX3_perform_87 : decode cX3_perform 87 = .ok (.invokevirtual 86, 3) := by decide +kernel
theorem dX3_perform_90 : decode cX3_perform 90 = .ok (.goto 46, 3) := by decide +kernel
theorem dX3_perform_93 : decode cX3_perform 93 = .ok (.aload_n 3, 1) := by decide +kernel
theorem dX3_perform_94 : decode cX3_perform 94 = .ok (.iload 5, 2) := by decide +kernel
theorem dX3_perform_96 : decode cX3_perform 96 = .ok (.invokevirtual 90, 3) := by decide +kernel
theorem dX3_perform_99 : decode cX3_perform 99 = .ok (.goto 37, 3) := by decide +kernel
theorem dX3_perform_102 : decode cX3_perform 102 = .ok (.aload_n 3, 1) := by decide +kernel
theorem dX3_perform_103 : decode cX3_perform 103 = .ok (.iload 5, 2) := by decide +kernel
theorem dX3_perform_105 : decode cX3_perform 105 = .ok (.aload_n 0, 1) := by decide +kernel
theorem dX3_perform_106 : decode cX3_perform 106 = .ok (.getfield 22, 3) := by decide +kernel
theorem dX3_perform_109 : decode cX3_perform 109 = .ok (.iload_n 1, 1) := by decide +kernel
theorem dX3_perform_110 : decode cX3_perform 110 = .ok (.iaload, 1) := by decide +kernel
theorem dX3_perform_111 : decode cX3_perform 111 = .ok (.invokevirtual 93, 3) := by decide +kernel
theorem dX3_perform_114 : decode cX3_perform 114 = .ok (.goto 22, 3) := by decide +kernel
theorem dX3_perform_117 : decode cX3_perform 117 = .ok (.aload 4, 2) := by decide +kernel
theorem dX3_perform_119 : decode cX3_perform 119 = .ok (.aload_n 2, 1) := by decide +kernel
theorem dX3_perform_120 : decode cX3_perform 120 = .ok (.aload_n 3, 1) := by decide +kernel
theorem dX3_perform_121 : decode cX3_perform 121 = .ok (.iload 5, 2) := by decide +kernel
theorem dX3_perform_123 : decode cX3_perform 123 = .ok (.invokevirtual 97, 3) := by decide +kernel
theorem dX3_perform_126 : decode cX3_perform 126 = .ok (.ifCond .ne 7, 3) := by decide +kernel
theorem dX3_perform_129 : decode cX3_perform 129 = .ok (.iconst 4, 1) := by decide +kernel
theorem dX3_perform_130 : decode cX3_perform 130 = .ok (.goto 4, 3) := by decide +kernel
theorem dX3_perform_133 : decode cX3_perform 133 = .ok (.iconst 0, 1) := by decide +kernel
theorem dX3_perform_134 : decode cX3_perform 134 = .ok (.istore 6, 2) := by decide +kernel
theorem dX3_perform_136 : decode cX3_perform 136 = .ok (.iload 6, 2) := by decide +kernel
theorem dX3_perform_138 : decode cX3_perform 138 = .ok (.ireturn, 1) := by decide +kernel
theorem dX4_note_0 : decode cX4_note 0 = .ok (.iconst 0, 1) := by decide +kernel
theorem dX4_note_1 : decode cX4_note 1 = .ok (.istore_n 3, 1) := by decide +kernel
theorem dX4_note_2 : decode cX4_note 2 = .ok (.iload_n 3, 1) := by decide +kernel
theorem dX4_note_3 : decode cX4_note 3 = .ok (.bipush 8, 2) := by decide +kernel
theorem dX4_note_5 : decode cX4_note 5 = .ok (.if_icmp .ge 25, 3) := by decide +kernel
theorem dX4_note_8 : decode cX4_note 8 = .ok (.aload_n 0, 1) := by decide +kernel
theorem dX4_note_9 : decode cX4_note 9 = .ok (.getfield 23, 3) := by decide +kernel
theorem dX4_note_12 : decode cX4_note 12 = .ok (.iload_n 1, 1) := by decide +kernel
theorem dX4_note_13 : decode cX4_note 13 = .ok (.bipush 8, 2) := by decide +kernel
theorem dX4_note_15 : decode cX4_note 15 = .ok (.imul, 1) := by decide +kernel
theorem dX4_note_16 : decode cX4_note 16 = .ok (.iload_n 3, 1) := by decide +kernel
theorem dX4_note_17 : decode cX4_note 17 = .ok (.iadd, 1) := by decide +kernel
theorem dX4_note_18 : decode cX4_note 18 = .ok (.aload_n 2, 1) := by decide +kernel
theorem dX4_note_19 : decode cX4_note 19 = .ok (.iload_n 3, 1) := by decide +kernel
theorem dX4_note_20 : decode cX4_note 20 = .ok (.invokevirtual 26, 3) := by decide +kernel
theorem dX4_note_23 : decode cX4_note 23 = .ok (.iastore, 1) := by decide +kernel
theorem dX4_note_24 : decode cX4_note 24 = .ok (.iinc 3 1, 3) := by decide +kernel
theorem dX4_note_27 : decode cX4_note 27 = .ok (.goto (-25), 3) := by decide +kernel
theorem dX4_note_30 : decode cX4_note 30 = .ok (.return_, 1) := by decide +kernel
theorem dX4_findRests_0 : decode cX4_findRests 0 = .ok (.aload_n 0, 1) := by decide +kernel
theorem dX4_findRests_1 : decode cX4_findRests 1 = .ok (.iconst 0, 1) := by decide +kernel
