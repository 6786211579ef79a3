theorem dX10_blow_13 : decode cX10_blow 13 = .ok (.aload_n 0, 1) := by decide +kernel
theorem dX10_blow_14 : decode cX10_blow 14 = .ok (.getfield 30, 3) := by decide +kernel
theorem dX10_blow_17 : decode cX10_blow 17 = .ok (.getfield 127, 3) := by decide +kernel
theorem dX10_blow_20 : decode cX10_blow 20 = .ok (.getfield 219, 3) := by decide +kernel
theorem dX10_blow_23 : decode cX10_blow 23 = .ok (.bipush 48, 2) := by decide +kernel
theorem dX10_blow_25 : decode cX10_blow 25 = .ok (.if_icmp .lt 5, 3) := by decide +kernel
theorem dX10_blow_28 : decode cX10_blow 28 = .ok (.iconst 0, 1) := by decide +kernel
theorem dX10_blow_29 : decode cX10_blow 29 = .ok (.ireturn, 1) := by decide +kernel
theorem dX10_blow_30 : decode cX10_blow 30 = .ok (.aload_n 0, 1) := by decide +kernel
theorem dX10_blow_31 : decode cX10_blow 31 = .ok (.invokevirtual 299, 3) := by decide +kernel
theorem dX10_blow_34 : decode cX10_blow 34 = .ok (.aload_n 0, 1) := by decide +kernel
theorem dX10_blow_35 : decode cX10_blow 35 = .ok (.getfield 69, 3) := by decide +kernel
theorem dX10_blow_38 : decode cX10_blow 38 = .ok (.aload_n 0, 1) := by decide +kernel
theorem dX10_blow_39 : decode cX10_blow 39 = .ok (.getfield 30, 3) := by decide +kernel
theorem dX10_blow_42 : decode cX10_blow 42 = .ok (.getfield 124, 3) := by decide +kernel
theorem dX10_blow_45 : decode cX10_blow 45 = .ok (.aload_n 0, 1) := by decide +kernel
theorem dX10_blow_46 : decode cX10_blow 46 = .ok (.getfield 30, 3) := by decide +kernel
theorem dX10_blow_49 : decode cX10_blow 49 = .ok (.getfield 127, 3) := by decide +kernel
theorem dX10_blow_52 : decode cX10_blow 52 = .ok (.iload_n 1, 1) := by decide +kernel
theorem dX10_blow_53 : decode cX10_blow 53 = .ok (.invokevirtual 302, 3) := by decide +kernel
theorem dX10_blow_56 : decode cX10_blow 56 = .ok (.ireturn, 1) := by decide +kernel
theorem dX6_whyNoFence_0 : decode cX6_whyNoFence 0 = .ok (.iload_n 1, 1) := by decide +kernel
theorem dX6_whyNoFence_1 : decode cX6_whyNoFence 1 = .ok (.ifCond .lt 18, 3) := by decide +kernel
theorem dX6_whyNoFence_4 : decode cX6_whyNoFence 4 = .ok (.iload_n 1, 1) := by decide +kernel
theorem dX6_whyNoFence_5 : decode cX6_whyNoFence 5 = .ok (.bipush 100, 2) := by decide +kernel
theorem dX6_whyNoFence_7 : decode cX6_whyNoFence 7 = .ok (.if_icmp .ge 12, 3) := by decide +kernel
theorem dX6_whyNoFence_10 : decode cX6_whyNoFence 10 = .ok (.aload_n 0, 1) := by decide +kernel
theorem dX6_whyNoFence_11 : decode cX6_whyNoFence 11 = .ok (.getfield 52, 3) := by decide +kernel
theorem dX6_whyNoFence_14 : decode cX6_whyNoFence 14 = .ok (.iload_n 1, 1) := by decide +kernel
theorem dX6_whyNoFence_15 : decode cX6_whyNoFence 15 = .ok (.iaload, 1) := by decide +kernel
theorem dX6_whyNoFence_16 : decode cX6_whyNoFence 16 = .ok (.ifCond .eq 5, 3) := by decide +kernel
theorem dX6_whyNoFence_19 : decode cX6_whyNoFence 19 = .ok (.iconst 1, 1) := by decide +kernel
theorem dX6_whyNoFence_20 : decode cX6_whyNoFence 20 = .ok (.ireturn, 1) := by decide +kernel
theorem dX6_whyNoFence_21 : decode cX6_whyNoFence 21 = .ok (.aload_n 0, 1) := by decide +kernel
theorem dX6_whyNoFence_22 : decode cX6_whyNoFence 22 = .ok (.getfield 18, 3) := by decide +kernel
theorem dX6_whyNoFence_25 : decode cX6_whyNoFence 25 = .ok (.bipush 12, 2) := by decide +kernel
theorem dX6_whyNoFence_27 : decode cX6_whyNoFence 27 = .ok (.if_icmp .lt 7, 3) := by decide +kernel
theorem dX6_whyNoFence_30 : decode cX6_whyNoFence 30 = .ok (.iconst 2, 1) := by decide +kernel
theorem dX6_whyNoFence_31 : decode cX6_whyNoFence 31 = .ok (.goto 4, 3) := by decide +kernel
theorem dX6_whyNoFence_34 : decode cX6_whyNoFence 34 = .ok (.iconst 0, 1) := by decide +kernel
theorem dX6_whyNoFence_35 : decode cX6_whyNoFence 35 = .ok (.ireturn, 1) := by decide +kernel
theorem dX6_putFence_0 : decode cX6_putFence 0 = .ok (.iload_n 1, 1) := by decide +kernel
theorem dX6_putFence_1 : decode cX6_putFence 1 = .ok (.ifCond .lt 27, 3) := by decide +kernel
theorem dX6_putFence_4 : decode cX6_putFence 4 = .ok (.iload_n 1, 1) := by decide +kernel
theorem dX6_putFence_5 : decode cX6_putFence 5 = .ok (.bipush 100, 2) := by decide +kernel
theorem dX6_putFence_7 : decode cX6_putFence 7 = .ok (.if_icmp .ge 21, 3) := by decide +kernel
theorem dX6_putFence_10 : decode cX6_putFence 10 = .ok (.aload_n 0, 1) := by decide +kernel
theorem dX6_putFence_11 : decode cX6_putFence 11 = .ok (.getfield 52, 3) := by decide +kernel
theorem dX6_putFence_14 : decode cX6_putFence 14 = .ok (.iload_n 1, 1) := by decide +kernel
theorem dX6_putFence_15 : decode cX6_putFence 15 = .ok (.bipush 48, 2) := by decide +kernel
theorem dX6_putFence_17 : decode cX6_putFence 17 = .ok (.iastore, 1) := by decide +kernel
theorem dX6_putFence_18 : decode cX6_putFence 18 = .ok (.aload_n 0, 1) := by decide +kernel
theorem dX6_putFence_19 : decode cX6_putFence 19 = .ok (.dup, 1) := by decide +kernel
theorem dX6_putFence_20 : decode cX6_putFence 20 = .ok (.getfield 18, 3) := by decide +kernel
theorem dX6_putFence_23 : decode cX6_putFence 23 = .ok (.iconst 1, 1) := by decide +kernel
theorem dX6_putFence_24 : decode cX6_putFence 24 = .ok (.iadd, 1) := by decide +kernel
theorem dX6_putFence_25 : decode cX6_putFence 25 = .ok (.putfield 18, 3) := by decide +kernel
theorem dX6_putFence_28 : decode cX6_putFence 28 = .ok (.return_, 1) := by decide +kernel
theorem dX10_set_0 : decode cX10_set 0 = .ok (.aload_n 0, 1) := by decide +kernel
theorem dX10_set_1 : decode cX10_set 1 = .ok (.getfield 30, 3) := by decide +kernel
theorem dX10_set_4 : decode cX10_set 4 = .ok (.getfield 124, 3) := by decide +kernel
theorem dX10_set_7 : decode cX10_set 7 = .ok (.iload_n 1, 1) := by decide +kernel
theorem dX10_set_8 : decode cX10_set 8 = .ok (.invokevirtual 158, 3) := by decide +kernel
theorem dX10_set_11 : decode cX10_set 11 = .ok (.ifCond .ne 5, 3) := by decide +kernel
theorem dX10_set_14 : decode cX10_set 14 = .ok (.iconst (-1), 1) := by decide +kernel
theorem dX10_set_15 : decode cX10_set 15 = .ok (.ireturn, 1) := by decide +kernel
theorem dX10_set_16 : decode cX10_set 16 = .ok (.aload_n 0, 1) := by decide +kernel
theorem dX10_set_17 : decode cX10_set 17 = .ok (.getfield 30, 3) := by decide +kernel
theorem dX10_set_20 : decode cX10_set 20 = .ok (.getfield 127, 3) := by decide +kernel
theorem dX10_set_23 : decode cX10_set 23 = .ok (.iload_n 1, 1) := by decide +kernel
theorem dX10_set_24 : decode cX10_set 24 = .ok (.invokevirtual 306, 3) := by decide +kernel
theorem dX10_set_27 : decode cX10_set 27 = .ok (.istore_n 2, 1) := by decide +kernel
theorem dX10_set_28 : decode cX10_set 28 = .ok (.iload_n 2, 1) := by decide +kernel
theorem dX10_set_29 : decode cX10_set 29 = .ok (.ifCond .ne 18, 3) := by decide +kernel
theorem dX10_set_32 : decode cX10_set 32 = .ok (.aload_n 0, 1) := by decide +kernel
theorem dX10_set_33 : decode cX10_set 33 = .ok (.invokevirtual 299, 3) := by decide +kernel
theorem dX10_set_36 : decode cX10_set 36 = .ok (.aload_n 0, 1) := by decide +kernel
theorem dX10_set_37 : decode cX10_set 37 = .ok (.getfield 30, 3) := by decide +kernel
theorem dX10_set_40 : decode cX10_set 40 = .ok (.getfield 127, 3) := by decide +kernel
theorem dX10_set_43 : decode cX10_set 43 = .ok (.iload_n 1, 1) := by decide +kernel
theorem dX10_set_44 : decode cX10_set 44 = .ok (.invokevirtual 309, 3) := by decide +kernel
theorem dX10_set_47 : decode cX10_set 47 = .ok (.iload_n 2, 1) := by decide +kernel
theorem dX10_set_48 : decode cX10_set 48 = .ok (.ireturn, 1) := by decide +kernel
theorem dX6_whyNoFelling_0 : decode cX6_whyNoFelling 0 = .ok (.iload_n 1, 1) := by decide +kernel
theorem dX6_whyNoFelling_1 : decode cX6_whyNoFelling 1 = .ok (.ifCond .lt 20, 3) := by decide +kernel
theorem dX6_whyNoFelling_4 : decode cX6_whyNoFelling 4 = .ok (.iload_n 1, 1) := by decide +kernel
theorem dX6_whyNoFelling_5 : decode cX6_whyNoFelling 5 = .ok (.bipush 12, 2) := by decide +kernel
theorem dX6_whyNoFelling_7 : decode cX6_whyNoFelling 7 = .ok (.if_icmp .ge 14, 3) := by decide +kernel
theorem dX6_whyNoFelling_10 : decode cX6_whyNoFelling 10 = .ok (.aload_n 0, 1) := by decide +kernel
theorem dX6_whyNoFelling_11 : decode cX6_whyNoFelling 11 = .ok (.getfield 21, 3) := by decide +kernel
theorem dX6_whyNoFelling_14 : decode cX6_whyNoFelling 14 = .ok (.iload_n 1, 1) := by decide +kernel
theorem dX6_whyNoFelling_15 : decode cX6_whyNoFelling 15 = .ok (.ishr, 1) := by decide +kernel
theorem dX6_whyNoFelling_16 : decode cX6_whyNoFelling 16 = .ok (.iconst 1, 1) := by decide +kernel
theorem dX6_whyNoFelling_17 : decode cX6_whyNoFelling 17 = .ok (.iand, 1) := by decide +kernel
theorem dX6_whyNoFelling_18 : decode cX6_whyNoFelling 18 = .ok (.ifCond .ne 7, 3) := by decide +kernel
theorem dX6_whyNoFelling_21 : decode cX6_whyNoFelling 21 = .ok (.iconst 3, 1) := by decide +kernel
theorem dX6_whyNoFelling_22 : decode cX6_whyNoFelling 22 = .ok (.goto 4, 3) := by decide +kernel
theorem dX6_whyNoFelling_25 : decode cX6_whyNoFelling 25 = .ok (.iconst 0, 1) := by decide +kernel
theorem dX6_whyNoFelling_26 : decode cX6_whyNoFelling 26 = .ok (.ireturn, 1) := by decide +kernel
theorem dX6_takeTree_0 : decode cX6_takeTree 0 = .ok (.iload_n 2, 1) := by decide +kernel
theorem dX6_takeTree_1 : decode cX6_takeTree 1 = .ok (.ifCond .lt 18, 3) := by decide +kernel
theorem dX6_takeTree_4 : decode cX6_takeTree 4 = .ok (.iload_n 2, 1) := by decide +kernel
theorem dX6_takeTree_5 : decode cX6_takeTree 5 = .ok (.bipush 12, 2) := by decide +kernel
theorem dX6_takeTree_7 : decode cX6_takeTree 7 = .ok (.if_icmp .ge 12, 3) := by decide +kernel
theorem dX6_takeTree_10 : decode cX6_takeTree 10 = .ok (.aload_n 1, 1) := by decide +kernel
theorem dX6_takeTree_11 : decode cX6_takeTree 11 = .ok (.getfield 77, 3) := by decide +kernel
theorem dX6_takeTree_14 : decode cX6_takeTree 14 = .ok (.iload_n 2, 1) := by decide +kernel
theorem dX6_takeTree_15 : decode cX6_takeTree 15 = .ok (.iaload, 1) := by decide +kernel
theorem dX6_takeTree_16 : decode cX6_takeTree 16 = .ok (.goto 4, 3) := by decide +kernel
theorem dX6_takeTree_19 : decode cX6_takeTree 19 = .ok (.iconst (-1), 1) := by decide +kernel
theorem dX6_takeTree_20 : decode cX6_takeTree 20 = .ok (.istore_n 3, 1) := by decide +kernel
theorem dX6_takeTree_21 : decode cX6_takeTree 21 = .ok (.iload_n 3, 1) := by decide +kernel
theorem dX6_takeTree_22 : decode cX6_takeTree 22 = .ok (.ifCond .lt 30, 3) := by decide +kernel
theorem dX6_takeTree_25 : decode cX6_takeTree 25 = .ok (.iload_n 3, 1) := by decide +kernel
theorem dX6_takeTree_26 : decode cX6_takeTree 26 = .ok (.bipush 100, 2) := by decide +kernel
theorem dX6_takeTree_28 : decode cX6_takeTree 28 = .ok (.if_icmp .ge 24, 3) := by decide +kernel
theorem dX6_takeTree_31 : decode cX6_takeTree 31 = .ok (.aload_n 0, 1) := by decide +kernel
theorem dX6_takeTree_32 : decode cX6_takeTree 32 = .ok (.getfield 52, 3) := by decide +kernel
theorem dX6_takeTree_35 : decode cX6_takeTree 35 = .ok (.iload_n 3, 1) := by decide +kernel
theorem dX6_takeTree_36 : decode cX6_takeTree 36 = .ok (.iconst 0, 1) := by decide +kernel
theorem dX6_takeTree_37 : decode cX6_takeTree 37 = .ok (.iastore, 1) := by decide +kernel
theorem dX6_takeTree_38 : decode cX6_takeTree 38 = .ok (.aload_n 0, 1) := by decide +kernel
theorem dX6_takeTree_39 : decode cX6_takeTree 39 = .ok (.dup, 1) := by decide +kernel
theorem dX6_takeTree_40 : decode cX6_takeTree 40 = .ok (.getfield 21, 3) := by decide +kernel
theorem dX6_takeTree_43 : decode cX6_takeTree 43 = .ok (.iconst 1, 1) := by decide +kernel
theorem dX6_takeTree_44 : decode cX6_takeTree 44 = .ok (.iload_n 2, 1) := by decide +kernel
theorem dX6_takeTree_45 : decode cX6_takeTree 45 = .ok (.ishl, 1) := by decide +kernel
theorem dX6_takeTree_46 : decode cX6_takeTree 46 = .ok (.iconst (-1), 1) := by decide +kernel
theorem dX6_takeTree_47 : decode cX6_takeTree 47 = .ok (.ixor, 1) := by decide +kernel
theorem dX6_takeTree_48 : decode cX6_takeTree 48 = .ok (.iand, 1) := by decide +kernel
theorem dX6_takeTree_49 : decode cX6_takeTree 49 = .ok (.putfield 21, 3) := by decide +kernel
theorem dX6_takeTree_52 : decode cX6_takeTree 52 = .ok (.return_, 1) := by decide +kernel
theorem dX10_fell_0 : decode cX10_fell 0 = .ok (.aload_n 0, 1) := by decide +kernel
theorem dX10_fell_1 : decode cX10_fell 1 = .ok (.getfield 30, 3) := by decide +kernel
theorem dX10_fell_4 : decode cX10_fell 4 = .ok (.getfield 127, 3) := by decide +kernel
theorem dX10_fell_7 : decode cX10_fell 7 = .ok (.iload_n 1, 1) := by decide +kernel
theorem dX10_fell_8 : decode cX10_fell 8 = .ok (.invokevirtual 312, 3) := by decide +kernel
theorem dX10_fell_11 : decode cX10_fell 11 = .ok (.istore_n 2, 1) := by decide +kernel
theorem dX10_fell_12 : decode cX10_fell 12 = .ok (.iload_n 2, 1) := by decide +kernel
theorem dX10_fell_13 : decode cX10_fell 13 = .ok (.ifCond .ne 25, 3) := by decide +kernel
theorem dX10_fell_16 : decode cX10_fell 16 = .ok (.aload_n 0, 1) := by decide +kernel
theorem dX10_fell_17 : decode cX10_fell 17 = .ok (.invokevirtual 299, 3) := by decide +kernel
theorem dX10_fell_20 : decode cX10_fell 20 = .ok (.aload_n 0, 1) := by decide +kernel
theorem dX10_fell_21 : decode cX10_fell 21 = .ok (.getfield 30, 3) := by decide +kernel
theorem dX10_fell_24 : decode cX10_fell 24 = .ok (.getfield 127, 3) := by decide +kernel
theorem dX10_fell_27 : decode cX10_fell 27 = .ok (.aload_n 0, 1) := by decide +kernel
theorem dX10_fell_28 : decode cX10_fell 28 = .ok (.getfield 30, 3) := by decide +kernel
theorem dX10_fell_31 : decode cX10_fell 31 = .ok (.getfield 124, 3) := by decide +kernel
theorem dX10_fell_34 : decode cX10_fell 34 = .ok (.iload_n 1, 1) := by decide +kernel
theorem dX10_fell_35 : decode cX10_fell 35 = .ok (.invokevirtual 315, 3) := by decide +kernel
theorem dX10_fell_38 : decode cX10_fell 38 = .ok (.iload_n 2, 1) := by decide +kernel
theorem dX10_fell_39 : decode cX10_fell 39 = .ok (.ireturn, 1) := by decide +kernel
theorem dX6_oilVane_0 : decode cX6_oilVane 0 = .ok (.iload_n 1, 1) := by decide +kernel
theorem dX6_oilVane_1 : decode cX6_oilVane 1 = .ok (.ifCond .lt 23, 3) := by decide +kernel
theorem dX6_oilVane_4 : decode cX6_oilVane 4 = .ok (.iload_n 1, 1) := by decide +kernel
theorem dX6_oilVane_5 : decode cX6_oilVane 5 = .ok (.bipush 8, 2) := by decide +kernel
theorem dX6_oilVane_7 : decode cX6_oilVane 7 = .ok (.if_icmp .ge 17, 3) := by decide +kernel
theorem dX6_oilVane_10 : decode cX6_oilVane 10 = .ok (.aload_n 0, 1) := by decide +kernel
theorem dX6_oilVane_11 : decode cX6_oilVane 11 = .ok (.getfield 43, 3) := by decide +kernel
theorem dX6_oilVane_14 : decode cX6_oilVane 14 = .ok (.iload_n 1, 1) := by decide +kernel
theorem dX6_oilVane_15 : decode cX6_oilVane 15 = .ok (.iconst 0, 1) := by decide +kernel
theorem dX6_oilVane_16 : decode cX6_oilVane 16 = .ok (.iastore, 1) := by decide +kernel
theorem dX6_oilVane_17 : decode cX6_oilVane 17 = .ok (.aload_n 0, 1) := by decide +kernel
theorem dX6_oilVane_18 : decode cX6_oilVane 18 = .ok (.getfield 37, 3) := by decide +kernel
theorem dX6_oilVane_21 : decode cX6_oilVane 21 = .ok (.iload_n 1, 1) := by decide +kernel
theorem dX6_oilVane_22 : decode cX6_oilVane 22 = .ok (.iconst 0, 1) := by decide +kernel
theorem dX6_oilVane_23 : decode cX6_oilVane 23 = .ok (.iastore, 1) := by decide +kernel
theorem dX6_oilVane_24 : decode cX6_oilVane 24 = .ok (.return_, 1) := by decide +kernel
theorem dX10_oil_0 : decode cX10_oil 0 = .ok (.aload_n 0, 1) := by decide +kernel
theorem dX10_oil_1 : decode cX10_oil 1 = .ok (.getfield 30, 3) := by decide +kernel
theorem dX10_oil_4 : decode cX10_oil 4 = .ok (.getfield 124, 3) := by decide +kernel
theorem dX10_oil_7 : decode cX10_oil 7 = .ok (.iload_n 1, 1) := by decide +kernel
theorem dX10_oil_8 : decode cX10_oil 8 = .ok (.invokevirtual 171, 3) := by decide +kernel
theorem dX10_oil_11 : decode cX10_oil 11 = .ok (.ifCond .ne 5, 3) := by decide +kernel
theorem dX10_oil_14 : decode cX10_oil 14 = .ok (.iconst 0, 1) := by decide +kernel
theorem dX10_oil_15 : decode cX10_oil 15 = .ok (.ireturn, 1) := by decide +kernel
theorem dX10_oil_16 : decode cX10_oil 16 = .ok (.aload_n 0, 1) := by decide +kernel
theorem dX10_oil_17 : decode cX10_oil 17 = .ok (.invokevirtual 299, 3) := by decide +kernel
theorem dX10_oil_20 : decode cX10_oil 20 = .ok (.aload_n 0, 1) := by decide +kernel
theorem dX10_oil_21 : decode cX10_oil 21 = .ok (.getfield 30, 3) := by decide +kernel
theorem dX10_oil_24 : decode cX10_oil 24 = .ok (.getfield 127, 3) := by decide +kernel
theorem dX10_oil_27 : decode cX10_oil 27 = .ok (.iload_n 1, 1) := by decide +kernel
theorem dX10_oil_28 : decode cX10_oil 28 = .ok (.invokevirtual 319, 3) := by decide +kernel
theorem dX10_oil_31 : decode cX10_oil 31 = .ok (.iconst 1, 1) := by decide +kernel
theorem dX10_oil_32 : decode cX10_oil 32 = .ok (.ireturn, 1) := by decide +kernel
theorem dX6_stickVane_0 : decode cX6_stickVane 0 = .ok (.iload_n 1, 1) := by decide +kernel
theorem dX6_stickVane_1 : decode cX6_stickVane 1 = .ok (.ifCond .lt 23, 3) := by decide +kernel
theorem dX6_stickVane_4 : decode cX6_stickVane 4 = .ok (.iload_n 1, 1) := by decide +kernel
theorem dX6_stickVane_5 : decode cX6_stickVane 5 = .ok (.bipush 8, 2) := by decide +kernel
theorem dX6_stickVane_7 : decode cX6_stickVane 7 = .ok (.if_icmp .ge 17, 3) := by decide +kernel
theorem dX6_stickVane_10 : decode cX6_stickVane 10 = .ok (.aload_n 0, 1) := by decide +kernel
theorem dX6_stickVane_11 : decode cX6_stickVane 11 = .ok (.getfield 40, 3) := by decide +kernel
theorem dX6_stickVane_14 : decode cX6_stickVane 14 = .ok (.iload_n 1, 1) := by decide +kernel
theorem dX6_stickVane_15 : decode cX6_stickVane 15 = .ok (.iload_n 2, 1) := by decide +kernel
theorem dX6_stickVane_16 : decode cX6_stickVane 16 = .ok (.iastore, 1) := by decide +kernel
theorem dX6_stickVane_17 : decode cX6_stickVane 17 = .ok (.aload_n 0, 1) := by decide +kernel
theorem dX6_stickVane_18 : decode cX6_stickVane 18 = .ok (.getfield 43, 3) := by decide +kernel
theorem dX6_stickVane_21 : decode cX6_stickVane 21 = .ok (.iload_n 1, 1) := by decide +kernel
theorem dX6_stickVane_22 : decode cX6_stickVane 22 = .ok (.iconst 1, 1) := by decide +kernel
theorem dX6_stickVane_23 : decode cX6_stickVane 23 = .ok (.iastore, 1) := by decide +kernel
theorem dX6_stickVane_24 : decode cX6_stickVane 24 = .ok (.return_, 1) := by decide +kernel
theorem dX10_point_0 : decode cX10_point 0 = .ok (.aload_n 0, 1) := by decide +kernel
theorem dX10_point_1 : decode cX10_point 1 = .ok (.getfield 30, 3) := by decide +kernel
theorem dX10_point_4 : decode cX10_point 4 = .ok (.getfield 124, 3) := by decide +kernel
theorem dX10_point_7 : decode cX10_point 7 = .ok (.iload_n 1, 1) := by decide +kernel
theorem dX10_point_8 : decode cX10_point 8 = .ok (.invokevirtual 171, 3) := by decide +kernel
theorem dX10_point_11 : decode cX10_point 11 = .ok (.ifCond .eq 13, 3) := by decide +kernel
theorem dX10_point_14 : decode cX10_point 14 = .ok (.iload_n 2, 1) := by decide +kernel
theorem dX10_point_15 : decode cX10_point 15 = .ok (.ifCond .lt 9, 3) := by decide +kernel
theorem dX10_point_18 : decode cX10_point 18 = .ok (.iload_n 2, 1) := by decide +kernel
theorem dX10_point_19 : decode cX10_point 19 = .ok (.bipush 8, 2) := by decide +kernel
theorem dX10_point_21 : decode cX10_point 21 = .ok (.if_icmp .lt 5, 3) := by decide +kernel
theorem dX10_point_24 : decode cX10_point 24 = .ok (.iconst 0, 1) := by decide +kernel
theorem dX10_point_25 : decode cX10_point 25 = .ok (.ireturn, 1) := by decide +kernel
theorem dX10_point_26 : decode cX10_point 26 = .ok (.aload_n 0, 1) := by decide +kernel
theorem dX10_point_27 : decode cX10_point 27 = .ok (.invokevirtual 299, 3) := by decide +kernel
theorem dX10_point_30 : decode cX10_point 30 = .ok (.aload_n 0, 1) := by decide +kernel
theorem dX10_point_31 : decode cX10_point 31 = .ok (.getfield 30, 3) := by decide +kernel
theorem dX10_point_34 : decode cX10_point 34 = .ok (.getfield 127, 3) := by decide +kernel
theorem dX10_point_37 : decode cX10_point 37 = .ok (.iload_n 1, 1) := by decide +kernel
theorem dX10_point_38 : decode cX10_point 38 = .ok (.iload_n 2, 1) := by decide +kernel
theorem dX10_point_39 : decode cX10_point 39 = .ok (.invokevirtual 322, 3) := by decide +kernel
theorem dX10_point_42 : decode cX10_point 42 = .ok (.iconst 1, 1) := by decide +kernel
theorem dX10_point_43 : decode cX10_point 43 = .ok (.ireturn, 1) := by decide +kernel
theorem dX2_pop_0 : decode cX2_pop 0 = .ok (.aload_n 0, 1) := by decide +kernel
theorem dX2_pop_1 : decode cX2_pop 1 = .ok (.getfield 21, 3) := by decide +kernel
theorem dX2_pop_4 : decode cX2_pop 4 = .ok (.ifCond .le 42, 3) := by decide +kernel
theorem dX2_pop_7 : decode cX2_pop 7 = .ok (.aload_n 0, 1) := by decide +kernel
theorem dX2_pop_8 : decode cX2_pop 8 = .ok (.aload_n 0, 1) := by decide +kernel
theorem dX2_pop_9 : decode cX2_pop 9 = .ok (.getfield 17, 3) := by decide +kernel
theorem dX2_pop_12 : decode cX2_pop 12 = .ok (.bipush 8, 2) := by decide +kernel
theorem dX2_pop_14 : decode cX2_pop 14 = .ok (.iadd, 1) := by decide +kernel
theorem dX2_pop_15 : decode cX2_pop 15 = .ok (.iconst 1, 1) := by decide +kernel
theorem dX2_pop_16 : decode cX2_pop 16 = .ok (.isub, 1) := by decide +kernel
theorem dX2_pop_17 : decode cX2_pop 17 = .ok (.bipush 8, 2) := by decide +kernel
theorem dX2_pop_19 : decode cX2_pop 19 = .ok (.irem, 1) := by decide +kernel
theorem dX2_pop_20 : decode cX2_pop 20 = .ok (.putfield 17, 3) := by decide +kernel
theorem dX2_pop_23 : decode cX2_pop 23 = .ok (.aload_n 0, 1) := by decide +kernel
theorem dX2_pop_24 : decode cX2_pop 24 = .ok (.dup, 1) := by decide +kernel
theorem dX2_pop_25 : decode cX2_pop 25 = .ok (.getfield 21, 3) := by decide +kernel
theorem dX2_pop_28 : decode cX2_pop 28 = .ok (.iconst 1, 1) := by decide +kernel
theorem dX2_pop_29 : decode cX2_pop 29 = .ok (.isub, 1) := by decide +kernel
theorem dX2_pop_30 : decode cX2_pop 30 = .ok (.putfield 21, 3) := by decide +kernel
theorem dX2_pop_33 : decode cX2_pop 33 = .ok (.aload_n 1, 1) := by decide +kernel
theorem dX2_pop_34 : decode cX2_pop 34 = .ok (.aload_n 0, 1) := by decide +kernel
theorem dX2_pop_35 : decode cX2_pop 35 = .ok (.getfield 11, 3) := by decide +kernel
theorem dX2_pop_38 : decode cX2_pop 38 = .ok (.aload_n 0, 1) := by decide +kernel
theorem dX2_pop_39 : decode cX2_pop 39 = .ok (.getfield 17, 3) := by decide +kernel
theorem dX2_pop_42 : decode cX2_pop 42 = .ok (.aaload, 1) := by decide +kernel
theorem dX2_pop_43 : decode cX2_pop 43 = .ok (.invokevirtual 25, 3) := by decide +kernel
theorem dX2_pop_46 : decode cX2_pop 46 = .ok (.return_, 1) := by decide +kernel
theorem dX10_undo_0 : decode cX10_undo 0 = .ok (.aload_n 0, 1) := by decide +kernel
theorem dX10_undo_1 : decode cX10_undo 1 = .ok (.getfield 62, 3) := by decide +kernel
theorem dX10_undo_4 : decode cX10_undo 4 = .ok (.getfield 326, 3) := by decide +kernel
theorem dX10_undo_7 : decode cX10_undo 7 = .ok (.ifCond .ne 5, 3) := by decide +kernel
theorem dX10_undo_10 : decode cX10_undo 10 = .ok (.iconst (-1), 1) := by decide +kernel
theorem dX10_undo_11 : decode cX10_undo 11 = .ok (.ireturn, 1) := by decide +kernel
theorem dX10_undo_12 : decode cX10_undo 12 = .ok (.aload_n 0, 1) := by decide +kernel
theorem dX10_undo_13 : decode cX10_undo 13 = .ok (.getfield 62, 3) := by decide +kernel
theorem dX10_undo_16 : decode cX10_undo 16 = .ok (.aload_n 0, 1) := by decide +kernel
theorem dX10_undo_17 : decode cX10_undo 17 = .ok (.getfield 30, 3) := by decide +kernel
theorem dX10_undo_20 : decode cX10_undo 20 = .ok (.getfield 127, 3) := by decide +kernel
theorem dX10_undo_23 : decode cX10_undo 23 = .ok (.invokevirtual 329, 3) := by decide +kernel
theorem dX10_undo_26 : decode cX10_undo 26 = .ok (.aload_n 0, 1) := by decide +kernel
theorem dX10_undo_27 : decode cX10_undo 27 = .ok (.getfield 76, 3) := by decide +kernel
theorem dX10_undo_30 : decode cX10_undo 30 = .ok (.iconst 0, 1) := by decide +kernel
theorem dX10_undo_31 : decode cX10_undo 31 = .ok (.putfield 149, 3) := by decide +kernel
theorem dX10_undo_34 : decode cX10_undo 34 = .ok (.aload_n 0, 1) := by decide +kernel
theorem dX10_undo_35 : decode cX10_undo 35 = .ok (.getfield 62, 3) := by decide +kernel
theorem dX10_undo_38 : decode cX10_undo 38 = .ok (.getfield 326, 3) := by decide +kernel
theorem dX10_undo_41 : decode cX10_undo 41 = .ok (.ireturn, 1) := by decide +kernel
theorem dX6_wealth_0 : decode cX6_wealth 0 = .ok (.aload_n 0, 1) := by decide +kernel
theorem dX6_wealth_1 : decode cX6_wealth 1 = .ok (.getfield 30, 3) := by decide +kernel
theorem dX6_wealth_4 : decode cX6_wealth 4 = .ok (.iload_n 1, 1) := by decide +kernel
theorem dX6_wealth_5 : decode cX6_wealth 5 = .ok (.iaload, 1) := by decide +kernel
theorem dX6_wealth_6 : decode cX6_wealth 6 = .ok (.aload_n 0, 1) := by decide +kernel
theorem dX6_wealth_7 : decode cX6_wealth 7 = .ok (.getfield 34, 3) := by decide +kernel
theorem dX6_wealth_10 : decode cX6_wealth 10 = .ok (.iload_n 1, 1) := by decide +kernel
theorem dX6_wealth_11 : decode cX6_wealth 11 = .ok (.iaload, 1) := by decide +kernel
theorem dX6_wealth_12 : decode cX6_wealth 12 = .ok (.iadd, 1) := by decide +kernel
theorem dX6_wealth_13 : decode cX6_wealth 13 = .ok (.ireturn, 1) := by decide +kernel
theorem dX10_richest_0 : decode cX10_richest 0 = .ok (.aload_n 0, 1) := by decide +kernel
theorem dX10_richest_1 : decode cX10_richest 1 = .ok (.getfield 83, 3) := by decide +kernel
theorem dX10_richest_4 : decode cX10_richest 4 = .ok (.aload_n 0, 1) := by decide +kernel
theorem dX10_richest_5 : decode cX10_richest 5 = .ok (.getfield 30, 3) := by decide +kernel
theorem dX10_richest_8 : decode cX10_richest 8 = .ok (.getfield 127, 3) := by decide +kernel
theorem dX10_richest_11 : decode cX10_richest 11 = .ok (.invokevirtual 280, 3) := by decide +kernel
theorem dX10_richest_14 : decode cX10_richest 14 = .ok (.aload_n 0, 1) := by decide +kernel
theorem dX10_richest_15 : decode cX10_richest 15 = .ok (.getfield 69, 3) := by decide +kernel
theorem dX10_richest_18 : decode cX10_richest 18 = .ok (.aload_n 0, 1) := by decide +kernel
theorem dX10_richest_19 : decode cX10_richest 19 = .ok (.getfield 30, 3) := by decide +kernel
theorem dX10_richest_22 : decode cX10_richest 22 = .ok (.getfield 124, 3) := by decide +kernel
theorem dX10_richest_25 : decode cX10_richest 25 = .ok (.aload_n 0, 1) := by decide +kernel
theorem dX10_richest_26 : decode cX10_richest 26 = .ok (.getfield 83, 3) := by decide +kernel
theorem dX10_richest_29 : decode cX10_richest 29 = .ok (.bipush 48, 2) := by decide +kernel
theorem dX10_richest_31 : decode cX10_richest 31 = .ok (.invokevirtual 302, 3) := by decide +kernel
theorem dX10_richest_34 : decode cX10_richest 34 = .ok (.pop, 1) := by decide +kernel
theorem dX10_richest_35 : decode cX10_richest 35 = .ok (.iconst (-1), 1) := by decide +kernel
theorem dX10_richest_36 : decode cX10_richest 36 = .ok (.istore_n 1, 1) := by decide +kernel
theorem dX10_richest_37 : decode cX10_richest 37 = .ok (.iconst 0, 1) := by decide +kernel
theorem dX10_richest_38 : decode cX10_richest 38 = .ok (.istore_n 2, 1) := by decide +kernel
theorem dX10_richest_39 : decode cX10_richest 39 = .ok (.iload_n 2, 1) := by decide +kernel
theorem dX10_richest_40 : decode cX10_richest 40 = .ok (.aload_n 0, 1) := by decide +kernel
theorem dX10_richest_41 : decode cX10_richest 41 = .ok (.getfield 30, 3) := by decide +kernel
theorem dX10_richest_44 : decode cX10_richest 44 = .ok (.getfield 124, 3) := by decide +kernel
theorem dX10_richest_47 : decode cX10_richest 47 = .ok (.getfield 174, 3) := by decide +kernel
theorem dX10_richest_50 : decode cX10_richest 50 = .ok (.getfield 253, 3) := by decide +kernel
theorem dX10_richest_53 : decode cX10_richest 53 = .ok (.if_icmp .ge 35, 3) := by decide +kernel
theorem dX10_richest_56 : decode cX10_richest 56 = .ok (.iload_n 1, 1) := by decide +kernel
theorem dX10_richest_57 : decode cX10_richest 57 = .ok (.iconst (-1), 1) := by decide +kernel
theorem dX10_richest_58 : decode cX10_richest 58 = .ok (.if_icmp .eq 22, 3) := by decide +kernel
theorem dX10_richest_61 : decode cX10_richest 61 = .ok (.aload_n 0, 1) := by decide +kernel
theorem dX10_richest_62 : decode cX10_richest 62 = .ok (.getfield 83, 3) := by decide +kernel
theorem dX10_richest_65 : decode cX10_richest 65 = .ok (.iload_n 2, 1) := by decide +kernel
theorem dX10_richest_66 : decode cX10_richest 66 = .ok (.invokevirtual 332, 3) := by decide +kernel
theorem dX10_richest_69 : decode cX10_richest 69 = .ok (.aload_n 0, 1) := by decide +kernel
theorem dX10_richest_70 : decode cX10_richest 70 = .ok (.getfield 83, 3) := by decide +kernel
theorem dX10_richest_73 : decode cX10_richest 73 = .ok (.iload_n 1, 1) := by decide +kernel
theorem dX10_richest_74 : decode cX10_richest 74 = .ok (.invokevirtual 332, 3) := by decide +kernel
theorem dX10_richest_77 : decode cX10_richest 77 = .ok (.if_icmp .le 5, 3) := by decide +kernel
theorem dX10_richest_80 : decode cX10_richest 80 = .ok (.iload_n 2, 1) := by decide +kernel
theorem dX10_richest_81 : decode cX10_richest 81 = .ok (.istore_n 1, 1) := by decide +kernel
theorem dX10_richest_82 : decode cX10_richest 82 = .ok (.iinc 2 1, 3) := by decide +kernel
theorem dX10_richest_85 : decode cX10_richest 85 = .ok (.goto (-46), 3) := by decide +kernel
theorem dX10_richest_88 : decode cX10_richest 88 = .ok (.iload_n 1, 1) := by decide +kernel
theorem dX10_richest_89 : decode cX10_richest 89 = .ok (.ireturn, 1) := by decide +kernel
theorem dX10_wealthAtEnd_0 : decode cX10_wealthAtEnd 0 = .ok (.aload_n 0, 1) := by decide +kernel
theorem dX10_wealthAtEnd_1 : decode cX10_wealthAtEnd 1 = .ok (.getfield 83, 3) := by decide +kernel
theorem dX10_wealthAtEnd_4 : decode cX10_wealthAtEnd 4 = .ok (.aload_n 0, 1) := by decide +kernel
theorem dX10_wealthAtEnd_5 : decode cX10_wealthAtEnd 5 = .ok (.getfield 30, 3) := by decide +kernel
theorem dX10_wealthAtEnd_8 : decode cX10_wealthAtEnd 8 = .ok (.getfield 127, 3) := by decide +kernel
theorem dX10_wealthAtEnd_11 : decode cX10_wealthAtEnd 11 = .ok (.invokevirtual 280, 3) := by decide +kernel
theorem dX10_wealthAtEnd_14 : decode cX10_wealthAtEnd 14 = .ok (.aload_n 0, 1) := by decide +kernel
theorem dX10_wealthAtEnd_15 : decode cX10_wealthAtEnd 15 = .ok (.getfield 69, 3) := by decide +kernel
theorem dX10_wealthAtEnd_18 : decode cX10_wealthAtEnd 18 = .ok (.aload_n 0, 1) := by decide +kernel
theorem dX10_wealthAtEnd_19 : decode cX10_wealthAtEnd 19 = .ok (.getfield 30, 3) := by decide +kernel
theorem dX10_wealthAtEnd_22 : decode cX10_wealthAtEnd 22 = .ok (.getfield 124, 3) := by decide +kernel
theorem dX10_wealthAtEnd_25 : decode cX10_wealthAtEnd 25 = .ok (.aload_n 0, 1) := by decide +kernel
theorem dX10_wealthAtEnd_26 : decode cX10_wealthAtEnd 26 = .ok (.getfield 83, 3) := by decide +kernel
theorem dX10_wealthAtEnd_29 : decode cX10_wealthAtEnd 29 = .ok (.bipush 48, 2) := by decide +kernel
theorem dX10_wealthAtEnd_31 : decode cX10_wealthAtEnd 31 = .ok (.invokevirtual 302, 3) := by decide +kernel
theorem dX10_wealthAtEnd_34 : decode cX10_wealthAtEnd 34 = .ok (.pop, 1) := by decide +kernel
theorem dX10_wealthAtEnd_35 : decode cX10_wealthAtEnd 35 = .ok (.aload_n 0, 1) := by decide +kernel
theorem dX10_wealthAtEnd_36 : decode cX10_wealthAtEnd 36 = .ok (.getfield 83, 3) := by decide +kernel
theorem dX10_wealthAtEnd_39 : decode cX10_wealthAtEnd 39 = .ok (.iload_n 1, 1) := by decide +kernel
theorem dX10_wealthAtEnd_40 : decode cX10_wealthAtEnd 40 = .ok (.invokevirtual 332, 3) := by decide +kernel
theorem dX10_wealthAtEnd_43 : decode cX10_wealthAtEnd 43 = .ok (.ireturn, 1) := by decide +kernel
theorem dX10_fence_0 : decode cX10_fence 0 = .ok (.aload_n 0, 1) := by decide +kernel
theorem dX10_fence_1 : decode cX10_fence 1 = .ok (.getfield 30, 3) := by decide +kernel
theorem dX10_fence_4 : decode cX10_fence 4 = .ok (.getfield 124, 3) := by decide +kernel
theorem dX10_fence_7 : decode cX10_fence 7 = .ok (.iload_n 1, 1) := by decide +kernel
theorem dX10_fence_8 : decode cX10_fence 8 = .ok (.invokevirtual 171, 3) := by decide +kernel
theorem dX10_fence_11 : decode cX10_fence 11 = .ok (.ifCond .eq 18, 3) := by decide +kernel
theorem dX10_fence_14 : decode cX10_fence 14 = .ok (.aload_n 0, 1) := by decide +kernel
theorem dX10_fence_15 : decode cX10_fence 15 = .ok (.getfield 30, 3) := by decide +kernel
theorem dX10_fence_18 : decode cX10_fence 18 = .ok (.getfield 127, 3) := by decide +kernel
theorem dX10_fence_21 : decode cX10_fence 21 = .ok (.getfield 229, 3) := by decide +kernel
theorem dX10_fence_24 : decode cX10_fence 24 = .ok (.bipush 12, 2) := by decide +kernel
theorem dX10_fence_26 : decode cX10_fence 26 = .ok (.if_icmp .lt 5, 3) := by decide +kernel
theorem dX10_fence_29 : decode cX10_fence 29 = .ok (.iconst (-1), 1) := by decide +kernel
theorem dX10_fence_30 : decode cX10_fence 30 = .ok (.ireturn, 1) := by decide +kernel
theorem dX10_fence_31 : decode cX10_fence 31 = .ok (.aload_n 0, 1) := by decide +kernel
theorem dX10_fence_32 : decode cX10_fence 32 = .ok (.iload_n 1, 1) := by decide +kernel
theorem dX10_fence_33 : decode cX10_fence 33 = .ok (.invokevirtual 335, 3) := by decide +kernel
theorem dX10_fence_36 : decode cX10_fence 36 = .ok (.istore_n 2, 1) := by decide +kernel
theorem dX10_fence_37 : decode cX10_fence 37 = .ok (.iload_n 2, 1) := by decide +kernel
theorem dX10_fence_38 : decode cX10_fence 38 = .ok (.istore_n 3, 1) := by decide +kernel
theorem dX10_fence_39 : decode cX10_fence 39 = .ok (.iconst (-1), 1) := by decide +kernel
theorem dX10_fence_40 : decode cX10_fence 40 = .ok (.istore 4, 2) := by decide +kernel
theorem dX10_fence_42 : decode cX10_fence 42 = .ok (.iconst 0, 1) := by decide +kernel
theorem dX10_fence_43 : decode cX10_fence 43 = .ok (.istore 5, 2) := by decide +kernel
theorem dX10_fence_45 : decode cX10_fence 45 = .ok (.iload 5, 2) := by decide +kernel
theorem dX10_fence_47 : decode cX10_fence 47 = .ok (.bipush 100, 2) := by decide +kernel
theorem dX10_fence_49 : decode cX10_fence 49 = .ok (.if_icmp .ge 109, 3) := by decide +kernel
theorem dX10_fence_52 : decode cX10_fence 52 = .ok (.aload_n 0, 1) := by decide +kernel
theorem dX10_fence_53 : decode cX10_fence 53 = .ok (.getfield 30, 3) := by decide +kernel
theorem dX10_fence_56 : decode cX10_fence 56 = .ok (.getfield 124, 3) := by decide +kernel
theorem dX10_fence_59 : decode cX10_fence 59 = .ok (.iload 5, 2) := by decide +kernel
theorem dX10_fence_61 : decode cX10_fence 61 = .ok (.invokevirtual 158, 3) := by decide +kernel
theorem dX10_fence_64 : decode cX10_fence 64 = .ok (.ifCond .eq 88, 3) := by decide +kernel
theorem dX10_fence_67 : decode cX10_fence 67 = .ok (.aload_n 0, 1) := by decide +kernel
theorem dX10_fence_68 : decode cX10_fence 68 = .ok (.getfield 30, 3) := by decide +kernel
theorem dX10_fence_71 : decode cX10_fence 71 = .ok (.getfield 127, 3) := by decide +kernel
theorem dX10_fence_74 : decode cX10_fence 74 = .ok (.getfield 165, 3) := by decide +kernel
theorem dX10_fence_77 : decode cX10_fence 77 = .ok (.iload 5, 2) := by decide +kernel
theorem dX10_fence_79 : decode cX10_fence 79 = .ok (.iaload, 1) := by decide +kernel
theorem dX10_fence_80 : decode cX10_fence 80 = .ok (.ifCond .ne 72, 3) := by decide +kernel
theorem dX10_fence_83 : decode cX10_fence 83 = .ok (.aload_n 0, 1) := by decide +kernel
theorem dX10_fence_84 : decode cX10_fence 84 = .ok (.getfield 83, 3) := by decide +kernel
theorem dX10_fence_87 : decode cX10_fence 87 = .ok (.aload_n 0, 1) := by decide +kernel
theorem dX10_fence_88 : decode cX10_fence 88 = .ok (.getfield 30, 3) := by decide +kernel
theorem dX10_fence_91 : decode cX10_fence 91 = .ok (.getfield 127, 3) := by decide +kernel
theorem dX10_fence_94 : decode cX10_fence 94 = .ok (.invokevirtual 280, 3) := by decide +kernel
theorem dX10_fence_97 : decode cX10_fence 97 = .ok (.aload_n 0, 1) := by decide +kernel
theorem dX10_fence_98 : decode cX10_fence 98 = .ok (.getfield 83, 3) := by decide +kernel
theorem dX10_fence_101 : decode cX10_fence 101 = .ok (.iload 5, 2) := by decide +kernel
theorem dX10_fence_103 : decode cX10_fence 103 = .ok (.invokevirtual 309, 3) := by decide +kernel
theorem dX10_fence_106 : decode cX10_fence 106 = .ok (.aload_n 0, 1) := by decide +kernel
theorem dX10_fence_107 : decode cX10_fence 107 = .ok (.getfield 69, 3) := by decide +kernel
theorem dX10_fence_110 : decode cX10_fence 110 = .ok (.aload_n 0, 1) := by decide +kernel
theorem dX10_fence_111 : decode cX10_fence 111 = .ok (.getfield 30, 3) := by decide +kernel
theorem dX10_fence_114 : decode cX10_fence 114 = .ok (.getfield 124, 3) := by decide +kernel
theorem dX10_fence_117 : decode cX10_fence 117 = .ok (.aload_n 0, 1) := by decide +kernel
theorem dX10_fence_118 : decode cX10_fence 118 = .ok (.getfield 83, 3) := by decide +kernel
theorem dX10_fence_121 : decode cX10_fence 121 = .ok (.bipush 48, 2) := by decide +kernel
theorem dX10_fence_123 : decode cX10_fence 123 = .ok (.invokevirtual 302, 3) := by decide +kernel
theorem dX10_fence_126 : decode cX10_fence 126 = .ok (.pop, 1) := by decide +kernel
theorem dX10_fence_127 : decode cX10_fence 127 = .ok (.aload_n 0, 1) := by decide +kernel
theorem dX10_fence_128 : decode cX10_fence 128 = .ok (.getfield 83, 3) := by decide +kernel
theorem dX10_fence_131 : decode cX10_fence 131 = .ok (.iload_n 1, 1) := by decide +kernel
theorem dX10_fence_132 : decode cX10_fence 132 = .ok (.invokevirtual 332, 3) := by decide +kernel
theorem dX10_fence_135 : decode cX10_fence 135 = .ok (.iload_n 3, 1) := by decide +kernel
theorem dX10_fence_136 : decode cX10_fence 136 = .ok (.if_icmp .le 16, 3) := by decide +kernel
theorem dX10_fence_139 : decode cX10_fence 139 = .ok (.aload_n 0, 1) := by decide +kernel
theorem dX10_fence_140 : decode cX10_fence 140 = .ok (.getfield 83, 3) := by decide +kernel
theorem dX10_fence_143 : decode cX10_fence 143 = .ok (.iload_n 1, 1) := by decide +kernel
theorem dX10_fence_144 : decode cX10_fence 144 = .ok (.invokevirtual 332, 3) := by decide +kernel
theorem dX10_fence_147 : decode cX10_fence 147 = .ok (.istore_n 3, 1) := by decide +kernel
theorem dX10_fence_148 : decode cX10_fence 148 = .ok (.iload 5, 2) := by decide +kernel
theorem dX10_fence_150 : decode cX10_fence 150 = .ok (.istore 4, 2) := by decide +kernel
theorem dX10_fence_152 : decode cX10_fence 152 = .ok (.iinc 5 1, 3) := by decide +kernel
theorem dX10_fence_155 : decode cX10_fence 155 = .ok (.goto (-110), 3) := by decide +kernel
theorem dX10_fence_158 : decode cX10_fence 158 = .ok (.iload 4, 2) := by decide +kernel
theorem dX10_fence_160 : decode cX10_fence 160 = .ok (.iconst (-1), 1) := by decide +kernel
theorem dX10_fence_161 : decode cX10_fence 161 = .ok (.if_icmp .eq 10, 3) := by decide +kernel
theorem dX10_fence_164 : decode cX10_fence 164 = .ok (.aload_n 0, 1) := by decide +kernel
theorem dX10_fence_165 : decode cX10_fence 165 = .ok (.iload_n 3, 1) := by decide +kernel
theorem dX10_fence_166 : decode cX10_fence 166 = .ok (.iload_n 2, 1) := by decide +kernel
theorem dX10_fence_167 : decode cX10_fence 167 = .ok (.isub, 1) := by decide +kernel
theorem dX10_fence_168 : decode cX10_fence 168 = .ok (.putfield 87, 3) := by decide +kernel
theorem dX10_fence_171 : decode cX10_fence 171 = .ok (.iload 4, 2) := by decide +kernel
theorem dX10_fence_173 : decode cX10_fence 173 = .ok (.ireturn, 1) := by decide +kernel
theorem dX10_more_0 : decode cX10_more 0 = .ok (.aload_n 0, 1) := by decide +kernel
theorem dX10_more_1 : decode cX10_more 1 = .ok (.getfield 87, 3) := by decide +kernel
theorem dX10_more_4 : decode cX10_more 4 = .ok (.ireturn, 1) := by decide +kernel
theorem dX10_suit_0 : decode cX10_suit 0 = .ok (.aload_n 0, 1) := by decide +kernel
theorem dX10_suit_1 : decode cX10_suit 1 = .ok (.getfield 30, 3) := by decide +kernel
theorem dX10_suit_4 : decode cX10_suit 4 = .ok (.getfield 124, 3) := by decide +kernel
theorem dX10_suit_7 : decode cX10_suit 7 = .ok (.iload_n 1, 1) := by decide +kernel
theorem dX10_suit_8 : decode cX10_suit 8 = .ok (.invokevirtual 171, 3) := by decide +kernel
theorem dX10_suit_11 : decode cX10_suit 11 = .ok (.ifCond .eq 17, 3) := by decide +kernel
theorem dX10_suit_14 : decode cX10_suit 14 = .ok (.aload_n 0, 1) := by decide +kernel
theorem dX10_suit_15 : decode cX10_suit 15 = .ok (.getfield 30, 3) := by decide +kernel
theorem dX10_suit_18 : decode cX10_suit 18 = .ok (.getfield 127, 3) := by decide +kernel
theorem dX10_suit_21 : decode cX10_suit 21 = .ok (.iload_n 2, 1) := by decide +kernel
theorem dX10_suit_22 : decode cX10_suit 22 = .ok (.invokevirtual 312, 3) := by decide +kernel
theorem dX10_suit_25 : decode cX10_suit 25 = .ok (.ifCond .eq 7, 3) := by decide +kernel
theorem dX10_suit_28 : decode cX10_suit 28 = .ok (.sipush (-10001), 3) := by decide +kernel
theorem dX10_suit_31 : decode cX10_suit 31 = .ok (.ireturn, 1) := by decide +kernel
theorem dX10_suit_32 : decode cX10_suit 32 = .ok (.aload_n 0, 1) := by decide +kernel
theorem dX10_suit_33 : decode cX10_suit 33 = .ok (.iload_n 1, 1) := by decide +kernel
theorem dX10_suit_34 : decode cX10_suit 34 = .ok (.invokevirtual 335, 3) := by decide +kernel
theorem dX10_suit_37 : decode cX10_suit 37 = .ok (.istore_n 3, 1) := by decide +kernel
theorem dX10_suit_38 : decode cX10_suit 38 = .ok (.aload_n 0, 1) := by decide +kernel
theorem dX10_suit_39 : decode cX10_suit 39 = .ok (.getfield 83, 3) := by decide +kernel
theorem dX10_suit_42 : decode cX10_suit 42 = .ok (.aload_n 0, 1) := by decide +kernel
theorem dX10_suit_43 : decode cX10_suit 43 = .ok (.getfield 30, 3) := by decide +kernel
theorem dX10_suit_46 : decode cX10_suit 46 = .ok (.getfield 127, 3) := by decide +kernel
theorem dX10_suit_49 : decode cX10_suit 49 = .ok (.invokevirtual 280, 3) := by decide +kernel
theorem dX10_suit_52 : decode cX10_suit 52 = .ok (.aload_n 0, 1) := by decide +kernel
theorem dX10_suit_53 : decode cX10_suit 53 = .ok (.getfield 83, 3) := by decide +kernel
theorem dX10_suit_56 : decode cX10_suit 56 = .ok (.aload_n 0, 1) := by decide +kernel
theorem dX10_suit_57 : decode cX10_suit 57 = .ok (.getfield 30, 3) := by decide +kernel
theorem dX10_suit_60 : decode cX10_suit 60 = .ok (.getfield 124, 3) := by decide +kernel
theorem dX10_suit_63 : decode cX10_suit 63 = .ok (.iload_n 2, 1) := by decide +kernel
theorem dX10_suit_64 : decode cX10_suit 64 = .ok (.invokevirtual 315, 3) := by decide +kernel
theorem dX10_suit_67 : decode cX10_suit 67 = .ok (.aload_n 0, 1) := by decide +kernel
theorem dX10_suit_68 : decode cX10_suit 68 = .ok (.getfield 69, 3) := by decide +kernel
theorem dX10_suit_71 : decode cX10_suit 71 = .ok (.aload_n 0, 1) := by decide +kernel
theorem dX10_suit_72 : decode cX10_suit 72 = .ok (.getfield 30, 3) := by decide +kernel
theorem dX10_suit_75 : decode cX10_suit 75 = .ok (.getfield 124, 3) := by decide +kernel
theorem dX10_suit_78 : decode cX10_suit 78 = .ok (.aload_n 0, 1) := by decide +kernel
theorem dX10_suit_79 : decode cX10_suit 79 = .ok (.getfield 83, 3) := by decide +kernel
theorem dX10_suit_82 : decode cX10_suit 82 = .ok (.bipush 48, 2) := by decide +kernel
theorem dX10_suit_84 : decode cX10_suit 84 = .ok (.invokevirtual 302, 3) := by decide +kernel
theorem dX10_suit_87 : decode cX10_suit 87 = .ok (.pop, 1) := by decide +kernel
theorem dX10_suit_88 : decode cX10_suit 88 = .ok (.aload_n 0, 1) := by decide +kernel
theorem dX10_suit_89 : decode cX10_suit 89 = .ok (.getfield 83, 3) := by decide +kernel
theorem dX10_suit_92 : decode cX10_suit 92 = .ok (.iload_n 1, 1) := by decide +kernel
theorem dX10_suit_93 : decode cX10_suit 93 = .ok (.invokevirtual 332, 3) := by decide +kernel
theorem dX10_suit_96 : decode cX10_suit 96 = .ok (.iload_n 3, 1) := by decide +kernel
theorem dX10_suit_97 : decode cX10_suit 97 = .ok (.isub, 1) := by decide +kernel
theorem dX10_suit_98 : decode cX10_suit 98 = .ok (.ireturn, 1) := by decide +kernel
theorem dX10_freePlots_0 : decode cX10_freePlots 0 = .ok (.iconst 0, 1) := by decide +kernel
theorem dX10_freePlots_1 : decode cX10_freePlots 1 = .ok (.istore_n 1, 1) := by decide +kernel
theorem dX10_freePlots_2 : decode cX10_freePlots 2 = .ok (.iconst 0, 1) := by decide +kernel
theorem dX10_freePlots_3 : decode cX10_freePlots 3 = .ok (.istore_n 2, 1) := by decide +kernel
theorem dX10_freePlots_4 : decode cX10_freePlots 4 = .ok (.iload_n 2, 1) := by decide +kernel
theorem dX10_freePlots_5 : decode cX10_freePlots 5 = .ok (.aload_n 0, 1) := by decide +kernel
theorem dX10_freePlots_6 : decode cX10_freePlots 6 = .ok (.getfield 30, 3) := by decide +kernel
theorem dX10_freePlots_9 : decode cX10_freePlots 9 = .ok (.getfield 124, 3) := by decide +kernel
theorem dX10_freePlots_12 : decode cX10_freePlots 12 = .ok (.getfield 174, 3) := by decide +kernel
theorem dX10_freePlots_15 : decode cX10_freePlots 15 = .ok (.getfield 253, 3) := by decide +kernel
theorem dX10_freePlots_18 : decode cX10_freePlots 18 = .ok (.if_icmp .ge 56, 3) := by decide +kernel
theorem dX10_freePlots_21 : decode cX10_freePlots 21 = .ok (.aload_n 0, 1) := by decide +kernel
theorem dX10_freePlots_22 : decode cX10_freePlots 22 = .ok (.getfield 30, 3) := by decide +kernel
theorem dX10_freePlots_25 : decode cX10_freePlots 25 = .ok (.getfield 124, 3) := by decide +kernel
theorem dX10_freePlots_28 : decode cX10_freePlots 28 = .ok (.getfield 174, 3) := by decide +kernel
theorem dX10_freePlots_31 : decode cX10_freePlots 31 = .ok (.getfield 204, 3) := by decide +kernel
theorem dX10_freePlots_34 : decode cX10_freePlots 34 = .ok (.iload_n 2, 1) := by decide +kernel
theorem dX10_freePlots_35 : decode cX10_freePlots 35 = .ok (.iaload, 1) := by decide +kernel
theorem dX10_freePlots_36 : decode cX10_freePlots 36 = .ok (.istore_n 3, 1) := by decide +kernel
theorem dX10_freePlots_37 : decode cX10_freePlots 37 = .ok (.iload_n 3, 1) := by decide +kernel
theorem dX10_freePlots_38 : decode cX10_freePlots 38 = .ok (.ifCond .lt 30, 3) := by decide +kernel
theorem dX10_freePlots_41 : decode cX10_freePlots 41 = .ok (.iload_n 3, 1) := by decide +kernel
theorem dX10_freePlots_42 : decode cX10_freePlots 42 = .ok (.bipush 100, 2) := by decide +kernel
theorem dX10_freePlots_44 : decode cX10_freePlots 44 = .ok (.if_icmp .ge 24, 3) := by decide +kernel
theorem dX10_freePlots_47 : decode cX10_freePlots 47 = .ok (.aload_n 0, 1) := by decide +kernel
theorem dX10_freePlots_48 : decode cX10_freePlots 48 = .ok (.getfield 30, 3) := by decide +kernel
theorem dX10_freePlots_51 : decode cX10_freePlots 51 = .ok (.getfield 127, 3) := by decide +kernel
theorem dX10_freePlots_54 : decode cX10_freePlots 54 = .ok (.getfield 165, 3) := by decide +kernel
theorem dX10_freePlots_57 : decode cX10_freePlots 57 = .ok (.iload_n 3, 1) := by decide +kernel
theorem dX10_freePlots_58 : decode cX10_freePlots 58 = .ok (.iaload, 1) := by decide +kernel
theorem dX10_freePlots_59 : decode cX10_freePlots 59 = .ok (.ifCond .ne 9, 3) := by decide +kernel
theorem dX10_freePlots_62 : decode cX10_freePlots 62 = .ok (.iload_n 1, 1) := by decide +kernel
theorem dX10_freePlots_63 : decode cX10_freePlots 63 = .ok (.iconst 1, 1) := by decide +kernel
theorem dX10_freePlots_64 : decode cX10_freePlots 64 = .ok (.iload_n 2, 1) := by decide +kernel
theorem dX10_freePlots_65 : decode cX10_freePlots 65 = .ok (.ishl, 1) := by decide +kernel
theorem dX10_freePlots_66 : decode cX10_freePlots 66 = .ok (.ior, 1) := by decide +kernel
theorem dX10_freePlots_67 : decode cX10_freePlots 67 = .ok (.istore_n 1, 1) := by decide +kernel
theorem dX10_freePlots_68 : decode cX10_freePlots 68 = .ok (.iinc 2 1, 3) := by decide +kernel
theorem dX10_freePlots_71 : decode cX10_freePlots 71 = .ok (.goto (-67), 3) := by decide +kernel
theorem dX10_freePlots_74 : decode cX10_freePlots 74 = .ok (.iload_n 1, 1) := by decide +kernel
theorem dX10_freePlots_75 : decode cX10_freePlots 75 = .ok (.ireturn, 1) := by decide +kernel
theorem dX10_tryPlots_0 : decode cX10_tryPlots 0 = .ok (.aload_n 0, 1) := by decide +kernel
theorem dX10_tryPlots_1 : decode cX10_tryPlots 1 = .ok (.getfield 83, 3) := by decide +kernel
theorem dX10_tryPlots_4 : decode cX10_tryPlots 4 = .ok (.aload_n 0, 1) := by decide +kernel
theorem dX10_tryPlots_5 : decode cX10_tryPlots 5 = .ok (.getfield 30, 3) := by decide +kernel
theorem dX10_tryPlots_8 : decode cX10_tryPlots 8 = .ok (.getfield 127, 3) := by decide +kernel
theorem dX10_tryPlots_11 : decode cX10_tryPlots 11 = .ok (.invokevirtual 280, 3) := by decide +kernel
theorem dX10_tryPlots_14 : decode cX10_tryPlots 14 = .ok (.iconst 0, 1) := by decide +kernel
theorem dX10_tryPlots_15 : decode cX10_tryPlots 15 = .ok (.istore_n 2, 1) := by decide +kernel
theorem dX10_tryPlots_16 : decode cX10_tryPlots 16 = .ok (.iload_n 2, 1) := by decide +kernel
theorem dX10_tryPlots_17 : decode cX10_tryPlots 17 = .ok (.aload_n 0, 1) := by decide +kernel
theorem dX10_tryPlots_18 : decode cX10_tryPlots 18 = .ok (.getfield 30, 3) := by decide +kernel
theorem dX10_tryPlots_21 : decode cX10_tryPlots 21 = .ok (.getfield 124, 3) := by decide +kernel
theorem dX10_tryPlots_24 : decode cX10_tryPlots 24 = .ok (.getfield 174, 3) := by decide +kernel
theorem dX10_tryPlots_27 : decode cX10_tryPlots 27 = .ok (.getfield 253, 3) := by decide +kernel
theorem dX10_tryPlots_30 : decode cX10_tryPlots 30 = .ok (.if_icmp .ge 42, 3) := by decide +kernel
theorem dX10_tryPlots_33 : decode cX10_tryPlots 33 = .ok (.aload_n 0, 1) := by decide +kernel
theorem dX10_tryPlots_34 : decode cX10_tryPlots 34 = .ok (.getfield 30, 3) := by decide +kernel
theorem dX10_tryPlots_37 : decode cX10_tryPlots 37 = .ok (.getfield 124, 3) := by decide +kernel
theorem dX10_tryPlots_40 : decode cX10_tryPlots 40 = .ok (.getfield 174, 3) := by decide +kernel
theorem dX10_tryPlots_43 : decode cX10_tryPlots 43 = .ok (.getfield 204, 3) := by decide +kernel
theorem dX10_tryPlots_46 : decode cX10_tryPlots 46 = .ok (.iload_n 2, 1) := by decide +kernel
theorem dX10_tryPlots_47 : decode cX10_tryPlots 47 = .ok (.iaload, 1) := by decide +kernel
theorem dX10_tryPlots_48 : decode cX10_tryPlots 48 = .ok (.istore_n 3, 1) := by decide +kernel
theorem dX10_tryPlots_49 : decode cX10_tryPlots 49 = .ok (.iload_n 1, 1) := by decide +kernel
theorem dX10_tryPlots_50 : decode cX10_tryPlots 50 = .ok (.iload_n 2, 1) := by decide +kernel
theorem dX10_tryPlots_51 : decode cX10_tryPlots 51 = .ok (.ishr, 1) := by decide +kernel
theorem dX10_tryPlots_52 : decode cX10_tryPlots 52 = .ok (.iconst 1, 1) := by decide +kernel
theorem dX10_tryPlots_53 : decode cX10_tryPlots 53 = .ok (.iand, 1) := by decide +kernel
theorem dX10_tryPlots_54 : decode cX10_tryPlots 54 = .ok (.iconst 1, 1) := by decide +kernel
theorem dX10_tryPlots_55 : decode cX10_tryPlots 55 = .ok (.if_icmp .ne 11, 3) := by decide +kernel
theorem dX10_tryPlots_58 : decode cX10_tryPlots 58 = .ok (.aload_n 0, 1) := by decide +kernel
theorem dX10_tryPlots_59 : decode cX10_tryPlots 59 = .ok (.getfield 83, 3) := by decide +kernel
theorem dX10_tryPlots_62 : decode cX10_tryPlots 62 = .ok (.iload_n 3, 1) := by decide +kernel
theorem dX10_tryPlots_63 : decode cX10_tryPlots 63 = .ok (.invokevirtual 309, 3) := by decide +kernel
theorem dX10_tryPlots_66 : decode cX10_tryPlots 66 = .ok (.iinc 2 1, 3) := by decide +kernel
theorem dX10_tryPlots_69 : decode cX10_tryPlots 69 = .ok (.goto (-53), 3) := by decide +kernel
theorem dX10_tryPlots_72 : decode cX10_tryPlots 72 = .ok (.aload_n 0, 1) := by decide +kernel
theorem dX10_tryPlots_73 : decode cX10_tryPlots 73 = .ok (.getfield 69, 3) := by decide +kernel
theorem dX10_tryPlots_76 : decode cX10_tryPlots 76 = .ok (.aload_n 0, 1) := by decide +kernel
theorem dX10_tryPlots_77 : decode cX10_tryPlots 77 = .ok (.getfield 30, 3) := by decide +kernel
theorem dX10_tryPlots_80 : decode cX10_tryPlots 80 = .ok (.getfield 124, 3) := by decide +kernel
theorem dX10_tryPlots_83 : decode cX10_tryPlots 83 = .ok (.aload_n 0, 1) := by decide +kernel
theorem dX10_tryPlots_84 : decode cX10_tryPlots 84 = .ok (.getfield 83, 3) := by decide +kernel
theorem dX10_tryPlots_87 : decode cX10_tryPlots 87 = .ok (.bipush 48, 2) := by decide +kernel
theorem dX10_tryPlots_89 : decode cX10_tryPlots 89 = .ok (.invokevirtual 302, 3) := by decide +kernel
theorem dX10_tryPlots_92 : decode cX10_tryPlots 92 = .ok (.pop, 1) := by decide +kernel
theorem dX10_tryPlots_93 : decode cX10_tryPlots 93 = .ok (.return_, 1) := by decide +kernel
theorem dX10_has_0 : decode cX10_has 0 = .ok (.aload_n 0, 1) := by decide +kernel
theorem dX10_has_1 : decode cX10_has 1 = .ok (.getfield 30, 3) := by decide +kernel
theorem dX10_has_4 : decode cX10_has 4 = .ok (.getfield 124, 3) := by decide +kernel
theorem dX10_has_7 : decode cX10_has 7 = .ok (.iload_n 1, 1) := by decide +kernel
theorem dX10_has_8 : decode cX10_has 8 = .ok (.invokevirtual 171, 3) := by decide +kernel
theorem dX10_has_11 : decode cX10_has 11 = .ok (.ifCond .eq 14, 3) := by decide +kernel
theorem dX10_has_14 : decode cX10_has 14 = .ok (.iload_n 2, 1) := by decide +kernel
theorem dX10_has_15 : decode cX10_has 15 = .ok (.aload_n 0, 1) := by decide +kernel
theorem dX10_has_16 : decode cX10_has 16 = .ok (.invokevirtual 338, 3) := by decide +kernel
theorem dX10_has_19 : decode cX10_has 19 = .ok (.iconst (-1), 1) := by decide +kernel
theorem dX10_has_20 : decode cX10_has 20 = .ok (.ixor, 1) := by decide +kernel
theorem dX10_has_21 : decode cX10_has 21 = .ok (.iand, 1) := by decide +kernel
theorem dX10_has_22 : decode cX10_has 22 = .ok (.ifCond .eq 5, 3) := by decide +kernel
theorem dX10_has_25 : decode cX10_has 25 = .ok (.iconst (-1), 1) := by decide +kernel
theorem dX10_has_26 : decode cX10_has 26 = .ok (.ireturn, 1) := by decide +kernel
theorem dX10_has_27 : decode cX10_has 27 = .ok (.aload_n 0, 1) := by decide +kernel
theorem dX10_has_28 : decode cX10_has 28 = .ok (.iload_n 2, 1) := by decide +kernel
theorem dX10_has_29 : decode cX10_has 29 = .ok (.invokevirtual 342, 3) := by decide +kernel
theorem dX10_has_32 : decode cX10_has 32 = .ok (.aload_n 0, 1) := by decide +kernel
theorem dX10_has_33 : decode cX10_has 33 = .ok (.getfield 83, 3) := by decide +kernel
theorem dX10_has_36 : decode cX10_has 36 = .ok (.iload_n 1, 1) := by decide +kernel
theorem dX10_has_37 : decode cX10_has 37 = .ok (.invokevirtual 332, 3) := by decide +kernel
theorem dX10_has_40 : decode cX10_has 40 = .ok (.ireturn, 1) := by decide +kernel
theorem dX4_isRest_0 : decode cX4_isRest 0 = .ok (.iconst 0, 1) := by decide +kernel
theorem dX4_isRest_1 : decode cX4_isRest 1 = .ok (.istore_n 3, 1) := by decide +kernel
theorem dX4_isRest_2 : decode cX4_isRest 2 = .ok (.iload_n 3, 1) := by decide +kernel
theorem dX4_isRest_3 : decode cX4_isRest 3 = .ok (.bipush 8, 2) := by decide +kernel
theorem dX4_isRest_5 : decode cX4_isRest 5 = .ok (.if_icmp .ge 53, 3) := by decide +kernel
theorem dX4_isRest_8 : decode cX4_isRest 8 = .ok (.iload_n 1, 1) := by decide +kernel
theorem dX4_isRest_9 : decode cX4_isRest 9 = .ok (.iconst 1, 1) := by decide +kernel
theorem dX4_isRest_10 : decode cX4_isRest 10 = .ok (.iload_n 3, 1) := by decide +kernel
theorem dX4_isRest_11 : decode cX4_isRest 11 = .ok (.ishl, 1) := by decide +kernel
theorem dX4_isRest_12 : decode cX4_isRest 12 = .ok (.ixor, 1) := by decide +kernel
theorem dX4_isRest_13 : decode cX4_isRest 13 = .ok (.istore 4, 2) := by decide +kernel
theorem dX4_isRest_15 : decode cX4_isRest 15 = .ok (.iload_n 2, 1) := by decide +kernel
theorem dX4_isRest_16 : decode cX4_isRest 16 = .ok (.iload_n 3, 1) := by decide +kernel
theorem dX4_isRest_17 : decode cX4_isRest 17 = .ok (.ishr, 1) := by decide +kernel
theorem dX4_isRest_18 : decode cX4_isRest 18 = .ok (.iconst 1, 1) := by decide +kernel
theorem dX4_isRest_19 : decode cX4_isRest 19 = .ok (.iand, 1) := by decide +kernel
theorem dX4_isRest_20 : decode cX4_isRest 20 = .ok (.iconst 1, 1) := by decide +kernel
theorem dX4_isRest_21 : decode cX4_isRest 21 = .ok (.if_icmp .ne 31, 3) := by decide +kernel
theorem dX4_isRest_24 : decode cX4_isRest 24 = .ok (.aload_n 0, 1) := by decide +kernel
theorem dX4_isRest_25 : decode cX4_isRest 25 = .ok (.getfield 23, 3) := by decide +kernel
theorem dX4_isRest_28 : decode cX4_isRest 28 = .ok (.iload 4, 2) := by decide +kernel
theorem dX4_isRest_30 : decode cX4_isRest 30 = .ok (.bipush 8, 2) := by decide +kernel
theorem dX4_isRest_32 : decode cX4_isRest 32 = .ok (.imul, 1) := by decide +kernel
theorem dX4_isRest_33 : decode cX4_isRest 33 = .ok (.iload_n 3, 1) := by decide +kernel
theorem dX4_isRest_34 : decode cX4_isRest 34 = .ok (.iadd, 1) := by decide +kernel
theorem dX4_isRest_35 : decode cX4_isRest 35 = .ok (.iaload, 1) := by decide +kernel
theorem dX4_isRest_36 : decode cX4_isRest 36 = .ok (.aload_n 0, 1) := by decide +kernel
theorem dX4_isRest_37 : decode cX4_isRest 37 = .ok (.getfield 23, 3) := by decide +kernel
theorem dX4_isRest_40 : decode cX4_isRest 40 = .ok (.iload_n 1, 1) := by decide +kernel
theorem dX4_isRest_41 : decode cX4_isRest 41 = .ok (.bipush 8, 2) := by decide +kernel
theorem dX4_isRest_43 : decode cX4_isRest 43 = .ok (.imul, 1) := by decide +kernel
theorem dX4_isRest_44 : decode cX4_isRest 44 = .ok (.iload_n 3, 1) := by decide +kernel
theorem dX4_isRest_45 : decode cX4_isRest 45 = .ok (.iadd, 1) := by decide +kernel
theorem dX4_isRest_46 : decode cX4_isRest 46 = .ok (.iaload, 1) := by decide +kernel
theorem dX4_isRest_47 : decode cX4_isRest 47 = .ok (.if_icmp .le 5, 3) := by decide +kernel
theorem dX4_isRest_50 : decode cX4_isRest 50 = .ok (.iconst 0, 1) := by decide +kernel
theorem dX4_isRest_51 : decode cX4_isRest 51 = .ok (.ireturn, 1) := by decide +kernel
theorem dX4_isRest_52 : decode cX4_isRest 52 = .ok (.iinc 3 1, 3) := by decide +kernel
theorem dX4_isRest_55 : decode cX4_isRest 55 = .ok (.goto (-53), 3) := by decide +kernel
theorem dX4_isRest_58 : decode cX4_isRest 58 = .ok (.iconst 1, 1) := by decide +kernel
theorem dX4_isRest_59 : decode cX4_isRest 59 = .ok (.ireturn, 1) := by decide +kernel
theorem dX4_findRests_0 : decode cX4_findRests 0 = .ok (.aload_n 0, 1) := by decide +kernel
theorem dX4_findRests_1 : decode cX4_findRests 1 = .ok (.iconst 0, 1) := by decide +kernel
theorem dX4_findRests_2 : decode cX4_findRests 2 = .ok (.putfield 15, 3) := by decide +kernel
theorem dX4_findRests_5 : decode cX4_findRests 5 = .ok (.iconst 0, 1) := by decide +kernel
theorem dX4_findRests_6 : decode cX4_findRests 6 = .ok (.istore_n 2, 1) := by decide +kernel
theorem dX4_findRests_7 : decode cX4_findRests 7 = .ok (.iload_n 2, 1) := by decide +kernel
theorem dX4_findRests_8 : decode cX4_findRests 8 = .ok (.sipush 256, 3) := by decide +kernel
theorem dX4_findRests_11 : decode cX4_findRests 11 = .ok (.if_icmp .ge 46, 3) := by decide +kernel
theorem dX4_findRests_14 : decode cX4_findRests 14 = .ok (.iload_n 2, 1) := by decide +kernel
theorem dX4_findRests_15 : decode cX4_findRests 15 = .ok (.iload_n 1, 1) := by decide +kernel
theorem dX4_findRests_16 : decode cX4_findRests 16 = .ok (.iconst (-1), 1) := by decide +kernel
theorem dX4_findRests_17 : decode cX4_findRests 17 = .ok (.ixor, 1) := by decide +kernel
theorem dX4_findRests_18 : decode cX4_findRests 18 = .ok (.iand, 1) := by decide +kernel
theorem dX4_findRests_19 : decode cX4_findRests 19 = .ok (.ifCond .ne 32, 3) := by decide +kernel
theorem dX4_findRests_22 : decode cX4_findRests 22 = .ok (.aload_n 0, 1) := by decide +kernel
theorem dX4_findRests_23 : decode cX4_findRests 23 = .ok (.iload_n 2, 1) := by decide +kernel
theorem dX4_findRests_24 : decode cX4_findRests 24 = .ok (.iload_n 1, 1) := by decide +kernel
theorem dX4_findRests_25 : decode cX4_findRests 25 = .ok (.invokevirtual 31, 3) := by decide +kernel
theorem dX4_findRests_28 : decode cX4_findRests 28 = .ok (.ifCond .eq 23, 3) := by decide +kernel
theorem dX4_findRests_31 : decode cX4_findRests 31 = .ok (.aload_n 0, 1) := by decide +kernel
theorem dX4_findRests_32 : decode cX4_findRests 32 = .ok (.getfield 19, 3) := by decide +kernel
theorem dX4_findRests_35 : decode cX4_findRests 35 = .ok (.aload_n 0, 1) := by decide +kernel
theorem dX4_findRests_36 : decode cX4_findRests 36 = .ok (.getfield 15, 3) := by decide +kernel
theorem dX4_findRests_39 : decode cX4_findRests 39 = .ok (.iload_n 2, 1) := by decide +kernel
theorem dX4_findRests_40 : decode cX4_findRests 40 = .ok (.iastore, 1) := by decide +kernel
theorem dX4_findRests_41 : decode cX4_findRests 41 = .ok (.aload_n 0, 1) := by decide +kernel
theorem dX4_findRests_42 : decode cX4_findRests 42 = .ok (.dup, 1) := by decide +kernel
theorem dX4_findRests_43 : decode cX4_findRests 43 = .ok (.getfield 15, 3) := by decide +kernel
theorem dX4_findRests_46 : decode cX4_findRests 46 = .ok (.iconst 1, 1) := by decide +kernel
theorem dX4_findRests_47 : decode cX4_findRests 47 = .ok (.iadd, 1) := by decide +kernel
theorem dX4_findRests_48 : decode cX4_findRests 48 = .ok (.putfield 15, 3) := by decide +kernel
theorem dX4_findRests_51 : decode cX4_findRests 51 = .ok (.iinc 2 1, 3) := by decide +kernel
theorem dX4_findRests_54 : decode cX4_findRests 54 = .ok (.goto (-47), 3) := by decide +kernel
theorem dX4_findRests_57 : decode cX4_findRests 57 = .ok (.aload_n 0, 1) := by decide +kernel
theorem dX4_findRests_58 : decode cX4_findRests 58 = .ok (.iconst 1, 1) := by decide +kernel
theorem dX4_findRests_59 : decode cX4_findRests 59 = .ok (.putfield 9, 3) := by decide +kernel
theorem dX4_findRests_62 : decode cX4_findRests 62 = .ok (.return_, 1) := by decide +kernel
theorem dX4_note_0 : decode cX4_note 0 = .ok (.iconst 0, 1) := by decide +kernel
theorem dX4_note_1 : decode cX4_note 1 = .ok (.istore_n 3, 1) := by decide +kernel
theorem dX4_note_2 : decode cX4_note 2 = .ok (.iload_n 3, 1) := by decide +kernel
theorem dX4_note_3 : decode cX4_note 3 = .ok (.bipush 8, 2) := by decide +kernel
theorem dX4_note_5 : decode cX4_note 5 = .ok (.if_icmp .ge 25, 3) := by decide +kernel
theorem dX4_note_8 : decode cX4_note 8 = .ok (.aload_n 0, 1) := by decide +kernel
theorem dX4_note_9 : decode cX4_note 9 = .ok (.getfield 23, 3) := by decide +kernel
theorem dX4_note_12 : decode cX4_note 12 = .ok (.iload_n 1, 1) := by decide +kernel
theorem dX4_note_13 : decode cX4_note 13 = .ok (.bipush 8, 2) := by decide +kernel
theorem dX4_note_15 : decode cX4_note 15 = .ok (.imul, 1) := by decide +kernel
theorem dX4_note_16 : decode cX4_note 16 = .ok (.iload_n 3, 1) := by decide +kernel
theorem dX4_note_17 : decode cX4_note 17 = .ok (.iadd, 1) := by decide +kernel
theorem dX4_note_18 : decode cX4_note 18 = .ok (.aload_n 2, 1) := by decide +kernel
theorem dX4_note_19 : decode cX4_note 19 = .ok (.iload_n 3, 1) := by decide +kernel
theorem dX4_note_20 : decode cX4_note 20 = .ok (.invokevirtual 26, 3) := by decide +kernel
theorem dX4_note_23 : decode cX4_note 23 = .ok (.iastore, 1) := by decide +kernel
theorem dX4_note_24 : decode cX4_note 24 = .ok (.iinc 3 1, 3) := by decide +kernel
theorem dX4_note_27 : decode cX4_note 27 = .ok (.goto (-25), 3) := by decide +kernel
theorem dX4_note_30 : decode cX4_note 30 = .ok (.return_, 1) := by decide +kernel
theorem dX10_tryAllPlots_0 : decode cX10_tryAllPlots 0 = .ok (.aload_n 0, 1) := by decide +kernel
theorem dX10_tryAllPlots_1 : decode cX10_tryAllPlots 1 = .ok (.invokevirtual 338, 3) := by decide +kernel
theorem dX10_tryAllPlots_4 : decode cX10_tryAllPlots 4 = .ok (.istore_n 1, 1) := by decide +kernel
theorem dX10_tryAllPlots_5 : decode cX10_tryAllPlots 5 = .ok (.iconst 0, 1) := by decide +kernel
theorem dX10_tryAllPlots_6 : decode cX10_tryAllPlots 6 = .ok (.istore_n 2, 1) := by decide +kernel
theorem dX10_tryAllPlots_7 : decode cX10_tryAllPlots 7 = .ok (.iload_n 2, 1) := by decide +kernel
theorem dX10_tryAllPlots_8 : decode cX10_tryAllPlots 8 = .ok (.sipush 256, 3) := by decide +kernel
theorem dX10_tryAllPlots_11 : decode cX10_tryAllPlots 11 = .ok (.if_icmp .ge 34, 3) := by decide +kernel
theorem dX10_tryAllPlots_14 : decode cX10_tryAllPlots 14 = .ok (.iload_n 2, 1) := by decide +kernel
theorem dX10_tryAllPlots_15 : decode cX10_tryAllPlots 15 = .ok (.iload_n 1, 1) := by decide +kernel
theorem dX10_tryAllPlots_16 : decode cX10_tryAllPlots 16 = .ok (.iconst (-1), 1) := by decide +kernel
theorem dX10_tryAllPlots_17 : decode cX10_tryAllPlots 17 = .ok (.ixor, 1) := by decide +kernel
theorem dX10_tryAllPlots_18 : decode cX10_tryAllPlots 18 = .ok (.iand, 1) := by decide +kernel
theorem dX10_tryAllPlots_19 : decode cX10_tryAllPlots 19 = .ok (.ifCond .ne 20, 3) := by decide +kernel
theorem dX10_tryAllPlots_22 : decode cX10_tryAllPlots 22 = .ok (.aload_n 0, 1) := by decide +kernel
theorem dX10_tryAllPlots_23 : decode cX10_tryAllPlots 23 = .ok (.iload_n 2, 1) := by decide +kernel
theorem dX10_tryAllPlots_24 : decode cX10_tryAllPlots 24 = .ok (.invokevirtual 342, 3) := by decide +kernel
theorem dX10_tryAllPlots_27 : decode cX10_tryAllPlots 27 = .ok (.aload_n 0, 1) := by decide +kernel
theorem dX10_tryAllPlots_28 : decode cX10_tryAllPlots 28 = .ok (.getfield 76, 3) := by decide +kernel
theorem dX10_tryAllPlots_31 : decode cX10_tryAllPlots 31 = .ok (.iload_n 2, 1) := by decide +kernel
theorem dX10_tryAllPlots_32 : decode cX10_tryAllPlots 32 = .ok (.aload_n 0, 1) := by decide +kernel
theorem dX10_tryAllPlots_33 : decode cX10_tryAllPlots 33 = .ok (.getfield 83, 3) := by decide +kernel
theorem dX10_tryAllPlots_36 : decode cX10_tryAllPlots 36 = .ok (.invokevirtual 354, 3) := by decide +kernel
theorem dX10_tryAllPlots_39 : decode cX10_tryAllPlots 39 = .ok (.iinc 2 1, 3) := by decide +kernel
theorem dX10_tryAllPlots_42 : decode cX10_tryAllPlots 42 = .ok (.goto (-35), 3) := by decide +kernel
theorem dX10_tryAllPlots_45 : decode cX10_tryAllPlots 45 = .ok (.aload_n 0, 1) := by decide +kernel
theorem dX10_tryAllPlots_46 : decode cX10_tryAllPlots 46 = .ok (.getfield 76, 3) := by decide +kernel
theorem dX10_tryAllPlots_49 : decode cX10_tryAllPlots 49 = .ok (.iload_n 1, 1) := by decide +kernel
theorem dX10_tryAllPlots_50 : decode cX10_tryAllPlots 50 = .ok (.invokevirtual 358, 3) := by decide +kernel
theorem dX10_tryAllPlots_53 : decode cX10_tryAllPlots 53 = .ok (.return_, 1) := by decide +kernel
theorem dX10_rests_0 : decode cX10_rests 0 = .ok (.aload_n 0, 1) := by decide +kernel
theorem dX10_rests_1 : decode cX10_rests 1 = .ok (.getfield 76, 3) := by decide +kernel
theorem dX10_rests_4 : decode cX10_rests 4 = .ok (.getfield 149, 3) := by decide +kernel
theorem dX10_rests_7 : decode cX10_rests 7 = .ok (.ifCond .ne 7, 3) := by decide +kernel
theorem dX10_rests_10 : decode cX10_rests 10 = .ok (.aload_n 0, 1) := by decide +kernel
theorem dX10_rests_11 : decode cX10_rests 11 = .ok (.invokevirtual 345, 3) := by decide +kernel
theorem dX10_rests_14 : decode cX10_rests 14 = .ok (.iload_n 1, 1) := by decide +kernel
theorem dX10_rests_15 : decode cX10_rests 15 = .ok (.iconst (-1), 1) := by decide +kernel
theorem dX10_rests_16 : decode cX10_rests 16 = .ok (.if_icmp .ne 11, 3) := by decide +kernel
theorem dX10_rests_19 : decode cX10_rests 19 = .ok (.aload_n 0, 1) := by decide +kernel
theorem dX10_rests_20 : decode cX10_rests 20 = .ok (.getfield 76, 3) := by decide +kernel
theorem dX10_rests_23 : decode cX10_rests 23 = .ok (.getfield 348, 3) := by decide +kernel
theorem dX10_rests_26 : decode cX10_rests 26 = .ok (.ireturn, 1) := by decide +kernel
theorem dX10_rests_27 : decode cX10_rests 27 = .ok (.iload_n 1, 1) := by decide +kernel
theorem dX10_rests_28 : decode cX10_rests 28 = .ok (.ifCond .lt 26, 3) := by decide +kernel
theorem dX10_rests_31 : decode cX10_rests 31 = .ok (.iload_n 1, 1) := by decide +kernel
theorem dX10_rests_32 : decode cX10_rests 32 = .ok (.aload_n 0, 1) := by decide +kernel
theorem dX10_rests_33 : decode cX10_rests 33 = .ok (.getfield 76, 3) := by decide +kernel
theorem dX10_rests_36 : decode cX10_rests 36 = .ok (.getfield 348, 3) := by decide +kernel
theorem dX10_rests_39 : decode cX10_rests 39 = .ok (.if_icmp .ge 15, 3) := by decide +kernel
theorem dX10_rests_42 : decode cX10_rests 42 = .ok (.aload_n 0, 1) := by decide +kernel
theorem dX10_rests_43 : decode cX10_rests 43 = .ok (.getfield 76, 3) := by decide +kernel
theorem dX10_rests_46 : decode cX10_rests 46 = .ok (.getfield 351, 3) := by decide +kernel
theorem dX10_rests_49 : decode cX10_rests 49 = .ok (.iload_n 1, 1) := by decide +kernel
theorem dX10_rests_50 : decode cX10_rests 50 = .ok (.iaload, 1) := by decide +kernel
theorem dX10_rests_51 : decode cX10_rests 51 = .ok (.goto 4, 3) := by decide +kernel
theorem dX10_rests_54 : decode cX10_rests 54 = .ok (.iconst (-1), 1) := by decide +kernel
theorem dX10_rests_55 : decode cX10_rests 55 = .ok (.ireturn, 1) := by decide +kernel
theorem dX9_pointsBehind_0 : decode cX9_pointsBehind 0 = .ok (.aload_n 1, 1) := by decide +kernel
theorem dX9_pointsBehind_1 : decode cX9_pointsBehind 1 = .ok (.getfield 31, 3) := by decide +kernel
theorem dX9_pointsBehind_4 : decode cX9_pointsBehind 4 = .ok (.getfield 143, 3) := by decide +kernel
theorem dX9_pointsBehind_7 : decode cX9_pointsBehind 7 = .ok (.iload_n 2, 1) := by decide +kernel
theorem dX9_pointsBehind_8 : decode cX9_pointsBehind 8 = .ok (.iaload, 1) := by decide +kernel
theorem dX9_pointsBehind_9 : decode cX9_pointsBehind 9 = .ok (.istore 5, 2) := by decide +kernel
theorem dX9_pointsBehind_11 : decode cX9_pointsBehind 11 = .ok (.aload_n 1, 1) := by decide +kernel
theorem dX9_pointsBehind_12 : decode cX9_pointsBehind 12 = .ok (.getfield 31, 3) := by decide +kernel
theorem dX9_pointsBehind_15 : decode cX9_pointsBehind 15 = .ok (.getfield 144, 3) := by decide +kernel
theorem dX9_pointsBehind_18 : decode cX9_pointsBehind 18 = .ok (.iload_n 2, 1) := by decide +kernel
theorem dX9_pointsBehind_19 : decode cX9_pointsBehind 19 = .ok (.iaload, 1) := by decide +kernel
theorem dX9_pointsBehind_20 : decode cX9_pointsBehind 20 = .ok (.istore 6, 2) := by decide +kernel
theorem dX9_pointsBehind_22 : decode cX9_pointsBehind 22 = .ok (.aload_n 1, 1) := by decide +kernel
theorem dX9_pointsBehind_23 : decode cX9_pointsBehind 23 = .ok (.getfield 31, 3) := by decide +kernel
theorem dX9_pointsBehind_26 : decode cX9_pointsBehind 26 = .ok (.getfield 42, 3) := by decide +kernel
theorem dX9_pointsBehind_29 : decode cX9_pointsBehind 29 = .ok (.iload_n 2, 1) := by decide +kernel
theorem dX9_pointsBehind_30 : decode cX9_pointsBehind 30 = .ok (.iaload, 1) := by decide +kernel
theorem dX9_pointsBehind_31 : decode cX9_pointsBehind 31 = .ok (.istore 7, 2) := by decide +kernel
theorem dX9_pointsBehind_33 : decode cX9_pointsBehind 33 = .ok (.iconst 0, 1) := by decide +kernel
theorem dX9_pointsBehind_34 : decode cX9_pointsBehind 34 = .ok (.istore 8, 2) := by decide +kernel
theorem dX9_pointsBehind_36 : decode cX9_pointsBehind 36 = .ok (.iload 8, 2) := by decide +kernel
theorem dX9_pointsBehind_38 : decode cX9_pointsBehind 38 = .ok (.iload 4, 2) := by decide +kernel
theorem dX9_pointsBehind_40 : decode cX9_pointsBehind 40 = .ok (.if_icmp .ge 84, 3) := by decide +kernel
theorem dX9_pointsBehind_43 : decode cX9_pointsBehind 43 = .ok (.iload 8, 2) := by decide +kernel
theorem dX9_pointsBehind_45 : decode cX9_pointsBehind 45 = .ok (.bipush 48, 2) := by decide +kernel
theorem dX9_pointsBehind_47 : decode cX9_pointsBehind 47 = .ok (.if_icmp .ge 77, 3) := by decide +kernel
theorem dX9_pointsBehind_50 : decode cX9_pointsBehind 50 = .ok (.iload 8, 2) := by decide +kernel
theorem dX9_pointsBehind_52 : decode cX9_pointsBehind 52 = .ok (.iload_n 3, 1) := by decide +kernel
theorem dX9_pointsBehind_53 : decode cX9_pointsBehind 53 = .ok (.if_icmp .ne 6, 3) := by decide +kernel
theorem dX9_pointsBehind_56 : decode cX9_pointsBehind 56 = .ok (.iconst 0, 1) := by decide +kernel
theorem dX9_pointsBehind_57 : decode cX9_pointsBehind 57 = .ok (.istore 6, 2) := by decide +kernel
theorem dX9_pointsBehind_59 : decode cX9_pointsBehind 59 = .ok (.aload_n 1, 1) := by decide +kernel
theorem dX9_pointsBehind_60 : decode cX9_pointsBehind 60 = .ok (.getfield 124, 3) := by decide +kernel
theorem dX9_pointsBehind_63 : decode cX9_pointsBehind 63 = .ok (.iload 8, 2) := by decide +kernel
theorem dX9_pointsBehind_65 : decode cX9_pointsBehind 65 = .ok (.iaload, 1) := by decide +kernel
theorem dX9_pointsBehind_66 : decode cX9_pointsBehind 66 = .ok (.istore 9, 2) := by decide +kernel
theorem dX9_pointsBehind_68 : decode cX9_pointsBehind 68 = .ok (.iload 9, 2) := by decide +kernel
theorem dX9_pointsBehind_70 : decode cX9_pointsBehind 70 = .ok (.ifCond .le 48, 3) := by decide +kernel
theorem dX9_pointsBehind_73 : decode cX9_pointsBehind 73 = .ok (.aload_n 1, 1) := by decide +kernel
theorem dX9_pointsBehind_74 : decode cX9_pointsBehind 74 = .ok (.getfield 127, 3) := by decide +kernel
theorem dX9_pointsBehind_77 : decode cX9_pointsBehind 77 = .ok (.iload 8, 2) := by decide +kernel
theorem dX9_pointsBehind_79 : decode cX9_pointsBehind 79 = .ok (.iaload, 1) := by decide +kernel
theorem dX9_pointsBehind_80 : decode cX9_pointsBehind 80 = .ok (.istore 10, 2) := by decide +kernel
theorem dX9_pointsBehind_82 : decode cX9_pointsBehind 82 = .ok (.aload_n 1, 1) := by decide +kernel
theorem dX9_pointsBehind_83 : decode cX9_pointsBehind 83 = .ok (.aload_n 1, 1) := by decide +kernel
theorem dX9_pointsBehind_84 : decode cX9_pointsBehind 84 = .ok (.getfield 145, 3) := by decide +kernel
theorem dX9_pointsBehind_87 : decode cX9_pointsBehind 87 = .ok (.iload 7, 2) := by decide +kernel
theorem dX9_pointsBehind_89 : decode cX9_pointsBehind 89 = .ok (.iload 10, 2) := by decide +kernel
theorem dX9_pointsBehind_91 : decode cX9_pointsBehind 91 = .ok (.iload 9, 2) := by decide +kernel
theorem dX9_pointsBehind_93 : decode cX9_pointsBehind 93 = .ok (.invokevirtual 53, 3) := by decide +kernel
theorem dX9_pointsBehind_96 : decode cX9_pointsBehind 96 = .ok (.istore 11, 2) := by decide +kernel
theorem dX9_pointsBehind_98 : decode cX9_pointsBehind 98 = .ok (.iload 5, 2) := by decide +kernel
theorem dX9_pointsBehind_100 : decode cX9_pointsBehind 100 = .ok (.aload_n 1, 1) := by decide +kernel
theorem dX9_pointsBehind_101 : decode cX9_pointsBehind 101 = .ok (.iload 7, 2) := by decide +kernel
theorem dX9_pointsBehind_103 : decode cX9_pointsBehind 103 = .ok (.iload 10, 2) := by decide +kernel
theorem dX9_pointsBehind_105 : decode cX9_pointsBehind 105 = .ok (.invokevirtual 45, 3) := by decide +kernel
theorem dX9_pointsBehind_108 : decode cX9_pointsBehind 108 = .ok (.iload 11, 2) := by decide +kernel
theorem dX9_pointsBehind_110 : decode cX9_pointsBehind 110 = .ok (.iload 6, 2) := by decide +kernel
theorem dX9_pointsBehind_112 : decode cX9_pointsBehind 112 = .ok (.isub, 1) := by decide +kernel
theorem dX9_pointsBehind_113 : decode cX9_pointsBehind 113 = .ok (.invokestatic 66, 3) := by decide +kernel
theorem dX9_pointsBehind_116 : decode cX9_pointsBehind 116 = .ok (.istore 5, 2) := by decide +kernel
theorem dX9_pointsBehind_118 : decode cX9_pointsBehind 118 = .ok (.iinc 8 1, 3) := by decide +kernel
theorem dX9_pointsBehind_121 : decode cX9_pointsBehind 121 = .ok (.goto (-85), 3) := by decide +kernel
theorem dX9_pointsBehind_124 : decode cX9_pointsBehind 124 = .ok (.iload 5, 2) := by decide +kernel
theorem dX9_pointsBehind_126 : decode cX9_pointsBehind 126 = .ok (.ireturn, 1) := by decide +kernel
theorem dX10_unlikeWithoutOil_0 : decode cX10_unlikeWithoutOil 0 = .ok (.iconst 0, 1) := by decide +kernel
theorem dX10_unlikeWithoutOil_1 : decode cX10_unlikeWithoutOil 1 = .ok (.istore_n 2, 1) := by decide +kernel
theorem dX10_unlikeWithoutOil_2 : decode cX10_unlikeWithoutOil 2 = .ok (.iconst 0, 1) := by decide +kernel
theorem dX10_unlikeWithoutOil_3 : decode cX10_unlikeWithoutOil 3 = .ok (.istore_n 3, 1) := by decide +kernel
theorem dX10_unlikeWithoutOil_4 : decode cX10_unlikeWithoutOil 4 = .ok (.iload_n 3, 1) := by decide +kernel
theorem dX10_unlikeWithoutOil_5 : decode cX10_unlikeWithoutOil 5 = .ok (.iload_n 1, 1) := by decide +kernel
theorem dX10_unlikeWithoutOil_6 : decode cX10_unlikeWithoutOil 6 = .ok (.if_icmp .ge 50, 3) := by decide +kernel
theorem dX10_unlikeWithoutOil_9 : decode cX10_unlikeWithoutOil 9 = .ok (.aload_n 0, 1) := by decide +kernel
theorem dX10_unlikeWithoutOil_10 : decode cX10_unlikeWithoutOil 10 = .ok (.getfield 69, 3) := by decide +kernel
theorem dX10_unlikeWithoutOil_13 : decode cX10_unlikeWithoutOil 13 = .ok (.aload_n 0, 1) := by decide +kernel
theorem dX10_unlikeWithoutOil_14 : decode cX10_unlikeWithoutOil 14 = .ok (.getfield 30, 3) := by decide +kernel
theorem dX10_unlikeWithoutOil_17 : decode cX10_unlikeWithoutOil 17 = .ok (.getfield 124, 3) := by decide +kernel
theorem dX10_unlikeWithoutOil_20 : decode cX10_unlikeWithoutOil 20 = .ok (.iload_n 3, 1) := by decide +kernel
theorem dX10_unlikeWithoutOil_21 : decode cX10_unlikeWithoutOil 21 = .ok (.iconst (-1), 1) := by decide +kernel
theorem dX10_unlikeWithoutOil_22 : decode cX10_unlikeWithoutOil 22 = .ok (.aload_n 0, 1) := by decide +kernel
theorem dX10_unlikeWithoutOil_23 : decode cX10_unlikeWithoutOil 23 = .ok (.getfield 30, 3) := by decide +kernel
theorem dX10_unlikeWithoutOil_26 : decode cX10_unlikeWithoutOil 26 = .ok (.getfield 127, 3) := by decide +kernel
theorem dX10_unlikeWithoutOil_29 : decode cX10_unlikeWithoutOil 29 = .ok (.getfield 219, 3) := by decide +kernel
theorem dX10_unlikeWithoutOil_32 : decode cX10_unlikeWithoutOil 32 = .ok (.invokevirtual 367, 3) := by decide +kernel
theorem dX10_unlikeWithoutOil_35 : decode cX10_unlikeWithoutOil 35 = .ok (.aload_n 0, 1) := by decide +kernel
theorem dX10_unlikeWithoutOil_36 : decode cX10_unlikeWithoutOil 36 = .ok (.getfield 9, 3) := by decide +kernel
theorem dX10_unlikeWithoutOil_39 : decode cX10_unlikeWithoutOil 39 = .ok (.iload_n 3, 1) := by decide +kernel
theorem dX10_unlikeWithoutOil_40 : decode cX10_unlikeWithoutOil 40 = .ok (.baload, 1) := by decide +kernel
theorem dX10_unlikeWithoutOil_41 : decode cX10_unlikeWithoutOil 41 = .ok (.if_icmp .eq 9, 3) := by decide +kernel
theorem dX10_unlikeWithoutOil_44 : decode cX10_unlikeWithoutOil 44 = .ok (.iload_n 2, 1) := by decide +kernel
theorem dX10_unlikeWithoutOil_45 : decode cX10_unlikeWithoutOil 45 = .ok (.iconst 1, 1) := by decide +kernel
theorem dX10_unlikeWithoutOil_46 : decode cX10_unlikeWithoutOil 46 = .ok (.iload_n 3, 1) := by decide +kernel
theorem dX10_unlikeWithoutOil_47 : decode cX10_unlikeWithoutOil 47 = .ok (.ishl, 1) := by decide +kernel
theorem dX10_unlikeWithoutOil_48 : decode cX10_unlikeWithoutOil 48 = .ok (.ior, 1) := by decide +kernel
theorem dX10_unlikeWithoutOil_49 : decode cX10_unlikeWithoutOil 49 = .ok (.istore_n 2, 1) := by decide +kernel
theorem dX10_unlikeWithoutOil_50 : decode cX10_unlikeWithoutOil 50 = .ok (.iinc 3 1, 3) := by decide +kernel
theorem dX10_unlikeWithoutOil_53 : decode cX10_unlikeWithoutOil 53 = .ok (.goto (-49), 3) := by decide +kernel
theorem dX10_unlikeWithoutOil_56 : decode cX10_unlikeWithoutOil 56 = .ok (.iload_n 2, 1) := by decide +kernel
theorem dX10_unlikeWithoutOil_57 : decode cX10_unlikeWithoutOil 57 = .ok (.ireturn, 1) := by decide +kernel
theorem dX10_findPairs_0 : decode cX10_findPairs 0 = .ok (.aload_n 0, 1) := by decide +kernel
theorem dX10_findPairs_1 : decode cX10_findPairs 1 = .ok (.getfield 30, 3) := by decide +kernel
theorem dX10_findPairs_4 : decode cX10_findPairs 4 = .ok (.getfield 127, 3) := by decide +kernel
theorem dX10_findPairs_7 : decode cX10_findPairs 7 = .ok (.getfield 219, 3) := by decide +kernel
theorem dX10_findPairs_10 : decode cX10_findPairs 10 = .ok (.istore_n 2, 1) := by decide +kernel
theorem dX10_findPairs_11 : decode cX10_findPairs 11 = .ok (.iconst 0, 1) := by decide +kernel
theorem dX10_findPairs_12 : decode cX10_findPairs 12 = .ok (.istore_n 3, 1) := by decide +kernel
theorem dX10_findPairs_13 : decode cX10_findPairs 13 = .ok (.iload_n 3, 1) := by decide +kernel
theorem dX10_findPairs_14 : decode cX10_findPairs 14 = .ok (.iload_n 2, 1) := by decide +kernel
theorem dX10_findPairs_15 : decode cX10_findPairs 15 = .ok (.if_icmp .ge 84, 3) := by decide +kernel
theorem dX10_findPairs_18 : decode cX10_findPairs 18 = .ok (.aload_n 0, 1) := by decide +kernel
theorem dX10_findPairs_19 : decode cX10_findPairs 19 = .ok (.getfield 69, 3) := by decide +kernel
theorem dX10_findPairs_22 : decode cX10_findPairs 22 = .ok (.aload_n 0, 1) := by decide +kernel
theorem dX10_findPairs_23 : decode cX10_findPairs 23 = .ok (.getfield 30, 3) := by decide +kernel
theorem dX10_findPairs_26 : decode cX10_findPairs 26 = .ok (.getfield 124, 3) := by decide +kernel
theorem dX10_findPairs_29 : decode cX10_findPairs 29 = .ok (.iload_n 1, 1) := by decide +kernel
theorem dX10_findPairs_30 : decode cX10_findPairs 30 = .ok (.iload_n 3, 1) := by decide +kernel
theorem dX10_findPairs_31 : decode cX10_findPairs 31 = .ok (.iload_n 2, 1) := by decide +kernel
theorem dX10_findPairs_32 : decode cX10_findPairs 32 = .ok (.invokevirtual 367, 3) := by decide +kernel
theorem dX10_findPairs_35 : decode cX10_findPairs 35 = .ok (.aload_n 0, 1) := by decide +kernel
theorem dX10_findPairs_36 : decode cX10_findPairs 36 = .ok (.getfield 9, 3) := by decide +kernel
theorem dX10_findPairs_39 : decode cX10_findPairs 39 = .ok (.iload_n 1, 1) := by decide +kernel
theorem dX10_findPairs_40 : decode cX10_findPairs 40 = .ok (.baload, 1) := by decide +kernel
theorem dX10_findPairs_41 : decode cX10_findPairs 41 = .ok (.if_icmp .ne 7, 3) := by decide +kernel
theorem dX10_findPairs_44 : decode cX10_findPairs 44 = .ok (.iconst 1, 1) := by decide +kernel
theorem dX10_findPairs_45 : decode cX10_findPairs 45 = .ok (.goto 4, 3) := by decide +kernel
theorem dX10_findPairs_48 : decode cX10_findPairs 48 = .ok (.iconst 0, 1) := by decide +kernel
theorem dX10_findPairs_49 : decode cX10_findPairs 49 = .ok (.istore 4, 2) := by decide +kernel
theorem dX10_findPairs_51 : decode cX10_findPairs 51 = .ok (.iload 4, 2) := by decide +kernel
theorem dX10_findPairs_53 : decode cX10_findPairs 53 = .ok (.ifCond .eq 40, 3) := by decide +kernel
theorem dX10_findPairs_56 : decode cX10_findPairs 56 = .ok (.aload_n 0, 1) := by decide +kernel
theorem dX10_findPairs_57 : decode cX10_findPairs 57 = .ok (.getfield 94, 3) := by decide +kernel
theorem dX10_findPairs_60 : decode cX10_findPairs 60 = .ok (.aload_n 0, 1) := by decide +kernel
theorem dX10_findPairs_61 : decode cX10_findPairs 61 = .ok (.getfield 90, 3) := by decide +kernel
theorem dX10_findPairs_64 : decode cX10_findPairs 64 = .ok (.arraylength, 1) := by decide +kernel
theorem dX10_findPairs_65 : decode cX10_findPairs 65 = .ok (.if_icmp .ge 28, 3) := by decide +kernel
theorem dX10_findPairs_68 : decode cX10_findPairs 68 = .ok (.aload_n 0, 1) := by decide +kernel
theorem dX10_findPairs_69 : decode cX10_findPairs 69 = .ok (.getfield 90, 3) := by decide +kernel
theorem dX10_findPairs_72 : decode cX10_findPairs 72 = .ok (.aload_n 0, 1) := by decide +kernel
theorem dX10_findPairs_73 : decode cX10_findPairs 73 = .ok (.getfield 94, 3) := by decide +kernel
theorem dX10_findPairs_76 : decode cX10_findPairs 76 = .ok (.bipush 100, 2) := by decide +kernel
theorem dX10_findPairs_78 : decode cX10_findPairs 78 = .ok (.iload_n 1, 1) := by decide +kernel
theorem dX10_findPairs_79 : decode cX10_findPairs 79 = .ok (.imul, 1) := by decide +kernel
theorem dX10_findPairs_80 : decode cX10_findPairs 80 = .ok (.iload_n 3, 1) := by decide +kernel
theorem dX10_findPairs_81 : decode cX10_findPairs 81 = .ok (.iadd, 1) := by decide +kernel
theorem dX10_findPairs_82 : decode cX10_findPairs 82 = .ok (.iastore, 1) := by decide +kernel
theorem dX10_findPairs_83 : decode cX10_findPairs 83 = .ok (.aload_n 0, 1) := by decide +kernel
theorem dX10_findPairs_84 : decode cX10_findPairs 84 = .ok (.dup, 1) := by decide +kernel
theorem dX10_findPairs_85 : decode cX10_findPairs 85 = .ok (.getfield 94, 3) := by decide +kernel
theorem dX10_findPairs_88 : decode cX10_findPairs 88 = .ok (.iconst 1, 1) := by decide +kernel
theorem dX10_findPairs_89 : decode cX10_findPairs 89 = .ok (.iadd, 1) := by decide +kernel
theorem dX10_findPairs_90 : decode cX10_findPairs 90 = .ok (.putfield 94, 3) := by decide +kernel
theorem dX10_findPairs_93 : decode cX10_findPairs 93 = .ok (.iinc 3 1, 3) := by decide +kernel
theorem dX10_findPairs_96 : decode cX10_findPairs 96 = .ok (.goto (-83), 3) := by decide +kernel
theorem dX10_findPairs_99 : decode cX10_findPairs 99 = .ok (.return_, 1) := by decide +kernel
theorem dX10_oiled_0 : decode cX10_oiled 0 = .ok (.aload_n 0, 1) := by decide +kernel
theorem dX10_oiled_1 : decode cX10_oiled 1 = .ok (.getfield 13, 3) := by decide +kernel
theorem dX10_oiled_4 : decode cX10_oiled 4 = .ok (.istore_n 1, 1) := by decide +kernel
theorem dX10_oiled_5 : decode cX10_oiled 5 = .ok (.aload_n 0, 1) := by decide +kernel
theorem dX10_oiled_6 : decode cX10_oiled 6 = .ok (.iconst 0, 1) := by decide +kernel
theorem dX10_oiled_7 : decode cX10_oiled 7 = .ok (.putfield 13, 3) := by decide +kernel
theorem dX10_oiled_10 : decode cX10_oiled 10 = .ok (.aload_n 0, 1) := by decide +kernel
theorem dX10_oiled_11 : decode cX10_oiled 11 = .ok (.getfield 30, 3) := by decide +kernel
theorem dX10_oiled_14 : decode cX10_oiled 14 = .ok (.getfield 124, 3) := by decide +kernel
theorem dX10_oiled_17 : decode cX10_oiled 17 = .ok (.getfield 174, 3) := by decide +kernel
theorem dX10_oiled_20 : decode cX10_oiled 20 = .ok (.getfield 253, 3) := by decide +kernel
theorem dX10_oiled_23 : decode cX10_oiled 23 = .ok (.istore_n 2, 1) := by decide +kernel
theorem dX10_oiled_24 : decode cX10_oiled 24 = .ok (.iload_n 2, 1) := by decide +kernel
theorem dX10_oiled_25 : decode cX10_oiled 25 = .ok (.ifCond .eq 8, 3) := by decide +kernel
theorem dX10_oiled_28 : decode cX10_oiled 28 = .ok (.iload_n 1, 1) := by decide +kernel
theorem dX10_oiled_29 : decode cX10_oiled 29 = .ok (.iload_n 2, 1) := by decide +kernel
theorem dX10_oiled_30 : decode cX10_oiled 30 = .ok (.if_icmp .eq 5, 3) := by decide +kernel
theorem dX10_oiled_33 : decode cX10_oiled 33 = .ok (.iconst (-1), 1) := by decide +kernel
theorem dX10_oiled_34 : decode cX10_oiled 34 = .ok (.ireturn, 1) := by decide +kernel
theorem dX10_oiled_35 : decode cX10_oiled 35 = .ok (.iconst 0, 1) := by decide +kernel
theorem dX10_oiled_36 : decode cX10_oiled 36 = .ok (.istore_n 3, 1) := by decide +kernel
theorem dX10_oiled_37 : decode cX10_oiled 37 = .ok (.iload_n 3, 1) := by decide +kernel
theorem dX10_oiled_38 : decode cX10_oiled 38 = .ok (.iload_n 2, 1) := by decide +kernel
theorem dX10_oiled_39 : decode cX10_oiled 39 = .ok (.if_icmp .ge 31, 3) := by decide +kernel
theorem dX10_oiled_42 : decode cX10_oiled 42 = .ok (.aload_n 0, 1) := by decide +kernel
theorem dX10_oiled_43 : decode cX10_oiled 43 = .ok (.getfield 9, 3) := by decide +kernel
theorem dX10_oiled_46 : decode cX10_oiled 46 = .ok (.iload_n 3, 1) := by decide +kernel
theorem dX10_oiled_47 : decode cX10_oiled 47 = .ok (.baload, 1) := by decide +kernel
theorem dX10_oiled_48 : decode cX10_oiled 48 = .ok (.ifCond .lt 14, 3) := by decide +kernel
theorem dX10_oiled_51 : decode cX10_oiled 51 = .ok (.aload_n 0, 1) := by decide +kernel
theorem dX10_oiled_52 : decode cX10_oiled 52 = .ok (.getfield 9, 3) := by decide +kernel
theorem dX10_oiled_55 : decode cX10_oiled 55 = .ok (.iload_n 3, 1) := by decide +kernel
theorem dX10_oiled_56 : decode cX10_oiled 56 = .ok (.baload, 1) := by decide +kernel
theorem dX10_oiled_57 : decode cX10_oiled 57 = .ok (.bipush 8, 2) := by decide +kernel
theorem dX10_oiled_59 : decode cX10_oiled 59 = .ok (.if_icmp .lt 5, 3) := by decide +kernel
theorem dX10_oiled_62 : decode cX10_oiled 62 = .ok (.iconst (-1), 1) := by decide +kernel
theorem dX10_oiled_63 : decode cX10_oiled 63 = .ok (.ireturn, 1) := by decide +kernel
theorem dX10_oiled_64 : decode cX10_oiled 64 = .ok (.iinc 3 1, 3) := by decide +kernel
theorem dX10_oiled_67 : decode cX10_oiled 67 = .ok (.goto (-30), 3) := by decide +kernel
theorem dX10_oiled_70 : decode cX10_oiled 70 = .ok (.aload_n 0, 1) := by decide +kernel
theorem dX10_oiled_71 : decode cX10_oiled 71 = .ok (.iconst 0, 1) := by decide +kernel
theorem dX10_oiled_72 : decode cX10_oiled 72 = .ok (.putfield 94, 3) := by decide +kernel
theorem dX10_oiled_75 : decode cX10_oiled 75 = .ok (.aload_n 0, 1) := by decide +kernel
theorem dX10_oiled_76 : decode cX10_oiled 76 = .ok (.iload_n 2, 1) := by decide +kernel
theorem dX10_oiled_77 : decode cX10_oiled 77 = .ok (.invokevirtual 361, 3) := by decide +kernel
theorem dX10_oiled_80 : decode cX10_oiled 80 = .ok (.istore_n 3, 1) := by decide +kernel
theorem dX10_oiled_81 : decode cX10_oiled 81 = .ok (.iconst 0, 1) := by decide +kernel
theorem dX10_oiled_82 : decode cX10_oiled 82 = .ok (.istore 4, 2) := by decide +kernel
theorem dX10_oiled_84 : decode cX10_oiled 84 = .ok (.iload 4, 2) := by decide +kernel
theorem dX10_oiled_86 : decode cX10_oiled 86 = .ok (.iload_n 2, 1) := by decide +kernel
theorem dX10_oiled_87 : decode cX10_oiled 87 = .ok (.if_icmp .ge 26, 3) := by decide +kernel
theorem dX10_oiled_90 : decode cX10_oiled 90 = .ok (.iload_n 3, 1) := by decide +kernel
theorem dX10_oiled_91 : decode cX10_oiled 91 = .ok (.iconst 1, 1) := by decide +kernel
theorem dX10_oiled_92 : decode cX10_oiled 92 = .ok (.iload 4, 2) := by decide +kernel
theorem dX10_oiled_94 : decode cX10_oiled 94 = .ok (.ishl, 1) := by decide +kernel
theorem dX10_oiled_95 : decode cX10_oiled 95 = .ok (.iconst (-1), 1) := by decide +kernel
theorem dX10_oiled_96 : decode cX10_oiled 96 = .ok (.ixor, 1) := by decide +kernel
theorem dX10_oiled_97 : decode cX10_oiled 97 = .ok (.iand, 1) := by decide +kernel
theorem dX10_oiled_98 : decode cX10_oiled 98 = .ok (.ifCond .ne 9, 3) := by decide +kernel
theorem dX10_oiled_101 : decode cX10_oiled 101 = .ok (.aload_n 0, 1) := by decide +kernel
theorem dX10_oiled_102 : decode cX10_oiled 102 = .ok (.iload 4, 2) := by decide +kernel
theorem dX10_oiled_104 : decode cX10_oiled 104 = .ok (.invokevirtual 364, 3) := by decide +kernel
theorem dX10_oiled_107 : decode cX10_oiled 107 = .ok (.iinc 4 1, 3) := by decide +kernel
theorem dX10_oiled_110 : decode cX10_oiled 110 = .ok (.goto (-26), 3) := by decide +kernel
theorem dX10_oiled_113 : decode cX10_oiled 113 = .ok (.aload_n 0, 1) := by decide +kernel
theorem dX10_oiled_114 : decode cX10_oiled 114 = .ok (.getfield 94, 3) := by decide +kernel
theorem dX10_oiled_117 : decode cX10_oiled 117 = .ok (.ireturn, 1) := by decide +kernel
theorem dX10_oiledAt_0 : decode cX10_oiledAt 0 = .ok (.iload_n 1, 1) := by decide +kernel
theorem dX10_oiledAt_1 : decode cX10_oiledAt 1 = .ok (.ifCond .lt 20, 3) := by decide +kernel
theorem dX10_oiledAt_4 : decode cX10_oiledAt 4 = .ok (.iload_n 1, 1) := by decide +kernel
theorem dX10_oiledAt_5 : decode cX10_oiledAt 5 = .ok (.aload_n 0, 1) := by decide +kernel
theorem dX10_oiledAt_6 : decode cX10_oiledAt 6 = .ok (.getfield 94, 3) := by decide +kernel
theorem dX10_oiledAt_9 : decode cX10_oiledAt 9 = .ok (.if_icmp .ge 12, 3) := by decide +kernel
theorem dX10_oiledAt_12 : decode cX10_oiledAt 12 = .ok (.aload_n 0, 1) := by decide +kernel
theorem dX10_oiledAt_13 : decode cX10_oiledAt 13 = .ok (.getfield 90, 3) := by decide +kernel
theorem dX10_oiledAt_16 : decode cX10_oiledAt 16 = .ok (.iload_n 1, 1) := by decide +kernel
theorem dX10_oiledAt_17 : decode cX10_oiledAt 17 = .ok (.iaload, 1) := by decide +kernel
theorem dX10_oiledAt_18 : decode cX10_oiledAt 18 = .ok (.goto 4, 3) := by decide +kernel
theorem dX10_oiledAt_21 : decode cX10_oiledAt 21 = .ok (.iconst (-1), 1) := by decide +kernel
theorem dX10_oiledAt_22 : decode cX10_oiledAt 22 = .ok (.ireturn, 1) := by decide +kernel
theorem dX10_readForecast_0 : decode cX10_readForecast 0 = .ok (.iload_n 1, 1) := by decide +kernel
theorem dX10_readForecast_1 : decode cX10_readForecast 1 = .ok (.iconst 2, 1) := by decide +kernel
theorem dX10_readForecast_2 : decode cX10_readForecast 2 = .ok (.if_icmp .lt 15, 3) := by decide +kernel
theorem dX10_readForecast_5 : decode cX10_readForecast 5 = .ok (.iload_n 1, 1) := by decide +kernel
theorem dX10_readForecast_6 : decode cX10_readForecast 6 = .ok (.bipush 48, 2) := by decide +kernel
theorem dX10_readForecast_8 : decode cX10_readForecast 8 = .ok (.if_icmp .gt 9, 3) := by decide +kernel
theorem dX10_readForecast_11 : decode cX10_readForecast 11 = .ok (.iload_n 1, 1) := by decide +kernel
theorem dX10_readForecast_12 : decode cX10_readForecast 12 = .ok (.iconst 2, 1) := by decide +kernel
theorem dX10_readForecast_13 : decode cX10_readForecast 13 = .ok (.irem, 1) := by decide +kernel
theorem dX10_readForecast_14 : decode cX10_readForecast 14 = .ok (.ifCond .eq 5, 3) := by decide +kernel
theorem dX10_readForecast_17 : decode cX10_readForecast 17 = .ok (.iconst 0, 1) := by decide +kernel
theorem dX10_readForecast_18 : decode cX10_readForecast 18 = .ok (.ireturn, 1) := by decide +kernel
theorem dX10_readForecast_19 : decode cX10_readForecast 19 = .ok (.iconst 0, 1) := by decide +kernel
theorem dX10_readForecast_20 : decode cX10_readForecast 20 = .ok (.istore_n 2, 1) := by decide +kernel
theorem dX10_readForecast_21 : decode cX10_readForecast 21 = .ok (.iload_n 2, 1) := by decide +kernel
theorem dX10_readForecast_22 : decode cX10_readForecast 22 = .ok (.bipush 48, 2) := by decide +kernel
theorem dX10_readForecast_24 : decode cX10_readForecast 24 = .ok (.if_icmp .ge 16, 3) := by decide +kernel
theorem dX10_readForecast_27 : decode cX10_readForecast 27 = .ok (.aload_n 0, 1) := by decide +kernel
theorem dX10_readForecast_28 : decode cX10_readForecast 28 = .ok (.getfield 97, 3) := by decide +kernel
theorem dX10_readForecast_31 : decode cX10_readForecast 31 = .ok (.iload_n 2, 1) := by decide +kernel
theorem dX10_readForecast_32 : decode cX10_readForecast 32 = .ok (.iconst (-1), 1) := by decide +kernel
theorem dX10_readForecast_33 : decode cX10_readForecast 33 = .ok (.iastore, 1) := by decide +kernel
theorem dX10_readForecast_34 : decode cX10_readForecast 34 = .ok (.iinc 2 1, 3) := by decide +kernel
theorem dX10_readForecast_37 : decode cX10_readForecast 37 = .ok (.goto (-16), 3) := by decide +kernel
theorem dX10_readForecast_40 : decode cX10_readForecast 40 = .ok (.iconst (-1), 1) := by decide +kernel
theorem dX10_readForecast_41 : decode cX10_readForecast 41 = .ok (.istore_n 2, 1) := by decide +kernel
theorem dX10_readForecast_42 : decode cX10_readForecast 42 = .ok (.iconst 0, 1) := by decide +kernel
theorem dX10_readForecast_43 : decode cX10_readForecast 43 = .ok (.istore_n 3, 1) := by decide +kernel
theorem dX10_readForecast_44 : decode cX10_readForecast 44 = .ok (.iload_n 3, 1) := by decide +kernel
theorem dX10_readForecast_45 : decode cX10_readForecast 45 = .ok (.iconst 1, 1) := by decide +kernel
theorem dX10_readForecast_46 : decode cX10_readForecast 46 = .ok (.iadd, 1) := by decide +kernel
theorem dX10_readForecast_47 : decode cX10_readForecast 47 = .ok (.iload_n 1, 1) := by decide +kernel
theorem dX10_readForecast_48 : decode cX10_readForecast 48 = .ok (.if_icmp .ge 66, 3) := by decide +kernel
theorem dX10_readForecast_51 : decode cX10_readForecast 51 = .ok (.aload_n 0, 1) := by decide +kernel
theorem dX10_readForecast_52 : decode cX10_readForecast 52 = .ok (.getfield 9, 3) := by decide +kernel
theorem dX10_readForecast_55 : decode cX10_readForecast 55 = .ok (.iload_n 3, 1) := by decide +kernel
theorem dX10_readForecast_56 : decode cX10_readForecast 56 = .ok (.baload, 1) := by decide +kernel
theorem dX10_readForecast_57 : decode cX10_readForecast 57 = .ok (.istore 4, 2) := by decide +kernel
theorem dX10_readForecast_59 : decode cX10_readForecast 59 = .ok (.aload_n 0, 1) := by decide +kernel
theorem dX10_readForecast_60 : decode cX10_readForecast 60 = .ok (.getfield 9, 3) := by decide +kernel
theorem dX10_readForecast_63 : decode cX10_readForecast 63 = .ok (.iload_n 3, 1) := by decide +kernel
theorem dX10_readForecast_64 : decode cX10_readForecast 64 = .ok (.iconst 1, 1) := by decide +kernel
theorem dX10_readForecast_65 : decode cX10_readForecast 65 = .ok (.iadd, 1) := by decide +kernel
theorem dX10_readForecast_66 : decode cX10_readForecast 66 = .ok (.baload, 1) := by decide +kernel
theorem dX10_readForecast_67 : decode cX10_readForecast 67 = .ok (.istore 5, 2) := by decide +kernel
theorem dX10_readForecast_69 : decode cX10_readForecast 69 = .ok (.iload 4, 2) := by decide +kernel
theorem dX10_readForecast_71 : decode cX10_readForecast 71 = .ok (.iload_n 2, 1) := by decide +kernel
theorem dX10_readForecast_72 : decode cX10_readForecast 72 = .ok (.if_icmp .le 22, 3) := by decide +kernel
theorem dX10_readForecast_75 : decode cX10_readForecast 75 = .ok (.iload 4, 2) := by decide +kernel
theorem dX10_readForecast_77 : decode cX10_readForecast 77 = .ok (.bipush 48, 2) := by decide +kernel
theorem dX10_readForecast_79 : decode cX10_readForecast 79 = .ok (.if_icmp .ge 15, 3) := by decide +kernel
theorem dX10_readForecast_82 : decode cX10_readForecast 82 = .ok (.iload 5, 2) := by decide +kernel
theorem dX10_readForecast_84 : decode cX10_readForecast 84 = .ok (.ifCond .lt 10, 3) := by decide +kernel
theorem dX10_readForecast_87 : decode cX10_readForecast 87 = .ok (.iload 5, 2) := by decide +kernel
theorem dX10_readForecast_89 : decode cX10_readForecast 89 = .ok (.bipush 8, 2) := by decide +kernel
theorem dX10_readForecast_91 : decode cX10_readForecast 91 = .ok (.if_icmp .lt 5, 3) := by decide +kernel
theorem dX10_readForecast_94 : decode cX10_readForecast 94 = .ok (.iconst 0, 1) := by decide +kernel
theorem dX10_readForecast_95 : decode cX10_readForecast 95 = .ok (.ireturn, 1) := by decide +kernel
theorem dX10_readForecast_96 : decode cX10_readForecast 96 = .ok (.aload_n 0, 1) := by decide +kernel
theorem dX10_readForecast_97 : decode cX10_readForecast 97 = .ok (.getfield 97, 3) := by decide +kernel
theorem dX10_readForecast_100 : decode cX10_readForecast 100 = .ok (.iload 4, 2) := by decide +kernel
theorem dX10_readForecast_102 : decode cX10_readForecast 102 = .ok (.iload 5, 2) := by decide +kernel
theorem dX10_readForecast_104 : decode cX10_readForecast 104 = .ok (.iastore, 1) := by decide +kernel
theorem dX10_readForecast_105 : decode cX10_readForecast 105 = .ok (.iload 4, 2) := by decide +kernel
theorem dX10_readForecast_107 : decode cX10_readForecast 107 = .ok (.istore_n 2, 1) := by decide +kernel
theorem dX10_readForecast_108 : decode cX10_readForecast 108 = .ok (.iinc 3 2, 3) := by decide +kernel
theorem dX10_readForecast_111 : decode cX10_readForecast 111 = .ok (.goto (-67), 3) := by decide +kernel
theorem dX10_readForecast_114 : decode cX10_readForecast 114 = .ok (.iconst 1, 1) := by decide +kernel
theorem dX10_readForecast_115 : decode cX10_readForecast 115 = .ok (.ireturn, 1) := by decide +kernel
theorem dX10_worth_0 : decode cX10_worth 0 = .ok (.aload_n 0, 1) := by decide +kernel
theorem dX10_worth_1 : decode cX10_worth 1 = .ok (.getfield 13, 3) := by decide +kernel
theorem dX10_worth_4 : decode cX10_worth 4 = .ok (.istore_n 2, 1) := by decide +kernel
theorem dX10_worth_5 : decode cX10_worth 5 = .ok (.aload_n 0, 1) := by decide +kernel
theorem dX10_worth_6 : decode cX10_worth 6 = .ok (.iconst 0, 1) := by decide +kernel
theorem dX10_worth_7 : decode cX10_worth 7 = .ok (.putfield 13, 3) := by decide +kernel
theorem dX10_worth_10 : decode cX10_worth 10 = .ok (.aload_n 0, 1) := by decide +kernel
theorem dX10_worth_11 : decode cX10_worth 11 = .ok (.getfield 30, 3) := by decide +kernel
theorem dX10_worth_14 : decode cX10_worth 14 = .ok (.getfield 124, 3) := by decide +kernel
theorem dX10_worth_17 : decode cX10_worth 17 = .ok (.iload_n 1, 1) := by decide +kernel
theorem dX10_worth_18 : decode cX10_worth 18 = .ok (.invokevirtual 171, 3) := by decide +kernel
theorem dX10_worth_21 : decode cX10_worth 21 = .ok (.ifCond .eq 11, 3) := by decide +kernel
theorem dX10_worth_24 : decode cX10_worth 24 = .ok (.aload_n 0, 1) := by decide +kernel
theorem dX10_worth_25 : decode cX10_worth 25 = .ok (.iload_n 2, 1) := by decide +kernel
theorem dX10_worth_26 : decode cX10_worth 26 = .ok (.invokevirtual 371, 3) := by decide +kernel
theorem dX10_worth_29 : decode cX10_worth 29 = .ok (.ifCond .ne 7, 3) := by decide +kernel
theorem dX10_worth_32 : decode cX10_worth 32 = .ok (.sipush (-10001), 3) := by decide +kernel
theorem dX10_worth_35 : decode cX10_worth 35 = .ok (.ireturn, 1) := by decide +kernel
theorem dX10_worth_36 : decode cX10_worth 36 = .ok (.aload_n 0, 1) := by decide +kernel
theorem dX10_worth_37 : decode cX10_worth 37 = .ok (.iload_n 1, 1) := by decide +kernel
theorem dX10_worth_38 : decode cX10_worth 38 = .ok (.invokevirtual 335, 3) := by decide +kernel
theorem dX10_worth_41 : decode cX10_worth 41 = .ok (.istore_n 3, 1) := by decide +kernel
theorem dX10_worth_42 : decode cX10_worth 42 = .ok (.aload_n 0, 1) := by decide +kernel
theorem dX10_worth_43 : decode cX10_worth 43 = .ok (.getfield 83, 3) := by decide +kernel
theorem dX10_worth_46 : decode cX10_worth 46 = .ok (.aload_n 0, 1) := by decide +kernel
theorem dX10_worth_47 : decode cX10_worth 47 = .ok (.getfield 30, 3) := by decide +kernel
theorem dX10_worth_50 : decode cX10_worth 50 = .ok (.getfield 127, 3) := by decide +kernel
theorem dX10_worth_53 : decode cX10_worth 53 = .ok (.invokevirtual 280, 3) := by decide +kernel
theorem dX10_worth_56 : decode cX10_worth 56 = .ok (.aload_n 0, 1) := by decide +kernel
theorem dX10_worth_57 : decode cX10_worth 57 = .ok (.getfield 30, 3) := by decide +kernel
theorem dX10_worth_60 : decode cX10_worth 60 = .ok (.getfield 127, 3) := by decide +kernel
theorem dX10_worth_63 : decode cX10_worth 63 = .ok (.getfield 219, 3) := by decide +kernel
theorem dX10_worth_66 : decode cX10_worth 66 = .ok (.istore 4, 2) := by decide +kernel
theorem dX10_worth_68 : decode cX10_worth 68 = .ok (.iload 4, 2) := by decide +kernel
theorem dX10_worth_70 : decode cX10_worth 70 = .ok (.bipush 48, 2) := by decide +kernel
theorem dX10_worth_72 : decode cX10_worth 72 = .ok (.if_icmp .ge 56, 3) := by decide +kernel
theorem dX10_worth_75 : decode cX10_worth 75 = .ok (.aload_n 0, 1) := by decide +kernel
theorem dX10_worth_76 : decode cX10_worth 76 = .ok (.getfield 97, 3) := by decide +kernel
theorem dX10_worth_79 : decode cX10_worth 79 = .ok (.iload 4, 2) := by decide +kernel
theorem dX10_worth_81 : decode cX10_worth 81 = .ok (.iaload, 1) := by decide +kernel
theorem dX10_worth_82 : decode cX10_worth 82 = .ok (.iconst (-1), 1) := by decide +kernel
theorem dX10_worth_83 : decode cX10_worth 83 = .ok (.if_icmp .eq 19, 3) := by decide +kernel
theorem dX10_worth_86 : decode cX10_worth 86 = .ok (.aload_n 0, 1) := by decide +kernel
theorem dX10_worth_87 : decode cX10_worth 87 = .ok (.getfield 83, 3) := by decide +kernel
theorem dX10_worth_90 : decode cX10_worth 90 = .ok (.getfield 195, 3) := by decide +kernel
theorem dX10_worth_93 : decode cX10_worth 93 = .ok (.iload_n 1, 1) := by decide +kernel
theorem dX10_worth_94 : decode cX10_worth 94 = .ok (.aload_n 0, 1) := by decide +kernel
theorem dX10_worth_95 : decode cX10_worth 95 = .ok (.getfield 97, 3) := by decide +kernel
theorem dX10_worth_98 : decode cX10_worth 98 = .ok (.iload 4, 2) := by decide +kernel
theorem dX10_worth_100 : decode cX10_worth 100 = .ok (.iaload, 1) := by decide +kernel
theorem dX10_worth_101 : decode cX10_worth 101 = .ok (.iastore, 1) := by decide +kernel
theorem dX10_worth_102 : decode cX10_worth 102 = .ok (.aload_n 0, 1) := by decide +kernel
theorem dX10_worth_103 : decode cX10_worth 103 = .ok (.getfield 69, 3) := by decide +kernel
theorem dX10_worth_106 : decode cX10_worth 106 = .ok (.aload_n 0, 1) := by decide +kernel
theorem dX10_worth_107 : decode cX10_worth 107 = .ok (.getfield 30, 3) := by decide +kernel
theorem dX10_worth_110 : decode cX10_worth 110 = .ok (.getfield 124, 3) := by decide +kernel
theorem dX10_worth_113 : decode cX10_worth 113 = .ok (.aload_n 0, 1) := by decide +kernel
theorem dX10_worth_114 : decode cX10_worth 114 = .ok (.getfield 83, 3) := by decide +kernel
theorem dX10_worth_117 : decode cX10_worth 117 = .ok (.iconst 1, 1) := by decide +kernel
theorem dX10_worth_118 : decode cX10_worth 118 = .ok (.invokevirtual 302, 3) := by decide +kernel
theorem dX10_worth_121 : decode cX10_worth 121 = .ok (.pop, 1) := by decide +kernel
theorem dX10_worth_122 : decode cX10_worth 122 = .ok (.iinc 4 1, 3) := by decide +kernel
theorem dX10_worth_125 : decode cX10_worth 125 = .ok (.goto (-57), 3) := by decide +kernel
theorem dX10_worth_128 : decode cX10_worth 128 = .ok (.aload_n 0, 1) := by decide +kernel
theorem dX10_worth_129 : decode cX10_worth 129 = .ok (.getfield 83, 3) := by decide +kernel
theorem dX10_worth_132 : decode cX10_worth 132 = .ok (.iload_n 1, 1) := by decide +kernel
theorem dX10_worth_133 : decode cX10_worth 133 = .ok (.invokevirtual 332, 3) := by decide +kernel
theorem dX10_worth_136 : decode cX10_worth 136 = .ok (.iload_n 3, 1) := by decide +kernel
theorem dX10_worth_137 : decode cX10_worth 137 = .ok (.isub, 1) := by decide +kernel
theorem dX10_worth_138 : decode cX10_worth 138 = .ok (.ireturn, 1) := by decide +kernel
theorem dX9_draw_0 : decode cX9_draw 0 = .ok (.aload_n 0, 1) := by decide +kernel
theorem dX9_draw_1 : decode cX9_draw 1 = .ok (.aload_n 0, 1) := by decide +kernel
theorem dX9_draw_2 : decode cX9_draw 2 = .ok (.getfield 21, 3) := by decide +kernel
theorem dX9_draw_5 : decode cX9_draw 5 = .ok (.ldc 142, 2) := by decide +kernel
theorem dX9_draw_7 : decode cX9_draw 7 = .ok (.imul, 1) := by decide +kernel
theorem dX9_draw_8 : decode cX9_draw 8 = .ok (.sipush 12345, 3) := by decide +kernel
theorem dX9_draw_11 : decode cX9_draw 11 = .ok (.iadd, 1) := by decide +kernel
theorem dX9_draw_12 : decode cX9_draw 12 = .ok (.putfield 21, 3) := by decide +kernel
theorem dX9_draw_15 : decode cX9_draw 15 = .ok (.iload_n 1, 1) := by decide +kernel
theorem dX9_draw_16 : decode cX9_draw 16 = .ok (.ifCond .le 15, 3) := by decide +kernel
theorem dX9_draw_19 : decode cX9_draw 19 = .ok (.aload_n 0, 1) := by decide +kernel
theorem dX9_draw_20 : decode cX9_draw 20 = .ok (.getfield 21, 3) := by decide +kernel
theorem dX9_draw_23 : decode cX9_draw 23 = .ok (.bipush 8, 2) := by decide +kernel
theorem dX9_draw_25 : decode cX9_draw 25 = .ok (.iushr, 1) := by decide +kernel
theorem dX9_draw_26 : decode cX9_draw 26 = .ok (.iload_n 1, 1) := by decide +kernel
theorem dX9_draw_27 : decode cX9_draw 27 = .ok (.irem, 1) := by decide +kernel
theorem dX9_draw_28 : decode cX9_draw 28 = .ok (.goto 4, 3) := by decide +kernel
theorem dX9_draw_31 : decode cX9_draw 31 = .ok (.iconst 0, 1) := by decide +kernel
theorem dX9_draw_32 : decode cX9_draw 32 = .ok (.ireturn, 1) := by decide +kernel
theorem dX9_passDrawn_0 : decode cX9_passDrawn 0 = .ok (.aload_n 0, 1) := by decide +kernel
theorem dX9_passDrawn_1 : decode cX9_passDrawn 1 = .ok (.iload 4, 2) := by decide +kernel
theorem dX9_passDrawn_3 : decode cX9_passDrawn 3 = .ok (.putfield 21, 3) := by decide +kernel
theorem dX9_passDrawn_6 : decode cX9_passDrawn 6 = .ok (.iconst 0, 1) := by decide +kernel
theorem dX9_passDrawn_7 : decode cX9_passDrawn 7 = .ok (.istore 5, 2) := by decide +kernel
theorem dX9_passDrawn_9 : decode cX9_passDrawn 9 = .ok (.iload 5, 2) := by decide +kernel
theorem dX9_passDrawn_11 : decode cX9_passDrawn 11 = .ok (.iload_n 3, 1) := by decide +kernel
theorem dX9_passDrawn_12 : decode cX9_passDrawn 12 = .ok (.if_icmp .ge 45, 3) := by decide +kernel
theorem dX9_passDrawn_15 : decode cX9_passDrawn 15 = .ok (.aload_n 0, 1) := by decide +kernel
theorem dX9_passDrawn_16 : decode cX9_passDrawn 16 = .ok (.bipush 10, 2) := by decide +kernel
theorem dX9_passDrawn_18 : decode cX9_passDrawn 18 = .ok (.invokevirtual 138, 3) := by decide +kernel
theorem dX9_passDrawn_21 : decode cX9_passDrawn 21 = .ok (.istore 6, 2) := by decide +kernel
theorem dX9_passDrawn_23 : decode cX9_passDrawn 23 = .ok (.iload 6, 2) := by decide +kernel
theorem dX9_passDrawn_25 : decode cX9_passDrawn 25 = .ok (.ifCond .le 20, 3) := by decide +kernel
theorem dX9_passDrawn_28 : decode cX9_passDrawn 28 = .ok (.aload_n 0, 1) := by decide +kernel
theorem dX9_passDrawn_29 : decode cX9_passDrawn 29 = .ok (.aload_n 1, 1) := by decide +kernel
theorem dX9_passDrawn_30 : decode cX9_passDrawn 30 = .ok (.aload_n 2, 1) := by decide +kernel
theorem dX9_passDrawn_31 : decode cX9_passDrawn 31 = .ok (.aload_n 0, 1) := by decide +kernel
theorem dX9_passDrawn_32 : decode cX9_passDrawn 32 = .ok (.bipush 8, 2) := by decide +kernel
theorem dX9_passDrawn_34 : decode cX9_passDrawn 34 = .ok (.invokevirtual 138, 3) := by decide +kernel
theorem dX9_passDrawn_37 : decode cX9_passDrawn 37 = .ok (.iload 6, 2) := by decide +kernel
theorem dX9_passDrawn_39 : decode cX9_passDrawn 39 = .ok (.invokevirtual 130, 3) := by decide +kernel
theorem dX9_passDrawn_42 : decode cX9_passDrawn 42 = .ok (.goto 9, 3) := by decide +kernel
theorem dX9_passDrawn_45 : decode cX9_passDrawn 45 = .ok (.aload_n 0, 1) := by decide +kernel
theorem dX9_passDrawn_46 : decode cX9_passDrawn 46 = .ok (.aload_n 1, 1) := by decide +kernel
theorem dX9_passDrawn_47 : decode cX9_passDrawn 47 = .ok (.aload_n 2, 1) := by decide +kernel
theorem dX9_passDrawn_48 : decode cX9_passDrawn 48 = .ok (.invokevirtual 134, 3) := by decide +kernel
theorem dX9_passDrawn_51 : decode cX9_passDrawn 51 = .ok (.iinc 5 1, 3) := by decide +kernel
theorem dX9_passDrawn_54 : decode cX9_passDrawn 54 = .ok (.goto (-45), 3) := by decide +kernel
theorem dX9_passDrawn_57 : decode cX9_passDrawn 57 = .ok (.return_, 1) := by decide +kernel
theorem dX10_wealthDrawn_0 : decode cX10_wealthDrawn 0 = .ok (.aload_n 0, 1) := by decide +kernel
theorem dX10_wealthDrawn_1 : decode cX10_wealthDrawn 1 = .ok (.getfield 83, 3) := by decide +kernel
theorem dX10_wealthDrawn_4 : decode cX10_wealthDrawn 4 = .ok (.aload_n 0, 1) := by decide +kernel
theorem dX10_wealthDrawn_5 : decode cX10_wealthDrawn 5 = .ok (.getfield 30, 3) := by decide +kernel
theorem dX10_wealthDrawn_8 : decode cX10_wealthDrawn 8 = .ok (.getfield 127, 3) := by decide +kernel
theorem dX10_wealthDrawn_11 : decode cX10_wealthDrawn 11 = .ok (.invokevirtual 280, 3) := by decide +kernel
theorem dX10_wealthDrawn_14 : decode cX10_wealthDrawn 14 = .ok (.aload_n 0, 1) := by decide +kernel
theorem dX10_wealthDrawn_15 : decode cX10_wealthDrawn 15 = .ok (.getfield 69, 3) := by decide +kernel
theorem dX10_wealthDrawn_18 : decode cX10_wealthDrawn 18 = .ok (.aload_n 0, 1) := by decide +kernel
theorem dX10_wealthDrawn_19 : decode cX10_wealthDrawn 19 = .ok (.getfield 30, 3) := by decide +kernel
theorem dX10_wealthDrawn_22 : decode cX10_wealthDrawn 22 = .ok (.getfield 124, 3) := by decide +kernel
theorem dX10_wealthDrawn_25 : decode cX10_wealthDrawn 25 = .ok (.aload_n 0, 1) := by decide +kernel
theorem dX10_wealthDrawn_26 : decode cX10_wealthDrawn 26 = .ok (.getfield 83, 3) := by decide +kernel
theorem dX10_wealthDrawn_29 : decode cX10_wealthDrawn 29 = .ok (.iload_n 2, 1) := by decide +kernel
theorem dX10_wealthDrawn_30 : decode cX10_wealthDrawn 30 = .ok (.iload_n 3, 1) := by decide +kernel
theorem dX10_wealthDrawn_31 : decode cX10_wealthDrawn 31 = .ok (.invokevirtual 377, 3) := by decide +kernel
theorem dX10_wealthDrawn_34 : decode cX10_wealthDrawn 34 = .ok (.aload_n 0, 1) := by decide +kernel
theorem dX10_wealthDrawn_35 : decode cX10_wealthDrawn 35 = .ok (.getfield 83, 3) := by decide +kernel
theorem dX10_wealthDrawn_38 : decode cX10_wealthDrawn 38 = .ok (.iload_n 1, 1) := by decide +kernel
theorem dX10_wealthDrawn_39 : decode cX10_wealthDrawn 39 = .ok (.invokevirtual 332, 3) := by decide +kernel
theorem dX10_wealthDrawn_42 : decode cX10_wealthDrawn 42 = .ok (.ireturn, 1) := by decide +kernel
theorem dX10_drawn_0 : decode cX10_drawn 0 = .ok (.aload_n 0, 1) := by decide +kernel
theorem dX10_drawn_1 : decode cX10_drawn 1 = .ok (.getfield 30, 3) := by decide +kernel
theorem dX10_drawn_4 : decode cX10_drawn 4 = .ok (.getfield 124, 3) := by decide +kernel
theorem dX10_drawn_7 : decode cX10_drawn 7 = .ok (.iload_n 1, 1) := by decide +kernel
theorem dX10_drawn_8 : decode cX10_drawn 8 = .ok (.invokevirtual 171, 3) := by decide +kernel
theorem dX10_drawn_11 : decode cX10_drawn 11 = .ok (.ifCond .eq 14, 3) := by decide +kernel
theorem dX10_drawn_14 : decode cX10_drawn 14 = .ok (.iload_n 2, 1) := by decide +kernel
theorem dX10_drawn_15 : decode cX10_drawn 15 = .ok (.iconst 1, 1) := by decide +kernel
theorem dX10_drawn_16 : decode cX10_drawn 16 = .ok (.if_icmp .lt 9, 3) := by decide +kernel
theorem dX10_drawn_19 : decode cX10_drawn 19 = .ok (.iload_n 2, 1) := by decide +kernel
theorem dX10_drawn_20 : decode cX10_drawn 20 = .ok (.bipush 48, 2) := by decide +kernel
theorem dX10_drawn_22 : decode cX10_drawn 22 = .ok (.if_icmp .le 5, 3) := by decide +kernel
theorem dX10_drawn_25 : decode cX10_drawn 25 = .ok (.iconst (-1), 1) := by decide +kernel
theorem dX10_drawn_26 : decode cX10_drawn 26 = .ok (.ireturn, 1) := by decide +kernel
theorem dX10_drawn_27 : decode cX10_drawn 27 = .ok (.aload_n 0, 1) := by decide +kernel
theorem dX10_drawn_28 : decode cX10_drawn 28 = .ok (.iload_n 1, 1) := by decide +kernel
theorem dX10_drawn_29 : decode cX10_drawn 29 = .ok (.iload_n 2, 1) := by decide +kernel
theorem dX10_drawn_30 : decode cX10_drawn 30 = .ok (.iload_n 3, 1) := by decide +kernel
theorem dX10_drawn_31 : decode cX10_drawn 31 = .ok (.invokevirtual 374, 3) := by decide +kernel
theorem dX10_drawn_34 : decode cX10_drawn 34 = .ok (.ireturn, 1) := by decide +kernel
theorem dX10_odds_0 : decode cX10_odds 0 = .ok (.aload_n 0, 1) := by decide +kernel
theorem dX10_odds_1 : decode cX10_odds 1 = .ok (.getfield 30, 3) := by decide +kernel
theorem dX10_odds_4 : decode cX10_odds 4 = .ok (.getfield 124, 3) := by decide +kernel
theorem dX10_odds_7 : decode cX10_odds 7 = .ok (.iload_n 1, 1) := by decide +kernel
theorem dX10_odds_8 : decode cX10_odds 8 = .ok (.invokevirtual 171, 3) := by decide +kernel
theorem dX10_odds_11 : decode cX10_odds 11 = .ok (.ifCond .eq 14, 3) := by decide +kernel
theorem dX10_odds_14 : decode cX10_odds 14 = .ok (.iload_n 2, 1) := by decide +kernel
theorem dX10_odds_15 : decode cX10_odds 15 = .ok (.iconst 1, 1) := by decide +kernel
theorem dX10_odds_16 : decode cX10_odds 16 = .ok (.if_icmp .lt 9, 3) := by decide +kernel
theorem dX10_odds_19 : decode cX10_odds 19 = .ok (.iload_n 2, 1) := by decide +kernel
theorem dX10_odds_20 : decode cX10_odds 20 = .ok (.bipush 100, 2) := by decide +kernel
theorem dX10_odds_22 : decode cX10_odds 22 = .ok (.if_icmp .le 5, 3) := by decide +kernel
theorem dX10_odds_25 : decode cX10_odds 25 = .ok (.iconst (-1), 1) := by decide +kernel
theorem dX10_odds_26 : decode cX10_odds 26 = .ok (.ireturn, 1) := by decide +kernel
theorem dX10_odds_27 : decode cX10_odds 27 = .ok (.iconst 0, 1) := by decide +kernel
theorem dX10_odds_28 : decode cX10_odds 28 = .ok (.istore 4, 2) := by decide +kernel
theorem dX10_odds_30 : decode cX10_odds 30 = .ok (.iconst 0, 1) := by decide +kernel
theorem dX10_odds_31 : decode cX10_odds 31 = .ok (.istore 5, 2) := by decide +kernel
theorem dX10_odds_33 : decode cX10_odds 33 = .ok (.iload 5, 2) := by decide +kernel
theorem dX10_odds_35 : decode cX10_odds 35 = .ok (.iload_n 2, 1) := by decide +kernel
theorem dX10_odds_36 : decode cX10_odds 36 = .ok (.if_icmp .ge 37, 3) := by decide +kernel
theorem dX10_odds_39 : decode cX10_odds 39 = .ok (.aload_n 0, 1) := by decide +kernel
theorem dX10_odds_40 : decode cX10_odds 40 = .ok (.iload_n 1, 1) := by decide +kernel
theorem dX10_odds_41 : decode cX10_odds 41 = .ok (.bipush 12, 2) := by decide +kernel
theorem dX10_odds_43 : decode cX10_odds 43 = .ok (.iload_n 3, 1) := by decide +kernel
theorem dX10_odds_44 : decode cX10_odds 44 = .ok (.iload 5, 2) := by decide +kernel
theorem dX10_odds_46 : decode cX10_odds 46 = .ok (.iadd, 1) := by decide +kernel
theorem dX10_odds_47 : decode cX10_odds 47 = .ok (.invokevirtual 374, 3) := by decide +kernel
theorem dX10_odds_50 : decode cX10_odds 50 = .ok (.aload_n 0, 1) := by decide +kernel
theorem dX10_odds_51 : decode cX10_odds 51 = .ok (.getfield 30, 3) := by decide +kernel
theorem dX10_odds_54 : decode cX10_odds 54 = .ok (.getfield 127, 3) := by decide +kernel
theorem dX10_odds_57 : decode cX10_odds 57 = .ok (.iload_n 1, 1) := by decide +kernel
theorem dX10_odds_58 : decode cX10_odds 58 = .ok (.invokevirtual 332, 3) := by decide +kernel
theorem dX10_odds_61 : decode cX10_odds 61 = .ok (.if_icmp .ge 6, 3) := by decide +kernel
theorem dX10_odds_64 : decode cX10_odds 64 = .ok (.iinc 4 1, 3) := by decide +kernel
theorem dX10_odds_67 : decode cX10_odds 67 = .ok (.iinc 5 1, 3) := by decide +kernel
theorem dX10_odds_70 : decode cX10_odds 70 = .ok (.goto (-37), 3) := by decide +kernel
theorem dX10_odds_73 : decode cX10_odds 73 = .ok (.iload 4, 2) := by decide +kernel
theorem dX10_odds_75 : decode cX10_odds 75 = .ok (.ireturn, 1) := by decide +kernel
theorem dX3_perform_0 : decode cX3_perform 0 = .ok (.aload_n 0, 1) := by decide +kernel
theorem dX3_perform_1 : decode cX3_perform 1 = .ok (.getfield 19, 3) := by decide +kernel
theorem dX3_perform_4 : decode cX3_perform 4 = .ok (.iload_n 1, 1) := by decide +kernel
theorem dX3_perform_5 : decode cX3_perform 5 = .ok (.iaload, 1) := by decide +kernel
theorem dX3_perform_6 : decode cX3_perform 6 = .ok (.istore 5, 2) := by decide +kernel
theorem dX3_perform_8 : decode cX3_perform 8 = .ok (.iconst 0, 1) := by decide +kernel
theorem dX3_perform_9 : decode cX3_perform 9 = .ok (.istore 6, 2) := by decide +kernel
theorem dX3_perform_11 : decode cX3_perform 11 = .ok (.aload_n 0, 1) := by decide +kernel
theorem dX3_perform_12 : decode cX3_perform 12 = .ok (.getfield 15, 3) := by decide +kernel
theorem dX3_perform_15 : decode cX3_perform 15 = .ok (.iload_n 1, 1) := by decide +kernel
theorem dX3_perform_16 : decode cX3_perform 16 = .ok (.iaload, 1) := by decide +kernel
theorem dX3_perform_17 : decode cX3_perform 17 = .ok (.tableswitch 100 10 13 #[31, 53, 76, 85], 31) := by decide +kernel
theorem dX3_perform_48 : decode cX3_perform 48 = .ok (.aload_n 3, 1) := by decide +kernel
theorem dX3_perform_49 : decode cX3_perform 49 = .ok (.iload 5, 2) := by decide +kernel
theorem dX3_perform_51 : decode cX3_perform 51 = .ok (.invokevirtual 74, 3) := by decide +kernel
theorem dX3_perform_54 : decode cX3_perform 54 = .ok (.istore 6, 2) := by decide +kernel
theorem dX3_perform_56 : decode cX3_perform 56 = .ok (.iload 6, 2) := by decide +kernel
theorem dX3_perform_58 : decode cX3_perform 58 = .ok (.ifCond .ne 78, 3) := by decide +kernel
theorem dX3_perform_61 : decode cX3_perform 61 = .ok (.aload_n 3, 1) := by decide +kernel
theorem dX3_perform_62 : decode cX3_perform 62 = .ok (.iload 5, 2) := by decide +kernel
theorem dX3_perform_64 : decode cX3_perform 64 = .ok (.invokevirtual 80, 3) := by decide +kernel
theorem dX3_perform_67 : decode cX3_perform 67 = .ok (.goto 69, 3) := by decide +kernel
theorem dX3_perform_70 : decode cX3_perform 70 = .ok (.aload_n 3, 1) := by decide +kernel
theorem dX3_perform_71 : decode cX3_perform 71 = .ok (.iload 5, 2) := by decide +kernel
theorem dX3_perform_73 : decode cX3_perform 73 = .ok (.invokevirtual 83, 3) := by decide +kernel
theorem dX3_perform_76 : decode cX3_perform 76 = .ok (.istore 6, 2) := by decide +kernel
theorem dX3_perform_78 : decode cX3_perform 78 = .ok (.iload 6, 2) := by decide +kernel
theorem dX3_perform_80 : decode cX3_perform 80 = .ok (.ifCond .ne 56, 3) := by decide +kernel
theorem dX3_perform_83 : decode cX3_perform 83 = .ok (.aload_n 3, 1) := by decide +kernel
theorem dX3_perform_84 : decode cX3_perform 84 = .ok (.aload_n 2, 1) := by decide +kernel
theorem dX3_perform_85 : decode cX3_perform 85 = .ok (.iload 5, 2) := by decide +kernel
theorem dX3_perform_87 : decode cX3_perform 87 = .ok (.invokevirtual 86, 3) := by decide +kernel
theorem dX3_perform_90 : decode cX3_perform 90 = .ok (.goto 46, 3) := by decide +kernel
theorem dX3_perform_93 : decode cX3_perform 93 = .ok (.aload_n 3, 1) := by decide +kernel
theorem dX3_perform_94 : decode cX3_perform 94 = .ok (.iload 5, 2) := by decide +kernel
theorem dX3_perform_96 : decode cX3_perform 96 = .ok (.invokevirtual 90, 3) := by decide +kernel
theorem dX3_perform_99 : decode cX3_perform 99 = .ok (.goto 37, 3) := by decide +kernel
theorem dX3_perform_102 : decode cX3_perform 102 = .ok (.aload_n 3, 1) := by decide +kernel
theorem dX3_perform_103 : decode cX3_perform 103 = .ok (.iload 5, 2) := by decide +kernel
theorem dX3_perform_105 : decode cX3_perform 105 = .ok (.aload_n 0, 1) := by decide +kernel
theorem dX3_perform_106 : decode cX3_perform 106 = .ok (.getfield 22, 3) := by decide +kernel
theorem dX3_perform_109 : decode cX3_perform 109 = .ok (.iload_n 1, 1) := by decide +kernel
theorem dX3_perform_110 : decode cX3_perform 110 = .ok (.iaload, 1) := by decide +kernel
theorem dX3_perform_111 : decode cX3_perform 111 = .ok (.invokevirtual 93, 3) := by decide +kernel
theorem dX3_perform_114 : decode cX3_perform 114 = .ok (.goto 22, 3) := by decide +kernel
theorem dX3_perform_117 : decode cX3_perform 117 = .ok (.aload 4, 2) := by decide +kernel
theorem dX3_perform_119 : decode cX3_perform 119 = .ok (.aload_n 2, 1) := by decide +kernel
theorem dX3_perform_120 : decode cX3_perform 120 = .ok (.aload_n 3, 1) := by decide +kernel
theorem dX3_perform_121 : decode cX3_perform 121 = .ok (.iload 5, 2) := by decide +kernel
theorem dX3_perform_123 : decode cX3_perform 123 = .ok (.invokevirtual 97, 3) := by decide +kernel
theorem dX3_perform_126 : decode cX3_perform 126 = .ok (.ifCond .ne 7, 3) := by decide +kernel
theorem dX3_perform_129 : decode cX3_perform 129 = .ok (.iconst 4, 1) := by decide +kernel
theorem dX3_perform_130 : decode cX3_perform 130 = .ok (.goto 4, 3) := by decide +kernel
theorem dX3_perform_133 : decode cX3_perform 133 = .ok (.iconst 0, 1) := by decide +kernel
theorem dX3_perform_134 : decode cX3_perform 134 = .ok (.istore 6, 2) := by decide +kernel
theorem dX3_perform_136 : decode cX3_perform 136 = .ok (.iload 6, 2) := by decide +kernel
theorem dX3_perform_138 : decode cX3_perform 138 = .ok (.ireturn, 1) := by decide +kernel
theorem dX10_judge_0 : decode cX10_judge 0 = .ok (.iload_n 1, 1) := by decide +kernel
theorem dX10_judge_1 : decode cX10_judge 1 = .ok (.ifCond .eq 11, 3) := by decide +kernel
theorem dX10_judge_4 : decode cX10_judge 4 = .ok (.iload_n 1, 1) := by decide +kernel
theorem dX10_judge_5 : decode cX10_judge 5 = .ok (.iconst 1, 1) := by decide +kernel
theorem dX10_judge_6 : decode cX10_judge 6 = .ok (.if_icmp .eq 6, 3) := by decide +kernel
theorem dX10_judge_9 : decode cX10_judge 9 = .ok (.bipush (-2), 2) := by decide +kernel
theorem dX10_judge_11 : decode cX10_judge 11 = .ok (.ireturn, 1) := by decide +kernel
theorem dX10_judge_12 : decode cX10_judge 12 = .ok (.aload_n 0, 1) := by decide +kernel
theorem dX10_judge_13 : decode cX10_judge 13 = .ok (.getfield 83, 3) := by decide +kernel
theorem dX10_judge_16 : decode cX10_judge 16 = .ok (.aload_n 0, 1) := by decide +kernel
theorem dX10_judge_17 : decode cX10_judge 17 = .ok (.getfield 30, 3) := by decide +kernel
theorem dX10_judge_20 : decode cX10_judge 20 = .ok (.getfield 127, 3) := by decide +kernel
theorem dX10_judge_23 : decode cX10_judge 23 = .ok (.invokevirtual 280, 3) := by decide +kernel
theorem dX10_judge_26 : decode cX10_judge 26 = .ok (.iconst 0, 1) := by decide +kernel
theorem dX10_judge_27 : decode cX10_judge 27 = .ok (.istore_n 2, 1) := by decide +kernel
theorem dX10_judge_28 : decode cX10_judge 28 = .ok (.iconst 0, 1) := by decide +kernel
theorem dX10_judge_29 : decode cX10_judge 29 = .ok (.istore_n 3, 1) := by decide +kernel
theorem dX10_judge_30 : decode cX10_judge 30 = .ok (.iload_n 2, 1) := by decide +kernel
theorem dX10_judge_31 : decode cX10_judge 31 = .ok (.ifCond .ne 54, 3) := by decide +kernel
theorem dX10_judge_34 : decode cX10_judge 34 = .ok (.iload_n 3, 1) := by decide +kernel
theorem dX10_judge_35 : decode cX10_judge 35 = .ok (.aload_n 0, 1) := by decide +kernel
theorem dX10_judge_36 : decode cX10_judge 36 = .ok (.getfield 30, 3) := by decide +kernel
theorem dX10_judge_39 : decode cX10_judge 39 = .ok (.getfield 134, 3) := by decide +kernel
theorem dX10_judge_42 : decode cX10_judge 42 = .ok (.getfield 137, 3) := by decide +kernel
theorem dX10_judge_45 : decode cX10_judge 45 = .ok (.if_icmp .ge 40, 3) := by decide +kernel
theorem dX10_judge_48 : decode cX10_judge 48 = .ok (.aload_n 0, 1) := by decide +kernel
theorem dX10_judge_49 : decode cX10_judge 49 = .ok (.getfield 30, 3) := by decide +kernel
theorem dX10_judge_52 : decode cX10_judge 52 = .ok (.getfield 134, 3) := by decide +kernel
theorem dX10_judge_55 : decode cX10_judge 55 = .ok (.iload_n 3, 1) := by decide +kernel
theorem dX10_judge_56 : decode cX10_judge 56 = .ok (.aload_n 0, 1) := by decide +kernel
theorem dX10_judge_57 : decode cX10_judge 57 = .ok (.getfield 30, 3) := by decide +kernel
theorem dX10_judge_60 : decode cX10_judge 60 = .ok (.getfield 124, 3) := by decide +kernel
theorem dX10_judge_63 : decode cX10_judge 63 = .ok (.aload_n 0, 1) := by decide +kernel
theorem dX10_judge_64 : decode cX10_judge 64 = .ok (.getfield 83, 3) := by decide +kernel
theorem dX10_judge_67 : decode cX10_judge 67 = .ok (.aload_n 0, 1) := by decide +kernel
theorem dX10_judge_68 : decode cX10_judge 68 = .ok (.getfield 69, 3) := by decide +kernel
theorem dX10_judge_71 : decode cX10_judge 71 = .ok (.invokevirtual 380, 3) := by decide +kernel
theorem dX10_judge_74 : decode cX10_judge 74 = .ok (.istore_n 2, 1) := by decide +kernel
theorem dX10_judge_75 : decode cX10_judge 75 = .ok (.iload_n 2, 1) := by decide +kernel
theorem dX10_judge_76 : decode cX10_judge 76 = .ok (.ifCond .ne (-46), 3) := by decide +kernel
theorem dX10_judge_79 : decode cX10_judge 79 = .ok (.iinc 3 1, 3) := by decide +kernel
theorem dX10_judge_82 : decode cX10_judge 82 = .ok (.goto (-52), 3) := by decide +kernel
theorem dX10_judge_85 : decode cX10_judge 85 = .ok (.aload_n 0, 1) := by decide +kernel
theorem dX10_judge_86 : decode cX10_judge 86 = .ok (.getfield 100, 3) := by decide +kernel
theorem dX10_judge_89 : decode cX10_judge 89 = .ok (.iconst 0, 1) := by decide +kernel
theorem dX10_judge_90 : decode cX10_judge 90 = .ok (.iload_n 2, 1) := by decide +kernel
theorem dX10_judge_91 : decode cX10_judge 91 = .ok (.iastore, 1) := by decide +kernel
theorem dX10_judge_92 : decode cX10_judge 92 = .ok (.aload_n 0, 1) := by decide +kernel
theorem dX10_judge_93 : decode cX10_judge 93 = .ok (.getfield 100, 3) := by decide +kernel
theorem dX10_judge_96 : decode cX10_judge 96 = .ok (.iconst 1, 1) := by decide +kernel
theorem dX10_judge_97 : decode cX10_judge 97 = .ok (.iload_n 3, 1) := by decide +kernel
theorem dX10_judge_98 : decode cX10_judge 98 = .ok (.iastore, 1) := by decide +kernel
theorem dX10_judge_99 : decode cX10_judge 99 = .ok (.aload_n 0, 1) := by decide +kernel
theorem dX10_judge_100 : decode cX10_judge 100 = .ok (.getfield 100, 3) := by decide +kernel
theorem dX10_judge_103 : decode cX10_judge 103 = .ok (.iconst 2, 1) := by decide +kernel
theorem dX10_judge_104 : decode cX10_judge 104 = .ok (.aload_n 0, 1) := by decide +kernel
theorem dX10_judge_105 : decode cX10_judge 105 = .ok (.getfield 83, 3) := by decide +kernel
theorem dX10_judge_108 : decode cX10_judge 108 = .ok (.getfield 219, 3) := by decide +kernel
theorem dX10_judge_111 : decode cX10_judge 111 = .ok (.iastore, 1) := by decide +kernel
theorem dX10_judge_112 : decode cX10_judge 112 = .ok (.aload_n 0, 1) := by decide +kernel
theorem dX10_judge_113 : decode cX10_judge 113 = .ok (.getfield 100, 3) := by decide +kernel
theorem dX10_judge_116 : decode cX10_judge 116 = .ok (.iconst 3, 1) := by decide +kernel
theorem dX10_judge_117 : decode cX10_judge 117 = .ok (.aload_n 0, 1) := by decide +kernel
theorem dX10_judge_118 : decode cX10_judge 118 = .ok (.getfield 83, 3) := by decide +kernel
theorem dX10_judge_121 : decode cX10_judge 121 = .ok (.getfield 222, 3) := by decide +kernel
theorem dX10_judge_124 : decode cX10_judge 124 = .ok (.iastore, 1) := by decide +kernel
theorem dX10_judge_125 : decode cX10_judge 125 = .ok (.aload_n 0, 1) := by decide +kernel
theorem dX10_judge_126 : decode cX10_judge 126 = .ok (.getfield 100, 3) := by decide +kernel
theorem dX10_judge_129 : decode cX10_judge 129 = .ok (.iconst 4, 1) := by decide +kernel
theorem dX10_judge_130 : decode cX10_judge 130 = .ok (.aload_n 0, 1) := by decide +kernel
theorem dX10_judge_131 : decode cX10_judge 131 = .ok (.getfield 83, 3) := by decide +kernel
theorem dX10_judge_134 : decode cX10_judge 134 = .ok (.getfield 229, 3) := by decide +kernel
theorem dX10_judge_137 : decode cX10_judge 137 = .ok (.iastore, 1) := by decide +kernel
theorem dX10_judge_138 : decode cX10_judge 138 = .ok (.iload_n 1, 1) := by decide +kernel
theorem dX10_judge_139 : decode cX10_judge 139 = .ok (.iconst 1, 1) := by decide +kernel
theorem dX10_judge_140 : decode cX10_judge 140 = .ok (.if_icmp .ne 25, 3) := by decide +kernel
theorem dX10_judge_143 : decode cX10_judge 143 = .ok (.iload_n 3, 1) := by decide +kernel
theorem dX10_judge_144 : decode cX10_judge 144 = .ok (.ifCond .le 21, 3) := by decide +kernel
theorem dX10_judge_147 : decode cX10_judge 147 = .ok (.aload_n 0, 1) := by decide +kernel
theorem dX10_judge_148 : decode cX10_judge 148 = .ok (.invokevirtual 299, 3) := by decide +kernel
theorem dX10_judge_151 : decode cX10_judge 151 = .ok (.aload_n 0, 1) := by decide +kernel
theorem dX10_judge_152 : decode cX10_judge 152 = .ok (.getfield 30, 3) := by decide +kernel
theorem dX10_judge_155 : decode cX10_judge 155 = .ok (.getfield 127, 3) := by decide +kernel
theorem dX10_judge_158 : decode cX10_judge 158 = .ok (.aload_n 0, 1) := by decide +kernel
theorem dX10_judge_159 : decode cX10_judge 159 = .ok (.getfield 83, 3) := by decide +kernel
theorem dX10_judge_162 : decode cX10_judge 162 = .ok (.invokevirtual 280, 3) := by decide +kernel
theorem dX10_judge_165 : decode cX10_judge 165 = .ok (.iload_n 2, 1) := by decide +kernel
theorem dX10_judge_166 : decode cX10_judge 166 = .ok (.ifCond .ne 7, 3) := by decide +kernel
theorem dX10_judge_169 : decode cX10_judge 169 = .ok (.iconst (-1), 1) := by decide +kernel
theorem dX10_judge_170 : decode cX10_judge 170 = .ok (.goto 4, 3) := by decide +kernel
theorem dX10_judge_173 : decode cX10_judge 173 = .ok (.iload_n 3, 1) := by decide +kernel
theorem dX10_judge_174 : decode cX10_judge 174 = .ok (.ireturn, 1) := by decide +kernel
theorem dX10_judged_0 : decode cX10_judged 0 = .ok (.iload_n 1, 1) := by decide +kernel
theorem dX10_judged_1 : decode cX10_judged 1 = .ok (.ifCond .lt 21, 3) := by decide +kernel
theorem dX10_judged_4 : decode cX10_judged 4 = .ok (.iload_n 1, 1) := by decide +kernel
theorem dX10_judged_5 : decode cX10_judged 5 = .ok (.aload_n 0, 1) := by decide +kernel
theorem dX10_judged_6 : decode cX10_judged 6 = .ok (.getfield 100, 3) := by decide +kernel
theorem dX10_judged_9 : decode cX10_judged 9 = .ok (.arraylength, 1) := by decide +kernel
theorem dX10_judged_10 : decode cX10_judged 10 = .ok (.if_icmp .ge 12, 3) := by decide +kernel
theorem dX10_judged_13 : decode cX10_judged 13 = .ok (.aload_n 0, 1) := by decide +kernel
theorem dX10_judged_14 : decode cX10_judged 14 = .ok (.getfield 100, 3) := by decide +kernel
theorem dX10_judged_17 : decode cX10_judged 17 = .ok (.iload_n 1, 1) := by decide +kernel
theorem dX10_judged_18 : decode cX10_judged 18 = .ok (.iaload, 1) := by decide +kernel
theorem dX10_judged_19 : decode cX10_judged 19 = .ok (.goto 4, 3) := by decide +kernel
theorem dX10_judged_22 : decode cX10_judged 22 = .ok (.iconst (-1), 1) := by decide +kernel
theorem dX10_judged_23 : decode cX10_judged 23 = .ok (.ireturn, 1) := by decide +kernel
theorem dX5_compare_0 : decode cX5_compare 0 = .ok (.aload_n 0, 1) := by decide +kernel
theorem dX5_compare_1 : decode cX5_compare 1 = .ok (.getfield 22, 3) := by decide +kernel
theorem dX5_compare_4 : decode cX5_compare 4 = .ok (.iload_n 2, 1) := by decide +kernel
theorem dX5_compare_5 : decode cX5_compare 5 = .ok (.iaload, 1) := by decide +kernel
theorem dX5_compare_6 : decode cX5_compare 6 = .ok (.lookupswitch 58 #[(60, 26), (61, 42)], 26) := by decide +kernel
theorem dX5_compare_32 : decode cX5_compare 32 = .ok (.iload_n 1, 1) := by decide +kernel
theorem dX5_compare_33 : decode cX5_compare 33 = .ok (.aload_n 0, 1) := by decide +kernel
theorem dX5_compare_34 : decode cX5_compare 34 = .ok (.getfield 25, 3) := by decide +kernel
theorem dX5_compare_37 : decode cX5_compare 37 = .ok (.iload_n 2, 1) := by decide +kernel
theorem dX5_compare_38 : decode cX5_compare 38 = .ok (.iaload, 1) := by decide +kernel
theorem dX5_compare_39 : decode cX5_compare 39 = .ok (.if_icmp .ge 7, 3) := by decide +kernel
theorem dX5_compare_42 : decode cX5_compare 42 = .ok (.iconst 1, 1) := by decide +kernel
theorem dX5_compare_43 : decode cX5_compare 43 = .ok (.goto 4, 3) := by decide +kernel
theorem dX5_compare_46 : decode cX5_compare 46 = .ok (.iconst 0, 1) := by decide +kernel
theorem dX5_compare_47 : decode cX5_compare 47 = .ok (.ireturn, 1) := by decide +kernel
theorem dX5_compare_48 : decode cX5_compare 48 = .ok (.iload_n 1, 1) := by decide +kernel
theorem dX5_compare_49 : decode cX5_compare 49 = .ok (.aload_n 0, 1) := by decide +kernel
theorem dX5_compare_50 : decode cX5_compare 50 = .ok (.getfield 25, 3) := by decide +kernel
theorem dX5_compare_53 : decode cX5_compare 53 = .ok (.iload_n 2, 1) := by decide +kernel
theorem dX5_compare_54 : decode cX5_compare 54 = .ok (.iaload, 1) := by decide +kernel
theorem dX5_compare_55 : decode cX5_compare 55 = .ok (.if_icmp .ne 7, 3) := by decide +kernel
theorem dX5_compare_58 : decode cX5_compare 58 = .ok (.iconst 1, 1) := by decide +kernel
theorem dX5_compare_59 : decode cX5_compare 59 = .ok (.goto 4, 3) := by decide +kernel
theorem dX5_compare_62 : decode cX5_compare 62 = .ok (.iconst 0, 1) := by decide +kernel
theorem dX5_compare_63 : decode cX5_compare 63 = .ok (.ireturn, 1) := by decide +kernel
theorem dX5_compare_64 : decode cX5_compare 64 = .ok (.iload_n 1, 1) := by decide +kernel
theorem dX5_compare_65 : decode cX5_compare 65 = .ok (.aload_n 0, 1) := by decide +kernel
theorem dX5_compare_66 : decode cX5_compare 66 = .ok (.getfield 25, 3) := by decide +kernel
theorem dX5_compare_69 : decode cX5_compare 69 = .ok (.iload_n 2, 1) := by decide +kernel
theorem dX5_compare_70 : decode cX5_compare 70 = .ok (.iaload, 1) := by decide +kernel
theorem dX5_compare_71 : decode cX5_compare 71 = .ok (.if_icmp .le 7, 3) := by decide +kernel
theorem dX5_compare_74 : decode cX5_compare 74 = .ok (.iconst 1, 1) := by decide +kernel
theorem dX5_compare_75 : decode cX5_compare 75 = .ok (.goto 4, 3) := by decide +kernel
theorem dX5_compare_78 : decode cX5_compare 78 = .ok (.iconst 0, 1) := by decide +kernel
theorem dX5_compare_79 : decode cX5_compare 79 = .ok (.ireturn, 1) := by decide +kernel
theorem dX5_isSo_0 : decode cX5_isSo 0 = .ok (.aload_n 0, 1) := by decide +kernel
theorem dX5_isSo_1 : decode cX5_isSo 1 = .ok (.getfield 18, 3) := by decide +kernel
theorem dX5_isSo_4 : decode cX5_isSo 4 = .ok (.iload_n 3, 1) := by decide +kernel
theorem dX5_isSo_5 : decode cX5_isSo 5 = .ok (.iaload, 1) := by decide +kernel
theorem dX5_isSo_6 : decode cX5_isSo 6 = .ok (.tableswitch 101 18 22 #[34, 53, 65, 77, 89], 34) := by decide +kernel
theorem dX5_isSo_40 : decode cX5_isSo 40 = .ok (.aload_n 1, 1) := by decide +kernel
theorem dX5_isSo_41 : decode cX5_isSo 41 = .ok (.getfield 95, 3) := by decide +kernel
theorem dX5_isSo_44 : decode cX5_isSo 44 = .ok (.iload_n 2, 1) := by decide +kernel
theorem dX5_isSo_45 : decode cX5_isSo 45 = .ok (.iaload, 1) := by decide +kernel
theorem dX5_isSo_46 : decode cX5_isSo 46 = .ok (.aload_n 1, 1) := by decide +kernel
theorem dX5_isSo_47 : decode cX5_isSo 47 = .ok (.getfield 100, 3) := by decide +kernel
theorem dX5_isSo_50 : decode cX5_isSo 50 = .ok (.if_icmp .ne 7, 3) := by decide +kernel
theorem dX5_isSo_53 : decode cX5_isSo 53 = .ok (.iconst 1, 1) := by decide +kernel
theorem dX5_isSo_54 : decode cX5_isSo 54 = .ok (.goto 4, 3) := by decide +kernel
theorem dX5_isSo_57 : decode cX5_isSo 57 = .ok (.iconst 0, 1) := by decide +kernel
theorem dX5_isSo_58 : decode cX5_isSo 58 = .ok (.ireturn, 1) := by decide +kernel
theorem dX5_isSo_59 : decode cX5_isSo 59 = .ok (.aload_n 0, 1) := by decide +kernel
theorem dX5_isSo_60 : decode cX5_isSo 60 = .ok (.aload_n 1, 1) := by decide +kernel
theorem dX5_isSo_61 : decode cX5_isSo 61 = .ok (.getfield 103, 3) := by decide +kernel
theorem dX5_isSo_64 : decode cX5_isSo 64 = .ok (.iload_n 2, 1) := by decide +kernel
theorem dX5_isSo_65 : decode cX5_isSo 65 = .ok (.iaload, 1) := by decide +kernel
theorem dX5_isSo_66 : decode cX5_isSo 66 = .ok (.iload_n 3, 1) := by decide +kernel
theorem dX5_isSo_67 : decode cX5_isSo 67 = .ok (.invokevirtual 106, 3) := by decide +kernel
theorem dX5_isSo_70 : decode cX5_isSo 70 = .ok (.ireturn, 1) := by decide +kernel
theorem dX5_isSo_71 : decode cX5_isSo 71 = .ok (.aload_n 0, 1) := by decide +kernel
theorem dX5_isSo_72 : decode cX5_isSo 72 = .ok (.aload_n 1, 1) := by decide +kernel
theorem dX5_isSo_73 : decode cX5_isSo 73 = .ok (.getfield 109, 3) := by decide +kernel
theorem dX5_isSo_76 : decode cX5_isSo 76 = .ok (.iload_n 2, 1) := by decide +kernel
theorem dX5_isSo_77 : decode cX5_isSo 77 = .ok (.iaload, 1) := by decide +kernel
theorem dX5_isSo_78 : decode cX5_isSo 78 = .ok (.iload_n 3, 1) := by decide +kernel
theorem dX5_isSo_79 : decode cX5_isSo 79 = .ok (.invokevirtual 106, 3) := by decide +kernel
theorem dX5_isSo_82 : decode cX5_isSo 82 = .ok (.ireturn, 1) := by decide +kernel
theorem dX5_isSo_83 : decode cX5_isSo 83 = .ok (.aload_n 0, 1) := by decide +kernel
theorem dX5_isSo_84 : decode cX5_isSo 84 = .ok (.aload_n 1, 1) := by decide +kernel
theorem dX5_isSo_85 : decode cX5_isSo 85 = .ok (.getfield 112, 3) := by decide +kernel
theorem dX5_isSo_88 : decode cX5_isSo 88 = .ok (.iload_n 2, 1) := by decide +kernel
theorem dX5_isSo_89 : decode cX5_isSo 89 = .ok (.iaload, 1) := by decide +kernel
theorem dX5_isSo_90 : decode cX5_isSo 90 = .ok (.iload_n 3, 1) := by decide +kernel
theorem dX5_isSo_91 : decode cX5_isSo 91 = .ok (.invokevirtual 106, 3) := by decide +kernel
theorem dX5_isSo_94 : decode cX5_isSo 94 = .ok (.ireturn, 1) := by decide +kernel
theorem dX5_isSo_95 : decode cX5_isSo 95 = .ok (.aload_n 0, 1) := by decide +kernel
theorem dX5_isSo_96 : decode cX5_isSo 96 = .ok (.aload_n 1, 1) := by decide +kernel
theorem dX5_isSo_97 : decode cX5_isSo 97 = .ok (.getfield 95, 3) := by decide +kernel
theorem dX5_isSo_100 : decode cX5_isSo 100 = .ok (.iload_n 2, 1) := by decide +kernel
theorem dX5_isSo_101 : decode cX5_isSo 101 = .ok (.iaload, 1) := by decide +kernel
theorem dX5_isSo_102 : decode cX5_isSo 102 = .ok (.iload_n 3, 1) := by decide +kernel
theorem dX5_isSo_103 : decode cX5_isSo 103 = .ok (.invokevirtual 106, 3) := by decide +kernel
theorem dX5_isSo_106 : decode cX5_isSo 106 = .ok (.ireturn, 1) := by decide +kernel
theorem dX5_isSo_107 : decode cX5_isSo 107 = .ok (.aload_n 0, 1) := by decide +kernel
theorem dX5_isSo_108 : decode cX5_isSo 108 = .ok (.iload_n 2, 1) := by decide +kernel
theorem dX5_isSo_109 : decode cX5_isSo 109 = .ok (.iload_n 3, 1) := by decide +kernel
