theorem dX0_init_0 : decode cX0_init 0 = .ok (.aload_n 0, 1) := by decide +kernel
theorem dX0_init_1 : decode cX0_init 1 = .ok (.invokespecial 3, 3) := by decide +kernel
theorem dX0_init_4 : decode cX0_init 4 = .ok (.return_, 1) := by decide +kernel
theorem dX0_draw_0 : decode cX0_draw 0 = .ok (.aload_n 0, 1) := by decide +kernel
theorem dX0_draw_1 : decode cX0_draw 1 = .ok (.aload_n 0, 1) := by decide +kernel
theorem dX0_draw_2 : decode cX0_draw 2 = .ok (.getfield 9, 3) := by decide +kernel
theorem dX0_draw_5 : decode cX0_draw 5 = .ok (.ldc 15, 2) := by decide +kernel
theorem dX0_draw_7 : decode cX0_draw 7 = .ok (.imul, 1) := by decide +kernel
theorem dX0_draw_8 : decode cX0_draw 8 = .ok (.sipush 12345, 3) := by decide +kernel
theorem dX0_draw_11 : decode cX0_draw 11 = .ok (.iadd, 1) := by decide +kernel
theorem dX0_draw_12 : decode cX0_draw 12 = .ok (.putfield 9, 3) := by decide +kernel
theorem dX0_draw_15 : decode cX0_draw 15 = .ok (.iload_n 1, 1) := by decide +kernel
theorem dX0_draw_16 : decode cX0_draw 16 = .ok (.iconst 1, 1) := by decide +kernel
theorem dX0_draw_17 : decode cX0_draw 17 = .ok (.if_icmp .ge 7, 3) := by decide +kernel
theorem dX0_draw_20 : decode cX0_draw 20 = .ok (.iconst 0, 1) := by decide +kernel
theorem dX0_draw_21 : decode cX0_draw 21 = .ok (.goto 16, 3) := by decide +kernel
theorem dX0_draw_24 : decode cX0_draw 24 = .ok (.aload_n 0, 1) := by decide +kernel
theorem dX0_draw_25 : decode cX0_draw 25 = .ok (.getfield 9, 3) := by decide +kernel
theorem dX0_draw_28 : decode cX0_draw 28 = .ok (.bipush 16, 2) := by decide +kernel
theorem dX0_draw_30 : decode cX0_draw 30 = .ok (.ishr, 1) := by decide +kernel
theorem dX0_draw_31 : decode cX0_draw 31 = .ok (.sipush 32767, 3) := by decide +kernel
theorem dX0_draw_34 : decode cX0_draw 34 = .ok (.iand, 1) := by decide +kernel
theorem dX0_draw_35 : decode cX0_draw 35 = .ok (.iload_n 1, 1) := by decide +kernel
theorem dX0_draw_36 : decode cX0_draw 36 = .ok (.irem, 1) := by decide +kernel
theorem dX0_draw_37 : decode cX0_draw 37 = .ok (.ireturn, 1) := by decide +kernel
set_option maxRecDepth 20000 in
theorem ggX0_befall_X0_draw : GoodIn wsX0_befall wsX0_draw := goodIn_r _ [11, 12, 13, 59] (by decide +kernel) (by decide +kernel)
set_option maxRecDepth 20000 in
theorem gX0_befall_X0_draw : GoodIn wsX0_befall (wsV RX0 21 RX0 yX0_draw wsX0_draw) := goodIn_app (goodIn_of _ (by decide +kernel)) ggX0_befall_X0_draw
set_option maxRecDepth 20000 in
theorem ggX0_befall_X9_flickByHand : GoodIn wsX0_befall wsX9_flickByHand := goodIn_r _ [18, 19, 20, 21, 17, 22, 23, 24, 25, 26, 27, 28, 29, 30, 31, 32, 33, 34, 35, 36, 37, 38, 39, 40, 41, 42, 43, 48, 49, 50, 51, 52, 53, 54, 55, 56, 57, 58] (by decide +kernel) (by decide +kernel)
set_option maxRecDepth 20000 in
theorem gX0_befall_X9_flickByHand : GoodIn wsX0_befall (wsV RX0 25 RX9 yX9_flickByHand wsX9_flickByHand) := goodIn_app (goodIn_of _ (by decide +kernel)) ggX0_befall_X9_flickByHand
set_option maxRecDepth 20000 in
theorem ggX0_befall_X9_shatter : GoodIn wsX0_befall wsX9_shatter := goodIn_r _ [47, 39, 24, 25, 26, 17, 27, 23, 28, 29, 30, 31, 32, 48, 49, 50, 51, 52, 53, 54, 55, 56, 57, 58] (by decide +kernel) (by decide +kernel)
set_option maxRecDepth 20000 in
theorem gX0_befall_X9_shatter : GoodIn wsX0_befall (wsV RX0 29 RX9 yX9_shatter wsX9_shatter) := goodIn_app (goodIn_of _ (by decide +kernel)) ggX0_befall_X9_shatter
theorem dX0_befall_0 : decode cX0_befall 0 = .ok (.aload_n 1, 1) := by decide +kernel
theorem dX0_befall_1 : decode cX0_befall 1 = .ok (.getfield 16, 3) := by decide +kernel
theorem dX0_befall_4 : decode cX0_befall 4 = .ok (.ifCond .ne 4, 3) := by decide +kernel
theorem dX0_befall_7 : decode cX0_befall 7 = .ok (.return_, 1) := by decide +kernel
theorem dX0_befall_8 : decode cX0_befall 8 = .ok (.aload_n 0, 1) := by decide +kernel
theorem dX0_befall_9 : decode cX0_befall 9 = .ok (.aload_n 1, 1) := by decide +kernel
theorem dX0_befall_10 : decode cX0_befall 10 = .ok (.getfield 16, 3) := by decide +kernel
theorem dX0_befall_13 : decode cX0_befall 13 = .ok (.invokevirtual 21, 3) := by decide +kernel
theorem dX0_befall_16 : decode cX0_befall 16 = .ok (.istore_n 2, 1) := by decide +kernel
theorem dX0_befall_17 : decode cX0_befall 17 = .ok (.aload_n 0, 1) := by decide +kernel
theorem dX0_befall_18 : decode cX0_befall 18 = .ok (.iconst 5, 1) := by decide +kernel
theorem dX0_befall_19 : decode cX0_befall 19 = .ok (.invokevirtual 21, 3) := by decide +kernel
theorem dX0_befall_22 : decode cX0_befall 22 = .ok (.istore_n 3, 1) := by decide +kernel
theorem dX0_befall_23 : decode cX0_befall 23 = .ok (.iload_n 3, 1) := by decide +kernel
theorem dX0_befall_24 : decode cX0_befall 24 = .ok (.ifCond .ne 11, 3) := by decide +kernel
theorem dX0_befall_27 : decode cX0_befall 27 = .ok (.aload_n 1, 1) := by decide +kernel
theorem dX0_befall_28 : decode cX0_befall 28 = .ok (.iload_n 2, 1) := by decide +kernel
theorem dX0_befall_29 : decode cX0_befall 29 = .ok (.invokevirtual 25, 3) := by decide +kernel
theorem dX0_befall_32 : decode cX0_befall 32 = .ok (.goto 50, 3) := by decide +kernel
theorem dX0_befall_35 : decode cX0_befall 35 = .ok (.iload_n 3, 1) := by decide +kernel
theorem dX0_befall_36 : decode cX0_befall 36 = .ok (.iconst 1, 1) := by decide +kernel
theorem dX0_befall_37 : decode cX0_befall 37 = .ok (.if_icmp .ne 20, 3) := by decide +kernel
theorem dX0_befall_40 : decode cX0_befall 40 = .ok (.aload_n 0, 1) := by decide +kernel
theorem dX0_befall_41 : decode cX0_befall 41 = .ok (.bipush 10, 2) := by decide +kernel
theorem dX0_befall_43 : decode cX0_befall 43 = .ok (.invokevirtual 21, 3) := by decide +kernel
theorem dX0_befall_46 : decode cX0_befall 46 = .ok (.ifCond .ne 36, 3) := by decide +kernel
theorem dX0_befall_49 : decode cX0_befall 49 = .ok (.aload_n 1, 1) := by decide +kernel
theorem dX0_befall_50 : decode cX0_befall 50 = .ok (.iload_n 2, 1) := by decide +kernel
theorem dX0_befall_51 : decode cX0_befall 51 = .ok (.invokevirtual 29, 3) := by decide +kernel
theorem dX0_befall_54 : decode cX0_befall 54 = .ok (.goto 28, 3) := by decide +kernel
theorem dX0_befall_57 : decode cX0_befall 57 = .ok (.iload_n 3, 1) := by decide +kernel
theorem dX0_befall_58 : decode cX0_befall 58 = .ok (.iconst 2, 1) := by decide +kernel
theorem dX0_befall_59 : decode cX0_befall 59 = .ok (.if_icmp .ne 23, 3) := by decide +kernel
theorem dX0_befall_62 : decode cX0_befall 62 = .ok (.aload_n 1, 1) := by decide +kernel
theorem dX0_befall_63 : decode cX0_befall 63 = .ok (.getfield 32, 3) := by decide +kernel
theorem dX0_befall_66 : decode cX0_befall 66 = .ok (.iload_n 2, 1) := by decide +kernel
theorem dX0_befall_67 : decode cX0_befall 67 = .ok (.bipush 99, 2) := by decide +kernel
theorem dX0_befall_69 : decode cX0_befall 69 = .ok (.aload_n 1, 1) := by decide +kernel
theorem dX0_befall_70 : decode cX0_befall 70 = .ok (.getfield 32, 3) := by decide +kernel
theorem dX0_befall_73 : decode cX0_befall 73 = .ok (.iload_n 2, 1) := by decide +kernel
theorem dX0_befall_74 : decode cX0_befall 74 = .ok (.iaload, 1) := by decide +kernel
theorem dX0_befall_75 : decode cX0_befall 75 = .ok (.bipush 9, 2) := by decide +kernel
theorem dX0_befall_77 : decode cX0_befall 77 = .ok (.iadd, 1) := by decide +kernel
theorem dX0_befall_78 : decode cX0_befall 78 = .ok (.invokestatic 36, 3) := by decide +kernel
theorem dX0_befall_81 : decode cX0_befall 81 = .ok (.iastore, 1) := by decide +kernel
theorem dX0_befall_82 : decode cX0_befall 82 = .ok (.return_, 1) := by decide +kernel
theorem dX1_init_0 : decode cX1_init 0 = .ok (.aload_n 0, 1) := by decide +kernel
theorem dX1_init_1 : decode cX1_init 1 = .ok (.invokespecial 3, 3) := by decide +kernel
theorem dX1_init_4 : decode cX1_init 4 = .ok (.return_, 1) := by decide +kernel
set_option maxRecDepth 20000 in
theorem ggX1_restingCouples_X1_rests : GoodIn wsX1_restingCouples wsX1_rests := goodIn_r _ [5, 6, 7, 8, 9, 10, 4, 11, 12, 13, 14, 15, 16, 17, 18, 19, 20, 21] (by decide +kernel) (by decide +kernel)
set_option maxRecDepth 20000 in
theorem gX1_restingCouples_X1_rests : GoodIn wsX1_restingCouples (wsV RX1 11 RX1 yX1_rests wsX1_rests) := goodIn_app (goodIn_of _ (by decide +kernel)) ggX1_restingCouples_X1_rests
theorem dX1_restingCouples_0 : decode cX1_restingCouples 0 = .ok (.iconst 0, 1) := by decide +kernel
theorem dX1_restingCouples_1 : decode cX1_restingCouples 1 = .ok (.istore_n 1, 1) := by decide +kernel
theorem dX1_restingCouples_2 : decode cX1_restingCouples 2 = .ok (.iconst 0, 1) := by decide +kernel
theorem dX1_restingCouples_3 : decode cX1_restingCouples 3 = .ok (.istore_n 2, 1) := by decide +kernel
theorem dX1_restingCouples_4 : decode cX1_restingCouples 4 = .ok (.iload_n 2, 1) := by decide +kernel
theorem dX1_restingCouples_5 : decode cX1_restingCouples 5 = .ok (.iconst 2, 1) := by decide +kernel
theorem dX1_restingCouples_6 : decode cX1_restingCouples 6 = .ok (.if_icmp .ge 39, 3) := by decide +kernel
theorem dX1_restingCouples_9 : decode cX1_restingCouples 9 = .ok (.iconst 0, 1) := by decide +kernel
theorem dX1_restingCouples_10 : decode cX1_restingCouples 10 = .ok (.istore_n 3, 1) := by decide +kernel
theorem dX1_restingCouples_11 : decode cX1_restingCouples 11 = .ok (.iload_n 3, 1) := by decide +kernel
theorem dX1_restingCouples_12 : decode cX1_restingCouples 12 = .ok (.iconst 2, 1) := by decide +kernel
theorem dX1_restingCouples_13 : decode cX1_restingCouples 13 = .ok (.if_icmp .ge 26, 3) := by decide +kernel
theorem dX1_restingCouples_16 : decode cX1_restingCouples 16 = .ok (.iload_n 1, 1) := by decide +kernel
theorem dX1_restingCouples_17 : decode cX1_restingCouples 17 = .ok (.aload_n 0, 1) := by decide +kernel
theorem dX1_restingCouples_18 : decode cX1_restingCouples 18 = .ok (.iload_n 2, 1) := by decide +kernel
theorem dX1_restingCouples_19 : decode cX1_restingCouples 19 = .ok (.iload_n 3, 1) := by decide +kernel
theorem dX1_restingCouples_20 : decode cX1_restingCouples 20 = .ok (.invokevirtual 11, 3) := by decide +kernel
theorem dX1_restingCouples_23 : decode cX1_restingCouples 23 = .ok (.ifCond .eq 7, 3) := by decide +kernel
theorem dX1_restingCouples_26 : decode cX1_restingCouples 26 = .ok (.iconst 1, 1) := by decide +kernel
theorem dX1_restingCouples_27 : decode cX1_restingCouples 27 = .ok (.goto 4, 3) := by decide +kernel
theorem dX1_restingCouples_30 : decode cX1_restingCouples 30 = .ok (.iconst 0, 1) := by decide +kernel
theorem dX1_restingCouples_31 : decode cX1_restingCouples 31 = .ok (.iadd, 1) := by decide +kernel
theorem dX1_restingCouples_32 : decode cX1_restingCouples 32 = .ok (.istore_n 1, 1) := by decide +kernel
theorem dX1_restingCouples_33 : decode cX1_restingCouples 33 = .ok (.iinc 3 1, 3) := by decide +kernel
theorem dX1_restingCouples_36 : decode cX1_restingCouples 36 = .ok (.goto (-25), 3) := by decide +kernel
theorem dX1_restingCouples_39 : decode cX1_restingCouples 39 = .ok (.iinc 2 1, 3) := by decide +kernel
theorem dX1_restingCouples_42 : decode cX1_restingCouples 42 = .ok (.goto (-38), 3) := by decide +kernel
theorem dX1_restingCouples_45 : decode cX1_restingCouples 45 = .ok (.iload_n 1, 1) := by decide +kernel
theorem dX1_restingCouples_46 : decode cX1_restingCouples 46 = .ok (.ireturn, 1) := by decide +kernel
set_option maxRecDepth 20000 in
theorem ggX1_firstRestingCouple_X1_rests : GoodIn wsX1_firstRestingCouple wsX1_rests := goodIn_r _ [5, 6, 7, 8, 9, 10, 4, 11, 12, 13, 14, 15, 16, 17, 18, 19, 20, 21] (by decide +kernel) (by decide +kernel)
set_option maxRecDepth 20000 in
theorem gX1_firstRestingCouple_X1_rests : GoodIn wsX1_firstRestingCouple (wsV RX1 11 RX1 yX1_rests wsX1_rests) := goodIn_app (goodIn_of _ (by decide +kernel)) ggX1_firstRestingCouple_X1_rests
theorem dX1_firstRestingCouple_0 : decode cX1_firstRestingCouple 0 = .ok (.iconst 0, 1) := by decide +kernel
theorem dX1_firstRestingCouple_1 : decode cX1_firstRestingCouple 1 = .ok (.istore_n 1, 1) := by decide +kernel
theorem dX1_firstRestingCouple_2 : decode cX1_firstRestingCouple 2 = .ok (.iload_n 1, 1) := by decide +kernel
theorem dX1_firstRestingCouple_3 : decode cX1_firstRestingCouple 3 = .ok (.iconst 2, 1) := by decide +kernel
theorem dX1_firstRestingCouple_4 : decode cX1_firstRestingCouple 4 = .ok (.if_icmp .ge 38, 3) := by decide +kernel
theorem dX1_firstRestingCouple_7 : decode cX1_firstRestingCouple 7 = .ok (.iconst 0, 1) := by decide +kernel
theorem dX1_firstRestingCouple_8 : decode cX1_firstRestingCouple 8 = .ok (.istore_n 2, 1) := by decide +kernel
theorem dX1_firstRestingCouple_9 : decode cX1_firstRestingCouple 9 = .ok (.iload_n 2, 1) := by decide +kernel
theorem dX1_firstRestingCouple_10 : decode cX1_firstRestingCouple 10 = .ok (.iconst 2, 1) := by decide +kernel
theorem dX1_firstRestingCouple_11 : decode cX1_firstRestingCouple 11 = .ok (.if_icmp .ge 25, 3) := by decide +kernel
theorem dX1_firstRestingCouple_14 : decode cX1_firstRestingCouple 14 = .ok (.aload_n 0, 1) := by decide +kernel
theorem dX1_firstRestingCouple_15 : decode cX1_firstRestingCouple 15 = .ok (.iload_n 1, 1) := by decide +kernel
theorem dX1_firstRestingCouple_16 : decode cX1_firstRestingCouple 16 = .ok (.iload_n 2, 1) := by decide +kernel
theorem dX1_firstRestingCouple_17 : decode cX1_firstRestingCouple 17 = .ok (.invokevirtual 11, 3) := by decide +kernel
theorem dX1_firstRestingCouple_20 : decode cX1_firstRestingCouple 20 = .ok (.ifCond .eq 10, 3) := by decide +kernel
theorem dX1_firstRestingCouple_23 : decode cX1_firstRestingCouple 23 = .ok (.bipush 10, 2) := by decide +kernel
theorem dX1_firstRestingCouple_25 : decode cX1_firstRestingCouple 25 = .ok (.iload_n 1, 1) := by decide +kernel
theorem dX1_firstRestingCouple_26 : decode cX1_firstRestingCouple 26 = .ok (.imul, 1) := by decide +kernel
theorem dX1_firstRestingCouple_27 : decode cX1_firstRestingCouple 27 = .ok (.iload_n 2, 1) := by decide +kernel
theorem dX1_firstRestingCouple_28 : decode cX1_firstRestingCouple 28 = .ok (.iadd, 1) := by decide +kernel
theorem dX1_firstRestingCouple_29 : decode cX1_firstRestingCouple 29 = .ok (.ireturn, 1) := by decide +kernel
theorem dX1_firstRestingCouple_30 : decode cX1_firstRestingCouple 30 = .ok (.iinc 2 1, 3) := by decide +kernel
theorem dX1_firstRestingCouple_33 : decode cX1_firstRestingCouple 33 = .ok (.goto (-24), 3) := by decide +kernel
theorem dX1_firstRestingCouple_36 : decode cX1_firstRestingCouple 36 = .ok (.iinc 1 1, 3) := by decide +kernel
theorem dX1_firstRestingCouple_39 : decode cX1_firstRestingCouple 39 = .ok (.goto (-37), 3) := by decide +kernel
theorem dX1_firstRestingCouple_42 : decode cX1_firstRestingCouple 42 = .ok (.iconst (-1), 1) := by decide +kernel
theorem dX1_firstRestingCouple_43 : decode cX1_firstRestingCouple 43 = .ok (.ireturn, 1) := by decide +kernel
set_option maxRecDepth 20000 in
theorem ggX1_rests_X1_play : GoodIn wsX1_rests wsX1_play := goodIn_r _ [7, 8, 9, 10, 1, 11, 2, 12, 13, 14, 15, 16, 17] (by decide +kernel) (by decide +kernel)
set_option maxRecDepth 20000 in
theorem gX1_rests_X1_play : GoodIn wsX1_rests (wsV RX1 15 RX1 yX1_play wsX1_play) := goodIn_app (goodIn_of _ (by decide +kernel)) ggX1_rests_X1_play
theorem dX1_rests_0 : decode cX1_rests 0 = .ok (.aload_n 0, 1) := by decide +kernel
theorem dX1_rests_1 : decode cX1_rests 1 = .ok (.iload_n 1, 1) := by decide +kernel
theorem dX1_rests_2 : decode cX1_rests 2 = .ok (.iconst 1, 1) := by decide +kernel
theorem dX1_rests_3 : decode cX1_rests 3 = .ok (.if_icmp .ne 7, 3) := by decide +kernel
theorem dX1_rests_6 : decode cX1_rests 6 = .ok (.iconst 1, 1) := by decide +kernel
theorem dX1_rests_7 : decode cX1_rests 7 = .ok (.goto 4, 3) := by decide +kernel
theorem dX1_rests_10 : decode cX1_rests 10 = .ok (.iconst 0, 1) := by decide +kernel
theorem dX1_rests_11 : decode cX1_rests 11 = .ok (.iload_n 2, 1) := by decide +kernel
theorem dX1_rests_12 : decode cX1_rests 12 = .ok (.iconst 1, 1) := by decide +kernel
theorem dX1_rests_13 : decode cX1_rests 13 = .ok (.if_icmp .ne 7, 3) := by decide +kernel
theorem dX1_rests_16 : decode cX1_rests 16 = .ok (.iconst 1, 1) := by decide +kernel
theorem dX1_rests_17 : decode cX1_rests 17 = .ok (.goto 4, 3) := by decide +kernel
theorem dX1_rests_20 : decode cX1_rests 20 = .ok (.iconst 0, 1) := by decide +kernel
theorem dX1_rests_21 : decode cX1_rests 21 = .ok (.invokevirtual 15, 3) := by decide +kernel
theorem dX1_rests_24 : decode cX1_rests 24 = .ok (.aload_n 0, 1) := by decide +kernel
theorem dX1_rests_25 : decode cX1_rests 25 = .ok (.getfield 19, 3) := by decide +kernel
theorem dX1_rests_28 : decode cX1_rests 28 = .ok (.istore_n 3, 1) := by decide +kernel
theorem dX1_rests_29 : decode cX1_rests 29 = .ok (.aload_n 0, 1) := by decide +kernel
theorem dX1_rests_30 : decode cX1_rests 30 = .ok (.getfield 23, 3) := by decide +kernel
theorem dX1_rests_33 : decode cX1_rests 33 = .ok (.istore 4, 2) := by decide +kernel
theorem dX1_rests_35 : decode cX1_rests 35 = .ok (.aload_n 0, 1) := by decide +kernel
theorem dX1_rests_36 : decode cX1_rests 36 = .ok (.iload_n 1, 1) := by decide +kernel
theorem dX1_rests_37 : decode cX1_rests 37 = .ok (.ifCond .ne 7, 3) := by decide +kernel
theorem dX1_rests_40 : decode cX1_rests 40 = .ok (.iconst 1, 1) := by decide +kernel
theorem dX1_rests_41 : decode cX1_rests 41 = .ok (.goto 4, 3) := by decide +kernel
theorem dX1_rests_44 : decode cX1_rests 44 = .ok (.iconst 0, 1) := by decide +kernel
theorem dX1_rests_45 : decode cX1_rests 45 = .ok (.iload_n 2, 1) := by decide +kernel
theorem dX1_rests_46 : decode cX1_rests 46 = .ok (.iconst 1, 1) := by decide +kernel
theorem dX1_rests_47 : decode cX1_rests 47 = .ok (.if_icmp .ne 7, 3) := by decide +kernel
theorem dX1_rests_50 : decode cX1_rests 50 = .ok (.iconst 1, 1) := by decide +kernel
theorem dX1_rests_51 : decode cX1_rests 51 = .ok (.goto 4, 3) := by decide +kernel
theorem dX1_rests_54 : decode cX1_rests 54 = .ok (.iconst 0, 1) := by decide +kernel
theorem dX1_rests_55 : decode cX1_rests 55 = .ok (.invokevirtual 15, 3) := by decide +kernel
theorem dX1_rests_58 : decode cX1_rests 58 = .ok (.aload_n 0, 1) := by decide +kernel
theorem dX1_rests_59 : decode cX1_rests 59 = .ok (.getfield 19, 3) := by decide +kernel
theorem dX1_rests_62 : decode cX1_rests 62 = .ok (.istore 5, 2) := by decide +kernel
theorem dX1_rests_64 : decode cX1_rests 64 = .ok (.aload_n 0, 1) := by decide +kernel
theorem dX1_rests_65 : decode cX1_rests 65 = .ok (.iload_n 1, 1) := by decide +kernel
theorem dX1_rests_66 : decode cX1_rests 66 = .ok (.iconst 1, 1) := by decide +kernel
theorem dX1_rests_67 : decode cX1_rests 67 = .ok (.if_icmp .ne 7, 3) := by decide +kernel
theorem dX1_rests_70 : decode cX1_rests 70 = .ok (.iconst 1, 1) := by decide +kernel
theorem dX1_rests_71 : decode cX1_rests 71 = .ok (.goto 4, 3) := by decide +kernel
theorem dX1_rests_74 : decode cX1_rests 74 = .ok (.iconst 0, 1) := by decide +kernel
theorem dX1_rests_75 : decode cX1_rests 75 = .ok (.iload_n 2, 1) := by decide +kernel
theorem dX1_rests_76 : decode cX1_rests 76 = .ok (.ifCond .ne 7, 3) := by decide +kernel
theorem dX1_rests_79 : decode cX1_rests 79 = .ok (.iconst 1, 1) := by decide +kernel
theorem dX1_rests_80 : decode cX1_rests 80 = .ok (.goto 4, 3) := by decide +kernel
theorem dX1_rests_83 : decode cX1_rests 83 = .ok (.iconst 0, 1) := by decide +kernel
theorem dX1_rests_84 : decode cX1_rests 84 = .ok (.invokevirtual 15, 3) := by decide +kernel
theorem dX1_rests_87 : decode cX1_rests 87 = .ok (.aload_n 0, 1) := by decide +kernel
theorem dX1_rests_88 : decode cX1_rests 88 = .ok (.getfield 23, 3) := by decide +kernel
theorem dX1_rests_91 : decode cX1_rests 91 = .ok (.istore 6, 2) := by decide +kernel
theorem dX1_rests_93 : decode cX1_rests 93 = .ok (.iload 5, 2) := by decide +kernel
theorem dX1_rests_95 : decode cX1_rests 95 = .ok (.iload_n 3, 1) := by decide +kernel
theorem dX1_rests_96 : decode cX1_rests 96 = .ok (.if_icmp .gt 14, 3) := by decide +kernel
theorem dX1_rests_99 : decode cX1_rests 99 = .ok (.iload 6, 2) := by decide +kernel
theorem dX1_rests_101 : decode cX1_rests 101 = .ok (.iload 4, 2) := by decide +kernel
theorem dX1_rests_103 : decode cX1_rests 103 = .ok (.if_icmp .gt 7, 3) := by decide +kernel
theorem dX1_rests_106 : decode cX1_rests 106 = .ok (.iconst 1, 1) := by decide +kernel
theorem dX1_rests_107 : decode cX1_rests 107 = .ok (.goto 4, 3) := by decide +kernel
theorem dX1_rests_110 : decode cX1_rests 110 = .ok (.iconst 0, 1) := by decide +kernel
theorem dX1_rests_111 : decode cX1_rests 111 = .ok (.ireturn, 1) := by decide +kernel
theorem dX1_play_0 : decode cX1_play 0 = .ok (.aload_n 0, 1) := by decide +kernel
theorem dX1_play_1 : decode cX1_play 1 = .ok (.getfield 26, 3) := by decide +kernel
theorem dX1_play_4 : decode cX1_play 4 = .ok (.ifCond .eq 7, 3) := by decide +kernel
theorem dX1_play_7 : decode cX1_play 7 = .ok (.iload_n 1, 1) := by decide +kernel
theorem dX1_play_8 : decode cX1_play 8 = .ok (.goto 4, 3) := by decide +kernel
theorem dX1_play_11 : decode cX1_play 11 = .ok (.iload_n 2, 1) := by decide +kernel
theorem dX1_play_12 : decode cX1_play 12 = .ok (.istore_n 3, 1) := by decide +kernel
theorem dX1_play_13 : decode cX1_play 13 = .ok (.aload_n 0, 1) := by decide +kernel
theorem dX1_play_14 : decode cX1_play 14 = .ok (.getfield 26, 3) := by decide +kernel
theorem dX1_play_17 : decode cX1_play 17 = .ok (.ifCond .eq 7, 3) := by decide +kernel
theorem dX1_play_20 : decode cX1_play 20 = .ok (.iload_n 2, 1) := by decide +kernel
theorem dX1_play_21 : decode cX1_play 21 = .ok (.goto 4, 3) := by decide +kernel
theorem dX1_play_24 : decode cX1_play 24 = .ok (.iload_n 1, 1) := by decide +kernel
theorem dX1_play_25 : decode cX1_play 25 = .ok (.istore 4, 2) := by decide +kernel
theorem dX1_play_27 : decode cX1_play 27 = .ok (.aload_n 0, 1) := by decide +kernel
theorem dX1_play_28 : decode cX1_play 28 = .ok (.getfield 30, 3) := by decide +kernel
theorem dX1_play_31 : decode cX1_play 31 = .ok (.iload_n 3, 1) := by decide +kernel
theorem dX1_play_32 : decode cX1_play 32 = .ok (.if_icmp .eq 7, 3) := by decide +kernel
theorem dX1_play_35 : decode cX1_play 35 = .ok (.iconst 1, 1) := by decide +kernel
theorem dX1_play_36 : decode cX1_play 36 = .ok (.goto 4, 3) := by decide +kernel
theorem dX1_play_39 : decode cX1_play 39 = .ok (.iconst 0, 1) := by decide +kernel
theorem dX1_play_40 : decode cX1_play 40 = .ok (.istore 5, 2) := by decide +kernel
theorem dX1_play_42 : decode cX1_play 42 = .ok (.iload_n 3, 1) := by decide +kernel
theorem dX1_play_43 : decode cX1_play 43 = .ok (.iload 4, 2) := by decide +kernel
theorem dX1_play_45 : decode cX1_play 45 = .ok (.if_icmp .eq 7, 3) := by decide +kernel
theorem dX1_play_48 : decode cX1_play 48 = .ok (.iconst 1, 1) := by decide +kernel
theorem dX1_play_49 : decode cX1_play 49 = .ok (.goto 4, 3) := by decide +kernel
theorem dX1_play_52 : decode cX1_play 52 = .ok (.iconst 0, 1) := by decide +kernel
theorem dX1_play_53 : decode cX1_play 53 = .ok (.istore 6, 2) := by decide +kernel
theorem dX1_play_55 : decode cX1_play 55 = .ok (.aload_n 0, 1) := by decide +kernel
theorem dX1_play_56 : decode cX1_play 56 = .ok (.iload 4, 2) := by decide +kernel
theorem dX1_play_58 : decode cX1_play 58 = .ok (.aload_n 0, 1) := by decide +kernel
theorem dX1_play_59 : decode cX1_play 59 = .ok (.getfield 33, 3) := by decide +kernel
theorem dX1_play_62 : decode cX1_play 62 = .ok (.if_icmp .ne 7, 3) := by decide +kernel
theorem dX1_play_65 : decode cX1_play 65 = .ok (.iconst 3, 1) := by decide +kernel
theorem dX1_play_66 : decode cX1_play 66 = .ok (.goto 4, 3) := by decide +kernel
theorem dX1_play_69 : decode cX1_play 69 = .ok (.iconst 0, 1) := by decide +kernel
theorem dX1_play_70 : decode cX1_play 70 = .ok (.aload_n 0, 1) := by decide +kernel
theorem dX1_play_71 : decode cX1_play 71 = .ok (.getfield 26, 3) := by decide +kernel
theorem dX1_play_74 : decode cX1_play 74 = .ok (.ifCond .eq 8, 3) := by decide +kernel
theorem dX1_play_77 : decode cX1_play 77 = .ok (.iload 5, 2) := by decide +kernel
theorem dX1_play_79 : decode cX1_play 79 = .ok (.goto 5, 3) := by decide +kernel
theorem dX1_play_82 : decode cX1_play 82 = .ok (.iload 6, 2) := by decide +kernel
theorem dX1_play_84 : decode cX1_play 84 = .ok (.isub, 1) := by decide +kernel
theorem dX1_play_85 : decode cX1_play 85 = .ok (.putfield 19, 3) := by decide +kernel
theorem dX1_play_88 : decode cX1_play 88 = .ok (.aload_n 0, 1) := by decide +kernel
theorem dX1_play_89 : decode cX1_play 89 = .ok (.iload 4, 2) := by decide +kernel
theorem dX1_play_91 : decode cX1_play 91 = .ok (.aload_n 0, 1) := by decide +kernel
theorem dX1_play_92 : decode cX1_play 92 = .ok (.getfield 36, 3) := by decide +kernel
theorem dX1_play_95 : decode cX1_play 95 = .ok (.if_icmp .ne 7, 3) := by decide +kernel
theorem dX1_play_98 : decode cX1_play 98 = .ok (.iconst 3, 1) := by decide +kernel
theorem dX1_play_99 : decode cX1_play 99 = .ok (.goto 4, 3) := by decide +kernel
theorem dX1_play_102 : decode cX1_play 102 = .ok (.iconst 0, 1) := by decide +kernel
theorem dX1_play_103 : decode cX1_play 103 = .ok (.aload_n 0, 1) := by decide +kernel
theorem dX1_play_104 : decode cX1_play 104 = .ok (.getfield 26, 3) := by decide +kernel
theorem dX1_play_107 : decode cX1_play 107 = .ok (.ifCond .eq 8, 3) := by decide +kernel
theorem dX1_play_110 : decode cX1_play 110 = .ok (.iload 6, 2) := by decide +kernel
theorem dX1_play_112 : decode cX1_play 112 = .ok (.goto 5, 3) := by decide +kernel
theorem dX1_play_115 : decode cX1_play 115 = .ok (.iload 5, 2) := by decide +kernel
theorem dX1_play_117 : decode cX1_play 117 = .ok (.isub, 1) := by decide +kernel
theorem dX1_play_118 : decode cX1_play 118 = .ok (.putfield 23, 3) := by decide +kernel
theorem dX1_play_121 : decode cX1_play 121 = .ok (.return_, 1) := by decide +kernel
theorem dX2_init_0 : decode cX2_init 0 = .ok (.aload_n 0, 1) := by decide +kernel
theorem dX2_init_1 : decode cX2_init 1 = .ok (.invokespecial 3, 3) := by decide +kernel
theorem dX2_init_4 : decode cX2_init 4 = .ok (.return_, 1) := by decide +kernel
set_option maxRecDepth 20000 in
theorem ggX2_passHour_X9_awakeLamps : GoodIn wsX2_passHour wsX9_awakeLamps := goodIn_r _ [12, 13, 14, 15, 16, 17, 18, 11, 19, 20, 21, 104, 105, 106, 107, 108, 109, 110, 111, 112, 113, 114] (by decide +kernel) (by decide +kernel)
set_option maxRecDepth 20000 in
theorem gX2_passHour_X9_awakeLamps : GoodIn wsX2_passHour (wsV RX2 9 RX9 yX9_awakeLamps wsX9_awakeLamps) := goodIn_app (goodIn_of _ (by decide +kernel)) ggX2_passHour_X9_awakeLamps
set_option maxRecDepth 20000 in
theorem ggX2_passHour_X7_wantsLit : GoodIn wsX2_passHour wsX7_wantsLit := goodIn_r _ [26, 27, 28, 29, 30, 31, 32, 33, 25, 34, 35, 36, 17, 18, 11, 19, 20, 21, 37, 38, 39, 40, 41, 42, 43, 13, 14, 44, 45, 46, 47, 48, 49, 50, 51, 52, 53, 54, 55, 56, 57, 58, 59, 60, 61, 62, 63, 104, 105, 106, 107, 108, 109, 110, 111, 112, 113, 114, 115, 116, 117, 118] (by decide +kernel) (by decide +kernel)
set_option maxRecDepth 20000 in
theorem gX2_passHour_X7_wantsLit : GoodIn wsX2_passHour (wsV RX2 30 RX7 yX7_wantsLit wsX7_wantsLit) := goodIn_app (goodIn_of _ (by decide +kernel)) ggX2_passHour_X7_wantsLit
set_option maxRecDepth 20000 in
theorem ggX2_passHour_X2_flickAll : GoodIn wsX2_passHour wsX2_flickAll := goodIn_r _ [68, 69, 3, 2, 1, 70, 71, 72, 11, 73, 74, 75, 76, 77, 78, 79, 13, 80, 81, 82, 83, 84, 85, 86, 87, 88, 89, 90, 91, 92, 93, 94, 99, 100, 101, 102, 103, 104, 105, 106, 107, 108, 109, 110, 111, 112, 113, 114] (by decide +kernel) (by decide +kernel)
set_option maxRecDepth 20000 in
theorem gX2_passHour_X2_flickAll : GoodIn wsX2_passHour (wsV RX2 36 RX2 yX2_flickAll wsX2_flickAll) := goodIn_app (goodIn_of _ (by decide +kernel)) ggX2_passHour_X2_flickAll
set_option maxRecDepth 20000 in
theorem ggX2_passHour_X2_burn : GoodIn wsX2_passHour wsX2_burn := goodIn_r _ [97, 3, 98, 5, 70, 71, 72, 11, 73, 74, 94, 83, 84, 85, 79, 104, 105, 106, 107, 108, 109, 110, 111, 112, 113, 114] (by decide +kernel) (by decide +kernel)
set_option maxRecDepth 20000 in
theorem gX2_passHour_X2_burn : GoodIn wsX2_passHour (va_wsS RX2 49 yX2_burn wsX2_burn) := goodIn_app (goodIn_of _ (by decide +kernel)) ggX2_passHour_X2_burn
theorem dX2_passHour_0 : decode cX2_passHour 0 = .ok (.aload_n 0, 1) := by decide +kernel
theorem dX2_passHour_1 : decode cX2_passHour 1 = .ok (.aload_n 2, 1) := by decide +kernel
theorem dX2_passHour_2 : decode cX2_passHour 2 = .ok (.invokevirtual 9, 3) := by decide +kernel
theorem dX2_passHour_5 : decode cX2_passHour 5 = .ok (.putfield 15, 3) := by decide +kernel
theorem dX2_passHour_8 : decode cX2_passHour 8 = .ok (.aload_n 0, 1) := by decide +kernel
theorem dX2_passHour_9 : decode cX2_passHour 9 = .ok (.iconst 0, 1) := by decide +kernel
theorem dX2_passHour_10 : decode cX2_passHour 10 = .ok (.putfield 21, 3) := by decide +kernel
theorem dX2_passHour_13 : decode cX2_passHour 13 = .ok (.iconst 0, 1) := by decide +kernel
theorem dX2_passHour_14 : decode cX2_passHour 14 = .ok (.istore_n 3, 1) := by decide +kernel
theorem dX2_passHour_15 : decode cX2_passHour 15 = .ok (.iload_n 3, 1) := by decide +kernel
theorem dX2_passHour_16 : decode cX2_passHour 16 = .ok (.aload_n 2, 1) := by decide +kernel
theorem dX2_passHour_17 : decode cX2_passHour 17 = .ok (.getfield 24, 3) := by decide +kernel
theorem dX2_passHour_20 : decode cX2_passHour 20 = .ok (.if_icmp .ge 49, 3) := by decide +kernel
theorem dX2_passHour_23 : decode cX2_passHour 23 = .ok (.aload_n 0, 1) := by decide +kernel
theorem dX2_passHour_24 : decode cX2_passHour 24 = .ok (.getfield 15, 3) := by decide +kernel
theorem dX2_passHour_27 : decode cX2_passHour 27 = .ok (.iload_n 3, 1) := by decide +kernel
theorem dX2_passHour_28 : decode cX2_passHour 28 = .ok (.ishr, 1) := by decide +kernel
theorem dX2_passHour_29 : decode cX2_passHour 29 = .ok (.iconst 1, 1) := by decide +kernel
theorem dX2_passHour_30 : decode cX2_passHour 30 = .ok (.iand, 1) := by decide +kernel
theorem dX2_passHour_31 : decode cX2_passHour 31 = .ok (.iconst 1, 1) := by decide +kernel
theorem dX2_passHour_32 : decode cX2_passHour 32 = .ok (.if_icmp .ne 31, 3) := by decide +kernel
theorem dX2_passHour_35 : decode cX2_passHour 35 = .ok (.aload_n 1, 1) := by decide +kernel
theorem dX2_passHour_36 : decode cX2_passHour 36 = .ok (.aload_n 2, 1) := by decide +kernel
theorem dX2_passHour_37 : decode cX2_passHour 37 = .ok (.iload_n 3, 1) := by decide +kernel
theorem dX2_passHour_38 : decode cX2_passHour 38 = .ok (.aload_n 2, 1) := by decide +kernel
theorem dX2_passHour_39 : decode cX2_passHour 39 = .ok (.getfield 27, 3) := by decide +kernel
theorem dX2_passHour_42 : decode cX2_passHour 42 = .ok (.bipush 24, 2) := by decide +kernel
theorem dX2_passHour_44 : decode cX2_passHour 44 = .ok (.irem, 1) := by decide +kernel
theorem dX2_passHour_45 : decode cX2_passHour 45 = .ok (.invokevirtual 30, 3) := by decide +kernel
theorem dX2_passHour_48 : decode cX2_passHour 48 = .ok (.ifCond .eq 15, 3) := by decide +kernel
theorem dX2_passHour_51 : decode cX2_passHour 51 = .ok (.aload_n 0, 1) := by decide +kernel
theorem dX2_passHour_52 : decode cX2_passHour 52 = .ok (.dup, 1) := by decide +kernel
theorem dX2_passHour_53 : decode cX2_passHour 53 = .ok (.getfield 21, 3) := by decide +kernel
theorem dX2_passHour_56 : decode cX2_passHour 56 = .ok (.iconst 1, 1) := by decide +kernel
theorem dX2_passHour_57 : decode cX2_passHour 57 = .ok (.iload_n 3, 1) := by decide +kernel
theorem dX2_passHour_58 : decode cX2_passHour 58 = .ok (.ishl, 1) := by decide +kernel
theorem dX2_passHour_59 : decode cX2_passHour 59 = .ok (.ior, 1) := by decide +kernel
theorem dX2_passHour_60 : decode cX2_passHour 60 = .ok (.putfield 21, 3) := by decide +kernel
theorem dX2_passHour_63 : decode cX2_passHour 63 = .ok (.iinc 3 1, 3) := by decide +kernel
theorem dX2_passHour_66 : decode cX2_passHour 66 = .ok (.goto (-51), 3) := by decide +kernel
theorem dX2_passHour_69 : decode cX2_passHour 69 = .ok (.aload_n 0, 1) := by decide +kernel
theorem dX2_passHour_70 : decode cX2_passHour 70 = .ok (.aload_n 2, 1) := by decide +kernel
theorem dX2_passHour_71 : decode cX2_passHour 71 = .ok (.invokevirtual 36, 3) := by decide +kernel
theorem dX2_passHour_74 : decode cX2_passHour 74 = .ok (.aload_n 0, 1) := by decide +kernel
theorem dX2_passHour_75 : decode cX2_passHour 75 = .ok (.aload_n 2, 1) := by decide +kernel
theorem dX2_passHour_76 : decode cX2_passHour 76 = .ok (.getfield 40, 3) := by decide +kernel
theorem dX2_passHour_79 : decode cX2_passHour 79 = .ok (.putfield 43, 3) := by decide +kernel
theorem dX2_passHour_82 : decode cX2_passHour 82 = .ok (.aload_n 0, 1) := by decide +kernel
theorem dX2_passHour_83 : decode cX2_passHour 83 = .ok (.aload_n 0, 1) := by decide +kernel
theorem dX2_passHour_84 : decode cX2_passHour 84 = .ok (.getfield 15, 3) := by decide +kernel
theorem dX2_passHour_87 : decode cX2_passHour 87 = .ok (.aload_n 0, 1) := by decide +kernel
theorem dX2_passHour_88 : decode cX2_passHour 88 = .ok (.getfield 21, 3) := by decide +kernel
theorem dX2_passHour_91 : decode cX2_passHour 91 = .ok (.aload_n 0, 1) := by decide +kernel
theorem dX2_passHour_92 : decode cX2_passHour 92 = .ok (.getfield 43, 3) := by decide +kernel
theorem dX2_passHour_95 : decode cX2_passHour 95 = .ok (.ixor, 1) := by decide +kernel
theorem dX2_passHour_96 : decode cX2_passHour 96 = .ok (.iand, 1) := by decide +kernel
theorem dX2_passHour_97 : decode cX2_passHour 97 = .ok (.putfield 46, 3) := by decide +kernel
theorem dX2_passHour_100 : decode cX2_passHour 100 = .ok (.aload_n 2, 1) := by decide +kernel
theorem dX2_passHour_101 : decode cX2_passHour 101 = .ok (.invokestatic 49, 3) := by decide +kernel
theorem dX2_passHour_104 : decode cX2_passHour 104 = .ok (.aload_n 2, 1) := by decide +kernel
theorem dX2_passHour_105 : decode cX2_passHour 105 = .ok (.dup, 1) := by decide +kernel
theorem dX2_passHour_106 : decode cX2_passHour 106 = .ok (.getfield 27, 3) := by decide +kernel
theorem dX2_passHour_109 : decode cX2_passHour 109 = .ok (.iconst 1, 1) := by decide +kernel
theorem dX2_passHour_110 : decode cX2_passHour 110 = .ok (.iadd, 1) := by decide +kernel
theorem dX2_passHour_111 : decode cX2_passHour 111 = .ok (.putfield 27, 3) := by decide +kernel
theorem dX2_passHour_114 : decode cX2_passHour 114 = .ok (.return_, 1) := by decide +kernel
set_option maxRecDepth 20000 in
theorem ggX2_flickAll_X9_isLit : GoodIn wsX2_flickAll wsX9_isLit := goodIn_r _ [9, 10, 37, 38, 39, 40, 41, 42, 43, 44, 45, 46, 47] (by decide +kernel) (by decide +kernel)
set_option maxRecDepth 20000 in
theorem gX2_flickAll_X9_isLit : GoodIn wsX2_flickAll (wsV RX2 55 RX9 yX9_isLit wsX9_isLit) := goodIn_app (goodIn_of _ (by decide +kernel)) ggX2_flickAll_X9_isLit
set_option maxRecDepth 20000 in
theorem ggX2_flickAll_X9_canBeLit : GoodIn wsX2_flickAll wsX9_canBeLit := goodIn_r _ [14, 15, 16, 17, 18, 19, 20, 21, 8, 22, 37, 38, 39, 40, 41, 42, 43, 44, 45, 46, 47] (by decide +kernel) (by decide +kernel)
set_option maxRecDepth 20000 in
theorem gX2_flickAll_X9_canBeLit : GoodIn wsX2_flickAll (wsV RX2 59 RX9 yX9_canBeLit wsX9_canBeLit) := goodIn_app (goodIn_of _ (by decide +kernel)) ggX2_flickAll_X9_canBeLit
set_option maxRecDepth 20000 in
theorem ggX2_flickAll_X9_light : GoodIn wsX2_flickAll wsX9_light := goodIn_r _ [26, 10, 19, 20, 21, 8, 22, 15, 37, 38, 39, 40, 41, 42, 43, 44, 45, 46, 47] (by decide +kernel) (by decide +kernel)
set_option maxRecDepth 20000 in
theorem gX2_flickAll_X9_light : GoodIn wsX2_flickAll (wsV RX2 62 RX9 yX9_light wsX9_light) := goodIn_app (goodIn_of _ (by decide +kernel)) ggX2_flickAll_X9_light
set_option maxRecDepth 20000 in
theorem ggX2_flickAll_X9_putOut : GoodIn wsX2_flickAll wsX9_putOut := goodIn_r _ [30, 10, 19, 20, 21, 8, 22, 15, 37, 38, 39, 40, 41, 42, 43, 44, 45, 46, 47] (by decide +kernel) (by decide +kernel)
set_option maxRecDepth 20000 in
theorem gX2_flickAll_X9_putOut : GoodIn wsX2_flickAll (wsV RX2 66 RX9 yX9_putOut wsX9_putOut) := goodIn_app (goodIn_of _ (by decide +kernel)) ggX2_flickAll_X9_putOut
set_option maxRecDepth 20000 in
theorem ggX2_flickAll_X9_couple : GoodIn wsX2_flickAll wsX9_couple := goodIn_r _ [22, 15, 37, 38, 39, 40, 41, 42, 43, 44, 45, 46, 47] (by decide +kernel) (by decide +kernel)
set_option maxRecDepth 20000 in
theorem gX2_flickAll_X9_couple : GoodIn wsX2_flickAll (wsV RX2 69 RX9 yX9_couple wsX9_couple) := goodIn_app (goodIn_of _ (by decide +kernel)) ggX2_flickAll_X9_couple
theorem dX2_flickAll_0 : decode cX2_flickAll 0 = .ok (.aload_n 0, 1) := by decide +kernel
theorem dX2_flickAll_1 : decode cX2_flickAll 1 = .ok (.iconst 0, 1) := by decide +kernel
theorem dX2_flickAll_2 : decode cX2_flickAll 2 = .ok (.putfield 52, 3) := by decide +kernel
theorem dX2_flickAll_5 : decode cX2_flickAll 5 = .ok (.iconst 0, 1) := by decide +kernel
theorem dX2_flickAll_6 : decode cX2_flickAll 6 = .ok (.istore_n 2, 1) := by decide +kernel
theorem dX2_flickAll_7 : decode cX2_flickAll 7 = .ok (.iconst 0, 1) := by decide +kernel
theorem dX2_flickAll_8 : decode cX2_flickAll 8 = .ok (.istore_n 3, 1) := by decide +kernel
theorem dX2_flickAll_9 : decode cX2_flickAll 9 = .ok (.iload_n 3, 1) := by decide +kernel
theorem dX2_flickAll_10 : decode cX2_flickAll 10 = .ok (.aload_n 1, 1) := by decide +kernel
theorem dX2_flickAll_11 : decode cX2_flickAll 11 = .ok (.getfield 24, 3) := by decide +kernel
theorem dX2_flickAll_14 : decode cX2_flickAll 14 = .ok (.if_icmp .ge 115, 3) := by decide +kernel
theorem dX2_flickAll_17 : decode cX2_flickAll 17 = .ok (.aload_n 0, 1) := by decide +kernel
theorem dX2_flickAll_18 : decode cX2_flickAll 18 = .ok (.getfield 21, 3) := by decide +kernel
theorem dX2_flickAll_21 : decode cX2_flickAll 21 = .ok (.iload_n 3, 1) := by decide +kernel
theorem dX2_flickAll_22 : decode cX2_flickAll 22 = .ok (.ishr, 1) := by decide +kernel
theorem dX2_flickAll_23 : decode cX2_flickAll 23 = .ok (.iconst 1, 1) := by decide +kernel
theorem dX2_flickAll_24 : decode cX2_flickAll 24 = .ok (.iand, 1) := by decide +kernel
theorem dX2_flickAll_25 : decode cX2_flickAll 25 = .ok (.iconst 1, 1) := by decide +kernel
theorem dX2_flickAll_26 : decode cX2_flickAll 26 = .ok (.if_icmp .ne 7, 3) := by decide +kernel
theorem dX2_flickAll_29 : decode cX2_flickAll 29 = .ok (.iconst 1, 1) := by decide +kernel
theorem dX2_flickAll_30 : decode cX2_flickAll 30 = .ok (.goto 4, 3) := by decide +kernel
theorem dX2_flickAll_33 : decode cX2_flickAll 33 = .ok (.iconst 0, 1) := by decide +kernel
theorem dX2_flickAll_34 : decode cX2_flickAll 34 = .ok (.istore 4, 2) := by decide +kernel
theorem dX2_flickAll_36 : decode cX2_flickAll 36 = .ok (.aload_n 1, 1) := by decide +kernel
theorem dX2_flickAll_37 : decode cX2_flickAll 37 = .ok (.iload_n 3, 1) := by decide +kernel
theorem dX2_flickAll_38 : decode cX2_flickAll 38 = .ok (.invokevirtual 55, 3) := by decide +kernel
theorem dX2_flickAll_41 : decode cX2_flickAll 41 = .ok (.iload 4, 2) := by decide +kernel
theorem dX2_flickAll_43 : decode cX2_flickAll 43 = .ok (.if_icmp .eq 7, 3) := by decide +kernel
theorem dX2_flickAll_46 : decode cX2_flickAll 46 = .ok (.iconst 1, 1) := by decide +kernel
theorem dX2_flickAll_47 : decode cX2_flickAll 47 = .ok (.goto 4, 3) := by decide +kernel
theorem dX2_flickAll_50 : decode cX2_flickAll 50 = .ok (.iconst 0, 1) := by decide +kernel
theorem dX2_flickAll_51 : decode cX2_flickAll 51 = .ok (.istore 5, 2) := by decide +kernel
theorem dX2_flickAll_53 : decode cX2_flickAll 53 = .ok (.aload_n 0, 1) := by decide +kernel
theorem dX2_flickAll_54 : decode cX2_flickAll 54 = .ok (.getfield 15, 3) := by decide +kernel
theorem dX2_flickAll_57 : decode cX2_flickAll 57 = .ok (.iload_n 3, 1) := by decide +kernel
theorem dX2_flickAll_58 : decode cX2_flickAll 58 = .ok (.ishr, 1) := by decide +kernel
theorem dX2_flickAll_59 : decode cX2_flickAll 59 = .ok (.iconst 1, 1) := by decide +kernel
theorem dX2_flickAll_60 : decode cX2_flickAll 60 = .ok (.iand, 1) := by decide +kernel
theorem dX2_flickAll_61 : decode cX2_flickAll 61 = .ok (.iconst 1, 1) := by decide +kernel
theorem dX2_flickAll_62 : decode cX2_flickAll 62 = .ok (.if_icmp .ne 61, 3) := by decide +kernel
theorem dX2_flickAll_65 : decode cX2_flickAll 65 = .ok (.iload 5, 2) := by decide +kernel
theorem dX2_flickAll_67 : decode cX2_flickAll 67 = .ok (.ifCond .eq 56, 3) := by decide +kernel
theorem dX2_flickAll_70 : decode cX2_flickAll 70 = .ok (.iload 4, 2) := by decide +kernel
theorem dX2_flickAll_72 : decode cX2_flickAll 72 = .ok (.ifCond .eq 11, 3) := by decide +kernel
theorem dX2_flickAll_75 : decode cX2_flickAll 75 = .ok (.aload_n 1, 1) := by decide +kernel
theorem dX2_flickAll_76 : decode cX2_flickAll 76 = .ok (.iload_n 3, 1) := by decide +kernel
theorem dX2_flickAll_77 : decode cX2_flickAll 77 = .ok (.invokevirtual 59, 3) := by decide +kernel
theorem dX2_flickAll_80 : decode cX2_flickAll 80 = .ok (.ifCond .eq 43, 3) := by decide +kernel
theorem dX2_flickAll_83 : decode cX2_flickAll 83 = .ok (.iload 4, 2) := by decide +kernel
theorem dX2_flickAll_85 : decode cX2_flickAll 85 = .ok (.ifCond .eq 11, 3) := by decide +kernel
theorem dX2_flickAll_88 : decode cX2_flickAll 88 = .ok (.aload_n 1, 1) := by decide +kernel
theorem dX2_flickAll_89 : decode cX2_flickAll 89 = .ok (.iload_n 3, 1) := by decide +kernel
theorem dX2_flickAll_90 : decode cX2_flickAll 90 = .ok (.invokevirtual 62, 3) := by decide +kernel
theorem dX2_flickAll_93 : decode cX2_flickAll 93 = .ok (.goto 8, 3) := by decide +kernel
theorem dX2_flickAll_96 : decode cX2_flickAll 96 = .ok (.aload_n 1, 1) := by decide +kernel
theorem dX2_flickAll_97 : decode cX2_flickAll 97 = .ok (.iload_n 3, 1) := by decide +kernel
theorem dX2_flickAll_98 : decode cX2_flickAll 98 = .ok (.invokevirtual 66, 3) := by decide +kernel
theorem dX2_flickAll_101 : decode cX2_flickAll 101 = .ok (.aload_n 0, 1) := by decide +kernel
theorem dX2_flickAll_102 : decode cX2_flickAll 102 = .ok (.dup, 1) := by decide +kernel
theorem dX2_flickAll_103 : decode cX2_flickAll 103 = .ok (.getfield 52, 3) := by decide +kernel
theorem dX2_flickAll_106 : decode cX2_flickAll 106 = .ok (.iload_n 2, 1) := by decide +kernel
theorem dX2_flickAll_107 : decode cX2_flickAll 107 = .ok (.iload_n 3, 1) := by decide +kernel
theorem dX2_flickAll_108 : decode cX2_flickAll 108 = .ok (.ishr, 1) := by decide +kernel
theorem dX2_flickAll_109 : decode cX2_flickAll 109 = .ok (.iconst 1, 1) := by decide +kernel
theorem dX2_flickAll_110 : decode cX2_flickAll 110 = .ok (.iand, 1) := by decide +kernel
theorem dX2_flickAll_111 : decode cX2_flickAll 111 = .ok (.iadd, 1) := by decide +kernel
theorem dX2_flickAll_112 : decode cX2_flickAll 112 = .ok (.putfield 52, 3) := by decide +kernel
theorem dX2_flickAll_115 : decode cX2_flickAll 115 = .ok (.iload_n 2, 1) := by decide +kernel
theorem dX2_flickAll_116 : decode cX2_flickAll 116 = .ok (.aload_n 1, 1) := by decide +kernel
theorem dX2_flickAll_117 : decode cX2_flickAll 117 = .ok (.iload_n 3, 1) := by decide +kernel
theorem dX2_flickAll_118 : decode cX2_flickAll 118 = .ok (.invokevirtual 69, 3) := by decide +kernel
theorem dX2_flickAll_121 : decode cX2_flickAll 121 = .ok (.ior, 1) := by decide +kernel
theorem dX2_flickAll_122 : decode cX2_flickAll 122 = .ok (.istore_n 2, 1) := by decide +kernel
theorem dX2_flickAll_123 : decode cX2_flickAll 123 = .ok (.iinc 3 1, 3) := by decide +kernel
theorem dX2_flickAll_126 : decode cX2_flickAll 126 = .ok (.goto (-117), 3) := by decide +kernel
theorem dX2_flickAll_129 : decode cX2_flickAll 129 = .ok (.return_, 1) := by decide +kernel
set_option maxRecDepth 20000 in
theorem ggX2_burn_X9_isLit : GoodIn wsX2_burn wsX9_isLit := goodIn_r _ [8, 9, 15, 16, 17, 18, 19, 20, 21, 22, 23, 24, 25] (by decide +kernel) (by decide +kernel)
set_option maxRecDepth 20000 in
theorem gX2_burn_X9_isLit : GoodIn wsX2_burn (wsV RX2 55 RX9 yX9_isLit wsX9_isLit) := goodIn_app (goodIn_of _ (by decide +kernel)) ggX2_burn_X9_isLit
set_option maxRecDepth 20000 in
theorem ggX2_burn_X9_couple : GoodIn wsX2_burn wsX9_couple := goodIn_r _ [13, 14, 15, 16, 17, 18, 19, 20, 21, 22, 23, 24, 25] (by decide +kernel) (by decide +kernel)
set_option maxRecDepth 20000 in
theorem gX2_burn_X9_couple : GoodIn wsX2_burn (wsV RX2 69 RX9 yX9_couple wsX9_couple) := goodIn_app (goodIn_of _ (by decide +kernel)) ggX2_burn_X9_couple
theorem dX2_burn_0 : decode cX2_burn 0 = .ok (.iconst 0, 1) := by decide +kernel
theorem dX2_burn_1 : decode cX2_burn 1 = .ok (.istore_n 1, 1) := by decide +kernel
theorem dX2_burn_2 : decode cX2_burn 2 = .ok (.iconst 0, 1) := by decide +kernel
theorem dX2_burn_3 : decode cX2_burn 3 = .ok (.istore_n 2, 1) := by decide +kernel
theorem dX2_burn_4 : decode cX2_burn 4 = .ok (.iload_n 2, 1) := by decide +kernel
theorem dX2_burn_5 : decode cX2_burn 5 = .ok (.aload_n 0, 1) := by decide +kernel
theorem dX2_burn_6 : decode cX2_burn 6 = .ok (.getfield 24, 3) := by decide +kernel
theorem dX2_burn_9 : decode cX2_burn 9 = .ok (.if_icmp .ge 44, 3) := by decide +kernel
theorem dX2_burn_12 : decode cX2_burn 12 = .ok (.aload_n 0, 1) := by decide +kernel
theorem dX2_burn_13 : decode cX2_burn 13 = .ok (.iload_n 2, 1) := by decide +kernel
theorem dX2_burn_14 : decode cX2_burn 14 = .ok (.invokevirtual 55, 3) := by decide +kernel
theorem dX2_burn_17 : decode cX2_burn 17 = .ok (.ifCond .eq 30, 3) := by decide +kernel
theorem dX2_burn_20 : decode cX2_burn 20 = .ok (.aload_n 0, 1) := by decide +kernel
theorem dX2_burn_21 : decode cX2_burn 21 = .ok (.getfield 73, 3) := by decide +kernel
theorem dX2_burn_24 : decode cX2_burn 24 = .ok (.iload_n 2, 1) := by decide +kernel
theorem dX2_burn_25 : decode cX2_burn 25 = .ok (.dup2, 1) := by decide +kernel
theorem dX2_burn_26 : decode cX2_burn 26 = .ok (.iaload, 1) := by decide +kernel
theorem dX2_burn_27 : decode cX2_burn 27 = .ok (.iconst 1, 1) := by decide +kernel
theorem dX2_burn_28 : decode cX2_burn 28 = .ok (.isub, 1) := by decide +kernel
theorem dX2_burn_29 : decode cX2_burn 29 = .ok (.iastore, 1) := by decide +kernel
theorem dX2_burn_30 : decode cX2_burn 30 = .ok (.aload_n 0, 1) := by decide +kernel
theorem dX2_burn_31 : decode cX2_burn 31 = .ok (.getfield 73, 3) := by decide +kernel
theorem dX2_burn_34 : decode cX2_burn 34 = .ok (.iload_n 2, 1) := by decide +kernel
theorem dX2_burn_35 : decode cX2_burn 35 = .ok (.iaload, 1) := by decide +kernel
theorem dX2_burn_36 : decode cX2_burn 36 = .ok (.ifCond .gt 11, 3) := by decide +kernel
theorem dX2_burn_39 : decode cX2_burn 39 = .ok (.iload_n 1, 1) := by decide +kernel
theorem dX2_burn_40 : decode cX2_burn 40 = .ok (.aload_n 0, 1) := by decide +kernel
theorem dX2_burn_41 : decode cX2_burn 41 = .ok (.iload_n 2, 1) := by decide +kernel
theorem dX2_burn_42 : decode cX2_burn 42 = .ok (.invokevirtual 69, 3) := by decide +kernel
theorem dX2_burn_45 : decode cX2_burn 45 = .ok (.ior, 1) := by decide +kernel
theorem dX2_burn_46 : decode cX2_burn 46 = .ok (.istore_n 1, 1) := by decide +kernel
theorem dX2_burn_47 : decode cX2_burn 47 = .ok (.iinc 2 1, 3) := by decide +kernel
theorem dX2_burn_50 : decode cX2_burn 50 = .ok (.goto (-46), 3) := by decide +kernel
theorem dX2_burn_53 : decode cX2_burn 53 = .ok (.aload_n 0, 1) := by decide +kernel
theorem dX2_burn_54 : decode cX2_burn 54 = .ok (.dup, 1) := by decide +kernel
theorem dX2_burn_55 : decode cX2_burn 55 = .ok (.getfield 40, 3) := by decide +kernel
theorem dX2_burn_58 : decode cX2_burn 58 = .ok (.iload_n 1, 1) := by decide +kernel
theorem dX2_burn_59 : decode cX2_burn 59 = .ok (.iconst (-1), 1) := by decide +kernel
theorem dX2_burn_60 : decode cX2_burn 60 = .ok (.ixor, 1) := by decide +kernel
theorem dX2_burn_61 : decode cX2_burn 61 = .ok (.iand, 1) := by decide +kernel
theorem dX2_burn_62 : decode cX2_burn 62 = .ok (.putfield 40, 3) := by decide +kernel
theorem dX2_burn_65 : decode cX2_burn 65 = .ok (.return_, 1) := by decide +kernel
set_option maxRecDepth 20000 in
theorem ggX3_init_X9_init : GoodIn wsX3_init wsX9_init := goodIn_r _ [9, 10, 2, 3, 11, 12, 13, 14, 15, 16, 17, 20, 21, 22, 23, 24, 25, 26, 27, 28, 29, 30] (by decide +kernel) (by decide +kernel)
set_option maxRecDepth 20000 in
theorem gX3_init_X9_init_n17 : GoodIn wsX3_init (wsX9_init) := ggX3_init_X9_init
theorem dX3_init_0 : decode cX3_init 0 = .ok (.aload_n 0, 1) := by decide +kernel
theorem dX3_init_1 : decode cX3_init 1 = .ok (.invokespecial 3, 3) := by decide +kernel
theorem dX3_init_4 : decode cX3_init 4 = .ok (.aload_n 0, 1) := by decide +kernel
theorem dX3_init_5 : decode cX3_init 5 = .ok (.bipush 40, 2) := by decide +kernel
theorem dX3_init_7 : decode cX3_init 7 = .ok (.anewarray 9, 3) := by decide +kernel
theorem dX3_init_10 : decode cX3_init 10 = .ok (.putfield 11, 3) := by decide +kernel
theorem dX3_init_13 : decode cX3_init 13 = .ok (.iconst 0, 1) := by decide +kernel
theorem dX3_init_14 : decode cX3_init 14 = .ok (.istore_n 1, 1) := by decide +kernel
theorem dX3_init_15 : decode cX3_init 15 = .ok (.iload_n 1, 1) := by decide +kernel
theorem dX3_init_16 : decode cX3_init 16 = .ok (.bipush 40, 2) := by decide +kernel
theorem dX3_init_18 : decode cX3_init 18 = .ok (.if_icmp .ge 22, 3) := by decide +kernel
theorem dX3_init_21 : decode cX3_init 21 = .ok (.aload_n 0, 1) := by decide +kernel
theorem dX3_init_22 : decode cX3_init 22 = .ok (.getfield 11, 3) := by decide +kernel
theorem dX3_init_25 : decode cX3_init 25 = .ok (.iload_n 1, 1) := by decide +kernel
theorem dX3_init_26 : decode cX3_init 26 = .ok (.new 9, 3) := by decide +kernel
theorem dX3_init_29 : decode cX3_init 29 = .ok (.dup, 1) := by decide +kernel
theorem dX3_init_30 : decode cX3_init 30 = .ok (.invokespecial 17, 3) := by decide +kernel
theorem dX3_init_33 : decode cX3_init 33 = .ok (.aastore, 1) := by decide +kernel
theorem dX3_init_34 : decode cX3_init 34 = .ok (.iinc 1 1, 3) := by decide +kernel
theorem dX3_init_37 : decode cX3_init 37 = .ok (.goto (-22), 3) := by decide +kernel
theorem dX3_init_40 : decode cX3_init 40 = .ok (.return_, 1) := by decide +kernel
theorem dX3_clear_0 : decode cX3_clear 0 = .ok (.aload_n 0, 1) := by decide +kernel
theorem dX3_clear_1 : decode cX3_clear 1 = .ok (.iconst 0, 1) := by decide +kernel
theorem dX3_clear_2 : decode cX3_clear 2 = .ok (.putfield 18, 3) := by decide +kernel
theorem dX3_clear_5 : decode cX3_clear 5 = .ok (.return_, 1) := by decide +kernel
set_option maxRecDepth 20000 in
theorem ggX3_keep_X3_dropOldest : GoodIn wsX3_keep wsX3_dropOldest := goodIn_r _ [7, 2, 1, 28, 29] (by decide +kernel) (by decide +kernel)
set_option maxRecDepth 20000 in
theorem gX3_keep_X3_dropOldest : GoodIn wsX3_keep (wsV RX3 22 RX3 yX3_dropOldest wsX3_dropOldest) := goodIn_app (goodIn_of _ (by decide +kernel)) ggX3_keep_X3_dropOldest
set_option maxRecDepth 20000 in
theorem ggX3_keep_X9_copyFrom : GoodIn wsX3_keep wsX9_copyFrom := goodIn_r _ [12, 13, 14, 15, 16, 17, 18, 19, 20, 21, 22, 23, 24, 25, 26, 27, 30, 31, 32, 33, 34, 35, 36, 37, 38, 39, 40] (by decide +kernel) (by decide +kernel)
set_option maxRecDepth 20000 in
theorem gX3_keep_X9_copyFrom : GoodIn wsX3_keep (wsV RX3 25 RX9 yX9_copyFrom wsX9_copyFrom) := goodIn_app (goodIn_of _ (by decide +kernel)) ggX3_keep_X9_copyFrom
theorem dX3_keep_0 : decode cX3_keep 0 = .ok (.aload_n 0, 1) := by decide +kernel
theorem dX3_keep_1 : decode cX3_keep 1 = .ok (.getfield 18, 3) := by decide +kernel
theorem dX3_keep_4 : decode cX3_keep 4 = .ok (.bipush 40, 2) := by decide +kernel
theorem dX3_keep_6 : decode cX3_keep 6 = .ok (.if_icmp .lt 7, 3) := by decide +kernel
theorem dX3_keep_9 : decode cX3_keep 9 = .ok (.aload_n 0, 1) := by decide +kernel
theorem dX3_keep_10 : decode cX3_keep 10 = .ok (.invokevirtual 22, 3) := by decide +kernel
theorem dX3_keep_13 : decode cX3_keep 13 = .ok (.aload_n 0, 1) := by decide +kernel
theorem dX3_keep_14 : decode cX3_keep 14 = .ok (.getfield 11, 3) := by decide +kernel
theorem dX3_keep_17 : decode cX3_keep 17 = .ok (.aload_n 0, 1) := by decide +kernel
theorem dX3_keep_18 : decode cX3_keep 18 = .ok (.getfield 18, 3) := by decide +kernel
theorem dX3_keep_21 : decode cX3_keep 21 = .ok (.aaload, 1) := by decide +kernel
theorem dX3_keep_22 : decode cX3_keep 22 = .ok (.aload_n 1, 1) := by decide +kernel
theorem dX3_keep_23 : decode cX3_keep 23 = .ok (.invokevirtual 25, 3) := by decide +kernel
theorem dX3_keep_26 : decode cX3_keep 26 = .ok (.aload_n 0, 1) := by decide +kernel
theorem dX3_keep_27 : decode cX3_keep 27 = .ok (.dup, 1) := by decide +kernel
theorem dX3_keep_28 : decode cX3_keep 28 = .ok (.getfield 18, 3) := by decide +kernel
theorem dX3_keep_31 : decode cX3_keep 31 = .ok (.iconst 1, 1) := by decide +kernel
theorem dX3_keep_32 : decode cX3_keep 32 = .ok (.iadd, 1) := by decide +kernel
theorem dX3_keep_33 : decode cX3_keep 33 = .ok (.putfield 18, 3) := by decide +kernel
theorem dX3_keep_36 : decode cX3_keep 36 = .ok (.return_, 1) := by decide +kernel
theorem dX3_dropOldest_0 : decode cX3_dropOldest 0 = .ok (.aload_n 0, 1) := by decide +kernel
theorem dX3_dropOldest_1 : decode cX3_dropOldest 1 = .ok (.getfield 11, 3) := by decide +kernel
theorem dX3_dropOldest_4 : decode cX3_dropOldest 4 = .ok (.iconst 0, 1) := by decide +kernel
theorem dX3_dropOldest_5 : decode cX3_dropOldest 5 = .ok (.aaload, 1) := by decide +kernel
theorem dX3_dropOldest_6 : decode cX3_dropOldest 6 = .ok (.astore_n 1, 1) := by decide +kernel
theorem dX3_dropOldest_7 : decode cX3_dropOldest 7 = .ok (.iconst 1, 1) := by decide +kernel
theorem dX3_dropOldest_8 : decode cX3_dropOldest 8 = .ok (.istore_n 2, 1) := by decide +kernel
theorem dX3_dropOldest_9 : decode cX3_dropOldest 9 = .ok (.iload_n 2, 1) := by decide +kernel
theorem dX3_dropOldest_10 : decode cX3_dropOldest 10 = .ok (.bipush 40, 2) := by decide +kernel
theorem dX3_dropOldest_12 : decode cX3_dropOldest 12 = .ok (.if_icmp .ge 23, 3) := by decide +kernel
theorem dX3_dropOldest_15 : decode cX3_dropOldest 15 = .ok (.aload_n 0, 1) := by decide +kernel
theorem dX3_dropOldest_16 : decode cX3_dropOldest 16 = .ok (.getfield 11, 3) := by decide +kernel
theorem dX3_dropOldest_19 : decode cX3_dropOldest 19 = .ok (.iload_n 2, 1) := by decide +kernel
theorem dX3_dropOldest_20 : decode cX3_dropOldest 20 = .ok (.iconst 1, 1) := by decide +kernel
theorem dX3_dropOldest_21 : decode cX3_dropOldest 21 = .ok (.isub, 1) := by decide +kernel
theorem dX3_dropOldest_22 : decode cX3_dropOldest 22 = .ok (.aload_n 0, 1) := by decide +kernel
theorem dX3_dropOldest_23 : decode cX3_dropOldest 23 = .ok (.getfield 11, 3) := by decide +kernel
theorem dX3_dropOldest_26 : decode cX3_dropOldest 26 = .ok (.iload_n 2, 1) := by decide +kernel
theorem dX3_dropOldest_27 : decode cX3_dropOldest 27 = .ok (.aaload, 1) := by decide +kernel
theorem dX3_dropOldest_28 : decode cX3_dropOldest 28 = .ok (.aastore, 1) := by decide +kernel
theorem dX3_dropOldest_29 : decode cX3_dropOldest 29 = .ok (.iinc 2 1, 3) := by decide +kernel
theorem dX3_dropOldest_32 : decode cX3_dropOldest 32 = .ok (.goto (-23), 3) := by decide +kernel
theorem dX3_dropOldest_35 : decode cX3_dropOldest 35 = .ok (.aload_n 0, 1) := by decide +kernel
theorem dX3_dropOldest_36 : decode cX3_dropOldest 36 = .ok (.getfield 11, 3) := by decide +kernel
theorem dX3_dropOldest_39 : decode cX3_dropOldest 39 = .ok (.bipush 39, 2) := by decide +kernel
theorem dX3_dropOldest_41 : decode cX3_dropOldest 41 = .ok (.aload_n 1, 1) := by decide +kernel
theorem dX3_dropOldest_42 : decode cX3_dropOldest 42 = .ok (.aastore, 1) := by decide +kernel
theorem dX3_dropOldest_43 : decode cX3_dropOldest 43 = .ok (.aload_n 0, 1) := by decide +kernel
theorem dX3_dropOldest_44 : decode cX3_dropOldest 44 = .ok (.bipush 39, 2) := by decide +kernel
theorem dX3_dropOldest_46 : decode cX3_dropOldest 46 = .ok (.putfield 18, 3) := by decide +kernel
theorem dX3_dropOldest_49 : decode cX3_dropOldest 49 = .ok (.return_, 1) := by decide +kernel
set_option maxRecDepth 20000 in
theorem ggX3_takeBack_X9_copyFrom : GoodIn wsX3_takeBack wsX9_copyFrom := goodIn_r _ [7, 8, 9, 10, 11, 12, 13, 14, 15, 16, 17, 18, 19, 20, 21, 22, 25, 26, 27, 28, 29, 30, 31, 32, 33, 34, 35] (by decide +kernel) (by decide +kernel)
set_option maxRecDepth 20000 in
theorem gX3_takeBack_X9_copyFrom : GoodIn wsX3_takeBack (wsV RX3 25 RX9 yX9_copyFrom wsX9_copyFrom) := goodIn_app (goodIn_of _ (by decide +kernel)) ggX3_takeBack_X9_copyFrom
theorem dX3_takeBack_0 : decode cX3_takeBack 0 = .ok (.aload_n 0, 1) := by decide +kernel
theorem dX3_takeBack_1 : decode cX3_takeBack 1 = .ok (.getfield 18, 3) := by decide +kernel
theorem dX3_takeBack_4 : decode cX3_takeBack 4 = .ok (.ifCond .le 26, 3) := by decide +kernel
theorem dX3_takeBack_7 : decode cX3_takeBack 7 = .ok (.aload_n 0, 1) := by decide +kernel
theorem dX3_takeBack_8 : decode cX3_takeBack 8 = .ok (.dup, 1) := by decide +kernel
theorem dX3_takeBack_9 : decode cX3_takeBack 9 = .ok (.getfield 18, 3) := by decide +kernel
theorem dX3_takeBack_12 : decode cX3_takeBack 12 = .ok (.iconst 1, 1) := by decide +kernel
theorem dX3_takeBack_13 : decode cX3_takeBack 13 = .ok (.isub, 1) := by decide +kernel
theorem dX3_takeBack_14 : decode cX3_takeBack 14 = .ok (.putfield 18, 3) := by decide +kernel
theorem dX3_takeBack_17 : decode cX3_takeBack 17 = .ok (.aload_n 1, 1) := by decide +kernel
theorem dX3_takeBack_18 : decode cX3_takeBack 18 = .ok (.aload_n 0, 1) := by decide +kernel
theorem dX3_takeBack_19 : decode cX3_takeBack 19 = .ok (.getfield 11, 3) := by decide +kernel
theorem dX3_takeBack_22 : decode cX3_takeBack 22 = .ok (.aload_n 0, 1) := by decide +kernel
theorem dX3_takeBack_23 : decode cX3_takeBack 23 = .ok (.getfield 18, 3) := by decide +kernel
theorem dX3_takeBack_26 : decode cX3_takeBack 26 = .ok (.aaload, 1) := by decide +kernel
theorem dX3_takeBack_27 : decode cX3_takeBack 27 = .ok (.invokevirtual 25, 3) := by decide +kernel
theorem dX3_takeBack_30 : decode cX3_takeBack 30 = .ok (.return_, 1) := by decide +kernel
set_option maxRecDepth 20000 in
theorem ggX3_copyFrom_X9_copyFrom : GoodIn wsX3_copyFrom wsX9_copyFrom := goodIn_r _ [7, 8, 9, 10, 11, 12, 13, 14, 15, 16, 17, 18, 19, 20, 21, 22, 25, 26, 27, 28, 29, 30, 31, 32, 33, 34, 35] (by decide +kernel) (by decide +kernel)
set_option maxRecDepth 20000 in
theorem gX3_copyFrom_X9_copyFrom : GoodIn wsX3_copyFrom (wsV RX3 25 RX9 yX9_copyFrom wsX9_copyFrom) := goodIn_app (goodIn_of _ (by decide +kernel)) ggX3_copyFrom_X9_copyFrom
theorem dX3_copyFrom_0 : decode cX3_copyFrom 0 = .ok (.aload_n 0, 1) := by decide +kernel
theorem dX3_copyFrom_1 : decode cX3_copyFrom 1 = .ok (.aload_n 1, 1) := by decide +kernel
theorem dX3_copyFrom_2 : decode cX3_copyFrom 2 = .ok (.getfield 18, 3) := by decide +kernel
theorem dX3_copyFrom_5 : decode cX3_copyFrom 5 = .ok (.putfield 18, 3) := by decide +kernel
theorem dX3_copyFrom_8 : decode cX3_copyFrom 8 = .ok (.iconst 0, 1) := by decide +kernel
theorem dX3_copyFrom_9 : decode cX3_copyFrom 9 = .ok (.istore_n 2, 1) := by decide +kernel
theorem dX3_copyFrom_10 : decode cX3_copyFrom 10 = .ok (.iload_n 2, 1) := by decide +kernel
theorem dX3_copyFrom_11 : decode cX3_copyFrom 11 = .ok (.aload_n 0, 1) := by decide +kernel
theorem dX3_copyFrom_12 : decode cX3_copyFrom 12 = .ok (.getfield 18, 3) := by decide +kernel
theorem dX3_copyFrom_15 : decode cX3_copyFrom 15 = .ok (.if_icmp .ge 24, 3) := by decide +kernel
theorem dX3_copyFrom_18 : decode cX3_copyFrom 18 = .ok (.aload_n 0, 1) := by decide +kernel
theorem dX3_copyFrom_19 : decode cX3_copyFrom 19 = .ok (.getfield 11, 3) := by decide +kernel
theorem dX3_copyFrom_22 : decode cX3_copyFrom 22 = .ok (.iload_n 2, 1) := by decide +kernel
theorem dX3_copyFrom_23 : decode cX3_copyFrom 23 = .ok (.aaload, 1) := by decide +kernel
theorem dX3_copyFrom_24 : decode cX3_copyFrom 24 = .ok (.aload_n 1, 1) := by decide +kernel
theorem dX3_copyFrom_25 : decode cX3_copyFrom 25 = .ok (.getfield 11, 3) := by decide +kernel
theorem dX3_copyFrom_28 : decode cX3_copyFrom 28 = .ok (.iload_n 2, 1) := by decide +kernel
theorem dX3_copyFrom_29 : decode cX3_copyFrom 29 = .ok (.aaload, 1) := by decide +kernel
theorem dX3_copyFrom_30 : decode cX3_copyFrom 30 = .ok (.invokevirtual 25, 3) := by decide +kernel
theorem dX3_copyFrom_33 : decode cX3_copyFrom 33 = .ok (.iinc 2 1, 3) := by decide +kernel
theorem dX3_copyFrom_36 : decode cX3_copyFrom 36 = .ok (.goto (-26), 3) := by decide +kernel
theorem dX3_copyFrom_39 : decode cX3_copyFrom 39 = .ok (.return_, 1) := by decide +kernel
theorem dX4_init_0 : decode cX4_init 0 = .ok (.aload_n 0, 1) := by decide +kernel
theorem dX4_init_1 : decode cX4_init 1 = .ok (.invokespecial 3, 3) := by decide +kernel
theorem dX4_init_4 : decode cX4_init 4 = .ok (.aload_n 0, 1) := by decide +kernel
theorem dX4_init_5 : decode cX4_init 5 = .ok (.bipush 12, 2) := by decide +kernel
theorem dX4_init_7 : decode cX4_init 7 = .ok (.newarray .int, 2) := by decide +kernel
theorem dX4_init_9 : decode cX4_init 9 = .ok (.putfield 9, 3) := by decide +kernel
theorem dX4_init_12 : decode cX4_init 12 = .ok (.aload_n 0, 1) := by decide +kernel
theorem dX4_init_13 : decode cX4_init 13 = .ok (.bipush 12, 2) := by decide +kernel
theorem dX4_init_15 : decode cX4_init 15 = .ok (.newarray .int, 2) := by decide +kernel
theorem dX4_init_17 : decode cX4_init 17 = .ok (.putfield 15, 3) := by decide +kernel
theorem dX4_init_20 : decode cX4_init 20 = .ok (.aload_n 0, 1) := by decide +kernel
theorem dX4_init_21 : decode cX4_init 21 = .ok (.bipush 12, 2) := by decide +kernel
theorem dX4_init_23 : decode cX4_init 23 = .ok (.bipush 12, 2) := by decide +kernel
theorem dX4_init_25 : decode cX4_init 25 = .ok (.multianewarray 18 2, 4) := by decide +kernel
theorem dX4_init_29 : decode cX4_init 29 = .ok (.putfield 20, 3) := by decide +kernel
theorem dX4_init_32 : decode cX4_init 32 = .ok (.aload_n 0, 1) := by decide +kernel
theorem dX4_init_33 : decode cX4_init 33 = .ok (.sipush 4096, 3) := by decide +kernel
theorem dX4_init_36 : decode cX4_init 36 = .ok (.newarray .int, 2) := by decide +kernel
theorem dX4_init_38 : decode cX4_init 38 = .ok (.putfield 23, 3) := by decide +kernel
theorem dX4_init_41 : decode cX4_init 41 = .ok (.return_, 1) := by decide +kernel
theorem dX4_setHours_0 : decode cX4_setHours 0 = .ok (.aload_n 0, 1) := by decide +kernel
theorem dX4_setHours_1 : decode cX4_setHours 1 = .ok (.getfield 9, 3) := by decide +kernel
theorem dX4_setHours_4 : decode cX4_setHours 4 = .ok (.iload_n 1, 1) := by decide +kernel
theorem dX4_setHours_5 : decode cX4_setHours 5 = .ok (.iload_n 2, 1) := by decide +kernel
theorem dX4_setHours_6 : decode cX4_setHours 6 = .ok (.iastore, 1) := by decide +kernel
theorem dX4_setHours_7 : decode cX4_setHours 7 = .ok (.aload_n 0, 1) := by decide +kernel
theorem dX4_setHours_8 : decode cX4_setHours 8 = .ok (.getfield 15, 3) := by decide +kernel
theorem dX4_setHours_11 : decode cX4_setHours 11 = .ok (.iload_n 1, 1) := by decide +kernel
theorem dX4_setHours_12 : decode cX4_setHours 12 = .ok (.iload_n 3, 1) := by decide +kernel
theorem dX4_setHours_13 : decode cX4_setHours 13 = .ok (.iastore, 1) := by decide +kernel
theorem dX4_setHours_14 : decode cX4_setHours 14 = .ok (.return_, 1) := by decide +kernel
set_option maxRecDepth 20000 in
theorem ggX4_hoursAtOdds_J6_bitCount_0f7a4 : GoodIn wsX4_hoursAtOdds wsJ6_bitCount_0f7a4 := goodIn_r _ [6, 7, 8, 9] (by decide +kernel) (by decide +kernel)
set_option maxRecDepth 20000 in
theorem gX4_hoursAtOdds_J6_bitCount_0f7a4 : GoodIn wsX4_hoursAtOdds (va_wsS RX4 26 yJ6_bitCount_0f7a4 wsJ6_bitCount_0f7a4) := goodIn_app (goodIn_of _ (by decide +kernel)) ggX4_hoursAtOdds_J6_bitCount_0f7a4
theorem dX4_hoursAtOdds_0 : decode cX4_hoursAtOdds 0 = .ok (.aload_n 0, 1) := by decide +kernel
theorem dX4_hoursAtOdds_1 : decode cX4_hoursAtOdds 1 = .ok (.getfield 9, 3) := by decide +kernel
theorem dX4_hoursAtOdds_4 : decode cX4_hoursAtOdds 4 = .ok (.iload_n 1, 1) := by decide +kernel
theorem dX4_hoursAtOdds_5 : decode cX4_hoursAtOdds 5 = .ok (.iaload, 1) := by decide +kernel
theorem dX4_hoursAtOdds_6 : decode cX4_hoursAtOdds 6 = .ok (.aload_n 0, 1) := by decide +kernel
theorem dX4_hoursAtOdds_7 : decode cX4_hoursAtOdds 7 = .ok (.getfield 9, 3) := by decide +kernel
theorem dX4_hoursAtOdds_10 : decode cX4_hoursAtOdds 10 = .ok (.iload_n 2, 1) := by decide +kernel
theorem dX4_hoursAtOdds_11 : decode cX4_hoursAtOdds 11 = .ok (.iaload, 1) := by decide +kernel
theorem dX4_hoursAtOdds_12 : decode cX4_hoursAtOdds 12 = .ok (.iand, 1) := by decide +kernel
theorem dX4_hoursAtOdds_13 : decode cX4_hoursAtOdds 13 = .ok (.aload_n 0, 1) := by decide +kernel
theorem dX4_hoursAtOdds_14 : decode cX4_hoursAtOdds 14 = .ok (.getfield 15, 3) := by decide +kernel
theorem dX4_hoursAtOdds_17 : decode cX4_hoursAtOdds 17 = .ok (.iload_n 1, 1) := by decide +kernel
theorem dX4_hoursAtOdds_18 : decode cX4_hoursAtOdds 18 = .ok (.iaload, 1) := by decide +kernel
theorem dX4_hoursAtOdds_19 : decode cX4_hoursAtOdds 19 = .ok (.aload_n 0, 1) := by decide +kernel
theorem dX4_hoursAtOdds_20 : decode cX4_hoursAtOdds 20 = .ok (.getfield 15, 3) := by decide +kernel
theorem dX4_hoursAtOdds_23 : decode cX4_hoursAtOdds 23 = .ok (.iload_n 2, 1) := by decide +kernel
theorem dX4_hoursAtOdds_24 : decode cX4_hoursAtOdds 24 = .ok (.iaload, 1) := by decide +kernel
theorem dX4_hoursAtOdds_25 : decode cX4_hoursAtOdds 25 = .ok (.ixor, 1) := by decide +kernel
theorem dX4_hoursAtOdds_26 : decode cX4_hoursAtOdds 26 = .ok (.iand, 1) := by decide +kernel
theorem dX4_hoursAtOdds_27 : decode cX4_hoursAtOdds 27 = .ok (.istore_n 3, 1) := by decide +kernel
theorem dX4_hoursAtOdds_28 : decode cX4_hoursAtOdds 28 = .ok (.aload_n 0, 1) := by decide +kernel
theorem dX4_hoursAtOdds_29 : decode cX4_hoursAtOdds 29 = .ok (.getfield 9, 3) := by decide +kernel
theorem dX4_hoursAtOdds_32 : decode cX4_hoursAtOdds 32 = .ok (.iload_n 1, 1) := by decide +kernel
theorem dX4_hoursAtOdds_33 : decode cX4_hoursAtOdds 33 = .ok (.iaload, 1) := by decide +kernel
theorem dX4_hoursAtOdds_34 : decode cX4_hoursAtOdds 34 = .ok (.aload_n 0, 1) := by decide +kernel
theorem dX4_hoursAtOdds_35 : decode cX4_hoursAtOdds 35 = .ok (.getfield 9, 3) := by decide +kernel
theorem dX4_hoursAtOdds_38 : decode cX4_hoursAtOdds 38 = .ok (.iload_n 2, 1) := by decide +kernel
theorem dX4_hoursAtOdds_39 : decode cX4_hoursAtOdds 39 = .ok (.iaload, 1) := by decide +kernel
theorem dX4_hoursAtOdds_40 : decode cX4_hoursAtOdds 40 = .ok (.iconst (-1), 1) := by decide +kernel
theorem dX4_hoursAtOdds_41 : decode cX4_hoursAtOdds 41 = .ok (.ixor, 1) := by decide +kernel
theorem dX4_hoursAtOdds_42 : decode cX4_hoursAtOdds 42 = .ok (.iand, 1) := by decide +kernel
theorem dX4_hoursAtOdds_43 : decode cX4_hoursAtOdds 43 = .ok (.aload_n 0, 1) := by decide +kernel
theorem dX4_hoursAtOdds_44 : decode cX4_hoursAtOdds 44 = .ok (.getfield 15, 3) := by decide +kernel
theorem dX4_hoursAtOdds_47 : decode cX4_hoursAtOdds 47 = .ok (.iload_n 1, 1) := by decide +kernel
theorem dX4_hoursAtOdds_48 : decode cX4_hoursAtOdds 48 = .ok (.iaload, 1) := by decide +kernel
theorem dX4_hoursAtOdds_49 : decode cX4_hoursAtOdds 49 = .ok (.iand, 1) := by decide +kernel
theorem dX4_hoursAtOdds_50 : decode cX4_hoursAtOdds 50 = .ok (.istore 4, 2) := by decide +kernel
theorem dX4_hoursAtOdds_52 : decode cX4_hoursAtOdds 52 = .ok (.aload_n 0, 1) := by decide +kernel
theorem dX4_hoursAtOdds_53 : decode cX4_hoursAtOdds 53 = .ok (.getfield 9, 3) := by decide +kernel
theorem dX4_hoursAtOdds_56 : decode cX4_hoursAtOdds 56 = .ok (.iload_n 2, 1) := by decide +kernel
theorem dX4_hoursAtOdds_57 : decode cX4_hoursAtOdds 57 = .ok (.iaload, 1) := by decide +kernel
theorem dX4_hoursAtOdds_58 : decode cX4_hoursAtOdds 58 = .ok (.aload_n 0, 1) := by decide +kernel
theorem dX4_hoursAtOdds_59 : decode cX4_hoursAtOdds 59 = .ok (.getfield 9, 3) := by decide +kernel
theorem dX4_hoursAtOdds_62 : decode cX4_hoursAtOdds 62 = .ok (.iload_n 1, 1) := by decide +kernel
theorem dX4_hoursAtOdds_63 : decode cX4_hoursAtOdds 63 = .ok (.iaload, 1) := by decide +kernel
theorem dX4_hoursAtOdds_64 : decode cX4_hoursAtOdds 64 = .ok (.iconst (-1), 1) := by decide +kernel
theorem dX4_hoursAtOdds_65 : decode cX4_hoursAtOdds 65 = .ok (.ixor, 1) := by decide +kernel
theorem dX4_hoursAtOdds_66 : decode cX4_hoursAtOdds 66 = .ok (.iand, 1) := by decide +kernel
theorem dX4_hoursAtOdds_67 : decode cX4_hoursAtOdds 67 = .ok (.aload_n 0, 1) := by decide +kernel
theorem dX4_hoursAtOdds_68 : decode cX4_hoursAtOdds 68 = .ok (.getfield 15, 3) := by decide +kernel
theorem dX4_hoursAtOdds_71 : decode cX4_hoursAtOdds 71 = .ok (.iload_n 2, 1) := by decide +kernel
theorem dX4_hoursAtOdds_72 : decode cX4_hoursAtOdds 72 = .ok (.iaload, 1) := by decide +kernel
theorem dX4_hoursAtOdds_73 : decode cX4_hoursAtOdds 73 = .ok (.iand, 1) := by decide +kernel
theorem dX4_hoursAtOdds_74 : decode cX4_hoursAtOdds 74 = .ok (.istore 5, 2) := by decide +kernel
theorem dX4_hoursAtOdds_76 : decode cX4_hoursAtOdds 76 = .ok (.iload_n 3, 1) := by decide +kernel
theorem dX4_hoursAtOdds_77 : decode cX4_hoursAtOdds 77 = .ok (.iload 4, 2) := by decide +kernel
theorem dX4_hoursAtOdds_79 : decode cX4_hoursAtOdds 79 = .ok (.ior, 1) := by decide +kernel
theorem dX4_hoursAtOdds_80 : decode cX4_hoursAtOdds 80 = .ok (.iload 5, 2) := by decide +kernel
theorem dX4_hoursAtOdds_82 : decode cX4_hoursAtOdds 82 = .ok (.ior, 1) := by decide +kernel
theorem dX4_hoursAtOdds_83 : decode cX4_hoursAtOdds 83 = .ok (.invokestatic 26, 3) := by decide +kernel
theorem dX4_hoursAtOdds_86 : decode cX4_hoursAtOdds 86 = .ok (.ireturn, 1) := by decide +kernel
set_option maxRecDepth 20000 in
theorem ggX4_price_X4_hoursAtOdds : GoodIn wsX4_price wsX4_hoursAtOdds := goodIn_r _ [6, 7, 8, 9, 10, 11, 12, 13, 14, 15, 16, 17, 18, 19] (by decide +kernel) (by decide +kernel)
set_option maxRecDepth 20000 in
theorem gX4_price_X4_hoursAtOdds : GoodIn wsX4_price (wsV RX4 32 RX4 yX4_hoursAtOdds wsX4_hoursAtOdds) := goodIn_app (goodIn_of _ (by decide +kernel)) ggX4_price_X4_hoursAtOdds
theorem dX4_price_0 : decode cX4_price 0 = .ok (.iconst 0, 1) := by decide +kernel
theorem dX4_price_1 : decode cX4_price 1 = .ok (.istore_n 2, 1) := by decide +kernel
theorem dX4_price_2 : decode cX4_price 2 = .ok (.iload_n 2, 1) := by decide +kernel
theorem dX4_price_3 : decode cX4_price 3 = .ok (.bipush 12, 2) := by decide +kernel
theorem dX4_price_5 : decode cX4_price 5 = .ok (.if_icmp .ge 57, 3) := by decide +kernel
theorem dX4_price_8 : decode cX4_price 8 = .ok (.iload_n 2, 1) := by decide +kernel
theorem dX4_price_9 : decode cX4_price 9 = .ok (.iconst 1, 1) := by decide +kernel
theorem dX4_price_10 : decode cX4_price 10 = .ok (.iadd, 1) := by decide +kernel
theorem dX4_price_11 : decode cX4_price 11 = .ok (.istore_n 3, 1) := by decide +kernel
theorem dX4_price_12 : decode cX4_price 12 = .ok (.iload_n 3, 1) := by decide +kernel
theorem dX4_price_13 : decode cX4_price 13 = .ok (.bipush 12, 2) := by decide +kernel
theorem dX4_price_15 : decode cX4_price 15 = .ok (.if_icmp .ge 41, 3) := by decide +kernel
theorem dX4_price_18 : decode cX4_price 18 = .ok (.iload_n 1, 1) := by decide +kernel
theorem dX4_price_19 : decode cX4_price 19 = .ok (.iload_n 2, 1) := by decide +kernel
theorem dX4_price_20 : decode cX4_price 20 = .ok (.ishr, 1) := by decide +kernel
theorem dX4_price_21 : decode cX4_price 21 = .ok (.iconst 1, 1) := by decide +kernel
theorem dX4_price_22 : decode cX4_price 22 = .ok (.iand, 1) := by decide +kernel
theorem dX4_price_23 : decode cX4_price 23 = .ok (.iconst 1, 1) := by decide +kernel
theorem dX4_price_24 : decode cX4_price 24 = .ok (.if_icmp .ne 26, 3) := by decide +kernel
theorem dX4_price_27 : decode cX4_price 27 = .ok (.iload_n 1, 1) := by decide +kernel
theorem dX4_price_28 : decode cX4_price 28 = .ok (.iload_n 3, 1) := by decide +kernel
theorem dX4_price_29 : decode cX4_price 29 = .ok (.ishr, 1) := by decide +kernel
theorem dX4_price_30 : decode cX4_price 30 = .ok (.iconst 1, 1) := by decide +kernel
theorem dX4_price_31 : decode cX4_price 31 = .ok (.iand, 1) := by decide +kernel
theorem dX4_price_32 : decode cX4_price 32 = .ok (.iconst 1, 1) := by decide +kernel
theorem dX4_price_33 : decode cX4_price 33 = .ok (.if_icmp .ne 17, 3) := by decide +kernel
theorem dX4_price_36 : decode cX4_price 36 = .ok (.aload_n 0, 1) := by decide +kernel
theorem dX4_price_37 : decode cX4_price 37 = .ok (.getfield 20, 3) := by decide +kernel
theorem dX4_price_40 : decode cX4_price 40 = .ok (.iload_n 2, 1) := by decide +kernel
theorem dX4_price_41 : decode cX4_price 41 = .ok (.aaload, 1) := by decide +kernel
theorem dX4_price_42 : decode cX4_price 42 = .ok (.iload_n 3, 1) := by decide +kernel
theorem dX4_price_43 : decode cX4_price 43 = .ok (.aload_n 0, 1) := by decide +kernel
theorem dX4_price_44 : decode cX4_price 44 = .ok (.iload_n 2, 1) := by decide +kernel
theorem dX4_price_45 : decode cX4_price 45 = .ok (.iload_n 3, 1) := by decide +kernel
theorem dX4_price_46 : decode cX4_price 46 = .ok (.invokevirtual 32, 3) := by decide +kernel
theorem dX4_price_49 : decode cX4_price 49 = .ok (.iastore, 1) := by decide +kernel
theorem dX4_price_50 : decode cX4_price 50 = .ok (.iinc 3 1, 3) := by decide +kernel
theorem dX4_price_53 : decode cX4_price 53 = .ok (.goto (-41), 3) := by decide +kernel
theorem dX4_price_56 : decode cX4_price 56 = .ok (.iinc 2 1, 3) := by decide +kernel
theorem dX4_price_59 : decode cX4_price 59 = .ok (.goto (-57), 3) := by decide +kernel
theorem dX4_price_62 : decode cX4_price 62 = .ok (.return_, 1) := by decide +kernel
set_option maxRecDepth 20000 in
theorem ggX4_weigh_X4_price : GoodIn wsX4_weigh wsX4_price := goodIn_r _ [11, 12, 13, 14, 15, 10, 16, 17, 18, 19, 20, 21, 22, 23, 24, 25, 34, 35, 36, 37] (by decide +kernel) (by decide +kernel)
set_option maxRecDepth 20000 in
theorem gX4_weigh_X4_price : GoodIn wsX4_weigh (wsV RX4 36 RX4 yX4_price wsX4_price) := goodIn_app (goodIn_of _ (by decide +kernel)) ggX4_weigh_X4_price
set_option maxRecDepth 20000 in
theorem ggX4_weigh_J6_bitCount_0f7a4 : GoodIn wsX4_weigh wsJ6_bitCount_0f7a4 := goodIn_r _ [22, 23, 24, 25] (by decide +kernel) (by decide +kernel)
set_option maxRecDepth 20000 in
theorem gX4_weigh_J6_bitCount_0f7a4 : GoodIn wsX4_weigh (va_wsS RX4 26 yJ6_bitCount_0f7a4 wsJ6_bitCount_0f7a4) := goodIn_app (goodIn_of _ (by decide +kernel)) ggX4_weigh_J6_bitCount_0f7a4
set_option maxRecDepth 20000 in
theorem ggX4_weigh_J6_numberOfTrailingZeros_0f7a4 : GoodIn wsX4_weigh wsJ6_numberOfTrailingZeros_0f7a4 := goodIn_r _ [28, 29] (by decide +kernel) (by decide +kernel)
set_option maxRecDepth 20000 in
theorem gX4_weigh_J6_numberOfTrailingZeros_0f7a4 : GoodIn wsX4_weigh (va_wsS RX4 41 yJ6_numberOfTrailingZeros_0f7a4 wsJ6_numberOfTrailingZeros_0f7a4) := goodIn_app (goodIn_of _ (by decide +kernel)) ggX4_weigh_J6_numberOfTrailingZeros_0f7a4
set_option maxRecDepth 20000 in
theorem ggX4_weigh_X4_costWith : GoodIn wsX4_weigh wsX4_costWith := goodIn_r _ [33, 12, 1, 34, 35, 36, 37] (by decide +kernel) (by decide +kernel)
set_option maxRecDepth 20000 in
theorem gX4_weigh_X4_costWith : GoodIn wsX4_weigh (wsV RX4 44 RX4 yX4_costWith wsX4_costWith) := goodIn_app (goodIn_of _ (by decide +kernel)) ggX4_weigh_X4_costWith
theorem dX4_weigh_0 : decode cX4_weigh 0 = .ok (.aload_n 0, 1) := by decide +kernel
theorem dX4_weigh_1 : decode cX4_weigh 1 = .ok (.iload_n 1, 1) := by decide +kernel
theorem dX4_weigh_2 : decode cX4_weigh 2 = .ok (.invokevirtual 36, 3) := by decide +kernel
theorem dX4_weigh_5 : decode cX4_weigh 5 = .ok (.aload_n 0, 1) := by decide +kernel
theorem dX4_weigh_6 : decode cX4_weigh 6 = .ok (.getfield 23, 3) := by decide +kernel
theorem dX4_weigh_9 : decode cX4_weigh 9 = .ok (.iconst 0, 1) := by decide +kernel
theorem dX4_weigh_10 : decode cX4_weigh 10 = .ok (.iconst 0, 1) := by decide +kernel
theorem dX4_weigh_11 : decode cX4_weigh 11 = .ok (.iastore, 1) := by decide +kernel
theorem dX4_weigh_12 : decode cX4_weigh 12 = .ok (.iconst 1, 1) := by decide +kernel
theorem dX4_weigh_13 : decode cX4_weigh 13 = .ok (.istore_n 2, 1) := by decide +kernel
theorem dX4_weigh_14 : decode cX4_weigh 14 = .ok (.iload_n 2, 1) := by decide +kernel
theorem dX4_weigh_15 : decode cX4_weigh 15 = .ok (.aload_n 0, 1) := by decide +kernel
theorem dX4_weigh_16 : decode cX4_weigh 16 = .ok (.getfield 23, 3) := by decide +kernel
theorem dX4_weigh_19 : decode cX4_weigh 19 = .ok (.arraylength, 1) := by decide +kernel
theorem dX4_weigh_20 : decode cX4_weigh 20 = .ok (.if_icmp .ge 95, 3) := by decide +kernel
theorem dX4_weigh_23 : decode cX4_weigh 23 = .ok (.iload_n 2, 1) := by decide +kernel
theorem dX4_weigh_24 : decode cX4_weigh 24 = .ok (.iload_n 1, 1) := by decide +kernel
theorem dX4_weigh_25 : decode cX4_weigh 25 = .ok (.if_icmp .gt 90, 3) := by decide +kernel
theorem dX4_weigh_28 : decode cX4_weigh 28 = .ok (.iload_n 2, 1) := by decide +kernel
theorem dX4_weigh_29 : decode cX4_weigh 29 = .ok (.iload_n 1, 1) := by decide +kernel
theorem dX4_weigh_30 : decode cX4_weigh 30 = .ok (.iconst (-1), 1) := by decide +kernel
theorem dX4_weigh_31 : decode cX4_weigh 31 = .ok (.ixor, 1) := by decide +kernel
theorem dX4_weigh_32 : decode cX4_weigh 32 = .ok (.iand, 1) := by decide +kernel
theorem dX4_weigh_33 : decode cX4_weigh 33 = .ok (.ifCond .ne 76, 3) := by decide +kernel
theorem dX4_weigh_36 : decode cX4_weigh 36 = .ok (.iload_n 2, 1) := by decide +kernel
theorem dX4_weigh_37 : decode cX4_weigh 37 = .ok (.invokestatic 26, 3) := by decide +kernel
theorem dX4_weigh_40 : decode cX4_weigh 40 = .ok (.iconst 2, 1) := by decide +kernel
theorem dX4_weigh_41 : decode cX4_weigh 41 = .ok (.irem, 1) := by decide +kernel
theorem dX4_weigh_42 : decode cX4_weigh 42 = .ok (.ifCond .ne 67, 3) := by decide +kernel
theorem dX4_weigh_45 : decode cX4_weigh 45 = .ok (.aload_n 0, 1) := by decide +kernel
theorem dX4_weigh_46 : decode cX4_weigh 46 = .ok (.getfield 23, 3) := by decide +kernel
theorem dX4_weigh_49 : decode cX4_weigh 49 = .ok (.iload_n 2, 1) := by decide +kernel
theorem dX4_weigh_50 : decode cX4_weigh 50 = .ok (.ldc 40, 2) := by decide +kernel
theorem dX4_weigh_52 : decode cX4_weigh 52 = .ok (.iastore, 1) := by decide +kernel
theorem dX4_weigh_53 : decode cX4_weigh 53 = .ok (.iload_n 2, 1) := by decide +kernel
theorem dX4_weigh_54 : decode cX4_weigh 54 = .ok (.invokestatic 41, 3) := by decide +kernel
theorem dX4_weigh_57 : decode cX4_weigh 57 = .ok (.istore_n 3, 1) := by decide +kernel
theorem dX4_weigh_58 : decode cX4_weigh 58 = .ok (.iload_n 3, 1) := by decide +kernel
theorem dX4_weigh_59 : decode cX4_weigh 59 = .ok (.iconst 1, 1) := by decide +kernel
theorem dX4_weigh_60 : decode cX4_weigh 60 = .ok (.iadd, 1) := by decide +kernel
theorem dX4_weigh_61 : decode cX4_weigh 61 = .ok (.istore 4, 2) := by decide +kernel
theorem dX4_weigh_63 : decode cX4_weigh 63 = .ok (.iload 4, 2) := by decide +kernel
theorem dX4_weigh_65 : decode cX4_weigh 65 = .ok (.bipush 12, 2) := by decide +kernel
theorem dX4_weigh_67 : decode cX4_weigh 67 = .ok (.if_icmp .ge 42, 3) := by decide +kernel
theorem dX4_weigh_70 : decode cX4_weigh 70 = .ok (.iload_n 2, 1) := by decide +kernel
theorem dX4_weigh_71 : decode cX4_weigh 71 = .ok (.iload 4, 2) := by decide +kernel
theorem dX4_weigh_73 : decode cX4_weigh 73 = .ok (.ishr, 1) := by decide +kernel
theorem dX4_weigh_74 : decode cX4_weigh 74 = .ok (.iconst 1, 1) := by decide +kernel
theorem dX4_weigh_75 : decode cX4_weigh 75 = .ok (.iand, 1) := by decide +kernel
theorem dX4_weigh_76 : decode cX4_weigh 76 = .ok (.iconst 1, 1) := by decide +kernel
theorem dX4_weigh_77 : decode cX4_weigh 77 = .ok (.if_icmp .ne 26, 3) := by decide +kernel
theorem dX4_weigh_80 : decode cX4_weigh 80 = .ok (.aload_n 0, 1) := by decide +kernel
theorem dX4_weigh_81 : decode cX4_weigh 81 = .ok (.getfield 23, 3) := by decide +kernel
theorem dX4_weigh_84 : decode cX4_weigh 84 = .ok (.iload_n 2, 1) := by decide +kernel
theorem dX4_weigh_85 : decode cX4_weigh 85 = .ok (.aload_n 0, 1) := by decide +kernel
theorem dX4_weigh_86 : decode cX4_weigh 86 = .ok (.getfield 23, 3) := by decide +kernel
theorem dX4_weigh_89 : decode cX4_weigh 89 = .ok (.iload_n 2, 1) := by decide +kernel
theorem dX4_weigh_90 : decode cX4_weigh 90 = .ok (.iaload, 1) := by decide +kernel
theorem dX4_weigh_91 : decode cX4_weigh 91 = .ok (.aload_n 0, 1) := by decide +kernel
theorem dX4_weigh_92 : decode cX4_weigh 92 = .ok (.iload_n 2, 1) := by decide +kernel
theorem dX4_weigh_93 : decode cX4_weigh 93 = .ok (.iload_n 3, 1) := by decide +kernel
theorem dX4_weigh_94 : decode cX4_weigh 94 = .ok (.iload 4, 2) := by decide +kernel
theorem dX4_weigh_96 : decode cX4_weigh 96 = .ok (.invokevirtual 44, 3) := by decide +kernel
theorem dX4_weigh_99 : decode cX4_weigh 99 = .ok (.invokestatic 48, 3) := by decide +kernel
theorem dX4_weigh_102 : decode cX4_weigh 102 = .ok (.iastore, 1) := by decide +kernel
theorem dX4_weigh_103 : decode cX4_weigh 103 = .ok (.iinc 4 1, 3) := by decide +kernel
theorem dX4_weigh_106 : decode cX4_weigh 106 = .ok (.goto (-43), 3) := by decide +kernel
theorem dX4_weigh_109 : decode cX4_weigh 109 = .ok (.iinc 2 1, 3) := by decide +kernel
theorem dX4_weigh_112 : decode cX4_weigh 112 = .ok (.goto (-98), 3) := by decide +kernel
theorem dX4_weigh_115 : decode cX4_weigh 115 = .ok (.return_, 1) := by decide +kernel
theorem dX4_leastCost_0 : decode cX4_leastCost 0 = .ok (.iload_n 1, 1) := by decide +kernel
theorem dX4_leastCost_1 : decode cX4_leastCost 1 = .ok (.ifCond .lt 21, 3) := by decide +kernel
theorem dX4_leastCost_4 : decode cX4_leastCost 4 = .ok (.iload_n 1, 1) := by decide +kernel
theorem dX4_leastCost_5 : decode cX4_leastCost 5 = .ok (.aload_n 0, 1) := by decide +kernel
theorem dX4_leastCost_6 : decode cX4_leastCost 6 = .ok (.getfield 23, 3) := by decide +kernel
theorem dX4_leastCost_9 : decode cX4_leastCost 9 = .ok (.arraylength, 1) := by decide +kernel
theorem dX4_leastCost_10 : decode cX4_leastCost 10 = .ok (.if_icmp .ge 12, 3) := by decide +kernel
theorem dX4_leastCost_13 : decode cX4_leastCost 13 = .ok (.aload_n 0, 1) := by decide +kernel
theorem dX4_leastCost_14 : decode cX4_leastCost 14 = .ok (.getfield 23, 3) := by decide +kernel
theorem dX4_leastCost_17 : decode cX4_leastCost 17 = .ok (.iload_n 1, 1) := by decide +kernel
theorem dX4_leastCost_18 : decode cX4_leastCost 18 = .ok (.iaload, 1) := by decide +kernel
theorem dX4_leastCost_19 : decode cX4_leastCost 19 = .ok (.goto 4, 3) := by decide +kernel
theorem dX4_leastCost_22 : decode cX4_leastCost 22 = .ok (.iconst 0, 1) := by decide +kernel
theorem dX4_leastCost_23 : decode cX4_leastCost 23 = .ok (.ireturn, 1) := by decide +kernel
set_option maxRecDepth 20000 in
theorem ggX4_partner_J6_numberOfTrailingZeros_0f7a4 : GoodIn wsX4_partner wsJ6_numberOfTrailingZeros_0f7a4 := goodIn_r _ [5, 6] (by decide +kernel) (by decide +kernel)
set_option maxRecDepth 20000 in
theorem gX4_partner_J6_numberOfTrailingZeros_0f7a4 : GoodIn wsX4_partner (va_wsS RX4 41 yJ6_numberOfTrailingZeros_0f7a4 wsJ6_numberOfTrailingZeros_0f7a4) := goodIn_app (goodIn_of _ (by decide +kernel)) ggX4_partner_J6_numberOfTrailingZeros_0f7a4
set_option maxRecDepth 20000 in
theorem ggX4_partner_X4_isBest : GoodIn wsX4_partner wsX4_isBest := goodIn_r _ [11, 1, 12, 13, 14, 10, 15, 16, 17, 18, 19, 20] (by decide +kernel) (by decide +kernel)
set_option maxRecDepth 20000 in
theorem gX4_partner_X4_isBest : GoodIn wsX4_partner (wsV RX4 53 RX4 yX4_isBest wsX4_isBest) := goodIn_app (goodIn_of _ (by decide +kernel)) ggX4_partner_X4_isBest
theorem dX4_partner_0 : decode cX4_partner 0 = .ok (.iload_n 1, 1) := by decide +kernel
theorem dX4_partner_1 : decode cX4_partner 1 = .ok (.istore_n 3, 1) := by decide +kernel
theorem dX4_partner_2 : decode cX4_partner 2 = .ok (.iconst 0, 1) := by decide +kernel
theorem dX4_partner_3 : decode cX4_partner 3 = .ok (.istore 4, 2) := by decide +kernel
theorem dX4_partner_5 : decode cX4_partner 5 = .ok (.iload 4, 2) := by decide +kernel
theorem dX4_partner_7 : decode cX4_partner 7 = .ok (.bipush 12, 2) := by decide +kernel
theorem dX4_partner_9 : decode cX4_partner 9 = .ok (.if_icmp .ge 91, 3) := by decide +kernel
theorem dX4_partner_12 : decode cX4_partner 12 = .ok (.iload_n 3, 1) := by decide +kernel
theorem dX4_partner_13 : decode cX4_partner 13 = .ok (.ifCond .le 87, 3) := by decide +kernel
theorem dX4_partner_16 : decode cX4_partner 16 = .ok (.iload_n 3, 1) := by decide +kernel
theorem dX4_partner_17 : decode cX4_partner 17 = .ok (.aload_n 0, 1) := by decide +kernel
theorem dX4_partner_18 : decode cX4_partner 18 = .ok (.getfield 23, 3) := by decide +kernel
theorem dX4_partner_21 : decode cX4_partner 21 = .ok (.arraylength, 1) := by decide +kernel
theorem dX4_partner_22 : decode cX4_partner 22 = .ok (.if_icmp .ge 78, 3) := by decide +kernel
theorem dX4_partner_25 : decode cX4_partner 25 = .ok (.iload_n 3, 1) := by decide +kernel
theorem dX4_partner_26 : decode cX4_partner 26 = .ok (.invokestatic 41, 3) := by decide +kernel
theorem dX4_partner_29 : decode cX4_partner 29 = .ok (.istore 5, 2) := by decide +kernel
theorem dX4_partner_31 : decode cX4_partner 31 = .ok (.iload 5, 2) := by decide +kernel
theorem dX4_partner_33 : decode cX4_partner 33 = .ok (.iconst 1, 1) := by decide +kernel
theorem dX4_partner_34 : decode cX4_partner 34 = .ok (.iadd, 1) := by decide +kernel
theorem dX4_partner_35 : decode cX4_partner 35 = .ok (.istore 6, 2) := by decide +kernel
theorem dX4_partner_37 : decode cX4_partner 37 = .ok (.iload 6, 2) := by decide +kernel
theorem dX4_partner_39 : decode cX4_partner 39 = .ok (.bipush 12, 2) := by decide +kernel
theorem dX4_partner_41 : decode cX4_partner 41 = .ok (.if_icmp .ge 21, 3) := by decide +kernel
theorem dX4_partner_44 : decode cX4_partner 44 = .ok (.aload_n 0, 1) := by decide +kernel
theorem dX4_partner_45 : decode cX4_partner 45 = .ok (.iload_n 3, 1) := by decide +kernel
theorem dX4_partner_46 : decode cX4_partner 46 = .ok (.iload 5, 2) := by decide +kernel
theorem dX4_partner_48 : decode cX4_partner 48 = .ok (.iload 6, 2) := by decide +kernel
theorem dX4_partner_50 : decode cX4_partner 50 = .ok (.invokevirtual 53, 3) := by decide +kernel
theorem dX4_partner_53 : decode cX4_partner 53 = .ok (.ifCond .ne 9, 3) := by decide +kernel
theorem dX4_partner_56 : decode cX4_partner 56 = .ok (.iinc 6 1, 3) := by decide +kernel
theorem dX4_partner_59 : decode cX4_partner 59 = .ok (.goto (-22), 3) := by decide +kernel
theorem dX4_partner_62 : decode cX4_partner 62 = .ok (.iload_n 2, 1) := by decide +kernel
theorem dX4_partner_63 : decode cX4_partner 63 = .ok (.iload 5, 2) := by decide +kernel
theorem dX4_partner_65 : decode cX4_partner 65 = .ok (.if_icmp .ne 6, 3) := by decide +kernel
theorem dX4_partner_68 : decode cX4_partner 68 = .ok (.iload 6, 2) := by decide +kernel
theorem dX4_partner_70 : decode cX4_partner 70 = .ok (.ireturn, 1) := by decide +kernel
theorem dX4_partner_71 : decode cX4_partner 71 = .ok (.iload_n 2, 1) := by decide +kernel
theorem dX4_partner_72 : decode cX4_partner 72 = .ok (.iload 6, 2) := by decide +kernel
theorem dX4_partner_74 : decode cX4_partner 74 = .ok (.if_icmp .ne 6, 3) := by decide +kernel
theorem dX4_partner_77 : decode cX4_partner 77 = .ok (.iload 5, 2) := by decide +kernel
theorem dX4_partner_79 : decode cX4_partner 79 = .ok (.ireturn, 1) := by decide +kernel
theorem dX4_partner_80 : decode cX4_partner 80 = .ok (.iload_n 3, 1) := by decide +kernel
theorem dX4_partner_81 : decode cX4_partner 81 = .ok (.iconst 1, 1) := by decide +kernel
theorem dX4_partner_82 : decode cX4_partner 82 = .ok (.iload 5, 2) := by decide +kernel
theorem dX4_partner_84 : decode cX4_partner 84 = .ok (.ishl, 1) := by decide +kernel
theorem dX4_partner_85 : decode cX4_partner 85 = .ok (.iconst 1, 1) := by decide +kernel
theorem dX4_partner_86 : decode cX4_partner 86 = .ok (.iload 6, 2) := by decide +kernel
theorem dX4_partner_88 : decode cX4_partner 88 = .ok (.ishl, 1) := by decide +kernel
theorem dX4_partner_89 : decode cX4_partner 89 = .ok (.ior, 1) := by decide +kernel
theorem dX4_partner_90 : decode cX4_partner 90 = .ok (.iconst (-1), 1) := by decide +kernel
theorem dX4_partner_91 : decode cX4_partner 91 = .ok (.ixor, 1) := by decide +kernel
theorem dX4_partner_92 : decode cX4_partner 92 = .ok (.iand, 1) := by decide +kernel
theorem dX4_partner_93 : decode cX4_partner 93 = .ok (.istore_n 3, 1) := by decide +kernel
theorem dX4_partner_94 : decode cX4_partner 94 = .ok (.iinc 4 1, 3) := by decide +kernel
theorem dX4_partner_97 : decode cX4_partner 97 = .ok (.goto (-92), 3) := by decide +kernel
theorem dX4_partner_100 : decode cX4_partner 100 = .ok (.iconst (-1), 1) := by decide +kernel
theorem dX4_partner_101 : decode cX4_partner 101 = .ok (.ireturn, 1) := by decide +kernel
set_option maxRecDepth 20000 in
theorem ggX4_isBest_X4_costWith : GoodIn wsX4_isBest wsX4_costWith := goodIn_r _ [6, 7, 1, 8, 9, 10, 11] (by decide +kernel) (by decide +kernel)
set_option maxRecDepth 20000 in
theorem gX4_isBest_X4_costWith : GoodIn wsX4_isBest (wsV RX4 44 RX4 yX4_costWith wsX4_costWith) := goodIn_app (goodIn_of _ (by decide +kernel)) ggX4_isBest_X4_costWith
theorem dX4_isBest_0 : decode cX4_isBest 0 = .ok (.iload_n 1, 1) := by decide +kernel
theorem dX4_isBest_1 : decode cX4_isBest 1 = .ok (.iload_n 3, 1) := by decide +kernel
theorem dX4_isBest_2 : decode cX4_isBest 2 = .ok (.ishr, 1) := by decide +kernel
theorem dX4_isBest_3 : decode cX4_isBest 3 = .ok (.iconst 1, 1) := by decide +kernel
theorem dX4_isBest_4 : decode cX4_isBest 4 = .ok (.iand, 1) := by decide +kernel
theorem dX4_isBest_5 : decode cX4_isBest 5 = .ok (.iconst 1, 1) := by decide +kernel
theorem dX4_isBest_6 : decode cX4_isBest 6 = .ok (.if_icmp .ne 23, 3) := by decide +kernel
theorem dX4_isBest_9 : decode cX4_isBest 9 = .ok (.aload_n 0, 1) := by decide +kernel
theorem dX4_isBest_10 : decode cX4_isBest 10 = .ok (.iload_n 1, 1) := by decide +kernel
theorem dX4_isBest_11 : decode cX4_isBest 11 = .ok (.iload_n 2, 1) := by decide +kernel
theorem dX4_isBest_12 : decode cX4_isBest 12 = .ok (.iload_n 3, 1) := by decide +kernel
theorem dX4_isBest_13 : decode cX4_isBest 13 = .ok (.invokevirtual 44, 3) := by decide +kernel
theorem dX4_isBest_16 : decode cX4_isBest 16 = .ok (.aload_n 0, 1) := by decide +kernel
theorem dX4_isBest_17 : decode cX4_isBest 17 = .ok (.getfield 23, 3) := by decide +kernel
theorem dX4_isBest_20 : decode cX4_isBest 20 = .ok (.iload_n 1, 1) := by decide +kernel
theorem dX4_isBest_21 : decode cX4_isBest 21 = .ok (.iaload, 1) := by decide +kernel
theorem dX4_isBest_22 : decode cX4_isBest 22 = .ok (.if_icmp .ne 7, 3) := by decide +kernel
theorem dX4_isBest_25 : decode cX4_isBest 25 = .ok (.iconst 1, 1) := by decide +kernel
theorem dX4_isBest_26 : decode cX4_isBest 26 = .ok (.goto 4, 3) := by decide +kernel
theorem dX4_isBest_29 : decode cX4_isBest 29 = .ok (.iconst 0, 1) := by decide +kernel
theorem dX4_isBest_30 : decode cX4_isBest 30 = .ok (.ireturn, 1) := by decide +kernel
theorem dX4_costWith_0 : decode cX4_costWith 0 = .ok (.aload_n 0, 1) := by decide +kernel
theorem dX4_costWith_1 : decode cX4_costWith 1 = .ok (.getfield 20, 3) := by decide +kernel
theorem dX4_costWith_4 : decode cX4_costWith 4 = .ok (.iload_n 2, 1) := by decide +kernel
theorem dX4_costWith_5 : decode cX4_costWith 5 = .ok (.aaload, 1) := by decide +kernel
theorem dX4_costWith_6 : decode cX4_costWith 6 = .ok (.iload_n 3, 1) := by decide +kernel
theorem dX4_costWith_7 : decode cX4_costWith 7 = .ok (.iaload, 1) := by decide +kernel
theorem dX4_costWith_8 : decode cX4_costWith 8 = .ok (.aload_n 0, 1) := by decide +kernel
theorem dX4_costWith_9 : decode cX4_costWith 9 = .ok (.getfield 23, 3) := by decide +kernel
theorem dX4_costWith_12 : decode cX4_costWith 12 = .ok (.iload_n 1, 1) := by decide +kernel
theorem dX4_costWith_13 : decode cX4_costWith 13 = .ok (.iconst 1, 1) := by decide +kernel
theorem dX4_costWith_14 : decode cX4_costWith 14 = .ok (.iload_n 2, 1) := by decide +kernel
theorem dX4_costWith_15 : decode cX4_costWith 15 = .ok (.ishl, 1) := by decide +kernel
theorem dX4_costWith_16 : decode cX4_costWith 16 = .ok (.iconst 1, 1) := by decide +kernel
theorem dX4_costWith_17 : decode cX4_costWith 17 = .ok (.iload_n 3, 1) := by decide +kernel
theorem dX4_costWith_18 : decode cX4_costWith 18 = .ok (.ishl, 1) := by decide +kernel
theorem dX4_costWith_19 : decode cX4_costWith 19 = .ok (.ior, 1) := by decide +kernel
theorem dX4_costWith_20 : decode cX4_costWith 20 = .ok (.iconst (-1), 1) := by decide +kernel
theorem dX4_costWith_21 : decode cX4_costWith 21 = .ok (.ixor, 1) := by decide +kernel
theorem dX4_costWith_22 : decode cX4_costWith 22 = .ok (.iand, 1) := by decide +kernel
theorem dX4_costWith_23 : decode cX4_costWith 23 = .ok (.iaload, 1) := by decide +kernel
theorem dX4_costWith_24 : decode cX4_costWith 24 = .ok (.iadd, 1) := by decide +kernel
theorem dX4_costWith_25 : decode cX4_costWith 25 = .ok (.ireturn, 1) := by decide +kernel
set_option maxRecDepth 20000 in
theorem ggX5_init_X9_init : GoodIn wsX5_init wsX9_init := goodIn_r _ [19, 20, 2, 3, 16, 21, 22, 23, 24, 25, 26, 38, 39, 40, 41, 42, 43, 44, 45, 46, 47, 48] (by decide +kernel) (by decide +kernel)
set_option maxRecDepth 20000 in
theorem gX5_init_X9_init_n9 : GoodIn wsX5_init (wsX9_init) := ggX5_init_X9_init
set_option maxRecDepth 20000 in
theorem ggX5_init_X3_init : GoodIn wsX5_init wsX3_init := goodIn_r _ [29, 30, 2, 3, 31, 32, 5, 6, 18, 19, 20, 16, 21, 22, 23, 24, 25, 26, 54, 55, 38, 39, 40, 41, 42, 43, 44, 45, 46, 47, 48] (by decide +kernel) (by decide +kernel)
set_option maxRecDepth 20000 in
theorem gX5_init_X3_init : GoodIn wsX5_init (wsX3_init) := ggX5_init_X3_init
set_option maxRecDepth 20000 in
theorem ggX5_init_X8_init : GoodIn wsX5_init wsX8_init := goodIn_r _ [34, 35, 2, 3, 16, 36, 37, 56, 57, 58, 59] (by decide +kernel) (by decide +kernel)
set_option maxRecDepth 20000 in
theorem gX5_init_X8_init_n25 : GoodIn wsX5_init (wsX8_init) := ggX5_init_X8_init
theorem dX5_init_0 : decode cX5_init 0 = .ok (.aload_n 0, 1) := by decide +kernel
theorem dX5_init_1 : decode cX5_init 1 = .ok (.invokespecial 1, 3) := by decide +kernel
theorem dX5_init_4 : decode cX5_init 4 = .ok (.aload_n 0, 1) := by decide +kernel
theorem dX5_init_5 : decode cX5_init 5 = .ok (.new 7, 3) := by decide +kernel
theorem dX5_init_8 : decode cX5_init 8 = .ok (.dup, 1) := by decide +kernel
theorem dX5_init_9 : decode cX5_init 9 = .ok (.invokespecial 9, 3) := by decide +kernel
theorem dX5_init_12 : decode cX5_init 12 = .ok (.putfield 10, 3) := by decide +kernel
theorem dX5_init_15 : decode cX5_init 15 = .ok (.aload_n 0, 1) := by decide +kernel
theorem dX5_init_16 : decode cX5_init 16 = .ok (.new 16, 3) := by decide +kernel
theorem dX5_init_19 : decode cX5_init 19 = .ok (.dup, 1) := by decide +kernel
theorem dX5_init_20 : decode cX5_init 20 = .ok (.invokespecial 18, 3) := by decide +kernel
theorem dX5_init_23 : decode cX5_init 23 = .ok (.putfield 19, 3) := by decide +kernel
theorem dX5_init_26 : decode cX5_init 26 = .ok (.aload_n 0, 1) := by decide +kernel
theorem dX5_init_27 : decode cX5_init 27 = .ok (.new 23, 3) := by decide +kernel
theorem dX5_init_30 : decode cX5_init 30 = .ok (.dup, 1) := by decide +kernel
theorem dX5_init_31 : decode cX5_init 31 = .ok (.invokespecial 25, 3) := by decide +kernel
theorem dX5_init_34 : decode cX5_init 34 = .ok (.putfield 26, 3) := by decide +kernel
theorem dX5_init_37 : decode cX5_init 37 = .ok (.aload_n 0, 1) := by decide +kernel
theorem dX5_init_38 : decode cX5_init 38 = .ok (.iconst 3, 1) := by decide +kernel
theorem dX5_init_39 : decode cX5_init 39 = .ok (.newarray .int, 2) := by decide +kernel
theorem dX5_init_41 : decode cX5_init 41 = .ok (.putfield 30, 3) := by decide +kernel
theorem dX5_init_44 : decode cX5_init 44 = .ok (.return_, 1) := by decide +kernel
set_option maxRecDepth 20000 in
theorem ggX6_init_X9_init : GoodIn wsX6_init wsX9_init := goodIn_r _ [16, 17, 2, 3, 18, 19, 20, 21, 22, 23, 24, 31, 32, 33, 34, 35, 36, 37, 38, 39, 40, 41] (by decide +kernel) (by decide +kernel)
set_option maxRecDepth 20000 in
theorem gX6_init_X9_init_n11 : GoodIn wsX6_init (wsX9_init) := ggX6_init_X9_init
set_option maxRecDepth 20000 in
theorem ggX6_init_X7_init : GoodIn wsX6_init wsX7_init := goodIn_r _ [26, 27, 2, 3, 18, 28, 29, 30, 54, 55, 56, 57] (by decide +kernel) (by decide +kernel)
set_option maxRecDepth 20000 in
theorem gX6_init_X7_init_n20 : GoodIn wsX6_init (wsX7_init) := ggX6_init_X7_init
theorem dX6_init_0 : decode cX6_init 0 = .ok (.aload_n 0, 1) := by decide +kernel
theorem dX6_init_1 : decode cX6_init 1 = .ok (.invokespecial 3, 3) := by decide +kernel
theorem dX6_init_4 : decode cX6_init 4 = .ok (.aload_n 0, 1) := by decide +kernel
theorem dX6_init_5 : decode cX6_init 5 = .ok (.new 9, 3) := by decide +kernel
theorem dX6_init_8 : decode cX6_init 8 = .ok (.dup, 1) := by decide +kernel
theorem dX6_init_9 : decode cX6_init 9 = .ok (.invokespecial 11, 3) := by decide +kernel
theorem dX6_init_12 : decode cX6_init 12 = .ok (.putfield 12, 3) := by decide +kernel
theorem dX6_init_15 : decode cX6_init 15 = .ok (.aload_n 0, 1) := by decide +kernel
theorem dX6_init_16 : decode cX6_init 16 = .ok (.new 18, 3) := by decide +kernel
theorem dX6_init_19 : decode cX6_init 19 = .ok (.dup, 1) := by decide +kernel
theorem dX6_init_20 : decode cX6_init 20 = .ok (.invokespecial 20, 3) := by decide +kernel
theorem dX6_init_23 : decode cX6_init 23 = .ok (.putfield 21, 3) := by decide +kernel
theorem dX6_init_26 : decode cX6_init 26 = .ok (.aload_n 0, 1) := by decide +kernel
theorem dX6_init_27 : decode cX6_init 27 = .ok (.iconst (-1), 1) := by decide +kernel
theorem dX6_init_28 : decode cX6_init 28 = .ok (.putfield 25, 3) := by decide +kernel
theorem dX6_init_31 : decode cX6_init 31 = .ok (.aload_n 0, 1) := by decide +kernel
theorem dX6_init_32 : decode cX6_init 32 = .ok (.sipush 600, 3) := by decide +kernel
theorem dX6_init_35 : decode cX6_init 35 = .ok (.newarray .byte, 2) := by decide +kernel
theorem dX6_init_37 : decode cX6_init 37 = .ok (.putfield 29, 3) := by decide +kernel
theorem dX6_init_40 : decode cX6_init 40 = .ok (.return_, 1) := by decide +kernel
theorem dX6_append_0 : decode cX6_append 0 = .ok (.bipush 24, 2) := by decide +kernel
theorem dX6_append_2 : decode cX6_append 2 = .ok (.istore_n 2, 1) := by decide +kernel
theorem dX6_append_3 : decode cX6_append 3 = .ok (.iload_n 2, 1) := by decide +kernel
theorem dX6_append_4 : decode cX6_append 4 = .ok (.ifCond .lt 44, 3) := by decide +kernel
theorem dX6_append_7 : decode cX6_append 7 = .ok (.aload_n 0, 1) := by decide +kernel
theorem dX6_append_8 : decode cX6_append 8 = .ok (.getfield 33, 3) := by decide +kernel
theorem dX6_append_11 : decode cX6_append 11 = .ok (.aload_n 0, 1) := by decide +kernel
theorem dX6_append_12 : decode cX6_append 12 = .ok (.getfield 29, 3) := by decide +kernel
theorem dX6_append_15 : decode cX6_append 15 = .ok (.arraylength, 1) := by decide +kernel
theorem dX6_append_16 : decode cX6_append 16 = .ok (.if_icmp .ge 26, 3) := by decide +kernel
theorem dX6_append_19 : decode cX6_append 19 = .ok (.aload_n 0, 1) := by decide +kernel
theorem dX6_append_20 : decode cX6_append 20 = .ok (.getfield 29, 3) := by decide +kernel
theorem dX6_append_23 : decode cX6_append 23 = .ok (.aload_n 0, 1) := by decide +kernel
theorem dX6_append_24 : decode cX6_append 24 = .ok (.getfield 33, 3) := by decide +kernel
theorem dX6_append_27 : decode cX6_append 27 = .ok (.iload_n 1, 1) := by decide +kernel
theorem dX6_append_28 : decode cX6_append 28 = .ok (.iload_n 2, 1) := by decide +kernel
theorem dX6_append_29 : decode cX6_append 29 = .ok (.ishr, 1) := by decide +kernel
theorem dX6_append_30 : decode cX6_append 30 = .ok (.i2b, 1) := by decide +kernel
theorem dX6_append_31 : decode cX6_append 31 = .ok (.bastore, 1) := by decide +kernel
theorem dX6_append_32 : decode cX6_append 32 = .ok (.aload_n 0, 1) := by decide +kernel
theorem dX6_append_33 : decode cX6_append 33 = .ok (.dup, 1) := by decide +kernel
theorem dX6_append_34 : decode cX6_append 34 = .ok (.getfield 33, 3) := by decide +kernel
theorem dX6_append_37 : decode cX6_append 37 = .ok (.iconst 1, 1) := by decide +kernel
theorem dX6_append_38 : decode cX6_append 38 = .ok (.iadd, 1) := by decide +kernel
theorem dX6_append_39 : decode cX6_append 39 = .ok (.putfield 33, 3) := by decide +kernel
theorem dX6_append_42 : decode cX6_append 42 = .ok (.iinc 2 (-8), 3) := by decide +kernel
theorem dX6_append_45 : decode cX6_append 45 = .ok (.goto (-42), 3) := by decide +kernel
theorem dX6_append_48 : decode cX6_append 48 = .ok (.return_, 1) := by decide +kernel
set_option maxRecDepth 20000 in
theorem ggX6_parse_X9_clear : GoodIn wsX6_parse wsX9_clear := goodIn_r _ [13, 14, 15, 16, 17, 18, 204, 205, 206, 207, 208, 209, 210, 211, 212, 213, 214] (by decide +kernel) (by decide +kernel)
set_option maxRecDepth 20000 in
theorem gX6_parse_X9_clear : GoodIn wsX6_parse (wsV RX6 39 RX9 yX9_clear wsX9_clear) := goodIn_app (goodIn_of _ (by decide +kernel)) ggX6_parse_X9_clear
set_option maxRecDepth 20000 in
theorem ggX6_parse_X7_clear : GoodIn wsX6_parse wsX7_clear := goodIn_r _ [23, 24, 215, 216, 217, 218] (by decide +kernel) (by decide +kernel)
set_option maxRecDepth 20000 in
theorem gX6_parse_X7_clear : GoodIn wsX6_parse (wsV RX6 42 RX7 yX7_clear wsX7_clear) := goodIn_app (goodIn_of _ (by decide +kernel)) ggX6_parse_X7_clear
set_option maxRecDepth 20000 in
theorem ggX6_parse_X6_accept : GoodIn wsX6_parse wsX6_accept := goodIn_r _ [29, 5, 7, 30, 2, 31, 8, 32, 33, 28, 34, 35, 36, 37, 38, 39, 40, 41, 42, 43, 44, 45, 46, 47, 48, 49, 50, 51, 52, 53, 54, 55, 56, 57, 58, 59, 60, 61, 62, 63, 64, 65, 66, 67, 68, 69, 70, 71, 72, 73, 74, 75, 76, 77, 78, 79, 80, 81, 82, 83, 84, 85, 86, 87, 88, 89, 90, 91, 92, 93, 94, 95, 96, 97, 98, 99, 100, 101, 102, 103, 104, 105, 106, 107, 108, 109, 192, 193, 194, 195, 196, 197, 198, 199, 200, 201, 202, 203] (by decide +kernel) (by decide +kernel)
set_option maxRecDepth 20000 in
theorem gX6_parse_X6_accept : GoodIn wsX6_parse (wsV RX6 49 RX6 yX6_accept wsX6_accept) := goodIn_app (goodIn_of _ (by decide +kernel)) ggX6_parse_X6_accept
set_option maxRecDepth 20000 in
theorem ggX6_parse_X6_line : GoodIn wsX6_parse wsX6_line := goodIn_r _ [113, 8, 4, 114, 115, 116, 28, 117, 3, 118, 5, 119, 120, 121, 122, 30, 6, 25, 26, 27, 29, 7, 2, 31, 32, 33, 34, 35, 36, 37, 38, 39, 40, 41, 42, 43, 44, 45, 46, 47, 48, 49, 50, 51, 52, 53, 54, 55, 56, 57, 58, 59, 60, 61, 62, 63, 64, 65, 66, 67, 68, 69, 70, 71, 72, 73, 74, 75, 76, 77, 78, 79, 80, 81, 82, 83, 84, 85, 86, 87, 88, 89, 90, 91, 92, 93, 94, 95, 96, 97, 98, 99, 100, 101, 102, 103, 104, 105, 106, 107, 108, 109, 123, 124, 125, 126, 127, 128, 129, 12, 130, 14, 131, 132, 133, 134, 135, 136, 137, 138, 139, 140, 141, 142, 15, 143, 144, 145, 146, 147, 148, 149, 150, 151, 152, 153, 22, 154, 24, 155, 156, 157, 158, 159, 160, 161, 162, 163, 164, 165, 166, 167, 168, 169, 170, 171, 172, 173, 174, 175, 176, 177, 178, 179, 180, 181, 182, 183, 184, 185, 186, 187, 188, 189, 190, 191, 192, 193, 194, 195, 196, 197, 198, 199, 200, 201, 202, 203, 204, 205, 206, 207, 208, 209, 210, 211, 212, 213, 214, 215, 216, 217, 218] (by decide +kernel) (by decide +kernel)
set_option maxRecDepth 20000 in
theorem gX6_parse_X6_line : GoodIn wsX6_parse (wsV RX6 55 RX6 yX6_line wsX6_line) := goodIn_app (goodIn_of _ (by decide +kernel)) ggX6_parse_X6_line
theorem dX6_parse_0 : decode cX6_parse 0 = .ok (.aload_n 0, 1) := by decide +kernel
theorem dX6_parse_1 : decode cX6_parse 1 = .ok (.iload_n 1, 1) := by decide +kernel
theorem dX6_parse_2 : decode cX6_parse 2 = .ok (.ifCond .ge 7, 3) := by decide +kernel
theorem dX6_parse_5 : decode cX6_parse 5 = .ok (.iconst 0, 1) := by decide +kernel
theorem dX6_parse_6 : decode cX6_parse 6 = .ok (.goto 19, 3) := by decide +kernel
theorem dX6_parse_9 : decode cX6_parse 9 = .ok (.iload_n 1, 1) := by decide +kernel
theorem dX6_parse_10 : decode cX6_parse 10 = .ok (.aload_n 0, 1) := by decide +kernel
theorem dX6_parse_11 : decode cX6_parse 11 = .ok (.getfield 33, 3) := by decide +kernel
theorem dX6_parse_14 : decode cX6_parse 14 = .ok (.if_icmp .le 10, 3) := by decide +kernel
theorem dX6_parse_17 : decode cX6_parse 17 = .ok (.aload_n 0, 1) := by decide +kernel
theorem dX6_parse_18 : decode cX6_parse 18 = .ok (.getfield 33, 3) := by decide +kernel
theorem dX6_parse_21 : decode cX6_parse 21 = .ok (.goto 4, 3) := by decide +kernel
theorem dX6_parse_24 : decode cX6_parse 24 = .ok (.iload_n 1, 1) := by decide +kernel
theorem dX6_parse_25 : decode cX6_parse 25 = .ok (.putfield 36, 3) := by decide +kernel
theorem dX6_parse_28 : decode cX6_parse 28 = .ok (.aload_n 0, 1) := by decide +kernel
theorem dX6_parse_29 : decode cX6_parse 29 = .ok (.getfield 12, 3) := by decide +kernel
theorem dX6_parse_32 : decode cX6_parse 32 = .ok (.invokevirtual 39, 3) := by decide +kernel
theorem dX6_parse_35 : decode cX6_parse 35 = .ok (.aload_n 0, 1) := by decide +kernel
theorem dX6_parse_36 : decode cX6_parse 36 = .ok (.getfield 21, 3) := by decide +kernel
theorem dX6_parse_39 : decode cX6_parse 39 = .ok (.invokevirtual 42, 3) := by decide +kernel
theorem dX6_parse_42 : decode cX6_parse 42 = .ok (.aload_n 0, 1) := by decide +kernel
theorem dX6_parse_43 : decode cX6_parse 43 = .ok (.iconst 0, 1) := by decide +kernel
theorem dX6_parse_44 : decode cX6_parse 44 = .ok (.putfield 43, 3) := by decide +kernel
theorem dX6_parse_47 : decode cX6_parse 47 = .ok (.aload_n 0, 1) := by decide +kernel
theorem dX6_parse_48 : decode cX6_parse 48 = .ok (.iconst (-1), 1) := by decide +kernel
theorem dX6_parse_49 : decode cX6_parse 49 = .ok (.putfield 25, 3) := by decide +kernel
theorem dX6_parse_52 : decode cX6_parse 52 = .ok (.aload_n 0, 1) := by decide +kernel
theorem dX6_parse_53 : decode cX6_parse 53 = .ok (.iconst 0, 1) := by decide +kernel
theorem dX6_parse_54 : decode cX6_parse 54 = .ok (.putfield 46, 3) := by decide +kernel
theorem dX6_parse_57 : decode cX6_parse 57 = .ok (.aload_n 0, 1) := by decide +kernel
theorem dX6_parse_58 : decode cX6_parse 58 = .ok (.invokevirtual 49, 3) := by decide +kernel
theorem dX6_parse_61 : decode cX6_parse 61 = .ok (.iconst 0, 1) := by decide +kernel
theorem dX6_parse_62 : decode cX6_parse 62 = .ok (.istore_n 2, 1) := by decide +kernel
theorem dX6_parse_63 : decode cX6_parse 63 = .ok (.iload_n 2, 1) := by decide +kernel
theorem dX6_parse_64 : decode cX6_parse 64 = .ok (.sipush 600, 3) := by decide +kernel
theorem dX6_parse_67 : decode cX6_parse 67 = .ok (.if_icmp .ge 27, 3) := by decide +kernel
theorem dX6_parse_70 : decode cX6_parse 70 = .ok (.aload_n 0, 1) := by decide +kernel
theorem dX6_parse_71 : decode cX6_parse 71 = .ok (.getfield 43, 3) := by decide +kernel
theorem dX6_parse_74 : decode cX6_parse 74 = .ok (.ifCond .ne 20, 3) := by decide +kernel
theorem dX6_parse_77 : decode cX6_parse 77 = .ok (.aload_n 0, 1) := by decide +kernel
theorem dX6_parse_78 : decode cX6_parse 78 = .ok (.getfield 52, 3) := by decide +kernel
theorem dX6_parse_81 : decode cX6_parse 81 = .ok (.ifCond .eq 13, 3) := by decide +kernel
theorem dX6_parse_84 : decode cX6_parse 84 = .ok (.aload_n 0, 1) := by decide +kernel
theorem dX6_parse_85 : decode cX6_parse 85 = .ok (.invokevirtual 55, 3) := by decide +kernel
theorem dX6_parse_88 : decode cX6_parse 88 = .ok (.iinc 2 1, 3) := by decide +kernel
theorem dX6_parse_91 : decode cX6_parse 91 = .ok (.goto (-28), 3) := by decide +kernel
theorem dX6_parse_94 : decode cX6_parse 94 = .ok (.aload_n 0, 1) := by decide +kernel
theorem dX6_parse_95 : decode cX6_parse 95 = .ok (.iconst 0, 1) := by decide +kernel
theorem dX6_parse_96 : decode cX6_parse 96 = .ok (.putfield 33, 3) := by decide +kernel
theorem dX6_parse_99 : decode cX6_parse 99 = .ok (.aload_n 0, 1) := by decide +kernel
theorem dX6_parse_100 : decode cX6_parse 100 = .ok (.getfield 43, 3) := by decide +kernel
theorem dX6_parse_103 : decode cX6_parse 103 = .ok (.ireturn, 1) := by decide +kernel
theorem dX6_fail_0 : decode cX6_fail 0 = .ok (.aload_n 0, 1) := by decide +kernel
theorem dX6_fail_1 : decode cX6_fail 1 = .ok (.getfield 43, 3) := by decide +kernel
theorem dX6_fail_4 : decode cX6_fail 4 = .ok (.ifCond .ne 16, 3) := by decide +kernel
theorem dX6_fail_7 : decode cX6_fail 7 = .ok (.aload_n 0, 1) := by decide +kernel
theorem dX6_fail_8 : decode cX6_fail 8 = .ok (.iload_n 1, 1) := by decide +kernel
theorem dX6_fail_9 : decode cX6_fail 9 = .ok (.putfield 43, 3) := by decide +kernel
theorem dX6_fail_12 : decode cX6_fail 12 = .ok (.aload_n 0, 1) := by decide +kernel
theorem dX6_fail_13 : decode cX6_fail 13 = .ok (.aload_n 0, 1) := by decide +kernel
theorem dX6_fail_14 : decode cX6_fail 14 = .ok (.getfield 58, 3) := by decide +kernel
theorem dX6_fail_17 : decode cX6_fail 17 = .ok (.putfield 25, 3) := by decide +kernel
theorem dX6_fail_20 : decode cX6_fail 20 = .ok (.return_, 1) := by decide +kernel
set_option maxRecDepth 20000 in
theorem ggX6_line_X6_houseLine : GoodIn wsX6_line wsX6_houseLine := goodIn_r _ [7, 8, 9, 10, 11, 12, 13, 6, 14, 15, 16, 17, 18, 19, 20, 21, 22, 23, 1, 24, 25, 26, 27, 28, 29, 30, 31, 32, 33, 34, 35, 36, 37, 38, 39, 40, 41, 42, 43, 44, 45, 46, 47, 48, 49, 50, 51, 52, 53, 54, 55, 56, 57, 58, 59, 60, 61, 62, 63, 64, 65, 66, 67, 68, 69, 70, 71, 72, 73, 74, 75, 76, 77, 78, 79, 80, 81, 82, 83, 84, 85, 86, 87, 88, 89, 90, 91, 92, 93, 94, 95, 96, 97, 98, 99, 100, 101, 102, 103, 104, 105, 106, 107, 108, 109, 110, 111, 112, 113, 114, 176, 177, 178, 179, 180, 181, 182, 183, 184, 185, 186, 187, 188, 189, 190, 191, 192, 193, 194, 195, 196, 197, 198] (by decide +kernel) (by decide +kernel)
set_option maxRecDepth 20000 in
theorem gX6_line_X6_houseLine : GoodIn wsX6_line (wsV RX6 61 RX6 yX6_houseLine wsX6_houseLine) := goodIn_app (goodIn_of _ (by decide +kernel)) ggX6_line_X6_houseLine
set_option maxRecDepth 20000 in
theorem ggX6_line_X6_lampLine : GoodIn wsX6_line wsX6_lampLine := goodIn_r _ [118, 8, 119, 9, 10, 11, 12, 13, 6, 14, 15, 16, 17, 18, 19, 20, 21, 22, 23, 1, 24, 25, 26, 27, 28, 29, 30, 31, 32, 33, 34, 35, 36, 37, 38, 39, 40, 41, 42, 43, 44, 45, 46, 47, 48, 49, 50, 51, 52, 53, 54, 55, 56, 57, 58, 59, 60, 61, 62, 63, 64, 65, 66, 67, 68, 69, 70, 71, 72, 73, 74, 75, 76, 77, 78, 79, 80, 81, 82, 83, 84, 85, 86, 87, 88, 89, 90, 91, 92, 93, 94, 95, 96, 97, 98, 99, 100, 101, 102, 103, 104, 105, 120, 121, 122, 109, 123, 124, 125, 126, 127, 176, 177, 178, 179, 180, 181, 182, 183, 184, 185, 186, 187, 188, 189, 190, 191, 192, 193, 194, 195, 196, 197, 198] (by decide +kernel) (by decide +kernel)
set_option maxRecDepth 20000 in
theorem gX6_line_X6_lampLine : GoodIn wsX6_line (wsV RX6 65 RX6 yX6_lampLine wsX6_lampLine) := goodIn_app (goodIn_of _ (by decide +kernel)) ggX6_line_X6_lampLine
set_option maxRecDepth 20000 in
theorem ggX6_line_X6_twinsLine : GoodIn wsX6_line wsX6_twinsLine := goodIn_r _ [131, 8, 119, 10, 132, 17, 18, 19, 6, 20, 21, 15, 22, 23, 1, 24, 25, 26, 27, 28, 29, 30, 31, 32, 33, 34, 35, 36, 37, 38, 39, 40, 41, 42, 43, 44, 45, 46, 47, 48, 49, 50, 51, 52, 53, 54, 55, 56, 57, 58, 59, 60, 61, 62, 63, 64, 65, 66, 67, 68, 69, 70, 71, 72, 73, 74, 75, 76, 77, 78, 79, 80, 81, 82, 83, 84, 85, 86, 87, 88, 89, 90, 91, 92, 93, 94, 95, 96, 97, 98, 99, 100, 101, 102, 103, 104, 105, 11, 12, 13, 14, 16, 176, 177, 178, 179, 180, 181, 182, 183, 184, 185, 186, 187, 188, 189, 190, 191, 192, 193, 194, 195, 196, 197, 198] (by decide +kernel) (by decide +kernel)
set_option maxRecDepth 20000 in
theorem gX6_line_X6_twinsLine : GoodIn wsX6_line (wsV RX6 68 RX6 yX6_twinsLine wsX6_twinsLine) := goodIn_app (goodIn_of _ (by decide +kernel)) ggX6_line_X6_twinsLine
set_option maxRecDepth 20000 in
theorem ggX6_line_X7_isTold : GoodIn wsX6_line wsX7_isTold := goodIn_r _ [137, 138, 199, 200, 201, 202] (by decide +kernel) (by decide +kernel)
set_option maxRecDepth 20000 in
theorem gX6_line_X7_isTold : GoodIn wsX6_line (wsV RX6 71 RX7 yX7_isTold wsX7_isTold) := goodIn_app (goodIn_of _ (by decide +kernel)) ggX6_line_X7_isTold
set_option maxRecDepth 20000 in
theorem ggX6_line_X6_fail : GoodIn wsX6_line wsX6_fail := goodIn_r _ [14, 10, 15, 16, 176, 177, 178, 179, 180, 181, 182, 183, 184, 185, 186, 187] (by decide +kernel) (by decide +kernel)
set_option maxRecDepth 20000 in
theorem gX6_line_X6_fail : GoodIn wsX6_line (wsV RX6 75 RX6 yX6_fail wsX6_fail) := goodIn_app (goodIn_of _ (by decide +kernel)) ggX6_line_X6_fail
set_option maxRecDepth 20000 in
theorem ggX6_line_X6_accept : GoodIn wsX6_line wsX6_accept := goodIn_r _ [20, 10, 21, 15, 22, 23, 1, 24, 25, 6, 26, 27, 28, 29, 30, 31, 32, 33, 34, 35, 36, 37, 38, 39, 40, 41, 42, 43, 44, 45, 46, 47, 48, 49, 50, 51, 52, 53, 54, 55, 56, 57, 58, 59, 60, 61, 62, 63, 64, 65, 66, 67, 68, 69, 70, 71, 72, 73, 74, 75, 76, 77, 78, 79, 80, 81, 82, 83, 84, 85, 86, 87, 88, 89, 90, 91, 92, 93, 94, 95, 96, 97, 98, 99, 100, 101, 176, 177, 178, 179, 180, 181, 182, 183, 184, 185, 186, 187] (by decide +kernel) (by decide +kernel)
set_option maxRecDepth 20000 in
theorem gX6_line_X6_accept : GoodIn wsX6_line (wsV RX6 49 RX6 yX6_accept wsX6_accept) := goodIn_app (goodIn_of _ (by decide +kernel)) ggX6_line_X6_accept
set_option maxRecDepth 20000 in
theorem ggX6_line_X6_expression : GoodIn wsX6_line wsX6_expression := goodIn_r _ [142, 10, 1, 2, 11, 12, 13, 6, 14, 15, 16, 143, 144, 145, 17, 18, 19, 20, 21, 22, 23, 24, 25, 26, 27, 28, 29, 30, 31, 32, 33, 34, 35, 36, 37, 38, 39, 40, 41, 42, 43, 44, 45, 46, 47, 48, 49, 50, 51, 52, 53, 54, 55, 56, 57, 58, 59, 60, 61, 62, 63, 64, 65, 66, 67, 68, 69, 70, 71, 72, 73, 74, 75, 76, 77, 78, 79, 80, 81, 82, 83, 84, 85, 86, 87, 88, 89, 90, 91, 92, 93, 94, 95, 96, 97, 98, 99, 100, 101, 146, 147, 148, 136, 149, 138, 150, 151, 152, 153, 154, 155, 156, 157, 158, 159, 160, 161, 162, 163, 139, 140, 141, 164, 165, 166, 167, 168, 169, 170, 171, 172, 173, 174, 175, 176, 177, 178, 179, 180, 181, 182, 183, 184, 185, 186, 187, 199, 200, 201, 202] (by decide +kernel) (by decide +kernel)
set_option maxRecDepth 20000 in
theorem gX6_line_X6_expression : GoodIn wsX6_line (wsV RX6 78 RX6 yX6_expression wsX6_expression) := goodIn_app (goodIn_of _ (by decide +kernel)) ggX6_line_X6_expression
set_option maxRecDepth 20000 in
theorem ggX6_line_X6_expect : GoodIn wsX6_line wsX6_expect := goodIn_r _ [167, 1, 11, 12, 13, 6, 14, 10, 15, 16, 17, 18, 19, 20, 21, 22, 23, 24, 25, 26, 27, 28, 29, 30, 31, 32, 33, 34, 35, 36, 37, 38, 39, 40, 41, 42, 43, 44, 45, 46, 47, 48, 49, 50, 51, 52, 53, 54, 55, 56, 57, 58, 59, 60, 61, 62, 63, 64, 65, 66, 67, 68, 69, 70, 71, 72, 73, 74, 75, 76, 77, 78, 79, 80, 81, 82, 83, 84, 85, 86, 87, 88, 89, 90, 91, 92, 93, 94, 95, 96, 97, 98, 99, 100, 101, 176, 177, 178, 179, 180, 181, 182, 183, 184, 185, 186, 187] (by decide +kernel) (by decide +kernel)
set_option maxRecDepth 20000 in
theorem gX6_line_X6_expect : GoodIn wsX6_line (wsV RX6 81 RX6 yX6_expect wsX6_expect) := goodIn_app (goodIn_of _ (by decide +kernel)) ggX6_line_X6_expect
theorem dX6_line_0 : decode cX6_line 0 = .ok (.aload_n 0, 1) := by decide +kernel
theorem dX6_line_1 : decode cX6_line 1 = .ok (.getfield 52, 3) := by decide +kernel
theorem dX6_line_4 : decode cX6_line 4 = .ok (.sipush 300, 3) := by decide +kernel
theorem dX6_line_7 : decode cX6_line 7 = .ok (.if_icmp .lt 28, 3) := by decide +kernel
theorem dX6_line_10 : decode cX6_line 10 = .ok (.aload_n 0, 1) := by decide +kernel
theorem dX6_line_11 : decode cX6_line 11 = .ok (.getfield 52, 3) := by decide +kernel
theorem dX6_line_14 : decode cX6_line 14 = .ok (.sipush 303, 3) := by decide +kernel
theorem dX6_line_17 : decode cX6_line 17 = .ok (.if_icmp .gt 18, 3) := by decide +kernel
theorem dX6_line_20 : decode cX6_line 20 = .ok (.aload_n 0, 1) := by decide +kernel
theorem dX6_line_21 : decode cX6_line 21 = .ok (.aload_n 0, 1) := by decide +kernel
theorem dX6_line_22 : decode cX6_line 22 = .ok (.getfield 52, 3) := by decide +kernel
theorem dX6_line_25 : decode cX6_line 25 = .ok (.sipush 300, 3) := by decide +kernel
theorem dX6_line_28 : decode cX6_line 28 = .ok (.isub, 1) := by decide +kernel
theorem dX6_line_29 : decode cX6_line 29 = .ok (.invokevirtual 61, 3) := by decide +kernel
theorem dX6_line_32 : decode cX6_line 32 = .ok (.goto 79, 3) := by decide +kernel
theorem dX6_line_35 : decode cX6_line 35 = .ok (.aload_n 0, 1) := by decide +kernel
theorem dX6_line_36 : decode cX6_line 36 = .ok (.getfield 52, 3) := by decide +kernel
theorem dX6_line_39 : decode cX6_line 39 = .ok (.sipush 304, 3) := by decide +kernel
theorem dX6_line_42 : decode cX6_line 42 = .ok (.if_icmp .ne 10, 3) := by decide +kernel
theorem dX6_line_45 : decode cX6_line 45 = .ok (.aload_n 0, 1) := by decide +kernel
theorem dX6_line_46 : decode cX6_line 46 = .ok (.invokevirtual 65, 3) := by decide +kernel
theorem dX6_line_49 : decode cX6_line 49 = .ok (.goto 62, 3) := by decide +kernel
theorem dX6_line_52 : decode cX6_line 52 = .ok (.aload_n 0, 1) := by decide +kernel
theorem dX6_line_53 : decode cX6_line 53 = .ok (.getfield 52, 3) := by decide +kernel
theorem dX6_line_56 : decode cX6_line 56 = .ok (.sipush 305, 3) := by decide +kernel
theorem dX6_line_59 : decode cX6_line 59 = .ok (.if_icmp .ne 10, 3) := by decide +kernel
theorem dX6_line_62 : decode cX6_line 62 = .ok (.aload_n 0, 1) := by decide +kernel
theorem dX6_line_63 : decode cX6_line 63 = .ok (.invokevirtual 68, 3) := by decide +kernel
theorem dX6_line_66 : decode cX6_line 66 = .ok (.goto 45, 3) := by decide +kernel
theorem dX6_line_69 : decode cX6_line 69 = .ok (.aload_n 0, 1) := by decide +kernel
theorem dX6_line_70 : decode cX6_line 70 = .ok (.getfield 52, 3) := by decide +kernel
theorem dX6_line_73 : decode cX6_line 73 = .ok (.sipush 306, 3) := by decide +kernel
theorem dX6_line_76 : decode cX6_line 76 = .ok (.if_icmp .ne 30, 3) := by decide +kernel
theorem dX6_line_79 : decode cX6_line 79 = .ok (.aload_n 0, 1) := by decide +kernel
theorem dX6_line_80 : decode cX6_line 80 = .ok (.getfield 21, 3) := by decide +kernel
theorem dX6_line_83 : decode cX6_line 83 = .ok (.invokevirtual 71, 3) := by decide +kernel
theorem dX6_line_86 : decode cX6_line 86 = .ok (.ifCond .eq 8, 3) := by decide +kernel
theorem dX6_line_89 : decode cX6_line 89 = .ok (.aload_n 0, 1) := by decide +kernel
theorem dX6_line_90 : decode cX6_line 90 = .ok (.iconst 5, 1) := by decide +kernel
theorem dX6_line_91 : decode cX6_line 91 = .ok (.invokevirtual 75, 3) := by decide +kernel
theorem dX6_line_94 : decode cX6_line 94 = .ok (.aload_n 0, 1) := by decide +kernel
theorem dX6_line_95 : decode cX6_line 95 = .ok (.invokevirtual 49, 3) := by decide +kernel
theorem dX6_line_98 : decode cX6_line 98 = .ok (.aload_n 0, 1) := by decide +kernel
theorem dX6_line_99 : decode cX6_line 99 = .ok (.iconst 0, 1) := by decide +kernel
theorem dX6_line_100 : decode cX6_line 100 = .ok (.invokevirtual 78, 3) := by decide +kernel
theorem dX6_line_103 : decode cX6_line 103 = .ok (.goto 8, 3) := by decide +kernel
theorem dX6_line_106 : decode cX6_line 106 = .ok (.aload_n 0, 1) := by decide +kernel
theorem dX6_line_107 : decode cX6_line 107 = .ok (.iconst 1, 1) := by decide +kernel
theorem dX6_line_108 : decode cX6_line 108 = .ok (.invokevirtual 75, 3) := by decide +kernel
theorem dX6_line_111 : decode cX6_line 111 = .ok (.aload_n 0, 1) := by decide +kernel
theorem dX6_line_112 : decode cX6_line 112 = .ok (.bipush 59, 2) := by decide +kernel
theorem dX6_line_114 : decode cX6_line 114 = .ok (.invokevirtual 81, 3) := by decide +kernel
theorem dX6_line_117 : decode cX6_line 117 = .ok (.return_, 1) := by decide +kernel
set_option maxRecDepth 20000 in
theorem ggX6_houseLine_X6_fail : GoodIn wsX6_houseLine wsX6_fail := goodIn_r _ [8, 3, 9, 10, 110, 111, 112, 113, 114, 115, 116, 117, 118, 119, 120, 121] (by decide +kernel) (by decide +kernel)
set_option maxRecDepth 20000 in
theorem gX6_houseLine_X6_fail : GoodIn wsX6_houseLine (wsV RX6 75 RX6 yX6_fail wsX6_fail) := goodIn_app (goodIn_of _ (by decide +kernel)) ggX6_houseLine_X6_fail
set_option maxRecDepth 20000 in
theorem ggX6_houseLine_X6_accept : GoodIn wsX6_houseLine wsX6_accept := goodIn_r _ [14, 3, 15, 9, 16, 17, 18, 19, 20, 7, 21, 22, 23, 24, 25, 26, 27, 28, 29, 30, 31, 32, 33, 34, 35, 36, 37, 38, 39, 40, 41, 42, 43, 44, 45, 46, 47, 48, 49, 50, 51, 52, 53, 54, 55, 56, 57, 58, 59, 60, 61, 62, 63, 64, 65, 66, 67, 68, 69, 70, 71, 72, 73, 74, 75, 76, 77, 78, 79, 80, 81, 82, 83, 84, 85, 86, 87, 88, 89, 90, 91, 92, 93, 94, 95, 96, 110, 111, 112, 113, 114, 115, 116, 117, 118, 119, 120, 121] (by decide +kernel) (by decide +kernel)
set_option maxRecDepth 20000 in
theorem gX6_houseLine_X6_accept : GoodIn wsX6_houseLine (wsV RX6 49 RX6 yX6_accept wsX6_accept) := goodIn_app (goodIn_of _ (by decide +kernel)) ggX6_houseLine_X6_accept
set_option maxRecDepth 20000 in
theorem ggX6_houseLine_X6_numberUpTo : GoodIn wsX6_houseLine wsX6_numberUpTo := goodIn_r _ [100, 18, 92, 93, 3, 4, 5, 6, 7, 8, 9, 10, 110, 111, 112, 113, 114, 115, 116, 117, 118, 119, 120, 121] (by decide +kernel) (by decide +kernel)
set_option maxRecDepth 20000 in
theorem gX6_houseLine_X6_numberUpTo : GoodIn wsX6_houseLine (wsV RX6 87 RX6 yX6_numberUpTo wsX6_numberUpTo) := goodIn_app (goodIn_of _ (by decide +kernel)) ggX6_houseLine_X6_numberUpTo
set_option maxRecDepth 20000 in
theorem ggX6_houseLine_X9_addHouse : GoodIn wsX6_houseLine wsX9_addHouse := goodIn_r _ [105, 106, 107, 108, 109, 122, 123, 124, 125, 126, 127, 128, 129, 130, 131, 132] (by decide +kernel) (by decide +kernel)
set_option maxRecDepth 20000 in
theorem gX6_houseLine_X9_addHouse : GoodIn wsX6_houseLine (wsV RX6 91 RX9 yX9_addHouse wsX9_addHouse) := goodIn_app (goodIn_of _ (by decide +kernel)) ggX6_houseLine_X9_addHouse
theorem dX6_houseLine_0 : decode cX6_houseLine 0 = .ok (.aload_n 0, 1) := by decide +kernel
theorem dX6_houseLine_1 : decode cX6_houseLine 1 = .ok (.getfield 12, 3) := by decide +kernel
theorem dX6_houseLine_4 : decode cX6_houseLine 4 = .ok (.getfield 84, 3) := by decide +kernel
theorem dX6_houseLine_7 : decode cX6_houseLine 7 = .ok (.bipush 8, 2) := by decide +kernel
theorem dX6_houseLine_9 : decode cX6_houseLine 9 = .ok (.if_icmp .lt 8, 3) := by decide +kernel
theorem dX6_houseLine_12 : decode cX6_houseLine 12 = .ok (.aload_n 0, 1) := by decide +kernel
theorem dX6_houseLine_13 : decode cX6_houseLine 13 = .ok (.iconst 2, 1) := by decide +kernel
theorem dX6_houseLine_14 : decode cX6_houseLine 14 = .ok (.invokevirtual 75, 3) := by decide +kernel
theorem dX6_houseLine_17 : decode cX6_houseLine 17 = .ok (.aload_n 0, 1) := by decide +kernel
theorem dX6_houseLine_18 : decode cX6_houseLine 18 = .ok (.invokevirtual 49, 3) := by decide +kernel
theorem dX6_houseLine_21 : decode cX6_houseLine 21 = .ok (.aload_n 0, 1) := by decide +kernel
theorem dX6_houseLine_22 : decode cX6_houseLine 22 = .ok (.bipush 23, 2) := by decide +kernel
theorem dX6_houseLine_24 : decode cX6_houseLine 24 = .ok (.iconst 2, 1) := by decide +kernel
theorem dX6_houseLine_25 : decode cX6_houseLine 25 = .ok (.invokevirtual 87, 3) := by decide +kernel
theorem dX6_houseLine_28 : decode cX6_houseLine 28 = .ok (.istore_n 2, 1) := by decide +kernel
theorem dX6_houseLine_29 : decode cX6_houseLine 29 = .ok (.aload_n 0, 1) := by decide +kernel
theorem dX6_houseLine_30 : decode cX6_houseLine 30 = .ok (.invokevirtual 49, 3) := by decide +kernel
theorem dX6_houseLine_33 : decode cX6_houseLine 33 = .ok (.aload_n 0, 1) := by decide +kernel
theorem dX6_houseLine_34 : decode cX6_houseLine 34 = .ok (.bipush 23, 2) := by decide +kernel
theorem dX6_houseLine_36 : decode cX6_houseLine 36 = .ok (.iconst 2, 1) := by decide +kernel
theorem dX6_houseLine_37 : decode cX6_houseLine 37 = .ok (.invokevirtual 87, 3) := by decide +kernel
theorem dX6_houseLine_40 : decode cX6_houseLine 40 = .ok (.istore_n 3, 1) := by decide +kernel
theorem dX6_houseLine_41 : decode cX6_houseLine 41 = .ok (.aload_n 0, 1) := by decide +kernel
theorem dX6_houseLine_42 : decode cX6_houseLine 42 = .ok (.invokevirtual 49, 3) := by decide +kernel
theorem dX6_houseLine_45 : decode cX6_houseLine 45 = .ok (.aload_n 0, 1) := by decide +kernel
theorem dX6_houseLine_46 : decode cX6_houseLine 46 = .ok (.getfield 43, 3) := by decide +kernel
theorem dX6_houseLine_49 : decode cX6_houseLine 49 = .ok (.ifCond .ne 13, 3) := by decide +kernel
theorem dX6_houseLine_52 : decode cX6_houseLine 52 = .ok (.aload_n 0, 1) := by decide +kernel
theorem dX6_houseLine_53 : decode cX6_houseLine 53 = .ok (.getfield 12, 3) := by decide +kernel
theorem dX6_houseLine_56 : decode cX6_houseLine 56 = .ok (.iload_n 1, 1) := by decide +kernel
theorem dX6_houseLine_57 : decode cX6_houseLine 57 = .ok (.iload_n 2, 1) := by decide +kernel
theorem dX6_houseLine_58 : decode cX6_houseLine 58 = .ok (.iload_n 3, 1) := by decide +kernel
theorem dX6_houseLine_59 : decode cX6_houseLine 59 = .ok (.invokevirtual 91, 3) := by decide +kernel
theorem dX6_houseLine_62 : decode cX6_houseLine 62 = .ok (.return_, 1) := by decide +kernel
set_option maxRecDepth 20000 in
theorem ggX6_lampLine_X6_fail : GoodIn wsX6_lampLine wsX6_fail := goodIn_r _ [9, 4, 10, 11, 111, 112, 113, 114, 115, 116, 117, 118, 119, 120, 121, 122] (by decide +kernel) (by decide +kernel)
set_option maxRecDepth 20000 in
theorem gX6_lampLine_X6_fail : GoodIn wsX6_lampLine (wsV RX6 75 RX6 yX6_fail wsX6_fail) := goodIn_app (goodIn_of _ (by decide +kernel)) ggX6_lampLine_X6_fail
set_option maxRecDepth 20000 in
theorem ggX6_lampLine_X6_accept : GoodIn wsX6_lampLine wsX6_accept := goodIn_r _ [15, 4, 16, 10, 17, 18, 19, 20, 21, 8, 22, 23, 24, 25, 26, 27, 28, 29, 30, 31, 32, 33, 34, 35, 36, 37, 38, 39, 40, 41, 42, 43, 44, 45, 46, 47, 48, 49, 50, 51, 52, 53, 54, 55, 56, 57, 58, 59, 60, 61, 62, 63, 64, 65, 66, 67, 68, 69, 70, 71, 72, 73, 74, 75, 76, 77, 78, 79, 80, 81, 82, 83, 84, 85, 86, 87, 88, 89, 90, 91, 92, 93, 94, 95, 96, 97, 111, 112, 113, 114, 115, 116, 117, 118, 119, 120, 121, 122] (by decide +kernel) (by decide +kernel)
set_option maxRecDepth 20000 in
theorem gX6_lampLine_X6_accept : GoodIn wsX6_lampLine (wsV RX6 49 RX6 yX6_accept wsX6_accept) := goodIn_app (goodIn_of _ (by decide +kernel)) ggX6_lampLine_X6_accept
set_option maxRecDepth 20000 in
theorem ggX6_lampLine_X6_numberUpTo : GoodIn wsX6_lampLine wsX6_numberUpTo := goodIn_r _ [101, 19, 93, 94, 4, 5, 6, 7, 8, 9, 10, 11, 111, 112, 113, 114, 115, 116, 117, 118, 119, 120, 121, 122] (by decide +kernel) (by decide +kernel)
set_option maxRecDepth 20000 in
theorem gX6_lampLine_X6_numberUpTo : GoodIn wsX6_lampLine (wsV RX6 87 RX6 yX6_numberUpTo wsX6_numberUpTo) := goodIn_app (goodIn_of _ (by decide +kernel)) ggX6_lampLine_X6_numberUpTo
set_option maxRecDepth 20000 in
theorem ggX6_lampLine_X9_addLamp : GoodIn wsX6_lampLine wsX9_addLamp := goodIn_r _ [106, 107, 108, 109, 110, 123, 124, 125, 126, 127, 128, 129, 130, 131, 132, 133] (by decide +kernel) (by decide +kernel)
set_option maxRecDepth 20000 in
theorem gX6_lampLine_X9_addLamp : GoodIn wsX6_lampLine (wsV RX6 98 RX9 yX9_addLamp wsX9_addLamp) := goodIn_app (goodIn_of _ (by decide +kernel)) ggX6_lampLine_X9_addLamp
theorem dX6_lampLine_0 : decode cX6_lampLine 0 = .ok (.aload_n 0, 1) := by decide +kernel
theorem dX6_lampLine_1 : decode cX6_lampLine 1 = .ok (.getfield 12, 3) := by decide +kernel
theorem dX6_lampLine_4 : decode cX6_lampLine 4 = .ok (.getfield 95, 3) := by decide +kernel
theorem dX6_lampLine_7 : decode cX6_lampLine 7 = .ok (.bipush 12, 2) := by decide +kernel
theorem dX6_lampLine_9 : decode cX6_lampLine 9 = .ok (.if_icmp .lt 8, 3) := by decide +kernel
theorem dX6_lampLine_12 : decode cX6_lampLine 12 = .ok (.aload_n 0, 1) := by decide +kernel
theorem dX6_lampLine_13 : decode cX6_lampLine 13 = .ok (.iconst 2, 1) := by decide +kernel
theorem dX6_lampLine_14 : decode cX6_lampLine 14 = .ok (.invokevirtual 75, 3) := by decide +kernel
theorem dX6_lampLine_17 : decode cX6_lampLine 17 = .ok (.aload_n 0, 1) := by decide +kernel
theorem dX6_lampLine_18 : decode cX6_lampLine 18 = .ok (.invokevirtual 49, 3) := by decide +kernel
theorem dX6_lampLine_21 : decode cX6_lampLine 21 = .ok (.aload_n 0, 1) := by decide +kernel
theorem dX6_lampLine_22 : decode cX6_lampLine 22 = .ok (.aload_n 0, 1) := by decide +kernel
theorem dX6_lampLine_23 : decode cX6_lampLine 23 = .ok (.getfield 12, 3) := by decide +kernel
theorem dX6_lampLine_26 : decode cX6_lampLine 26 = .ok (.getfield 84, 3) := by decide +kernel
theorem dX6_lampLine_29 : decode cX6_lampLine 29 = .ok (.iconst 1, 1) := by decide +kernel
theorem dX6_lampLine_30 : decode cX6_lampLine 30 = .ok (.isub, 1) := by decide +kernel
theorem dX6_lampLine_31 : decode cX6_lampLine 31 = .ok (.iconst 3, 1) := by decide +kernel
theorem dX6_lampLine_32 : decode cX6_lampLine 32 = .ok (.invokevirtual 87, 3) := by decide +kernel
theorem dX6_lampLine_35 : decode cX6_lampLine 35 = .ok (.istore_n 1, 1) := by decide +kernel
theorem dX6_lampLine_36 : decode cX6_lampLine 36 = .ok (.aload_n 0, 1) := by decide +kernel
theorem dX6_lampLine_37 : decode cX6_lampLine 37 = .ok (.invokevirtual 49, 3) := by decide +kernel
theorem dX6_lampLine_40 : decode cX6_lampLine 40 = .ok (.aload_n 0, 1) := by decide +kernel
theorem dX6_lampLine_41 : decode cX6_lampLine 41 = .ok (.bipush 99, 2) := by decide +kernel
theorem dX6_lampLine_43 : decode cX6_lampLine 43 = .ok (.iconst 2, 1) := by decide +kernel
theorem dX6_lampLine_44 : decode cX6_lampLine 44 = .ok (.invokevirtual 87, 3) := by decide +kernel
theorem dX6_lampLine_47 : decode cX6_lampLine 47 = .ok (.istore_n 2, 1) := by decide +kernel
theorem dX6_lampLine_48 : decode cX6_lampLine 48 = .ok (.aload_n 0, 1) := by decide +kernel
theorem dX6_lampLine_49 : decode cX6_lampLine 49 = .ok (.invokevirtual 49, 3) := by decide +kernel
theorem dX6_lampLine_52 : decode cX6_lampLine 52 = .ok (.aload_n 0, 1) := by decide +kernel
theorem dX6_lampLine_53 : decode cX6_lampLine 53 = .ok (.getfield 43, 3) := by decide +kernel
theorem dX6_lampLine_56 : decode cX6_lampLine 56 = .ok (.ifCond .ne 12, 3) := by decide +kernel
theorem dX6_lampLine_59 : decode cX6_lampLine 59 = .ok (.aload_n 0, 1) := by decide +kernel
theorem dX6_lampLine_60 : decode cX6_lampLine 60 = .ok (.getfield 12, 3) := by decide +kernel
theorem dX6_lampLine_63 : decode cX6_lampLine 63 = .ok (.iload_n 1, 1) := by decide +kernel
theorem dX6_lampLine_64 : decode cX6_lampLine 64 = .ok (.iload_n 2, 1) := by decide +kernel
theorem dX6_lampLine_65 : decode cX6_lampLine 65 = .ok (.invokevirtual 98, 3) := by decide +kernel
theorem dX6_lampLine_68 : decode cX6_lampLine 68 = .ok (.return_, 1) := by decide +kernel
set_option maxRecDepth 20000 in
theorem ggX6_twinsLine_X6_accept : GoodIn wsX6_twinsLine wsX6_accept := goodIn_r _ [9, 3, 10, 11, 12, 13, 14, 15, 16, 8, 17, 18, 19, 20, 21, 22, 23, 24, 25, 26, 27, 28, 29, 30, 31, 32, 33, 34, 35, 36, 37, 38, 39, 40, 41, 42, 43, 44, 45, 46, 47, 48, 49, 50, 51, 52, 53, 54, 55, 56, 57, 58, 59, 60, 61, 62, 63, 64, 65, 66, 67, 68, 69, 70, 71, 72, 73, 74, 75, 76, 77, 78, 79, 80, 81, 82, 83, 84, 85, 86, 87, 88, 89, 90, 91, 92, 102, 103, 104, 105, 106, 107, 108, 109, 110, 111, 112, 113] (by decide +kernel) (by decide +kernel)
set_option maxRecDepth 20000 in
theorem gX6_twinsLine_X6_accept : GoodIn wsX6_twinsLine (wsV RX6 49 RX6 yX6_accept wsX6_accept) := goodIn_app (goodIn_of _ (by decide +kernel)) ggX6_twinsLine_X6_accept
set_option maxRecDepth 20000 in
theorem ggX6_twinsLine_X6_numberUpTo : GoodIn wsX6_twinsLine wsX6_numberUpTo := goodIn_r _ [96, 14, 88, 89, 3, 97, 98, 99, 8, 100, 11, 101, 102, 103, 104, 105, 106, 107, 108, 109, 110, 111, 112, 113] (by decide +kernel) (by decide +kernel)
set_option maxRecDepth 20000 in
theorem gX6_twinsLine_X6_numberUpTo : GoodIn wsX6_twinsLine (wsV RX6 87 RX6 yX6_numberUpTo wsX6_numberUpTo) := goodIn_app (goodIn_of _ (by decide +kernel)) ggX6_twinsLine_X6_numberUpTo
set_option maxRecDepth 20000 in
theorem ggX6_twinsLine_X6_fail : GoodIn wsX6_twinsLine wsX6_fail := goodIn_r _ [100, 3, 11, 101, 102, 103, 104, 105, 106, 107, 108, 109, 110, 111, 112, 113] (by decide +kernel) (by decide +kernel)
set_option maxRecDepth 20000 in
theorem gX6_twinsLine_X6_fail : GoodIn wsX6_twinsLine (wsV RX6 75 RX6 yX6_fail wsX6_fail) := goodIn_app (goodIn_of _ (by decide +kernel)) ggX6_twinsLine_X6_fail
theorem dX6_twinsLine_0 : decode cX6_twinsLine 0 = .ok (.aload_n 0, 1) := by decide +kernel
theorem dX6_twinsLine_1 : decode cX6_twinsLine 1 = .ok (.invokevirtual 49, 3) := by decide +kernel
theorem dX6_twinsLine_4 : decode cX6_twinsLine 4 = .ok (.aload_n 0, 1) := by decide +kernel
theorem dX6_twinsLine_5 : decode cX6_twinsLine 5 = .ok (.aload_n 0, 1) := by decide +kernel
theorem dX6_twinsLine_6 : decode cX6_twinsLine 6 = .ok (.getfield 12, 3) := by decide +kernel
theorem dX6_twinsLine_9 : decode cX6_twinsLine 9 = .ok (.getfield 95, 3) := by decide +kernel
theorem dX6_twinsLine_12 : decode cX6_twinsLine 12 = .ok (.iconst 1, 1) := by decide +kernel
theorem dX6_twinsLine_13 : decode cX6_twinsLine 13 = .ok (.isub, 1) := by decide +kernel
theorem dX6_twinsLine_14 : decode cX6_twinsLine 14 = .ok (.iconst 3, 1) := by decide +kernel
theorem dX6_twinsLine_15 : decode cX6_twinsLine 15 = .ok (.invokevirtual 87, 3) := by decide +kernel
theorem dX6_twinsLine_18 : decode cX6_twinsLine 18 = .ok (.istore_n 1, 1) := by decide +kernel
theorem dX6_twinsLine_19 : decode cX6_twinsLine 19 = .ok (.aload_n 0, 1) := by decide +kernel
theorem dX6_twinsLine_20 : decode cX6_twinsLine 20 = .ok (.getfield 43, 3) := by decide +kernel
theorem dX6_twinsLine_23 : decode cX6_twinsLine 23 = .ok (.ifCond .ne 21, 3) := by decide +kernel
theorem dX6_twinsLine_26 : decode cX6_twinsLine 26 = .ok (.aload_n 0, 1) := by decide +kernel
theorem dX6_twinsLine_27 : decode cX6_twinsLine 27 = .ok (.getfield 12, 3) := by decide +kernel
theorem dX6_twinsLine_30 : decode cX6_twinsLine 30 = .ok (.getfield 102, 3) := by decide +kernel
theorem dX6_twinsLine_33 : decode cX6_twinsLine 33 = .ok (.iload_n 1, 1) := by decide +kernel
theorem dX6_twinsLine_34 : decode cX6_twinsLine 34 = .ok (.iaload, 1) := by decide +kernel
theorem dX6_twinsLine_35 : decode cX6_twinsLine 35 = .ok (.iconst (-1), 1) := by decide +kernel
theorem dX6_twinsLine_36 : decode cX6_twinsLine 36 = .ok (.if_icmp .eq 8, 3) := by decide +kernel
theorem dX6_twinsLine_39 : decode cX6_twinsLine 39 = .ok (.aload_n 0, 1) := by decide +kernel
theorem dX6_twinsLine_40 : decode cX6_twinsLine 40 = .ok (.iconst 4, 1) := by decide +kernel
theorem dX6_twinsLine_41 : decode cX6_twinsLine 41 = .ok (.invokevirtual 75, 3) := by decide +kernel
theorem dX6_twinsLine_44 : decode cX6_twinsLine 44 = .ok (.aload_n 0, 1) := by decide +kernel
theorem dX6_twinsLine_45 : decode cX6_twinsLine 45 = .ok (.invokevirtual 49, 3) := by decide +kernel
theorem dX6_twinsLine_48 : decode cX6_twinsLine 48 = .ok (.aload_n 0, 1) := by decide +kernel
theorem dX6_twinsLine_49 : decode cX6_twinsLine 49 = .ok (.aload_n 0, 1) := by decide +kernel
theorem dX6_twinsLine_50 : decode cX6_twinsLine 50 = .ok (.getfield 12, 3) := by decide +kernel
theorem dX6_twinsLine_53 : decode cX6_twinsLine 53 = .ok (.getfield 95, 3) := by decide +kernel
theorem dX6_twinsLine_56 : decode cX6_twinsLine 56 = .ok (.iconst 1, 1) := by decide +kernel
theorem dX6_twinsLine_57 : decode cX6_twinsLine 57 = .ok (.isub, 1) := by decide +kernel
theorem dX6_twinsLine_58 : decode cX6_twinsLine 58 = .ok (.iconst 3, 1) := by decide +kernel
theorem dX6_twinsLine_59 : decode cX6_twinsLine 59 = .ok (.invokevirtual 87, 3) := by decide +kernel
theorem dX6_twinsLine_62 : decode cX6_twinsLine 62 = .ok (.istore_n 2, 1) := by decide +kernel
theorem dX6_twinsLine_63 : decode cX6_twinsLine 63 = .ok (.aload_n 0, 1) := by decide +kernel
theorem dX6_twinsLine_64 : decode cX6_twinsLine 64 = .ok (.getfield 43, 3) := by decide +kernel
theorem dX6_twinsLine_67 : decode cX6_twinsLine 67 = .ok (.ifCond .ne 26, 3) := by decide +kernel
theorem dX6_twinsLine_70 : decode cX6_twinsLine 70 = .ok (.aload_n 0, 1) := by decide +kernel
theorem dX6_twinsLine_71 : decode cX6_twinsLine 71 = .ok (.getfield 12, 3) := by decide +kernel
theorem dX6_twinsLine_74 : decode cX6_twinsLine 74 = .ok (.getfield 102, 3) := by decide +kernel
theorem dX6_twinsLine_77 : decode cX6_twinsLine 77 = .ok (.iload_n 2, 1) := by decide +kernel
theorem dX6_twinsLine_78 : decode cX6_twinsLine 78 = .ok (.iaload, 1) := by decide +kernel
theorem dX6_twinsLine_79 : decode cX6_twinsLine 79 = .ok (.iconst (-1), 1) := by decide +kernel
theorem dX6_twinsLine_80 : decode cX6_twinsLine 80 = .ok (.if_icmp .ne 8, 3) := by decide +kernel
theorem dX6_twinsLine_83 : decode cX6_twinsLine 83 = .ok (.iload_n 2, 1) := by decide +kernel
theorem dX6_twinsLine_84 : decode cX6_twinsLine 84 = .ok (.iload_n 1, 1) := by decide +kernel
theorem dX6_twinsLine_85 : decode cX6_twinsLine 85 = .ok (.if_icmp .ne 8, 3) := by decide +kernel
theorem dX6_twinsLine_88 : decode cX6_twinsLine 88 = .ok (.aload_n 0, 1) := by decide +kernel
theorem dX6_twinsLine_89 : decode cX6_twinsLine 89 = .ok (.iconst 4, 1) := by decide +kernel
theorem dX6_twinsLine_90 : decode cX6_twinsLine 90 = .ok (.invokevirtual 75, 3) := by decide +kernel
theorem dX6_twinsLine_93 : decode cX6_twinsLine 93 = .ok (.aload_n 0, 1) := by decide +kernel
theorem dX6_twinsLine_94 : decode cX6_twinsLine 94 = .ok (.invokevirtual 49, 3) := by decide +kernel
theorem dX6_twinsLine_97 : decode cX6_twinsLine 97 = .ok (.aload_n 0, 1) := by decide +kernel
theorem dX6_twinsLine_98 : decode cX6_twinsLine 98 = .ok (.getfield 43, 3) := by decide +kernel
theorem dX6_twinsLine_101 : decode cX6_twinsLine 101 = .ok (.ifCond .ne 23, 3) := by decide +kernel
theorem dX6_twinsLine_104 : decode cX6_twinsLine 104 = .ok (.aload_n 0, 1) := by decide +kernel
theorem dX6_twinsLine_105 : decode cX6_twinsLine 105 = .ok (.getfield 12, 3) := by decide +kernel
theorem dX6_twinsLine_108 : decode cX6_twinsLine 108 = .ok (.getfield 102, 3) := by decide +kernel
theorem dX6_twinsLine_111 : decode cX6_twinsLine 111 = .ok (.iload_n 1, 1) := by decide +kernel
theorem dX6_twinsLine_112 : decode cX6_twinsLine 112 = .ok (.iload_n 2, 1) := by decide +kernel
theorem dX6_twinsLine_113 : decode cX6_twinsLine 113 = .ok (.iastore, 1) := by decide +kernel
theorem dX6_twinsLine_114 : decode cX6_twinsLine 114 = .ok (.aload_n 0, 1) := by decide +kernel
theorem dX6_twinsLine_115 : decode cX6_twinsLine 115 = .ok (.getfield 12, 3) := by decide +kernel
theorem dX6_twinsLine_118 : decode cX6_twinsLine 118 = .ok (.getfield 102, 3) := by decide +kernel
theorem dX6_twinsLine_121 : decode cX6_twinsLine 121 = .ok (.iload_n 2, 1) := by decide +kernel
theorem dX6_twinsLine_122 : decode cX6_twinsLine 122 = .ok (.iload_n 1, 1) := by decide +kernel
theorem dX6_twinsLine_123 : decode cX6_twinsLine 123 = .ok (.iastore, 1) := by decide +kernel
theorem dX6_twinsLine_124 : decode cX6_twinsLine 124 = .ok (.return_, 1) := by decide +kernel
set_option maxRecDepth 20000 in
theorem ggX6_numberUpTo_X6_fail : GoodIn wsX6_numberUpTo wsX6_fail := goodIn_r _ [9, 4, 10, 11, 12, 13, 14, 15, 16, 17, 18, 19, 20, 21, 22, 23] (by decide +kernel) (by decide +kernel)
set_option maxRecDepth 20000 in
theorem gX6_numberUpTo_X6_fail : GoodIn wsX6_numberUpTo (wsV RX6 75 RX6 yX6_fail wsX6_fail) := goodIn_app (goodIn_of _ (by decide +kernel)) ggX6_numberUpTo_X6_fail
theorem dX6_numberUpTo_0 : decode cX6_numberUpTo 0 = .ok (.aload_n 0, 1) := by decide +kernel
theorem dX6_numberUpTo_1 : decode cX6_numberUpTo 1 = .ok (.getfield 52, 3) := by decide +kernel
theorem dX6_numberUpTo_4 : decode cX6_numberUpTo 4 = .ok (.iconst 2, 1) := by decide +kernel
theorem dX6_numberUpTo_5 : decode cX6_numberUpTo 5 = .ok (.if_icmp .eq 11, 3) := by decide +kernel
theorem dX6_numberUpTo_8 : decode cX6_numberUpTo 8 = .ok (.aload_n 0, 1) := by decide +kernel
theorem dX6_numberUpTo_9 : decode cX6_numberUpTo 9 = .ok (.iconst 1, 1) := by decide +kernel
theorem dX6_numberUpTo_10 : decode cX6_numberUpTo 10 = .ok (.invokevirtual 75, 3) := by decide +kernel
theorem dX6_numberUpTo_13 : decode cX6_numberUpTo 13 = .ok (.goto 32, 3) := by decide +kernel
theorem dX6_numberUpTo_16 : decode cX6_numberUpTo 16 = .ok (.aload_n 0, 1) := by decide +kernel
theorem dX6_numberUpTo_17 : decode cX6_numberUpTo 17 = .ok (.getfield 106, 3) := by decide +kernel
theorem dX6_numberUpTo_20 : decode cX6_numberUpTo 20 = .ok (.iconst 4, 1) := by decide +kernel
theorem dX6_numberUpTo_21 : decode cX6_numberUpTo 21 = .ok (.if_icmp .le 11, 3) := by decide +kernel
theorem dX6_numberUpTo_24 : decode cX6_numberUpTo 24 = .ok (.aload_n 0, 1) := by decide +kernel
theorem dX6_numberUpTo_25 : decode cX6_numberUpTo 25 = .ok (.iconst 2, 1) := by decide +kernel
theorem dX6_numberUpTo_26 : decode cX6_numberUpTo 26 = .ok (.invokevirtual 75, 3) := by decide +kernel
theorem dX6_numberUpTo_29 : decode cX6_numberUpTo 29 = .ok (.goto 16, 3) := by decide +kernel
theorem dX6_numberUpTo_32 : decode cX6_numberUpTo 32 = .ok (.aload_n 0, 1) := by decide +kernel
theorem dX6_numberUpTo_33 : decode cX6_numberUpTo 33 = .ok (.getfield 109, 3) := by decide +kernel
theorem dX6_numberUpTo_36 : decode cX6_numberUpTo 36 = .ok (.iload_n 1, 1) := by decide +kernel
theorem dX6_numberUpTo_37 : decode cX6_numberUpTo 37 = .ok (.if_icmp .le 8, 3) := by decide +kernel
theorem dX6_numberUpTo_40 : decode cX6_numberUpTo 40 = .ok (.aload_n 0, 1) := by decide +kernel
theorem dX6_numberUpTo_41 : decode cX6_numberUpTo 41 = .ok (.iload_n 2, 1) := by decide +kernel
theorem dX6_numberUpTo_42 : decode cX6_numberUpTo 42 = .ok (.invokevirtual 75, 3) := by decide +kernel
theorem dX6_numberUpTo_45 : decode cX6_numberUpTo 45 = .ok (.aload_n 0, 1) := by decide +kernel
theorem dX6_numberUpTo_46 : decode cX6_numberUpTo 46 = .ok (.getfield 43, 3) := by decide +kernel
theorem dX6_numberUpTo_49 : decode cX6_numberUpTo 49 = .ok (.ifCond .ne 10, 3) := by decide +kernel
theorem dX6_numberUpTo_52 : decode cX6_numberUpTo 52 = .ok (.aload_n 0, 1) := by decide +kernel
theorem dX6_numberUpTo_53 : decode cX6_numberUpTo 53 = .ok (.getfield 109, 3) := by decide +kernel
theorem dX6_numberUpTo_56 : decode cX6_numberUpTo 56 = .ok (.goto 4, 3) := by decide +kernel
theorem dX6_numberUpTo_59 : decode cX6_numberUpTo 59 = .ok (.iconst 0, 1) := by decide +kernel
theorem dX6_numberUpTo_60 : decode cX6_numberUpTo 60 = .ok (.ireturn, 1) := by decide +kernel
set_option maxRecDepth 20000 in
theorem ggX6_expression_X6_fail : GoodIn wsX6_expression wsX6_fail := goodIn_r _ [8, 1, 9, 10, 134, 135, 136, 137, 138, 139, 140, 141, 142, 143, 144, 145] (by decide +kernel) (by decide +kernel)
set_option maxRecDepth 20000 in
theorem gX6_expression_X6_fail : GoodIn wsX6_expression (wsV RX6 75 RX6 yX6_fail wsX6_fail) := goodIn_app (goodIn_of _ (by decide +kernel)) ggX6_expression_X6_fail
set_option maxRecDepth 20000 in
theorem ggX6_expression_X6_conjunction : GoodIn wsX6_expression wsX6_conjunction := goodIn_r _ [110, 1, 2, 3, 111, 112, 113, 7, 14, 15, 16, 17, 18, 9, 19, 20, 21, 22, 23, 24, 25, 26, 27, 28, 29, 30, 31, 32, 33, 34, 35, 36, 37, 38, 39, 40, 41, 42, 43, 44, 45, 46, 47, 48, 49, 50, 51, 52, 53, 54, 55, 56, 57, 58, 59, 60, 61, 62, 63, 64, 65, 66, 67, 68, 69, 70, 71, 72, 73, 74, 75, 76, 77, 78, 79, 80, 81, 82, 83, 84, 85, 86, 87, 88, 89, 90, 91, 92, 93, 94, 95, 96, 97, 98, 99, 100, 101, 102, 103, 104, 105, 106, 107, 108, 109, 0, 4, 5, 6, 8, 10, 11, 12, 13, 114, 115, 116, 117, 118, 119, 120, 121, 122, 123, 124, 125, 126, 127, 128, 129, 130, 131, 132, 133, 134, 135, 136, 137, 138, 139, 140, 141, 142, 143, 144, 145, 146, 147, 148, 149] (by decide +kernel) (by decide +kernel)
set_option maxRecDepth 20000 in
theorem gX6_expression_X6_conjunction : GoodIn wsX6_expression (wsV RX6 112 RX6 yX6_conjunction wsX6_conjunction) := goodIn_app (goodIn_of _ (by decide +kernel)) ggX6_expression_X6_conjunction
set_option maxRecDepth 20000 in
theorem ggX6_expression_X6_accept : GoodIn wsX6_expression wsX6_accept := goodIn_r _ [17, 1, 18, 9, 19, 20, 2, 21, 22, 7, 23, 24, 25, 26, 27, 28, 29, 30, 31, 32, 33, 34, 35, 36, 37, 38, 39, 40, 41, 42, 43, 44, 45, 46, 47, 48, 49, 50, 51, 52, 53, 54, 55, 56, 57, 58, 59, 60, 61, 62, 63, 64, 65, 66, 67, 68, 69, 70, 71, 72, 73, 74, 75, 76, 77, 78, 79, 80, 81, 82, 83, 84, 85, 86, 87, 88, 89, 90, 91, 92, 93, 94, 95, 96, 97, 98, 134, 135, 136, 137, 138, 139, 140, 141, 142, 143, 144, 145] (by decide +kernel) (by decide +kernel)
set_option maxRecDepth 20000 in
theorem gX6_expression_X6_accept : GoodIn wsX6_expression (wsV RX6 49 RX6 yX6_accept wsX6_accept) := goodIn_app (goodIn_of _ (by decide +kernel)) ggX6_expression_X6_accept
set_option maxRecDepth 20000 in
theorem ggX6_expression_X7_add : GoodIn wsX6_expression wsX7_add := goodIn_r _ [103, 104, 105, 146, 147, 148, 149] (by decide +kernel) (by decide +kernel)
set_option maxRecDepth 20000 in
theorem gX6_expression_X7_add : GoodIn wsX6_expression (wsV RX6 115 RX7 yX7_add wsX7_add) := goodIn_app (goodIn_of _ (by decide +kernel)) ggX6_expression_X7_add
theorem dX6_expression_0 : decode cX6_expression 0 = .ok (.aload_n 0, 1) := by decide +kernel
theorem dX6_expression_1 : decode cX6_expression 1 = .ok (.getfield 43, 3) := by decide +kernel
theorem dX6_expression_4 : decode cX6_expression 4 = .ok (.ifCond .eq 4, 3) := by decide +kernel
theorem dX6_expression_7 : decode cX6_expression 7 = .ok (.return_, 1) := by decide +kernel
theorem dX6_expression_8 : decode cX6_expression 8 = .ok (.iload_n 1, 1) := by decide +kernel
theorem dX6_expression_9 : decode cX6_expression 9 = .ok (.bipush 6, 2) := by decide +kernel
theorem dX6_expression_11 : decode cX6_expression 11 = .ok (.if_icmp .lt 40, 3) := by decide +kernel
theorem dX6_expression_14 : decode cX6_expression 14 = .ok (.aload_n 0, 1) := by decide +kernel
theorem dX6_expression_15 : decode cX6_expression 15 = .ok (.aload_n 0, 1) := by decide +kernel
theorem dX6_expression_16 : decode cX6_expression 16 = .ok (.getfield 52, 3) := by decide +kernel
theorem dX6_expression_19 : decode cX6_expression 19 = .ok (.iconst 2, 1) := by decide +kernel
theorem dX6_expression_20 : decode cX6_expression 20 = .ok (.if_icmp .eq 22, 3) := by decide +kernel
theorem dX6_expression_23 : decode cX6_expression 23 = .ok (.aload_n 0, 1) := by decide +kernel
theorem dX6_expression_24 : decode cX6_expression 24 = .ok (.getfield 52, 3) := by decide +kernel
theorem dX6_expression_27 : decode cX6_expression 27 = .ok (.sipush 300, 3) := by decide +kernel
theorem dX6_expression_30 : decode cX6_expression 30 = .ok (.if_icmp .ge 12, 3) := by decide +kernel
theorem dX6_expression_33 : decode cX6_expression 33 = .ok (.aload_n 0, 1) := by decide +kernel
theorem dX6_expression_34 : decode cX6_expression 34 = .ok (.getfield 52, 3) := by decide +kernel
theorem dX6_expression_37 : decode cX6_expression 37 = .ok (.bipush 40, 2) := by decide +kernel
theorem dX6_expression_39 : decode cX6_expression 39 = .ok (.if_icmp .ne 7, 3) := by decide +kernel
theorem dX6_expression_42 : decode cX6_expression 42 = .ok (.iconst 2, 1) := by decide +kernel
theorem dX6_expression_43 : decode cX6_expression 43 = .ok (.goto 4, 3) := by decide +kernel
theorem dX6_expression_46 : decode cX6_expression 46 = .ok (.iconst 1, 1) := by decide +kernel
theorem dX6_expression_47 : decode cX6_expression 47 = .ok (.invokevirtual 75, 3) := by decide +kernel
theorem dX6_expression_50 : decode cX6_expression 50 = .ok (.return_, 1) := by decide +kernel
theorem dX6_expression_51 : decode cX6_expression 51 = .ok (.aload_n 0, 1) := by decide +kernel
theorem dX6_expression_52 : decode cX6_expression 52 = .ok (.iload_n 1, 1) := by decide +kernel
theorem dX6_expression_53 : decode cX6_expression 53 = .ok (.invokevirtual 112, 3) := by decide +kernel
theorem dX6_expression_56 : decode cX6_expression 56 = .ok (.iconst 0, 1) := by decide +kernel
theorem dX6_expression_57 : decode cX6_expression 57 = .ok (.istore_n 2, 1) := by decide +kernel
theorem dX6_expression_58 : decode cX6_expression 58 = .ok (.iload_n 2, 1) := by decide +kernel
theorem dX6_expression_59 : decode cX6_expression 59 = .ok (.sipush 600, 3) := by decide +kernel
theorem dX6_expression_62 : decode cX6_expression 62 = .ok (.if_icmp .ge 45, 3) := by decide +kernel
theorem dX6_expression_65 : decode cX6_expression 65 = .ok (.aload_n 0, 1) := by decide +kernel
theorem dX6_expression_66 : decode cX6_expression 66 = .ok (.getfield 43, 3) := by decide +kernel
theorem dX6_expression_69 : decode cX6_expression 69 = .ok (.ifCond .ne 38, 3) := by decide +kernel
theorem dX6_expression_72 : decode cX6_expression 72 = .ok (.aload_n 0, 1) := by decide +kernel
theorem dX6_expression_73 : decode cX6_expression 73 = .ok (.getfield 52, 3) := by decide +kernel
theorem dX6_expression_76 : decode cX6_expression 76 = .ok (.sipush 307, 3) := by decide +kernel
theorem dX6_expression_79 : decode cX6_expression 79 = .ok (.if_icmp .ne 28, 3) := by decide +kernel
theorem dX6_expression_82 : decode cX6_expression 82 = .ok (.aload_n 0, 1) := by decide +kernel
theorem dX6_expression_83 : decode cX6_expression 83 = .ok (.invokevirtual 49, 3) := by decide +kernel
theorem dX6_expression_86 : decode cX6_expression 86 = .ok (.aload_n 0, 1) := by decide +kernel
theorem dX6_expression_87 : decode cX6_expression 87 = .ok (.iload_n 1, 1) := by decide +kernel
theorem dX6_expression_88 : decode cX6_expression 88 = .ok (.invokevirtual 112, 3) := by decide +kernel
theorem dX6_expression_91 : decode cX6_expression 91 = .ok (.aload_n 0, 1) := by decide +kernel
theorem dX6_expression_92 : decode cX6_expression 92 = .ok (.getfield 21, 3) := by decide +kernel
theorem dX6_expression_95 : decode cX6_expression 95 = .ok (.sipush (-307), 3) := by decide +kernel
theorem dX6_expression_98 : decode cX6_expression 98 = .ok (.invokevirtual 115, 3) := by decide +kernel
theorem dX6_expression_101 : decode cX6_expression 101 = .ok (.iinc 2 1, 3) := by decide +kernel
theorem dX6_expression_104 : decode cX6_expression 104 = .ok (.goto (-46), 3) := by decide +kernel
theorem dX6_expression_107 : decode cX6_expression 107 = .ok (.return_, 1) := by decide +kernel
set_option maxRecDepth 20000 in
theorem ggX6_conjunction_X6_negation : GoodIn wsX6_conjunction wsX6_negation := goodIn_r _ [114, 2, 3, 8, 9, 10, 7, 11, 1, 12, 13, 14, 15, 16, 17, 18, 19, 20, 21, 22, 23, 24, 25, 26, 27, 28, 29, 30, 31, 32, 33, 34, 35, 36, 37, 38, 39, 40, 41, 42, 43, 44, 45, 46, 47, 48, 49, 50, 51, 52, 53, 54, 55, 56, 57, 58, 59, 60, 61, 62, 63, 64, 65, 66, 67, 68, 69, 70, 71, 72, 73, 74, 75, 76, 77, 78, 79, 80, 81, 82, 83, 84, 85, 86, 87, 88, 89, 90, 91, 92, 93, 106, 107, 108, 109, 110, 115, 116, 117, 94, 95, 96, 97, 98, 99, 100, 101, 102, 103, 104, 0, 4, 5, 6, 105, 111, 112, 113, 118, 119, 120, 121, 122, 123, 124, 125, 126, 127, 128, 129, 130, 131, 132, 133, 134, 135, 136, 137, 138, 139, 140, 141, 142, 143, 144, 145, 146, 147, 148, 149] (by decide +kernel) (by decide +kernel)
set_option maxRecDepth 20000 in
theorem gX6_conjunction_X6_negation : GoodIn wsX6_conjunction (wsV RX6 118 RX6 yX6_negation wsX6_negation) := goodIn_app (goodIn_of _ (by decide +kernel)) ggX6_conjunction_X6_negation
set_option maxRecDepth 20000 in
theorem ggX6_conjunction_X6_accept : GoodIn wsX6_conjunction wsX6_accept := goodIn_r _ [11, 1, 12, 13, 14, 15, 2, 16, 17, 7, 18, 19, 20, 21, 22, 23, 24, 25, 26, 27, 28, 29, 30, 31, 32, 33, 34, 35, 36, 37, 38, 39, 40, 41, 42, 43, 44, 45, 46, 47, 48, 49, 50, 51, 52, 53, 54, 55, 56, 57, 58, 59, 60, 61, 62, 63, 64, 65, 66, 67, 68, 69, 70, 71, 72, 73, 74, 75, 76, 77, 78, 79, 80, 81, 82, 83, 84, 85, 86, 87, 88, 89, 90, 91, 92, 93, 134, 135, 136, 137, 138, 139, 140, 141, 142, 143, 144, 145] (by decide +kernel) (by decide +kernel)
set_option maxRecDepth 20000 in
theorem gX6_conjunction_X6_accept : GoodIn wsX6_conjunction (wsV RX6 49 RX6 yX6_accept wsX6_accept) := goodIn_app (goodIn_of _ (by decide +kernel)) ggX6_conjunction_X6_accept
set_option maxRecDepth 20000 in
theorem ggX6_conjunction_X7_add : GoodIn wsX6_conjunction wsX7_add := goodIn_r _ [98, 99, 100, 146, 147, 148, 149] (by decide +kernel) (by decide +kernel)
set_option maxRecDepth 20000 in
theorem gX6_conjunction_X7_add : GoodIn wsX6_conjunction (wsV RX6 115 RX7 yX7_add wsX7_add) := goodIn_app (goodIn_of _ (by decide +kernel)) ggX6_conjunction_X7_add
theorem dX6_conjunction_0 : decode cX6_conjunction 0 = .ok (.aload_n 0, 1) := by decide +kernel
theorem dX6_conjunction_1 : decode cX6_conjunction 1 = .ok (.iload_n 1, 1) := by decide +kernel
theorem dX6_conjunction_2 : decode cX6_conjunction 2 = .ok (.invokevirtual 118, 3) := by decide +kernel
theorem dX6_conjunction_5 : decode cX6_conjunction 5 = .ok (.iconst 0, 1) := by decide +kernel
theorem dX6_conjunction_6 : decode cX6_conjunction 6 = .ok (.istore_n 2, 1) := by decide +kernel
theorem dX6_conjunction_7 : decode cX6_conjunction 7 = .ok (.iload_n 2, 1) := by decide +kernel
theorem dX6_conjunction_8 : decode cX6_conjunction 8 = .ok (.sipush 600, 3) := by decide +kernel
theorem dX6_conjunction_11 : decode cX6_conjunction 11 = .ok (.if_icmp .ge 45, 3) := by decide +kernel
theorem dX6_conjunction_14 : decode cX6_conjunction 14 = .ok (.aload_n 0, 1) := by decide +kernel
theorem dX6_conjunction_15 : decode cX6_conjunction 15 = .ok (.getfield 43, 3) := by decide +kernel
theorem dX6_conjunction_18 : decode cX6_conjunction 18 = .ok (.ifCond .ne 38, 3) := by decide +kernel
theorem dX6_conjunction_21 : decode cX6_conjunction 21 = .ok (.aload_n 0, 1) := by decide +kernel
theorem dX6_conjunction_22 : decode cX6_conjunction 22 = .ok (.getfield 52, 3) := by decide +kernel
theorem dX6_conjunction_25 : decode cX6_conjunction 25 = .ok (.sipush 308, 3) := by decide +kernel
theorem dX6_conjunction_28 : decode cX6_conjunction 28 = .ok (.if_icmp .ne 28, 3) := by decide +kernel
theorem dX6_conjunction_31 : decode cX6_conjunction 31 = .ok (.aload_n 0, 1) := by decide +kernel
theorem dX6_conjunction_32 : decode cX6_conjunction 32 = .ok (.invokevirtual 49, 3) := by decide +kernel
theorem dX6_conjunction_35 : decode cX6_conjunction 35 = .ok (.aload_n 0, 1) := by decide +kernel
theorem dX6_conjunction_36 : decode cX6_conjunction 36 = .ok (.iload_n 1, 1) := by decide +kernel
theorem dX6_conjunction_37 : decode cX6_conjunction 37 = .ok (.invokevirtual 118, 3) := by decide +kernel
theorem dX6_conjunction_40 : decode cX6_conjunction 40 = .ok (.aload_n 0, 1) := by decide +kernel
theorem dX6_conjunction_41 : decode cX6_conjunction 41 = .ok (.getfield 21, 3) := by decide +kernel
theorem dX6_conjunction_44 : decode cX6_conjunction 44 = .ok (.sipush (-308), 3) := by decide +kernel
theorem dX6_conjunction_47 : decode cX6_conjunction 47 = .ok (.invokevirtual 115, 3) := by decide +kernel
theorem dX6_conjunction_50 : decode cX6_conjunction 50 = .ok (.iinc 2 1, 3) := by decide +kernel
theorem dX6_conjunction_53 : decode cX6_conjunction 53 = .ok (.goto (-46), 3) := by decide +kernel
theorem dX6_conjunction_56 : decode cX6_conjunction 56 = .ok (.return_, 1) := by decide +kernel
set_option maxRecDepth 20000 in
theorem ggX6_negation_X6_accept : GoodIn wsX6_negation wsX6_accept := goodIn_r _ [7, 8, 9, 10, 11, 12, 1, 13, 14, 6, 15, 16, 17, 18, 19, 20, 21, 22, 23, 24, 25, 26, 27, 28, 29, 30, 31, 32, 33, 34, 35, 36, 37, 38, 39, 40, 41, 42, 43, 44, 45, 46, 47, 48, 49, 50, 51, 52, 53, 54, 55, 56, 57, 58, 59, 60, 61, 62, 63, 64, 65, 66, 67, 68, 69, 70, 71, 72, 73, 74, 75, 76, 77, 78, 79, 80, 81, 82, 83, 84, 85, 86, 87, 88, 89, 90, 134, 135, 136, 137, 138, 139, 140, 141, 142, 143, 144, 145] (by decide +kernel) (by decide +kernel)
set_option maxRecDepth 20000 in
theorem gX6_negation_X6_accept : GoodIn wsX6_negation (wsV RX6 49 RX6 yX6_accept wsX6_accept) := goodIn_app (goodIn_of _ (by decide +kernel)) ggX6_negation_X6_accept
set_option maxRecDepth 20000 in
theorem ggX6_negation_X6_fail : GoodIn wsX6_negation wsX6_fail := goodIn_r _ [94, 8, 10, 95, 134, 135, 136, 137, 138, 139, 140, 141, 142, 143, 144, 145] (by decide +kernel) (by decide +kernel)
set_option maxRecDepth 20000 in
theorem gX6_negation_X6_fail : GoodIn wsX6_negation (wsV RX6 75 RX6 yX6_fail wsX6_fail) := goodIn_app (goodIn_of _ (by decide +kernel)) ggX6_negation_X6_fail
set_option maxRecDepth 20000 in
theorem ggX6_negation_X6_comparison : GoodIn wsX6_negation wsX6_comparison := goodIn_r _ [106, 8, 1, 2, 107, 108, 109, 6, 3, 4, 5, 7, 9, 10, 11, 12, 13, 14, 15, 16, 17, 18, 19, 20, 21, 22, 23, 24, 25, 26, 27, 28, 29, 30, 31, 32, 33, 34, 35, 36, 37, 38, 39, 40, 41, 42, 43, 44, 45, 46, 47, 48, 49, 50, 51, 52, 53, 54, 55, 56, 57, 58, 59, 60, 61, 62, 63, 64, 65, 66, 67, 68, 69, 70, 71, 72, 73, 74, 75, 76, 77, 78, 79, 80, 81, 82, 83, 84, 85, 86, 87, 88, 89, 90, 99, 100, 101, 102, 103, 104, 105, 110, 111, 112, 113, 114, 91, 92, 93, 94, 95, 115, 116, 117, 0, 96, 97, 98, 118, 119, 120, 121, 122, 123, 124, 125, 126, 127, 128, 129, 130, 131, 132, 133, 134, 135, 136, 137, 138, 139, 140, 141, 142, 143, 144, 145, 146, 147, 148, 149] (by decide +kernel) (by decide +kernel)
set_option maxRecDepth 20000 in
theorem gX6_negation_X6_comparison : GoodIn wsX6_negation (wsV RX6 121 RX6 yX6_comparison wsX6_comparison) := goodIn_app (goodIn_of _ (by decide +kernel)) ggX6_negation_X6_comparison
set_option maxRecDepth 20000 in
theorem ggX6_negation_X7_add : GoodIn wsX6_negation wsX7_add := goodIn_r _ [103, 104, 105, 146, 147, 148, 149] (by decide +kernel) (by decide +kernel)
set_option maxRecDepth 20000 in
theorem gX6_negation_X7_add : GoodIn wsX6_negation (wsV RX6 115 RX7 yX7_add wsX7_add) := goodIn_app (goodIn_of _ (by decide +kernel)) ggX6_negation_X7_add
theorem dX6_negation_0 : decode cX6_negation 0 = .ok (.iconst 0, 1) := by decide +kernel
theorem dX6_negation_1 : decode cX6_negation 1 = .ok (.istore_n 2, 1) := by decide +kernel
theorem dX6_negation_2 : decode cX6_negation 2 = .ok (.iconst 0, 1) := by decide +kernel
theorem dX6_negation_3 : decode cX6_negation 3 = .ok (.istore_n 3, 1) := by decide +kernel
theorem dX6_negation_4 : decode cX6_negation 4 = .ok (.iload_n 3, 1) := by decide +kernel
theorem dX6_negation_5 : decode cX6_negation 5 = .ok (.bipush 6, 2) := by decide +kernel
theorem dX6_negation_7 : decode cX6_negation 7 = .ok (.if_icmp .ge 26, 3) := by decide +kernel
theorem dX6_negation_10 : decode cX6_negation 10 = .ok (.aload_n 0, 1) := by decide +kernel
theorem dX6_negation_11 : decode cX6_negation 11 = .ok (.getfield 52, 3) := by decide +kernel
theorem dX6_negation_14 : decode cX6_negation 14 = .ok (.sipush 309, 3) := by decide +kernel
theorem dX6_negation_17 : decode cX6_negation 17 = .ok (.if_icmp .ne 16, 3) := by decide +kernel
theorem dX6_negation_20 : decode cX6_negation 20 = .ok (.aload_n 0, 1) := by decide +kernel
theorem dX6_negation_21 : decode cX6_negation 21 = .ok (.invokevirtual 49, 3) := by decide +kernel
theorem dX6_negation_24 : decode cX6_negation 24 = .ok (.iinc 2 1, 3) := by decide +kernel
theorem dX6_negation_27 : decode cX6_negation 27 = .ok (.iinc 3 1, 3) := by decide +kernel
theorem dX6_negation_30 : decode cX6_negation 30 = .ok (.goto (-26), 3) := by decide +kernel
theorem dX6_negation_33 : decode cX6_negation 33 = .ok (.aload_n 0, 1) := by decide +kernel
theorem dX6_negation_34 : decode cX6_negation 34 = .ok (.getfield 52, 3) := by decide +kernel
theorem dX6_negation_37 : decode cX6_negation 37 = .ok (.sipush 309, 3) := by decide +kernel
theorem dX6_negation_40 : decode cX6_negation 40 = .ok (.if_icmp .ne 15, 3) := by decide +kernel
theorem dX6_negation_43 : decode cX6_negation 43 = .ok (.iload_n 2, 1) := by decide +kernel
theorem dX6_negation_44 : decode cX6_negation 44 = .ok (.bipush 6, 2) := by decide +kernel
theorem dX6_negation_46 : decode cX6_negation 46 = .ok (.if_icmp .ne 9, 3) := by decide +kernel
theorem dX6_negation_49 : decode cX6_negation 49 = .ok (.aload_n 0, 1) := by decide +kernel
theorem dX6_negation_50 : decode cX6_negation 50 = .ok (.iconst 2, 1) := by decide +kernel
theorem dX6_negation_51 : decode cX6_negation 51 = .ok (.invokevirtual 75, 3) := by decide +kernel
theorem dX6_negation_54 : decode cX6_negation 54 = .ok (.return_, 1) := by decide +kernel
theorem dX6_negation_55 : decode cX6_negation 55 = .ok (.aload_n 0, 1) := by decide +kernel
theorem dX6_negation_56 : decode cX6_negation 56 = .ok (.iload_n 1, 1) := by decide +kernel
theorem dX6_negation_57 : decode cX6_negation 57 = .ok (.invokevirtual 121, 3) := by decide +kernel
theorem dX6_negation_60 : decode cX6_negation 60 = .ok (.iconst 0, 1) := by decide +kernel
theorem dX6_negation_61 : decode cX6_negation 61 = .ok (.istore_n 3, 1) := by decide +kernel
theorem dX6_negation_62 : decode cX6_negation 62 = .ok (.iload_n 3, 1) := by decide +kernel
theorem dX6_negation_63 : decode cX6_negation 63 = .ok (.iload_n 2, 1) := by decide +kernel
theorem dX6_negation_64 : decode cX6_negation 64 = .ok (.if_icmp .ge 19, 3) := by decide +kernel
theorem dX6_negation_67 : decode cX6_negation 67 = .ok (.aload_n 0, 1) := by decide +kernel
theorem dX6_negation_68 : decode cX6_negation 68 = .ok (.getfield 21, 3) := by decide +kernel
theorem dX6_negation_71 : decode cX6_negation 71 = .ok (.sipush (-309), 3) := by decide +kernel
theorem dX6_negation_74 : decode cX6_negation 74 = .ok (.invokevirtual 115, 3) := by decide +kernel
theorem dX6_negation_77 : decode cX6_negation 77 = .ok (.iinc 3 1, 3) := by decide +kernel
theorem dX6_negation_80 : decode cX6_negation 80 = .ok (.goto (-18), 3) := by decide +kernel
theorem dX6_negation_83 : decode cX6_negation 83 = .ok (.return_, 1) := by decide +kernel
set_option maxRecDepth 20000 in
theorem ggX6_comparison_X6_sum : GoodIn wsX6_comparison wsX6_sum := goodIn_r _ [130, 1, 2, 3, 131, 132, 133, 7, 8, 9, 10, 11, 12, 13, 14, 15, 16, 17, 18, 19, 20, 21, 22, 23, 24, 25, 26, 27, 28, 29, 30, 31, 32, 33, 34, 35, 36, 37, 38, 39, 40, 41, 42, 43, 44, 45, 46, 47, 48, 49, 50, 51, 52, 53, 54, 55, 56, 57, 58, 59, 60, 61, 62, 63, 64, 65, 66, 67, 68, 69, 70, 71, 72, 73, 74, 75, 76, 77, 78, 79, 80, 81, 82, 83, 84, 85, 86, 87, 88, 89, 90, 91, 92, 93, 94, 95, 96, 97, 98, 99, 100, 0, 4, 5, 6, 101, 102, 103, 104, 105, 106, 107, 108, 109, 110, 111, 112, 113, 114, 115, 116, 117, 118, 119, 120, 121, 122, 123, 124, 125, 126, 127, 128, 129, 134, 135, 136, 137, 138, 139, 140, 141, 142, 143, 144, 145, 146, 147, 148, 149] (by decide +kernel) (by decide +kernel)
set_option maxRecDepth 20000 in
theorem gX6_comparison_X6_sum : GoodIn wsX6_comparison (wsV RX6 124 RX6 yX6_sum wsX6_sum) := goodIn_app (goodIn_of _ (by decide +kernel)) ggX6_comparison_X6_sum
set_option maxRecDepth 20000 in
theorem ggX6_comparison_X6_accept : GoodIn wsX6_comparison wsX6_accept := goodIn_r _ [11, 1, 12, 13, 14, 15, 2, 16, 17, 7, 18, 19, 20, 21, 22, 23, 24, 25, 26, 27, 28, 29, 30, 31, 32, 33, 34, 35, 36, 37, 38, 39, 40, 41, 42, 43, 44, 45, 46, 47, 48, 49, 50, 51, 52, 53, 54, 55, 56, 57, 58, 59, 60, 61, 62, 63, 64, 65, 66, 67, 68, 69, 70, 71, 72, 73, 74, 75, 76, 77, 78, 79, 80, 81, 82, 83, 84, 85, 86, 87, 88, 89, 90, 91, 92, 93, 134, 135, 136, 137, 138, 139, 140, 141, 142, 143, 144, 145] (by decide +kernel) (by decide +kernel)
set_option maxRecDepth 20000 in
theorem gX6_comparison_X6_accept : GoodIn wsX6_comparison (wsV RX6 49 RX6 yX6_accept wsX6_accept) := goodIn_app (goodIn_of _ (by decide +kernel)) ggX6_comparison_X6_accept
set_option maxRecDepth 20000 in
theorem ggX6_comparison_X7_add : GoodIn wsX6_comparison wsX7_add := goodIn_r _ [98, 99, 100, 146, 147, 148, 149] (by decide +kernel) (by decide +kernel)
set_option maxRecDepth 20000 in
theorem gX6_comparison_X7_add : GoodIn wsX6_comparison (wsV RX6 115 RX7 yX7_add wsX7_add) := goodIn_app (goodIn_of _ (by decide +kernel)) ggX6_comparison_X7_add
theorem dX6_comparison_0 : decode cX6_comparison 0 = .ok (.aload_n 0, 1) := by decide +kernel
theorem dX6_comparison_1 : decode cX6_comparison 1 = .ok (.iload_n 1, 1) := by decide +kernel
theorem dX6_comparison_2 : decode cX6_comparison 2 = .ok (.invokevirtual 124, 3) := by decide +kernel
theorem dX6_comparison_5 : decode cX6_comparison 5 = .ok (.aload_n 0, 1) := by decide +kernel
theorem dX6_comparison_6 : decode cX6_comparison 6 = .ok (.getfield 43, 3) := by decide +kernel
theorem dX6_comparison_9 : decode cX6_comparison 9 = .ok (.ifCond .ne 44, 3) := by decide +kernel
theorem dX6_comparison_12 : decode cX6_comparison 12 = .ok (.aload_n 0, 1) := by decide +kernel
theorem dX6_comparison_13 : decode cX6_comparison 13 = .ok (.getfield 52, 3) := by decide +kernel
theorem dX6_comparison_16 : decode cX6_comparison 16 = .ok (.bipush 60, 2) := by decide +kernel
theorem dX6_comparison_18 : decode cX6_comparison 18 = .ok (.if_icmp .eq 12, 3) := by decide +kernel
theorem dX6_comparison_21 : decode cX6_comparison 21 = .ok (.aload_n 0, 1) := by decide +kernel
theorem dX6_comparison_22 : decode cX6_comparison 22 = .ok (.getfield 52, 3) := by decide +kernel
theorem dX6_comparison_25 : decode cX6_comparison 25 = .ok (.bipush 61, 2) := by decide +kernel
theorem dX6_comparison_27 : decode cX6_comparison 27 = .ok (.if_icmp .ne 26, 3) := by decide +kernel
theorem dX6_comparison_30 : decode cX6_comparison 30 = .ok (.aload_n 0, 1) := by decide +kernel
theorem dX6_comparison_31 : decode cX6_comparison 31 = .ok (.getfield 52, 3) := by decide +kernel
theorem dX6_comparison_34 : decode cX6_comparison 34 = .ok (.istore_n 2, 1) := by decide +kernel
theorem dX6_comparison_35 : decode cX6_comparison 35 = .ok (.aload_n 0, 1) := by decide +kernel
theorem dX6_comparison_36 : decode cX6_comparison 36 = .ok (.invokevirtual 49, 3) := by decide +kernel
theorem dX6_comparison_39 : decode cX6_comparison 39 = .ok (.aload_n 0, 1) := by decide +kernel
theorem dX6_comparison_40 : decode cX6_comparison 40 = .ok (.iload_n 1, 1) := by decide +kernel
theorem dX6_comparison_41 : decode cX6_comparison 41 = .ok (.invokevirtual 124, 3) := by decide +kernel
theorem dX6_comparison_44 : decode cX6_comparison 44 = .ok (.aload_n 0, 1) := by decide +kernel
theorem dX6_comparison_45 : decode cX6_comparison 45 = .ok (.getfield 21, 3) := by decide +kernel
theorem dX6_comparison_48 : decode cX6_comparison 48 = .ok (.iload_n 2, 1) := by decide +kernel
theorem dX6_comparison_49 : decode cX6_comparison 49 = .ok (.ineg, 1) := by decide +kernel
theorem dX6_comparison_50 : decode cX6_comparison 50 = .ok (.invokevirtual 115, 3) := by decide +kernel
theorem dX6_comparison_53 : decode cX6_comparison 53 = .ok (.return_, 1) := by decide +kernel
set_option maxRecDepth 20000 in
theorem ggX6_sum_X6_product : GoodIn wsX6_sum wsX6_product := goodIn_r _ [130, 1, 2, 3, 131, 132, 133, 7, 8, 9, 10, 11, 12, 13, 14, 15, 16, 17, 18, 19, 20, 21, 22, 23, 24, 25, 26, 27, 28, 29, 30, 31, 32, 33, 34, 35, 36, 37, 38, 39, 40, 41, 42, 43, 44, 45, 46, 47, 48, 49, 50, 51, 52, 53, 54, 55, 56, 57, 58, 59, 60, 61, 62, 63, 64, 65, 66, 67, 68, 69, 70, 71, 72, 73, 74, 75, 76, 77, 78, 79, 80, 81, 82, 83, 84, 85, 86, 87, 88, 89, 90, 91, 92, 93, 94, 95, 96, 97, 98, 99, 100, 101, 102, 103, 104, 105, 106, 107, 108, 109, 110, 111, 112, 113, 114, 115, 116, 117, 118, 119, 120, 121, 122, 123, 124, 125, 126, 127, 128, 129, 0, 4, 5, 6, 134, 135, 136, 137, 138, 139, 140, 141, 142, 143, 144, 145, 146, 147, 148, 149] (by decide +kernel) (by decide +kernel)
set_option maxRecDepth 20000 in
theorem gX6_sum_X6_product : GoodIn wsX6_sum (wsV RX6 127 RX6 yX6_product wsX6_product) := goodIn_app (goodIn_of _ (by decide +kernel)) ggX6_sum_X6_product
set_option maxRecDepth 20000 in
theorem ggX6_sum_X6_accept : GoodIn wsX6_sum wsX6_accept := goodIn_r _ [11, 1, 12, 13, 14, 15, 2, 16, 17, 7, 18, 19, 20, 21, 22, 23, 24, 25, 26, 27, 28, 29, 30, 31, 32, 33, 34, 35, 36, 37, 38, 39, 40, 41, 42, 43, 44, 45, 46, 47, 48, 49, 50, 51, 52, 53, 54, 55, 56, 57, 58, 59, 60, 61, 62, 63, 64, 65, 66, 67, 68, 69, 70, 71, 72, 73, 74, 75, 76, 77, 78, 79, 80, 81, 82, 83, 84, 85, 86, 87, 88, 89, 90, 91, 92, 93, 134, 135, 136, 137, 138, 139, 140, 141, 142, 143, 144, 145] (by decide +kernel) (by decide +kernel)
set_option maxRecDepth 20000 in
theorem gX6_sum_X6_accept : GoodIn wsX6_sum (wsV RX6 49 RX6 yX6_accept wsX6_accept) := goodIn_app (goodIn_of _ (by decide +kernel)) ggX6_sum_X6_accept
set_option maxRecDepth 20000 in
theorem ggX6_sum_X7_add : GoodIn wsX6_sum wsX7_add := goodIn_r _ [98, 99, 100, 146, 147, 148, 149] (by decide +kernel) (by decide +kernel)
set_option maxRecDepth 20000 in
theorem gX6_sum_X7_add : GoodIn wsX6_sum (wsV RX6 115 RX7 yX7_add wsX7_add) := goodIn_app (goodIn_of _ (by decide +kernel)) ggX6_sum_X7_add
theorem dX6_sum_0 : decode cX6_sum 0 = .ok (.aload_n 0, 1) := by decide +kernel
theorem dX6_sum_1 : decode cX6_sum 1 = .ok (.iload_n 1, 1) := by decide +kernel
theorem dX6_sum_2 : decode cX6_sum 2 = .ok (.invokevirtual 127, 3) := by decide +kernel
theorem dX6_sum_5 : decode cX6_sum 5 = .ok (.iconst 0, 1) := by decide +kernel
theorem dX6_sum_6 : decode cX6_sum 6 = .ok (.istore_n 2, 1) := by decide +kernel
theorem dX6_sum_7 : decode cX6_sum 7 = .ok (.iload_n 2, 1) := by decide +kernel
theorem dX6_sum_8 : decode cX6_sum 8 = .ok (.sipush 600, 3) := by decide +kernel
theorem dX6_sum_11 : decode cX6_sum 11 = .ok (.if_icmp .ge 57, 3) := by decide +kernel
theorem dX6_sum_14 : decode cX6_sum 14 = .ok (.aload_n 0, 1) := by decide +kernel
theorem dX6_sum_15 : decode cX6_sum 15 = .ok (.getfield 43, 3) := by decide +kernel
theorem dX6_sum_18 : decode cX6_sum 18 = .ok (.ifCond .ne 50, 3) := by decide +kernel
theorem dX6_sum_21 : decode cX6_sum 21 = .ok (.aload_n 0, 1) := by decide +kernel
theorem dX6_sum_22 : decode cX6_sum 22 = .ok (.getfield 52, 3) := by decide +kernel
theorem dX6_sum_25 : decode cX6_sum 25 = .ok (.bipush 43, 2) := by decide +kernel
theorem dX6_sum_27 : decode cX6_sum 27 = .ok (.if_icmp .eq 12, 3) := by decide +kernel
theorem dX6_sum_30 : decode cX6_sum 30 = .ok (.aload_n 0, 1) := by decide +kernel
theorem dX6_sum_31 : decode cX6_sum 31 = .ok (.getfield 52, 3) := by decide +kernel
theorem dX6_sum_34 : decode cX6_sum 34 = .ok (.bipush 45, 2) := by decide +kernel
theorem dX6_sum_36 : decode cX6_sum 36 = .ok (.if_icmp .ne 32, 3) := by decide +kernel
theorem dX6_sum_39 : decode cX6_sum 39 = .ok (.aload_n 0, 1) := by decide +kernel
theorem dX6_sum_40 : decode cX6_sum 40 = .ok (.getfield 52, 3) := by decide +kernel
theorem dX6_sum_43 : decode cX6_sum 43 = .ok (.istore_n 3, 1) := by decide +kernel
theorem dX6_sum_44 : decode cX6_sum 44 = .ok (.aload_n 0, 1) := by decide +kernel
theorem dX6_sum_45 : decode cX6_sum 45 = .ok (.invokevirtual 49, 3) := by decide +kernel
theorem dX6_sum_48 : decode cX6_sum 48 = .ok (.aload_n 0, 1) := by decide +kernel
theorem dX6_sum_49 : decode cX6_sum 49 = .ok (.iload_n 1, 1) := by decide +kernel
theorem dX6_sum_50 : decode cX6_sum 50 = .ok (.invokevirtual 127, 3) := by decide +kernel
theorem dX6_sum_53 : decode cX6_sum 53 = .ok (.aload_n 0, 1) := by decide +kernel
theorem dX6_sum_54 : decode cX6_sum 54 = .ok (.getfield 21, 3) := by decide +kernel
theorem dX6_sum_57 : decode cX6_sum 57 = .ok (.iload_n 3, 1) := by decide +kernel
theorem dX6_sum_58 : decode cX6_sum 58 = .ok (.ineg, 1) := by decide +kernel
theorem dX6_sum_59 : decode cX6_sum 59 = .ok (.invokevirtual 115, 3) := by decide +kernel
theorem dX6_sum_62 : decode cX6_sum 62 = .ok (.iinc 2 1, 3) := by decide +kernel
theorem dX6_sum_65 : decode cX6_sum 65 = .ok (.goto (-58), 3) := by decide +kernel
theorem dX6_sum_68 : decode cX6_sum 68 = .ok (.return_, 1) := by decide +kernel
set_option maxRecDepth 20000 in
theorem ggX6_product_X6_part : GoodIn wsX6_product wsX6_part := goodIn_r _ [122, 2, 89, 3, 90, 110, 111, 112, 7, 113, 1, 13, 114, 94, 95, 96, 97, 98, 99, 100, 8, 9, 10, 11, 12, 14, 15, 16, 17, 18, 19, 20, 21, 22, 23, 24, 25, 26, 27, 28, 29, 30, 31, 32, 33, 34, 35, 36, 37, 38, 39, 40, 41, 42, 43, 44, 45, 46, 47, 48, 49, 50, 51, 52, 53, 54, 55, 56, 57, 58, 59, 60, 61, 62, 63, 64, 65, 66, 67, 68, 69, 70, 71, 72, 73, 74, 75, 76, 77, 78, 79, 80, 81, 82, 83, 84, 85, 86, 87, 88, 91, 92, 93, 123, 124, 125, 126, 127, 128, 129, 101, 102, 103, 104, 105, 106, 107, 108, 109, 115, 116, 117, 118, 119, 120, 121, 0, 4, 5, 6, 130, 131, 132, 133, 134, 135, 136, 137, 138, 139, 140, 141, 142, 143, 144, 145, 146, 147, 148, 149] (by decide +kernel) (by decide +kernel)
set_option maxRecDepth 20000 in
theorem gX6_product_X6_part : GoodIn wsX6_product (wsV RX6 130 RX6 yX6_part wsX6_part) := goodIn_app (goodIn_of _ (by decide +kernel)) ggX6_product_X6_part
set_option maxRecDepth 20000 in
theorem ggX6_product_X6_accept : GoodIn wsX6_product wsX6_accept := goodIn_r _ [11, 1, 12, 13, 14, 15, 2, 16, 17, 7, 18, 19, 20, 21, 22, 23, 24, 25, 26, 27, 28, 29, 30, 31, 32, 33, 34, 35, 36, 37, 38, 39, 40, 41, 42, 43, 44, 45, 46, 47, 48, 49, 50, 51, 52, 53, 54, 55, 56, 57, 58, 59, 60, 61, 62, 63, 64, 65, 66, 67, 68, 69, 70, 71, 72, 73, 74, 75, 76, 77, 78, 79, 80, 81, 82, 83, 84, 85, 86, 87, 88, 89, 90, 91, 92, 93, 134, 135, 136, 137, 138, 139, 140, 141, 142, 143, 144, 145] (by decide +kernel) (by decide +kernel)
set_option maxRecDepth 20000 in
theorem gX6_product_X6_accept : GoodIn wsX6_product (wsV RX6 49 RX6 yX6_accept wsX6_accept) := goodIn_app (goodIn_of _ (by decide +kernel)) ggX6_product_X6_accept
set_option maxRecDepth 20000 in
theorem ggX6_product_X7_add : GoodIn wsX6_product wsX7_add := goodIn_r _ [98, 99, 100, 146, 147, 148, 149] (by decide +kernel) (by decide +kernel)
set_option maxRecDepth 20000 in
theorem gX6_product_X7_add : GoodIn wsX6_product (wsV RX6 115 RX7 yX7_add wsX7_add) := goodIn_app (goodIn_of _ (by decide +kernel)) ggX6_product_X7_add
theorem dX6_product_0 : decode cX6_product 0 = .ok (.aload_n 0, 1) := by decide +kernel
theorem dX6_product_1 : decode cX6_product 1 = .ok (.iload_n 1, 1) := by decide +kernel
theorem dX6_product_2 : decode cX6_product 2 = .ok (.invokevirtual 130, 3) := by decide +kernel
theorem dX6_product_5 : decode cX6_product 5 = .ok (.iconst 0, 1) := by decide +kernel
theorem dX6_product_6 : decode cX6_product 6 = .ok (.istore_n 2, 1) := by decide +kernel
theorem dX6_product_7 : decode cX6_product 7 = .ok (.iload_n 2, 1) := by decide +kernel
theorem dX6_product_8 : decode cX6_product 8 = .ok (.sipush 600, 3) := by decide +kernel
theorem dX6_product_11 : decode cX6_product 11 = .ok (.if_icmp .ge 57, 3) := by decide +kernel
theorem dX6_product_14 : decode cX6_product 14 = .ok (.aload_n 0, 1) := by decide +kernel
theorem dX6_product_15 : decode cX6_product 15 = .ok (.getfield 43, 3) := by decide +kernel
theorem dX6_product_18 : decode cX6_product 18 = .ok (.ifCond .ne 50, 3) := by decide +kernel
theorem dX6_product_21 : decode cX6_product 21 = .ok (.aload_n 0, 1) := by decide +kernel
theorem dX6_product_22 : decode cX6_product 22 = .ok (.getfield 52, 3) := by decide +kernel
theorem dX6_product_25 : decode cX6_product 25 = .ok (.bipush 42, 2) := by decide +kernel
theorem dX6_product_27 : decode cX6_product 27 = .ok (.if_icmp .eq 12, 3) := by decide +kernel
theorem dX6_product_30 : decode cX6_product 30 = .ok (.aload_n 0, 1) := by decide +kernel
theorem dX6_product_31 : decode cX6_product 31 = .ok (.getfield 52, 3) := by decide +kernel
theorem dX6_product_34 : decode cX6_product 34 = .ok (.bipush 47, 2) := by decide +kernel
theorem dX6_product_36 : decode cX6_product 36 = .ok (.if_icmp .ne 32, 3) := by decide +kernel
theorem dX6_product_39 : decode cX6_product 39 = .ok (.aload_n 0, 1) := by decide +kernel
theorem dX6_product_40 : decode cX6_product 40 = .ok (.getfield 52, 3) := by decide +kernel
theorem dX6_product_43 : decode cX6_product 43 = .ok (.istore_n 3, 1) := by decide +kernel
theorem dX6_product_44 : decode cX6_product 44 = .ok (.aload_n 0, 1) := by decide +kernel
theorem dX6_product_45 : decode cX6_product 45 = .ok (.invokevirtual 49, 3) := by decide +kernel
theorem dX6_product_48 : decode cX6_product 48 = .ok (.aload_n 0, 1) := by decide +kernel
theorem dX6_product_49 : decode cX6_product 49 = .ok (.iload_n 1, 1) := by decide +kernel
theorem dX6_product_50 : decode cX6_product 50 = .ok (.invokevirtual 130, 3) := by decide +kernel
theorem dX6_product_53 : decode cX6_product 53 = .ok (.aload_n 0, 1) := by decide +kernel
theorem dX6_product_54 : decode cX6_product 54 = .ok (.getfield 21, 3) := by decide +kernel
theorem dX6_product_57 : decode cX6_product 57 = .ok (.iload_n 3, 1) := by decide +kernel
theorem dX6_product_58 : decode cX6_product 58 = .ok (.ineg, 1) := by decide +kernel
theorem dX6_product_59 : decode cX6_product 59 = .ok (.invokevirtual 115, 3) := by decide +kernel
theorem dX6_product_62 : decode cX6_product 62 = .ok (.iinc 2 1, 3) := by decide +kernel
theorem dX6_product_65 : decode cX6_product 65 = .ok (.goto (-58), 3) := by decide +kernel
theorem dX6_product_68 : decode cX6_product 68 = .ok (.return_, 1) := by decide +kernel
set_option maxRecDepth 20000 in
theorem ggX6_part_X6_fail : GoodIn wsX6_part wsX6_fail := goodIn_r _ [9, 10, 11, 12, 134, 135, 136, 137, 138, 139, 140, 141, 142, 143, 144, 145] (by decide +kernel) (by decide +kernel)
set_option maxRecDepth 20000 in
theorem gX6_part_X6_fail : GoodIn wsX6_part (wsV RX6 75 RX6 yX6_fail wsX6_fail) := goodIn_app (goodIn_of _ (by decide +kernel)) ggX6_part_X6_fail
set_option maxRecDepth 20000 in
theorem ggX6_part_X7_add : GoodIn wsX6_part wsX7_add := goodIn_r _ [17, 18, 19, 146, 147, 148, 149] (by decide +kernel) (by decide +kernel)
set_option maxRecDepth 20000 in
theorem gX6_part_X7_add : GoodIn wsX6_part (wsV RX6 115 RX7 yX7_add wsX7_add) := goodIn_app (goodIn_of _ (by decide +kernel)) ggX6_part_X7_add
set_option maxRecDepth 20000 in
theorem ggX6_part_X6_accept : GoodIn wsX6_part wsX6_accept := goodIn_r _ [23, 10, 24, 11, 25, 26, 1, 27, 28, 8, 29, 30, 31, 32, 33, 34, 35, 36, 37, 38, 39, 40, 41, 42, 43, 44, 45, 46, 47, 48, 49, 50, 51, 52, 53, 54, 55, 56, 57, 58, 59, 60, 61, 62, 63, 64, 65, 66, 67, 68, 69, 70, 71, 72, 73, 74, 75, 76, 77, 78, 79, 80, 81, 82, 83, 84, 85, 86, 87, 88, 89, 90, 91, 92, 93, 94, 95, 96, 97, 98, 99, 2, 4, 100, 101, 102, 134, 135, 136, 137, 138, 139, 140, 141, 142, 143, 144, 145] (by decide +kernel) (by decide +kernel)
set_option maxRecDepth 20000 in
theorem gX6_part_X6_accept : GoodIn wsX6_part (wsV RX6 49 RX6 yX6_accept wsX6_accept) := goodIn_app (goodIn_of _ (by decide +kernel)) ggX6_part_X6_accept
set_option maxRecDepth 20000 in
theorem ggX6_part_X6_expression : GoodIn wsX6_part wsX6_expression := goodIn_r _ [118, 10, 1, 3, 5, 6, 7, 8, 9, 11, 12, 119, 120, 121, 20, 21, 22, 23, 24, 25, 26, 27, 28, 29, 30, 31, 32, 33, 34, 35, 36, 37, 38, 39, 40, 41, 42, 43, 44, 45, 46, 47, 48, 49, 50, 51, 52, 53, 54, 55, 56, 57, 58, 59, 60, 61, 62, 63, 64, 65, 66, 67, 68, 69, 70, 71, 72, 73, 74, 75, 76, 77, 78, 79, 80, 81, 82, 83, 84, 85, 86, 87, 88, 89, 90, 91, 92, 93, 94, 95, 96, 97, 98, 99, 2, 4, 100, 101, 102, 13, 14, 15, 16, 17, 18, 19, 110, 111, 112, 113, 114, 115, 116, 117, 122, 123, 124, 125, 0, 103, 104, 105, 106, 107, 108, 109, 126, 127, 128, 129, 130, 131, 132, 133, 134, 135, 136, 137, 138, 139, 140, 141, 142, 143, 144, 145, 146, 147, 148, 149] (by decide +kernel) (by decide +kernel)
set_option maxRecDepth 20000 in
theorem gX6_part_X6_expression : GoodIn wsX6_part (wsV RX6 78 RX6 yX6_expression wsX6_expression) := goodIn_app (goodIn_of _ (by decide +kernel)) ggX6_part_X6_expression
set_option maxRecDepth 20000 in
theorem ggX6_part_X6_expect : GoodIn wsX6_part wsX6_expect := goodIn_r _ [109, 1, 5, 6, 7, 8, 9, 10, 11, 12, 20, 21, 22, 23, 24, 25, 26, 27, 28, 29, 30, 31, 32, 33, 34, 35, 36, 37, 38, 39, 40, 41, 42, 43, 44, 45, 46, 47, 48, 49, 50, 51, 52, 53, 54, 55, 56, 57, 58, 59, 60, 61, 62, 63, 64, 65, 66, 67, 68, 69, 70, 71, 72, 73, 74, 75, 76, 77, 78, 79, 80, 81, 82, 83, 84, 85, 86, 87, 88, 89, 90, 91, 92, 93, 94, 95, 96, 97, 98, 99, 2, 4, 100, 101, 102, 134, 135, 136, 137, 138, 139, 140, 141, 142, 143, 144, 145] (by decide +kernel) (by decide +kernel)
set_option maxRecDepth 20000 in
theorem gX6_part_X6_expect : GoodIn wsX6_part (wsV RX6 81 RX6 yX6_expect wsX6_expect) := goodIn_app (goodIn_of _ (by decide +kernel)) ggX6_part_X6_expect
theorem dX6_part_0 : decode cX6_part 0 = .ok (.aload_n 0, 1) := by decide +kernel
theorem dX6_part_1 : decode cX6_part 1 = .ok (.getfield 52, 3) := by decide +kernel
theorem dX6_part_4 : decode cX6_part 4 = .ok (.iconst 2, 1) := by decide +kernel
theorem dX6_part_5 : decode cX6_part 5 = .ok (.if_icmp .ne 34, 3) := by decide +kernel
theorem dX6_part_8 : decode cX6_part 8 = .ok (.aload_n 0, 1) := by decide +kernel
theorem dX6_part_9 : decode cX6_part 9 = .ok (.getfield 106, 3) := by decide +kernel
theorem dX6_part_12 : decode cX6_part 12 = .ok (.iconst 4, 1) := by decide +kernel
theorem dX6_part_13 : decode cX6_part 13 = .ok (.if_icmp .le 8, 3) := by decide +kernel
theorem dX6_part_16 : decode cX6_part 16 = .ok (.aload_n 0, 1) := by decide +kernel
theorem dX6_part_17 : decode cX6_part 17 = .ok (.iconst 2, 1) := by decide +kernel
theorem dX6_part_18 : decode cX6_part 18 = .ok (.invokevirtual 75, 3) := by decide +kernel
theorem dX6_part_21 : decode cX6_part 21 = .ok (.aload_n 0, 1) := by decide +kernel
theorem dX6_part_22 : decode cX6_part 22 = .ok (.getfield 21, 3) := by decide +kernel
theorem dX6_part_25 : decode cX6_part 25 = .ok (.aload_n 0, 1) := by decide +kernel
theorem dX6_part_26 : decode cX6_part 26 = .ok (.getfield 109, 3) := by decide +kernel
theorem dX6_part_29 : decode cX6_part 29 = .ok (.invokevirtual 115, 3) := by decide +kernel
theorem dX6_part_32 : decode cX6_part 32 = .ok (.aload_n 0, 1) := by decide +kernel
theorem dX6_part_33 : decode cX6_part 33 = .ok (.invokevirtual 49, 3) := by decide +kernel
theorem dX6_part_36 : decode cX6_part 36 = .ok (.goto 90, 3) := by decide +kernel
theorem dX6_part_39 : decode cX6_part 39 = .ok (.aload_n 0, 1) := by decide +kernel
theorem dX6_part_40 : decode cX6_part 40 = .ok (.getfield 52, 3) := by decide +kernel
theorem dX6_part_43 : decode cX6_part 43 = .ok (.sipush 310, 3) := by decide +kernel
theorem dX6_part_46 : decode cX6_part 46 = .ok (.if_icmp .lt 32, 3) := by decide +kernel
theorem dX6_part_49 : decode cX6_part 49 = .ok (.aload_n 0, 1) := by decide +kernel
theorem dX6_part_50 : decode cX6_part 50 = .ok (.getfield 52, 3) := by decide +kernel
theorem dX6_part_53 : decode cX6_part 53 = .ok (.sipush 315, 3) := by decide +kernel
theorem dX6_part_56 : decode cX6_part 56 = .ok (.if_icmp .gt 22, 3) := by decide +kernel
theorem dX6_part_59 : decode cX6_part 59 = .ok (.aload_n 0, 1) := by decide +kernel
theorem dX6_part_60 : decode cX6_part 60 = .ok (.getfield 21, 3) := by decide +kernel
theorem dX6_part_63 : decode cX6_part 63 = .ok (.aload_n 0, 1) := by decide +kernel
theorem dX6_part_64 : decode cX6_part 64 = .ok (.getfield 52, 3) := by decide +kernel
theorem dX6_part_67 : decode cX6_part 67 = .ok (.ineg, 1) := by decide +kernel
theorem dX6_part_68 : decode cX6_part 68 = .ok (.invokevirtual 115, 3) := by decide +kernel
theorem dX6_part_71 : decode cX6_part 71 = .ok (.aload_n 0, 1) := by decide +kernel
theorem dX6_part_72 : decode cX6_part 72 = .ok (.invokevirtual 49, 3) := by decide +kernel
theorem dX6_part_75 : decode cX6_part 75 = .ok (.goto 51, 3) := by decide +kernel
theorem dX6_part_78 : decode cX6_part 78 = .ok (.aload_n 0, 1) := by decide +kernel
theorem dX6_part_79 : decode cX6_part 79 = .ok (.getfield 52, 3) := by decide +kernel
theorem dX6_part_82 : decode cX6_part 82 = .ok (.bipush 40, 2) := by decide +kernel
theorem dX6_part_84 : decode cX6_part 84 = .ok (.if_icmp .ne 23, 3) := by decide +kernel
theorem dX6_part_87 : decode cX6_part 87 = .ok (.aload_n 0, 1) := by decide +kernel
theorem dX6_part_88 : decode cX6_part 88 = .ok (.invokevirtual 49, 3) := by decide +kernel
theorem dX6_part_91 : decode cX6_part 91 = .ok (.aload_n 0, 1) := by decide +kernel
theorem dX6_part_92 : decode cX6_part 92 = .ok (.iload_n 1, 1) := by decide +kernel
theorem dX6_part_93 : decode cX6_part 93 = .ok (.iconst 1, 1) := by decide +kernel
theorem dX6_part_94 : decode cX6_part 94 = .ok (.iadd, 1) := by decide +kernel
theorem dX6_part_95 : decode cX6_part 95 = .ok (.invokevirtual 78, 3) := by decide +kernel
theorem dX6_part_98 : decode cX6_part 98 = .ok (.aload_n 0, 1) := by decide +kernel
theorem dX6_part_99 : decode cX6_part 99 = .ok (.bipush 41, 2) := by decide +kernel
theorem dX6_part_101 : decode cX6_part 101 = .ok (.invokevirtual 81, 3) := by decide +kernel
theorem dX6_part_104 : decode cX6_part 104 = .ok (.goto 22, 3) := by decide +kernel
theorem dX6_part_107 : decode cX6_part 107 = .ok (.aload_n 0, 1) := by decide +kernel
theorem dX6_part_108 : decode cX6_part 108 = .ok (.aload_n 0, 1) := by decide +kernel
theorem dX6_part_109 : decode cX6_part 109 = .ok (.getfield 52, 3) := by decide +kernel
theorem dX6_part_112 : decode cX6_part 112 = .ok (.sipush 300, 3) := by decide +kernel
theorem dX6_part_115 : decode cX6_part 115 = .ok (.if_icmp .lt 7, 3) := by decide +kernel
theorem dX6_part_118 : decode cX6_part 118 = .ok (.iconst 3, 1) := by decide +kernel
theorem dX6_part_119 : decode cX6_part 119 = .ok (.goto 4, 3) := by decide +kernel
theorem dX6_part_122 : decode cX6_part 122 = .ok (.iconst 1, 1) := by decide +kernel
theorem dX6_part_123 : decode cX6_part 123 = .ok (.invokevirtual 75, 3) := by decide +kernel
theorem dX6_part_126 : decode cX6_part 126 = .ok (.return_, 1) := by decide +kernel
set_option maxRecDepth 20000 in
theorem ggX6_expect_X6_fail : GoodIn wsX6_expect wsX6_fail := goodIn_r _ [6, 7, 8, 9, 95, 96, 97, 98, 99, 100, 101, 102, 103, 104, 105, 106] (by decide +kernel) (by decide +kernel)
set_option maxRecDepth 20000 in
theorem gX6_expect_X6_fail : GoodIn wsX6_expect (wsV RX6 75 RX6 yX6_fail wsX6_fail) := goodIn_app (goodIn_of _ (by decide +kernel)) ggX6_expect_X6_fail
set_option maxRecDepth 20000 in
theorem ggX6_expect_X6_accept : GoodIn wsX6_expect wsX6_accept := goodIn_r _ [13, 7, 14, 8, 15, 16, 1, 17, 18, 5, 19, 20, 21, 22, 23, 24, 25, 26, 27, 28, 29, 30, 31, 32, 33, 34, 35, 36, 37, 38, 39, 40, 41, 42, 43, 44, 45, 46, 47, 48, 49, 50, 51, 52, 53, 54, 55, 56, 57, 58, 59, 60, 61, 62, 63, 64, 65, 66, 67, 68, 69, 70, 71, 72, 73, 74, 75, 76, 77, 78, 79, 80, 81, 82, 83, 84, 85, 86, 87, 88, 89, 90, 91, 92, 93, 94, 95, 96, 97, 98, 99, 100, 101, 102, 103, 104, 105, 106] (by decide +kernel) (by decide +kernel)
set_option maxRecDepth 20000 in
theorem gX6_expect_X6_accept : GoodIn wsX6_expect (wsV RX6 49 RX6 yX6_accept wsX6_accept) := goodIn_app (goodIn_of _ (by decide +kernel)) ggX6_expect_X6_accept
theorem dX6_expect_0 : decode cX6_expect 0 = .ok (.aload_n 0, 1) := by decide +kernel
theorem dX6_expect_1 : decode cX6_expect 1 = .ok (.getfield 52, 3) := by decide +kernel
theorem dX6_expect_4 : decode cX6_expect 4 = .ok (.iload_n 1, 1) := by decide +kernel
theorem dX6_expect_5 : decode cX6_expect 5 = .ok (.if_icmp .eq 8, 3) := by decide +kernel
theorem dX6_expect_8 : decode cX6_expect 8 = .ok (.aload_n 0, 1) := by decide +kernel
theorem dX6_expect_9 : decode cX6_expect 9 = .ok (.iconst 1, 1) := by decide +kernel
theorem dX6_expect_10 : decode cX6_expect 10 = .ok (.invokevirtual 75, 3) := by decide +kernel
theorem dX6_expect_13 : decode cX6_expect 13 = .ok (.aload_n 0, 1) := by decide +kernel
theorem dX6_expect_14 : decode cX6_expect 14 = .ok (.invokevirtual 49, 3) := by decide +kernel
theorem dX6_expect_17 : decode cX6_expect 17 = .ok (.return_, 1) := by decide +kernel
set_option maxRecDepth 20000 in
theorem ggX6_accept_X6_isBlank : GoodIn wsX6_accept wsX6_isBlank := goodIn_r _ [10] (by decide +kernel) (by decide +kernel)
set_option maxRecDepth 20000 in
theorem gX6_accept_X6_isBlank : GoodIn wsX6_accept (va_wsS RX6 133 yX6_isBlank wsX6_isBlank) := goodIn_app (goodIn_of _ (by decide +kernel)) ggX6_accept_X6_isBlank
set_option maxRecDepth 20000 in
theorem ggX6_accept_X6_isLetter : GoodIn wsX6_accept wsX6_isLetter := goodIn_r _ [13] (by decide +kernel) (by decide +kernel)
set_option maxRecDepth 20000 in
theorem gX6_accept_X6_isLetter : GoodIn wsX6_accept (va_wsS RX6 137 yX6_isLetter wsX6_isLetter) := goodIn_app (goodIn_of _ (by decide +kernel)) ggX6_accept_X6_isLetter
set_option maxRecDepth 20000 in
theorem ggX6_accept_X6_readWord : GoodIn wsX6_accept wsX6_readWord := goodIn_r _ [17, 3, 4, 5, 2, 6, 11, 12, 9, 13, 18, 19, 20, 21, 22, 23, 24, 25, 26, 27, 28, 29, 30, 31, 32, 33, 34, 35, 36, 37, 38, 39, 40, 41, 42, 43, 44, 45, 46, 47, 48, 49, 50, 51, 52, 53, 54, 55, 56, 57, 58, 59, 60, 61, 62, 63, 64, 65, 66, 67, 68, 69, 70, 71, 72, 73, 86, 87, 88, 89, 90, 91, 92, 93, 94, 95, 96, 97] (by decide +kernel) (by decide +kernel)
set_option maxRecDepth 20000 in
theorem gX6_accept_X6_readWord : GoodIn wsX6_accept (wsV RX6 140 RX6 yX6_readWord wsX6_readWord) := goodIn_app (goodIn_of _ (by decide +kernel)) ggX6_accept_X6_readWord
set_option maxRecDepth 20000 in
theorem ggX6_accept_X6_isDigit : GoodIn wsX6_accept wsX6_isDigit := goodIn_r _ [76] (by decide +kernel) (by decide +kernel)
set_option maxRecDepth 20000 in
theorem gX6_accept_X6_isDigit : GoodIn wsX6_accept (va_wsS RX6 143 yX6_isDigit wsX6_isDigit) := goodIn_app (goodIn_of _ (by decide +kernel)) ggX6_accept_X6_isDigit
set_option maxRecDepth 20000 in
theorem ggX6_accept_X6_readNumber : GoodIn wsX6_accept wsX6_readNumber := goodIn_r _ [80, 81, 82, 3, 4, 5, 2, 6, 74, 75, 9, 76, 86, 87, 88, 89, 90, 91, 92, 93, 94, 95, 96, 97] (by decide +kernel) (by decide +kernel)
set_option maxRecDepth 20000 in
theorem gX6_accept_X6_readNumber : GoodIn wsX6_accept (wsV RX6 146 RX6 yX6_readNumber wsX6_readNumber) := goodIn_app (goodIn_of _ (by decide +kernel)) ggX6_accept_X6_readNumber
set_option maxRecDepth 20000 in
theorem ggX6_accept_X6_isSign : GoodIn wsX6_accept wsX6_isSign := goodIn_r _ [85] (by decide +kernel) (by decide +kernel)
set_option maxRecDepth 20000 in
theorem gX6_accept_X6_isSign : GoodIn wsX6_accept (va_wsS RX6 149 yX6_isSign wsX6_isSign) := goodIn_app (goodIn_of _ (by decide +kernel)) ggX6_accept_X6_isSign
theorem dX6_accept_0 : decode cX6_accept 0 = .ok (.aload_n 0, 1) := by decide +kernel
theorem dX6_accept_1 : decode cX6_accept 1 = .ok (.getfield 43, 3) := by decide +kernel
theorem dX6_accept_4 : decode cX6_accept 4 = .ok (.ifCond .eq 4, 3) := by decide +kernel
theorem dX6_accept_7 : decode cX6_accept 7 = .ok (.return_, 1) := by decide +kernel
theorem dX6_accept_8 : decode cX6_accept 8 = .ok (.aload_n 0, 1) := by decide +kernel
theorem dX6_accept_9 : decode cX6_accept 9 = .ok (.aload_n 0, 1) := by decide +kernel
theorem dX6_accept_10 : decode cX6_accept 10 = .ok (.getfield 46, 3) := by decide +kernel
theorem dX6_accept_13 : decode cX6_accept 13 = .ok (.putfield 58, 3) := by decide +kernel
theorem dX6_accept_16 : decode cX6_accept 16 = .ok (.aload_n 0, 1) := by decide +kernel
theorem dX6_accept_17 : decode cX6_accept 17 = .ok (.getfield 46, 3) := by decide +kernel
theorem dX6_accept_20 : decode cX6_accept 20 = .ok (.istore_n 1, 1) := by decide +kernel
theorem dX6_accept_21 : decode cX6_accept 21 = .ok (.iload_n 1, 1) := by decide +kernel
theorem dX6_accept_22 : decode cX6_accept 22 = .ok (.aload_n 0, 1) := by decide +kernel
theorem dX6_accept_23 : decode cX6_accept 23 = .ok (.getfield 36, 3) := by decide +kernel
theorem dX6_accept_26 : decode cX6_accept 26 = .ok (.if_icmp .ge 28, 3) := by decide +kernel
theorem dX6_accept_29 : decode cX6_accept 29 = .ok (.aload_n 0, 1) := by decide +kernel
theorem dX6_accept_30 : decode cX6_accept 30 = .ok (.getfield 29, 3) := by decide +kernel
theorem dX6_accept_33 : decode cX6_accept 33 = .ok (.iload_n 1, 1) := by decide +kernel
theorem dX6_accept_34 : decode cX6_accept 34 = .ok (.baload, 1) := by decide +kernel
theorem dX6_accept_35 : decode cX6_accept 35 = .ok (.invokestatic 133, 3) := by decide +kernel
theorem dX6_accept_38 : decode cX6_accept 38 = .ok (.ifCond .eq 16, 3) := by decide +kernel
theorem dX6_accept_41 : decode cX6_accept 41 = .ok (.aload_n 0, 1) := by decide +kernel
theorem dX6_accept_42 : decode cX6_accept 42 = .ok (.iload_n 1, 1) := by decide +kernel
theorem dX6_accept_43 : decode cX6_accept 43 = .ok (.iconst 1, 1) := by decide +kernel
theorem dX6_accept_44 : decode cX6_accept 44 = .ok (.iadd, 1) := by decide +kernel
theorem dX6_accept_45 : decode cX6_accept 45 = .ok (.putfield 58, 3) := by decide +kernel
theorem dX6_accept_48 : decode cX6_accept 48 = .ok (.iinc 1 1, 3) := by decide +kernel
theorem dX6_accept_51 : decode cX6_accept 51 = .ok (.goto (-30), 3) := by decide +kernel
theorem dX6_accept_54 : decode cX6_accept 54 = .ok (.aload_n 0, 1) := by decide +kernel
theorem dX6_accept_55 : decode cX6_accept 55 = .ok (.aload_n 0, 1) := by decide +kernel
theorem dX6_accept_56 : decode cX6_accept 56 = .ok (.getfield 58, 3) := by decide +kernel
theorem dX6_accept_59 : decode cX6_accept 59 = .ok (.putfield 46, 3) := by decide +kernel
theorem dX6_accept_62 : decode cX6_accept 62 = .ok (.aload_n 0, 1) := by decide +kernel
theorem dX6_accept_63 : decode cX6_accept 63 = .ok (.getfield 58, 3) := by decide +kernel
theorem dX6_accept_66 : decode cX6_accept 66 = .ok (.aload_n 0, 1) := by decide +kernel
theorem dX6_accept_67 : decode cX6_accept 67 = .ok (.getfield 36, 3) := by decide +kernel
theorem dX6_accept_70 : decode cX6_accept 70 = .ok (.if_icmp .lt 11, 3) := by decide +kernel
theorem dX6_accept_73 : decode cX6_accept 73 = .ok (.aload_n 0, 1) := by decide +kernel
theorem dX6_accept_74 : decode cX6_accept 74 = .ok (.iconst 0, 1) := by decide +kernel
theorem dX6_accept_75 : decode cX6_accept 75 = .ok (.putfield 52, 3) := by decide +kernel
theorem dX6_accept_78 : decode cX6_accept 78 = .ok (.goto 89, 3) := by decide +kernel
theorem dX6_accept_81 : decode cX6_accept 81 = .ok (.aload_n 0, 1) := by decide +kernel
theorem dX6_accept_82 : decode cX6_accept 82 = .ok (.getfield 29, 3) := by decide +kernel
theorem dX6_accept_85 : decode cX6_accept 85 = .ok (.aload_n 0, 1) := by decide +kernel
theorem dX6_accept_86 : decode cX6_accept 86 = .ok (.getfield 58, 3) := by decide +kernel
theorem dX6_accept_89 : decode cX6_accept 89 = .ok (.baload, 1) := by decide +kernel
theorem dX6_accept_90 : decode cX6_accept 90 = .ok (.invokestatic 137, 3) := by decide +kernel
theorem dX6_accept_93 : decode cX6_accept 93 = .ok (.ifCond .eq 10, 3) := by decide +kernel
theorem dX6_accept_96 : decode cX6_accept 96 = .ok (.aload_n 0, 1) := by decide +kernel
theorem dX6_accept_97 : decode cX6_accept 97 = .ok (.invokevirtual 140, 3) := by decide +kernel
theorem dX6_accept_100 : decode cX6_accept 100 = .ok (.goto 67, 3) := by decide +kernel
theorem dX6_accept_103 : decode cX6_accept 103 = .ok (.aload_n 0, 1) := by decide +kernel
theorem dX6_accept_104 : decode cX6_accept 104 = .ok (.getfield 29, 3) := by decide +kernel
theorem dX6_accept_107 : decode cX6_accept 107 = .ok (.aload_n 0, 1) := by decide +kernel
theorem dX6_accept_108 : decode cX6_accept 108 = .ok (.getfield 58, 3) := by decide +kernel
theorem dX6_accept_111 : decode cX6_accept 111 = .ok (.baload, 1) := by decide +kernel
theorem dX6_accept_112 : decode cX6_accept 112 = .ok (.invokestatic 143, 3) := by decide +kernel
theorem dX6_accept_115 : decode cX6_accept 115 = .ok (.ifCond .eq 10, 3) := by decide +kernel
theorem dX6_accept_118 : decode cX6_accept 118 = .ok (.aload_n 0, 1) := by decide +kernel
theorem dX6_accept_119 : decode cX6_accept 119 = .ok (.invokevirtual 146, 3) := by decide +kernel
theorem dX6_accept_122 : decode cX6_accept 122 = .ok (.goto 45, 3) := by decide +kernel
theorem dX6_accept_125 : decode cX6_accept 125 = .ok (.aload_n 0, 1) := by decide +kernel
theorem dX6_accept_126 : decode cX6_accept 126 = .ok (.aload_n 0, 1) := by decide +kernel
theorem dX6_accept_127 : decode cX6_accept 127 = .ok (.getfield 58, 3) := by decide +kernel
theorem dX6_accept_130 : decode cX6_accept 130 = .ok (.iconst 1, 1) := by decide +kernel
theorem dX6_accept_131 : decode cX6_accept 131 = .ok (.iadd, 1) := by decide +kernel
theorem dX6_accept_132 : decode cX6_accept 132 = .ok (.putfield 46, 3) := by decide +kernel
theorem dX6_accept_135 : decode cX6_accept 135 = .ok (.aload_n 0, 1) := by decide +kernel
theorem dX6_accept_136 : decode cX6_accept 136 = .ok (.aload_n 0, 1) := by decide +kernel
theorem dX6_accept_137 : decode cX6_accept 137 = .ok (.getfield 29, 3) := by decide +kernel
theorem dX6_accept_140 : decode cX6_accept 140 = .ok (.aload_n 0, 1) := by decide +kernel
theorem dX6_accept_141 : decode cX6_accept 141 = .ok (.getfield 58, 3) := by decide +kernel
theorem dX6_accept_144 : decode cX6_accept 144 = .ok (.baload, 1) := by decide +kernel
theorem dX6_accept_145 : decode cX6_accept 145 = .ok (.invokestatic 149, 3) := by decide +kernel
theorem dX6_accept_148 : decode cX6_accept 148 = .ok (.ifCond .eq 15, 3) := by decide +kernel
theorem dX6_accept_151 : decode cX6_accept 151 = .ok (.aload_n 0, 1) := by decide +kernel
theorem dX6_accept_152 : decode cX6_accept 152 = .ok (.getfield 29, 3) := by decide +kernel
theorem dX6_accept_155 : decode cX6_accept 155 = .ok (.aload_n 0, 1) := by decide +kernel
theorem dX6_accept_156 : decode cX6_accept 156 = .ok (.getfield 58, 3) := by decide +kernel
theorem dX6_accept_159 : decode cX6_accept 159 = .ok (.baload, 1) := by decide +kernel
theorem dX6_accept_160 : decode cX6_accept 160 = .ok (.goto 4, 3) := by decide +kernel
theorem dX6_accept_163 : decode cX6_accept 163 = .ok (.iconst 1, 1) := by decide +kernel
theorem dX6_accept_164 : decode cX6_accept 164 = .ok (.putfield 52, 3) := by decide +kernel
theorem dX6_accept_167 : decode cX6_accept 167 = .ok (.return_, 1) := by decide +kernel
set_option maxRecDepth 20000 in
theorem ggX6_readNumber_X6_isDigit : GoodIn wsX6_readNumber wsX6_isDigit := goodIn_r _ [11] (by decide +kernel) (by decide +kernel)
set_option maxRecDepth 20000 in
theorem gX6_readNumber_X6_isDigit : GoodIn wsX6_readNumber (va_wsS RX6 143 yX6_isDigit wsX6_isDigit) := goodIn_app (goodIn_of _ (by decide +kernel)) ggX6_readNumber_X6_isDigit
theorem dX6_readNumber_0 : decode cX6_readNumber 0 = .ok (.aload_n 0, 1) := by decide +kernel
theorem dX6_readNumber_1 : decode cX6_readNumber 1 = .ok (.iconst 0, 1) := by decide +kernel
theorem dX6_readNumber_2 : decode cX6_readNumber 2 = .ok (.putfield 106, 3) := by decide +kernel
theorem dX6_readNumber_5 : decode cX6_readNumber 5 = .ok (.aload_n 0, 1) := by decide +kernel
theorem dX6_readNumber_6 : decode cX6_readNumber 6 = .ok (.iconst 0, 1) := by decide +kernel
theorem dX6_readNumber_7 : decode cX6_readNumber 7 = .ok (.putfield 109, 3) := by decide +kernel
theorem dX6_readNumber_10 : decode cX6_readNumber 10 = .ok (.aload_n 0, 1) := by decide +kernel
theorem dX6_readNumber_11 : decode cX6_readNumber 11 = .ok (.getfield 58, 3) := by decide +kernel
theorem dX6_readNumber_14 : decode cX6_readNumber 14 = .ok (.istore_n 1, 1) := by decide +kernel
theorem dX6_readNumber_15 : decode cX6_readNumber 15 = .ok (.iload_n 1, 1) := by decide +kernel
theorem dX6_readNumber_16 : decode cX6_readNumber 16 = .ok (.aload_n 0, 1) := by decide +kernel
theorem dX6_readNumber_17 : decode cX6_readNumber 17 = .ok (.getfield 36, 3) := by decide +kernel
theorem dX6_readNumber_20 : decode cX6_readNumber 20 = .ok (.if_icmp .ge 67, 3) := by decide +kernel
theorem dX6_readNumber_23 : decode cX6_readNumber 23 = .ok (.aload_n 0, 1) := by decide +kernel
theorem dX6_readNumber_24 : decode cX6_readNumber 24 = .ok (.getfield 29, 3) := by decide +kernel
theorem dX6_readNumber_27 : decode cX6_readNumber 27 = .ok (.iload_n 1, 1) := by decide +kernel
theorem dX6_readNumber_28 : decode cX6_readNumber 28 = .ok (.baload, 1) := by decide +kernel
theorem dX6_readNumber_29 : decode cX6_readNumber 29 = .ok (.invokestatic 143, 3) := by decide +kernel
theorem dX6_readNumber_32 : decode cX6_readNumber 32 = .ok (.ifCond .eq 55, 3) := by decide +kernel
theorem dX6_readNumber_35 : decode cX6_readNumber 35 = .ok (.aload_n 0, 1) := by decide +kernel
theorem dX6_readNumber_36 : decode cX6_readNumber 36 = .ok (.dup, 1) := by decide +kernel
theorem dX6_readNumber_37 : decode cX6_readNumber 37 = .ok (.getfield 106, 3) := by decide +kernel
theorem dX6_readNumber_40 : decode cX6_readNumber 40 = .ok (.iconst 1, 1) := by decide +kernel
theorem dX6_readNumber_41 : decode cX6_readNumber 41 = .ok (.iadd, 1) := by decide +kernel
theorem dX6_readNumber_42 : decode cX6_readNumber 42 = .ok (.putfield 106, 3) := by decide +kernel
theorem dX6_readNumber_45 : decode cX6_readNumber 45 = .ok (.aload_n 0, 1) := by decide +kernel
theorem dX6_readNumber_46 : decode cX6_readNumber 46 = .ok (.getfield 106, 3) := by decide +kernel
theorem dX6_readNumber_49 : decode cX6_readNumber 49 = .ok (.iconst 4, 1) := by decide +kernel
theorem dX6_readNumber_50 : decode cX6_readNumber 50 = .ok (.if_icmp .gt 24, 3) := by decide +kernel
theorem dX6_readNumber_53 : decode cX6_readNumber 53 = .ok (.aload_n 0, 1) := by decide +kernel
theorem dX6_readNumber_54 : decode cX6_readNumber 54 = .ok (.aload_n 0, 1) := by decide +kernel
theorem dX6_readNumber_55 : decode cX6_readNumber 55 = .ok (.getfield 109, 3) := by decide +kernel
theorem dX6_readNumber_58 : decode cX6_readNumber 58 = .ok (.bipush 10, 2) := by decide +kernel
theorem dX6_readNumber_60 : decode cX6_readNumber 60 = .ok (.imul, 1) := by decide +kernel
theorem dX6_readNumber_61 : decode cX6_readNumber 61 = .ok (.aload_n 0, 1) := by decide +kernel
theorem dX6_readNumber_62 : decode cX6_readNumber 62 = .ok (.getfield 29, 3) := by decide +kernel
theorem dX6_readNumber_65 : decode cX6_readNumber 65 = .ok (.iload_n 1, 1) := by decide +kernel
theorem dX6_readNumber_66 : decode cX6_readNumber 66 = .ok (.baload, 1) := by decide +kernel
theorem dX6_readNumber_67 : decode cX6_readNumber 67 = .ok (.iadd, 1) := by decide +kernel
theorem dX6_readNumber_68 : decode cX6_readNumber 68 = .ok (.bipush 48, 2) := by decide +kernel
theorem dX6_readNumber_70 : decode cX6_readNumber 70 = .ok (.isub, 1) := by decide +kernel
theorem dX6_readNumber_71 : decode cX6_readNumber 71 = .ok (.putfield 109, 3) := by decide +kernel
theorem dX6_readNumber_74 : decode cX6_readNumber 74 = .ok (.aload_n 0, 1) := by decide +kernel
theorem dX6_readNumber_75 : decode cX6_readNumber 75 = .ok (.iload_n 1, 1) := by decide +kernel
theorem dX6_readNumber_76 : decode cX6_readNumber 76 = .ok (.iconst 1, 1) := by decide +kernel
theorem dX6_readNumber_77 : decode cX6_readNumber 77 = .ok (.iadd, 1) := by decide +kernel
theorem dX6_readNumber_78 : decode cX6_readNumber 78 = .ok (.putfield 46, 3) := by decide +kernel
theorem dX6_readNumber_81 : decode cX6_readNumber 81 = .ok (.iinc 1 1, 3) := by decide +kernel
theorem dX6_readNumber_84 : decode cX6_readNumber 84 = .ok (.goto (-69), 3) := by decide +kernel
theorem dX6_readNumber_87 : decode cX6_readNumber 87 = .ok (.aload_n 0, 1) := by decide +kernel
theorem dX6_readNumber_88 : decode cX6_readNumber 88 = .ok (.iconst 2, 1) := by decide +kernel
theorem dX6_readNumber_89 : decode cX6_readNumber 89 = .ok (.putfield 52, 3) := by decide +kernel
theorem dX6_readNumber_92 : decode cX6_readNumber 92 = .ok (.return_, 1) := by decide +kernel
set_option maxRecDepth 20000 in
theorem ggX6_readWord_X6_isLetter : GoodIn wsX6_readWord wsX6_isLetter := goodIn_r _ [9] (by decide +kernel) (by decide +kernel)
set_option maxRecDepth 20000 in
theorem gX6_readWord_X6_isLetter : GoodIn wsX6_readWord (va_wsS RX6 137 yX6_isLetter wsX6_isLetter) := goodIn_app (goodIn_of _ (by decide +kernel)) ggX6_readWord_X6_isLetter
set_option maxRecDepth 20000 in
theorem ggX6_readWord_X6_textOf : GoodIn wsX6_readWord wsX6_textOf := goodIn_r _ [12] (by decide +kernel) (by decide +kernel)
set_option maxRecDepth 20000 in
theorem gX6_readWord_X6_textOf : GoodIn wsX6_readWord (va_wsS RX6 152 yX6_textOf wsX6_textOf) := goodIn_app (goodIn_of _ (by decide +kernel)) ggX6_readWord_X6_textOf
set_option maxRecDepth 20000 in
theorem ggX6_readWord_X6_isSpelt : GoodIn wsX6_readWord wsX6_isSpelt := goodIn_r _ [16, 4, 1, 2, 3, 17, 18, 19, 20, 21, 22, 23, 24, 25, 26, 27, 28, 29, 30, 31, 32, 33, 34, 35, 36, 37, 38, 39, 40, 41, 42, 43, 44, 45, 46, 47, 48, 49, 50, 51, 52, 53, 54, 55, 56, 57, 58, 59, 60, 61, 62, 63, 64, 65, 66, 67, 68, 69, 70, 71, 72, 73, 74, 75, 76, 77] (by decide +kernel) (by decide +kernel)
set_option maxRecDepth 20000 in
theorem gX6_readWord_X6_isSpelt : GoodIn wsX6_readWord (wsV RX6 156 RX6 yX6_isSpelt wsX6_isSpelt) := goodIn_app (goodIn_of _ (by decide +kernel)) ggX6_readWord_X6_isSpelt
theorem dX6_readWord_0 : decode cX6_readWord 0 = .ok (.aload_n 0, 1) := by decide +kernel
theorem dX6_readWord_1 : decode cX6_readWord 1 = .ok (.getfield 58, 3) := by decide +kernel
theorem dX6_readWord_4 : decode cX6_readWord 4 = .ok (.istore_n 1, 1) := by decide +kernel
theorem dX6_readWord_5 : decode cX6_readWord 5 = .ok (.iload_n 1, 1) := by decide +kernel
theorem dX6_readWord_6 : decode cX6_readWord 6 = .ok (.aload_n 0, 1) := by decide +kernel
theorem dX6_readWord_7 : decode cX6_readWord 7 = .ok (.getfield 36, 3) := by decide +kernel
theorem dX6_readWord_10 : decode cX6_readWord 10 = .ok (.if_icmp .ge 28, 3) := by decide +kernel
theorem dX6_readWord_13 : decode cX6_readWord 13 = .ok (.aload_n 0, 1) := by decide +kernel
theorem dX6_readWord_14 : decode cX6_readWord 14 = .ok (.getfield 29, 3) := by decide +kernel
theorem dX6_readWord_17 : decode cX6_readWord 17 = .ok (.iload_n 1, 1) := by decide +kernel
theorem dX6_readWord_18 : decode cX6_readWord 18 = .ok (.baload, 1) := by decide +kernel
theorem dX6_readWord_19 : decode cX6_readWord 19 = .ok (.invokestatic 137, 3) := by decide +kernel
theorem dX6_readWord_22 : decode cX6_readWord 22 = .ok (.ifCond .eq 16, 3) := by decide +kernel
theorem dX6_readWord_25 : decode cX6_readWord 25 = .ok (.aload_n 0, 1) := by decide +kernel
theorem dX6_readWord_26 : decode cX6_readWord 26 = .ok (.iload_n 1, 1) := by decide +kernel
theorem dX6_readWord_27 : decode cX6_readWord 27 = .ok (.iconst 1, 1) := by decide +kernel
theorem dX6_readWord_28 : decode cX6_readWord 28 = .ok (.iadd, 1) := by decide +kernel
theorem dX6_readWord_29 : decode cX6_readWord 29 = .ok (.putfield 46, 3) := by decide +kernel
theorem dX6_readWord_32 : decode cX6_readWord 32 = .ok (.iinc 1 1, 3) := by decide +kernel
theorem dX6_readWord_35 : decode cX6_readWord 35 = .ok (.goto (-30), 3) := by decide +kernel
theorem dX6_readWord_38 : decode cX6_readWord 38 = .ok (.aload_n 0, 1) := by decide +kernel
theorem dX6_readWord_39 : decode cX6_readWord 39 = .ok (.sipush 316, 3) := by decide +kernel
theorem dX6_readWord_42 : decode cX6_readWord 42 = .ok (.putfield 52, 3) := by decide +kernel
theorem dX6_readWord_45 : decode cX6_readWord 45 = .ok (.sipush 300, 3) := by decide +kernel
theorem dX6_readWord_48 : decode cX6_readWord 48 = .ok (.istore_n 1, 1) := by decide +kernel
theorem dX6_readWord_49 : decode cX6_readWord 49 = .ok (.iload_n 1, 1) := by decide +kernel
theorem dX6_readWord_50 : decode cX6_readWord 50 = .ok (.sipush 316, 3) := by decide +kernel
theorem dX6_readWord_53 : decode cX6_readWord 53 = .ok (.if_icmp .ge 25, 3) := by decide +kernel
theorem dX6_readWord_56 : decode cX6_readWord 56 = .ok (.aload_n 0, 1) := by decide +kernel
theorem dX6_readWord_57 : decode cX6_readWord 57 = .ok (.iload_n 1, 1) := by decide +kernel
theorem dX6_readWord_58 : decode cX6_readWord 58 = .ok (.invokestatic 152, 3) := by decide +kernel
theorem dX6_readWord_61 : decode cX6_readWord 61 = .ok (.invokevirtual 156, 3) := by decide +kernel
theorem dX6_readWord_64 : decode cX6_readWord 64 = .ok (.ifCond .eq 8, 3) := by decide +kernel
theorem dX6_readWord_67 : decode cX6_readWord 67 = .ok (.aload_n 0, 1) := by decide +kernel
theorem dX6_readWord_68 : decode cX6_readWord 68 = .ok (.iload_n 1, 1) := by decide +kernel
theorem dX6_readWord_69 : decode cX6_readWord 69 = .ok (.putfield 52, 3) := by decide +kernel
theorem dX6_readWord_72 : decode cX6_readWord 72 = .ok (.iinc 1 1, 3) := by decide +kernel
theorem dX6_readWord_75 : decode cX6_readWord 75 = .ok (.goto (-26), 3) := by decide +kernel
theorem dX6_readWord_78 : decode cX6_readWord 78 = .ok (.return_, 1) := by decide +kernel
set_option maxRecDepth 20000 in
theorem ggX6_isSpelt_J0_length_8abf5 : GoodIn wsX6_isSpelt wsJ0_length_8abf5 := goodIn_r _ [9, 10, 11, 12, 13, 8, 14, 15, 16] (by decide +kernel) (by decide +kernel)
set_option maxRecDepth 20000 in
theorem gX6_isSpelt_J0_length_8abf5 : GoodIn wsX6_isSpelt (wsV RX6 160 RJ0 yJ0_length_8abf5 wsJ0_length_8abf5) := goodIn_app (goodIn_of _ (by decide +kernel)) ggX6_isSpelt_J0_length_8abf5
set_option maxRecDepth 20000 in
theorem ggX6_isSpelt_J0_charAt_5068e : GoodIn wsX6_isSpelt wsJ0_charAt_5068e := goodIn_r _ [20, 10, 21, 22, 23, 8, 24, 15, 16, 25, 26, 27, 28, 29, 30, 31, 32, 33, 34, 35, 36, 37, 38, 39, 40, 41, 42, 43, 44, 45, 46, 47, 48, 49, 50, 51, 52, 53] (by decide +kernel) (by decide +kernel)
set_option maxRecDepth 20000 in
theorem gX6_isSpelt_J0_charAt_5068e : GoodIn wsX6_isSpelt (wsV RX6 166 RJ0 yJ0_charAt_5068e wsJ0_charAt_5068e) := goodIn_app (goodIn_of _ (by decide +kernel)) ggX6_isSpelt_J0_charAt_5068e
theorem dX6_isSpelt_0 : decode cX6_isSpelt 0 = .ok (.aload_n 1, 1) := by decide +kernel
theorem dX6_isSpelt_1 : decode cX6_isSpelt 1 = .ok (.invokevirtual 160, 3) := by decide +kernel
theorem dX6_isSpelt_4 : decode cX6_isSpelt 4 = .ok (.aload_n 0, 1) := by decide +kernel
theorem dX6_isSpelt_5 : decode cX6_isSpelt 5 = .ok (.getfield 46, 3) := by decide +kernel
theorem dX6_isSpelt_8 : decode cX6_isSpelt 8 = .ok (.aload_n 0, 1) := by decide +kernel
theorem dX6_isSpelt_9 : decode cX6_isSpelt 9 = .ok (.getfield 58, 3) := by decide +kernel
theorem dX6_isSpelt_12 : decode cX6_isSpelt 12 = .ok (.isub, 1) := by decide +kernel
theorem dX6_isSpelt_13 : decode cX6_isSpelt 13 = .ok (.if_icmp .eq 5, 3) := by decide +kernel
theorem dX6_isSpelt_16 : decode cX6_isSpelt 16 = .ok (.iconst 0, 1) := by decide +kernel
theorem dX6_isSpelt_17 : decode cX6_isSpelt 17 = .ok (.ireturn, 1) := by decide +kernel
theorem dX6_isSpelt_18 : decode cX6_isSpelt 18 = .ok (.iconst 0, 1) := by decide +kernel
theorem dX6_isSpelt_19 : decode cX6_isSpelt 19 = .ok (.istore_n 2, 1) := by decide +kernel
theorem dX6_isSpelt_20 : decode cX6_isSpelt 20 = .ok (.iload_n 2, 1) := by decide +kernel
theorem dX6_isSpelt_21 : decode cX6_isSpelt 21 = .ok (.aload_n 1, 1) := by decide +kernel
theorem dX6_isSpelt_22 : decode cX6_isSpelt 22 = .ok (.invokevirtual 160, 3) := by decide +kernel
theorem dX6_isSpelt_25 : decode cX6_isSpelt 25 = .ok (.if_icmp .ge 43, 3) := by decide +kernel
theorem dX6_isSpelt_28 : decode cX6_isSpelt 28 = .ok (.aload_n 0, 1) := by decide +kernel
theorem dX6_isSpelt_29 : decode cX6_isSpelt 29 = .ok (.getfield 58, 3) := by decide +kernel
theorem dX6_isSpelt_32 : decode cX6_isSpelt 32 = .ok (.iload_n 2, 1) := by decide +kernel
theorem dX6_isSpelt_33 : decode cX6_isSpelt 33 = .ok (.iadd, 1) := by decide +kernel
theorem dX6_isSpelt_34 : decode cX6_isSpelt 34 = .ok (.aload_n 0, 1) := by decide +kernel
theorem dX6_isSpelt_35 : decode cX6_isSpelt 35 = .ok (.getfield 36, 3) := by decide +kernel
theorem dX6_isSpelt_38 : decode cX6_isSpelt 38 = .ok (.if_icmp .ge 30, 3) := by decide +kernel
theorem dX6_isSpelt_41 : decode cX6_isSpelt 41 = .ok (.aload_n 1, 1) := by decide +kernel
theorem dX6_isSpelt_42 : decode cX6_isSpelt 42 = .ok (.iload_n 2, 1) := by decide +kernel
theorem dX6_isSpelt_43 : decode cX6_isSpelt 43 = .ok (.invokevirtual 166, 3) := by decide +kernel
theorem dX6_isSpelt_46 : decode cX6_isSpelt 46 = .ok (.aload_n 0, 1) := by decide +kernel
theorem dX6_isSpelt_47 : decode cX6_isSpelt 47 = .ok (.getfield 29, 3) := by decide +kernel
theorem dX6_isSpelt_50 : decode cX6_isSpelt 50 = .ok (.aload_n 0, 1) := by decide +kernel
theorem dX6_isSpelt_51 : decode cX6_isSpelt 51 = .ok (.getfield 58, 3) := by decide +kernel
theorem dX6_isSpelt_54 : decode cX6_isSpelt 54 = .ok (.iload_n 2, 1) := by decide +kernel
theorem dX6_isSpelt_55 : decode cX6_isSpelt 55 = .ok (.iadd, 1) := by decide +kernel
theorem dX6_isSpelt_56 : decode cX6_isSpelt 56 = .ok (.baload, 1) := by decide +kernel
theorem dX6_isSpelt_57 : decode cX6_isSpelt 57 = .ok (.if_icmp .eq 5, 3) := by decide +kernel
theorem dX6_isSpelt_60 : decode cX6_isSpelt 60 = .ok (.iconst 0, 1) := by decide +kernel
theorem dX6_isSpelt_61 : decode cX6_isSpelt 61 = .ok (.ireturn, 1) := by decide +kernel
theorem dX6_isSpelt_62 : decode cX6_isSpelt 62 = .ok (.iinc 2 1, 3) := by decide +kernel
theorem dX6_isSpelt_65 : decode cX6_isSpelt 65 = .ok (.goto (-45), 3) := by decide +kernel
theorem dX6_isSpelt_68 : decode cX6_isSpelt 68 = .ok (.iconst 1, 1) := by decide +kernel
theorem dX6_isSpelt_69 : decode cX6_isSpelt 69 = .ok (.ireturn, 1) := by decide +kernel
theorem dX6_textOf_0 : decode cX6_textOf 0 = .ok (.iload_n 0, 1) := by decide +kernel
theorem dX6_textOf_1 : decode cX6_textOf 1 = .ok (.sipush 300, 3) := by decide +kernel
theorem dX6_textOf_4 : decode cX6_textOf 4 = .ok (.isub, 1) := by decide +kernel
theorem dX6_textOf_5 : decode cX6_textOf 5 = .ok (.tableswitch 120 0 14 #[75, 78, 81, 84, 87, 90, 93, 96, 99, 102, 105, 108, 111, 114, 117], 75) := by decide +kernel
theorem dX6_textOf_80 : decode cX6_textOf 80 = .ok (.ldc 170, 2) := by decide +kernel
theorem dX6_textOf_82 : decode cX6_textOf 82 = .ok (.areturn, 1) := by decide +kernel
theorem dX6_textOf_83 : decode cX6_textOf 83 = .ok (.ldc 172, 2) := by decide +kernel
theorem dX6_textOf_85 : decode cX6_textOf 85 = .ok (.areturn, 1) := by decide +kernel
theorem dX6_textOf_86 : decode cX6_textOf 86 = .ok (.ldc 174, 2) := by decide +kernel
theorem dX6_textOf_88 : decode cX6_textOf 88 = .ok (.areturn, 1) := by decide +kernel
theorem dX6_textOf_89 : decode cX6_textOf 89 = .ok (.ldc 176, 2) := by decide +kernel
theorem dX6_textOf_91 : decode cX6_textOf 91 = .ok (.areturn, 1) := by decide +kernel
theorem dX6_textOf_92 : decode cX6_textOf 92 = .ok (.ldc 178, 2) := by decide +kernel
theorem dX6_textOf_94 : decode cX6_textOf 94 = .ok (.areturn, 1) := by decide +kernel
theorem dX6_textOf_95 : decode cX6_textOf 95 = .ok (.ldc 180, 2) := by decide +kernel
theorem dX6_textOf_97 : decode cX6_textOf 97 = .ok (.areturn, 1) := by decide +kernel
theorem dX6_textOf_98 : decode cX6_textOf 98 = .ok (.ldc 182, 2) := by decide +kernel
theorem dX6_textOf_100 : decode cX6_textOf 100 = .ok (.areturn, 1) := by decide +kernel
theorem dX6_textOf_101 : decode cX6_textOf 101 = .ok (.ldc 184, 2) := by decide +kernel
theorem dX6_textOf_103 : decode cX6_textOf 103 = .ok (.areturn, 1) := by decide +kernel
theorem dX6_textOf_104 : decode cX6_textOf 104 = .ok (.ldc 186, 2) := by decide +kernel
theorem dX6_textOf_106 : decode cX6_textOf 106 = .ok (.areturn, 1) := by decide +kernel
theorem dX6_textOf_107 : decode cX6_textOf 107 = .ok (.ldc 188, 2) := by decide +kernel
theorem dX6_textOf_109 : decode cX6_textOf 109 = .ok (.areturn, 1) := by decide +kernel
theorem dX6_textOf_110 : decode cX6_textOf 110 = .ok (.ldc 190, 2) := by decide +kernel
theorem dX6_textOf_112 : decode cX6_textOf 112 = .ok (.areturn, 1) := by decide +kernel
theorem dX6_textOf_113 : decode cX6_textOf 113 = .ok (.ldc 192, 2) := by decide +kernel
theorem dX6_textOf_115 : decode cX6_textOf 115 = .ok (.areturn, 1) := by decide +kernel
theorem dX6_textOf_116 : decode cX6_textOf 116 = .ok (.ldc 194, 2) := by decide +kernel
theorem dX6_textOf_118 : decode cX6_textOf 118 = .ok (.areturn, 1) := by decide +kernel
theorem dX6_textOf_119 : decode cX6_textOf 119 = .ok (.ldc 196, 2) := by decide +kernel
theorem dX6_textOf_121 : decode cX6_textOf 121 = .ok (.areturn, 1) := by decide +kernel
theorem dX6_textOf_122 : decode cX6_textOf 122 = .ok (.ldc 198, 2) := by decide +kernel
theorem dX6_textOf_124 : decode cX6_textOf 124 = .ok (.areturn, 1) := by decide +kernel
theorem dX6_textOf_125 : decode cX6_textOf 125 = .ok (.ldc 199, 2) := by decide +kernel
theorem dX6_textOf_127 : decode cX6_textOf 127 = .ok (.areturn, 1) := by decide +kernel
theorem dX6_isBlank_0 : decode cX6_isBlank 0 = .ok (.iload_n 0, 1) := by decide +kernel
theorem dX6_isBlank_1 : decode cX6_isBlank 1 = .ok (.bipush 32, 2) := by decide +kernel
theorem dX6_isBlank_3 : decode cX6_isBlank 3 = .ok (.if_icmp .eq 9, 3) := by decide +kernel
theorem dX6_isBlank_6 : decode cX6_isBlank 6 = .ok (.iload_n 0, 1) := by decide +kernel
theorem dX6_isBlank_7 : decode cX6_isBlank 7 = .ok (.bipush 10, 2) := by decide +kernel
theorem dX6_isBlank_9 : decode cX6_isBlank 9 = .ok (.if_icmp .ne 7, 3) := by decide +kernel
theorem dX6_isBlank_12 : decode cX6_isBlank 12 = .ok (.iconst 1, 1) := by decide +kernel
theorem dX6_isBlank_13 : decode cX6_isBlank 13 = .ok (.goto 4, 3) := by decide +kernel
theorem dX6_isBlank_16 : decode cX6_isBlank 16 = .ok (.iconst 0, 1) := by decide +kernel
theorem dX6_isBlank_17 : decode cX6_isBlank 17 = .ok (.ireturn, 1) := by decide +kernel
theorem dX6_isLetter_0 : decode cX6_isLetter 0 = .ok (.iload_n 0, 1) := by decide +kernel
theorem dX6_isLetter_1 : decode cX6_isLetter 1 = .ok (.bipush 97, 2) := by decide +kernel
theorem dX6_isLetter_3 : decode cX6_isLetter 3 = .ok (.if_icmp .lt 13, 3) := by decide +kernel
theorem dX6_isLetter_6 : decode cX6_isLetter 6 = .ok (.iload_n 0, 1) := by decide +kernel
theorem dX6_isLetter_7 : decode cX6_isLetter 7 = .ok (.bipush 122, 2) := by decide +kernel
theorem dX6_isLetter_9 : decode cX6_isLetter 9 = .ok (.if_icmp .gt 7, 3) := by decide +kernel
theorem dX6_isLetter_12 : decode cX6_isLetter 12 = .ok (.iconst 1, 1) := by decide +kernel
theorem dX6_isLetter_13 : decode cX6_isLetter 13 = .ok (.goto 4, 3) := by decide +kernel
theorem dX6_isLetter_16 : decode cX6_isLetter 16 = .ok (.iconst 0, 1) := by decide +kernel
theorem dX6_isLetter_17 : decode cX6_isLetter 17 = .ok (.ireturn, 1) := by decide +kernel
theorem dX6_isDigit_0 : decode cX6_isDigit 0 = .ok (.iload_n 0, 1) := by decide +kernel
theorem dX6_isDigit_1 : decode cX6_isDigit 1 = .ok (.bipush 48, 2) := by decide +kernel
theorem dX6_isDigit_3 : decode cX6_isDigit 3 = .ok (.if_icmp .lt 13, 3) := by decide +kernel
theorem dX6_isDigit_6 : decode cX6_isDigit 6 = .ok (.iload_n 0, 1) := by decide +kernel
theorem dX6_isDigit_7 : decode cX6_isDigit 7 = .ok (.bipush 57, 2) := by decide +kernel
theorem dX6_isDigit_9 : decode cX6_isDigit 9 = .ok (.if_icmp .gt 7, 3) := by decide +kernel
theorem dX6_isDigit_12 : decode cX6_isDigit 12 = .ok (.iconst 1, 1) := by decide +kernel
theorem dX6_isDigit_13 : decode cX6_isDigit 13 = .ok (.goto 4, 3) := by decide +kernel
theorem dX6_isDigit_16 : decode cX6_isDigit 16 = .ok (.iconst 0, 1) := by decide +kernel
theorem dX6_isDigit_17 : decode cX6_isDigit 17 = .ok (.ireturn, 1) := by decide +kernel
theorem dX6_isSign_0 : decode cX6_isSign 0 = .ok (.iload_n 0, 1) := by decide +kernel
theorem dX6_isSign_1 : decode cX6_isSign 1 = .ok (.tableswitch 105 40 61 #[103, 103, 103, 103, 105, 103, 105, 103, 105, 105, 105, 105, 105, 105, 105, 105, 105, 105, 105, 103, 103, 103], 103) := by decide +kernel
theorem dX6_isSign_104 : decode cX6_isSign 104 = .ok (.iconst 1, 1) := by decide +kernel
theorem dX6_isSign_105 : decode cX6_isSign 105 = .ok (.ireturn, 1) := by decide +kernel
theorem dX6_isSign_106 : decode cX6_isSign 106 = .ok (.iconst 0, 1) := by decide +kernel
theorem dX6_isSign_107 : decode cX6_isSign 107 = .ok (.ireturn, 1) := by decide +kernel
theorem dX7_init_0 : decode cX7_init 0 = .ok (.aload_n 0, 1) := by decide +kernel
theorem dX7_init_1 : decode cX7_init 1 = .ok (.invokespecial 3, 3) := by decide +kernel
theorem dX7_init_4 : decode cX7_init 4 = .ok (.aload_n 0, 1) := by decide +kernel
theorem dX7_init_5 : decode cX7_init 5 = .ok (.sipush 600, 3) := by decide +kernel
theorem dX7_init_8 : decode cX7_init 8 = .ok (.newarray .int, 2) := by decide +kernel
theorem dX7_init_10 : decode cX7_init 10 = .ok (.putfield 9, 3) := by decide +kernel
theorem dX7_init_13 : decode cX7_init 13 = .ok (.aload_n 0, 1) := by decide +kernel
theorem dX7_init_14 : decode cX7_init 14 = .ok (.bipush 64, 2) := by decide +kernel
theorem dX7_init_16 : decode cX7_init 16 = .ok (.newarray .int, 2) := by decide +kernel
theorem dX7_init_18 : decode cX7_init 18 = .ok (.putfield 15, 3) := by decide +kernel
theorem dX7_init_21 : decode cX7_init 21 = .ok (.aload_n 0, 1) := by decide +kernel
theorem dX7_init_22 : decode cX7_init 22 = .ok (.bipush 6, 2) := by decide +kernel
theorem dX7_init_24 : decode cX7_init 24 = .ok (.newarray .int, 2) := by decide +kernel
theorem dX7_init_26 : decode cX7_init 26 = .ok (.putfield 18, 3) := by decide +kernel
theorem dX7_init_29 : decode cX7_init 29 = .ok (.return_, 1) := by decide +kernel
theorem dX7_clear_0 : decode cX7_clear 0 = .ok (.aload_n 0, 1) := by decide +kernel
theorem dX7_clear_1 : decode cX7_clear 1 = .ok (.iconst 0, 1) := by decide +kernel
theorem dX7_clear_2 : decode cX7_clear 2 = .ok (.putfield 21, 3) := by decide +kernel
theorem dX7_clear_5 : decode cX7_clear 5 = .ok (.return_, 1) := by decide +kernel
theorem dX7_isTold_0 : decode cX7_isTold 0 = .ok (.aload_n 0, 1) := by decide +kernel
theorem dX7_isTold_1 : decode cX7_isTold 1 = .ok (.getfield 21, 3) := by decide +kernel
theorem dX7_isTold_4 : decode cX7_isTold 4 = .ok (.ifCond .le 7, 3) := by decide +kernel
theorem dX7_isTold_7 : decode cX7_isTold 7 = .ok (.iconst 1, 1) := by decide +kernel
theorem dX7_isTold_8 : decode cX7_isTold 8 = .ok (.goto 4, 3) := by decide +kernel
theorem dX7_isTold_11 : decode cX7_isTold 11 = .ok (.iconst 0, 1) := by decide +kernel
theorem dX7_isTold_12 : decode cX7_isTold 12 = .ok (.ireturn, 1) := by decide +kernel
theorem dX7_add_0 : decode cX7_add 0 = .ok (.aload_n 0, 1) := by decide +kernel
theorem dX7_add_1 : decode cX7_add 1 = .ok (.getfield 21, 3) := by decide +kernel
theorem dX7_add_4 : decode cX7_add 4 = .ok (.aload_n 0, 1) := by decide +kernel
theorem dX7_add_5 : decode cX7_add 5 = .ok (.getfield 9, 3) := by decide +kernel
theorem dX7_add_8 : decode cX7_add 8 = .ok (.arraylength, 1) := by decide +kernel
theorem dX7_add_9 : decode cX7_add 9 = .ok (.if_icmp .ge 23, 3) := by decide +kernel
theorem dX7_add_12 : decode cX7_add 12 = .ok (.aload_n 0, 1) := by decide +kernel
theorem dX7_add_13 : decode cX7_add 13 = .ok (.getfield 9, 3) := by decide +kernel
theorem dX7_add_16 : decode cX7_add 16 = .ok (.aload_n 0, 1) := by decide +kernel
theorem dX7_add_17 : decode cX7_add 17 = .ok (.getfield 21, 3) := by decide +kernel
theorem dX7_add_20 : decode cX7_add 20 = .ok (.iload_n 1, 1) := by decide +kernel
theorem dX7_add_21 : decode cX7_add 21 = .ok (.iastore, 1) := by decide +kernel
theorem dX7_add_22 : decode cX7_add 22 = .ok (.aload_n 0, 1) := by decide +kernel
theorem dX7_add_23 : decode cX7_add 23 = .ok (.dup, 1) := by decide +kernel
theorem dX7_add_24 : decode cX7_add 24 = .ok (.getfield 21, 3) := by decide +kernel
theorem dX7_add_27 : decode cX7_add 27 = .ok (.iconst 1, 1) := by decide +kernel
theorem dX7_add_28 : decode cX7_add 28 = .ok (.iadd, 1) := by decide +kernel
theorem dX7_add_29 : decode cX7_add 29 = .ok (.putfield 21, 3) := by decide +kernel
theorem dX7_add_32 : decode cX7_add 32 = .ok (.return_, 1) := by decide +kernel
theorem dX7_copyFrom_0 : decode cX7_copyFrom 0 = .ok (.aload_n 0, 1) := by decide +kernel
theorem dX7_copyFrom_1 : decode cX7_copyFrom 1 = .ok (.aload_n 1, 1) := by decide +kernel
theorem dX7_copyFrom_2 : decode cX7_copyFrom 2 = .ok (.getfield 21, 3) := by decide +kernel
theorem dX7_copyFrom_5 : decode cX7_copyFrom 5 = .ok (.putfield 21, 3) := by decide +kernel
theorem dX7_copyFrom_8 : decode cX7_copyFrom 8 = .ok (.aload_n 1, 1) := by decide +kernel
theorem dX7_copyFrom_9 : decode cX7_copyFrom 9 = .ok (.getfield 9, 3) := by decide +kernel
theorem dX7_copyFrom_12 : decode cX7_copyFrom 12 = .ok (.iconst 0, 1) := by decide +kernel
theorem dX7_copyFrom_13 : decode cX7_copyFrom 13 = .ok (.aload_n 0, 1) := by decide +kernel
theorem dX7_copyFrom_14 : decode cX7_copyFrom 14 = .ok (.getfield 9, 3) := by decide +kernel
theorem dX7_copyFrom_17 : decode cX7_copyFrom 17 = .ok (.iconst 0, 1) := by decide +kernel
theorem dX7_copyFrom_18 : decode cX7_copyFrom 18 = .ok (.sipush 600, 3) := by decide +kernel
theorem dX7_copyFrom_21 : decode cX7_copyFrom 21 = .ok (.invokestatic 25, 3) := by decide +kernel
theorem dX7_copyFrom_24 : decode cX7_copyFrom 24 = .ok (.return_, 1) := by decide +kernel
set_option maxRecDepth 20000 in
theorem ggX7_wantsLit_X7_isTold : GoodIn wsX7_wantsLit wsX7_isTold := goodIn_r _ [9, 10, 58, 59, 60, 61] (by decide +kernel) (by decide +kernel)
set_option maxRecDepth 20000 in
theorem gX7_wantsLit_X7_isTold : GoodIn wsX7_wantsLit (wsV RX7 36 RX7 yX7_isTold wsX7_isTold) := goodIn_app (goodIn_of _ (by decide +kernel)) ggX7_wantsLit_X7_isTold
set_option maxRecDepth 20000 in
theorem ggX7_wantsLit_X9_isAwake : GoodIn wsX7_wantsLit wsX9_isAwake := goodIn_r _ [15, 16, 17, 47, 48, 49, 50, 51, 52, 53, 54, 55, 56, 57] (by decide +kernel) (by decide +kernel)
set_option maxRecDepth 20000 in
theorem gX7_wantsLit_X9_isAwake : GoodIn wsX7_wantsLit (wsV RX7 43 RX9 yX9_isAwake wsX9_isAwake) := goodIn_app (goodIn_of _ (by decide +kernel)) ggX7_wantsLit_X9_isAwake
set_option maxRecDepth 20000 in
theorem ggX7_wantsLit_X7_isCustomary : GoodIn wsX7_wantsLit wsX7_isCustomary := goodIn_r _ [20] (by decide +kernel) (by decide +kernel)
set_option maxRecDepth 20000 in
theorem gX7_wantsLit_X7_isCustomary : GoodIn wsX7_wantsLit (va_wsS RX7 47 yX7_isCustomary wsX7_isCustomary) := goodIn_app (goodIn_of _ (by decide +kernel)) ggX7_wantsLit_X7_isCustomary
set_option maxRecDepth 20000 in
theorem ggX7_wantsLit_X9_lampsOf : GoodIn wsX7_wantsLit wsX9_lampsOf := goodIn_r _ [24, 25, 26, 47, 48, 49, 50, 51, 52, 53, 54, 55, 56, 57] (by decide +kernel) (by decide +kernel)
set_option maxRecDepth 20000 in
theorem gX7_wantsLit_X9_lampsOf : GoodIn wsX7_wantsLit (wsV RX7 54 RX9 yX9_lampsOf wsX9_lampsOf) := goodIn_app (goodIn_of _ (by decide +kernel)) ggX7_wantsLit_X9_lampsOf
set_option maxRecDepth 20000 in
theorem ggX7_wantsLit_J6_bitCount_0f7a4 : GoodIn wsX7_wantsLit wsJ6_bitCount_0f7a4 := goodIn_r _ [30, 31, 32, 33] (by decide +kernel) (by decide +kernel)
set_option maxRecDepth 20000 in
theorem gX7_wantsLit_J6_bitCount_0f7a4 : GoodIn wsX7_wantsLit (va_wsS RX7 58 yJ6_bitCount_0f7a4 wsJ6_bitCount_0f7a4) := goodIn_app (goodIn_of _ (by decide +kernel)) ggX7_wantsLit_J6_bitCount_0f7a4
set_option maxRecDepth 20000 in
theorem ggX7_wantsLit_X7_worth : GoodIn wsX7_wantsLit wsX7_worth := goodIn_r _ [37, 10, 38, 39, 40, 41, 42, 8, 43, 3, 44, 45, 46, 58, 59, 60, 61] (by decide +kernel) (by decide +kernel)
set_option maxRecDepth 20000 in
theorem gX7_wantsLit_X7_worth : GoodIn wsX7_wantsLit (wsV RX7 63 RX7 yX7_worth wsX7_worth) := goodIn_app (goodIn_of _ (by decide +kernel)) ggX7_wantsLit_X7_worth
theorem dX7_wantsLit_0 : decode cX7_wantsLit 0 = .ok (.aload_n 1, 1) := by decide +kernel
theorem dX7_wantsLit_1 : decode cX7_wantsLit 1 = .ok (.getfield 31, 3) := by decide +kernel
theorem dX7_wantsLit_4 : decode cX7_wantsLit 4 = .ok (.iload_n 2, 1) := by decide +kernel
theorem dX7_wantsLit_5 : decode cX7_wantsLit 5 = .ok (.iaload, 1) := by decide +kernel
theorem dX7_wantsLit_6 : decode cX7_wantsLit 6 = .ok (.istore 4, 2) := by decide +kernel
theorem dX7_wantsLit_8 : decode cX7_wantsLit 8 = .ok (.aload_n 0, 1) := by decide +kernel
theorem dX7_wantsLit_9 : decode cX7_wantsLit 9 = .ok (.invokevirtual 36, 3) := by decide +kernel
theorem dX7_wantsLit_12 : decode cX7_wantsLit 12 = .ok (.ifCond .ne 22, 3) := by decide +kernel
theorem dX7_wantsLit_15 : decode cX7_wantsLit 15 = .ok (.aload_n 1, 1) := by decide +kernel
theorem dX7_wantsLit_16 : decode cX7_wantsLit 16 = .ok (.getfield 40, 3) := by decide +kernel
theorem dX7_wantsLit_19 : decode cX7_wantsLit 19 = .ok (.iload 4, 2) := by decide +kernel
theorem dX7_wantsLit_21 : decode cX7_wantsLit 21 = .ok (.iaload, 1) := by decide +kernel
theorem dX7_wantsLit_22 : decode cX7_wantsLit 22 = .ok (.aload_n 1, 1) := by decide +kernel
theorem dX7_wantsLit_23 : decode cX7_wantsLit 23 = .ok (.iload 4, 2) := by decide +kernel
theorem dX7_wantsLit_25 : decode cX7_wantsLit 25 = .ok (.iload_n 3, 1) := by decide +kernel
theorem dX7_wantsLit_26 : decode cX7_wantsLit 26 = .ok (.invokevirtual 43, 3) := by decide +kernel
theorem dX7_wantsLit_29 : decode cX7_wantsLit 29 = .ok (.iload_n 3, 1) := by decide +kernel
theorem dX7_wantsLit_30 : decode cX7_wantsLit 30 = .ok (.invokestatic 47, 3) := by decide +kernel
theorem dX7_wantsLit_33 : decode cX7_wantsLit 33 = .ok (.ireturn, 1) := by decide +kernel
theorem dX7_wantsLit_34 : decode cX7_wantsLit 34 = .ok (.aload_n 0, 1) := by decide +kernel
theorem dX7_wantsLit_35 : decode cX7_wantsLit 35 = .ok (.getfield 18, 3) := by decide +kernel
theorem dX7_wantsLit_38 : decode cX7_wantsLit 38 = .ok (.iconst 0, 1) := by decide +kernel
theorem dX7_wantsLit_39 : decode cX7_wantsLit 39 = .ok (.iload_n 3, 1) := by decide +kernel
theorem dX7_wantsLit_40 : decode cX7_wantsLit 40 = .ok (.iastore, 1) := by decide +kernel
theorem dX7_wantsLit_41 : decode cX7_wantsLit 41 = .ok (.aload_n 0, 1) := by decide +kernel
theorem dX7_wantsLit_42 : decode cX7_wantsLit 42 = .ok (.getfield 18, 3) := by decide +kernel
theorem dX7_wantsLit_45 : decode cX7_wantsLit 45 = .ok (.iconst 1, 1) := by decide +kernel
theorem dX7_wantsLit_46 : decode cX7_wantsLit 46 = .ok (.aload_n 1, 1) := by decide +kernel
theorem dX7_wantsLit_47 : decode cX7_wantsLit 47 = .ok (.getfield 40, 3) := by decide +kernel
theorem dX7_wantsLit_50 : decode cX7_wantsLit 50 = .ok (.iload 4, 2) := by decide +kernel
theorem dX7_wantsLit_52 : decode cX7_wantsLit 52 = .ok (.iaload, 1) := by decide +kernel
theorem dX7_wantsLit_53 : decode cX7_wantsLit 53 = .ok (.iastore, 1) := by decide +kernel
theorem dX7_wantsLit_54 : decode cX7_wantsLit 54 = .ok (.aload_n 0, 1) := by decide +kernel
theorem dX7_wantsLit_55 : decode cX7_wantsLit 55 = .ok (.getfield 18, 3) := by decide +kernel
theorem dX7_wantsLit_58 : decode cX7_wantsLit 58 = .ok (.iconst 2, 1) := by decide +kernel
theorem dX7_wantsLit_59 : decode cX7_wantsLit 59 = .ok (.aload_n 1, 1) := by decide +kernel
theorem dX7_wantsLit_60 : decode cX7_wantsLit 60 = .ok (.getfield 51, 3) := by decide +kernel
theorem dX7_wantsLit_63 : decode cX7_wantsLit 63 = .ok (.iload_n 2, 1) := by decide +kernel
theorem dX7_wantsLit_64 : decode cX7_wantsLit 64 = .ok (.iaload, 1) := by decide +kernel
theorem dX7_wantsLit_65 : decode cX7_wantsLit 65 = .ok (.iastore, 1) := by decide +kernel
theorem dX7_wantsLit_66 : decode cX7_wantsLit 66 = .ok (.aload_n 0, 1) := by decide +kernel
theorem dX7_wantsLit_67 : decode cX7_wantsLit 67 = .ok (.getfield 18, 3) := by decide +kernel
theorem dX7_wantsLit_70 : decode cX7_wantsLit 70 = .ok (.iconst 3, 1) := by decide +kernel
theorem dX7_wantsLit_71 : decode cX7_wantsLit 71 = .ok (.iload 4, 2) := by decide +kernel
theorem dX7_wantsLit_73 : decode cX7_wantsLit 73 = .ok (.iastore, 1) := by decide +kernel
theorem dX7_wantsLit_74 : decode cX7_wantsLit 74 = .ok (.aload_n 0, 1) := by decide +kernel
theorem dX7_wantsLit_75 : decode cX7_wantsLit 75 = .ok (.getfield 18, 3) := by decide +kernel
theorem dX7_wantsLit_78 : decode cX7_wantsLit 78 = .ok (.iconst 4, 1) := by decide +kernel
theorem dX7_wantsLit_79 : decode cX7_wantsLit 79 = .ok (.aload_n 1, 1) := by decide +kernel
theorem dX7_wantsLit_80 : decode cX7_wantsLit 80 = .ok (.iload 4, 2) := by decide +kernel
theorem dX7_wantsLit_82 : decode cX7_wantsLit 82 = .ok (.invokevirtual 54, 3) := by decide +kernel
theorem dX7_wantsLit_85 : decode cX7_wantsLit 85 = .ok (.invokestatic 58, 3) := by decide +kernel
theorem dX7_wantsLit_88 : decode cX7_wantsLit 88 = .ok (.iastore, 1) := by decide +kernel
theorem dX7_wantsLit_89 : decode cX7_wantsLit 89 = .ok (.aload_n 0, 1) := by decide +kernel
theorem dX7_wantsLit_90 : decode cX7_wantsLit 90 = .ok (.getfield 18, 3) := by decide +kernel
theorem dX7_wantsLit_93 : decode cX7_wantsLit 93 = .ok (.iconst 5, 1) := by decide +kernel
theorem dX7_wantsLit_94 : decode cX7_wantsLit 94 = .ok (.aload_n 1, 1) := by decide +kernel
theorem dX7_wantsLit_95 : decode cX7_wantsLit 95 = .ok (.iload 4, 2) := by decide +kernel
theorem dX7_wantsLit_97 : decode cX7_wantsLit 97 = .ok (.iload_n 3, 1) := by decide +kernel
theorem dX7_wantsLit_98 : decode cX7_wantsLit 98 = .ok (.invokevirtual 43, 3) := by decide +kernel
theorem dX7_wantsLit_101 : decode cX7_wantsLit 101 = .ok (.ifCond .eq 7, 3) := by decide +kernel
theorem dX7_wantsLit_104 : decode cX7_wantsLit 104 = .ok (.iconst 1, 1) := by decide +kernel
theorem dX7_wantsLit_105 : decode cX7_wantsLit 105 = .ok (.goto 4, 3) := by decide +kernel
theorem dX7_wantsLit_108 : decode cX7_wantsLit 108 = .ok (.iconst 0, 1) := by decide +kernel
theorem dX7_wantsLit_109 : decode cX7_wantsLit 109 = .ok (.iastore, 1) := by decide +kernel
theorem dX7_wantsLit_110 : decode cX7_wantsLit 110 = .ok (.aload_n 0, 1) := by decide +kernel
theorem dX7_wantsLit_111 : decode cX7_wantsLit 111 = .ok (.invokevirtual 63, 3) := by decide +kernel
theorem dX7_wantsLit_114 : decode cX7_wantsLit 114 = .ok (.ifCond .le 7, 3) := by decide +kernel
theorem dX7_wantsLit_117 : decode cX7_wantsLit 117 = .ok (.iconst 1, 1) := by decide +kernel
theorem dX7_wantsLit_118 : decode cX7_wantsLit 118 = .ok (.goto 4, 3) := by decide +kernel
theorem dX7_wantsLit_121 : decode cX7_wantsLit 121 = .ok (.iconst 0, 1) := by decide +kernel
theorem dX7_wantsLit_122 : decode cX7_wantsLit 122 = .ok (.ireturn, 1) := by decide +kernel
set_option maxRecDepth 20000 in
theorem ggX7_hoursWanted_X7_wantsLit : GoodIn wsX7_hoursWanted wsX7_wantsLit := goodIn_r _ [5, 6, 7, 8, 9, 10, 11, 12, 4, 13, 14, 15, 16, 17, 18, 19, 20, 21, 22, 23, 24, 25, 26, 27, 28, 29, 30, 31, 32, 33, 34, 35, 36, 37, 38, 39, 40, 41, 42, 43, 44, 45, 46, 47, 48, 49, 50, 51, 52, 53, 54, 55, 56, 57, 58, 59, 60, 61, 62, 63, 64, 65] (by decide +kernel) (by decide +kernel)
set_option maxRecDepth 20000 in
theorem gX7_hoursWanted_X7_wantsLit : GoodIn wsX7_hoursWanted (wsV RX7 67 RX7 yX7_wantsLit wsX7_wantsLit) := goodIn_app (goodIn_of _ (by decide +kernel)) ggX7_hoursWanted_X7_wantsLit
theorem dX7_hoursWanted_0 : decode cX7_hoursWanted 0 = .ok (.iconst 0, 1) := by decide +kernel
theorem dX7_hoursWanted_1 : decode cX7_hoursWanted 1 = .ok (.istore_n 3, 1) := by decide +kernel
theorem dX7_hoursWanted_2 : decode cX7_hoursWanted 2 = .ok (.iconst 0, 1) := by decide +kernel
theorem dX7_hoursWanted_3 : decode cX7_hoursWanted 3 = .ok (.istore 4, 2) := by decide +kernel
theorem dX7_hoursWanted_5 : decode cX7_hoursWanted 5 = .ok (.iload 4, 2) := by decide +kernel
theorem dX7_hoursWanted_7 : decode cX7_hoursWanted 7 = .ok (.bipush 24, 2) := by decide +kernel
theorem dX7_hoursWanted_9 : decode cX7_hoursWanted 9 = .ok (.if_icmp .ge 27, 3) := by decide +kernel
theorem dX7_hoursWanted_12 : decode cX7_hoursWanted 12 = .ok (.aload_n 0, 1) := by decide +kernel
theorem dX7_hoursWanted_13 : decode cX7_hoursWanted 13 = .ok (.aload_n 1, 1) := by decide +kernel
theorem dX7_hoursWanted_14 : decode cX7_hoursWanted 14 = .ok (.iload_n 2, 1) := by decide +kernel
theorem dX7_hoursWanted_15 : decode cX7_hoursWanted 15 = .ok (.iload 4, 2) := by decide +kernel
theorem dX7_hoursWanted_17 : decode cX7_hoursWanted 17 = .ok (.invokevirtual 67, 3) := by decide +kernel
theorem dX7_hoursWanted_20 : decode cX7_hoursWanted 20 = .ok (.ifCond .eq 10, 3) := by decide +kernel
theorem dX7_hoursWanted_23 : decode cX7_hoursWanted 23 = .ok (.iload_n 3, 1) := by decide +kernel
theorem dX7_hoursWanted_24 : decode cX7_hoursWanted 24 = .ok (.iconst 1, 1) := by decide +kernel
theorem dX7_hoursWanted_25 : decode cX7_hoursWanted 25 = .ok (.iload 4, 2) := by decide +kernel
theorem dX7_hoursWanted_27 : decode cX7_hoursWanted 27 = .ok (.ishl, 1) := by decide +kernel
theorem dX7_hoursWanted_28 : decode cX7_hoursWanted 28 = .ok (.ior, 1) := by decide +kernel
theorem dX7_hoursWanted_29 : decode cX7_hoursWanted 29 = .ok (.istore_n 3, 1) := by decide +kernel
theorem dX7_hoursWanted_30 : decode cX7_hoursWanted 30 = .ok (.iinc 4 1, 3) := by decide +kernel
theorem dX7_hoursWanted_33 : decode cX7_hoursWanted 33 = .ok (.goto (-28), 3) := by decide +kernel
theorem dX7_hoursWanted_36 : decode cX7_hoursWanted 36 = .ok (.iload_n 3, 1) := by decide +kernel
theorem dX7_hoursWanted_37 : decode cX7_hoursWanted 37 = .ok (.ireturn, 1) := by decide +kernel
theorem dX7_isCustomary_0 : decode cX7_isCustomary 0 = .ok (.iload_n 0, 1) := by decide +kernel
theorem dX7_isCustomary_1 : decode cX7_isCustomary 1 = .ok (.iconst 2, 1) := by decide +kernel
theorem dX7_isCustomary_2 : decode cX7_isCustomary 2 = .ok (.if_icmp .ne 5, 3) := by decide +kernel
theorem dX7_isCustomary_5 : decode cX7_isCustomary 5 = .ok (.iconst 0, 1) := by decide +kernel
theorem dX7_isCustomary_6 : decode cX7_isCustomary 6 = .ok (.ireturn, 1) := by decide +kernel
theorem dX7_isCustomary_7 : decode cX7_isCustomary 7 = .ok (.iload_n 2, 1) := by decide +kernel
theorem dX7_isCustomary_8 : decode cX7_isCustomary 8 = .ok (.bipush 18, 2) := by decide +kernel
theorem dX7_isCustomary_10 : decode cX7_isCustomary 10 = .ok (.if_icmp .ge 19, 3) := by decide +kernel
theorem dX7_isCustomary_13 : decode cX7_isCustomary 13 = .ok (.iload_n 2, 1) := by decide +kernel
theorem dX7_isCustomary_14 : decode cX7_isCustomary 14 = .ok (.iload_n 0, 1) := by decide +kernel
theorem dX7_isCustomary_15 : decode cX7_isCustomary 15 = .ok (.iconst 3, 1) := by decide +kernel
theorem dX7_isCustomary_16 : decode cX7_isCustomary 16 = .ok (.if_icmp .ne 8, 3) := by decide +kernel
theorem dX7_isCustomary_19 : decode cX7_isCustomary 19 = .ok (.bipush 9, 2) := by decide +kernel
theorem dX7_isCustomary_21 : decode cX7_isCustomary 21 = .ok (.goto 5, 3) := by decide +kernel
theorem dX7_isCustomary_24 : decode cX7_isCustomary 24 = .ok (.bipush 6, 2) := by decide +kernel
theorem dX7_isCustomary_26 : decode cX7_isCustomary 26 = .ok (.if_icmp .ge 7, 3) := by decide +kernel
theorem dX7_isCustomary_29 : decode cX7_isCustomary 29 = .ok (.iconst 1, 1) := by decide +kernel
theorem dX7_isCustomary_30 : decode cX7_isCustomary 30 = .ok (.goto 4, 3) := by decide +kernel
theorem dX7_isCustomary_33 : decode cX7_isCustomary 33 = .ok (.iconst 0, 1) := by decide +kernel
theorem dX7_isCustomary_34 : decode cX7_isCustomary 34 = .ok (.istore_n 3, 1) := by decide +kernel
theorem dX7_isCustomary_35 : decode cX7_isCustomary 35 = .ok (.iload_n 3, 1) := by decide +kernel
theorem dX7_isCustomary_36 : decode cX7_isCustomary 36 = .ok (.ifCond .eq 16, 3) := by decide +kernel
theorem dX7_isCustomary_39 : decode cX7_isCustomary 39 = .ok (.iload_n 1, 1) := by decide +kernel
theorem dX7_isCustomary_40 : decode cX7_isCustomary 40 = .ok (.ifCond .ne 8, 3) := by decide +kernel
theorem dX7_isCustomary_43 : decode cX7_isCustomary 43 = .ok (.iload_n 0, 1) := by decide +kernel
theorem dX7_isCustomary_44 : decode cX7_isCustomary 44 = .ok (.iconst 1, 1) := by decide +kernel
theorem dX7_isCustomary_45 : decode cX7_isCustomary 45 = .ok (.if_icmp .ne 7, 3) := by decide +kernel
theorem dX7_isCustomary_48 : decode cX7_isCustomary 48 = .ok (.iconst 1, 1) := by decide +kernel
theorem dX7_isCustomary_49 : decode cX7_isCustomary 49 = .ok (.goto 4, 3) := by decide +kernel
theorem dX7_isCustomary_52 : decode cX7_isCustomary 52 = .ok (.iconst 0, 1) := by decide +kernel
theorem dX7_isCustomary_53 : decode cX7_isCustomary 53 = .ok (.ireturn, 1) := by decide +kernel
set_option maxRecDepth 20000 in
theorem ggX7_worth_X7_valueOf : GoodIn wsX7_worth wsX7_valueOf := goodIn_r _ [8, 9, 13, 14, 15, 16] (by decide +kernel) (by decide +kernel)
set_option maxRecDepth 20000 in
theorem gX7_worth_X7_valueOf : GoodIn wsX7_worth (wsV RX7 73 RX7 yX7_valueOf wsX7_valueOf) := goodIn_app (goodIn_of _ (by decide +kernel)) ggX7_worth_X7_valueOf
set_option maxRecDepth 20000 in
theorem ggX7_worth_X7_together : GoodIn wsX7_worth wsX7_together := goodIn_r _ [12] (by decide +kernel) (by decide +kernel)
set_option maxRecDepth 20000 in
theorem gX7_worth_X7_together : GoodIn wsX7_worth (va_wsS RX7 76 yX7_together wsX7_together) := goodIn_app (goodIn_of _ (by decide +kernel)) ggX7_worth_X7_together
theorem dX7_worth_0 : decode cX7_worth 0 = .ok (.iconst 0, 1) := by decide +kernel
theorem dX7_worth_1 : decode cX7_worth 1 = .ok (.istore_n 1, 1) := by decide +kernel
theorem dX7_worth_2 : decode cX7_worth 2 = .ok (.iconst 0, 1) := by decide +kernel
theorem dX7_worth_3 : decode cX7_worth 3 = .ok (.istore_n 2, 1) := by decide +kernel
theorem dX7_worth_4 : decode cX7_worth 4 = .ok (.iload_n 2, 1) := by decide +kernel
theorem dX7_worth_5 : decode cX7_worth 5 = .ok (.aload_n 0, 1) := by decide +kernel
theorem dX7_worth_6 : decode cX7_worth 6 = .ok (.getfield 21, 3) := by decide +kernel
theorem dX7_worth_9 : decode cX7_worth 9 = .ok (.if_icmp .ge 155, 3) := by decide +kernel
theorem dX7_worth_12 : decode cX7_worth 12 = .ok (.iload_n 2, 1) := by decide +kernel
theorem dX7_worth_13 : decode cX7_worth 13 = .ok (.aload_n 0, 1) := by decide +kernel
theorem dX7_worth_14 : decode cX7_worth 14 = .ok (.getfield 9, 3) := by decide +kernel
theorem dX7_worth_17 : decode cX7_worth 17 = .ok (.arraylength, 1) := by decide +kernel
theorem dX7_worth_18 : decode cX7_worth 18 = .ok (.if_icmp .ge 146, 3) := by decide +kernel
theorem dX7_worth_21 : decode cX7_worth 21 = .ok (.aload_n 0, 1) := by decide +kernel
theorem dX7_worth_22 : decode cX7_worth 22 = .ok (.getfield 9, 3) := by decide +kernel
theorem dX7_worth_25 : decode cX7_worth 25 = .ok (.iload_n 2, 1) := by decide +kernel
theorem dX7_worth_26 : decode cX7_worth 26 = .ok (.iaload, 1) := by decide +kernel
theorem dX7_worth_27 : decode cX7_worth 27 = .ok (.istore_n 3, 1) := by decide +kernel
theorem dX7_worth_28 : decode cX7_worth 28 = .ok (.iload_n 3, 1) := by decide +kernel
theorem dX7_worth_29 : decode cX7_worth 29 = .ok (.ifCond .ge 10, 3) := by decide +kernel
theorem dX7_worth_32 : decode cX7_worth 32 = .ok (.iload_n 3, 1) := by decide +kernel
theorem dX7_worth_33 : decode cX7_worth 33 = .ok (.sipush (-310), 3) := by decide +kernel
theorem dX7_worth_36 : decode cX7_worth 36 = .ok (.if_icmp .gt 44, 3) := by decide +kernel
theorem dX7_worth_39 : decode cX7_worth 39 = .ok (.iload_n 1, 1) := by decide +kernel
theorem dX7_worth_40 : decode cX7_worth 40 = .ok (.aload_n 0, 1) := by decide +kernel
theorem dX7_worth_41 : decode cX7_worth 41 = .ok (.getfield 15, 3) := by decide +kernel
theorem dX7_worth_44 : decode cX7_worth 44 = .ok (.arraylength, 1) := by decide +kernel
theorem dX7_worth_45 : decode cX7_worth 45 = .ok (.if_icmp .lt 5, 3) := by decide +kernel
theorem dX7_worth_48 : decode cX7_worth 48 = .ok (.iconst 0, 1) := by decide +kernel
theorem dX7_worth_49 : decode cX7_worth 49 = .ok (.ireturn, 1) := by decide +kernel
theorem dX7_worth_50 : decode cX7_worth 50 = .ok (.aload_n 0, 1) := by decide +kernel
theorem dX7_worth_51 : decode cX7_worth 51 = .ok (.getfield 15, 3) := by decide +kernel
theorem dX7_worth_54 : decode cX7_worth 54 = .ok (.iload_n 1, 1) := by decide +kernel
theorem dX7_worth_55 : decode cX7_worth 55 = .ok (.iload_n 3, 1) := by decide +kernel
theorem dX7_worth_56 : decode cX7_worth 56 = .ok (.ifCond .lt 7, 3) := by decide +kernel
theorem dX7_worth_59 : decode cX7_worth 59 = .ok (.iload_n 3, 1) := by decide +kernel
theorem dX7_worth_60 : decode cX7_worth 60 = .ok (.goto 13, 3) := by decide +kernel
theorem dX7_worth_63 : decode cX7_worth 63 = .ok (.aload_n 0, 1) := by decide +kernel
theorem dX7_worth_64 : decode cX7_worth 64 = .ok (.iload_n 3, 1) := by decide +kernel
theorem dX7_worth_65 : decode cX7_worth 65 = .ok (.ineg, 1) := by decide +kernel
theorem dX7_worth_66 : decode cX7_worth 66 = .ok (.sipush 310, 3) := by decide +kernel
theorem dX7_worth_69 : decode cX7_worth 69 = .ok (.isub, 1) := by decide +kernel
theorem dX7_worth_70 : decode cX7_worth 70 = .ok (.invokevirtual 73, 3) := by decide +kernel
theorem dX7_worth_73 : decode cX7_worth 73 = .ok (.iastore, 1) := by decide +kernel
theorem dX7_worth_74 : decode cX7_worth 74 = .ok (.iinc 1 1, 3) := by decide +kernel
theorem dX7_worth_77 : decode cX7_worth 77 = .ok (.goto 81, 3) := by decide +kernel
theorem dX7_worth_80 : decode cX7_worth 80 = .ok (.iload_n 3, 1) := by decide +kernel
theorem dX7_worth_81 : decode cX7_worth 81 = .ok (.sipush (-309), 3) := by decide +kernel
theorem dX7_worth_84 : decode cX7_worth 84 = .ok (.if_icmp .ne 37, 3) := by decide +kernel
theorem dX7_worth_87 : decode cX7_worth 87 = .ok (.iload_n 1, 1) := by decide +kernel
theorem dX7_worth_88 : decode cX7_worth 88 = .ok (.iconst 1, 1) := by decide +kernel
theorem dX7_worth_89 : decode cX7_worth 89 = .ok (.if_icmp .ge 5, 3) := by decide +kernel
theorem dX7_worth_92 : decode cX7_worth 92 = .ok (.iconst 0, 1) := by decide +kernel
theorem dX7_worth_93 : decode cX7_worth 93 = .ok (.ireturn, 1) := by decide +kernel
theorem dX7_worth_94 : decode cX7_worth 94 = .ok (.aload_n 0, 1) := by decide +kernel
theorem dX7_worth_95 : decode cX7_worth 95 = .ok (.getfield 15, 3) := by decide +kernel
theorem dX7_worth_98 : decode cX7_worth 98 = .ok (.iload_n 1, 1) := by decide +kernel
theorem dX7_worth_99 : decode cX7_worth 99 = .ok (.iconst 1, 1) := by decide +kernel
theorem dX7_worth_100 : decode cX7_worth 100 = .ok (.isub, 1) := by decide +kernel
theorem dX7_worth_101 : decode cX7_worth 101 = .ok (.aload_n 0, 1) := by decide +kernel
theorem dX7_worth_102 : decode cX7_worth 102 = .ok (.getfield 15, 3) := by decide +kernel
theorem dX7_worth_105 : decode cX7_worth 105 = .ok (.iload_n 1, 1) := by decide +kernel
theorem dX7_worth_106 : decode cX7_worth 106 = .ok (.iconst 1, 1) := by decide +kernel
theorem dX7_worth_107 : decode cX7_worth 107 = .ok (.isub, 1) := by decide +kernel
theorem dX7_worth_108 : decode cX7_worth 108 = .ok (.iaload, 1) := by decide +kernel
theorem dX7_worth_109 : decode cX7_worth 109 = .ok (.ifCond .ne 7, 3) := by decide +kernel
theorem dX7_worth_112 : decode cX7_worth 112 = .ok (.iconst 1, 1) := by decide +kernel
theorem dX7_worth_113 : decode cX7_worth 113 = .ok (.goto 4, 3) := by decide +kernel
theorem dX7_worth_116 : decode cX7_worth 116 = .ok (.iconst 0, 1) := by decide +kernel
theorem dX7_worth_117 : decode cX7_worth 117 = .ok (.iastore, 1) := by decide +kernel
theorem dX7_worth_118 : decode cX7_worth 118 = .ok (.goto 40, 3) := by decide +kernel
theorem dX7_worth_121 : decode cX7_worth 121 = .ok (.iload_n 1, 1) := by decide +kernel
theorem dX7_worth_122 : decode cX7_worth 122 = .ok (.iconst 2, 1) := by decide +kernel
theorem dX7_worth_123 : decode cX7_worth 123 = .ok (.if_icmp .ge 5, 3) := by decide +kernel
theorem dX7_worth_126 : decode cX7_worth 126 = .ok (.iconst 0, 1) := by decide +kernel
theorem dX7_worth_127 : decode cX7_worth 127 = .ok (.ireturn, 1) := by decide +kernel
theorem dX7_worth_128 : decode cX7_worth 128 = .ok (.iinc 1 (-1), 3) := by decide +kernel
theorem dX7_worth_131 : decode cX7_worth 131 = .ok (.aload_n 0, 1) := by decide +kernel
theorem dX7_worth_132 : decode cX7_worth 132 = .ok (.getfield 15, 3) := by decide +kernel
theorem dX7_worth_135 : decode cX7_worth 135 = .ok (.iload_n 1, 1) := by decide +kernel
theorem dX7_worth_136 : decode cX7_worth 136 = .ok (.iconst 1, 1) := by decide +kernel
theorem dX7_worth_137 : decode cX7_worth 137 = .ok (.isub, 1) := by decide +kernel
theorem dX7_worth_138 : decode cX7_worth 138 = .ok (.iload_n 3, 1) := by decide +kernel
theorem dX7_worth_139 : decode cX7_worth 139 = .ok (.ineg, 1) := by decide +kernel
theorem dX7_worth_140 : decode cX7_worth 140 = .ok (.aload_n 0, 1) := by decide +kernel
theorem dX7_worth_141 : decode cX7_worth 141 = .ok (.getfield 15, 3) := by decide +kernel
theorem dX7_worth_144 : decode cX7_worth 144 = .ok (.iload_n 1, 1) := by decide +kernel
theorem dX7_worth_145 : decode cX7_worth 145 = .ok (.iconst 1, 1) := by decide +kernel
theorem dX7_worth_146 : decode cX7_worth 146 = .ok (.isub, 1) := by decide +kernel
theorem dX7_worth_147 : decode cX7_worth 147 = .ok (.iaload, 1) := by decide +kernel
theorem dX7_worth_148 : decode cX7_worth 148 = .ok (.aload_n 0, 1) := by decide +kernel
theorem dX7_worth_149 : decode cX7_worth 149 = .ok (.getfield 15, 3) := by decide +kernel
theorem dX7_worth_152 : decode cX7_worth 152 = .ok (.iload_n 1, 1) := by decide +kernel
theorem dX7_worth_153 : decode cX7_worth 153 = .ok (.iaload, 1) := by decide +kernel
theorem dX7_worth_154 : decode cX7_worth 154 = .ok (.invokestatic 76, 3) := by decide +kernel
theorem dX7_worth_157 : decode cX7_worth 157 = .ok (.iastore, 1) := by decide +kernel
theorem dX7_worth_158 : decode cX7_worth 158 = .ok (.iinc 2 1, 3) := by decide +kernel
theorem dX7_worth_161 : decode cX7_worth 161 = .ok (.goto (-157), 3) := by decide +kernel
theorem dX7_worth_164 : decode cX7_worth 164 = .ok (.iload_n 1, 1) := by decide +kernel
theorem dX7_worth_165 : decode cX7_worth 165 = .ok (.iconst 1, 1) := by decide +kernel
theorem dX7_worth_166 : decode cX7_worth 166 = .ok (.if_icmp .ge 7, 3) := by decide +kernel
theorem dX7_worth_169 : decode cX7_worth 169 = .ok (.iconst 0, 1) := by decide +kernel
theorem dX7_worth_170 : decode cX7_worth 170 = .ok (.goto 9, 3) := by decide +kernel
theorem dX7_worth_173 : decode cX7_worth 173 = .ok (.aload_n 0, 1) := by decide +kernel
theorem dX7_worth_174 : decode cX7_worth 174 = .ok (.getfield 15, 3) := by decide +kernel
theorem dX7_worth_177 : decode cX7_worth 177 = .ok (.iconst 0, 1) := by decide +kernel
theorem dX7_worth_178 : decode cX7_worth 178 = .ok (.iaload, 1) := by decide +kernel
theorem dX7_worth_179 : decode cX7_worth 179 = .ok (.ireturn, 1) := by decide +kernel
theorem dX7_valueOf_0 : decode cX7_valueOf 0 = .ok (.iload_n 1, 1) := by decide +kernel
theorem dX7_valueOf_1 : decode cX7_valueOf 1 = .ok (.ifCond .lt 21, 3) := by decide +kernel
theorem dX7_valueOf_4 : decode cX7_valueOf 4 = .ok (.iload_n 1, 1) := by decide +kernel
theorem dX7_valueOf_5 : decode cX7_valueOf 5 = .ok (.aload_n 0, 1) := by decide +kernel
theorem dX7_valueOf_6 : decode cX7_valueOf 6 = .ok (.getfield 18, 3) := by decide +kernel
theorem dX7_valueOf_9 : decode cX7_valueOf 9 = .ok (.arraylength, 1) := by decide +kernel
theorem dX7_valueOf_10 : decode cX7_valueOf 10 = .ok (.if_icmp .ge 12, 3) := by decide +kernel
theorem dX7_valueOf_13 : decode cX7_valueOf 13 = .ok (.aload_n 0, 1) := by decide +kernel
theorem dX7_valueOf_14 : decode cX7_valueOf 14 = .ok (.getfield 18, 3) := by decide +kernel
theorem dX7_valueOf_17 : decode cX7_valueOf 17 = .ok (.iload_n 1, 1) := by decide +kernel
theorem dX7_valueOf_18 : decode cX7_valueOf 18 = .ok (.iaload, 1) := by decide +kernel
theorem dX7_valueOf_19 : decode cX7_valueOf 19 = .ok (.goto 4, 3) := by decide +kernel
theorem dX7_valueOf_22 : decode cX7_valueOf 22 = .ok (.iconst 0, 1) := by decide +kernel
theorem dX7_valueOf_23 : decode cX7_valueOf 23 = .ok (.ireturn, 1) := by decide +kernel
theorem dX7_together_0 : decode cX7_together 0 = .ok (.iload_n 0, 1) := by decide +kernel
theorem dX7_together_1 : decode cX7_together 1 = .ok (.lookupswitch 127 #[(42, 75), (43, 67), (45, 71), (47, 79), (60, 91), (61, 102), (308, 113)], 67) := by decide +kernel
theorem dX7_together_68 : decode cX7_together 68 = .ok (.iload_n 1, 1) := by decide +kernel
theorem dX7_together_69 : decode cX7_together 69 = .ok (.iload_n 2, 1) := by decide +kernel
theorem dX7_together_70 : decode cX7_together 70 = .ok (.iadd, 1) := by decide +kernel
theorem dX7_together_71 : decode cX7_together 71 = .ok (.ireturn, 1) := by decide +kernel
theorem dX7_together_72 : decode cX7_together 72 = .ok (.iload_n 1, 1) := by decide +kernel
theorem dX7_together_73 : decode cX7_together 73 = .ok (.iload_n 2, 1) := by decide +kernel
theorem dX7_together_74 : decode cX7_together 74 = .ok (.isub, 1) := by decide +kernel
theorem dX7_together_75 : decode cX7_together 75 = .ok (.ireturn, 1) := by decide +kernel
theorem dX7_together_76 : decode cX7_together 76 = .ok (.iload_n 1, 1) := by decide +kernel
theorem dX7_together_77 : decode cX7_together 77 = .ok (.iload_n 2, 1) := by decide +kernel
theorem dX7_together_78 : decode cX7_together 78 = .ok (.imul, 1) := by decide +kernel
theorem dX7_together_79 : decode cX7_together 79 = .ok (.ireturn, 1) := by decide +kernel
theorem dX7_together_80 : decode cX7_together 80 = .ok (.iload_n 2, 1) := by decide +kernel
theorem dX7_together_81 : decode cX7_together 81 = .ok (.ifCond .ne 7, 3) := by decide +kernel
theorem dX7_together_84 : decode cX7_together 84 = .ok (.iconst 0, 1) := by decide +kernel
theorem dX7_together_85 : decode cX7_together 85 = .ok (.goto 6, 3) := by decide +kernel
theorem dX7_together_88 : decode cX7_together 88 = .ok (.iload_n 1, 1) := by decide +kernel
theorem dX7_together_89 : decode cX7_together 89 = .ok (.iload_n 2, 1) := by decide +kernel
theorem dX7_together_90 : decode cX7_together 90 = .ok (.idiv, 1) := by decide +kernel
theorem dX7_together_91 : decode cX7_together 91 = .ok (.ireturn, 1) := by decide +kernel
theorem dX7_together_92 : decode cX7_together 92 = .ok (.iload_n 1, 1) := by decide +kernel
theorem dX7_together_93 : decode cX7_together 93 = .ok (.iload_n 2, 1) := by decide +kernel
theorem dX7_together_94 : decode cX7_together 94 = .ok (.if_icmp .ge 7, 3) := by decide +kernel
theorem dX7_together_97 : decode cX7_together 97 = .ok (.iconst 1, 1) := by decide +kernel
theorem dX7_together_98 : decode cX7_together 98 = .ok (.goto 4, 3) := by decide +kernel
theorem dX7_together_101 : decode cX7_together 101 = .ok (.iconst 0, 1) := by decide +kernel
theorem dX7_together_102 : decode cX7_together 102 = .ok (.ireturn, 1) := by decide +kernel
theorem dX7_together_103 : decode cX7_together 103 = .ok (.iload_n 1, 1) := by decide +kernel
theorem dX7_together_104 : decode cX7_together 104 = .ok (.iload_n 2, 1) := by decide +kernel
theorem dX7_together_105 : decode cX7_together 105 = .ok (.if_icmp .ne 7, 3) := by decide +kernel
theorem dX7_together_108 : decode cX7_together 108 = .ok (.iconst 1, 1) := by decide +kernel
theorem dX7_together_109 : decode cX7_together 109 = .ok (.goto 4, 3) := by decide +kernel
theorem dX7_together_112 : decode cX7_together 112 = .ok (.iconst 0, 1) := by decide +kernel
theorem dX7_together_113 : decode cX7_together 113 = .ok (.ireturn, 1) := by decide +kernel
theorem dX7_together_114 : decode cX7_together 114 = .ok (.iload_n 1, 1) := by decide +kernel
theorem dX7_together_115 : decode cX7_together 115 = .ok (.ifCond .eq 11, 3) := by decide +kernel
theorem dX7_together_118 : decode cX7_together 118 = .ok (.iload_n 2, 1) := by decide +kernel
theorem dX7_together_119 : decode cX7_together 119 = .ok (.ifCond .eq 7, 3) := by decide +kernel
theorem dX7_together_122 : decode cX7_together 122 = .ok (.iconst 1, 1) := by decide +kernel
theorem dX7_together_123 : decode cX7_together 123 = .ok (.goto 4, 3) := by decide +kernel
theorem dX7_together_126 : decode cX7_together 126 = .ok (.iconst 0, 1) := by decide +kernel
theorem dX7_together_127 : decode cX7_together 127 = .ok (.ireturn, 1) := by decide +kernel
theorem dX7_together_128 : decode cX7_together 128 = .ok (.iload_n 1, 1) := by decide +kernel
theorem dX7_together_129 : decode cX7_together 129 = .ok (.ifCond .ne 7, 3) := by decide +kernel
theorem dX7_together_132 : decode cX7_together 132 = .ok (.iload_n 2, 1) := by decide +kernel
theorem dX7_together_133 : decode cX7_together 133 = .ok (.ifCond .eq 7, 3) := by decide +kernel
theorem dX7_together_136 : decode cX7_together 136 = .ok (.iconst 1, 1) := by decide +kernel
theorem dX7_together_137 : decode cX7_together 137 = .ok (.goto 4, 3) := by decide +kernel
theorem dX7_together_140 : decode cX7_together 140 = .ok (.iconst 0, 1) := by decide +kernel
theorem dX7_together_141 : decode cX7_together 141 = .ok (.ireturn, 1) := by decide +kernel
theorem dX8_init_0 : decode cX8_init 0 = .ok (.aload_n 0, 1) := by decide +kernel
theorem dX8_init_1 : decode cX8_init 1 = .ok (.invokespecial 3, 3) := by decide +kernel
theorem dX8_init_4 : decode cX8_init 4 = .ok (.aload_n 0, 1) := by decide +kernel
theorem dX8_init_5 : decode cX8_init 5 = .ok (.bipush 8, 2) := by decide +kernel
theorem dX8_init_7 : decode cX8_init 7 = .ok (.newarray .int, 2) := by decide +kernel
theorem dX8_init_9 : decode cX8_init 9 = .ok (.putfield 9, 3) := by decide +kernel
theorem dX8_init_12 : decode cX8_init 12 = .ok (.aload_n 0, 1) := by decide +kernel
theorem dX8_init_13 : decode cX8_init 13 = .ok (.bipush 8, 2) := by decide +kernel
theorem dX8_init_15 : decode cX8_init 15 = .ok (.newarray .int, 2) := by decide +kernel
theorem dX8_init_17 : decode cX8_init 17 = .ok (.putfield 15, 3) := by decide +kernel
theorem dX8_init_20 : decode cX8_init 20 = .ok (.return_, 1) := by decide +kernel
theorem dX8_clear_0 : decode cX8_clear 0 = .ok (.aload_n 0, 1) := by decide +kernel
theorem dX8_clear_1 : decode cX8_clear 1 = .ok (.iconst 0, 1) := by decide +kernel
theorem dX8_clear_2 : decode cX8_clear 2 = .ok (.putfield 18, 3) := by decide +kernel
theorem dX8_clear_5 : decode cX8_clear 5 = .ok (.aload_n 0, 1) := by decide +kernel
theorem dX8_clear_6 : decode cX8_clear 6 = .ok (.iconst 0, 1) := by decide +kernel
theorem dX8_clear_7 : decode cX8_clear 7 = .ok (.putfield 22, 3) := by decide +kernel
theorem dX8_clear_10 : decode cX8_clear 10 = .ok (.return_, 1) := by decide +kernel
theorem dX8_add_0 : decode cX8_add 0 = .ok (.aload_n 0, 1) := by decide +kernel
theorem dX8_add_1 : decode cX8_add 1 = .ok (.getfield 18, 3) := by decide +kernel
theorem dX8_add_4 : decode cX8_add 4 = .ok (.bipush 8, 2) := by decide +kernel
theorem dX8_add_6 : decode cX8_add 6 = .ok (.if_icmp .ge 52, 3) := by decide +kernel
theorem dX8_add_9 : decode cX8_add 9 = .ok (.aload_n 0, 1) := by decide +kernel
theorem dX8_add_10 : decode cX8_add 10 = .ok (.getfield 9, 3) := by decide +kernel
theorem dX8_add_13 : decode cX8_add 13 = .ok (.aload_n 0, 1) := by decide +kernel
theorem dX8_add_14 : decode cX8_add 14 = .ok (.getfield 18, 3) := by decide +kernel
theorem dX8_add_17 : decode cX8_add 17 = .ok (.iload_n 1, 1) := by decide +kernel
theorem dX8_add_18 : decode cX8_add 18 = .ok (.iastore, 1) := by decide +kernel
theorem dX8_add_19 : decode cX8_add 19 = .ok (.aload_n 0, 1) := by decide +kernel
theorem dX8_add_20 : decode cX8_add 20 = .ok (.getfield 15, 3) := by decide +kernel
theorem dX8_add_23 : decode cX8_add 23 = .ok (.aload_n 0, 1) := by decide +kernel
theorem dX8_add_24 : decode cX8_add 24 = .ok (.getfield 18, 3) := by decide +kernel
theorem dX8_add_27 : decode cX8_add 27 = .ok (.iload_n 2, 1) := by decide +kernel
theorem dX8_add_28 : decode cX8_add 28 = .ok (.iastore, 1) := by decide +kernel
theorem dX8_add_29 : decode cX8_add 29 = .ok (.iload_n 3, 1) := by decide +kernel
theorem dX8_add_30 : decode cX8_add 30 = .ok (.ifCond .eq 18, 3) := by decide +kernel
theorem dX8_add_33 : decode cX8_add 33 = .ok (.aload_n 0, 1) := by decide +kernel
theorem dX8_add_34 : decode cX8_add 34 = .ok (.dup, 1) := by decide +kernel
theorem dX8_add_35 : decode cX8_add 35 = .ok (.getfield 22, 3) := by decide +kernel
theorem dX8_add_38 : decode cX8_add 38 = .ok (.iconst 1, 1) := by decide +kernel
theorem dX8_add_39 : decode cX8_add 39 = .ok (.aload_n 0, 1) := by decide +kernel
theorem dX8_add_40 : decode cX8_add 40 = .ok (.getfield 18, 3) := by decide +kernel
theorem dX8_add_43 : decode cX8_add 43 = .ok (.ishl, 1) := by decide +kernel
theorem dX8_add_44 : decode cX8_add 44 = .ok (.ior, 1) := by decide +kernel
theorem dX8_add_45 : decode cX8_add 45 = .ok (.putfield 22, 3) := by decide +kernel
theorem dX8_add_48 : decode cX8_add 48 = .ok (.aload_n 0, 1) := by decide +kernel
theorem dX8_add_49 : decode cX8_add 49 = .ok (.dup, 1) := by decide +kernel
theorem dX8_add_50 : decode cX8_add 50 = .ok (.getfield 18, 3) := by decide +kernel
theorem dX8_add_53 : decode cX8_add 53 = .ok (.iconst 1, 1) := by decide +kernel
theorem dX8_add_54 : decode cX8_add 54 = .ok (.iadd, 1) := by decide +kernel
theorem dX8_add_55 : decode cX8_add 55 = .ok (.putfield 18, 3) := by decide +kernel
theorem dX8_add_58 : decode cX8_add 58 = .ok (.return_, 1) := by decide +kernel
theorem dX8_copyFrom_0 : decode cX8_copyFrom 0 = .ok (.aload_n 0, 1) := by decide +kernel
theorem dX8_copyFrom_1 : decode cX8_copyFrom 1 = .ok (.aload_n 1, 1) := by decide +kernel
theorem dX8_copyFrom_2 : decode cX8_copyFrom 2 = .ok (.getfield 18, 3) := by decide +kernel
theorem dX8_copyFrom_5 : decode cX8_copyFrom 5 = .ok (.putfield 18, 3) := by decide +kernel
theorem dX8_copyFrom_8 : decode cX8_copyFrom 8 = .ok (.aload_n 0, 1) := by decide +kernel
theorem dX8_copyFrom_9 : decode cX8_copyFrom 9 = .ok (.aload_n 1, 1) := by decide +kernel
theorem dX8_copyFrom_10 : decode cX8_copyFrom 10 = .ok (.getfield 22, 3) := by decide +kernel
theorem dX8_copyFrom_13 : decode cX8_copyFrom 13 = .ok (.putfield 22, 3) := by decide +kernel
theorem dX8_copyFrom_16 : decode cX8_copyFrom 16 = .ok (.aload_n 1, 1) := by decide +kernel
theorem dX8_copyFrom_17 : decode cX8_copyFrom 17 = .ok (.getfield 9, 3) := by decide +kernel
theorem dX8_copyFrom_20 : decode cX8_copyFrom 20 = .ok (.iconst 0, 1) := by decide +kernel
theorem dX8_copyFrom_21 : decode cX8_copyFrom 21 = .ok (.aload_n 0, 1) := by decide +kernel
theorem dX8_copyFrom_22 : decode cX8_copyFrom 22 = .ok (.getfield 9, 3) := by decide +kernel
theorem dX8_copyFrom_25 : decode cX8_copyFrom 25 = .ok (.iconst 0, 1) := by decide +kernel
theorem dX8_copyFrom_26 : decode cX8_copyFrom 26 = .ok (.bipush 8, 2) := by decide +kernel
theorem dX8_copyFrom_28 : decode cX8_copyFrom 28 = .ok (.invokestatic 25, 3) := by decide +kernel
theorem dX8_copyFrom_31 : decode cX8_copyFrom 31 = .ok (.aload_n 1, 1) := by decide +kernel
theorem dX8_copyFrom_32 : decode cX8_copyFrom 32 = .ok (.getfield 15, 3) := by decide +kernel
theorem dX8_copyFrom_35 : decode cX8_copyFrom 35 = .ok (.iconst 0, 1) := by decide +kernel
theorem dX8_copyFrom_36 : decode cX8_copyFrom 36 = .ok (.aload_n 0, 1) := by decide +kernel
theorem dX8_copyFrom_37 : decode cX8_copyFrom 37 = .ok (.getfield 15, 3) := by decide +kernel
theorem dX8_copyFrom_40 : decode cX8_copyFrom 40 = .ok (.iconst 0, 1) := by decide +kernel
theorem dX8_copyFrom_41 : decode cX8_copyFrom 41 = .ok (.bipush 8, 2) := by decide +kernel
theorem dX8_copyFrom_43 : decode cX8_copyFrom 43 = .ok (.invokestatic 25, 3) := by decide +kernel
theorem dX8_copyFrom_46 : decode cX8_copyFrom 46 = .ok (.return_, 1) := by decide +kernel
theorem dX8_lastHour_0 : decode cX8_lastHour 0 = .ok (.iconst 0, 1) := by decide +kernel
theorem dX8_lastHour_1 : decode cX8_lastHour 1 = .ok (.istore_n 1, 1) := by decide +kernel
theorem dX8_lastHour_2 : decode cX8_lastHour 2 = .ok (.iconst 0, 1) := by decide +kernel
theorem dX8_lastHour_3 : decode cX8_lastHour 3 = .ok (.istore_n 2, 1) := by decide +kernel
theorem dX8_lastHour_4 : decode cX8_lastHour 4 = .ok (.iload_n 2, 1) := by decide +kernel
theorem dX8_lastHour_5 : decode cX8_lastHour 5 = .ok (.aload_n 0, 1) := by decide +kernel
theorem dX8_lastHour_6 : decode cX8_lastHour 6 = .ok (.getfield 18, 3) := by decide +kernel
theorem dX8_lastHour_9 : decode cX8_lastHour 9 = .ok (.if_icmp .ge 20, 3) := by decide +kernel
theorem dX8_lastHour_12 : decode cX8_lastHour 12 = .ok (.iload_n 1, 1) := by decide +kernel
theorem dX8_lastHour_13 : decode cX8_lastHour 13 = .ok (.aload_n 0, 1) := by decide +kernel
theorem dX8_lastHour_14 : decode cX8_lastHour 14 = .ok (.getfield 15, 3) := by decide +kernel
theorem dX8_lastHour_17 : decode cX8_lastHour 17 = .ok (.iload_n 2, 1) := by decide +kernel
theorem dX8_lastHour_18 : decode cX8_lastHour 18 = .ok (.iaload, 1) := by decide +kernel
theorem dX8_lastHour_19 : decode cX8_lastHour 19 = .ok (.invokestatic 31, 3) := by decide +kernel
theorem dX8_lastHour_22 : decode cX8_lastHour 22 = .ok (.istore_n 1, 1) := by decide +kernel
theorem dX8_lastHour_23 : decode cX8_lastHour 23 = .ok (.iinc 2 1, 3) := by decide +kernel
theorem dX8_lastHour_26 : decode cX8_lastHour 26 = .ok (.goto (-22), 3) := by decide +kernel
theorem dX8_lastHour_29 : decode cX8_lastHour 29 = .ok (.iload_n 1, 1) := by decide +kernel
theorem dX8_lastHour_30 : decode cX8_lastHour 30 = .ok (.ireturn, 1) := by decide +kernel
theorem dX8_agree_0 : decode cX8_agree 0 = .ok (.iconst 0, 1) := by decide +kernel
theorem dX8_agree_1 : decode cX8_agree 1 = .ok (.istore_n 3, 1) := by decide +kernel
theorem dX8_agree_2 : decode cX8_agree 2 = .ok (.iload_n 3, 1) := by decide +kernel
theorem dX8_agree_3 : decode cX8_agree 3 = .ok (.aload_n 0, 1) := by decide +kernel
theorem dX8_agree_4 : decode cX8_agree 4 = .ok (.getfield 18, 3) := by decide +kernel
theorem dX8_agree_7 : decode cX8_agree 7 = .ok (.if_icmp .ge 42, 3) := by decide +kernel
theorem dX8_agree_10 : decode cX8_agree 10 = .ok (.aload_n 0, 1) := by decide +kernel
theorem dX8_agree_11 : decode cX8_agree 11 = .ok (.getfield 15, 3) := by decide +kernel
theorem dX8_agree_14 : decode cX8_agree 14 = .ok (.iload_n 3, 1) := by decide +kernel
theorem dX8_agree_15 : decode cX8_agree 15 = .ok (.iaload, 1) := by decide +kernel
theorem dX8_agree_16 : decode cX8_agree 16 = .ok (.iload_n 1, 1) := by decide +kernel
theorem dX8_agree_17 : decode cX8_agree 17 = .ok (.if_icmp .ne 26, 3) := by decide +kernel
theorem dX8_agree_20 : decode cX8_agree 20 = .ok (.iload_n 2, 1) := by decide +kernel
theorem dX8_agree_21 : decode cX8_agree 21 = .ok (.aload_n 0, 1) := by decide +kernel
theorem dX8_agree_22 : decode cX8_agree 22 = .ok (.getfield 9, 3) := by decide +kernel
theorem dX8_agree_25 : decode cX8_agree 25 = .ok (.iload_n 3, 1) := by decide +kernel
theorem dX8_agree_26 : decode cX8_agree 26 = .ok (.iaload, 1) := by decide +kernel
theorem dX8_agree_27 : decode cX8_agree 27 = .ok (.ishr, 1) := by decide +kernel
theorem dX8_agree_28 : decode cX8_agree 28 = .ok (.iconst 1, 1) := by decide +kernel
theorem dX8_agree_29 : decode cX8_agree 29 = .ok (.iand, 1) := by decide +kernel
theorem dX8_agree_30 : decode cX8_agree 30 = .ok (.aload_n 0, 1) := by decide +kernel
theorem dX8_agree_31 : decode cX8_agree 31 = .ok (.getfield 22, 3) := by decide +kernel
theorem dX8_agree_34 : decode cX8_agree 34 = .ok (.iload_n 3, 1) := by decide +kernel
theorem dX8_agree_35 : decode cX8_agree 35 = .ok (.ishr, 1) := by decide +kernel
theorem dX8_agree_36 : decode cX8_agree 36 = .ok (.iconst 1, 1) := by decide +kernel
theorem dX8_agree_37 : decode cX8_agree 37 = .ok (.iand, 1) := by decide +kernel
theorem dX8_agree_38 : decode cX8_agree 38 = .ok (.if_icmp .eq 5, 3) := by decide +kernel
theorem dX8_agree_41 : decode cX8_agree 41 = .ok (.iconst 0, 1) := by decide +kernel
theorem dX8_agree_42 : decode cX8_agree 42 = .ok (.ireturn, 1) := by decide +kernel
theorem dX8_agree_43 : decode cX8_agree 43 = .ok (.iinc 3 1, 3) := by decide +kernel
theorem dX8_agree_46 : decode cX8_agree 46 = .ok (.goto (-44), 3) := by decide +kernel
theorem dX8_agree_49 : decode cX8_agree 49 = .ok (.iconst 1, 1) := by decide +kernel
theorem dX8_agree_50 : decode cX8_agree 50 = .ok (.ireturn, 1) := by decide +kernel
theorem dX9_init_0 : decode cX9_init 0 = .ok (.aload_n 0, 1) := by decide +kernel
theorem dX9_init_1 : decode cX9_init 1 = .ok (.invokespecial 3, 3) := by decide +kernel
theorem dX9_init_4 : decode cX9_init 4 = .ok (.aload_n 0, 1) := by decide +kernel
theorem dX9_init_5 : decode cX9_init 5 = .ok (.bipush 8, 2) := by decide +kernel
theorem dX9_init_7 : decode cX9_init 7 = .ok (.newarray .int, 2) := by decide +kernel
theorem dX9_init_9 : decode cX9_init 9 = .ok (.putfield 9, 3) := by decide +kernel
theorem dX9_init_12 : decode cX9_init 12 = .ok (.aload_n 0, 1) := by decide +kernel
theorem dX9_init_13 : decode cX9_init 13 = .ok (.bipush 8, 2) := by decide +kernel
theorem dX9_init_15 : decode cX9_init 15 = .ok (.newarray .int, 2) := by decide +kernel
theorem dX9_init_17 : decode cX9_init 17 = .ok (.putfield 15, 3) := by decide +kernel
theorem dX9_init_20 : decode cX9_init 20 = .ok (.aload_n 0, 1) := by decide +kernel
theorem dX9_init_21 : decode cX9_init 21 = .ok (.bipush 8, 2) := by decide +kernel
theorem dX9_init_23 : decode cX9_init 23 = .ok (.newarray .int, 2) := by decide +kernel
theorem dX9_init_25 : decode cX9_init 25 = .ok (.putfield 18, 3) := by decide +kernel
theorem dX9_init_28 : decode cX9_init 28 = .ok (.aload_n 0, 1) := by decide +kernel
theorem dX9_init_29 : decode cX9_init 29 = .ok (.bipush 12, 2) := by decide +kernel
theorem dX9_init_31 : decode cX9_init 31 = .ok (.newarray .int, 2) := by decide +kernel
theorem dX9_init_33 : decode cX9_init 33 = .ok (.putfield 21, 3) := by decide +kernel
theorem dX9_init_36 : decode cX9_init 36 = .ok (.aload_n 0, 1) := by decide +kernel
theorem dX9_init_37 : decode cX9_init 37 = .ok (.bipush 12, 2) := by decide +kernel
theorem dX9_init_39 : decode cX9_init 39 = .ok (.newarray .int, 2) := by decide +kernel
theorem dX9_init_41 : decode cX9_init 41 = .ok (.putfield 24, 3) := by decide +kernel
theorem dX9_init_44 : decode cX9_init 44 = .ok (.aload_n 0, 1) := by decide +kernel
theorem dX9_init_45 : decode cX9_init 45 = .ok (.bipush 12, 2) := by decide +kernel
theorem dX9_init_47 : decode cX9_init 47 = .ok (.newarray .int, 2) := by decide +kernel
theorem dX9_init_49 : decode cX9_init 49 = .ok (.putfield 27, 3) := by decide +kernel
theorem dX9_init_52 : decode cX9_init 52 = .ok (.return_, 1) := by decide +kernel
theorem dX9_clear_0 : decode cX9_clear 0 = .ok (.aload_n 0, 1) := by decide +kernel
theorem dX9_clear_1 : decode cX9_clear 1 = .ok (.iconst 0, 1) := by decide +kernel
theorem dX9_clear_2 : decode cX9_clear 2 = .ok (.putfield 30, 3) := by decide +kernel
theorem dX9_clear_5 : decode cX9_clear 5 = .ok (.aload_n 0, 1) := by decide +kernel
theorem dX9_clear_6 : decode cX9_clear 6 = .ok (.iconst 0, 1) := by decide +kernel
theorem dX9_clear_7 : decode cX9_clear 7 = .ok (.putfield 34, 3) := by decide +kernel
theorem dX9_clear_10 : decode cX9_clear 10 = .ok (.aload_n 0, 1) := by decide +kernel
theorem dX9_clear_11 : decode cX9_clear 11 = .ok (.iconst 0, 1) := by decide +kernel
theorem dX9_clear_12 : decode cX9_clear 12 = .ok (.putfield 37, 3) := by decide +kernel
theorem dX9_clear_15 : decode cX9_clear 15 = .ok (.aload_n 0, 1) := by decide +kernel
theorem dX9_clear_16 : decode cX9_clear 16 = .ok (.iconst 0, 1) := by decide +kernel
theorem dX9_clear_17 : decode cX9_clear 17 = .ok (.putfield 40, 3) := by decide +kernel
theorem dX9_clear_20 : decode cX9_clear 20 = .ok (.aload_n 0, 1) := by decide +kernel
theorem dX9_clear_21 : decode cX9_clear 21 = .ok (.iconst 0, 1) := by decide +kernel
theorem dX9_clear_22 : decode cX9_clear 22 = .ok (.putfield 43, 3) := by decide +kernel
theorem dX9_clear_25 : decode cX9_clear 25 = .ok (.return_, 1) := by decide +kernel
theorem dX9_copyFrom_0 : decode cX9_copyFrom 0 = .ok (.aload_n 0, 1) := by decide +kernel
theorem dX9_copyFrom_1 : decode cX9_copyFrom 1 = .ok (.aload_n 1, 1) := by decide +kernel
theorem dX9_copyFrom_2 : decode cX9_copyFrom 2 = .ok (.getfield 30, 3) := by decide +kernel
theorem dX9_copyFrom_5 : decode cX9_copyFrom 5 = .ok (.putfield 30, 3) := by decide +kernel
theorem dX9_copyFrom_8 : decode cX9_copyFrom 8 = .ok (.aload_n 0, 1) := by decide +kernel
theorem dX9_copyFrom_9 : decode cX9_copyFrom 9 = .ok (.aload_n 1, 1) := by decide +kernel
theorem dX9_copyFrom_10 : decode cX9_copyFrom 10 = .ok (.getfield 34, 3) := by decide +kernel
theorem dX9_copyFrom_13 : decode cX9_copyFrom 13 = .ok (.putfield 34, 3) := by decide +kernel
theorem dX9_copyFrom_16 : decode cX9_copyFrom 16 = .ok (.aload_n 0, 1) := by decide +kernel
theorem dX9_copyFrom_17 : decode cX9_copyFrom 17 = .ok (.aload_n 1, 1) := by decide +kernel
theorem dX9_copyFrom_18 : decode cX9_copyFrom 18 = .ok (.getfield 37, 3) := by decide +kernel
theorem dX9_copyFrom_21 : decode cX9_copyFrom 21 = .ok (.putfield 37, 3) := by decide +kernel
theorem dX9_copyFrom_24 : decode cX9_copyFrom 24 = .ok (.aload_n 0, 1) := by decide +kernel
theorem dX9_copyFrom_25 : decode cX9_copyFrom 25 = .ok (.aload_n 1, 1) := by decide +kernel
theorem dX9_copyFrom_26 : decode cX9_copyFrom 26 = .ok (.getfield 40, 3) := by decide +kernel
theorem dX9_copyFrom_29 : decode cX9_copyFrom 29 = .ok (.putfield 40, 3) := by decide +kernel
theorem dX9_copyFrom_32 : decode cX9_copyFrom 32 = .ok (.aload_n 0, 1) := by decide +kernel
theorem dX9_copyFrom_33 : decode cX9_copyFrom 33 = .ok (.aload_n 1, 1) := by decide +kernel
theorem dX9_copyFrom_34 : decode cX9_copyFrom 34 = .ok (.getfield 43, 3) := by decide +kernel
theorem dX9_copyFrom_37 : decode cX9_copyFrom 37 = .ok (.putfield 43, 3) := by decide +kernel
theorem dX9_copyFrom_40 : decode cX9_copyFrom 40 = .ok (.aload_n 1, 1) := by decide +kernel
theorem dX9_copyFrom_41 : decode cX9_copyFrom 41 = .ok (.getfield 9, 3) := by decide +kernel
theorem dX9_copyFrom_44 : decode cX9_copyFrom 44 = .ok (.iconst 0, 1) := by decide +kernel
theorem dX9_copyFrom_45 : decode cX9_copyFrom 45 = .ok (.aload_n 0, 1) := by decide +kernel
theorem dX9_copyFrom_46 : decode cX9_copyFrom 46 = .ok (.getfield 9, 3) := by decide +kernel
theorem dX9_copyFrom_49 : decode cX9_copyFrom 49 = .ok (.iconst 0, 1) := by decide +kernel
theorem dX9_copyFrom_50 : decode cX9_copyFrom 50 = .ok (.bipush 8, 2) := by decide +kernel
theorem dX9_copyFrom_52 : decode cX9_copyFrom 52 = .ok (.invokestatic 46, 3) := by decide +kernel
theorem dX9_copyFrom_55 : decode cX9_copyFrom 55 = .ok (.aload_n 1, 1) := by decide +kernel
theorem dX9_copyFrom_56 : decode cX9_copyFrom 56 = .ok (.getfield 15, 3) := by decide +kernel
theorem dX9_copyFrom_59 : decode cX9_copyFrom 59 = .ok (.iconst 0, 1) := by decide +kernel
theorem dX9_copyFrom_60 : decode cX9_copyFrom 60 = .ok (.aload_n 0, 1) := by decide +kernel
theorem dX9_copyFrom_61 : decode cX9_copyFrom 61 = .ok (.getfield 15, 3) := by decide +kernel
theorem dX9_copyFrom_64 : decode cX9_copyFrom 64 = .ok (.iconst 0, 1) := by decide +kernel
theorem dX9_copyFrom_65 : decode cX9_copyFrom 65 = .ok (.bipush 8, 2) := by decide +kernel
theorem dX9_copyFrom_67 : decode cX9_copyFrom 67 = .ok (.invokestatic 46, 3) := by decide +kernel
theorem dX9_copyFrom_70 : decode cX9_copyFrom 70 = .ok (.aload_n 1, 1) := by decide +kernel
theorem dX9_copyFrom_71 : decode cX9_copyFrom 71 = .ok (.getfield 18, 3) := by decide +kernel
theorem dX9_copyFrom_74 : decode cX9_copyFrom 74 = .ok (.iconst 0, 1) := by decide +kernel
theorem dX9_copyFrom_75 : decode cX9_copyFrom 75 = .ok (.aload_n 0, 1) := by decide +kernel
theorem dX9_copyFrom_76 : decode cX9_copyFrom 76 = .ok (.getfield 18, 3) := by decide +kernel
theorem dX9_copyFrom_79 : decode cX9_copyFrom 79 = .ok (.iconst 0, 1) := by decide +kernel
theorem dX9_copyFrom_80 : decode cX9_copyFrom 80 = .ok (.bipush 8, 2) := by decide +kernel
theorem dX9_copyFrom_82 : decode cX9_copyFrom 82 = .ok (.invokestatic 46, 3) := by decide +kernel
theorem dX9_copyFrom_85 : decode cX9_copyFrom 85 = .ok (.aload_n 1, 1) := by decide +kernel
theorem dX9_copyFrom_86 : decode cX9_copyFrom 86 = .ok (.getfield 21, 3) := by decide +kernel
theorem dX9_copyFrom_89 : decode cX9_copyFrom 89 = .ok (.iconst 0, 1) := by decide +kernel
theorem dX9_copyFrom_90 : decode cX9_copyFrom 90 = .ok (.aload_n 0, 1) := by decide +kernel
theorem dX9_copyFrom_91 : decode cX9_copyFrom 91 = .ok (.getfield 21, 3) := by decide +kernel
theorem dX9_copyFrom_94 : decode cX9_copyFrom 94 = .ok (.iconst 0, 1) := by decide +kernel
theorem dX9_copyFrom_95 : decode cX9_copyFrom 95 = .ok (.bipush 12, 2) := by decide +kernel
theorem dX9_copyFrom_97 : decode cX9_copyFrom 97 = .ok (.invokestatic 46, 3) := by decide +kernel
theorem dX9_copyFrom_100 : decode cX9_copyFrom 100 = .ok (.aload_n 1, 1) := by decide +kernel
theorem dX9_copyFrom_101 : decode cX9_copyFrom 101 = .ok (.getfield 24, 3) := by decide +kernel
theorem dX9_copyFrom_104 : decode cX9_copyFrom 104 = .ok (.iconst 0, 1) := by decide +kernel
theorem dX9_copyFrom_105 : decode cX9_copyFrom 105 = .ok (.aload_n 0, 1) := by decide +kernel
theorem dX9_copyFrom_106 : decode cX9_copyFrom 106 = .ok (.getfield 24, 3) := by decide +kernel
theorem dX9_copyFrom_109 : decode cX9_copyFrom 109 = .ok (.iconst 0, 1) := by decide +kernel
theorem dX9_copyFrom_110 : decode cX9_copyFrom 110 = .ok (.bipush 12, 2) := by decide +kernel
theorem dX9_copyFrom_112 : decode cX9_copyFrom 112 = .ok (.invokestatic 46, 3) := by decide +kernel
theorem dX9_copyFrom_115 : decode cX9_copyFrom 115 = .ok (.aload_n 1, 1) := by decide +kernel
theorem dX9_copyFrom_116 : decode cX9_copyFrom 116 = .ok (.getfield 27, 3) := by decide +kernel
theorem dX9_copyFrom_119 : decode cX9_copyFrom 119 = .ok (.iconst 0, 1) := by decide +kernel
theorem dX9_copyFrom_120 : decode cX9_copyFrom 120 = .ok (.aload_n 0, 1) := by decide +kernel
theorem dX9_copyFrom_121 : decode cX9_copyFrom 121 = .ok (.getfield 27, 3) := by decide +kernel
theorem dX9_copyFrom_124 : decode cX9_copyFrom 124 = .ok (.iconst 0, 1) := by decide +kernel
theorem dX9_copyFrom_125 : decode cX9_copyFrom 125 = .ok (.bipush 12, 2) := by decide +kernel
theorem dX9_copyFrom_127 : decode cX9_copyFrom 127 = .ok (.invokestatic 46, 3) := by decide +kernel
theorem dX9_copyFrom_130 : decode cX9_copyFrom 130 = .ok (.return_, 1) := by decide +kernel
theorem dX9_addHouse_0 : decode cX9_addHouse 0 = .ok (.aload_n 0, 1) := by decide +kernel
theorem dX9_addHouse_1 : decode cX9_addHouse 1 = .ok (.getfield 30, 3) := by decide +kernel
theorem dX9_addHouse_4 : decode cX9_addHouse 4 = .ok (.bipush 8, 2) := by decide +kernel
theorem dX9_addHouse_6 : decode cX9_addHouse 6 = .ok (.if_icmp .ge 43, 3) := by decide +kernel
theorem dX9_addHouse_9 : decode cX9_addHouse 9 = .ok (.aload_n 0, 1) := by decide +kernel
theorem dX9_addHouse_10 : decode cX9_addHouse 10 = .ok (.getfield 9, 3) := by decide +kernel
theorem dX9_addHouse_13 : decode cX9_addHouse 13 = .ok (.aload_n 0, 1) := by decide +kernel
theorem dX9_addHouse_14 : decode cX9_addHouse 14 = .ok (.getfield 30, 3) := by decide +kernel
theorem dX9_addHouse_17 : decode cX9_addHouse 17 = .ok (.iload_n 1, 1) := by decide +kernel
theorem dX9_addHouse_18 : decode cX9_addHouse 18 = .ok (.iastore, 1) := by decide +kernel
theorem dX9_addHouse_19 : decode cX9_addHouse 19 = .ok (.aload_n 0, 1) := by decide +kernel
theorem dX9_addHouse_20 : decode cX9_addHouse 20 = .ok (.getfield 15, 3) := by decide +kernel
theorem dX9_addHouse_23 : decode cX9_addHouse 23 = .ok (.aload_n 0, 1) := by decide +kernel
theorem dX9_addHouse_24 : decode cX9_addHouse 24 = .ok (.getfield 30, 3) := by decide +kernel
theorem dX9_addHouse_27 : decode cX9_addHouse 27 = .ok (.iload_n 2, 1) := by decide +kernel
theorem dX9_addHouse_28 : decode cX9_addHouse 28 = .ok (.iastore, 1) := by decide +kernel
theorem dX9_addHouse_29 : decode cX9_addHouse 29 = .ok (.aload_n 0, 1) := by decide +kernel
theorem dX9_addHouse_30 : decode cX9_addHouse 30 = .ok (.getfield 18, 3) := by decide +kernel
theorem dX9_addHouse_33 : decode cX9_addHouse 33 = .ok (.aload_n 0, 1) := by decide +kernel
theorem dX9_addHouse_34 : decode cX9_addHouse 34 = .ok (.getfield 30, 3) := by decide +kernel
theorem dX9_addHouse_37 : decode cX9_addHouse 37 = .ok (.iload_n 3, 1) := by decide +kernel
theorem dX9_addHouse_38 : decode cX9_addHouse 38 = .ok (.iastore, 1) := by decide +kernel
theorem dX9_addHouse_39 : decode cX9_addHouse 39 = .ok (.aload_n 0, 1) := by decide +kernel
theorem dX9_addHouse_40 : decode cX9_addHouse 40 = .ok (.dup, 1) := by decide +kernel
theorem dX9_addHouse_41 : decode cX9_addHouse 41 = .ok (.getfield 30, 3) := by decide +kernel
theorem dX9_addHouse_44 : decode cX9_addHouse 44 = .ok (.iconst 1, 1) := by decide +kernel
theorem dX9_addHouse_45 : decode cX9_addHouse 45 = .ok (.iadd, 1) := by decide +kernel
theorem dX9_addHouse_46 : decode cX9_addHouse 46 = .ok (.putfield 30, 3) := by decide +kernel
theorem dX9_addHouse_49 : decode cX9_addHouse 49 = .ok (.return_, 1) := by decide +kernel
theorem dX9_addLamp_0 : decode cX9_addLamp 0 = .ok (.aload_n 0, 1) := by decide +kernel
theorem dX9_addLamp_1 : decode cX9_addLamp 1 = .ok (.getfield 34, 3) := by decide +kernel
theorem dX9_addLamp_4 : decode cX9_addLamp 4 = .ok (.bipush 12, 2) := by decide +kernel
theorem dX9_addLamp_6 : decode cX9_addLamp 6 = .ok (.if_icmp .ge 43, 3) := by decide +kernel
theorem dX9_addLamp_9 : decode cX9_addLamp 9 = .ok (.aload_n 0, 1) := by decide +kernel
theorem dX9_addLamp_10 : decode cX9_addLamp 10 = .ok (.getfield 21, 3) := by decide +kernel
theorem dX9_addLamp_13 : decode cX9_addLamp 13 = .ok (.aload_n 0, 1) := by decide +kernel
theorem dX9_addLamp_14 : decode cX9_addLamp 14 = .ok (.getfield 34, 3) := by decide +kernel
theorem dX9_addLamp_17 : decode cX9_addLamp 17 = .ok (.iload_n 1, 1) := by decide +kernel
theorem dX9_addLamp_18 : decode cX9_addLamp 18 = .ok (.iastore, 1) := by decide +kernel
theorem dX9_addLamp_19 : decode cX9_addLamp 19 = .ok (.aload_n 0, 1) := by decide +kernel
theorem dX9_addLamp_20 : decode cX9_addLamp 20 = .ok (.getfield 24, 3) := by decide +kernel
theorem dX9_addLamp_23 : decode cX9_addLamp 23 = .ok (.aload_n 0, 1) := by decide +kernel
theorem dX9_addLamp_24 : decode cX9_addLamp 24 = .ok (.getfield 34, 3) := by decide +kernel
theorem dX9_addLamp_27 : decode cX9_addLamp 27 = .ok (.iload_n 2, 1) := by decide +kernel
theorem dX9_addLamp_28 : decode cX9_addLamp 28 = .ok (.iastore, 1) := by decide +kernel
theorem dX9_addLamp_29 : decode cX9_addLamp 29 = .ok (.aload_n 0, 1) := by decide +kernel
theorem dX9_addLamp_30 : decode cX9_addLamp 30 = .ok (.getfield 27, 3) := by decide +kernel
theorem dX9_addLamp_33 : decode cX9_addLamp 33 = .ok (.aload_n 0, 1) := by decide +kernel
theorem dX9_addLamp_34 : decode cX9_addLamp 34 = .ok (.getfield 34, 3) := by decide +kernel
theorem dX9_addLamp_37 : decode cX9_addLamp 37 = .ok (.iconst (-1), 1) := by decide +kernel
theorem dX9_addLamp_38 : decode cX9_addLamp 38 = .ok (.iastore, 1) := by decide +kernel
theorem dX9_addLamp_39 : decode cX9_addLamp 39 = .ok (.aload_n 0, 1) := by decide +kernel
theorem dX9_addLamp_40 : decode cX9_addLamp 40 = .ok (.dup, 1) := by decide +kernel
theorem dX9_addLamp_41 : decode cX9_addLamp 41 = .ok (.getfield 34, 3) := by decide +kernel
theorem dX9_addLamp_44 : decode cX9_addLamp 44 = .ok (.iconst 1, 1) := by decide +kernel
theorem dX9_addLamp_45 : decode cX9_addLamp 45 = .ok (.iadd, 1) := by decide +kernel
theorem dX9_addLamp_46 : decode cX9_addLamp 46 = .ok (.putfield 34, 3) := by decide +kernel
theorem dX9_addLamp_49 : decode cX9_addLamp 49 = .ok (.return_, 1) := by decide +kernel
theorem dX9_isLit_0 : decode cX9_isLit 0 = .ok (.aload_n 0, 1) := by decide +kernel
theorem dX9_isLit_1 : decode cX9_isLit 1 = .ok (.getfield 40, 3) := by decide +kernel
theorem dX9_isLit_4 : decode cX9_isLit 4 = .ok (.iload_n 1, 1) := by decide +kernel
theorem dX9_isLit_5 : decode cX9_isLit 5 = .ok (.ishr, 1) := by decide +kernel
theorem dX9_isLit_6 : decode cX9_isLit 6 = .ok (.iconst 1, 1) := by decide +kernel
theorem dX9_isLit_7 : decode cX9_isLit 7 = .ok (.iand, 1) := by decide +kernel
theorem dX9_isLit_8 : decode cX9_isLit 8 = .ok (.iconst 1, 1) := by decide +kernel
theorem dX9_isLit_9 : decode cX9_isLit 9 = .ok (.if_icmp .ne 7, 3) := by decide +kernel
theorem dX9_isLit_12 : decode cX9_isLit 12 = .ok (.iconst 1, 1) := by decide +kernel
theorem dX9_isLit_13 : decode cX9_isLit 13 = .ok (.goto 4, 3) := by decide +kernel
theorem dX9_isLit_16 : decode cX9_isLit 16 = .ok (.iconst 0, 1) := by decide +kernel
theorem dX9_isLit_17 : decode cX9_isLit 17 = .ok (.ireturn, 1) := by decide +kernel
theorem dX9_isBroken_0 : decode cX9_isBroken 0 = .ok (.aload_n 0, 1) := by decide +kernel
theorem dX9_isBroken_1 : decode cX9_isBroken 1 = .ok (.getfield 43, 3) := by decide +kernel
theorem dX9_isBroken_4 : decode cX9_isBroken 4 = .ok (.iload_n 1, 1) := by decide +kernel
theorem dX9_isBroken_5 : decode cX9_isBroken 5 = .ok (.ishr, 1) := by decide +kernel
theorem dX9_isBroken_6 : decode cX9_isBroken 6 = .ok (.iconst 1, 1) := by decide +kernel
theorem dX9_isBroken_7 : decode cX9_isBroken 7 = .ok (.iand, 1) := by decide +kernel
theorem dX9_isBroken_8 : decode cX9_isBroken 8 = .ok (.iconst 1, 1) := by decide +kernel
theorem dX9_isBroken_9 : decode cX9_isBroken 9 = .ok (.if_icmp .ne 7, 3) := by decide +kernel
theorem dX9_isBroken_12 : decode cX9_isBroken 12 = .ok (.iconst 1, 1) := by decide +kernel
theorem dX9_isBroken_13 : decode cX9_isBroken 13 = .ok (.goto 4, 3) := by decide +kernel
theorem dX9_isBroken_16 : decode cX9_isBroken 16 = .ok (.iconst 0, 1) := by decide +kernel
theorem dX9_isBroken_17 : decode cX9_isBroken 17 = .ok (.ireturn, 1) := by decide +kernel
theorem dX9_isAwake_0 : decode cX9_isAwake 0 = .ok (.aload_n 0, 1) := by decide +kernel
theorem dX9_isAwake_1 : decode cX9_isAwake 1 = .ok (.getfield 15, 3) := by decide +kernel
theorem dX9_isAwake_4 : decode cX9_isAwake 4 = .ok (.iload_n 1, 1) := by decide +kernel
theorem dX9_isAwake_5 : decode cX9_isAwake 5 = .ok (.iaload, 1) := by decide +kernel
theorem dX9_isAwake_6 : decode cX9_isAwake 6 = .ok (.istore_n 3, 1) := by decide +kernel
theorem dX9_isAwake_7 : decode cX9_isAwake 7 = .ok (.aload_n 0, 1) := by decide +kernel
theorem dX9_isAwake_8 : decode cX9_isAwake 8 = .ok (.getfield 18, 3) := by decide +kernel
theorem dX9_isAwake_11 : decode cX9_isAwake 11 = .ok (.iload_n 1, 1) := by decide +kernel
theorem dX9_isAwake_12 : decode cX9_isAwake 12 = .ok (.iaload, 1) := by decide +kernel
theorem dX9_isAwake_13 : decode cX9_isAwake 13 = .ok (.istore 4, 2) := by decide +kernel
theorem dX9_isAwake_15 : decode cX9_isAwake 15 = .ok (.iload_n 3, 1) := by decide +kernel
theorem dX9_isAwake_16 : decode cX9_isAwake 16 = .ok (.iload 4, 2) := by decide +kernel
theorem dX9_isAwake_18 : decode cX9_isAwake 18 = .ok (.if_icmp .ne 5, 3) := by decide +kernel
theorem dX9_isAwake_21 : decode cX9_isAwake 21 = .ok (.iconst 1, 1) := by decide +kernel
theorem dX9_isAwake_22 : decode cX9_isAwake 22 = .ok (.ireturn, 1) := by decide +kernel
theorem dX9_isAwake_23 : decode cX9_isAwake 23 = .ok (.iload_n 3, 1) := by decide +kernel
theorem dX9_isAwake_24 : decode cX9_isAwake 24 = .ok (.iload 4, 2) := by decide +kernel
theorem dX9_isAwake_26 : decode cX9_isAwake 26 = .ok (.if_icmp .ge 20, 3) := by decide +kernel
theorem dX9_isAwake_29 : decode cX9_isAwake 29 = .ok (.iload_n 2, 1) := by decide +kernel
theorem dX9_isAwake_30 : decode cX9_isAwake 30 = .ok (.iload_n 3, 1) := by decide +kernel
theorem dX9_isAwake_31 : decode cX9_isAwake 31 = .ok (.if_icmp .lt 13, 3) := by decide +kernel
theorem dX9_isAwake_34 : decode cX9_isAwake 34 = .ok (.iload_n 2, 1) := by decide +kernel
theorem dX9_isAwake_35 : decode cX9_isAwake 35 = .ok (.iload 4, 2) := by decide +kernel
theorem dX9_isAwake_37 : decode cX9_isAwake 37 = .ok (.if_icmp .ge 7, 3) := by decide +kernel
theorem dX9_isAwake_40 : decode cX9_isAwake 40 = .ok (.iconst 1, 1) := by decide +kernel
theorem dX9_isAwake_41 : decode cX9_isAwake 41 = .ok (.goto 4, 3) := by decide +kernel
theorem dX9_isAwake_44 : decode cX9_isAwake 44 = .ok (.iconst 0, 1) := by decide +kernel
theorem dX9_isAwake_45 : decode cX9_isAwake 45 = .ok (.ireturn, 1) := by decide +kernel
theorem dX9_isAwake_46 : decode cX9_isAwake 46 = .ok (.iload_n 2, 1) := by decide +kernel
theorem dX9_isAwake_47 : decode cX9_isAwake 47 = .ok (.iload_n 3, 1) := by decide +kernel
theorem dX9_isAwake_48 : decode cX9_isAwake 48 = .ok (.if_icmp .ge 9, 3) := by decide +kernel
theorem dX9_isAwake_51 : decode cX9_isAwake 51 = .ok (.iload_n 2, 1) := by decide +kernel
theorem dX9_isAwake_52 : decode cX9_isAwake 52 = .ok (.iload 4, 2) := by decide +kernel
theorem dX9_isAwake_54 : decode cX9_isAwake 54 = .ok (.if_icmp .ge 7, 3) := by decide +kernel
theorem dX9_isAwake_57 : decode cX9_isAwake 57 = .ok (.iconst 1, 1) := by decide +kernel
theorem dX9_isAwake_58 : decode cX9_isAwake 58 = .ok (.goto 4, 3) := by decide +kernel
theorem dX9_isAwake_61 : decode cX9_isAwake 61 = .ok (.iconst 0, 1) := by decide +kernel
theorem dX9_isAwake_62 : decode cX9_isAwake 62 = .ok (.ireturn, 1) := by decide +kernel
set_option maxRecDepth 20000 in
theorem ggX9_hoursAwake_X9_isAwake : GoodIn wsX9_hoursAwake wsX9_isAwake := goodIn_r _ [5, 6, 7, 8, 9, 10, 11, 12, 13, 14, 15, 16, 17, 18] (by decide +kernel) (by decide +kernel)
set_option maxRecDepth 20000 in
theorem gX9_hoursAwake_X9_isAwake : GoodIn wsX9_hoursAwake (wsV RX9 52 RX9 yX9_isAwake wsX9_isAwake) := goodIn_app (goodIn_of _ (by decide +kernel)) ggX9_hoursAwake_X9_isAwake
theorem dX9_hoursAwake_0 : decode cX9_hoursAwake 0 = .ok (.iconst 0, 1) := by decide +kernel
theorem dX9_hoursAwake_1 : decode cX9_hoursAwake 1 = .ok (.istore_n 2, 1) := by decide +kernel
theorem dX9_hoursAwake_2 : decode cX9_hoursAwake 2 = .ok (.iconst 0, 1) := by decide +kernel
theorem dX9_hoursAwake_3 : decode cX9_hoursAwake 3 = .ok (.istore_n 3, 1) := by decide +kernel
theorem dX9_hoursAwake_4 : decode cX9_hoursAwake 4 = .ok (.iload_n 3, 1) := by decide +kernel
theorem dX9_hoursAwake_5 : decode cX9_hoursAwake 5 = .ok (.bipush 24, 2) := by decide +kernel
theorem dX9_hoursAwake_7 : decode cX9_hoursAwake 7 = .ok (.if_icmp .ge 24, 3) := by decide +kernel
theorem dX9_hoursAwake_10 : decode cX9_hoursAwake 10 = .ok (.aload_n 0, 1) := by decide +kernel
theorem dX9_hoursAwake_11 : decode cX9_hoursAwake 11 = .ok (.iload_n 1, 1) := by decide +kernel
theorem dX9_hoursAwake_12 : decode cX9_hoursAwake 12 = .ok (.iload_n 3, 1) := by decide +kernel
theorem dX9_hoursAwake_13 : decode cX9_hoursAwake 13 = .ok (.invokevirtual 52, 3) := by decide +kernel
theorem dX9_hoursAwake_16 : decode cX9_hoursAwake 16 = .ok (.ifCond .eq 9, 3) := by decide +kernel
theorem dX9_hoursAwake_19 : decode cX9_hoursAwake 19 = .ok (.iload_n 2, 1) := by decide +kernel
theorem dX9_hoursAwake_20 : decode cX9_hoursAwake 20 = .ok (.iconst 1, 1) := by decide +kernel
theorem dX9_hoursAwake_21 : decode cX9_hoursAwake 21 = .ok (.iload_n 3, 1) := by decide +kernel
theorem dX9_hoursAwake_22 : decode cX9_hoursAwake 22 = .ok (.ishl, 1) := by decide +kernel
theorem dX9_hoursAwake_23 : decode cX9_hoursAwake 23 = .ok (.ior, 1) := by decide +kernel
theorem dX9_hoursAwake_24 : decode cX9_hoursAwake 24 = .ok (.istore_n 2, 1) := by decide +kernel
theorem dX9_hoursAwake_25 : decode cX9_hoursAwake 25 = .ok (.iinc 3 1, 3) := by decide +kernel
theorem dX9_hoursAwake_28 : decode cX9_hoursAwake 28 = .ok (.goto (-24), 3) := by decide +kernel
theorem dX9_hoursAwake_31 : decode cX9_hoursAwake 31 = .ok (.iload_n 2, 1) := by decide +kernel
theorem dX9_hoursAwake_32 : decode cX9_hoursAwake 32 = .ok (.ireturn, 1) := by decide +kernel
set_option maxRecDepth 20000 in
theorem ggX9_awakeHouses_X9_isAwake : GoodIn wsX9_awakeHouses wsX9_isAwake := goodIn_r _ [6, 7, 8, 9, 10, 11, 12, 13, 14, 15, 16, 17, 18, 19] (by decide +kernel) (by decide +kernel)
set_option maxRecDepth 20000 in
theorem gX9_awakeHouses_X9_isAwake : GoodIn wsX9_awakeHouses (wsV RX9 52 RX9 yX9_isAwake wsX9_isAwake) := goodIn_app (goodIn_of _ (by decide +kernel)) ggX9_awakeHouses_X9_isAwake
theorem dX9_awakeHouses_0 : decode cX9_awakeHouses 0 = .ok (.iconst 0, 1) := by decide +kernel
theorem dX9_awakeHouses_1 : decode cX9_awakeHouses 1 = .ok (.istore_n 2, 1) := by decide +kernel
theorem dX9_awakeHouses_2 : decode cX9_awakeHouses 2 = .ok (.iconst 0, 1) := by decide +kernel
theorem dX9_awakeHouses_3 : decode cX9_awakeHouses 3 = .ok (.istore_n 3, 1) := by decide +kernel
theorem dX9_awakeHouses_4 : decode cX9_awakeHouses 4 = .ok (.iload_n 3, 1) := by decide +kernel
theorem dX9_awakeHouses_5 : decode cX9_awakeHouses 5 = .ok (.aload_n 0, 1) := by decide +kernel
theorem dX9_awakeHouses_6 : decode cX9_awakeHouses 6 = .ok (.getfield 30, 3) := by decide +kernel
theorem dX9_awakeHouses_9 : decode cX9_awakeHouses 9 = .ok (.if_icmp .ge 24, 3) := by decide +kernel
theorem dX9_awakeHouses_12 : decode cX9_awakeHouses 12 = .ok (.aload_n 0, 1) := by decide +kernel
theorem dX9_awakeHouses_13 : decode cX9_awakeHouses 13 = .ok (.iload_n 3, 1) := by decide +kernel
theorem dX9_awakeHouses_14 : decode cX9_awakeHouses 14 = .ok (.iload_n 1, 1) := by decide +kernel
theorem dX9_awakeHouses_15 : decode cX9_awakeHouses 15 = .ok (.invokevirtual 52, 3) := by decide +kernel
theorem dX9_awakeHouses_18 : decode cX9_awakeHouses 18 = .ok (.ifCond .eq 9, 3) := by decide +kernel
theorem dX9_awakeHouses_21 : decode cX9_awakeHouses 21 = .ok (.iload_n 2, 1) := by decide +kernel
theorem dX9_awakeHouses_22 : decode cX9_awakeHouses 22 = .ok (.iconst 1, 1) := by decide +kernel
theorem dX9_awakeHouses_23 : decode cX9_awakeHouses 23 = .ok (.iload_n 3, 1) := by decide +kernel
theorem dX9_awakeHouses_24 : decode cX9_awakeHouses 24 = .ok (.ishl, 1) := by decide +kernel
theorem dX9_awakeHouses_25 : decode cX9_awakeHouses 25 = .ok (.ior, 1) := by decide +kernel
theorem dX9_awakeHouses_26 : decode cX9_awakeHouses 26 = .ok (.istore_n 2, 1) := by decide +kernel
theorem dX9_awakeHouses_27 : decode cX9_awakeHouses 27 = .ok (.iinc 3 1, 3) := by decide +kernel
theorem dX9_awakeHouses_30 : decode cX9_awakeHouses 30 = .ok (.goto (-26), 3) := by decide +kernel
theorem dX9_awakeHouses_33 : decode cX9_awakeHouses 33 = .ok (.iload_n 2, 1) := by decide +kernel
theorem dX9_awakeHouses_34 : decode cX9_awakeHouses 34 = .ok (.ireturn, 1) := by decide +kernel
set_option maxRecDepth 20000 in
theorem ggX9_awakeLamps_X9_isAwake : GoodIn wsX9_awakeLamps wsX9_isAwake := goodIn_r _ [8, 9, 10, 11, 12, 13, 14, 15, 16, 17, 18, 19, 20, 21] (by decide +kernel) (by decide +kernel)
set_option maxRecDepth 20000 in
theorem gX9_awakeLamps_X9_isAwake : GoodIn wsX9_awakeLamps (wsV RX9 52 RX9 yX9_isAwake wsX9_isAwake) := goodIn_app (goodIn_of _ (by decide +kernel)) ggX9_awakeLamps_X9_isAwake
theorem dX9_awakeLamps_0 : decode cX9_awakeLamps 0 = .ok (.iconst 0, 1) := by decide +kernel
theorem dX9_awakeLamps_1 : decode cX9_awakeLamps 1 = .ok (.istore_n 1, 1) := by decide +kernel
theorem dX9_awakeLamps_2 : decode cX9_awakeLamps 2 = .ok (.iconst 0, 1) := by decide +kernel
theorem dX9_awakeLamps_3 : decode cX9_awakeLamps 3 = .ok (.istore_n 2, 1) := by decide +kernel
theorem dX9_awakeLamps_4 : decode cX9_awakeLamps 4 = .ok (.iload_n 2, 1) := by decide +kernel
theorem dX9_awakeLamps_5 : decode cX9_awakeLamps 5 = .ok (.aload_n 0, 1) := by decide +kernel
theorem dX9_awakeLamps_6 : decode cX9_awakeLamps 6 = .ok (.getfield 34, 3) := by decide +kernel
theorem dX9_awakeLamps_9 : decode cX9_awakeLamps 9 = .ok (.if_icmp .ge 35, 3) := by decide +kernel
theorem dX9_awakeLamps_12 : decode cX9_awakeLamps 12 = .ok (.aload_n 0, 1) := by decide +kernel
theorem dX9_awakeLamps_13 : decode cX9_awakeLamps 13 = .ok (.aload_n 0, 1) := by decide +kernel
theorem dX9_awakeLamps_14 : decode cX9_awakeLamps 14 = .ok (.getfield 21, 3) := by decide +kernel
theorem dX9_awakeLamps_17 : decode cX9_awakeLamps 17 = .ok (.iload_n 2, 1) := by decide +kernel
theorem dX9_awakeLamps_18 : decode cX9_awakeLamps 18 = .ok (.iaload, 1) := by decide +kernel
theorem dX9_awakeLamps_19 : decode cX9_awakeLamps 19 = .ok (.aload_n 0, 1) := by decide +kernel
theorem dX9_awakeLamps_20 : decode cX9_awakeLamps 20 = .ok (.getfield 37, 3) := by decide +kernel
theorem dX9_awakeLamps_23 : decode cX9_awakeLamps 23 = .ok (.bipush 24, 2) := by decide +kernel
theorem dX9_awakeLamps_25 : decode cX9_awakeLamps 25 = .ok (.irem, 1) := by decide +kernel
theorem dX9_awakeLamps_26 : decode cX9_awakeLamps 26 = .ok (.invokevirtual 52, 3) := by decide +kernel
theorem dX9_awakeLamps_29 : decode cX9_awakeLamps 29 = .ok (.ifCond .eq 9, 3) := by decide +kernel
theorem dX9_awakeLamps_32 : decode cX9_awakeLamps 32 = .ok (.iload_n 1, 1) := by decide +kernel
theorem dX9_awakeLamps_33 : decode cX9_awakeLamps 33 = .ok (.iconst 1, 1) := by decide +kernel
theorem dX9_awakeLamps_34 : decode cX9_awakeLamps 34 = .ok (.iload_n 2, 1) := by decide +kernel
theorem dX9_awakeLamps_35 : decode cX9_awakeLamps 35 = .ok (.ishl, 1) := by decide +kernel
theorem dX9_awakeLamps_36 : decode cX9_awakeLamps 36 = .ok (.ior, 1) := by decide +kernel
theorem dX9_awakeLamps_37 : decode cX9_awakeLamps 37 = .ok (.istore_n 1, 1) := by decide +kernel
theorem dX9_awakeLamps_38 : decode cX9_awakeLamps 38 = .ok (.iinc 2 1, 3) := by decide +kernel
theorem dX9_awakeLamps_41 : decode cX9_awakeLamps 41 = .ok (.goto (-37), 3) := by decide +kernel
theorem dX9_awakeLamps_44 : decode cX9_awakeLamps 44 = .ok (.iload_n 1, 1) := by decide +kernel
theorem dX9_awakeLamps_45 : decode cX9_awakeLamps 45 = .ok (.ireturn, 1) := by decide +kernel
theorem dX9_allLamps_0 : decode cX9_allLamps 0 = .ok (.iconst 1, 1) := by decide +kernel
theorem dX9_allLamps_1 : decode cX9_allLamps 1 = .ok (.aload_n 0, 1) := by decide +kernel
theorem dX9_allLamps_2 : decode cX9_allLamps 2 = .ok (.getfield 34, 3) := by decide +kernel
theorem dX9_allLamps_5 : decode cX9_allLamps 5 = .ok (.ishl, 1) := by decide +kernel
theorem dX9_allLamps_6 : decode cX9_allLamps 6 = .ok (.iconst 1, 1) := by decide +kernel
theorem dX9_allLamps_7 : decode cX9_allLamps 7 = .ok (.isub, 1) := by decide +kernel
theorem dX9_allLamps_8 : decode cX9_allLamps 8 = .ok (.ireturn, 1) := by decide +kernel
theorem dX9_lampsOf_0 : decode cX9_lampsOf 0 = .ok (.iconst 0, 1) := by decide +kernel
theorem dX9_lampsOf_1 : decode cX9_lampsOf 1 = .ok (.istore_n 2, 1) := by decide +kernel
theorem dX9_lampsOf_2 : decode cX9_lampsOf 2 = .ok (.iconst 0, 1) := by decide +kernel
theorem dX9_lampsOf_3 : decode cX9_lampsOf 3 = .ok (.istore_n 3, 1) := by decide +kernel
theorem dX9_lampsOf_4 : decode cX9_lampsOf 4 = .ok (.iload_n 3, 1) := by decide +kernel
theorem dX9_lampsOf_5 : decode cX9_lampsOf 5 = .ok (.aload_n 0, 1) := by decide +kernel
theorem dX9_lampsOf_6 : decode cX9_lampsOf 6 = .ok (.getfield 34, 3) := by decide +kernel
theorem dX9_lampsOf_9 : decode cX9_lampsOf 9 = .ok (.if_icmp .ge 25, 3) := by decide +kernel
theorem dX9_lampsOf_12 : decode cX9_lampsOf 12 = .ok (.aload_n 0, 1) := by decide +kernel
theorem dX9_lampsOf_13 : decode cX9_lampsOf 13 = .ok (.getfield 21, 3) := by decide +kernel
theorem dX9_lampsOf_16 : decode cX9_lampsOf 16 = .ok (.iload_n 3, 1) := by decide +kernel
theorem dX9_lampsOf_17 : decode cX9_lampsOf 17 = .ok (.iaload, 1) := by decide +kernel
theorem dX9_lampsOf_18 : decode cX9_lampsOf 18 = .ok (.iload_n 1, 1) := by decide +kernel
theorem dX9_lampsOf_19 : decode cX9_lampsOf 19 = .ok (.if_icmp .ne 9, 3) := by decide +kernel
theorem dX9_lampsOf_22 : decode cX9_lampsOf 22 = .ok (.iload_n 2, 1) := by decide +kernel
theorem dX9_lampsOf_23 : decode cX9_lampsOf 23 = .ok (.iconst 1, 1) := by decide +kernel
theorem dX9_lampsOf_24 : decode cX9_lampsOf 24 = .ok (.iload_n 3, 1) := by decide +kernel
theorem dX9_lampsOf_25 : decode cX9_lampsOf 25 = .ok (.ishl, 1) := by decide +kernel
theorem dX9_lampsOf_26 : decode cX9_lampsOf 26 = .ok (.ior, 1) := by decide +kernel
theorem dX9_lampsOf_27 : decode cX9_lampsOf 27 = .ok (.istore_n 2, 1) := by decide +kernel
theorem dX9_lampsOf_28 : decode cX9_lampsOf 28 = .ok (.iinc 3 1, 3) := by decide +kernel
theorem dX9_lampsOf_31 : decode cX9_lampsOf 31 = .ok (.goto (-27), 3) := by decide +kernel
theorem dX9_lampsOf_34 : decode cX9_lampsOf 34 = .ok (.iload_n 2, 1) := by decide +kernel
theorem dX9_lampsOf_35 : decode cX9_lampsOf 35 = .ok (.ireturn, 1) := by decide +kernel
theorem dX9_oilInAll_0 : decode cX9_oilInAll 0 = .ok (.iconst 0, 1) := by decide +kernel
theorem dX9_oilInAll_1 : decode cX9_oilInAll 1 = .ok (.istore_n 1, 1) := by decide +kernel
theorem dX9_oilInAll_2 : decode cX9_oilInAll 2 = .ok (.iconst 0, 1) := by decide +kernel
theorem dX9_oilInAll_3 : decode cX9_oilInAll 3 = .ok (.istore_n 2, 1) := by decide +kernel
theorem dX9_oilInAll_4 : decode cX9_oilInAll 4 = .ok (.iload_n 2, 1) := by decide +kernel
theorem dX9_oilInAll_5 : decode cX9_oilInAll 5 = .ok (.aload_n 0, 1) := by decide +kernel
theorem dX9_oilInAll_6 : decode cX9_oilInAll 6 = .ok (.getfield 34, 3) := by decide +kernel
theorem dX9_oilInAll_9 : decode cX9_oilInAll 9 = .ok (.if_icmp .ge 18, 3) := by decide +kernel
theorem dX9_oilInAll_12 : decode cX9_oilInAll 12 = .ok (.iload_n 1, 1) := by decide +kernel
theorem dX9_oilInAll_13 : decode cX9_oilInAll 13 = .ok (.aload_n 0, 1) := by decide +kernel
theorem dX9_oilInAll_14 : decode cX9_oilInAll 14 = .ok (.getfield 24, 3) := by decide +kernel
theorem dX9_oilInAll_17 : decode cX9_oilInAll 17 = .ok (.iload_n 2, 1) := by decide +kernel
theorem dX9_oilInAll_18 : decode cX9_oilInAll 18 = .ok (.iaload, 1) := by decide +kernel
theorem dX9_oilInAll_19 : decode cX9_oilInAll 19 = .ok (.iadd, 1) := by decide +kernel
theorem dX9_oilInAll_20 : decode cX9_oilInAll 20 = .ok (.istore_n 1, 1) := by decide +kernel
theorem dX9_oilInAll_21 : decode cX9_oilInAll 21 = .ok (.iinc 2 1, 3) := by decide +kernel
theorem dX9_oilInAll_24 : decode cX9_oilInAll 24 = .ok (.goto (-20), 3) := by decide +kernel
theorem dX9_oilInAll_27 : decode cX9_oilInAll 27 = .ok (.iload_n 1, 1) := by decide +kernel
theorem dX9_oilInAll_28 : decode cX9_oilInAll 28 = .ok (.ireturn, 1) := by decide +kernel
theorem dX9_singletons_0 : decode cX9_singletons 0 = .ok (.iconst 0, 1) := by decide +kernel
theorem dX9_singletons_1 : decode cX9_singletons 1 = .ok (.istore_n 1, 1) := by decide +kernel
theorem dX9_singletons_2 : decode cX9_singletons 2 = .ok (.iconst 0, 1) := by decide +kernel
theorem dX9_singletons_3 : decode cX9_singletons 3 = .ok (.istore_n 2, 1) := by decide +kernel
theorem dX9_singletons_4 : decode cX9_singletons 4 = .ok (.iload_n 2, 1) := by decide +kernel
theorem dX9_singletons_5 : decode cX9_singletons 5 = .ok (.aload_n 0, 1) := by decide +kernel
theorem dX9_singletons_6 : decode cX9_singletons 6 = .ok (.getfield 34, 3) := by decide +kernel
theorem dX9_singletons_9 : decode cX9_singletons 9 = .ok (.if_icmp .ge 25, 3) := by decide +kernel
theorem dX9_singletons_12 : decode cX9_singletons 12 = .ok (.aload_n 0, 1) := by decide +kernel
theorem dX9_singletons_13 : decode cX9_singletons 13 = .ok (.getfield 27, 3) := by decide +kernel
theorem dX9_singletons_16 : decode cX9_singletons 16 = .ok (.iload_n 2, 1) := by decide +kernel
theorem dX9_singletons_17 : decode cX9_singletons 17 = .ok (.iaload, 1) := by decide +kernel
theorem dX9_singletons_18 : decode cX9_singletons 18 = .ok (.iconst (-1), 1) := by decide +kernel
theorem dX9_singletons_19 : decode cX9_singletons 19 = .ok (.if_icmp .ne 9, 3) := by decide +kernel
theorem dX9_singletons_22 : decode cX9_singletons 22 = .ok (.iload_n 1, 1) := by decide +kernel
theorem dX9_singletons_23 : decode cX9_singletons 23 = .ok (.iconst 1, 1) := by decide +kernel
theorem dX9_singletons_24 : decode cX9_singletons 24 = .ok (.iload_n 2, 1) := by decide +kernel
theorem dX9_singletons_25 : decode cX9_singletons 25 = .ok (.ishl, 1) := by decide +kernel
theorem dX9_singletons_26 : decode cX9_singletons 26 = .ok (.ior, 1) := by decide +kernel
theorem dX9_singletons_27 : decode cX9_singletons 27 = .ok (.istore_n 1, 1) := by decide +kernel
theorem dX9_singletons_28 : decode cX9_singletons 28 = .ok (.iinc 2 1, 3) := by decide +kernel
theorem dX9_singletons_31 : decode cX9_singletons 31 = .ok (.goto (-27), 3) := by decide +kernel
theorem dX9_singletons_34 : decode cX9_singletons 34 = .ok (.iload_n 1, 1) := by decide +kernel
theorem dX9_singletons_35 : decode cX9_singletons 35 = .ok (.ireturn, 1) := by decide +kernel
theorem dX9_happyLamps_0 : decode cX9_happyLamps 0 = .ok (.iconst 0, 1) := by decide +kernel
theorem dX9_happyLamps_1 : decode cX9_happyLamps 1 = .ok (.istore_n 1, 1) := by decide +kernel
theorem dX9_happyLamps_2 : decode cX9_happyLamps 2 = .ok (.iconst 0, 1) := by decide +kernel
theorem dX9_happyLamps_3 : decode cX9_happyLamps 3 = .ok (.istore_n 2, 1) := by decide +kernel
theorem dX9_happyLamps_4 : decode cX9_happyLamps 4 = .ok (.iload_n 2, 1) := by decide +kernel
theorem dX9_happyLamps_5 : decode cX9_happyLamps 5 = .ok (.aload_n 0, 1) := by decide +kernel
theorem dX9_happyLamps_6 : decode cX9_happyLamps 6 = .ok (.getfield 34, 3) := by decide +kernel
theorem dX9_happyLamps_9 : decode cX9_happyLamps 9 = .ok (.if_icmp .ge 49, 3) := by decide +kernel
theorem dX9_happyLamps_12 : decode cX9_happyLamps 12 = .ok (.aload_n 0, 1) := by decide +kernel
theorem dX9_happyLamps_13 : decode cX9_happyLamps 13 = .ok (.getfield 27, 3) := by decide +kernel
theorem dX9_happyLamps_16 : decode cX9_happyLamps 16 = .ok (.iload_n 2, 1) := by decide +kernel
theorem dX9_happyLamps_17 : decode cX9_happyLamps 17 = .ok (.iaload, 1) := by decide +kernel
theorem dX9_happyLamps_18 : decode cX9_happyLamps 18 = .ok (.istore_n 3, 1) := by decide +kernel
theorem dX9_happyLamps_19 : decode cX9_happyLamps 19 = .ok (.iload_n 3, 1) := by decide +kernel
theorem dX9_happyLamps_20 : decode cX9_happyLamps 20 = .ok (.ifCond .lt 32, 3) := by decide +kernel
theorem dX9_happyLamps_23 : decode cX9_happyLamps 23 = .ok (.iload_n 3, 1) := by decide +kernel
theorem dX9_happyLamps_24 : decode cX9_happyLamps 24 = .ok (.aload_n 0, 1) := by decide +kernel
theorem dX9_happyLamps_25 : decode cX9_happyLamps 25 = .ok (.getfield 34, 3) := by decide +kernel
theorem dX9_happyLamps_28 : decode cX9_happyLamps 28 = .ok (.if_icmp .ge 24, 3) := by decide +kernel
theorem dX9_happyLamps_31 : decode cX9_happyLamps 31 = .ok (.aload_n 0, 1) := by decide +kernel
theorem dX9_happyLamps_32 : decode cX9_happyLamps 32 = .ok (.getfield 21, 3) := by decide +kernel
theorem dX9_happyLamps_35 : decode cX9_happyLamps 35 = .ok (.iload_n 3, 1) := by decide +kernel
theorem dX9_happyLamps_36 : decode cX9_happyLamps 36 = .ok (.iaload, 1) := by decide +kernel
theorem dX9_happyLamps_37 : decode cX9_happyLamps 37 = .ok (.aload_n 0, 1) := by decide +kernel
theorem dX9_happyLamps_38 : decode cX9_happyLamps 38 = .ok (.getfield 21, 3) := by decide +kernel
theorem dX9_happyLamps_41 : decode cX9_happyLamps 41 = .ok (.iload_n 2, 1) := by decide +kernel
theorem dX9_happyLamps_42 : decode cX9_happyLamps 42 = .ok (.iaload, 1) := by decide +kernel
theorem dX9_happyLamps_43 : decode cX9_happyLamps 43 = .ok (.if_icmp .ne 9, 3) := by decide +kernel
theorem dX9_happyLamps_46 : decode cX9_happyLamps 46 = .ok (.iload_n 1, 1) := by decide +kernel
theorem dX9_happyLamps_47 : decode cX9_happyLamps 47 = .ok (.iconst 1, 1) := by decide +kernel
theorem dX9_happyLamps_48 : decode cX9_happyLamps 48 = .ok (.iload_n 2, 1) := by decide +kernel
theorem dX9_happyLamps_49 : decode cX9_happyLamps 49 = .ok (.ishl, 1) := by decide +kernel
theorem dX9_happyLamps_50 : decode cX9_happyLamps 50 = .ok (.ior, 1) := by decide +kernel
theorem dX9_happyLamps_51 : decode cX9_happyLamps 51 = .ok (.istore_n 1, 1) := by decide +kernel
theorem dX9_happyLamps_52 : decode cX9_happyLamps 52 = .ok (.iinc 2 1, 3) := by decide +kernel
theorem dX9_happyLamps_55 : decode cX9_happyLamps 55 = .ok (.goto (-51), 3) := by decide +kernel
theorem dX9_happyLamps_58 : decode cX9_happyLamps 58 = .ok (.iload_n 1, 1) := by decide +kernel
theorem dX9_happyLamps_59 : decode cX9_happyLamps 59 = .ok (.ireturn, 1) := by decide +kernel
theorem dX9_couple_0 : decode cX9_couple 0 = .ok (.aload_n 0, 1) := by decide +kernel
theorem dX9_couple_1 : decode cX9_couple 1 = .ok (.getfield 27, 3) := by decide +kernel
theorem dX9_couple_4 : decode cX9_couple 4 = .ok (.iload_n 1, 1) := by decide +kernel
theorem dX9_couple_5 : decode cX9_couple 5 = .ok (.iaload, 1) := by decide +kernel
theorem dX9_couple_6 : decode cX9_couple 6 = .ok (.istore_n 2, 1) := by decide +kernel
theorem dX9_couple_7 : decode cX9_couple 7 = .ok (.iload_n 2, 1) := by decide +kernel
theorem dX9_couple_8 : decode cX9_couple 8 = .ok (.iconst (-1), 1) := by decide +kernel
theorem dX9_couple_9 : decode cX9_couple 9 = .ok (.if_icmp .ne 9, 3) := by decide +kernel
theorem dX9_couple_12 : decode cX9_couple 12 = .ok (.iconst 1, 1) := by decide +kernel
theorem dX9_couple_13 : decode cX9_couple 13 = .ok (.iload_n 1, 1) := by decide +kernel
theorem dX9_couple_14 : decode cX9_couple 14 = .ok (.ishl, 1) := by decide +kernel
theorem dX9_couple_15 : decode cX9_couple 15 = .ok (.goto 10, 3) := by decide +kernel
theorem dX9_couple_18 : decode cX9_couple 18 = .ok (.iconst 1, 1) := by decide +kernel
theorem dX9_couple_19 : decode cX9_couple 19 = .ok (.iload_n 1, 1) := by decide +kernel
theorem dX9_couple_20 : decode cX9_couple 20 = .ok (.ishl, 1) := by decide +kernel
theorem dX9_couple_21 : decode cX9_couple 21 = .ok (.iconst 1, 1) := by decide +kernel
theorem dX9_couple_22 : decode cX9_couple 22 = .ok (.iload_n 2, 1) := by decide +kernel
theorem dX9_couple_23 : decode cX9_couple 23 = .ok (.ishl, 1) := by decide +kernel
theorem dX9_couple_24 : decode cX9_couple 24 = .ok (.ior, 1) := by decide +kernel
theorem dX9_couple_25 : decode cX9_couple 25 = .ok (.ireturn, 1) := by decide +kernel
set_option maxRecDepth 20000 in
theorem ggX9_canBeLit_X9_couple : GoodIn wsX9_canBeLit wsX9_couple := goodIn_r _ [9, 1, 10, 11, 12, 13, 14, 15, 16, 17, 18, 19, 20] (by decide +kernel) (by decide +kernel)
set_option maxRecDepth 20000 in
theorem gX9_canBeLit_X9_couple : GoodIn wsX9_canBeLit (wsV RX9 56 RX9 yX9_couple wsX9_couple) := goodIn_app (goodIn_of _ (by decide +kernel)) ggX9_canBeLit_X9_couple
theorem dX9_canBeLit_0 : decode cX9_canBeLit 0 = .ok (.aload_n 0, 1) := by decide +kernel
theorem dX9_canBeLit_1 : decode cX9_canBeLit 1 = .ok (.getfield 27, 3) := by decide +kernel
theorem dX9_canBeLit_4 : decode cX9_canBeLit 4 = .ok (.iload_n 1, 1) := by decide +kernel
theorem dX9_canBeLit_5 : decode cX9_canBeLit 5 = .ok (.iaload, 1) := by decide +kernel
theorem dX9_canBeLit_6 : decode cX9_canBeLit 6 = .ok (.istore_n 2, 1) := by decide +kernel
theorem dX9_canBeLit_7 : decode cX9_canBeLit 7 = .ok (.iload_n 2, 1) := by decide +kernel
theorem dX9_canBeLit_8 : decode cX9_canBeLit 8 = .ok (.ifCond .lt 22, 3) := by decide +kernel
theorem dX9_canBeLit_11 : decode cX9_canBeLit 11 = .ok (.iload_n 2, 1) := by decide +kernel
theorem dX9_canBeLit_12 : decode cX9_canBeLit 12 = .ok (.aload_n 0, 1) := by decide +kernel
theorem dX9_canBeLit_13 : decode cX9_canBeLit 13 = .ok (.getfield 34, 3) := by decide +kernel
theorem dX9_canBeLit_16 : decode cX9_canBeLit 16 = .ok (.if_icmp .ge 14, 3) := by decide +kernel
theorem dX9_canBeLit_19 : decode cX9_canBeLit 19 = .ok (.aload_n 0, 1) := by decide +kernel
theorem dX9_canBeLit_20 : decode cX9_canBeLit 20 = .ok (.getfield 24, 3) := by decide +kernel
theorem dX9_canBeLit_23 : decode cX9_canBeLit 23 = .ok (.iload_n 2, 1) := by decide +kernel
theorem dX9_canBeLit_24 : decode cX9_canBeLit 24 = .ok (.iaload, 1) := by decide +kernel
theorem dX9_canBeLit_25 : decode cX9_canBeLit 25 = .ok (.ifCond .ne 5, 3) := by decide +kernel
theorem dX9_canBeLit_28 : decode cX9_canBeLit 28 = .ok (.iconst 0, 1) := by decide +kernel
theorem dX9_canBeLit_29 : decode cX9_canBeLit 29 = .ok (.ireturn, 1) := by decide +kernel
theorem dX9_canBeLit_30 : decode cX9_canBeLit 30 = .ok (.aload_n 0, 1) := by decide +kernel
theorem dX9_canBeLit_31 : decode cX9_canBeLit 31 = .ok (.getfield 24, 3) := by decide +kernel
theorem dX9_canBeLit_34 : decode cX9_canBeLit 34 = .ok (.iload_n 1, 1) := by decide +kernel
theorem dX9_canBeLit_35 : decode cX9_canBeLit 35 = .ok (.iaload, 1) := by decide +kernel
theorem dX9_canBeLit_36 : decode cX9_canBeLit 36 = .ok (.ifCond .le 20, 3) := by decide +kernel
theorem dX9_canBeLit_39 : decode cX9_canBeLit 39 = .ok (.aload_n 0, 1) := by decide +kernel
theorem dX9_canBeLit_40 : decode cX9_canBeLit 40 = .ok (.getfield 43, 3) := by decide +kernel
theorem dX9_canBeLit_43 : decode cX9_canBeLit 43 = .ok (.aload_n 0, 1) := by decide +kernel
theorem dX9_canBeLit_44 : decode cX9_canBeLit 44 = .ok (.iload_n 1, 1) := by decide +kernel
theorem dX9_canBeLit_45 : decode cX9_canBeLit 45 = .ok (.invokevirtual 56, 3) := by decide +kernel
theorem dX9_canBeLit_48 : decode cX9_canBeLit 48 = .ok (.iand, 1) := by decide +kernel
theorem dX9_canBeLit_49 : decode cX9_canBeLit 49 = .ok (.ifCond .ne 7, 3) := by decide +kernel
theorem dX9_canBeLit_52 : decode cX9_canBeLit 52 = .ok (.iconst 1, 1) := by decide +kernel
theorem dX9_canBeLit_53 : decode cX9_canBeLit 53 = .ok (.goto 4, 3) := by decide +kernel
theorem dX9_canBeLit_56 : decode cX9_canBeLit 56 = .ok (.iconst 0, 1) := by decide +kernel
theorem dX9_canBeLit_57 : decode cX9_canBeLit 57 = .ok (.ireturn, 1) := by decide +kernel
set_option maxRecDepth 20000 in
theorem ggX9_putOut_X9_couple : GoodIn wsX9_putOut wsX9_couple := goodIn_r _ [6, 7, 8, 9, 10, 11, 12, 13, 14, 15, 16, 17, 18] (by decide +kernel) (by decide +kernel)
set_option maxRecDepth 20000 in
theorem gX9_putOut_X9_couple : GoodIn wsX9_putOut (wsV RX9 56 RX9 yX9_couple wsX9_couple) := goodIn_app (goodIn_of _ (by decide +kernel)) ggX9_putOut_X9_couple
theorem dX9_putOut_0 : decode cX9_putOut 0 = .ok (.aload_n 0, 1) := by decide +kernel
theorem dX9_putOut_1 : decode cX9_putOut 1 = .ok (.dup, 1) := by decide +kernel
theorem dX9_putOut_2 : decode cX9_putOut 2 = .ok (.getfield 40, 3) := by decide +kernel
theorem dX9_putOut_5 : decode cX9_putOut 5 = .ok (.aload_n 0, 1) := by decide +kernel
theorem dX9_putOut_6 : decode cX9_putOut 6 = .ok (.iload_n 1, 1) := by decide +kernel
theorem dX9_putOut_7 : decode cX9_putOut 7 = .ok (.invokevirtual 56, 3) := by decide +kernel
theorem dX9_putOut_10 : decode cX9_putOut 10 = .ok (.iconst (-1), 1) := by decide +kernel
theorem dX9_putOut_11 : decode cX9_putOut 11 = .ok (.ixor, 1) := by decide +kernel
theorem dX9_putOut_12 : decode cX9_putOut 12 = .ok (.iand, 1) := by decide +kernel
theorem dX9_putOut_13 : decode cX9_putOut 13 = .ok (.putfield 40, 3) := by decide +kernel
theorem dX9_putOut_16 : decode cX9_putOut 16 = .ok (.return_, 1) := by decide +kernel
set_option maxRecDepth 20000 in
theorem ggX9_light_X9_couple : GoodIn wsX9_light wsX9_couple := goodIn_r _ [6, 7, 8, 9, 10, 11, 12, 13, 14, 15, 16, 17, 18] (by decide +kernel) (by decide +kernel)
set_option maxRecDepth 20000 in
theorem gX9_light_X9_couple : GoodIn wsX9_light (wsV RX9 56 RX9 yX9_couple wsX9_couple) := goodIn_app (goodIn_of _ (by decide +kernel)) ggX9_light_X9_couple
theorem dX9_light_0 : decode cX9_light 0 = .ok (.aload_n 0, 1) := by decide +kernel
theorem dX9_light_1 : decode cX9_light 1 = .ok (.dup, 1) := by decide +kernel
theorem dX9_light_2 : decode cX9_light 2 = .ok (.getfield 40, 3) := by decide +kernel
theorem dX9_light_5 : decode cX9_light 5 = .ok (.aload_n 0, 1) := by decide +kernel
theorem dX9_light_6 : decode cX9_light 6 = .ok (.iload_n 1, 1) := by decide +kernel
theorem dX9_light_7 : decode cX9_light 7 = .ok (.invokevirtual 56, 3) := by decide +kernel
theorem dX9_light_10 : decode cX9_light 10 = .ok (.ior, 1) := by decide +kernel
theorem dX9_light_11 : decode cX9_light 11 = .ok (.putfield 40, 3) := by decide +kernel
theorem dX9_light_14 : decode cX9_light 14 = .ok (.return_, 1) := by decide +kernel
set_option maxRecDepth 20000 in
theorem ggX9_flickByHand_X9_isLit : GoodIn wsX9_flickByHand wsX9_isLit := goodIn_r _ [5, 6, 27, 28, 29, 30, 31, 32, 33, 34, 35, 36, 37] (by decide +kernel) (by decide +kernel)
set_option maxRecDepth 20000 in
theorem gX9_flickByHand_X9_isLit : GoodIn wsX9_flickByHand (wsV RX9 60 RX9 yX9_isLit wsX9_isLit) := goodIn_app (goodIn_of _ (by decide +kernel)) ggX9_flickByHand_X9_isLit
set_option maxRecDepth 20000 in
theorem ggX9_flickByHand_X9_putOut : GoodIn wsX9_flickByHand wsX9_putOut := goodIn_r _ [10, 6, 11, 12, 13, 4, 14, 15, 27, 28, 29, 30, 31, 32, 33, 34, 35, 36, 37] (by decide +kernel) (by decide +kernel)
set_option maxRecDepth 20000 in
theorem gX9_flickByHand_X9_putOut : GoodIn wsX9_flickByHand (wsV RX9 64 RX9 yX9_putOut wsX9_putOut) := goodIn_app (goodIn_of _ (by decide +kernel)) ggX9_flickByHand_X9_putOut
set_option maxRecDepth 20000 in
theorem ggX9_flickByHand_X9_canBeLit : GoodIn wsX9_flickByHand wsX9_canBeLit := goodIn_r _ [19, 15, 20, 21, 22, 11, 12, 13, 4, 14, 27, 28, 29, 30, 31, 32, 33, 34, 35, 36, 37] (by decide +kernel) (by decide +kernel)
set_option maxRecDepth 20000 in
theorem gX9_flickByHand_X9_canBeLit : GoodIn wsX9_flickByHand (wsV RX9 68 RX9 yX9_canBeLit wsX9_canBeLit) := goodIn_app (goodIn_of _ (by decide +kernel)) ggX9_flickByHand_X9_canBeLit
set_option maxRecDepth 20000 in
theorem ggX9_flickByHand_X9_light : GoodIn wsX9_flickByHand wsX9_light := goodIn_r _ [26, 6, 11, 12, 13, 4, 14, 15, 27, 28, 29, 30, 31, 32, 33, 34, 35, 36, 37] (by decide +kernel) (by decide +kernel)
set_option maxRecDepth 20000 in
theorem gX9_flickByHand_X9_light : GoodIn wsX9_flickByHand (wsV RX9 71 RX9 yX9_light wsX9_light) := goodIn_app (goodIn_of _ (by decide +kernel)) ggX9_flickByHand_X9_light
theorem dX9_flickByHand_0 : decode cX9_flickByHand 0 = .ok (.aload_n 0, 1) := by decide +kernel
theorem dX9_flickByHand_1 : decode cX9_flickByHand 1 = .ok (.iload_n 1, 1) := by decide +kernel
theorem dX9_flickByHand_2 : decode cX9_flickByHand 2 = .ok (.invokevirtual 60, 3) := by decide +kernel
theorem dX9_flickByHand_5 : decode cX9_flickByHand 5 = .ok (.ifCond .eq 11, 3) := by decide +kernel
theorem dX9_flickByHand_8 : decode cX9_flickByHand 8 = .ok (.aload_n 0, 1) := by decide +kernel
theorem dX9_flickByHand_9 : decode cX9_flickByHand 9 = .ok (.iload_n 1, 1) := by decide +kernel
theorem dX9_flickByHand_10 : decode cX9_flickByHand 10 = .ok (.invokevirtual 64, 3) := by decide +kernel
theorem dX9_flickByHand_13 : decode cX9_flickByHand 13 = .ok (.goto 16, 3) := by decide +kernel
theorem dX9_flickByHand_16 : decode cX9_flickByHand 16 = .ok (.aload_n 0, 1) := by decide +kernel
theorem dX9_flickByHand_17 : decode cX9_flickByHand 17 = .ok (.iload_n 1, 1) := by decide +kernel
theorem dX9_flickByHand_18 : decode cX9_flickByHand 18 = .ok (.invokevirtual 68, 3) := by decide +kernel
theorem dX9_flickByHand_21 : decode cX9_flickByHand 21 = .ok (.ifCond .eq 8, 3) := by decide +kernel
theorem dX9_flickByHand_24 : decode cX9_flickByHand 24 = .ok (.aload_n 0, 1) := by decide +kernel
theorem dX9_flickByHand_25 : decode cX9_flickByHand 25 = .ok (.iload_n 1, 1) := by decide +kernel
theorem dX9_flickByHand_26 : decode cX9_flickByHand 26 = .ok (.invokevirtual 71, 3) := by decide +kernel
theorem dX9_flickByHand_29 : decode cX9_flickByHand 29 = .ok (.return_, 1) := by decide +kernel
set_option maxRecDepth 20000 in
theorem ggX9_shatter_X9_putOut : GoodIn wsX9_shatter wsX9_putOut := goodIn_r _ [6, 7, 8, 9, 10, 5, 11, 12, 13, 14, 15, 16, 17, 18, 19, 20, 21, 22, 23] (by decide +kernel) (by decide +kernel)
set_option maxRecDepth 20000 in
theorem gX9_shatter_X9_putOut : GoodIn wsX9_shatter (wsV RX9 64 RX9 yX9_putOut wsX9_putOut) := goodIn_app (goodIn_of _ (by decide +kernel)) ggX9_shatter_X9_putOut
theorem dX9_shatter_0 : decode cX9_shatter 0 = .ok (.aload_n 0, 1) := by decide +kernel
theorem dX9_shatter_1 : decode cX9_shatter 1 = .ok (.iload_n 1, 1) := by decide +kernel
theorem dX9_shatter_2 : decode cX9_shatter 2 = .ok (.invokevirtual 64, 3) := by decide +kernel
theorem dX9_shatter_5 : decode cX9_shatter 5 = .ok (.aload_n 0, 1) := by decide +kernel
theorem dX9_shatter_6 : decode cX9_shatter 6 = .ok (.dup, 1) := by decide +kernel
theorem dX9_shatter_7 : decode cX9_shatter 7 = .ok (.getfield 43, 3) := by decide +kernel
theorem dX9_shatter_10 : decode cX9_shatter 10 = .ok (.iconst 1, 1) := by decide +kernel
theorem dX9_shatter_11 : decode cX9_shatter 11 = .ok (.iload_n 1, 1) := by decide +kernel
theorem dX9_shatter_12 : decode cX9_shatter 12 = .ok (.ishl, 1) := by decide +kernel
theorem dX9_shatter_13 : decode cX9_shatter 13 = .ok (.ior, 1) := by decide +kernel
theorem dX9_shatter_14 : decode cX9_shatter 14 = .ok (.putfield 43, 3) := by decide +kernel
theorem dX9_shatter_17 : decode cX9_shatter 17 = .ok (.return_, 1) := by decide +kernel
set_option maxRecDepth 20000 in
theorem ggX9_soundTwins_X9_couple : GoodIn wsX9_soundTwins wsX9_couple := goodIn_r _ [8, 2, 9, 10, 11, 12, 13, 14, 15, 16, 17, 18, 19] (by decide +kernel) (by decide +kernel)
set_option maxRecDepth 20000 in
theorem gX9_soundTwins_X9_couple : GoodIn wsX9_soundTwins (wsV RX9 56 RX9 yX9_couple wsX9_couple) := goodIn_app (goodIn_of _ (by decide +kernel)) ggX9_soundTwins_X9_couple
theorem dX9_soundTwins_0 : decode cX9_soundTwins 0 = .ok (.iconst 0, 1) := by decide +kernel
theorem dX9_soundTwins_1 : decode cX9_soundTwins 1 = .ok (.istore_n 1, 1) := by decide +kernel
theorem dX9_soundTwins_2 : decode cX9_soundTwins 2 = .ok (.iconst 0, 1) := by decide +kernel
theorem dX9_soundTwins_3 : decode cX9_soundTwins 3 = .ok (.istore_n 2, 1) := by decide +kernel
theorem dX9_soundTwins_4 : decode cX9_soundTwins 4 = .ok (.iload_n 2, 1) := by decide +kernel
theorem dX9_soundTwins_5 : decode cX9_soundTwins 5 = .ok (.aload_n 0, 1) := by decide +kernel
theorem dX9_soundTwins_6 : decode cX9_soundTwins 6 = .ok (.getfield 34, 3) := by decide +kernel
theorem dX9_soundTwins_9 : decode cX9_soundTwins 9 = .ok (.if_icmp .ge 38, 3) := by decide +kernel
theorem dX9_soundTwins_12 : decode cX9_soundTwins 12 = .ok (.aload_n 0, 1) := by decide +kernel
theorem dX9_soundTwins_13 : decode cX9_soundTwins 13 = .ok (.getfield 27, 3) := by decide +kernel
theorem dX9_soundTwins_16 : decode cX9_soundTwins 16 = .ok (.iload_n 2, 1) := by decide +kernel
theorem dX9_soundTwins_17 : decode cX9_soundTwins 17 = .ok (.iaload, 1) := by decide +kernel
theorem dX9_soundTwins_18 : decode cX9_soundTwins 18 = .ok (.iconst (-1), 1) := by decide +kernel
theorem dX9_soundTwins_19 : decode cX9_soundTwins 19 = .ok (.if_icmp .eq 22, 3) := by decide +kernel
theorem dX9_soundTwins_22 : decode cX9_soundTwins 22 = .ok (.aload_n 0, 1) := by decide +kernel
theorem dX9_soundTwins_23 : decode cX9_soundTwins 23 = .ok (.getfield 43, 3) := by decide +kernel
theorem dX9_soundTwins_26 : decode cX9_soundTwins 26 = .ok (.aload_n 0, 1) := by decide +kernel
theorem dX9_soundTwins_27 : decode cX9_soundTwins 27 = .ok (.iload_n 2, 1) := by decide +kernel
theorem dX9_soundTwins_28 : decode cX9_soundTwins 28 = .ok (.invokevirtual 56, 3) := by decide +kernel
theorem dX9_soundTwins_31 : decode cX9_soundTwins 31 = .ok (.iand, 1) := by decide +kernel
theorem dX9_soundTwins_32 : decode cX9_soundTwins 32 = .ok (.ifCond .ne 9, 3) := by decide +kernel
theorem dX9_soundTwins_35 : decode cX9_soundTwins 35 = .ok (.iload_n 1, 1) := by decide +kernel
theorem dX9_soundTwins_36 : decode cX9_soundTwins 36 = .ok (.iconst 1, 1) := by decide +kernel
theorem dX9_soundTwins_37 : decode cX9_soundTwins 37 = .ok (.iload_n 2, 1) := by decide +kernel
theorem dX9_soundTwins_38 : decode cX9_soundTwins 38 = .ok (.ishl, 1) := by decide +kernel
theorem dX9_soundTwins_39 : decode cX9_soundTwins 39 = .ok (.ior, 1) := by decide +kernel
theorem dX9_soundTwins_40 : decode cX9_soundTwins 40 = .ok (.istore_n 1, 1) := by decide +kernel
theorem dX9_soundTwins_41 : decode cX9_soundTwins 41 = .ok (.iinc 2 1, 3) := by decide +kernel
theorem dX9_soundTwins_44 : decode cX9_soundTwins 44 = .ok (.goto (-40), 3) := by decide +kernel
theorem dX9_soundTwins_47 : decode cX9_soundTwins 47 = .ok (.iload_n 1, 1) := by decide +kernel
theorem dX9_soundTwins_48 : decode cX9_soundTwins 48 = .ok (.ireturn, 1) := by decide +kernel
set_option maxRecDepth 20000 in
theorem ggX9_hasSoundLamp_X9_couple : GoodIn wsX9_hasSoundLamp wsX9_couple := goodIn_r _ [8, 9, 10, 11, 12, 13, 14, 15, 16, 17, 18, 19, 20] (by decide +kernel) (by decide +kernel)
set_option maxRecDepth 20000 in
theorem gX9_hasSoundLamp_X9_couple : GoodIn wsX9_hasSoundLamp (wsV RX9 56 RX9 yX9_couple wsX9_couple) := goodIn_app (goodIn_of _ (by decide +kernel)) ggX9_hasSoundLamp_X9_couple
theorem dX9_hasSoundLamp_0 : decode cX9_hasSoundLamp 0 = .ok (.iconst 0, 1) := by decide +kernel
theorem dX9_hasSoundLamp_1 : decode cX9_hasSoundLamp 1 = .ok (.istore_n 2, 1) := by decide +kernel
theorem dX9_hasSoundLamp_2 : decode cX9_hasSoundLamp 2 = .ok (.iload_n 2, 1) := by decide +kernel
theorem dX9_hasSoundLamp_3 : decode cX9_hasSoundLamp 3 = .ok (.aload_n 0, 1) := by decide +kernel
theorem dX9_hasSoundLamp_4 : decode cX9_hasSoundLamp 4 = .ok (.getfield 34, 3) := by decide +kernel
theorem dX9_hasSoundLamp_7 : decode cX9_hasSoundLamp 7 = .ok (.if_icmp .ge 34, 3) := by decide +kernel
theorem dX9_hasSoundLamp_10 : decode cX9_hasSoundLamp 10 = .ok (.aload_n 0, 1) := by decide +kernel
theorem dX9_hasSoundLamp_11 : decode cX9_hasSoundLamp 11 = .ok (.getfield 21, 3) := by decide +kernel
theorem dX9_hasSoundLamp_14 : decode cX9_hasSoundLamp 14 = .ok (.iload_n 2, 1) := by decide +kernel
theorem dX9_hasSoundLamp_15 : decode cX9_hasSoundLamp 15 = .ok (.iaload, 1) := by decide +kernel
theorem dX9_hasSoundLamp_16 : decode cX9_hasSoundLamp 16 = .ok (.iload_n 1, 1) := by decide +kernel
theorem dX9_hasSoundLamp_17 : decode cX9_hasSoundLamp 17 = .ok (.if_icmp .ne 18, 3) := by decide +kernel
theorem dX9_hasSoundLamp_20 : decode cX9_hasSoundLamp 20 = .ok (.aload_n 0, 1) := by decide +kernel
theorem dX9_hasSoundLamp_21 : decode cX9_hasSoundLamp 21 = .ok (.getfield 43, 3) := by decide +kernel
theorem dX9_hasSoundLamp_24 : decode cX9_hasSoundLamp 24 = .ok (.aload_n 0, 1) := by decide +kernel
theorem dX9_hasSoundLamp_25 : decode cX9_hasSoundLamp 25 = .ok (.iload_n 2, 1) := by decide +kernel
theorem dX9_hasSoundLamp_26 : decode cX9_hasSoundLamp 26 = .ok (.invokevirtual 56, 3) := by decide +kernel
theorem dX9_hasSoundLamp_29 : decode cX9_hasSoundLamp 29 = .ok (.iand, 1) := by decide +kernel
theorem dX9_hasSoundLamp_30 : decode cX9_hasSoundLamp 30 = .ok (.ifCond .ne 5, 3) := by decide +kernel
theorem dX9_hasSoundLamp_33 : decode cX9_hasSoundLamp 33 = .ok (.iconst 1, 1) := by decide +kernel
theorem dX9_hasSoundLamp_34 : decode cX9_hasSoundLamp 34 = .ok (.ireturn, 1) := by decide +kernel
theorem dX9_hasSoundLamp_35 : decode cX9_hasSoundLamp 35 = .ok (.iinc 2 1, 3) := by decide +kernel
theorem dX9_hasSoundLamp_38 : decode cX9_hasSoundLamp 38 = .ok (.goto (-36), 3) := by decide +kernel
theorem dX9_hasSoundLamp_41 : decode cX9_hasSoundLamp 41 = .ok (.iconst 0, 1) := by decide +kernel
theorem dX9_hasSoundLamp_42 : decode cX9_hasSoundLamp 42 = .ok (.ireturn, 1) := by decide +kernel
theorem dX9_plungedBy_0 : decode cX9_plungedBy 0 = .ok (.iconst 0, 1) := by decide +kernel
theorem dX9_plungedBy_1 : decode cX9_plungedBy 1 = .ok (.istore_n 2, 1) := by decide +kernel
theorem dX9_plungedBy_2 : decode cX9_plungedBy 2 = .ok (.iconst 0, 1) := by decide +kernel
theorem dX9_plungedBy_3 : decode cX9_plungedBy 3 = .ok (.istore_n 3, 1) := by decide +kernel
theorem dX9_plungedBy_4 : decode cX9_plungedBy 4 = .ok (.iload_n 3, 1) := by decide +kernel
theorem dX9_plungedBy_5 : decode cX9_plungedBy 5 = .ok (.aload_n 0, 1) := by decide +kernel
theorem dX9_plungedBy_6 : decode cX9_plungedBy 6 = .ok (.getfield 34, 3) := by decide +kernel
theorem dX9_plungedBy_9 : decode cX9_plungedBy 9 = .ok (.if_icmp .ge 53, 3) := by decide +kernel
theorem dX9_plungedBy_12 : decode cX9_plungedBy 12 = .ok (.aload_n 0, 1) := by decide +kernel
theorem dX9_plungedBy_13 : decode cX9_plungedBy 13 = .ok (.getfield 27, 3) := by decide +kernel
theorem dX9_plungedBy_16 : decode cX9_plungedBy 16 = .ok (.iload_n 3, 1) := by decide +kernel
theorem dX9_plungedBy_17 : decode cX9_plungedBy 17 = .ok (.iaload, 1) := by decide +kernel
theorem dX9_plungedBy_18 : decode cX9_plungedBy 18 = .ok (.istore 4, 2) := by decide +kernel
theorem dX9_plungedBy_20 : decode cX9_plungedBy 20 = .ok (.aload_n 0, 1) := by decide +kernel
theorem dX9_plungedBy_21 : decode cX9_plungedBy 21 = .ok (.getfield 21, 3) := by decide +kernel
theorem dX9_plungedBy_24 : decode cX9_plungedBy 24 = .ok (.iload_n 3, 1) := by decide +kernel
theorem dX9_plungedBy_25 : decode cX9_plungedBy 25 = .ok (.iaload, 1) := by decide +kernel
theorem dX9_plungedBy_26 : decode cX9_plungedBy 26 = .ok (.iload_n 1, 1) := by decide +kernel
theorem dX9_plungedBy_27 : decode cX9_plungedBy 27 = .ok (.if_icmp .ne 29, 3) := by decide +kernel
theorem dX9_plungedBy_30 : decode cX9_plungedBy 30 = .ok (.iload 4, 2) := by decide +kernel
theorem dX9_plungedBy_32 : decode cX9_plungedBy 32 = .ok (.ifCond .lt 24, 3) := by decide +kernel
theorem dX9_plungedBy_35 : decode cX9_plungedBy 35 = .ok (.iload 4, 2) := by decide +kernel
theorem dX9_plungedBy_37 : decode cX9_plungedBy 37 = .ok (.aload_n 0, 1) := by decide +kernel
theorem dX9_plungedBy_38 : decode cX9_plungedBy 38 = .ok (.getfield 34, 3) := by decide +kernel
theorem dX9_plungedBy_41 : decode cX9_plungedBy 41 = .ok (.if_icmp .ge 15, 3) := by decide +kernel
theorem dX9_plungedBy_44 : decode cX9_plungedBy 44 = .ok (.iload_n 2, 1) := by decide +kernel
theorem dX9_plungedBy_45 : decode cX9_plungedBy 45 = .ok (.iconst 1, 1) := by decide +kernel
theorem dX9_plungedBy_46 : decode cX9_plungedBy 46 = .ok (.aload_n 0, 1) := by decide +kernel
theorem dX9_plungedBy_47 : decode cX9_plungedBy 47 = .ok (.getfield 21, 3) := by decide +kernel
theorem dX9_plungedBy_50 : decode cX9_plungedBy 50 = .ok (.iload 4, 2) := by decide +kernel
theorem dX9_plungedBy_52 : decode cX9_plungedBy 52 = .ok (.iaload, 1) := by decide +kernel
theorem dX9_plungedBy_53 : decode cX9_plungedBy 53 = .ok (.ishl, 1) := by decide +kernel
theorem dX9_plungedBy_54 : decode cX9_plungedBy 54 = .ok (.ior, 1) := by decide +kernel
theorem dX9_plungedBy_55 : decode cX9_plungedBy 55 = .ok (.istore_n 2, 1) := by decide +kernel
theorem dX9_plungedBy_56 : decode cX9_plungedBy 56 = .ok (.iinc 3 1, 3) := by decide +kernel
theorem dX9_plungedBy_59 : decode cX9_plungedBy 59 = .ok (.goto (-55), 3) := by decide +kernel
theorem dX9_plungedBy_62 : decode cX9_plungedBy 62 = .ok (.iload_n 2, 1) := by decide +kernel
theorem dX9_plungedBy_63 : decode cX9_plungedBy 63 = .ok (.ireturn, 1) := by decide +kernel
set_option maxRecDepth 20000 in
theorem ggX9_oneTwinFurther_X9_plungedBy : GoodIn wsX9_oneTwinFurther wsX9_plungedBy := goodIn_r _ [6, 7, 8, 9, 10, 11, 12, 13, 14, 15, 16, 17, 18, 19, 20] (by decide +kernel) (by decide +kernel)
set_option maxRecDepth 20000 in
theorem gX9_oneTwinFurther_X9_plungedBy : GoodIn wsX9_oneTwinFurther (wsV RX9 74 RX9 yX9_plungedBy wsX9_plungedBy) := goodIn_app (goodIn_of _ (by decide +kernel)) ggX9_oneTwinFurther_X9_plungedBy
theorem dX9_oneTwinFurther_0 : decode cX9_oneTwinFurther 0 = .ok (.iload_n 1, 1) := by decide +kernel
theorem dX9_oneTwinFurther_1 : decode cX9_oneTwinFurther 1 = .ok (.istore_n 2, 1) := by decide +kernel
theorem dX9_oneTwinFurther_2 : decode cX9_oneTwinFurther 2 = .ok (.iconst 0, 1) := by decide +kernel
theorem dX9_oneTwinFurther_3 : decode cX9_oneTwinFurther 3 = .ok (.istore_n 3, 1) := by decide +kernel
theorem dX9_oneTwinFurther_4 : decode cX9_oneTwinFurther 4 = .ok (.iload_n 3, 1) := by decide +kernel
theorem dX9_oneTwinFurther_5 : decode cX9_oneTwinFurther 5 = .ok (.aload_n 0, 1) := by decide +kernel
theorem dX9_oneTwinFurther_6 : decode cX9_oneTwinFurther 6 = .ok (.getfield 30, 3) := by decide +kernel
theorem dX9_oneTwinFurther_9 : decode cX9_oneTwinFurther 9 = .ok (.if_icmp .ge 26, 3) := by decide +kernel
theorem dX9_oneTwinFurther_12 : decode cX9_oneTwinFurther 12 = .ok (.iload_n 1, 1) := by decide +kernel
theorem dX9_oneTwinFurther_13 : decode cX9_oneTwinFurther 13 = .ok (.iload_n 3, 1) := by decide +kernel
theorem dX9_oneTwinFurther_14 : decode cX9_oneTwinFurther 14 = .ok (.ishr, 1) := by decide +kernel
theorem dX9_oneTwinFurther_15 : decode cX9_oneTwinFurther 15 = .ok (.iconst 1, 1) := by decide +kernel
theorem dX9_oneTwinFurther_16 : decode cX9_oneTwinFurther 16 = .ok (.iand, 1) := by decide +kernel
theorem dX9_oneTwinFurther_17 : decode cX9_oneTwinFurther 17 = .ok (.iconst 1, 1) := by decide +kernel
theorem dX9_oneTwinFurther_18 : decode cX9_oneTwinFurther 18 = .ok (.if_icmp .ne 11, 3) := by decide +kernel
theorem dX9_oneTwinFurther_21 : decode cX9_oneTwinFurther 21 = .ok (.iload_n 2, 1) := by decide +kernel
theorem dX9_oneTwinFurther_22 : decode cX9_oneTwinFurther 22 = .ok (.aload_n 0, 1) := by decide +kernel
theorem dX9_oneTwinFurther_23 : decode cX9_oneTwinFurther 23 = .ok (.iload_n 3, 1) := by decide +kernel
theorem dX9_oneTwinFurther_24 : decode cX9_oneTwinFurther 24 = .ok (.invokevirtual 74, 3) := by decide +kernel
theorem dX9_oneTwinFurther_27 : decode cX9_oneTwinFurther 27 = .ok (.ior, 1) := by decide +kernel
theorem dX9_oneTwinFurther_28 : decode cX9_oneTwinFurther 28 = .ok (.istore_n 2, 1) := by decide +kernel
theorem dX9_oneTwinFurther_29 : decode cX9_oneTwinFurther 29 = .ok (.iinc 3 1, 3) := by decide +kernel
theorem dX9_oneTwinFurther_32 : decode cX9_oneTwinFurther 32 = .ok (.goto (-28), 3) := by decide +kernel
theorem dX9_oneTwinFurther_35 : decode cX9_oneTwinFurther 35 = .ok (.iload_n 2, 1) := by decide +kernel
theorem dX9_oneTwinFurther_36 : decode cX9_oneTwinFurther 36 = .ok (.ireturn, 1) := by decide +kernel
set_option maxRecDepth 20000 in
theorem ggX9_fewestTwins_X9_oneTwinFurther : GoodIn wsX9_fewestTwins wsX9_oneTwinFurther := goodIn_r _ [5, 6, 7, 8, 9, 4, 10, 11, 12, 13, 14, 15, 16, 17, 18, 19, 20, 21, 22, 23, 24] (by decide +kernel) (by decide +kernel)
set_option maxRecDepth 20000 in
theorem gX9_fewestTwins_X9_oneTwinFurther : GoodIn wsX9_fewestTwins (wsV RX9 77 RX9 yX9_oneTwinFurther wsX9_oneTwinFurther) := goodIn_app (goodIn_of _ (by decide +kernel)) ggX9_fewestTwins_X9_oneTwinFurther
theorem dX9_fewestTwins_0 : decode cX9_fewestTwins 0 = .ok (.iconst 1, 1) := by decide +kernel
theorem dX9_fewestTwins_1 : decode cX9_fewestTwins 1 = .ok (.iload_n 1, 1) := by decide +kernel
theorem dX9_fewestTwins_2 : decode cX9_fewestTwins 2 = .ok (.ishl, 1) := by decide +kernel
theorem dX9_fewestTwins_3 : decode cX9_fewestTwins 3 = .ok (.istore_n 3, 1) := by decide +kernel
theorem dX9_fewestTwins_4 : decode cX9_fewestTwins 4 = .ok (.iconst 0, 1) := by decide +kernel
theorem dX9_fewestTwins_5 : decode cX9_fewestTwins 5 = .ok (.istore 4, 2) := by decide +kernel
theorem dX9_fewestTwins_7 : decode cX9_fewestTwins 7 = .ok (.iload 4, 2) := by decide +kernel
theorem dX9_fewestTwins_9 : decode cX9_fewestTwins 9 = .ok (.bipush 8, 2) := by decide +kernel
theorem dX9_fewestTwins_11 : decode cX9_fewestTwins 11 = .ok (.if_icmp .ge 27, 3) := by decide +kernel
theorem dX9_fewestTwins_14 : decode cX9_fewestTwins 14 = .ok (.iload_n 3, 1) := by decide +kernel
theorem dX9_fewestTwins_15 : decode cX9_fewestTwins 15 = .ok (.iload_n 2, 1) := by decide +kernel
theorem dX9_fewestTwins_16 : decode cX9_fewestTwins 16 = .ok (.ishr, 1) := by decide +kernel
theorem dX9_fewestTwins_17 : decode cX9_fewestTwins 17 = .ok (.iconst 1, 1) := by decide +kernel
theorem dX9_fewestTwins_18 : decode cX9_fewestTwins 18 = .ok (.iand, 1) := by decide +kernel
theorem dX9_fewestTwins_19 : decode cX9_fewestTwins 19 = .ok (.iconst 1, 1) := by decide +kernel
theorem dX9_fewestTwins_20 : decode cX9_fewestTwins 20 = .ok (.if_icmp .ne 6, 3) := by decide +kernel
theorem dX9_fewestTwins_23 : decode cX9_fewestTwins 23 = .ok (.iload 4, 2) := by decide +kernel
theorem dX9_fewestTwins_25 : decode cX9_fewestTwins 25 = .ok (.ireturn, 1) := by decide +kernel
theorem dX9_fewestTwins_26 : decode cX9_fewestTwins 26 = .ok (.aload_n 0, 1) := by decide +kernel
theorem dX9_fewestTwins_27 : decode cX9_fewestTwins 27 = .ok (.iload_n 3, 1) := by decide +kernel
theorem dX9_fewestTwins_28 : decode cX9_fewestTwins 28 = .ok (.invokevirtual 77, 3) := by decide +kernel
theorem dX9_fewestTwins_31 : decode cX9_fewestTwins 31 = .ok (.istore_n 3, 1) := by decide +kernel
theorem dX9_fewestTwins_32 : decode cX9_fewestTwins 32 = .ok (.iinc 4 1, 3) := by decide +kernel
theorem dX9_fewestTwins_35 : decode cX9_fewestTwins 35 = .ok (.goto (-28), 3) := by decide +kernel
theorem dX9_fewestTwins_38 : decode cX9_fewestTwins 38 = .ok (.iconst (-1), 1) := by decide +kernel
theorem dX9_fewestTwins_39 : decode cX9_fewestTwins 39 = .ok (.ireturn, 1) := by decide +kernel
set_option maxRecDepth 20000 in
theorem ggX9_groups_X9_groupOf : GoodIn wsX9_groups wsX9_groupOf := goodIn_r _ [6, 7, 8, 9, 5, 10, 1, 11, 12, 13, 14, 15, 16, 17, 18, 19, 20, 21, 22, 23, 24, 25, 26, 27, 28] (by decide +kernel) (by decide +kernel)
set_option maxRecDepth 20000 in
theorem gX9_groups_X9_groupOf : GoodIn wsX9_groups (wsV RX9 80 RX9 yX9_groupOf wsX9_groupOf) := goodIn_app (goodIn_of _ (by decide +kernel)) ggX9_groups_X9_groupOf
theorem dX9_groups_0 : decode cX9_groups 0 = .ok (.iconst 0, 1) := by decide +kernel
theorem dX9_groups_1 : decode cX9_groups 1 = .ok (.istore_n 1, 1) := by decide +kernel
theorem dX9_groups_2 : decode cX9_groups 2 = .ok (.iconst 0, 1) := by decide +kernel
theorem dX9_groups_3 : decode cX9_groups 3 = .ok (.istore_n 2, 1) := by decide +kernel
theorem dX9_groups_4 : decode cX9_groups 4 = .ok (.iconst 0, 1) := by decide +kernel
theorem dX9_groups_5 : decode cX9_groups 5 = .ok (.istore_n 3, 1) := by decide +kernel
theorem dX9_groups_6 : decode cX9_groups 6 = .ok (.iload_n 3, 1) := by decide +kernel
theorem dX9_groups_7 : decode cX9_groups 7 = .ok (.aload_n 0, 1) := by decide +kernel
theorem dX9_groups_8 : decode cX9_groups 8 = .ok (.getfield 30, 3) := by decide +kernel
theorem dX9_groups_11 : decode cX9_groups 11 = .ok (.if_icmp .ge 28, 3) := by decide +kernel
theorem dX9_groups_14 : decode cX9_groups 14 = .ok (.iload_n 2, 1) := by decide +kernel
theorem dX9_groups_15 : decode cX9_groups 15 = .ok (.iload_n 3, 1) := by decide +kernel
theorem dX9_groups_16 : decode cX9_groups 16 = .ok (.ishr, 1) := by decide +kernel
theorem dX9_groups_17 : decode cX9_groups 17 = .ok (.iconst 1, 1) := by decide +kernel
theorem dX9_groups_18 : decode cX9_groups 18 = .ok (.iand, 1) := by decide +kernel
theorem dX9_groups_19 : decode cX9_groups 19 = .ok (.ifCond .ne 14, 3) := by decide +kernel
theorem dX9_groups_22 : decode cX9_groups 22 = .ok (.iinc 1 1, 3) := by decide +kernel
theorem dX9_groups_25 : decode cX9_groups 25 = .ok (.iload_n 2, 1) := by decide +kernel
theorem dX9_groups_26 : decode cX9_groups 26 = .ok (.aload_n 0, 1) := by decide +kernel
theorem dX9_groups_27 : decode cX9_groups 27 = .ok (.iload_n 3, 1) := by decide +kernel
theorem dX9_groups_28 : decode cX9_groups 28 = .ok (.invokevirtual 80, 3) := by decide +kernel
theorem dX9_groups_31 : decode cX9_groups 31 = .ok (.ior, 1) := by decide +kernel
theorem dX9_groups_32 : decode cX9_groups 32 = .ok (.istore_n 2, 1) := by decide +kernel
theorem dX9_groups_33 : decode cX9_groups 33 = .ok (.iinc 3 1, 3) := by decide +kernel
theorem dX9_groups_36 : decode cX9_groups 36 = .ok (.goto (-30), 3) := by decide +kernel
theorem dX9_groups_39 : decode cX9_groups 39 = .ok (.iload_n 1, 1) := by decide +kernel
theorem dX9_groups_40 : decode cX9_groups 40 = .ok (.ireturn, 1) := by decide +kernel
set_option maxRecDepth 20000 in
theorem ggX9_groupOf_X9_oneTwinFurther : GoodIn wsX9_groupOf wsX9_oneTwinFurther := goodIn_r _ [5, 6, 7, 8, 9, 4, 10, 11, 12, 13, 14, 15, 16, 17, 18, 19, 20, 21, 22, 23, 24] (by decide +kernel) (by decide +kernel)
set_option maxRecDepth 20000 in
theorem gX9_groupOf_X9_oneTwinFurther : GoodIn wsX9_groupOf (wsV RX9 77 RX9 yX9_oneTwinFurther wsX9_oneTwinFurther) := goodIn_app (goodIn_of _ (by decide +kernel)) ggX9_groupOf_X9_oneTwinFurther
theorem dX9_groupOf_0 : decode cX9_groupOf 0 = .ok (.iconst 1, 1) := by decide +kernel
theorem dX9_groupOf_1 : decode cX9_groupOf 1 = .ok (.iload_n 1, 1) := by decide +kernel
theorem dX9_groupOf_2 : decode cX9_groupOf 2 = .ok (.ishl, 1) := by decide +kernel
theorem dX9_groupOf_3 : decode cX9_groupOf 3 = .ok (.istore_n 2, 1) := by decide +kernel
theorem dX9_groupOf_4 : decode cX9_groupOf 4 = .ok (.iconst 0, 1) := by decide +kernel
theorem dX9_groupOf_5 : decode cX9_groupOf 5 = .ok (.istore_n 3, 1) := by decide +kernel
theorem dX9_groupOf_6 : decode cX9_groupOf 6 = .ok (.iload_n 3, 1) := by decide +kernel
theorem dX9_groupOf_7 : decode cX9_groupOf 7 = .ok (.bipush 8, 2) := by decide +kernel
theorem dX9_groupOf_9 : decode cX9_groupOf 9 = .ok (.if_icmp .ge 15, 3) := by decide +kernel
theorem dX9_groupOf_12 : decode cX9_groupOf 12 = .ok (.aload_n 0, 1) := by decide +kernel
theorem dX9_groupOf_13 : decode cX9_groupOf 13 = .ok (.iload_n 2, 1) := by decide +kernel
theorem dX9_groupOf_14 : decode cX9_groupOf 14 = .ok (.invokevirtual 77, 3) := by decide +kernel
theorem dX9_groupOf_17 : decode cX9_groupOf 17 = .ok (.istore_n 2, 1) := by decide +kernel
theorem dX9_groupOf_18 : decode cX9_groupOf 18 = .ok (.iinc 3 1, 3) := by decide +kernel
theorem dX9_groupOf_21 : decode cX9_groupOf 21 = .ok (.goto (-15), 3) := by decide +kernel
theorem dX9_groupOf_24 : decode cX9_groupOf 24 = .ok (.iload_n 2, 1) := by decide +kernel
theorem dX9_groupOf_25 : decode cX9_groupOf 25 = .ok (.ireturn, 1) := by decide +kernel
theorem dX9_canChangeTwins_0 : decode cX9_canChangeTwins 0 = .ok (.iload_n 2, 1) := by decide +kernel
theorem dX9_canChangeTwins_1 : decode cX9_canChangeTwins 1 = .ok (.iload_n 1, 1) := by decide +kernel
theorem dX9_canChangeTwins_2 : decode cX9_canChangeTwins 2 = .ok (.if_icmp .eq 37, 3) := by decide +kernel
theorem dX9_canChangeTwins_5 : decode cX9_canChangeTwins 5 = .ok (.iload_n 2, 1) := by decide +kernel
theorem dX9_canChangeTwins_6 : decode cX9_canChangeTwins 6 = .ok (.aload_n 0, 1) := by decide +kernel
theorem dX9_canChangeTwins_7 : decode cX9_canChangeTwins 7 = .ok (.getfield 27, 3) := by decide +kernel
theorem dX9_canChangeTwins_10 : decode cX9_canChangeTwins 10 = .ok (.iload_n 1, 1) := by decide +kernel
theorem dX9_canChangeTwins_11 : decode cX9_canChangeTwins 11 = .ok (.iaload, 1) := by decide +kernel
theorem dX9_canChangeTwins_12 : decode cX9_canChangeTwins 12 = .ok (.if_icmp .eq 27, 3) := by decide +kernel
theorem dX9_canChangeTwins_15 : decode cX9_canChangeTwins 15 = .ok (.aload_n 0, 1) := by decide +kernel
theorem dX9_canChangeTwins_16 : decode cX9_canChangeTwins 16 = .ok (.getfield 27, 3) := by decide +kernel
theorem dX9_canChangeTwins_19 : decode cX9_canChangeTwins 19 = .ok (.iload_n 1, 1) := by decide +kernel
theorem dX9_canChangeTwins_20 : decode cX9_canChangeTwins 20 = .ok (.iaload, 1) := by decide +kernel
theorem dX9_canChangeTwins_21 : decode cX9_canChangeTwins 21 = .ok (.iconst (-1), 1) := by decide +kernel
theorem dX9_canChangeTwins_22 : decode cX9_canChangeTwins 22 = .ok (.if_icmp .eq 17, 3) := by decide +kernel
theorem dX9_canChangeTwins_25 : decode cX9_canChangeTwins 25 = .ok (.aload_n 0, 1) := by decide +kernel
theorem dX9_canChangeTwins_26 : decode cX9_canChangeTwins 26 = .ok (.getfield 27, 3) := by decide +kernel
theorem dX9_canChangeTwins_29 : decode cX9_canChangeTwins 29 = .ok (.iload_n 2, 1) := by decide +kernel
theorem dX9_canChangeTwins_30 : decode cX9_canChangeTwins 30 = .ok (.iaload, 1) := by decide +kernel
theorem dX9_canChangeTwins_31 : decode cX9_canChangeTwins 31 = .ok (.iconst (-1), 1) := by decide +kernel
theorem dX9_canChangeTwins_32 : decode cX9_canChangeTwins 32 = .ok (.if_icmp .eq 7, 3) := by decide +kernel
theorem dX9_canChangeTwins_35 : decode cX9_canChangeTwins 35 = .ok (.iconst 1, 1) := by decide +kernel
theorem dX9_canChangeTwins_36 : decode cX9_canChangeTwins 36 = .ok (.goto 4, 3) := by decide +kernel
theorem dX9_canChangeTwins_39 : decode cX9_canChangeTwins 39 = .ok (.iconst 0, 1) := by decide +kernel
theorem dX9_canChangeTwins_40 : decode cX9_canChangeTwins 40 = .ok (.ireturn, 1) := by decide +kernel
theorem dX9_changeTwins_0 : decode cX9_changeTwins 0 = .ok (.aload_n 0, 1) := by decide +kernel
theorem dX9_changeTwins_1 : decode cX9_changeTwins 1 = .ok (.getfield 27, 3) := by decide +kernel
theorem dX9_changeTwins_4 : decode cX9_changeTwins 4 = .ok (.iload_n 1, 1) := by decide +kernel
theorem dX9_changeTwins_5 : decode cX9_changeTwins 5 = .ok (.iaload, 1) := by decide +kernel
theorem dX9_changeTwins_6 : decode cX9_changeTwins 6 = .ok (.istore_n 3, 1) := by decide +kernel
theorem dX9_changeTwins_7 : decode cX9_changeTwins 7 = .ok (.aload_n 0, 1) := by decide +kernel
theorem dX9_changeTwins_8 : decode cX9_changeTwins 8 = .ok (.getfield 27, 3) := by decide +kernel
theorem dX9_changeTwins_11 : decode cX9_changeTwins 11 = .ok (.iload_n 2, 1) := by decide +kernel
theorem dX9_changeTwins_12 : decode cX9_changeTwins 12 = .ok (.iaload, 1) := by decide +kernel
theorem dX9_changeTwins_13 : decode cX9_changeTwins 13 = .ok (.istore 4, 2) := by decide +kernel
theorem dX9_changeTwins_15 : decode cX9_changeTwins 15 = .ok (.iload_n 3, 1) := by decide +kernel
theorem dX9_changeTwins_16 : decode cX9_changeTwins 16 = .ok (.ifCond .lt 25, 3) := by decide +kernel
theorem dX9_changeTwins_19 : decode cX9_changeTwins 19 = .ok (.iload_n 3, 1) := by decide +kernel
theorem dX9_changeTwins_20 : decode cX9_changeTwins 20 = .ok (.aload_n 0, 1) := by decide +kernel
theorem dX9_changeTwins_21 : decode cX9_changeTwins 21 = .ok (.getfield 34, 3) := by decide +kernel
theorem dX9_changeTwins_24 : decode cX9_changeTwins 24 = .ok (.if_icmp .ge 17, 3) := by decide +kernel
theorem dX9_changeTwins_27 : decode cX9_changeTwins 27 = .ok (.iload 4, 2) := by decide +kernel
theorem dX9_changeTwins_29 : decode cX9_changeTwins 29 = .ok (.ifCond .lt 12, 3) := by decide +kernel
theorem dX9_changeTwins_32 : decode cX9_changeTwins 32 = .ok (.iload 4, 2) := by decide +kernel
theorem dX9_changeTwins_34 : decode cX9_changeTwins 34 = .ok (.aload_n 0, 1) := by decide +kernel
theorem dX9_changeTwins_35 : decode cX9_changeTwins 35 = .ok (.getfield 34, 3) := by decide +kernel
theorem dX9_changeTwins_38 : decode cX9_changeTwins 38 = .ok (.if_icmp .lt 4, 3) := by decide +kernel
theorem dX9_changeTwins_41 : decode cX9_changeTwins 41 = .ok (.return_, 1) := by decide +kernel
theorem dX9_changeTwins_42 : decode cX9_changeTwins 42 = .ok (.aload_n 0, 1) := by decide +kernel
theorem dX9_changeTwins_43 : decode cX9_changeTwins 43 = .ok (.getfield 27, 3) := by decide +kernel
theorem dX9_changeTwins_46 : decode cX9_changeTwins 46 = .ok (.iload_n 1, 1) := by decide +kernel
theorem dX9_changeTwins_47 : decode cX9_changeTwins 47 = .ok (.iload 4, 2) := by decide +kernel
theorem dX9_changeTwins_49 : decode cX9_changeTwins 49 = .ok (.iastore, 1) := by decide +kernel
theorem dX9_changeTwins_50 : decode cX9_changeTwins 50 = .ok (.aload_n 0, 1) := by decide +kernel
theorem dX9_changeTwins_51 : decode cX9_changeTwins 51 = .ok (.getfield 27, 3) := by decide +kernel
theorem dX9_changeTwins_54 : decode cX9_changeTwins 54 = .ok (.iload 4, 2) := by decide +kernel
theorem dX9_changeTwins_56 : decode cX9_changeTwins 56 = .ok (.iload_n 1, 1) := by decide +kernel
theorem dX9_changeTwins_57 : decode cX9_changeTwins 57 = .ok (.iastore, 1) := by decide +kernel
theorem dX9_changeTwins_58 : decode cX9_changeTwins 58 = .ok (.aload_n 0, 1) := by decide +kernel
theorem dX9_changeTwins_59 : decode cX9_changeTwins 59 = .ok (.getfield 27, 3) := by decide +kernel
theorem dX9_changeTwins_62 : decode cX9_changeTwins 62 = .ok (.iload_n 2, 1) := by decide +kernel
theorem dX9_changeTwins_63 : decode cX9_changeTwins 63 = .ok (.iload_n 3, 1) := by decide +kernel
theorem dX9_changeTwins_64 : decode cX9_changeTwins 64 = .ok (.iastore, 1) := by decide +kernel
theorem dX9_changeTwins_65 : decode cX9_changeTwins 65 = .ok (.aload_n 0, 1) := by decide +kernel
theorem dX9_changeTwins_66 : decode cX9_changeTwins 66 = .ok (.getfield 27, 3) := by decide +kernel
theorem dX9_changeTwins_69 : decode cX9_changeTwins 69 = .ok (.iload_n 3, 1) := by decide +kernel
theorem dX9_changeTwins_70 : decode cX9_changeTwins 70 = .ok (.iload_n 2, 1) := by decide +kernel
theorem dX9_changeTwins_71 : decode cX9_changeTwins 71 = .ok (.iastore, 1) := by decide +kernel
theorem dX9_changeTwins_72 : decode cX9_changeTwins 72 = .ok (.return_, 1) := by decide +kernel
set_option maxRecDepth 20000 in
theorem ggX10_init_X6_init : GoodIn wsX10_init wsX6_init := goodIn_r _ [51, 52, 2, 3, 53, 13, 14, 54, 55, 9, 10, 56, 57, 58, 59, 60, 61, 62, 24, 63, 64, 65, 66, 67, 68, 69, 70, 71, 72, 73, 74, 144, 145, 146, 147, 148, 149, 150, 151, 152, 153, 154, 114, 115, 116, 117, 118, 119, 120, 121, 122, 123, 124, 125, 140, 141, 142, 143] (by decide +kernel) (by decide +kernel)
set_option maxRecDepth 20000 in
theorem gX10_init_X6_init_n9 : GoodIn wsX10_init (wsX6_init) := ggX10_init_X6_init
set_option maxRecDepth 20000 in
theorem ggX10_init_X7_init : GoodIn wsX10_init wsX7_init := goodIn_r _ [70, 71, 2, 3, 24, 72, 73, 74, 140, 141, 142, 143] (by decide +kernel) (by decide +kernel)
set_option maxRecDepth 20000 in
theorem gX10_init_X7_init_n18 : GoodIn wsX10_init (wsX7_init) := ggX10_init_X7_init
set_option maxRecDepth 20000 in
theorem ggX10_init_X9_init : GoodIn wsX10_init wsX9_init := goodIn_r _ [61, 62, 2, 3, 24, 63, 64, 65, 66, 67, 68, 144, 145, 146, 147, 148, 149, 150, 151, 152, 153, 154] (by decide +kernel) (by decide +kernel)
set_option maxRecDepth 20000 in
theorem gX10_init_X9_init_n25 : GoodIn wsX10_init (wsX9_init) := ggX10_init_X9_init
set_option maxRecDepth 20000 in
theorem ggX10_init_X3_init : GoodIn wsX10_init wsX3_init := goodIn_r _ [77, 78, 2, 3, 79, 80, 13, 14, 60, 61, 62, 24, 63, 64, 65, 66, 67, 68, 155, 156, 144, 145, 146, 147, 148, 149, 150, 151, 152, 153, 154] (by decide +kernel) (by decide +kernel)
set_option maxRecDepth 20000 in
theorem gX10_init_X3_init : GoodIn wsX10_init (wsX3_init) := ggX10_init_X3_init
set_option maxRecDepth 20000 in
theorem ggX10_init_X8_init : GoodIn wsX10_init wsX8_init := goodIn_r _ [82, 83, 2, 3, 24, 84, 85, 157, 158, 159, 160] (by decide +kernel) (by decide +kernel)
set_option maxRecDepth 20000 in
theorem gX10_init_X8_init_n39 : GoodIn wsX10_init (wsX8_init) := ggX10_init_X8_init
set_option maxRecDepth 20000 in
theorem ggX10_init_X5_init : GoodIn wsX10_init wsX5_init := goodIn_r _ [87, 88, 2, 3, 89, 13, 14, 90, 91, 17, 18, 92, 93, 21, 22, 94, 24, 95, 60, 61, 62, 63, 64, 65, 66, 67, 68, 96, 76, 77, 78, 79, 80, 81, 82, 83, 84, 85, 144, 145, 146, 147, 148, 149, 150, 151, 152, 153, 154, 161, 162, 163, 164, 165, 155, 156, 157, 158, 159, 160] (by decide +kernel) (by decide +kernel)
set_option maxRecDepth 20000 in
theorem gX10_init_X5_init_n50 : GoodIn wsX10_init (wsX5_init) := ggX10_init_X5_init
set_option maxRecDepth 20000 in
theorem ggX10_init_X2_init : GoodIn wsX10_init wsX2_init := goodIn_r _ [98, 99, 2, 3] (by decide +kernel) (by decide +kernel)
set_option maxRecDepth 20000 in
theorem gX10_init_X2_init_n61 : GoodIn wsX10_init (wsX2_init) := ggX10_init_X2_init
set_option maxRecDepth 20000 in
theorem ggX10_init_X4_init : GoodIn wsX10_init wsX4_init := goodIn_r _ [101, 102, 2, 3, 24, 103, 104, 105, 106, 107, 171, 172, 173, 174] (by decide +kernel) (by decide +kernel)
set_option maxRecDepth 20000 in
theorem gX10_init_X4_init_n71 : GoodIn wsX10_init (wsX4_init) := ggX10_init_X4_init
set_option maxRecDepth 20000 in
theorem ggX10_init_X0_init : GoodIn wsX10_init wsX0_init := goodIn_r _ [109, 110, 2, 3] (by decide +kernel) (by decide +kernel)
set_option maxRecDepth 20000 in
theorem gX10_init_X0_init_n78 : GoodIn wsX10_init (wsX0_init) := ggX10_init_X0_init
set_option maxRecDepth 20000 in
theorem ggX10_init_X1_init : GoodIn wsX10_init wsX1_init := goodIn_r _ [112, 113, 2, 3] (by decide +kernel) (by decide +kernel)
set_option maxRecDepth 20000 in
theorem gX10_init_X1_init_n85 : GoodIn wsX10_init (wsX1_init) := ggX10_init_X1_init
theorem dX10_init_0 : decode cX10_init 0 = .ok (.aload_n 0, 1) := by decide +kernel
theorem dX10_init_1 : decode cX10_init 1 = .ok (.invokespecial 1, 3) := by decide +kernel
theorem dX10_init_4 : decode cX10_init 4 = .ok (.aload_n 0, 1) := by decide +kernel
theorem dX10_init_5 : decode cX10_init 5 = .ok (.new 7, 3) := by decide +kernel
theorem dX10_init_8 : decode cX10_init 8 = .ok (.dup, 1) := by decide +kernel
theorem dX10_init_9 : decode cX10_init 9 = .ok (.invokespecial 9, 3) := by decide +kernel
theorem dX10_init_12 : decode cX10_init 12 = .ok (.putfield 10, 3) := by decide +kernel
theorem dX10_init_15 : decode cX10_init 15 = .ok (.aload_n 0, 1) := by decide +kernel
theorem dX10_init_16 : decode cX10_init 16 = .ok (.new 16, 3) := by decide +kernel
theorem dX10_init_19 : decode cX10_init 19 = .ok (.dup, 1) := by decide +kernel
theorem dX10_init_20 : decode cX10_init 20 = .ok (.invokespecial 18, 3) := by decide +kernel
theorem dX10_init_23 : decode cX10_init 23 = .ok (.putfield 19, 3) := by decide +kernel
theorem dX10_init_26 : decode cX10_init 26 = .ok (.aload_n 0, 1) := by decide +kernel
theorem dX10_init_27 : decode cX10_init 27 = .ok (.new 23, 3) := by decide +kernel
theorem dX10_init_30 : decode cX10_init 30 = .ok (.dup, 1) := by decide +kernel
theorem dX10_init_31 : decode cX10_init 31 = .ok (.invokespecial 25, 3) := by decide +kernel
theorem dX10_init_34 : decode cX10_init 34 = .ok (.putfield 26, 3) := by decide +kernel
theorem dX10_init_37 : decode cX10_init 37 = .ok (.aload_n 0, 1) := by decide +kernel
theorem dX10_init_38 : decode cX10_init 38 = .ok (.new 30, 3) := by decide +kernel
theorem dX10_init_41 : decode cX10_init 41 = .ok (.dup, 1) := by decide +kernel
theorem dX10_init_42 : decode cX10_init 42 = .ok (.invokespecial 32, 3) := by decide +kernel
theorem dX10_init_45 : decode cX10_init 45 = .ok (.putfield 33, 3) := by decide +kernel
theorem dX10_init_48 : decode cX10_init 48 = .ok (.aload_n 0, 1) := by decide +kernel
theorem dX10_init_49 : decode cX10_init 49 = .ok (.new 37, 3) := by decide +kernel
theorem dX10_init_52 : decode cX10_init 52 = .ok (.dup, 1) := by decide +kernel
theorem dX10_init_53 : decode cX10_init 53 = .ok (.invokespecial 39, 3) := by decide +kernel
theorem dX10_init_56 : decode cX10_init 56 = .ok (.putfield 40, 3) := by decide +kernel
theorem dX10_init_59 : decode cX10_init 59 = .ok (.aload_n 0, 1) := by decide +kernel
theorem dX10_init_60 : decode cX10_init 60 = .ok (.iconst 3, 1) := by decide +kernel
theorem dX10_init_61 : decode cX10_init 61 = .ok (.newarray .int, 2) := by decide +kernel
theorem dX10_init_63 : decode cX10_init 63 = .ok (.putfield 44, 3) := by decide +kernel
theorem dX10_init_66 : decode cX10_init 66 = .ok (.aload_n 0, 1) := by decide +kernel
theorem dX10_init_67 : decode cX10_init 67 = .ok (.new 48, 3) := by decide +kernel
theorem dX10_init_70 : decode cX10_init 70 = .ok (.dup, 1) := by decide +kernel
theorem dX10_init_71 : decode cX10_init 71 = .ok (.invokespecial 50, 3) := by decide +kernel
theorem dX10_init_74 : decode cX10_init 74 = .ok (.putfield 51, 3) := by decide +kernel
theorem dX10_init_77 : decode cX10_init 77 = .ok (.aload_n 0, 1) := by decide +kernel
theorem dX10_init_78 : decode cX10_init 78 = .ok (.iconst (-1), 1) := by decide +kernel
theorem dX10_init_79 : decode cX10_init 79 = .ok (.putfield 55, 3) := by decide +kernel
theorem dX10_init_82 : decode cX10_init 82 = .ok (.aload_n 0, 1) := by decide +kernel
theorem dX10_init_83 : decode cX10_init 83 = .ok (.new 59, 3) := by decide +kernel
theorem dX10_init_86 : decode cX10_init 86 = .ok (.dup, 1) := by decide +kernel
theorem dX10_init_87 : decode cX10_init 87 = .ok (.invokespecial 61, 3) := by decide +kernel
theorem dX10_init_90 : decode cX10_init 90 = .ok (.putfield 62, 3) := by decide +kernel
theorem dX10_init_93 : decode cX10_init 93 = .ok (.aload_n 0, 1) := by decide +kernel
theorem dX10_init_94 : decode cX10_init 94 = .ok (.new 23, 3) := by decide +kernel
theorem dX10_init_97 : decode cX10_init 97 = .ok (.dup, 1) := by decide +kernel
theorem dX10_init_98 : decode cX10_init 98 = .ok (.invokespecial 25, 3) := by decide +kernel
theorem dX10_init_101 : decode cX10_init 101 = .ok (.putfield 66, 3) := by decide +kernel
theorem dX10_init_104 : decode cX10_init 104 = .ok (.aload_n 0, 1) := by decide +kernel
theorem dX10_init_105 : decode cX10_init 105 = .ok (.new 69, 3) := by decide +kernel
theorem dX10_init_108 : decode cX10_init 108 = .ok (.dup, 1) := by decide +kernel
theorem dX10_init_109 : decode cX10_init 109 = .ok (.invokespecial 71, 3) := by decide +kernel
theorem dX10_init_112 : decode cX10_init 112 = .ok (.putfield 72, 3) := by decide +kernel
theorem dX10_init_115 : decode cX10_init 115 = .ok (.aload_n 0, 1) := by decide +kernel
theorem dX10_init_116 : decode cX10_init 116 = .ok (.new 76, 3) := by decide +kernel
theorem dX10_init_119 : decode cX10_init 119 = .ok (.dup, 1) := by decide +kernel
theorem dX10_init_120 : decode cX10_init 120 = .ok (.invokespecial 78, 3) := by decide +kernel
theorem dX10_init_123 : decode cX10_init 123 = .ok (.putfield 79, 3) := by decide +kernel
theorem dX10_init_126 : decode cX10_init 126 = .ok (.aload_n 0, 1) := by decide +kernel
theorem dX10_init_127 : decode cX10_init 127 = .ok (.new 83, 3) := by decide +kernel
theorem dX10_init_130 : decode cX10_init 130 = .ok (.dup, 1) := by decide +kernel
theorem dX10_init_131 : decode cX10_init 131 = .ok (.invokespecial 85, 3) := by decide +kernel
theorem dX10_init_134 : decode cX10_init 134 = .ok (.putfield 86, 3) := by decide +kernel
theorem dX10_init_137 : decode cX10_init 137 = .ok (.aload_n 0, 1) := by decide +kernel
theorem dX10_init_138 : decode cX10_init 138 = .ok (.bipush 12, 2) := by decide +kernel
theorem dX10_init_140 : decode cX10_init 140 = .ok (.bipush 48, 2) := by decide +kernel
theorem dX10_init_142 : decode cX10_init 142 = .ok (.multianewarray 90 2, 4) := by decide +kernel
theorem dX10_init_146 : decode cX10_init 146 = .ok (.putfield 92, 3) := by decide +kernel
theorem dX10_init_149 : decode cX10_init 149 = .ok (.return_, 1) := by decide +kernel
set_option maxRecDepth 20000 in
theorem ggX10_feed_X6_append : GoodIn wsX10_feed wsX6_append := goodIn_r _ [7, 8, 9, 24, 25, 26, 27, 28, 29, 30, 31, 32, 33, 34, 35] (by decide +kernel) (by decide +kernel)
set_option maxRecDepth 20000 in
theorem gX10_feed_X6_append : GoodIn wsX10_feed (wsV RX10 98 RX6 yX6_append wsX6_append) := goodIn_app (goodIn_of _ (by decide +kernel)) ggX10_feed_X6_append
theorem dX10_feed_0 : decode cX10_feed 0 = .ok (.aload_n 0, 1) := by decide +kernel
theorem dX10_feed_1 : decode cX10_feed 1 = .ok (.getfield 10, 3) := by decide +kernel
theorem dX10_feed_4 : decode cX10_feed 4 = .ok (.getfield 95, 3) := by decide +kernel
theorem dX10_feed_7 : decode cX10_feed 7 = .ok (.sipush 580, 3) := by decide +kernel
theorem dX10_feed_10 : decode cX10_feed 10 = .ok (.if_icmp .le 5, 3) := by decide +kernel
theorem dX10_feed_13 : decode cX10_feed 13 = .ok (.iconst (-1), 1) := by decide +kernel
theorem dX10_feed_14 : decode cX10_feed 14 = .ok (.ireturn, 1) := by decide +kernel
theorem dX10_feed_15 : decode cX10_feed 15 = .ok (.aload_n 0, 1) := by decide +kernel
theorem dX10_feed_16 : decode cX10_feed 16 = .ok (.getfield 10, 3) := by decide +kernel
theorem dX10_feed_19 : decode cX10_feed 19 = .ok (.iload_n 1, 1) := by decide +kernel
theorem dX10_feed_20 : decode cX10_feed 20 = .ok (.invokevirtual 98, 3) := by decide +kernel
theorem dX10_feed_23 : decode cX10_feed 23 = .ok (.aload_n 0, 1) := by decide +kernel
theorem dX10_feed_24 : decode cX10_feed 24 = .ok (.getfield 10, 3) := by decide +kernel
theorem dX10_feed_27 : decode cX10_feed 27 = .ok (.iload_n 2, 1) := by decide +kernel
theorem dX10_feed_28 : decode cX10_feed 28 = .ok (.invokevirtual 98, 3) := by decide +kernel
theorem dX10_feed_31 : decode cX10_feed 31 = .ok (.aload_n 0, 1) := by decide +kernel
theorem dX10_feed_32 : decode cX10_feed 32 = .ok (.getfield 10, 3) := by decide +kernel
theorem dX10_feed_35 : decode cX10_feed 35 = .ok (.iload_n 3, 1) := by decide +kernel
theorem dX10_feed_36 : decode cX10_feed 36 = .ok (.invokevirtual 98, 3) := by decide +kernel
theorem dX10_feed_39 : decode cX10_feed 39 = .ok (.aload_n 0, 1) := by decide +kernel
theorem dX10_feed_40 : decode cX10_feed 40 = .ok (.getfield 10, 3) := by decide +kernel
theorem dX10_feed_43 : decode cX10_feed 43 = .ok (.iload 4, 2) := by decide +kernel
theorem dX10_feed_45 : decode cX10_feed 45 = .ok (.invokevirtual 98, 3) := by decide +kernel
theorem dX10_feed_48 : decode cX10_feed 48 = .ok (.aload_n 0, 1) := by decide +kernel
theorem dX10_feed_49 : decode cX10_feed 49 = .ok (.getfield 10, 3) := by decide +kernel
theorem dX10_feed_52 : decode cX10_feed 52 = .ok (.iload 5, 2) := by decide +kernel
theorem dX10_feed_54 : decode cX10_feed 54 = .ok (.invokevirtual 98, 3) := by decide +kernel
theorem dX10_feed_57 : decode cX10_feed 57 = .ok (.aload_n 0, 1) := by decide +kernel
theorem dX10_feed_58 : decode cX10_feed 58 = .ok (.getfield 10, 3) := by decide +kernel
theorem dX10_feed_61 : decode cX10_feed 61 = .ok (.getfield 95, 3) := by decide +kernel
theorem dX10_feed_64 : decode cX10_feed 64 = .ok (.ireturn, 1) := by decide +kernel
set_option maxRecDepth 20000 in
theorem ggX10_street_X6_parse : GoodIn wsX10_street wsX6_parse := goodIn_r _ [20, 21, 22, 23, 24, 25, 26, 27, 28, 29, 30, 31, 32, 33, 34, 35, 36, 37, 38, 39, 40, 41, 42, 43, 44, 45, 46, 47, 19, 48, 49, 50, 51, 52, 53, 54, 55, 56, 57, 58, 59, 60, 61, 62, 63, 64, 65, 66, 67, 68, 69, 70, 71, 72, 73, 74, 75, 76, 77, 78, 79, 80, 81, 82, 83, 84, 85, 86, 87, 88, 89, 90, 91, 92, 93, 94, 95, 96, 97, 98, 99, 100, 101, 102, 103, 104, 105, 106, 107, 108, 109, 110, 111, 112, 113, 114, 115, 116, 117, 118, 119, 120, 121, 122, 123, 124, 125, 126, 127, 128, 129, 130, 131, 132, 133, 134, 135, 136, 137, 138, 139, 140, 141, 142, 143, 144, 145, 146, 147, 148, 149, 150, 151, 152, 153, 154, 155, 156, 157, 158, 159, 160, 161, 162, 163, 164, 165, 166, 167, 168, 169, 170, 171, 172, 173, 174, 175, 176, 177, 178, 179, 180, 181, 182, 183, 184, 185, 186, 187, 188, 189, 190, 191, 192, 193, 194, 195, 196, 197, 198, 199, 200, 201, 202, 203, 204, 205, 206, 207, 208, 209, 210, 251, 252, 253, 254, 255, 256, 257, 258, 259, 260, 261, 262, 268, 269, 270, 271, 272, 273, 274, 275, 276, 277, 278, 279, 280, 281, 282] (by decide +kernel) (by decide +kernel)
set_option maxRecDepth 20000 in
theorem gX10_street_X6_parse : GoodIn wsX10_street (wsV RX10 109 RX6 yX6_parse wsX6_parse) := goodIn_app (goodIn_of _ (by decide +kernel)) ggX10_street_X6_parse
set_option maxRecDepth 20000 in
theorem ggX10_street_X9_copyFrom : GoodIn wsX10_street wsX9_copyFrom := goodIn_r _ [214, 34, 35, 36, 37, 38, 150, 215, 216, 217, 218, 151, 152, 162, 163, 164, 268, 269, 270, 271, 272, 273, 274, 275, 276, 277, 278] (by decide +kernel) (by decide +kernel)
set_option maxRecDepth 20000 in
theorem gX10_street_X9_copyFrom : GoodIn wsX10_street (wsV RX10 119 RX9 yX9_copyFrom wsX9_copyFrom) := goodIn_app (goodIn_of _ (by decide +kernel)) ggX10_street_X9_copyFrom
set_option maxRecDepth 20000 in
theorem ggX10_street_X7_copyFrom : GoodIn wsX10_street wsX7_copyFrom := goodIn_r _ [222, 44, 185, 223, 216, 217, 218, 279, 280, 281, 282] (by decide +kernel) (by decide +kernel)
set_option maxRecDepth 20000 in
theorem gX10_street_X7_copyFrom : GoodIn wsX10_street (wsV RX10 124 RX7 yX7_copyFrom wsX7_copyFrom) := goodIn_app (goodIn_of _ (by decide +kernel)) ggX10_street_X7_copyFrom
set_option maxRecDepth 20000 in
theorem ggX10_street_X3_clear : GoodIn wsX10_street wsX3_clear := goodIn_r _ [228, 229, 283, 284] (by decide +kernel) (by decide +kernel)
set_option maxRecDepth 20000 in
theorem gX10_street_X3_clear : GoodIn wsX10_street (wsV RX10 127 RX3 yX3_clear wsX3_clear) := goodIn_app (goodIn_of _ (by decide +kernel)) ggX10_street_X3_clear
set_option maxRecDepth 20000 in
theorem ggX10_street_X8_clear : GoodIn wsX10_street wsX8_clear := goodIn_r _ [234, 235, 236, 285, 286, 287, 288] (by decide +kernel) (by decide +kernel)
set_option maxRecDepth 20000 in
theorem gX10_street_X8_clear : GoodIn wsX10_street (wsV RX10 130 RX8 yX8_clear wsX8_clear) := goodIn_app (goodIn_of _ (by decide +kernel)) ggX10_street_X8_clear
theorem dX10_street_0 : decode cX10_street 0 = .ok (.iload_n 1, 1) := by decide +kernel
theorem dX10_street_1 : decode cX10_street 1 = .ok (.ifCond .lt 14, 3) := by decide +kernel
theorem dX10_street_4 : decode cX10_street 4 = .ok (.iload_n 1, 1) := by decide +kernel
theorem dX10_street_5 : decode cX10_street 5 = .ok (.aload_n 0, 1) := by decide +kernel
theorem dX10_street_6 : decode cX10_street 6 = .ok (.getfield 10, 3) := by decide +kernel
theorem dX10_street_9 : decode cX10_street 9 = .ok (.getfield 95, 3) := by decide +kernel
theorem dX10_street_12 : decode cX10_street 12 = .ok (.if_icmp .le 13, 3) := by decide +kernel
theorem dX10_street_15 : decode cX10_street 15 = .ok (.new 102, 3) := by decide +kernel
theorem dX10_street_18 : decode cX10_street 18 = .ok (.dup, 1) := by decide +kernel
theorem dX10_street_19 : decode cX10_street 19 = .ok (.ldc 104, 2) := by decide +kernel
theorem dX10_street_21 : decode cX10_street 21 = .ok (.invokespecial 106, 3) := by decide +kernel
theorem dX10_street_24 : decode cX10_street 24 = .ok (.athrow, 1) := by decide +kernel
theorem dX10_street_25 : decode cX10_street 25 = .ok (.aload_n 0, 1) := by decide +kernel
theorem dX10_street_26 : decode cX10_street 26 = .ok (.getfield 10, 3) := by decide +kernel
theorem dX10_street_29 : decode cX10_street 29 = .ok (.iload_n 1, 1) := by decide +kernel
theorem dX10_street_30 : decode cX10_street 30 = .ok (.invokevirtual 109, 3) := by decide +kernel
theorem dX10_street_33 : decode cX10_street 33 = .ok (.istore_n 2, 1) := by decide +kernel
theorem dX10_street_34 : decode cX10_street 34 = .ok (.aload_n 0, 1) := by decide +kernel
theorem dX10_street_35 : decode cX10_street 35 = .ok (.aload_n 0, 1) := by decide +kernel
theorem dX10_street_36 : decode cX10_street 36 = .ok (.getfield 10, 3) := by decide +kernel
theorem dX10_street_39 : decode cX10_street 39 = .ok (.getfield 113, 3) := by decide +kernel
theorem dX10_street_42 : decode cX10_street 42 = .ok (.putfield 55, 3) := by decide +kernel
theorem dX10_street_45 : decode cX10_street 45 = .ok (.iload_n 2, 1) := by decide +kernel
theorem dX10_street_46 : decode cX10_street 46 = .ok (.ifCond .eq 15, 3) := by decide +kernel
theorem dX10_street_49 : decode cX10_street 49 = .ok (.aload_n 0, 1) := by decide +kernel
theorem dX10_street_50 : decode cX10_street 50 = .ok (.getfield 44, 3) := by decide +kernel
theorem dX10_street_53 : decode cX10_street 53 = .ok (.iconst 0, 1) := by decide +kernel
theorem dX10_street_54 : decode cX10_street 54 = .ok (.dup2, 1) := by decide +kernel
theorem dX10_street_55 : decode cX10_street 55 = .ok (.iaload, 1) := by decide +kernel
theorem dX10_street_56 : decode cX10_street 56 = .ok (.iconst 1, 1) := by decide +kernel
theorem dX10_street_57 : decode cX10_street 57 = .ok (.iadd, 1) := by decide +kernel
theorem dX10_street_58 : decode cX10_street 58 = .ok (.iastore, 1) := by decide +kernel
theorem dX10_street_59 : decode cX10_street 59 = .ok (.iload_n 2, 1) := by decide +kernel
theorem dX10_street_60 : decode cX10_street 60 = .ok (.ireturn, 1) := by decide +kernel
theorem dX10_street_61 : decode cX10_street 61 = .ok (.aload_n 0, 1) := by decide +kernel
theorem dX10_street_62 : decode cX10_street 62 = .ok (.getfield 26, 3) := by decide +kernel
theorem dX10_street_65 : decode cX10_street 65 = .ok (.aload_n 0, 1) := by decide +kernel
theorem dX10_street_66 : decode cX10_street 66 = .ok (.getfield 10, 3) := by decide +kernel
theorem dX10_street_69 : decode cX10_street 69 = .ok (.getfield 116, 3) := by decide +kernel
theorem dX10_street_72 : decode cX10_street 72 = .ok (.invokevirtual 119, 3) := by decide +kernel
theorem dX10_street_75 : decode cX10_street 75 = .ok (.aload_n 0, 1) := by decide +kernel
theorem dX10_street_76 : decode cX10_street 76 = .ok (.getfield 19, 3) := by decide +kernel
theorem dX10_street_79 : decode cX10_street 79 = .ok (.aload_n 0, 1) := by decide +kernel
theorem dX10_street_80 : decode cX10_street 80 = .ok (.getfield 10, 3) := by decide +kernel
theorem dX10_street_83 : decode cX10_street 83 = .ok (.getfield 123, 3) := by decide +kernel
theorem dX10_street_86 : decode cX10_street 86 = .ok (.invokevirtual 124, 3) := by decide +kernel
theorem dX10_street_89 : decode cX10_street 89 = .ok (.aload_n 0, 1) := by decide +kernel
theorem dX10_street_90 : decode cX10_street 90 = .ok (.getfield 33, 3) := by decide +kernel
theorem dX10_street_93 : decode cX10_street 93 = .ok (.invokevirtual 127, 3) := by decide +kernel
theorem dX10_street_96 : decode cX10_street 96 = .ok (.aload_n 0, 1) := by decide +kernel
theorem dX10_street_97 : decode cX10_street 97 = .ok (.getfield 40, 3) := by decide +kernel
theorem dX10_street_100 : decode cX10_street 100 = .ok (.invokevirtual 130, 3) := by decide +kernel
theorem dX10_street_103 : decode cX10_street 103 = .ok (.aload_n 0, 1) := by decide +kernel
theorem dX10_street_104 : decode cX10_street 104 = .ok (.getfield 51, 3) := by decide +kernel
theorem dX10_street_107 : decode cX10_street 107 = .ok (.iconst 0, 1) := by decide +kernel
theorem dX10_street_108 : decode cX10_street 108 = .ok (.putfield 131, 3) := by decide +kernel
theorem dX10_street_111 : decode cX10_street 111 = .ok (.iconst 0, 1) := by decide +kernel
theorem dX10_street_112 : decode cX10_street 112 = .ok (.ireturn, 1) := by decide +kernel
theorem dX10_fault_0 : decode cX10_fault 0 = .ok (.aload_n 0, 1) := by decide +kernel
theorem dX10_fault_1 : decode cX10_fault 1 = .ok (.getfield 55, 3) := by decide +kernel
theorem dX10_fault_4 : decode cX10_fault 4 = .ok (.ireturn, 1) := by decide +kernel
set_option maxRecDepth 20000 in
theorem ggX10_count_X9_singletons : GoodIn wsX10_count wsX9_singletons := goodIn_r _ [20, 21, 22, 81, 82, 83, 84, 85, 86, 87, 88, 89, 90, 91] (by decide +kernel) (by decide +kernel)
set_option maxRecDepth 20000 in
theorem gX10_count_X9_singletons : GoodIn wsX10_count (wsV RX10 141 RX9 yX9_singletons wsX9_singletons) := goodIn_app (goodIn_of _ (by decide +kernel)) ggX10_count_X9_singletons
set_option maxRecDepth 20000 in
theorem ggX10_count_J6_bitCount_0f7a4 : GoodIn wsX10_count wsJ6_bitCount_0f7a4 := goodIn_r _ [26, 27, 28, 29] (by decide +kernel) (by decide +kernel)
set_option maxRecDepth 20000 in
theorem gX10_count_J6_bitCount_0f7a4 : GoodIn wsX10_count (va_wsS RX10 145 yJ6_bitCount_0f7a4 wsJ6_bitCount_0f7a4) := goodIn_app (goodIn_of _ (by decide +kernel)) ggX10_count_J6_bitCount_0f7a4
set_option maxRecDepth 20000 in
theorem ggX10_count_X9_oilInAll : GoodIn wsX10_count wsX9_oilInAll := goodIn_r _ [33, 21, 34, 81, 82, 83, 84, 85, 86, 87, 88, 89, 90, 91] (by decide +kernel) (by decide +kernel)
set_option maxRecDepth 20000 in
theorem gX10_count_X9_oilInAll : GoodIn wsX10_count (wsV RX10 159 RX9 yX9_oilInAll wsX9_oilInAll) := goodIn_app (goodIn_of _ (by decide +kernel)) ggX10_count_X9_oilInAll
set_option maxRecDepth 20000 in
theorem ggX10_count_X9_happyLamps : GoodIn wsX10_count wsX9_happyLamps := goodIn_r _ [38, 21, 22, 39, 81, 82, 83, 84, 85, 86, 87, 88, 89, 90, 91] (by decide +kernel) (by decide +kernel)
set_option maxRecDepth 20000 in
theorem gX10_count_X9_happyLamps : GoodIn wsX10_count (wsV RX10 162 RX9 yX9_happyLamps wsX9_happyLamps) := goodIn_app (goodIn_of _ (by decide +kernel)) ggX10_count_X9_happyLamps
set_option maxRecDepth 20000 in
theorem ggX10_count_X9_groups : GoodIn wsX10_count wsX9_groups := goodIn_r _ [43, 44, 45, 46, 47, 19, 48, 49, 50, 51, 52, 53, 54, 55, 56, 21, 22, 39, 81, 82, 83, 84, 85, 86, 87, 88, 89, 90, 91] (by decide +kernel) (by decide +kernel)
set_option maxRecDepth 20000 in
theorem gX10_count_X9_groups : GoodIn wsX10_count (wsV RX10 165 RX9 yX9_groups wsX9_groups) := goodIn_app (goodIn_of _ (by decide +kernel)) ggX10_count_X9_groups
set_option maxRecDepth 20000 in
theorem ggX10_count_X9_awakeHouses : GoodIn wsX10_count wsX9_awakeHouses := goodIn_r _ [60, 44, 61, 62, 63, 19, 64, 65, 66, 81, 82, 83, 84, 85, 86, 87, 88, 89, 90, 91] (by decide +kernel) (by decide +kernel)
set_option maxRecDepth 20000 in
theorem gX10_count_X9_awakeHouses : GoodIn wsX10_count (wsV RX10 168 RX9 yX9_awakeHouses wsX9_awakeHouses) := goodIn_app (goodIn_of _ (by decide +kernel)) ggX10_count_X9_awakeHouses
theorem dX10_count_0 : decode cX10_count 0 = .ok (.iload_n 1, 1) := by decide +kernel
theorem dX10_count_1 : decode cX10_count 1 = .ok (.tableswitch 239 0 16 #[83, 91, 99, 120, 128, 136, 144, 152, 160, 168, 176, 194, 202, 210, 218, 225, 232], 83) := by decide +kernel
theorem dX10_count_84 : decode cX10_count 84 = .ok (.aload_n 0, 1) := by decide +kernel
theorem dX10_count_85 : decode cX10_count 85 = .ok (.getfield 26, 3) := by decide +kernel
theorem dX10_count_88 : decode cX10_count 88 = .ok (.getfield 135, 3) := by decide +kernel
theorem dX10_count_91 : decode cX10_count 91 = .ok (.ireturn, 1) := by decide +kernel
theorem dX10_count_92 : decode cX10_count 92 = .ok (.aload_n 0, 1) := by decide +kernel
theorem dX10_count_93 : decode cX10_count 93 = .ok (.getfield 26, 3) := by decide +kernel
theorem dX10_count_96 : decode cX10_count 96 = .ok (.getfield 138, 3) := by decide +kernel
theorem dX10_count_99 : decode cX10_count 99 = .ok (.ireturn, 1) := by decide +kernel
theorem dX10_count_100 : decode cX10_count 100 = .ok (.aload_n 0, 1) := by decide +kernel
theorem dX10_count_101 : decode cX10_count 101 = .ok (.getfield 26, 3) := by decide +kernel
theorem dX10_count_104 : decode cX10_count 104 = .ok (.getfield 138, 3) := by decide +kernel
theorem dX10_count_107 : decode cX10_count 107 = .ok (.aload_n 0, 1) := by decide +kernel
theorem dX10_count_108 : decode cX10_count 108 = .ok (.getfield 26, 3) := by decide +kernel
theorem dX10_count_111 : decode cX10_count 111 = .ok (.invokevirtual 141, 3) := by decide +kernel
theorem dX10_count_114 : decode cX10_count 114 = .ok (.invokestatic 145, 3) := by decide +kernel
theorem dX10_count_117 : decode cX10_count 117 = .ok (.isub, 1) := by decide +kernel
theorem dX10_count_118 : decode cX10_count 118 = .ok (.iconst 2, 1) := by decide +kernel
theorem dX10_count_119 : decode cX10_count 119 = .ok (.idiv, 1) := by decide +kernel
theorem dX10_count_120 : decode cX10_count 120 = .ok (.ireturn, 1) := by decide +kernel
theorem dX10_count_121 : decode cX10_count 121 = .ok (.aload_n 0, 1) := by decide +kernel
theorem dX10_count_122 : decode cX10_count 122 = .ok (.getfield 26, 3) := by decide +kernel
theorem dX10_count_125 : decode cX10_count 125 = .ok (.getfield 150, 3) := by decide +kernel
theorem dX10_count_128 : decode cX10_count 128 = .ok (.ireturn, 1) := by decide +kernel
theorem dX10_count_129 : decode cX10_count 129 = .ok (.aload_n 0, 1) := by decide +kernel
theorem dX10_count_130 : decode cX10_count 130 = .ok (.getfield 26, 3) := by decide +kernel
theorem dX10_count_133 : decode cX10_count 133 = .ok (.getfield 153, 3) := by decide +kernel
theorem dX10_count_136 : decode cX10_count 136 = .ok (.ireturn, 1) := by decide +kernel
theorem dX10_count_137 : decode cX10_count 137 = .ok (.aload_n 0, 1) := by decide +kernel
theorem dX10_count_138 : decode cX10_count 138 = .ok (.getfield 26, 3) := by decide +kernel
theorem dX10_count_141 : decode cX10_count 141 = .ok (.getfield 156, 3) := by decide +kernel
theorem dX10_count_144 : decode cX10_count 144 = .ok (.ireturn, 1) := by decide +kernel
theorem dX10_count_145 : decode cX10_count 145 = .ok (.aload_n 0, 1) := by decide +kernel
theorem dX10_count_146 : decode cX10_count 146 = .ok (.getfield 26, 3) := by decide +kernel
theorem dX10_count_149 : decode cX10_count 149 = .ok (.invokevirtual 159, 3) := by decide +kernel
theorem dX10_count_152 : decode cX10_count 152 = .ok (.ireturn, 1) := by decide +kernel
theorem dX10_count_153 : decode cX10_count 153 = .ok (.aload_n 0, 1) := by decide +kernel
theorem dX10_count_154 : decode cX10_count 154 = .ok (.getfield 26, 3) := by decide +kernel
theorem dX10_count_157 : decode cX10_count 157 = .ok (.invokevirtual 141, 3) := by decide +kernel
theorem dX10_count_160 : decode cX10_count 160 = .ok (.ireturn, 1) := by decide +kernel
theorem dX10_count_161 : decode cX10_count 161 = .ok (.aload_n 0, 1) := by decide +kernel
theorem dX10_count_162 : decode cX10_count 162 = .ok (.getfield 26, 3) := by decide +kernel
theorem dX10_count_165 : decode cX10_count 165 = .ok (.invokevirtual 162, 3) := by decide +kernel
theorem dX10_count_168 : decode cX10_count 168 = .ok (.ireturn, 1) := by decide +kernel
theorem dX10_count_169 : decode cX10_count 169 = .ok (.aload_n 0, 1) := by decide +kernel
theorem dX10_count_170 : decode cX10_count 170 = .ok (.getfield 26, 3) := by decide +kernel
theorem dX10_count_173 : decode cX10_count 173 = .ok (.invokevirtual 165, 3) := by decide +kernel
theorem dX10_count_176 : decode cX10_count 176 = .ok (.ireturn, 1) := by decide +kernel
theorem dX10_count_177 : decode cX10_count 177 = .ok (.aload_n 0, 1) := by decide +kernel
theorem dX10_count_178 : decode cX10_count 178 = .ok (.getfield 26, 3) := by decide +kernel
theorem dX10_count_181 : decode cX10_count 181 = .ok (.aload_n 0, 1) := by decide +kernel
theorem dX10_count_182 : decode cX10_count 182 = .ok (.getfield 26, 3) := by decide +kernel
theorem dX10_count_185 : decode cX10_count 185 = .ok (.getfield 150, 3) := by decide +kernel
theorem dX10_count_188 : decode cX10_count 188 = .ok (.bipush 24, 2) := by decide +kernel
theorem dX10_count_190 : decode cX10_count 190 = .ok (.irem, 1) := by decide +kernel
theorem dX10_count_191 : decode cX10_count 191 = .ok (.invokevirtual 168, 3) := by decide +kernel
theorem dX10_count_194 : decode cX10_count 194 = .ok (.ireturn, 1) := by decide +kernel
theorem dX10_count_195 : decode cX10_count 195 = .ok (.aload_n 0, 1) := by decide +kernel
theorem dX10_count_196 : decode cX10_count 196 = .ok (.getfield 33, 3) := by decide +kernel
theorem dX10_count_199 : decode cX10_count 199 = .ok (.getfield 171, 3) := by decide +kernel
theorem dX10_count_202 : decode cX10_count 202 = .ok (.ireturn, 1) := by decide +kernel
theorem dX10_count_203 : decode cX10_count 203 = .ok (.aload_n 0, 1) := by decide +kernel
theorem dX10_count_204 : decode cX10_count 204 = .ok (.getfield 40, 3) := by decide +kernel
theorem dX10_count_207 : decode cX10_count 207 = .ok (.getfield 174, 3) := by decide +kernel
theorem dX10_count_210 : decode cX10_count 210 = .ok (.ireturn, 1) := by decide +kernel
theorem dX10_count_211 : decode cX10_count 211 = .ok (.aload_n 0, 1) := by decide +kernel
theorem dX10_count_212 : decode cX10_count 212 = .ok (.getfield 10, 3) := by decide +kernel
theorem dX10_count_215 : decode cX10_count 215 = .ok (.getfield 95, 3) := by decide +kernel
theorem dX10_count_218 : decode cX10_count 218 = .ok (.ireturn, 1) := by decide +kernel
theorem dX10_count_219 : decode cX10_count 219 = .ok (.aload_n 0, 1) := by decide +kernel
theorem dX10_count_220 : decode cX10_count 220 = .ok (.getfield 44, 3) := by decide +kernel
theorem dX10_count_223 : decode cX10_count 223 = .ok (.iconst 0, 1) := by decide +kernel
theorem dX10_count_224 : decode cX10_count 224 = .ok (.iaload, 1) := by decide +kernel
theorem dX10_count_225 : decode cX10_count 225 = .ok (.ireturn, 1) := by decide +kernel
theorem dX10_count_226 : decode cX10_count 226 = .ok (.aload_n 0, 1) := by decide +kernel
theorem dX10_count_227 : decode cX10_count 227 = .ok (.getfield 44, 3) := by decide +kernel
theorem dX10_count_230 : decode cX10_count 230 = .ok (.iconst 1, 1) := by decide +kernel
theorem dX10_count_231 : decode cX10_count 231 = .ok (.iaload, 1) := by decide +kernel
theorem dX10_count_232 : decode cX10_count 232 = .ok (.ireturn, 1) := by decide +kernel
theorem dX10_count_233 : decode cX10_count 233 = .ok (.aload_n 0, 1) := by decide +kernel
theorem dX10_count_234 : decode cX10_count 234 = .ok (.getfield 44, 3) := by decide +kernel
theorem dX10_count_237 : decode cX10_count 237 = .ok (.iconst 2, 1) := by decide +kernel
theorem dX10_count_238 : decode cX10_count 238 = .ok (.iaload, 1) := by decide +kernel
theorem dX10_count_239 : decode cX10_count 239 = .ok (.ireturn, 1) := by decide +kernel
theorem dX10_count_240 : decode cX10_count 240 = .ok (.new 175, 3) := by decide +kernel
theorem dX10_count_243 : decode cX10_count 243 = .ok (.dup, 1) := by decide +kernel
theorem dX10_count_244 : decode cX10_count 244 = .ok (.ldc 177, 2) := by decide +kernel
theorem dX10_count_246 : decode cX10_count 246 = .ok (.invokespecial 179, 3) := by decide +kernel
theorem dX10_count_249 : decode cX10_count 249 = .ok (.athrow, 1) := by decide +kernel
set_option maxRecDepth 20000 in
theorem ggX10_house_X10_needHouse : GoodIn wsX10_house wsX10_needHouse := goodIn_ca (goodIn_r _ [11, 1, 2, 3, 12, 25, 26, 27, 28, 29, 30, 31, 32, 33, 34, 35, 36, 37, 38, 39, 40, 41, 42, 43, 44, 45, 46, 47, 48, 49] (by decide +kernel) (by decide +kernel)) (goodIn_sub (fun _ h => List.mem_cons_of_mem _ (List.mem_append_right _ h)) (by decide +kernel))
set_option maxRecDepth 20000 in
theorem gX10_house_X10_needHouse : GoodIn wsX10_house (wsV RX10 180 RX10 yX10_needHouse wsX10_needHouse) := goodIn_app (goodIn_of _ (by decide +kernel)) ggX10_house_X10_needHouse
set_option maxRecDepth 20000 in
theorem ggX10_house_X9_lampsOf : GoodIn wsX10_house wsX9_lampsOf := goodIn_r _ [17, 18, 19, 39, 40, 41, 42, 43, 44, 45, 46, 47, 48, 49] (by decide +kernel) (by decide +kernel)
set_option maxRecDepth 20000 in
theorem gX10_house_X9_lampsOf : GoodIn wsX10_house (wsV RX10 192 RX9 yX9_lampsOf wsX9_lampsOf) := goodIn_app (goodIn_of _ (by decide +kernel)) ggX10_house_X9_lampsOf
set_option maxRecDepth 20000 in
theorem ggX10_house_X9_plungedBy : GoodIn wsX10_house wsX9_plungedBy := goodIn_r _ [23, 18, 24, 19, 39, 40, 41, 42, 43, 44, 45, 46, 47, 48, 49] (by decide +kernel) (by decide +kernel)
set_option maxRecDepth 20000 in
theorem gX10_house_X9_plungedBy : GoodIn wsX10_house (wsV RX10 195 RX9 yX9_plungedBy wsX9_plungedBy) := goodIn_app (goodIn_of _ (by decide +kernel)) ggX10_house_X9_plungedBy
theorem dX10_house_0 : decode cX10_house 0 = .ok (.aload_n 0, 1) := by decide +kernel
theorem dX10_house_1 : decode cX10_house 1 = .ok (.iload_n 1, 1) := by decide +kernel
theorem dX10_house_2 : decode cX10_house 2 = .ok (.invokevirtual 180, 3) := by decide +kernel
theorem dX10_house_5 : decode cX10_house 5 = .ok (.iload_n 2, 1) := by decide +kernel
theorem dX10_house_6 : decode cX10_house 6 = .ok (.tableswitch 82 0 4 #[34, 44, 54, 64, 73], 34) := by decide +kernel
theorem dX10_house_40 : decode cX10_house 40 = .ok (.aload_n 0, 1) := by decide +kernel
theorem dX10_house_41 : decode cX10_house 41 = .ok (.getfield 26, 3) := by decide +kernel
theorem dX10_house_44 : decode cX10_house 44 = .ok (.getfield 183, 3) := by decide +kernel
theorem dX10_house_47 : decode cX10_house 47 = .ok (.iload_n 1, 1) := by decide +kernel
theorem dX10_house_48 : decode cX10_house 48 = .ok (.iaload, 1) := by decide +kernel
theorem dX10_house_49 : decode cX10_house 49 = .ok (.ireturn, 1) := by decide +kernel
theorem dX10_house_50 : decode cX10_house 50 = .ok (.aload_n 0, 1) := by decide +kernel
theorem dX10_house_51 : decode cX10_house 51 = .ok (.getfield 26, 3) := by decide +kernel
theorem dX10_house_54 : decode cX10_house 54 = .ok (.getfield 186, 3) := by decide +kernel
theorem dX10_house_57 : decode cX10_house 57 = .ok (.iload_n 1, 1) := by decide +kernel
theorem dX10_house_58 : decode cX10_house 58 = .ok (.iaload, 1) := by decide +kernel
theorem dX10_house_59 : decode cX10_house 59 = .ok (.ireturn, 1) := by decide +kernel
theorem dX10_house_60 : decode cX10_house 60 = .ok (.aload_n 0, 1) := by decide +kernel
theorem dX10_house_61 : decode cX10_house 61 = .ok (.getfield 26, 3) := by decide +kernel
theorem dX10_house_64 : decode cX10_house 64 = .ok (.getfield 189, 3) := by decide +kernel
theorem dX10_house_67 : decode cX10_house 67 = .ok (.iload_n 1, 1) := by decide +kernel
theorem dX10_house_68 : decode cX10_house 68 = .ok (.iaload, 1) := by decide +kernel
theorem dX10_house_69 : decode cX10_house 69 = .ok (.ireturn, 1) := by decide +kernel
theorem dX10_house_70 : decode cX10_house 70 = .ok (.aload_n 0, 1) := by decide +kernel
theorem dX10_house_71 : decode cX10_house 71 = .ok (.getfield 26, 3) := by decide +kernel
theorem dX10_house_74 : decode cX10_house 74 = .ok (.iload_n 1, 1) := by decide +kernel
theorem dX10_house_75 : decode cX10_house 75 = .ok (.invokevirtual 192, 3) := by decide +kernel
theorem dX10_house_78 : decode cX10_house 78 = .ok (.ireturn, 1) := by decide +kernel
theorem dX10_house_79 : decode cX10_house 79 = .ok (.aload_n 0, 1) := by decide +kernel
theorem dX10_house_80 : decode cX10_house 80 = .ok (.getfield 26, 3) := by decide +kernel
theorem dX10_house_83 : decode cX10_house 83 = .ok (.iload_n 1, 1) := by decide +kernel
theorem dX10_house_84 : decode cX10_house 84 = .ok (.invokevirtual 195, 3) := by decide +kernel
theorem dX10_house_87 : decode cX10_house 87 = .ok (.ireturn, 1) := by decide +kernel
theorem dX10_house_88 : decode cX10_house 88 = .ok (.new 175, 3) := by decide +kernel
theorem dX10_house_91 : decode cX10_house 91 = .ok (.dup, 1) := by decide +kernel
theorem dX10_house_92 : decode cX10_house 92 = .ok (.ldc 198, 2) := by decide +kernel
theorem dX10_house_94 : decode cX10_house 94 = .ok (.invokespecial 179, 3) := by decide +kernel
theorem dX10_house_97 : decode cX10_house 97 = .ok (.athrow, 1) := by decide +kernel
set_option maxRecDepth 20000 in
theorem ggX10_lamp_X10_needLamp : GoodIn wsX10_lamp wsX10_needLamp := goodIn_ca (goodIn_r _ [13, 1, 2, 3, 14, 80, 81, 82, 83, 84, 85, 86, 87, 88, 89, 90, 91, 92, 93, 94, 95, 96, 97, 98, 99, 100, 101, 102, 103, 104] (by decide +kernel) (by decide +kernel)) (goodIn_sub (fun _ h => List.mem_cons_of_mem _ (List.mem_append_right _ h)) (by decide +kernel))
set_option maxRecDepth 20000 in
theorem gX10_lamp_X10_needLamp : GoodIn wsX10_lamp (wsV RX10 200 RX10 yX10_needLamp wsX10_needLamp) := goodIn_app (goodIn_of _ (by decide +kernel)) ggX10_lamp_X10_needLamp
set_option maxRecDepth 20000 in
theorem ggX10_lamp_X9_isLit : GoodIn wsX10_lamp wsX9_isLit := goodIn_r _ [19, 20, 94, 95, 96, 97, 98, 99, 100, 101, 102, 103, 104] (by decide +kernel) (by decide +kernel)
set_option maxRecDepth 20000 in
theorem gX10_lamp_X9_isLit : GoodIn wsX10_lamp (wsV RX10 212 RX9 yX9_isLit wsX9_isLit) := goodIn_app (goodIn_of _ (by decide +kernel)) ggX10_lamp_X9_isLit
set_option maxRecDepth 20000 in
theorem ggX10_lamp_X9_isBroken : GoodIn wsX10_lamp wsX9_isBroken := goodIn_r _ [24, 25, 94, 95, 96, 97, 98, 99, 100, 101, 102, 103, 104] (by decide +kernel) (by decide +kernel)
set_option maxRecDepth 20000 in
theorem gX10_lamp_X9_isBroken : GoodIn wsX10_lamp (wsV RX10 216 RX9 yX9_isBroken wsX9_isBroken) := goodIn_app (goodIn_of _ (by decide +kernel)) ggX10_lamp_X9_isBroken
set_option maxRecDepth 20000 in
theorem ggX10_lamp_X7_wantsLit : GoodIn wsX10_lamp wsX7_wantsLit := goodIn_r _ [30, 31, 32, 33, 34, 35, 36, 37, 29, 38, 39, 40, 41, 42, 18, 43, 44, 45, 46, 47, 48, 49, 50, 51, 52, 53, 54, 55, 56, 57, 58, 59, 60, 61, 62, 63, 64, 65, 66, 67, 68, 69, 70, 71, 72, 73, 74, 94, 95, 96, 97, 98, 99, 100, 101, 102, 103, 104, 105, 106, 107, 108] (by decide +kernel) (by decide +kernel)
set_option maxRecDepth 20000 in
theorem gX10_lamp_X7_wantsLit : GoodIn wsX10_lamp (wsV RX10 219 RX7 yX7_wantsLit wsX7_wantsLit) := goodIn_app (goodIn_of _ (by decide +kernel)) ggX10_lamp_X7_wantsLit
set_option maxRecDepth 20000 in
theorem ggX10_lamp_X7_hoursWanted : GoodIn wsX10_lamp wsX7_hoursWanted := goodIn_r _ [78, 79, 27, 28, 29, 30, 31, 32, 33, 34, 35, 36, 37, 38, 39, 40, 41, 42, 18, 43, 44, 45, 46, 47, 48, 49, 50, 51, 52, 53, 54, 55, 56, 57, 58, 59, 60, 61, 62, 63, 64, 65, 66, 67, 68, 69, 70, 71, 72, 73, 74, 94, 95, 96, 97, 98, 99, 100, 101, 102, 103, 104, 105, 106, 107, 108] (by decide +kernel) (by decide +kernel)
set_option maxRecDepth 20000 in
theorem gX10_lamp_X7_hoursWanted : GoodIn wsX10_lamp (wsV RX10 223 RX7 yX7_hoursWanted wsX7_hoursWanted) := goodIn_app (goodIn_of _ (by decide +kernel)) ggX10_lamp_X7_hoursWanted
theorem dX10_lamp_0 : decode cX10_lamp 0 = .ok (.aload_n 0, 1) := by decide +kernel
theorem dX10_lamp_1 : decode cX10_lamp 1 = .ok (.iload_n 1, 1) := by decide +kernel
theorem dX10_lamp_2 : decode cX10_lamp 2 = .ok (.invokevirtual 200, 3) := by decide +kernel
theorem dX10_lamp_5 : decode cX10_lamp 5 = .ok (.iload_n 2, 1) := by decide +kernel
theorem dX10_lamp_6 : decode cX10_lamp 6 = .ok (.tableswitch 150 0 6 #[42, 52, 62, 72, 89, 106, 137], 42) := by decide +kernel
theorem dX10_lamp_48 : decode cX10_lamp 48 = .ok (.aload_n 0, 1) := by decide +kernel
theorem dX10_lamp_49 : decode cX10_lamp 49 = .ok (.getfield 26, 3) := by decide +kernel
theorem dX10_lamp_52 : decode cX10_lamp 52 = .ok (.getfield 203, 3) := by decide +kernel
theorem dX10_lamp_55 : decode cX10_lamp 55 = .ok (.iload_n 1, 1) := by decide +kernel
theorem dX10_lamp_56 : decode cX10_lamp 56 = .ok (.iaload, 1) := by decide +kernel
theorem dX10_lamp_57 : decode cX10_lamp 57 = .ok (.ireturn, 1) := by decide +kernel
theorem dX10_lamp_58 : decode cX10_lamp 58 = .ok (.aload_n 0, 1) := by decide +kernel
theorem dX10_lamp_59 : decode cX10_lamp 59 = .ok (.getfield 26, 3) := by decide +kernel
theorem dX10_lamp_62 : decode cX10_lamp 62 = .ok (.getfield 206, 3) := by decide +kernel
theorem dX10_lamp_65 : decode cX10_lamp 65 = .ok (.iload_n 1, 1) := by decide +kernel
theorem dX10_lamp_66 : decode cX10_lamp 66 = .ok (.iaload, 1) := by decide +kernel
theorem dX10_lamp_67 : decode cX10_lamp 67 = .ok (.ireturn, 1) := by decide +kernel
theorem dX10_lamp_68 : decode cX10_lamp 68 = .ok (.aload_n 0, 1) := by decide +kernel
theorem dX10_lamp_69 : decode cX10_lamp 69 = .ok (.getfield 26, 3) := by decide +kernel
theorem dX10_lamp_72 : decode cX10_lamp 72 = .ok (.getfield 209, 3) := by decide +kernel
theorem dX10_lamp_75 : decode cX10_lamp 75 = .ok (.iload_n 1, 1) := by decide +kernel
theorem dX10_lamp_76 : decode cX10_lamp 76 = .ok (.iaload, 1) := by decide +kernel
theorem dX10_lamp_77 : decode cX10_lamp 77 = .ok (.ireturn, 1) := by decide +kernel
theorem dX10_lamp_78 : decode cX10_lamp 78 = .ok (.aload_n 0, 1) := by decide +kernel
theorem dX10_lamp_79 : decode cX10_lamp 79 = .ok (.getfield 26, 3) := by decide +kernel
theorem dX10_lamp_82 : decode cX10_lamp 82 = .ok (.iload_n 1, 1) := by decide +kernel
theorem dX10_lamp_83 : decode cX10_lamp 83 = .ok (.invokevirtual 212, 3) := by decide +kernel
theorem dX10_lamp_86 : decode cX10_lamp 86 = .ok (.ifCond .eq 7, 3) := by decide +kernel
theorem dX10_lamp_89 : decode cX10_lamp 89 = .ok (.iconst 1, 1) := by decide +kernel
theorem dX10_lamp_90 : decode cX10_lamp 90 = .ok (.goto 4, 3) := by decide +kernel
theorem dX10_lamp_93 : decode cX10_lamp 93 = .ok (.iconst 0, 1) := by decide +kernel
theorem dX10_lamp_94 : decode cX10_lamp 94 = .ok (.ireturn, 1) := by decide +kernel
theorem dX10_lamp_95 : decode cX10_lamp 95 = .ok (.aload_n 0, 1) := by decide +kernel
theorem dX10_lamp_96 : decode cX10_lamp 96 = .ok (.getfield 26, 3) := by decide +kernel
theorem dX10_lamp_99 : decode cX10_lamp 99 = .ok (.iload_n 1, 1) := by decide +kernel
theorem dX10_lamp_100 : decode cX10_lamp 100 = .ok (.invokevirtual 216, 3) := by decide +kernel
theorem dX10_lamp_103 : decode cX10_lamp 103 = .ok (.ifCond .eq 7, 3) := by decide +kernel
theorem dX10_lamp_106 : decode cX10_lamp 106 = .ok (.iconst 1, 1) := by decide +kernel
theorem dX10_lamp_107 : decode cX10_lamp 107 = .ok (.goto 4, 3) := by decide +kernel
theorem dX10_lamp_110 : decode cX10_lamp 110 = .ok (.iconst 0, 1) := by decide +kernel
theorem dX10_lamp_111 : decode cX10_lamp 111 = .ok (.ireturn, 1) := by decide +kernel
theorem dX10_lamp_112 : decode cX10_lamp 112 = .ok (.aload_n 0, 1) := by decide +kernel
theorem dX10_lamp_113 : decode cX10_lamp 113 = .ok (.getfield 19, 3) := by decide +kernel
theorem dX10_lamp_116 : decode cX10_lamp 116 = .ok (.aload_n 0, 1) := by decide +kernel
theorem dX10_lamp_117 : decode cX10_lamp 117 = .ok (.getfield 26, 3) := by decide +kernel
theorem dX10_lamp_120 : decode cX10_lamp 120 = .ok (.iload_n 1, 1) := by decide +kernel
theorem dX10_lamp_121 : decode cX10_lamp 121 = .ok (.aload_n 0, 1) := by decide +kernel
theorem dX10_lamp_122 : decode cX10_lamp 122 = .ok (.getfield 26, 3) := by decide +kernel
theorem dX10_lamp_125 : decode cX10_lamp 125 = .ok (.getfield 150, 3) := by decide +kernel
theorem dX10_lamp_128 : decode cX10_lamp 128 = .ok (.bipush 24, 2) := by decide +kernel
theorem dX10_lamp_130 : decode cX10_lamp 130 = .ok (.irem, 1) := by decide +kernel
theorem dX10_lamp_131 : decode cX10_lamp 131 = .ok (.invokevirtual 219, 3) := by decide +kernel
theorem dX10_lamp_134 : decode cX10_lamp 134 = .ok (.ifCond .eq 7, 3) := by decide +kernel
theorem dX10_lamp_137 : decode cX10_lamp 137 = .ok (.iconst 1, 1) := by decide +kernel
theorem dX10_lamp_138 : decode cX10_lamp 138 = .ok (.goto 4, 3) := by decide +kernel
theorem dX10_lamp_141 : decode cX10_lamp 141 = .ok (.iconst 0, 1) := by decide +kernel
theorem dX10_lamp_142 : decode cX10_lamp 142 = .ok (.ireturn, 1) := by decide +kernel
theorem dX10_lamp_143 : decode cX10_lamp 143 = .ok (.aload_n 0, 1) := by decide +kernel
theorem dX10_lamp_144 : decode cX10_lamp 144 = .ok (.getfield 19, 3) := by decide +kernel
theorem dX10_lamp_147 : decode cX10_lamp 147 = .ok (.aload_n 0, 1) := by decide +kernel
theorem dX10_lamp_148 : decode cX10_lamp 148 = .ok (.getfield 26, 3) := by decide +kernel
theorem dX10_lamp_151 : decode cX10_lamp 151 = .ok (.iload_n 1, 1) := by decide +kernel
theorem dX10_lamp_152 : decode cX10_lamp 152 = .ok (.invokevirtual 223, 3) := by decide +kernel
theorem dX10_lamp_155 : decode cX10_lamp 155 = .ok (.ireturn, 1) := by decide +kernel
theorem dX10_lamp_156 : decode cX10_lamp 156 = .ok (.new 175, 3) := by decide +kernel
theorem dX10_lamp_159 : decode cX10_lamp 159 = .ok (.dup, 1) := by decide +kernel
theorem dX10_lamp_160 : decode cX10_lamp 160 = .ok (.ldc 227, 2) := by decide +kernel
theorem dX10_lamp_162 : decode cX10_lamp 162 = .ok (.invokespecial 179, 3) := by decide +kernel
theorem dX10_lamp_165 : decode cX10_lamp 165 = .ok (.athrow, 1) := by decide +kernel
set_option maxRecDepth 20000 in
theorem ggX10_hours_X10_refuse : GoodIn wsX10_hours wsX10_refuse := goodIn_r _ [10, 11, 135, 136, 137, 138, 139, 140, 141, 142, 143, 144, 145, 146, 147, 148] (by decide +kernel) (by decide +kernel)
set_option maxRecDepth 20000 in
theorem gX10_hours_X10_refuse : GoodIn wsX10_hours (wsV RX10 229 RX10 yX10_refuse wsX10_refuse) := goodIn_app (goodIn_of _ (by decide +kernel)) ggX10_hours_X10_refuse
set_option maxRecDepth 20000 in
theorem ggX10_hours_X3_keep : GoodIn wsX10_hours wsX3_keep := goodIn_r _ [16, 17, 18, 19, 20, 21, 15, 22, 23, 24, 25, 26, 27, 28, 29, 30, 31, 32, 33, 34, 35, 36, 37, 38, 39, 40, 41, 42, 160, 161, 149, 150, 151, 152, 153, 154, 155, 156, 157, 158, 159] (by decide +kernel) (by decide +kernel)
set_option maxRecDepth 20000 in
theorem gX10_hours_X3_keep : GoodIn wsX10_hours (wsV RX10 232 RX3 yX3_keep wsX3_keep) := goodIn_app (goodIn_of _ (by decide +kernel)) ggX10_hours_X3_keep
set_option maxRecDepth 20000 in
theorem ggX10_hours_X2_passHour : GoodIn wsX10_hours wsX2_passHour := goodIn_r _ [47, 48, 49, 50, 51, 52, 53, 54, 55, 56, 57, 26, 58, 29, 40, 30, 59, 60, 61, 62, 38, 39, 63, 64, 65, 66, 67, 68, 69, 70, 71, 72, 73, 74, 75, 76, 77, 78, 79, 80, 81, 82, 83, 84, 85, 86, 87, 88, 89, 90, 91, 92, 93, 94, 95, 96, 97, 98, 99, 100, 101, 102, 103, 104, 105, 106, 107, 46, 108, 109, 110, 111, 112, 113, 31, 114, 115, 116, 117, 42, 41, 32, 118, 119, 120, 121, 122, 123, 124, 125, 126, 127, 128, 129, 130, 131, 132, 133, 134, 162, 163, 164, 165, 166, 149, 150, 151, 152, 153, 154, 155, 156, 157, 158, 159, 167, 168, 169, 170] (by decide +kernel) (by decide +kernel)
set_option maxRecDepth 20000 in
theorem gX10_hours_X2_passHour : GoodIn wsX10_hours (wsV RX10 235 RX2 yX2_passHour wsX2_passHour) := goodIn_app (goodIn_of _ (by decide +kernel)) ggX10_hours_X2_passHour
theorem dX10_hours_0 : decode cX10_hours 0 = .ok (.iload_n 1, 1) := by decide +kernel
theorem dX10_hours_1 : decode cX10_hours 1 = .ok (.iconst 1, 1) := by decide +kernel
theorem dX10_hours_2 : decode cX10_hours 2 = .ok (.if_icmp .lt 24, 3) := by decide +kernel
theorem dX10_hours_5 : decode cX10_hours 5 = .ok (.iload_n 1, 1) := by decide +kernel
theorem dX10_hours_6 : decode cX10_hours 6 = .ok (.bipush 48, 2) := by decide +kernel
theorem dX10_hours_8 : decode cX10_hours 8 = .ok (.if_icmp .gt 18, 3) := by decide +kernel
theorem dX10_hours_11 : decode cX10_hours 11 = .ok (.aload_n 0, 1) := by decide +kernel
theorem dX10_hours_12 : decode cX10_hours 12 = .ok (.getfield 26, 3) := by decide +kernel
theorem dX10_hours_15 : decode cX10_hours 15 = .ok (.getfield 150, 3) := by decide +kernel
theorem dX10_hours_18 : decode cX10_hours 18 = .ok (.iload_n 1, 1) := by decide +kernel
theorem dX10_hours_19 : decode cX10_hours 19 = .ok (.iadd, 1) := by decide +kernel
theorem dX10_hours_20 : decode cX10_hours 20 = .ok (.sipush 9999, 3) := by decide +kernel
theorem dX10_hours_23 : decode cX10_hours 23 = .ok (.if_icmp .le 9, 3) := by decide +kernel
theorem dX10_hours_26 : decode cX10_hours 26 = .ok (.aload_n 0, 1) := by decide +kernel
theorem dX10_hours_27 : decode cX10_hours 27 = .ok (.iconst 1, 1) := by decide +kernel
theorem dX10_hours_28 : decode cX10_hours 28 = .ok (.invokevirtual 229, 3) := by decide +kernel
theorem dX10_hours_31 : decode cX10_hours 31 = .ok (.ireturn, 1) := by decide +kernel
theorem dX10_hours_32 : decode cX10_hours 32 = .ok (.aload_n 0, 1) := by decide +kernel
theorem dX10_hours_33 : decode cX10_hours 33 = .ok (.getfield 33, 3) := by decide +kernel
theorem dX10_hours_36 : decode cX10_hours 36 = .ok (.aload_n 0, 1) := by decide +kernel
theorem dX10_hours_37 : decode cX10_hours 37 = .ok (.getfield 26, 3) := by decide +kernel
theorem dX10_hours_40 : decode cX10_hours 40 = .ok (.invokevirtual 232, 3) := by decide +kernel
theorem dX10_hours_43 : decode cX10_hours 43 = .ok (.iconst 0, 1) := by decide +kernel
theorem dX10_hours_44 : decode cX10_hours 44 = .ok (.istore_n 2, 1) := by decide +kernel
theorem dX10_hours_45 : decode cX10_hours 45 = .ok (.iload_n 2, 1) := by decide +kernel
theorem dX10_hours_46 : decode cX10_hours 46 = .ok (.iload_n 1, 1) := by decide +kernel
theorem dX10_hours_47 : decode cX10_hours 47 = .ok (.if_icmp .ge 24, 3) := by decide +kernel
theorem dX10_hours_50 : decode cX10_hours 50 = .ok (.aload_n 0, 1) := by decide +kernel
theorem dX10_hours_51 : decode cX10_hours 51 = .ok (.getfield 62, 3) := by decide +kernel
theorem dX10_hours_54 : decode cX10_hours 54 = .ok (.aload_n 0, 1) := by decide +kernel
theorem dX10_hours_55 : decode cX10_hours 55 = .ok (.getfield 19, 3) := by decide +kernel
theorem dX10_hours_58 : decode cX10_hours 58 = .ok (.aload_n 0, 1) := by decide +kernel
theorem dX10_hours_59 : decode cX10_hours 59 = .ok (.getfield 26, 3) := by decide +kernel
theorem dX10_hours_62 : decode cX10_hours 62 = .ok (.invokevirtual 235, 3) := by decide +kernel
theorem dX10_hours_65 : decode cX10_hours 65 = .ok (.iinc 2 1, 3) := by decide +kernel
theorem dX10_hours_68 : decode cX10_hours 68 = .ok (.goto (-23), 3) := by decide +kernel
theorem dX10_hours_71 : decode cX10_hours 71 = .ok (.aload_n 0, 1) := by decide +kernel
theorem dX10_hours_72 : decode cX10_hours 72 = .ok (.getfield 26, 3) := by decide +kernel
theorem dX10_hours_75 : decode cX10_hours 75 = .ok (.getfield 150, 3) := by decide +kernel
theorem dX10_hours_78 : decode cX10_hours 78 = .ok (.ireturn, 1) := by decide +kernel
set_option maxRecDepth 20000 in
theorem ggX10_flick_X10_needLamp : GoodIn wsX10_flick wsX10_needLamp := goodIn_ca (goodIn_r _ [7, 8, 9, 1, 10, 73, 74, 75, 76, 77, 78, 79, 80, 81, 82, 83, 84, 85, 86, 87, 88, 89, 90, 91, 92, 93, 94, 95, 96, 97] (by decide +kernel) (by decide +kernel)) (goodIn_sub (fun _ h => List.mem_cons_of_mem _ (List.mem_append_right _ h)) (by decide +kernel))
set_option maxRecDepth 20000 in
theorem gX10_flick_X10_needLamp : GoodIn wsX10_flick (wsV RX10 200 RX10 yX10_needLamp wsX10_needLamp) := goodIn_app (goodIn_of _ (by decide +kernel)) ggX10_flick_X10_needLamp
set_option maxRecDepth 20000 in
theorem ggX10_flick_X9_isLit : GoodIn wsX10_flick wsX9_isLit := goodIn_r _ [15, 16, 87, 88, 89, 90, 91, 92, 93, 94, 95, 96, 97] (by decide +kernel) (by decide +kernel)
set_option maxRecDepth 20000 in
theorem gX10_flick_X9_isLit : GoodIn wsX10_flick (wsV RX10 212 RX9 yX9_isLit wsX9_isLit) := goodIn_app (goodIn_of _ (by decide +kernel)) ggX10_flick_X9_isLit
set_option maxRecDepth 20000 in
theorem ggX10_flick_X9_canBeLit : GoodIn wsX10_flick wsX9_canBeLit := goodIn_r _ [20, 21, 22, 23, 24, 25, 26, 27, 14, 28, 87, 88, 89, 90, 91, 92, 93, 94, 95, 96, 97] (by decide +kernel) (by decide +kernel)
set_option maxRecDepth 20000 in
theorem gX10_flick_X9_canBeLit : GoodIn wsX10_flick (wsV RX10 239 RX9 yX9_canBeLit wsX9_canBeLit) := goodIn_app (goodIn_of _ (by decide +kernel)) ggX10_flick_X9_canBeLit
set_option maxRecDepth 20000 in
theorem ggX10_flick_X10_refuse : GoodIn wsX10_flick wsX10_refuse := goodIn_r _ [32, 33, 73, 74, 75, 76, 77, 78, 79, 80, 81, 82, 83, 84, 85, 86] (by decide +kernel) (by decide +kernel)
set_option maxRecDepth 20000 in
theorem gX10_flick_X10_refuse : GoodIn wsX10_flick (wsV RX10 229 RX10 yX10_refuse wsX10_refuse) := goodIn_app (goodIn_of _ (by decide +kernel)) ggX10_flick_X10_refuse
set_option maxRecDepth 20000 in
theorem ggX10_flick_X3_keep : GoodIn wsX10_flick wsX3_keep := goodIn_r _ [38, 39, 40, 41, 42, 43, 37, 44, 45, 46, 47, 14, 48, 49, 22, 50, 16, 24, 51, 52, 53, 54, 55, 56, 57, 58, 23, 21, 98, 99, 87, 88, 89, 90, 91, 92, 93, 94, 95, 96, 97] (by decide +kernel) (by decide +kernel)
set_option maxRecDepth 20000 in
theorem gX10_flick_X3_keep : GoodIn wsX10_flick (wsV RX10 232 RX3 yX3_keep wsX3_keep) := goodIn_app (goodIn_of _ (by decide +kernel)) ggX10_flick_X3_keep
set_option maxRecDepth 20000 in
theorem ggX10_flick_X9_flickByHand : GoodIn wsX10_flick wsX9_flickByHand := goodIn_r _ [62, 63, 12, 13, 14, 15, 16, 64, 65, 66, 67, 25, 26, 27, 28, 21, 68, 18, 19, 20, 22, 23, 24, 69, 70, 71, 72, 87, 88, 89, 90, 91, 92, 93, 94, 95, 96, 97] (by decide +kernel) (by decide +kernel)
set_option maxRecDepth 20000 in
theorem gX10_flick_X9_flickByHand : GoodIn wsX10_flick (wsV RX10 242 RX9 yX9_flickByHand wsX9_flickByHand) := goodIn_app (goodIn_of _ (by decide +kernel)) ggX10_flick_X9_flickByHand
theorem dX10_flick_0 : decode cX10_flick 0 = .ok (.aload_n 0, 1) := by decide +kernel
theorem dX10_flick_1 : decode cX10_flick 1 = .ok (.iload_n 1, 1) := by decide +kernel
theorem dX10_flick_2 : decode cX10_flick 2 = .ok (.invokevirtual 200, 3) := by decide +kernel
theorem dX10_flick_5 : decode cX10_flick 5 = .ok (.aload_n 0, 1) := by decide +kernel
theorem dX10_flick_6 : decode cX10_flick 6 = .ok (.getfield 26, 3) := by decide +kernel
theorem dX10_flick_9 : decode cX10_flick 9 = .ok (.iload_n 1, 1) := by decide +kernel
theorem dX10_flick_10 : decode cX10_flick 10 = .ok (.invokevirtual 212, 3) := by decide +kernel
theorem dX10_flick_13 : decode cX10_flick 13 = .ok (.ifCond .ne 20, 3) := by decide +kernel
theorem dX10_flick_16 : decode cX10_flick 16 = .ok (.aload_n 0, 1) := by decide +kernel
theorem dX10_flick_17 : decode cX10_flick 17 = .ok (.getfield 26, 3) := by decide +kernel
theorem dX10_flick_20 : decode cX10_flick 20 = .ok (.iload_n 1, 1) := by decide +kernel
theorem dX10_flick_21 : decode cX10_flick 21 = .ok (.invokevirtual 239, 3) := by decide +kernel
theorem dX10_flick_24 : decode cX10_flick 24 = .ok (.ifCond .ne 9, 3) := by decide +kernel
theorem dX10_flick_27 : decode cX10_flick 27 = .ok (.aload_n 0, 1) := by decide +kernel
theorem dX10_flick_28 : decode cX10_flick 28 = .ok (.iconst 1, 1) := by decide +kernel
theorem dX10_flick_29 : decode cX10_flick 29 = .ok (.invokevirtual 229, 3) := by decide +kernel
theorem dX10_flick_32 : decode cX10_flick 32 = .ok (.ireturn, 1) := by decide +kernel
theorem dX10_flick_33 : decode cX10_flick 33 = .ok (.aload_n 0, 1) := by decide +kernel
theorem dX10_flick_34 : decode cX10_flick 34 = .ok (.getfield 33, 3) := by decide +kernel
theorem dX10_flick_37 : decode cX10_flick 37 = .ok (.aload_n 0, 1) := by decide +kernel
theorem dX10_flick_38 : decode cX10_flick 38 = .ok (.getfield 26, 3) := by decide +kernel
theorem dX10_flick_41 : decode cX10_flick 41 = .ok (.invokevirtual 232, 3) := by decide +kernel
theorem dX10_flick_44 : decode cX10_flick 44 = .ok (.aload_n 0, 1) := by decide +kernel
theorem dX10_flick_45 : decode cX10_flick 45 = .ok (.getfield 26, 3) := by decide +kernel
theorem dX10_flick_48 : decode cX10_flick 48 = .ok (.iload_n 1, 1) := by decide +kernel
theorem dX10_flick_49 : decode cX10_flick 49 = .ok (.invokevirtual 242, 3) := by decide +kernel
theorem dX10_flick_52 : decode cX10_flick 52 = .ok (.aload_n 0, 1) := by decide +kernel
theorem dX10_flick_53 : decode cX10_flick 53 = .ok (.getfield 26, 3) := by decide +kernel
theorem dX10_flick_56 : decode cX10_flick 56 = .ok (.iload_n 1, 1) := by decide +kernel
theorem dX10_flick_57 : decode cX10_flick 57 = .ok (.invokevirtual 212, 3) := by decide +kernel
theorem dX10_flick_60 : decode cX10_flick 60 = .ok (.ifCond .eq 7, 3) := by decide +kernel
theorem dX10_flick_63 : decode cX10_flick 63 = .ok (.iconst 1, 1) := by decide +kernel
theorem dX10_flick_64 : decode cX10_flick 64 = .ok (.goto 4, 3) := by decide +kernel
theorem dX10_flick_67 : decode cX10_flick 67 = .ok (.iconst 0, 1) := by decide +kernel
theorem dX10_flick_68 : decode cX10_flick 68 = .ok (.ireturn, 1) := by decide +kernel
set_option maxRecDepth 20000 in
theorem ggX10_trim_X10_needLamp : GoodIn wsX10_trim wsX10_needLamp := goodIn_ca (goodIn_r _ [8, 9, 10, 2, 11, 56, 57, 58, 59, 60, 61, 62, 63, 64, 65, 66, 67, 68, 69, 70, 71, 72, 73, 74, 75, 76, 77, 78, 79, 80] (by decide +kernel) (by decide +kernel)) (goodIn_sub (fun _ h => List.mem_cons_of_mem _ (List.mem_append_right _ h)) (by decide +kernel))
set_option maxRecDepth 20000 in
theorem gX10_trim_X10_needLamp : GoodIn wsX10_trim (wsV RX10 200 RX10 yX10_needLamp wsX10_needLamp) := goodIn_app (goodIn_of _ (by decide +kernel)) ggX10_trim_X10_needLamp
set_option maxRecDepth 20000 in
theorem ggX10_trim_X10_refuse : GoodIn wsX10_trim wsX10_refuse := goodIn_r _ [15, 16, 56, 57, 58, 59, 60, 61, 62, 63, 64, 65, 66, 67, 68, 69] (by decide +kernel) (by decide +kernel)
set_option maxRecDepth 20000 in
theorem gX10_trim_X10_refuse : GoodIn wsX10_trim (wsV RX10 229 RX10 yX10_refuse wsX10_refuse) := goodIn_app (goodIn_of _ (by decide +kernel)) ggX10_trim_X10_refuse
set_option maxRecDepth 20000 in
theorem ggX10_trim_X3_keep : GoodIn wsX10_trim wsX3_keep := goodIn_r _ [21, 22, 23, 24, 25, 26, 20, 27, 28, 29, 30, 31, 32, 33, 34, 35, 36, 37, 38, 39, 40, 41, 42, 43, 44, 45, 46, 47, 81, 82, 70, 71, 72, 73, 74, 75, 76, 77, 78, 79, 80] (by decide +kernel) (by decide +kernel)
set_option maxRecDepth 20000 in
theorem gX10_trim_X3_keep : GoodIn wsX10_trim (wsV RX10 232 RX3 yX3_keep wsX3_keep) := goodIn_app (goodIn_of _ (by decide +kernel)) ggX10_trim_X3_keep
set_option maxRecDepth 20000 in
theorem ggX10_trim_X9_putOut : GoodIn wsX10_trim wsX9_putOut := goodIn_r _ [51, 36, 52, 53, 54, 31, 55, 47, 70, 71, 72, 73, 74, 75, 76, 77, 78, 79, 80] (by decide +kernel) (by decide +kernel)
set_option maxRecDepth 20000 in
theorem gX10_trim_X9_putOut : GoodIn wsX10_trim (wsV RX10 245 RX9 yX9_putOut wsX9_putOut) := goodIn_app (goodIn_of _ (by decide +kernel)) ggX10_trim_X9_putOut
theorem dX10_trim_0 : decode cX10_trim 0 = .ok (.aload_n 0, 1) := by decide +kernel
theorem dX10_trim_1 : decode cX10_trim 1 = .ok (.iload_n 1, 1) := by decide +kernel
theorem dX10_trim_2 : decode cX10_trim 2 = .ok (.invokevirtual 200, 3) := by decide +kernel
theorem dX10_trim_5 : decode cX10_trim 5 = .ok (.iload_n 2, 1) := by decide +kernel
theorem dX10_trim_6 : decode cX10_trim 6 = .ok (.ifCond .lt 9, 3) := by decide +kernel
theorem dX10_trim_9 : decode cX10_trim 9 = .ok (.iload_n 2, 1) := by decide +kernel
theorem dX10_trim_10 : decode cX10_trim 10 = .ok (.bipush 99, 2) := by decide +kernel
theorem dX10_trim_12 : decode cX10_trim 12 = .ok (.if_icmp .le 9, 3) := by decide +kernel
theorem dX10_trim_15 : decode cX10_trim 15 = .ok (.aload_n 0, 1) := by decide +kernel
theorem dX10_trim_16 : decode cX10_trim 16 = .ok (.iconst 1, 1) := by decide +kernel
theorem dX10_trim_17 : decode cX10_trim 17 = .ok (.invokevirtual 229, 3) := by decide +kernel
theorem dX10_trim_20 : decode cX10_trim 20 = .ok (.ireturn, 1) := by decide +kernel
theorem dX10_trim_21 : decode cX10_trim 21 = .ok (.aload_n 0, 1) := by decide +kernel
theorem dX10_trim_22 : decode cX10_trim 22 = .ok (.getfield 33, 3) := by decide +kernel
theorem dX10_trim_25 : decode cX10_trim 25 = .ok (.aload_n 0, 1) := by decide +kernel
theorem dX10_trim_26 : decode cX10_trim 26 = .ok (.getfield 26, 3) := by decide +kernel
theorem dX10_trim_29 : decode cX10_trim 29 = .ok (.invokevirtual 232, 3) := by decide +kernel
theorem dX10_trim_32 : decode cX10_trim 32 = .ok (.aload_n 0, 1) := by decide +kernel
theorem dX10_trim_33 : decode cX10_trim 33 = .ok (.getfield 26, 3) := by decide +kernel
theorem dX10_trim_36 : decode cX10_trim 36 = .ok (.getfield 206, 3) := by decide +kernel
theorem dX10_trim_39 : decode cX10_trim 39 = .ok (.iload_n 1, 1) := by decide +kernel
theorem dX10_trim_40 : decode cX10_trim 40 = .ok (.iaload, 1) := by decide +kernel
theorem dX10_trim_41 : decode cX10_trim 41 = .ok (.istore_n 3, 1) := by decide +kernel
theorem dX10_trim_42 : decode cX10_trim 42 = .ok (.aload_n 0, 1) := by decide +kernel
theorem dX10_trim_43 : decode cX10_trim 43 = .ok (.getfield 26, 3) := by decide +kernel
theorem dX10_trim_46 : decode cX10_trim 46 = .ok (.getfield 206, 3) := by decide +kernel
theorem dX10_trim_49 : decode cX10_trim 49 = .ok (.iload_n 1, 1) := by decide +kernel
theorem dX10_trim_50 : decode cX10_trim 50 = .ok (.iload_n 2, 1) := by decide +kernel
theorem dX10_trim_51 : decode cX10_trim 51 = .ok (.iastore, 1) := by decide +kernel
theorem dX10_trim_52 : decode cX10_trim 52 = .ok (.iload_n 2, 1) := by decide +kernel
theorem dX10_trim_53 : decode cX10_trim 53 = .ok (.ifCond .ne 11, 3) := by decide +kernel
theorem dX10_trim_56 : decode cX10_trim 56 = .ok (.aload_n 0, 1) := by decide +kernel
theorem dX10_trim_57 : decode cX10_trim 57 = .ok (.getfield 26, 3) := by decide +kernel
theorem dX10_trim_60 : decode cX10_trim 60 = .ok (.iload_n 1, 1) := by decide +kernel
theorem dX10_trim_61 : decode cX10_trim 61 = .ok (.invokevirtual 245, 3) := by decide +kernel
theorem dX10_trim_64 : decode cX10_trim 64 = .ok (.iload_n 3, 1) := by decide +kernel
theorem dX10_trim_65 : decode cX10_trim 65 = .ok (.ireturn, 1) := by decide +kernel
set_option maxRecDepth 20000 in
theorem ggX10_breaks_X10_needLamp : GoodIn wsX10_breaks wsX10_needLamp := goodIn_ca (goodIn_r _ [7, 8, 9, 1, 10, 63, 64, 65, 66, 67, 68, 69, 70, 71, 72, 73, 74, 75, 76, 77, 78, 79, 80, 81, 82, 83, 84, 85, 86, 87] (by decide +kernel) (by decide +kernel)) (goodIn_sub (fun _ h => List.mem_cons_of_mem _ (List.mem_append_right _ h)) (by decide +kernel))
set_option maxRecDepth 20000 in
theorem gX10_breaks_X10_needLamp : GoodIn wsX10_breaks (wsV RX10 200 RX10 yX10_needLamp wsX10_needLamp) := goodIn_app (goodIn_of _ (by decide +kernel)) ggX10_breaks_X10_needLamp
set_option maxRecDepth 20000 in
theorem ggX10_breaks_X9_isBroken : GoodIn wsX10_breaks wsX9_isBroken := goodIn_r _ [15, 16, 77, 78, 79, 80, 81, 82, 83, 84, 85, 86, 87] (by decide +kernel) (by decide +kernel)
set_option maxRecDepth 20000 in
theorem gX10_breaks_X9_isBroken : GoodIn wsX10_breaks (wsV RX10 216 RX9 yX9_isBroken wsX9_isBroken) := goodIn_app (goodIn_of _ (by decide +kernel)) ggX10_breaks_X9_isBroken
set_option maxRecDepth 20000 in
theorem ggX10_breaks_X10_refuse : GoodIn wsX10_breaks wsX10_refuse := goodIn_r _ [20, 21, 63, 64, 65, 66, 67, 68, 69, 70, 71, 72, 73, 74, 75, 76] (by decide +kernel) (by decide +kernel)
set_option maxRecDepth 20000 in
theorem gX10_breaks_X10_refuse : GoodIn wsX10_breaks (wsV RX10 229 RX10 yX10_refuse wsX10_refuse) := goodIn_app (goodIn_of _ (by decide +kernel)) ggX10_breaks_X10_refuse
set_option maxRecDepth 20000 in
theorem ggX10_breaks_X3_keep : GoodIn wsX10_breaks wsX3_keep := goodIn_r _ [26, 27, 28, 29, 30, 31, 25, 32, 33, 34, 35, 14, 36, 37, 38, 39, 40, 16, 41, 42, 43, 44, 45, 46, 47, 48, 49, 50, 88, 89, 77, 78, 79, 80, 81, 82, 83, 84, 85, 86, 87] (by decide +kernel) (by decide +kernel)
set_option maxRecDepth 20000 in
theorem gX10_breaks_X3_keep : GoodIn wsX10_breaks (wsV RX10 232 RX3 yX3_keep wsX3_keep) := goodIn_app (goodIn_of _ (by decide +kernel)) ggX10_breaks_X3_keep
set_option maxRecDepth 20000 in
theorem ggX10_breaks_X9_shatter : GoodIn wsX10_breaks wsX9_shatter := goodIn_r _ [54, 16, 55, 56, 57, 14, 58, 40, 59, 60, 61, 62, 50, 77, 78, 79, 80, 81, 82, 83, 84, 85, 86, 87] (by decide +kernel) (by decide +kernel)
set_option maxRecDepth 20000 in
theorem gX10_breaks_X9_shatter : GoodIn wsX10_breaks (wsV RX10 248 RX9 yX9_shatter wsX9_shatter) := goodIn_app (goodIn_of _ (by decide +kernel)) ggX10_breaks_X9_shatter
theorem dX10_breaks_0 : decode cX10_breaks 0 = .ok (.aload_n 0, 1) := by decide +kernel
theorem dX10_breaks_1 : decode cX10_breaks 1 = .ok (.iload_n 1, 1) := by decide +kernel
theorem dX10_breaks_2 : decode cX10_breaks 2 = .ok (.invokevirtual 200, 3) := by decide +kernel
theorem dX10_breaks_5 : decode cX10_breaks 5 = .ok (.aload_n 0, 1) := by decide +kernel
theorem dX10_breaks_6 : decode cX10_breaks 6 = .ok (.getfield 26, 3) := by decide +kernel
theorem dX10_breaks_9 : decode cX10_breaks 9 = .ok (.iload_n 1, 1) := by decide +kernel
theorem dX10_breaks_10 : decode cX10_breaks 10 = .ok (.invokevirtual 216, 3) := by decide +kernel
theorem dX10_breaks_13 : decode cX10_breaks 13 = .ok (.ifCond .eq 11, 3) := by decide +kernel
theorem dX10_breaks_16 : decode cX10_breaks 16 = .ok (.aload_n 0, 1) := by decide +kernel
theorem dX10_breaks_17 : decode cX10_breaks 17 = .ok (.iconst 1, 1) := by decide +kernel
theorem dX10_breaks_18 : decode cX10_breaks 18 = .ok (.invokevirtual 229, 3) := by decide +kernel
theorem dX10_breaks_21 : decode cX10_breaks 21 = .ok (.pop, 1) := by decide +kernel
theorem dX10_breaks_22 : decode cX10_breaks 22 = .ok (.iconst 0, 1) := by decide +kernel
theorem dX10_breaks_23 : decode cX10_breaks 23 = .ok (.ireturn, 1) := by decide +kernel
theorem dX10_breaks_24 : decode cX10_breaks 24 = .ok (.aload_n 0, 1) := by decide +kernel
theorem dX10_breaks_25 : decode cX10_breaks 25 = .ok (.getfield 33, 3) := by decide +kernel
theorem dX10_breaks_28 : decode cX10_breaks 28 = .ok (.aload_n 0, 1) := by decide +kernel
theorem dX10_breaks_29 : decode cX10_breaks 29 = .ok (.getfield 26, 3) := by decide +kernel
theorem dX10_breaks_32 : decode cX10_breaks 32 = .ok (.invokevirtual 232, 3) := by decide +kernel
theorem dX10_breaks_35 : decode cX10_breaks 35 = .ok (.aload_n 0, 1) := by decide +kernel
theorem dX10_breaks_36 : decode cX10_breaks 36 = .ok (.getfield 26, 3) := by decide +kernel
theorem dX10_breaks_39 : decode cX10_breaks 39 = .ok (.iload_n 1, 1) := by decide +kernel
theorem dX10_breaks_40 : decode cX10_breaks 40 = .ok (.invokevirtual 248, 3) := by decide +kernel
theorem dX10_breaks_43 : decode cX10_breaks 43 = .ok (.iconst 1, 1) := by decide +kernel
theorem dX10_breaks_44 : decode cX10_breaks 44 = .ok (.ireturn, 1) := by decide +kernel
set_option maxRecDepth 20000 in
theorem ggX10_give_X10_needLamp : GoodIn wsX10_give wsX10_needLamp := goodIn_ca (goodIn_r _ [8, 9, 10, 1, 11, 53, 54, 55, 56, 57, 58, 59, 60, 61, 62, 63, 64, 65, 66, 67, 68, 69, 70, 71, 72, 73, 74, 75, 76, 77] (by decide +kernel) (by decide +kernel)) (goodIn_sub (fun _ h => List.mem_cons_of_mem _ (List.mem_append_right _ h)) (by decide +kernel))
set_option maxRecDepth 20000 in
theorem gX10_give_X10_needLamp : GoodIn wsX10_give (wsV RX10 200 RX10 yX10_needLamp wsX10_needLamp) := goodIn_app (goodIn_of _ (by decide +kernel)) ggX10_give_X10_needLamp
set_option maxRecDepth 20000 in
theorem ggX10_give_X10_needHouse : GoodIn wsX10_give wsX10_needHouse := goodIn_ca (goodIn_r _ [15, 9, 10, 1, 16, 53, 54, 55, 56, 57, 58, 59, 60, 61, 62, 63, 64, 65, 66, 67, 68, 69, 70, 71, 72, 73, 74, 75, 76, 77] (by decide +kernel) (by decide +kernel)) (goodIn_sub (fun _ h => List.mem_cons_of_mem _ (List.mem_append_right _ h)) (by decide +kernel))
set_option maxRecDepth 20000 in
theorem gX10_give_X10_needHouse : GoodIn wsX10_give (wsV RX10 180 RX10 yX10_needHouse wsX10_needHouse) := goodIn_app (goodIn_of _ (by decide +kernel)) ggX10_give_X10_needHouse
set_option maxRecDepth 20000 in
theorem ggX10_give_X10_refuse : GoodIn wsX10_give wsX10_refuse := goodIn_r _ [20, 21, 53, 54, 55, 56, 57, 58, 59, 60, 61, 62, 63, 64, 65, 66] (by decide +kernel) (by decide +kernel)
set_option maxRecDepth 20000 in
theorem gX10_give_X10_refuse : GoodIn wsX10_give (wsV RX10 229 RX10 yX10_refuse wsX10_refuse) := goodIn_app (goodIn_of _ (by decide +kernel)) ggX10_give_X10_refuse
set_option maxRecDepth 20000 in
theorem ggX10_give_X3_keep : GoodIn wsX10_give wsX3_keep := goodIn_r _ [26, 27, 28, 29, 30, 31, 25, 32, 33, 34, 35, 36, 37, 38, 39, 40, 41, 42, 43, 44, 45, 46, 47, 48, 49, 50, 51, 52, 78, 79, 67, 68, 69, 70, 71, 72, 73, 74, 75, 76, 77] (by decide +kernel) (by decide +kernel)
set_option maxRecDepth 20000 in
theorem gX10_give_X3_keep : GoodIn wsX10_give (wsV RX10 232 RX3 yX3_keep wsX3_keep) := goodIn_app (goodIn_of _ (by decide +kernel)) ggX10_give_X3_keep
theorem dX10_give_0 : decode cX10_give 0 = .ok (.aload_n 0, 1) := by decide +kernel
theorem dX10_give_1 : decode cX10_give 1 = .ok (.iload_n 1, 1) := by decide +kernel
theorem dX10_give_2 : decode cX10_give 2 = .ok (.invokevirtual 200, 3) := by decide +kernel
theorem dX10_give_5 : decode cX10_give 5 = .ok (.aload_n 0, 1) := by decide +kernel
theorem dX10_give_6 : decode cX10_give 6 = .ok (.iload_n 2, 1) := by decide +kernel
theorem dX10_give_7 : decode cX10_give 7 = .ok (.invokevirtual 180, 3) := by decide +kernel
theorem dX10_give_10 : decode cX10_give 10 = .ok (.aload_n 0, 1) := by decide +kernel
theorem dX10_give_11 : decode cX10_give 11 = .ok (.getfield 26, 3) := by decide +kernel
theorem dX10_give_14 : decode cX10_give 14 = .ok (.getfield 203, 3) := by decide +kernel
theorem dX10_give_17 : decode cX10_give 17 = .ok (.iload_n 1, 1) := by decide +kernel
theorem dX10_give_18 : decode cX10_give 18 = .ok (.iaload, 1) := by decide +kernel
theorem dX10_give_19 : decode cX10_give 19 = .ok (.istore_n 3, 1) := by decide +kernel
theorem dX10_give_20 : decode cX10_give 20 = .ok (.iload_n 3, 1) := by decide +kernel
theorem dX10_give_21 : decode cX10_give 21 = .ok (.iload_n 2, 1) := by decide +kernel
theorem dX10_give_22 : decode cX10_give 22 = .ok (.if_icmp .ne 9, 3) := by decide +kernel
theorem dX10_give_25 : decode cX10_give 25 = .ok (.aload_n 0, 1) := by decide +kernel
theorem dX10_give_26 : decode cX10_give 26 = .ok (.iconst 1, 1) := by decide +kernel
theorem dX10_give_27 : decode cX10_give 27 = .ok (.invokevirtual 229, 3) := by decide +kernel
theorem dX10_give_30 : decode cX10_give 30 = .ok (.ireturn, 1) := by decide +kernel
theorem dX10_give_31 : decode cX10_give 31 = .ok (.aload_n 0, 1) := by decide +kernel
theorem dX10_give_32 : decode cX10_give 32 = .ok (.getfield 33, 3) := by decide +kernel
theorem dX10_give_35 : decode cX10_give 35 = .ok (.aload_n 0, 1) := by decide +kernel
theorem dX10_give_36 : decode cX10_give 36 = .ok (.getfield 26, 3) := by decide +kernel
theorem dX10_give_39 : decode cX10_give 39 = .ok (.invokevirtual 232, 3) := by decide +kernel
theorem dX10_give_42 : decode cX10_give 42 = .ok (.aload_n 0, 1) := by decide +kernel
theorem dX10_give_43 : decode cX10_give 43 = .ok (.getfield 26, 3) := by decide +kernel
theorem dX10_give_46 : decode cX10_give 46 = .ok (.getfield 203, 3) := by decide +kernel
theorem dX10_give_49 : decode cX10_give 49 = .ok (.iload_n 1, 1) := by decide +kernel
theorem dX10_give_50 : decode cX10_give 50 = .ok (.iload_n 2, 1) := by decide +kernel
theorem dX10_give_51 : decode cX10_give 51 = .ok (.iastore, 1) := by decide +kernel
theorem dX10_give_52 : decode cX10_give 52 = .ok (.iload_n 3, 1) := by decide +kernel
theorem dX10_give_53 : decode cX10_give 53 = .ok (.ireturn, 1) := by decide +kernel
set_option maxRecDepth 20000 in
theorem ggX10_sleep_X10_needHouse : GoodIn wsX10_sleep wsX10_needHouse := goodIn_ca (goodIn_r _ [9, 10, 11, 2, 12, 52, 53, 54, 55, 56, 57, 58, 59, 60, 61, 62, 63, 64, 65, 66, 67, 68, 69, 70, 71, 72, 73, 74, 75, 76] (by decide +kernel) (by decide +kernel)) (goodIn_sub (fun _ h => List.mem_cons_of_mem _ (List.mem_append_right _ h)) (by decide +kernel))
set_option maxRecDepth 20000 in
theorem gX10_sleep_X10_needHouse : GoodIn wsX10_sleep (wsV RX10 180 RX10 yX10_needHouse wsX10_needHouse) := goodIn_app (goodIn_of _ (by decide +kernel)) ggX10_sleep_X10_needHouse
set_option maxRecDepth 20000 in
theorem ggX10_sleep_X10_isHourOfDay : GoodIn wsX10_sleep wsX10_isHourOfDay := goodIn_r _ [15] (by decide +kernel) (by decide +kernel)
set_option maxRecDepth 20000 in
theorem gX10_sleep_X10_isHourOfDay : GoodIn wsX10_sleep (va_wsS RX10 251 yX10_isHourOfDay wsX10_isHourOfDay) := goodIn_app (goodIn_of _ (by decide +kernel)) ggX10_sleep_X10_isHourOfDay
set_option maxRecDepth 20000 in
theorem ggX10_sleep_X10_refuse : GoodIn wsX10_sleep wsX10_refuse := goodIn_r _ [19, 20, 52, 53, 54, 55, 56, 57, 58, 59, 60, 61, 62, 63, 64, 65] (by decide +kernel) (by decide +kernel)
set_option maxRecDepth 20000 in
theorem gX10_sleep_X10_refuse : GoodIn wsX10_sleep (wsV RX10 229 RX10 yX10_refuse wsX10_refuse) := goodIn_app (goodIn_of _ (by decide +kernel)) ggX10_sleep_X10_refuse
set_option maxRecDepth 20000 in
theorem ggX10_sleep_X3_keep : GoodIn wsX10_sleep wsX3_keep := goodIn_r _ [25, 26, 27, 28, 29, 30, 24, 31, 32, 33, 34, 35, 36, 37, 38, 39, 40, 41, 42, 43, 44, 45, 46, 47, 48, 49, 50, 51, 77, 78, 66, 67, 68, 69, 70, 71, 72, 73, 74, 75, 76] (by decide +kernel) (by decide +kernel)
set_option maxRecDepth 20000 in
theorem gX10_sleep_X3_keep : GoodIn wsX10_sleep (wsV RX10 232 RX3 yX3_keep wsX3_keep) := goodIn_app (goodIn_of _ (by decide +kernel)) ggX10_sleep_X3_keep
theorem dX10_sleep_0 : decode cX10_sleep 0 = .ok (.aload_n 0, 1) := by decide +kernel
theorem dX10_sleep_1 : decode cX10_sleep 1 = .ok (.iload_n 1, 1) := by decide +kernel
theorem dX10_sleep_2 : decode cX10_sleep 2 = .ok (.invokevirtual 180, 3) := by decide +kernel
theorem dX10_sleep_5 : decode cX10_sleep 5 = .ok (.iload_n 2, 1) := by decide +kernel
theorem dX10_sleep_6 : decode cX10_sleep 6 = .ok (.invokestatic 251, 3) := by decide +kernel
theorem dX10_sleep_9 : decode cX10_sleep 9 = .ok (.ifCond .eq 10, 3) := by decide +kernel
theorem dX10_sleep_12 : decode cX10_sleep 12 = .ok (.iload_n 3, 1) := by decide +kernel
theorem dX10_sleep_13 : decode cX10_sleep 13 = .ok (.invokestatic 251, 3) := by decide +kernel
theorem dX10_sleep_16 : decode cX10_sleep 16 = .ok (.ifCond .ne 9, 3) := by decide +kernel
theorem dX10_sleep_19 : decode cX10_sleep 19 = .ok (.aload_n 0, 1) := by decide +kernel
theorem dX10_sleep_20 : decode cX10_sleep 20 = .ok (.iconst 1, 1) := by decide +kernel
theorem dX10_sleep_21 : decode cX10_sleep 21 = .ok (.invokevirtual 229, 3) := by decide +kernel
theorem dX10_sleep_24 : decode cX10_sleep 24 = .ok (.ireturn, 1) := by decide +kernel
theorem dX10_sleep_25 : decode cX10_sleep 25 = .ok (.aload_n 0, 1) := by decide +kernel
theorem dX10_sleep_26 : decode cX10_sleep 26 = .ok (.getfield 33, 3) := by decide +kernel
theorem dX10_sleep_29 : decode cX10_sleep 29 = .ok (.aload_n 0, 1) := by decide +kernel
theorem dX10_sleep_30 : decode cX10_sleep 30 = .ok (.getfield 26, 3) := by decide +kernel
theorem dX10_sleep_33 : decode cX10_sleep 33 = .ok (.invokevirtual 232, 3) := by decide +kernel
theorem dX10_sleep_36 : decode cX10_sleep 36 = .ok (.aload_n 0, 1) := by decide +kernel
theorem dX10_sleep_37 : decode cX10_sleep 37 = .ok (.getfield 26, 3) := by decide +kernel
theorem dX10_sleep_40 : decode cX10_sleep 40 = .ok (.getfield 186, 3) := by decide +kernel
theorem dX10_sleep_43 : decode cX10_sleep 43 = .ok (.iload_n 1, 1) := by decide +kernel
theorem dX10_sleep_44 : decode cX10_sleep 44 = .ok (.iaload, 1) := by decide +kernel
theorem dX10_sleep_45 : decode cX10_sleep 45 = .ok (.bipush 24, 2) := by decide +kernel
theorem dX10_sleep_47 : decode cX10_sleep 47 = .ok (.imul, 1) := by decide +kernel
theorem dX10_sleep_48 : decode cX10_sleep 48 = .ok (.aload_n 0, 1) := by decide +kernel
theorem dX10_sleep_49 : decode cX10_sleep 49 = .ok (.getfield 26, 3) := by decide +kernel
theorem dX10_sleep_52 : decode cX10_sleep 52 = .ok (.getfield 189, 3) := by decide +kernel
theorem dX10_sleep_55 : decode cX10_sleep 55 = .ok (.iload_n 1, 1) := by decide +kernel
theorem dX10_sleep_56 : decode cX10_sleep 56 = .ok (.iaload, 1) := by decide +kernel
theorem dX10_sleep_57 : decode cX10_sleep 57 = .ok (.iadd, 1) := by decide +kernel
theorem dX10_sleep_58 : decode cX10_sleep 58 = .ok (.istore 4, 2) := by decide +kernel
theorem dX10_sleep_60 : decode cX10_sleep 60 = .ok (.aload_n 0, 1) := by decide +kernel
theorem dX10_sleep_61 : decode cX10_sleep 61 = .ok (.getfield 26, 3) := by decide +kernel
theorem dX10_sleep_64 : decode cX10_sleep 64 = .ok (.getfield 186, 3) := by decide +kernel
theorem dX10_sleep_67 : decode cX10_sleep 67 = .ok (.iload_n 1, 1) := by decide +kernel
theorem dX10_sleep_68 : decode cX10_sleep 68 = .ok (.iload_n 2, 1) := by decide +kernel
theorem dX10_sleep_69 : decode cX10_sleep 69 = .ok (.iastore, 1) := by decide +kernel
theorem dX10_sleep_70 : decode cX10_sleep 70 = .ok (.aload_n 0, 1) := by decide +kernel
theorem dX10_sleep_71 : decode cX10_sleep 71 = .ok (.getfield 26, 3) := by decide +kernel
theorem dX10_sleep_74 : decode cX10_sleep 74 = .ok (.getfield 189, 3) := by decide +kernel
theorem dX10_sleep_77 : decode cX10_sleep 77 = .ok (.iload_n 1, 1) := by decide +kernel
theorem dX10_sleep_78 : decode cX10_sleep 78 = .ok (.iload_n 3, 1) := by decide +kernel
theorem dX10_sleep_79 : decode cX10_sleep 79 = .ok (.iastore, 1) := by decide +kernel
theorem dX10_sleep_80 : decode cX10_sleep 80 = .ok (.iload 4, 2) := by decide +kernel
theorem dX10_sleep_82 : decode cX10_sleep 82 = .ok (.ireturn, 1) := by decide +kernel
set_option maxRecDepth 20000 in
theorem ggX10_undo_X3_takeBack : GoodIn wsX10_undo wsX3_takeBack := goodIn_r _ [8, 9, 10, 11, 12, 13, 14, 15, 16, 17, 18, 19, 20, 21, 22, 23, 24, 25, 26, 27, 28, 29, 30, 45, 46, 47, 48, 49, 50, 51, 52, 53, 54, 55, 56, 57] (by decide +kernel) (by decide +kernel)
set_option maxRecDepth 20000 in
theorem gX10_undo_X3_takeBack : GoodIn wsX10_undo (wsV RX10 254 RX3 yX3_takeBack wsX3_takeBack) := goodIn_app (goodIn_of _ (by decide +kernel)) ggX10_undo_X3_takeBack
theorem dX10_undo_0 : decode cX10_undo 0 = .ok (.aload_n 0, 1) := by decide +kernel
theorem dX10_undo_1 : decode cX10_undo 1 = .ok (.getfield 33, 3) := by decide +kernel
theorem dX10_undo_4 : decode cX10_undo 4 = .ok (.getfield 171, 3) := by decide +kernel
theorem dX10_undo_7 : decode cX10_undo 7 = .ok (.ifCond .ne 5, 3) := by decide +kernel
theorem dX10_undo_10 : decode cX10_undo 10 = .ok (.iconst (-1), 1) := by decide +kernel
theorem dX10_undo_11 : decode cX10_undo 11 = .ok (.ireturn, 1) := by decide +kernel
theorem dX10_undo_12 : decode cX10_undo 12 = .ok (.aload_n 0, 1) := by decide +kernel
theorem dX10_undo_13 : decode cX10_undo 13 = .ok (.getfield 33, 3) := by decide +kernel
theorem dX10_undo_16 : decode cX10_undo 16 = .ok (.aload_n 0, 1) := by decide +kernel
theorem dX10_undo_17 : decode cX10_undo 17 = .ok (.getfield 26, 3) := by decide +kernel
theorem dX10_undo_20 : decode cX10_undo 20 = .ok (.invokevirtual 254, 3) := by decide +kernel
theorem dX10_undo_23 : decode cX10_undo 23 = .ok (.aload_n 0, 1) := by decide +kernel
theorem dX10_undo_24 : decode cX10_undo 24 = .ok (.getfield 33, 3) := by decide +kernel
theorem dX10_undo_27 : decode cX10_undo 27 = .ok (.getfield 171, 3) := by decide +kernel
theorem dX10_undo_30 : decode cX10_undo 30 = .ok (.ireturn, 1) := by decide +kernel
set_option maxRecDepth 20000 in
theorem ggX10_then_X9_copyFrom : GoodIn wsX10_then wsX9_copyFrom := goodIn_r _ [12, 13, 14, 15, 16, 17, 18, 19, 20, 21, 22, 23, 24, 25, 26, 27, 139, 140, 141, 142, 143, 144, 145, 146, 147, 148, 149] (by decide +kernel) (by decide +kernel)
set_option maxRecDepth 20000 in
theorem gX10_then_X9_copyFrom : GoodIn wsX10_then (wsV RX10 119 RX9 yX9_copyFrom wsX9_copyFrom) := goodIn_app (goodIn_of _ (by decide +kernel)) ggX10_then_X9_copyFrom
set_option maxRecDepth 20000 in
theorem ggX10_then_X2_passHour : GoodIn wsX10_then wsX2_passHour := goodIn_r _ [32, 33, 34, 35, 36, 37, 38, 39, 40, 41, 42, 11, 43, 14, 25, 15, 44, 45, 46, 47, 23, 24, 48, 49, 50, 51, 52, 53, 54, 55, 56, 57, 58, 59, 60, 61, 62, 63, 64, 65, 66, 67, 68, 69, 70, 71, 72, 73, 74, 75, 76, 77, 78, 79, 80, 81, 82, 83, 84, 85, 86, 87, 88, 89, 90, 91, 92, 31, 93, 94, 95, 96, 97, 98, 16, 99, 100, 101, 102, 27, 26, 17, 103, 104, 105, 106, 107, 108, 109, 110, 111, 112, 113, 114, 115, 116, 117, 118, 119, 134, 135, 136, 137, 138, 139, 140, 141, 142, 143, 144, 145, 146, 147, 148, 149, 150, 151, 152, 153] (by decide +kernel) (by decide +kernel)
set_option maxRecDepth 20000 in
theorem gX10_then_X2_passHour : GoodIn wsX10_then (wsV RX10 235 RX2 yX2_passHour wsX2_passHour) := goodIn_app (goodIn_of _ (by decide +kernel)) ggX10_then_X2_passHour
theorem dX10_then_0 : decode cX10_then 0 = .ok (.iload_n 1, 1) := by decide +kernel
theorem dX10_then_1 : decode cX10_then 1 = .ok (.iconst 1, 1) := by decide +kernel
theorem dX10_then_2 : decode cX10_then 2 = .ok (.if_icmp .lt 9, 3) := by decide +kernel
theorem dX10_then_5 : decode cX10_then 5 = .ok (.iload_n 1, 1) := by decide +kernel
theorem dX10_then_6 : decode cX10_then 6 = .ok (.bipush 96, 2) := by decide +kernel
theorem dX10_then_8 : decode cX10_then 8 = .ok (.if_icmp .le 14, 3) := by decide +kernel
theorem dX10_then_11 : decode cX10_then 11 = .ok (.new 102, 3) := by decide +kernel
theorem dX10_then_14 : decode cX10_then 14 = .ok (.dup, 1) := by decide +kernel
theorem dX10_then_15 : decode cX10_then 15 = .ok (.ldc_w 257, 3) := by decide +kernel
theorem dX10_then_18 : decode cX10_then 18 = .ok (.invokespecial 106, 3) := by decide +kernel
theorem dX10_then_21 : decode cX10_then 21 = .ok (.athrow, 1) := by decide +kernel
theorem dX10_then_22 : decode cX10_then 22 = .ok (.aload_n 0, 1) := by decide +kernel
theorem dX10_then_23 : decode cX10_then 23 = .ok (.getfield 66, 3) := by decide +kernel
theorem dX10_then_26 : decode cX10_then 26 = .ok (.aload_n 0, 1) := by decide +kernel
theorem dX10_then_27 : decode cX10_then 27 = .ok (.getfield 26, 3) := by decide +kernel
theorem dX10_then_30 : decode cX10_then 30 = .ok (.invokevirtual 119, 3) := by decide +kernel
theorem dX10_then_33 : decode cX10_then 33 = .ok (.iconst 0, 1) := by decide +kernel
theorem dX10_then_34 : decode cX10_then 34 = .ok (.istore_n 2, 1) := by decide +kernel
theorem dX10_then_35 : decode cX10_then 35 = .ok (.iload_n 2, 1) := by decide +kernel
theorem dX10_then_36 : decode cX10_then 36 = .ok (.iload_n 1, 1) := by decide +kernel
theorem dX10_then_37 : decode cX10_then 37 = .ok (.if_icmp .ge 24, 3) := by decide +kernel
theorem dX10_then_40 : decode cX10_then 40 = .ok (.aload_n 0, 1) := by decide +kernel
theorem dX10_then_41 : decode cX10_then 41 = .ok (.getfield 62, 3) := by decide +kernel
theorem dX10_then_44 : decode cX10_then 44 = .ok (.aload_n 0, 1) := by decide +kernel
theorem dX10_then_45 : decode cX10_then 45 = .ok (.getfield 19, 3) := by decide +kernel
theorem dX10_then_48 : decode cX10_then 48 = .ok (.aload_n 0, 1) := by decide +kernel
theorem dX10_then_49 : decode cX10_then 49 = .ok (.getfield 66, 3) := by decide +kernel
theorem dX10_then_52 : decode cX10_then 52 = .ok (.invokevirtual 235, 3) := by decide +kernel
theorem dX10_then_55 : decode cX10_then 55 = .ok (.iinc 2 1, 3) := by decide +kernel
theorem dX10_then_58 : decode cX10_then 58 = .ok (.goto (-23), 3) := by decide +kernel
theorem dX10_then_61 : decode cX10_then 61 = .ok (.aload_n 0, 1) := by decide +kernel
theorem dX10_then_62 : decode cX10_then 62 = .ok (.getfield 62, 3) := by decide +kernel
theorem dX10_then_65 : decode cX10_then 65 = .ok (.getfield 259, 3) := by decide +kernel
theorem dX10_then_68 : decode cX10_then 68 = .ok (.ireturn, 1) := by decide +kernel
set_option maxRecDepth 20000 in
theorem ggX10_burnt_X10_needLamp : GoodIn wsX10_burnt wsX10_needLamp := goodIn_ca (goodIn_r _ [10, 11, 12, 2, 13, 131, 132, 133, 134, 135, 136, 137, 138, 139, 140, 141, 142, 143, 144, 145, 146, 147, 148, 149, 150, 151, 152, 153, 154, 155] (by decide +kernel) (by decide +kernel)) (goodIn_sub (fun _ h => List.mem_cons_of_mem _ (List.mem_append_left _ (List.mem_append_right _ h))) (by decide +kernel))
set_option maxRecDepth 20000 in
theorem gX10_burnt_X10_needLamp : GoodIn wsX10_burnt (wsV RX10 200 RX10 yX10_needLamp wsX10_needLamp) := goodIn_app (goodIn_of _ (by decide +kernel)) ggX10_burnt_X10_needLamp
set_option maxRecDepth 20000 in
theorem ggX10_burnt_X10_needAhead : GoodIn wsX10_burnt wsX10_needAhead := goodIn_ca (goodIn_r _ [16, 17, 18] (by decide +kernel) (by decide +kernel)) (goodIn_sub (fun _ h => List.mem_cons_of_mem _ (List.mem_append_right _ h)) (by decide +kernel))
set_option maxRecDepth 20000 in
theorem gX10_burnt_X10_needAhead : GoodIn wsX10_burnt (va_wsS RX10 262 yX10_needAhead wsX10_needAhead) := goodIn_app (goodIn_of _ (by decide +kernel)) ggX10_burnt_X10_needAhead
set_option maxRecDepth 20000 in
theorem ggX10_burnt_X9_copyFrom : GoodIn wsX10_burnt wsX9_copyFrom := goodIn_r _ [23, 24, 25, 26, 27, 28, 29, 30, 31, 32, 33, 34, 35, 36, 37, 38, 145, 146, 147, 148, 149, 150, 151, 152, 153, 154, 155] (by decide +kernel) (by decide +kernel)
set_option maxRecDepth 20000 in
theorem gX10_burnt_X9_copyFrom : GoodIn wsX10_burnt (wsV RX10 119 RX9 yX9_copyFrom wsX9_copyFrom) := goodIn_app (goodIn_of _ (by decide +kernel)) ggX10_burnt_X9_copyFrom
set_option maxRecDepth 20000 in
theorem ggX10_burnt_X2_passHour : GoodIn wsX10_burnt wsX2_passHour := goodIn_r _ [43, 44, 45, 46, 47, 48, 49, 50, 51, 52, 53, 22, 54, 25, 36, 26, 55, 56, 57, 58, 34, 35, 59, 60, 61, 62, 63, 64, 65, 66, 67, 68, 69, 70, 71, 72, 73, 74, 75, 76, 77, 78, 79, 80, 81, 82, 83, 84, 85, 86, 87, 88, 89, 90, 91, 92, 93, 94, 95, 96, 97, 98, 99, 100, 101, 102, 103, 42, 104, 105, 106, 107, 108, 109, 27, 110, 111, 112, 113, 38, 37, 28, 114, 115, 116, 117, 118, 119, 120, 121, 122, 123, 124, 125, 126, 127, 128, 129, 130, 156, 157, 158, 159, 160, 145, 146, 147, 148, 149, 150, 151, 152, 153, 154, 155, 161, 162, 163, 164] (by decide +kernel) (by decide +kernel)
set_option maxRecDepth 20000 in
theorem gX10_burnt_X2_passHour : GoodIn wsX10_burnt (wsV RX10 235 RX2 yX2_passHour wsX2_passHour) := goodIn_app (goodIn_of _ (by decide +kernel)) ggX10_burnt_X2_passHour
theorem dX10_burnt_0 : decode cX10_burnt 0 = .ok (.aload_n 0, 1) := by decide +kernel
theorem dX10_burnt_1 : decode cX10_burnt 1 = .ok (.iload_n 1, 1) := by decide +kernel
theorem dX10_burnt_2 : decode cX10_burnt 2 = .ok (.invokevirtual 200, 3) := by decide +kernel
theorem dX10_burnt_5 : decode cX10_burnt 5 = .ok (.iload_n 2, 1) := by decide +kernel
theorem dX10_burnt_6 : decode cX10_burnt 6 = .ok (.invokestatic 262, 3) := by decide +kernel
theorem dX10_burnt_9 : decode cX10_burnt 9 = .ok (.aload_n 0, 1) := by decide +kernel
theorem dX10_burnt_10 : decode cX10_burnt 10 = .ok (.getfield 66, 3) := by decide +kernel
theorem dX10_burnt_13 : decode cX10_burnt 13 = .ok (.aload_n 0, 1) := by decide +kernel
theorem dX10_burnt_14 : decode cX10_burnt 14 = .ok (.getfield 26, 3) := by decide +kernel
theorem dX10_burnt_17 : decode cX10_burnt 17 = .ok (.invokevirtual 119, 3) := by decide +kernel
theorem dX10_burnt_20 : decode cX10_burnt 20 = .ok (.iconst 0, 1) := by decide +kernel
theorem dX10_burnt_21 : decode cX10_burnt 21 = .ok (.istore_n 3, 1) := by decide +kernel
theorem dX10_burnt_22 : decode cX10_burnt 22 = .ok (.iload_n 3, 1) := by decide +kernel
theorem dX10_burnt_23 : decode cX10_burnt 23 = .ok (.iload_n 2, 1) := by decide +kernel
theorem dX10_burnt_24 : decode cX10_burnt 24 = .ok (.if_icmp .ge 24, 3) := by decide +kernel
theorem dX10_burnt_27 : decode cX10_burnt 27 = .ok (.aload_n 0, 1) := by decide +kernel
theorem dX10_burnt_28 : decode cX10_burnt 28 = .ok (.getfield 62, 3) := by decide +kernel
theorem dX10_burnt_31 : decode cX10_burnt 31 = .ok (.aload_n 0, 1) := by decide +kernel
theorem dX10_burnt_32 : decode cX10_burnt 32 = .ok (.getfield 19, 3) := by decide +kernel
theorem dX10_burnt_35 : decode cX10_burnt 35 = .ok (.aload_n 0, 1) := by decide +kernel
theorem dX10_burnt_36 : decode cX10_burnt 36 = .ok (.getfield 66, 3) := by decide +kernel
theorem dX10_burnt_39 : decode cX10_burnt 39 = .ok (.invokevirtual 235, 3) := by decide +kernel
theorem dX10_burnt_42 : decode cX10_burnt 42 = .ok (.iinc 3 1, 3) := by decide +kernel
theorem dX10_burnt_45 : decode cX10_burnt 45 = .ok (.goto (-23), 3) := by decide +kernel
theorem dX10_burnt_48 : decode cX10_burnt 48 = .ok (.aload_n 0, 1) := by decide +kernel
theorem dX10_burnt_49 : decode cX10_burnt 49 = .ok (.getfield 26, 3) := by decide +kernel
theorem dX10_burnt_52 : decode cX10_burnt 52 = .ok (.getfield 206, 3) := by decide +kernel
theorem dX10_burnt_55 : decode cX10_burnt 55 = .ok (.iload_n 1, 1) := by decide +kernel
theorem dX10_burnt_56 : decode cX10_burnt 56 = .ok (.iaload, 1) := by decide +kernel
theorem dX10_burnt_57 : decode cX10_burnt 57 = .ok (.aload_n 0, 1) := by decide +kernel
theorem dX10_burnt_58 : decode cX10_burnt 58 = .ok (.getfield 66, 3) := by decide +kernel
theorem dX10_burnt_61 : decode cX10_burnt 61 = .ok (.getfield 206, 3) := by decide +kernel
theorem dX10_burnt_64 : decode cX10_burnt 64 = .ok (.iload_n 1, 1) := by decide +kernel
theorem dX10_burnt_65 : decode cX10_burnt 65 = .ok (.iaload, 1) := by decide +kernel
theorem dX10_burnt_66 : decode cX10_burnt 66 = .ok (.isub, 1) := by decide +kernel
theorem dX10_burnt_67 : decode cX10_burnt 67 = .ok (.ireturn, 1) := by decide +kernel
set_option maxRecDepth 20000 in
theorem ggX10_shining_X10_needLamp : GoodIn wsX10_shining wsX10_needLamp := goodIn_ca (goodIn_r _ [10, 11, 12, 2, 13, 131, 132, 133, 134, 135, 136, 137, 138, 139, 140, 141, 142, 143, 144, 150, 151, 152, 153, 154, 155, 156, 157, 158, 159, 160] (by decide +kernel) (by decide +kernel)) (goodIn_sub (fun _ h => List.mem_cons_of_mem _ (List.mem_append_left _ (List.mem_append_right _ h))) (by decide +kernel))
set_option maxRecDepth 20000 in
theorem gX10_shining_X10_needLamp : GoodIn wsX10_shining (wsV RX10 200 RX10 yX10_needLamp wsX10_needLamp) := goodIn_app (goodIn_of _ (by decide +kernel)) ggX10_shining_X10_needLamp
set_option maxRecDepth 20000 in
theorem ggX10_shining_X10_needAhead : GoodIn wsX10_shining wsX10_needAhead := goodIn_ca (goodIn_r _ [16, 17, 18] (by decide +kernel) (by decide +kernel)) (goodIn_sub (fun _ h => List.mem_cons_of_mem _ (List.mem_append_right _ h)) (by decide +kernel))
set_option maxRecDepth 20000 in
theorem gX10_shining_X10_needAhead : GoodIn wsX10_shining (va_wsS RX10 262 yX10_needAhead wsX10_needAhead) := goodIn_app (goodIn_of _ (by decide +kernel)) ggX10_shining_X10_needAhead
set_option maxRecDepth 20000 in
theorem ggX10_shining_X9_copyFrom : GoodIn wsX10_shining wsX9_copyFrom := goodIn_r _ [23, 24, 25, 26, 27, 28, 29, 30, 31, 32, 33, 34, 35, 36, 37, 38, 150, 151, 152, 153, 154, 155, 156, 157, 158, 159, 160] (by decide +kernel) (by decide +kernel)
set_option maxRecDepth 20000 in
theorem gX10_shining_X9_copyFrom : GoodIn wsX10_shining (wsV RX10 119 RX9 yX9_copyFrom wsX9_copyFrom) := goodIn_app (goodIn_of _ (by decide +kernel)) ggX10_shining_X9_copyFrom
set_option maxRecDepth 20000 in
theorem ggX10_shining_X2_passHour : GoodIn wsX10_shining wsX2_passHour := goodIn_r _ [43, 44, 45, 46, 47, 48, 49, 50, 51, 52, 53, 22, 54, 25, 36, 26, 55, 56, 57, 58, 34, 35, 59, 60, 61, 62, 63, 64, 65, 66, 67, 68, 69, 70, 71, 72, 73, 74, 75, 76, 77, 78, 79, 80, 81, 82, 83, 84, 85, 86, 87, 88, 89, 90, 91, 92, 93, 94, 95, 96, 97, 98, 99, 100, 101, 102, 103, 42, 104, 105, 106, 107, 108, 109, 27, 110, 111, 112, 113, 38, 37, 28, 114, 115, 116, 117, 118, 119, 120, 121, 122, 123, 124, 125, 126, 127, 128, 129, 130, 145, 146, 147, 148, 149, 150, 151, 152, 153, 154, 155, 156, 157, 158, 159, 160, 161, 162, 163, 164] (by decide +kernel) (by decide +kernel)
set_option maxRecDepth 20000 in
theorem gX10_shining_X2_passHour : GoodIn wsX10_shining (wsV RX10 235 RX2 yX2_passHour wsX2_passHour) := goodIn_app (goodIn_of _ (by decide +kernel)) ggX10_shining_X2_passHour
theorem dX10_shining_0 : decode cX10_shining 0 = .ok (.aload_n 0, 1) := by decide +kernel
theorem dX10_shining_1 : decode cX10_shining 1 = .ok (.iload_n 1, 1) := by decide +kernel
theorem dX10_shining_2 : decode cX10_shining 2 = .ok (.invokevirtual 200, 3) := by decide +kernel
theorem dX10_shining_5 : decode cX10_shining 5 = .ok (.iload_n 2, 1) := by decide +kernel
theorem dX10_shining_6 : decode cX10_shining 6 = .ok (.invokestatic 262, 3) := by decide +kernel
theorem dX10_shining_9 : decode cX10_shining 9 = .ok (.aload_n 0, 1) := by decide +kernel
theorem dX10_shining_10 : decode cX10_shining 10 = .ok (.getfield 66, 3) := by decide +kernel
theorem dX10_shining_13 : decode cX10_shining 13 = .ok (.aload_n 0, 1) := by decide +kernel
theorem dX10_shining_14 : decode cX10_shining 14 = .ok (.getfield 26, 3) := by decide +kernel
theorem dX10_shining_17 : decode cX10_shining 17 = .ok (.invokevirtual 119, 3) := by decide +kernel
theorem dX10_shining_20 : decode cX10_shining 20 = .ok (.iconst 0, 1) := by decide +kernel
theorem dX10_shining_21 : decode cX10_shining 21 = .ok (.istore_n 3, 1) := by decide +kernel
theorem dX10_shining_22 : decode cX10_shining 22 = .ok (.iconst 0, 1) := by decide +kernel
theorem dX10_shining_23 : decode cX10_shining 23 = .ok (.istore 4, 2) := by decide +kernel
theorem dX10_shining_25 : decode cX10_shining 25 = .ok (.iload 4, 2) := by decide +kernel
theorem dX10_shining_27 : decode cX10_shining 27 = .ok (.iload_n 2, 1) := by decide +kernel
theorem dX10_shining_28 : decode cX10_shining 28 = .ok (.if_icmp .ge 38, 3) := by decide +kernel
theorem dX10_shining_31 : decode cX10_shining 31 = .ok (.aload_n 0, 1) := by decide +kernel
theorem dX10_shining_32 : decode cX10_shining 32 = .ok (.getfield 62, 3) := by decide +kernel
theorem dX10_shining_35 : decode cX10_shining 35 = .ok (.aload_n 0, 1) := by decide +kernel
theorem dX10_shining_36 : decode cX10_shining 36 = .ok (.getfield 19, 3) := by decide +kernel
theorem dX10_shining_39 : decode cX10_shining 39 = .ok (.aload_n 0, 1) := by decide +kernel
theorem dX10_shining_40 : decode cX10_shining 40 = .ok (.getfield 66, 3) := by decide +kernel
theorem dX10_shining_43 : decode cX10_shining 43 = .ok (.invokevirtual 235, 3) := by decide +kernel
theorem dX10_shining_46 : decode cX10_shining 46 = .ok (.iload_n 3, 1) := by decide +kernel
theorem dX10_shining_47 : decode cX10_shining 47 = .ok (.aload_n 0, 1) := by decide +kernel
theorem dX10_shining_48 : decode cX10_shining 48 = .ok (.getfield 62, 3) := by decide +kernel
theorem dX10_shining_51 : decode cX10_shining 51 = .ok (.getfield 259, 3) := by decide +kernel
theorem dX10_shining_54 : decode cX10_shining 54 = .ok (.iload_n 1, 1) := by decide +kernel
theorem dX10_shining_55 : decode cX10_shining 55 = .ok (.ishr, 1) := by decide +kernel
theorem dX10_shining_56 : decode cX10_shining 56 = .ok (.iconst 1, 1) := by decide +kernel
theorem dX10_shining_57 : decode cX10_shining 57 = .ok (.iand, 1) := by decide +kernel
theorem dX10_shining_58 : decode cX10_shining 58 = .ok (.iadd, 1) := by decide +kernel
theorem dX10_shining_59 : decode cX10_shining 59 = .ok (.istore_n 3, 1) := by decide +kernel
theorem dX10_shining_60 : decode cX10_shining 60 = .ok (.iinc 4 1, 3) := by decide +kernel
theorem dX10_shining_63 : decode cX10_shining 63 = .ok (.goto (-38), 3) := by decide +kernel
theorem dX10_shining_66 : decode cX10_shining 66 = .ok (.iload_n 3, 1) := by decide +kernel
theorem dX10_shining_67 : decode cX10_shining 67 = .ok (.ireturn, 1) := by decide +kernel
set_option maxRecDepth 20000 in
theorem ggX10_soonest_X10_needLamp : GoodIn wsX10_soonest wsX10_needLamp := goodIn_ca (goodIn_r _ [10, 11, 12, 2, 13, 126, 127, 128, 129, 130, 131, 132, 133, 134, 135, 136, 137, 138, 139, 145, 146, 147, 148, 149, 150, 151, 152, 153, 154, 155] (by decide +kernel) (by decide +kernel)) (goodIn_sub (fun _ h => List.mem_cons_of_mem _ (List.mem_append_right _ h)) (by decide +kernel))
set_option maxRecDepth 20000 in
theorem gX10_soonest_X10_needLamp : GoodIn wsX10_soonest (wsV RX10 200 RX10 yX10_needLamp wsX10_needLamp) := goodIn_app (goodIn_of _ (by decide +kernel)) ggX10_soonest_X10_needLamp
set_option maxRecDepth 20000 in
theorem ggX10_soonest_X9_copyFrom : GoodIn wsX10_soonest wsX9_copyFrom := goodIn_r _ [18, 19, 20, 21, 22, 23, 24, 25, 26, 27, 28, 29, 30, 31, 32, 33, 145, 146, 147, 148, 149, 150, 151, 152, 153, 154, 155] (by decide +kernel) (by decide +kernel)
set_option maxRecDepth 20000 in
theorem gX10_soonest_X9_copyFrom : GoodIn wsX10_soonest (wsV RX10 119 RX9 yX9_copyFrom wsX9_copyFrom) := goodIn_app (goodIn_of _ (by decide +kernel)) ggX10_soonest_X9_copyFrom
set_option maxRecDepth 20000 in
theorem ggX10_soonest_X2_passHour : GoodIn wsX10_soonest wsX2_passHour := goodIn_r _ [38, 39, 40, 41, 42, 43, 44, 45, 46, 47, 48, 17, 49, 20, 31, 21, 50, 51, 52, 53, 29, 30, 54, 55, 56, 57, 58, 59, 60, 61, 62, 63, 64, 65, 66, 67, 68, 69, 70, 71, 72, 73, 74, 75, 76, 77, 78, 79, 80, 81, 82, 83, 84, 85, 86, 87, 88, 89, 90, 91, 92, 93, 94, 95, 96, 97, 98, 37, 99, 100, 101, 102, 103, 104, 22, 105, 106, 107, 108, 33, 32, 23, 109, 110, 111, 112, 113, 114, 115, 116, 117, 118, 119, 120, 121, 122, 123, 124, 125, 140, 141, 142, 143, 144, 145, 146, 147, 148, 149, 150, 151, 152, 153, 154, 155, 156, 157, 158, 159] (by decide +kernel) (by decide +kernel)
set_option maxRecDepth 20000 in
theorem gX10_soonest_X2_passHour : GoodIn wsX10_soonest (wsV RX10 235 RX2 yX2_passHour wsX2_passHour) := goodIn_app (goodIn_of _ (by decide +kernel)) ggX10_soonest_X2_passHour
theorem dX10_soonest_0 : decode cX10_soonest 0 = .ok (.aload_n 0, 1) := by decide +kernel
theorem dX10_soonest_1 : decode cX10_soonest 1 = .ok (.iload_n 1, 1) := by decide +kernel
theorem dX10_soonest_2 : decode cX10_soonest 2 = .ok (.invokevirtual 200, 3) := by decide +kernel
theorem dX10_soonest_5 : decode cX10_soonest 5 = .ok (.aload_n 0, 1) := by decide +kernel
theorem dX10_soonest_6 : decode cX10_soonest 6 = .ok (.getfield 66, 3) := by decide +kernel
theorem dX10_soonest_9 : decode cX10_soonest 9 = .ok (.aload_n 0, 1) := by decide +kernel
theorem dX10_soonest_10 : decode cX10_soonest 10 = .ok (.getfield 26, 3) := by decide +kernel
theorem dX10_soonest_13 : decode cX10_soonest 13 = .ok (.invokevirtual 119, 3) := by decide +kernel
theorem dX10_soonest_16 : decode cX10_soonest 16 = .ok (.iconst 1, 1) := by decide +kernel
theorem dX10_soonest_17 : decode cX10_soonest 17 = .ok (.istore_n 2, 1) := by decide +kernel
theorem dX10_soonest_18 : decode cX10_soonest 18 = .ok (.iload_n 2, 1) := by decide +kernel
theorem dX10_soonest_19 : decode cX10_soonest 19 = .ok (.bipush 96, 2) := by decide +kernel
theorem dX10_soonest_21 : decode cX10_soonest 21 = .ok (.if_icmp .gt 41, 3) := by decide +kernel
theorem dX10_soonest_24 : decode cX10_soonest 24 = .ok (.aload_n 0, 1) := by decide +kernel
theorem dX10_soonest_25 : decode cX10_soonest 25 = .ok (.getfield 62, 3) := by decide +kernel
theorem dX10_soonest_28 : decode cX10_soonest 28 = .ok (.aload_n 0, 1) := by decide +kernel
theorem dX10_soonest_29 : decode cX10_soonest 29 = .ok (.getfield 19, 3) := by decide +kernel
theorem dX10_soonest_32 : decode cX10_soonest 32 = .ok (.aload_n 0, 1) := by decide +kernel
theorem dX10_soonest_33 : decode cX10_soonest 33 = .ok (.getfield 66, 3) := by decide +kernel
theorem dX10_soonest_36 : decode cX10_soonest 36 = .ok (.invokevirtual 235, 3) := by decide +kernel
theorem dX10_soonest_39 : decode cX10_soonest 39 = .ok (.aload_n 0, 1) := by decide +kernel
theorem dX10_soonest_40 : decode cX10_soonest 40 = .ok (.getfield 62, 3) := by decide +kernel
theorem dX10_soonest_43 : decode cX10_soonest 43 = .ok (.getfield 259, 3) := by decide +kernel
theorem dX10_soonest_46 : decode cX10_soonest 46 = .ok (.iload_n 1, 1) := by decide +kernel
theorem dX10_soonest_47 : decode cX10_soonest 47 = .ok (.ishr, 1) := by decide +kernel
theorem dX10_soonest_48 : decode cX10_soonest 48 = .ok (.iconst 1, 1) := by decide +kernel
theorem dX10_soonest_49 : decode cX10_soonest 49 = .ok (.iand, 1) := by decide +kernel
theorem dX10_soonest_50 : decode cX10_soonest 50 = .ok (.iconst 1, 1) := by decide +kernel
theorem dX10_soonest_51 : decode cX10_soonest 51 = .ok (.if_icmp .ne 5, 3) := by decide +kernel
theorem dX10_soonest_54 : decode cX10_soonest 54 = .ok (.iload_n 2, 1) := by decide +kernel
theorem dX10_soonest_55 : decode cX10_soonest 55 = .ok (.ireturn, 1) := by decide +kernel
theorem dX10_soonest_56 : decode cX10_soonest 56 = .ok (.iinc 2 1, 3) := by decide +kernel
theorem dX10_soonest_59 : decode cX10_soonest 59 = .ok (.goto (-41), 3) := by decide +kernel
theorem dX10_soonest_62 : decode cX10_soonest 62 = .ok (.iconst (-1), 1) := by decide +kernel
theorem dX10_soonest_63 : decode cX10_soonest 63 = .ok (.ireturn, 1) := by decide +kernel
set_option maxRecDepth 20000 in
theorem ggX10_busiest_X10_needHourOrMany : GoodIn wsX10_busiest wsX10_needHourOrMany := goodIn_ca (goodIn_r _ [4, 5, 6] (by decide +kernel) (by decide +kernel)) (goodIn_sub (fun _ h => List.mem_cons_of_mem _ (List.mem_append_right _ h)) (by decide +kernel))
set_option maxRecDepth 20000 in
theorem gX10_busiest_X10_needHourOrMany : GoodIn wsX10_busiest (va_wsS RX10 265 yX10_needHourOrMany wsX10_needHourOrMany) := goodIn_app (goodIn_of _ (by decide +kernel)) ggX10_busiest_X10_needHourOrMany
set_option maxRecDepth 20000 in
theorem ggX10_busiest_X10_wantedByAwake : GoodIn wsX10_busiest wsX10_wantedByAwake := goodIn_r _ [10, 11, 12, 13, 14, 15, 16, 17, 18, 19, 20, 21, 22, 23, 24, 25, 26, 27, 28, 29, 30, 31, 32, 33, 34, 35, 36, 37, 38, 39, 40, 41, 42, 43, 44, 45, 46, 47, 48, 49, 50, 51, 52, 53, 54, 55, 56, 57, 58, 59, 60, 61, 62, 63, 64, 65, 66, 67, 68, 69, 70, 71, 72, 73, 74, 75, 76, 77, 78, 79, 80, 81, 82, 83, 84, 85, 86, 87, 88, 89, 90, 91, 92, 93, 94] (by decide +kernel) (by decide +kernel)
set_option maxRecDepth 20000 in
theorem gX10_busiest_X10_wantedByAwake : GoodIn wsX10_busiest (wsV RX10 268 RX10 yX10_wantedByAwake wsX10_wantedByAwake) := goodIn_app (goodIn_of _ (by decide +kernel)) ggX10_busiest_X10_wantedByAwake
theorem dX10_busiest_0 : decode cX10_busiest 0 = .ok (.iload_n 1, 1) := by decide +kernel
theorem dX10_busiest_1 : decode cX10_busiest 1 = .ok (.invokestatic 265, 3) := by decide +kernel
theorem dX10_busiest_4 : decode cX10_busiest 4 = .ok (.iconst (-1), 1) := by decide +kernel
theorem dX10_busiest_5 : decode cX10_busiest 5 = .ok (.istore_n 2, 1) := by decide +kernel
theorem dX10_busiest_6 : decode cX10_busiest 6 = .ok (.iconst 0, 1) := by decide +kernel
theorem dX10_busiest_7 : decode cX10_busiest 7 = .ok (.istore_n 3, 1) := by decide +kernel
theorem dX10_busiest_8 : decode cX10_busiest 8 = .ok (.iconst 0, 1) := by decide +kernel
theorem dX10_busiest_9 : decode cX10_busiest 9 = .ok (.istore 4, 2) := by decide +kernel
theorem dX10_busiest_11 : decode cX10_busiest 11 = .ok (.iload 4, 2) := by decide +kernel
theorem dX10_busiest_13 : decode cX10_busiest 13 = .ok (.bipush 24, 2) := by decide +kernel
theorem dX10_busiest_15 : decode cX10_busiest 15 = .ok (.if_icmp .ge 29, 3) := by decide +kernel
theorem dX10_busiest_18 : decode cX10_busiest 18 = .ok (.aload_n 0, 1) := by decide +kernel
theorem dX10_busiest_19 : decode cX10_busiest 19 = .ok (.iload 4, 2) := by decide +kernel
theorem dX10_busiest_21 : decode cX10_busiest 21 = .ok (.invokevirtual 268, 3) := by decide +kernel
theorem dX10_busiest_24 : decode cX10_busiest 24 = .ok (.istore 5, 2) := by decide +kernel
theorem dX10_busiest_26 : decode cX10_busiest 26 = .ok (.iload 5, 2) := by decide +kernel
theorem dX10_busiest_28 : decode cX10_busiest 28 = .ok (.iload_n 3, 1) := by decide +kernel
theorem dX10_busiest_29 : decode cX10_busiest 29 = .ok (.if_icmp .le 9, 3) := by decide +kernel
theorem dX10_busiest_32 : decode cX10_busiest 32 = .ok (.iload 5, 2) := by decide +kernel
theorem dX10_busiest_34 : decode cX10_busiest 34 = .ok (.istore_n 3, 1) := by decide +kernel
theorem dX10_busiest_35 : decode cX10_busiest 35 = .ok (.iload 4, 2) := by decide +kernel
theorem dX10_busiest_37 : decode cX10_busiest 37 = .ok (.istore_n 2, 1) := by decide +kernel
theorem dX10_busiest_38 : decode cX10_busiest 38 = .ok (.iinc 4 1, 3) := by decide +kernel
theorem dX10_busiest_41 : decode cX10_busiest 41 = .ok (.goto (-30), 3) := by decide +kernel
theorem dX10_busiest_44 : decode cX10_busiest 44 = .ok (.iload_n 1, 1) := by decide +kernel
theorem dX10_busiest_45 : decode cX10_busiest 45 = .ok (.ifCond .ne 7, 3) := by decide +kernel
theorem dX10_busiest_48 : decode cX10_busiest 48 = .ok (.iload_n 2, 1) := by decide +kernel
theorem dX10_busiest_49 : decode cX10_busiest 49 = .ok (.goto 4, 3) := by decide +kernel
theorem dX10_busiest_52 : decode cX10_busiest 52 = .ok (.iload_n 3, 1) := by decide +kernel
theorem dX10_busiest_53 : decode cX10_busiest 53 = .ok (.ireturn, 1) := by decide +kernel
set_option maxRecDepth 20000 in
theorem ggX10_lasts_X10_needLamp : GoodIn wsX10_lasts wsX10_needLamp := goodIn_ca (goodIn_r _ [10, 11, 12, 2, 13, 126, 127, 128, 129, 130, 131, 132, 133, 134, 135, 136, 137, 138, 139, 140, 141, 142, 143, 144, 145, 146, 147, 148, 149, 150] (by decide +kernel) (by decide +kernel)) (goodIn_sub (fun _ h => List.mem_cons_of_mem _ (List.mem_append_right _ h)) (by decide +kernel))
set_option maxRecDepth 20000 in
theorem gX10_lasts_X10_needLamp : GoodIn wsX10_lasts (wsV RX10 200 RX10 yX10_needLamp wsX10_needLamp) := goodIn_app (goodIn_of _ (by decide +kernel)) ggX10_lasts_X10_needLamp
set_option maxRecDepth 20000 in
theorem ggX10_lasts_X9_copyFrom : GoodIn wsX10_lasts wsX9_copyFrom := goodIn_r _ [18, 19, 20, 21, 22, 23, 24, 25, 26, 27, 28, 29, 30, 31, 32, 33, 140, 141, 142, 143, 144, 145, 146, 147, 148, 149, 150] (by decide +kernel) (by decide +kernel)
set_option maxRecDepth 20000 in
theorem gX10_lasts_X9_copyFrom : GoodIn wsX10_lasts (wsV RX10 119 RX9 yX9_copyFrom wsX9_copyFrom) := goodIn_app (goodIn_of _ (by decide +kernel)) ggX10_lasts_X9_copyFrom
set_option maxRecDepth 20000 in
theorem ggX10_lasts_X2_passHour : GoodIn wsX10_lasts wsX2_passHour := goodIn_r _ [38, 39, 40, 41, 42, 43, 44, 45, 46, 47, 48, 17, 49, 20, 31, 21, 50, 51, 52, 53, 29, 30, 54, 55, 56, 57, 58, 59, 60, 61, 62, 63, 64, 65, 66, 67, 68, 69, 70, 71, 72, 73, 74, 75, 76, 77, 78, 79, 80, 81, 82, 83, 84, 85, 86, 87, 88, 89, 90, 91, 92, 93, 94, 95, 96, 97, 98, 37, 99, 100, 101, 102, 103, 104, 22, 105, 106, 107, 108, 33, 32, 23, 109, 110, 111, 112, 113, 114, 115, 116, 117, 118, 119, 120, 121, 122, 123, 124, 125, 151, 152, 153, 154, 155, 140, 141, 142, 143, 144, 145, 146, 147, 148, 149, 150, 156, 157, 158, 159] (by decide +kernel) (by decide +kernel)
set_option maxRecDepth 20000 in
theorem gX10_lasts_X2_passHour : GoodIn wsX10_lasts (wsV RX10 235 RX2 yX2_passHour wsX2_passHour) := goodIn_app (goodIn_of _ (by decide +kernel)) ggX10_lasts_X2_passHour
theorem dX10_lasts_0 : decode cX10_lasts 0 = .ok (.aload_n 0, 1) := by decide +kernel
theorem dX10_lasts_1 : decode cX10_lasts 1 = .ok (.iload_n 1, 1) := by decide +kernel
theorem dX10_lasts_2 : decode cX10_lasts 2 = .ok (.invokevirtual 200, 3) := by decide +kernel
theorem dX10_lasts_5 : decode cX10_lasts 5 = .ok (.aload_n 0, 1) := by decide +kernel
theorem dX10_lasts_6 : decode cX10_lasts 6 = .ok (.getfield 66, 3) := by decide +kernel
theorem dX10_lasts_9 : decode cX10_lasts 9 = .ok (.aload_n 0, 1) := by decide +kernel
theorem dX10_lasts_10 : decode cX10_lasts 10 = .ok (.getfield 26, 3) := by decide +kernel
theorem dX10_lasts_13 : decode cX10_lasts 13 = .ok (.invokevirtual 119, 3) := by decide +kernel
theorem dX10_lasts_16 : decode cX10_lasts 16 = .ok (.iconst 0, 1) := by decide +kernel
theorem dX10_lasts_17 : decode cX10_lasts 17 = .ok (.istore_n 2, 1) := by decide +kernel
theorem dX10_lasts_18 : decode cX10_lasts 18 = .ok (.iload_n 2, 1) := by decide +kernel
theorem dX10_lasts_19 : decode cX10_lasts 19 = .ok (.bipush 96, 2) := by decide +kernel
theorem dX10_lasts_21 : decode cX10_lasts 21 = .ok (.if_icmp .gt 38, 3) := by decide +kernel
theorem dX10_lasts_24 : decode cX10_lasts 24 = .ok (.aload_n 0, 1) := by decide +kernel
theorem dX10_lasts_25 : decode cX10_lasts 25 = .ok (.getfield 66, 3) := by decide +kernel
theorem dX10_lasts_28 : decode cX10_lasts 28 = .ok (.getfield 206, 3) := by decide +kernel
theorem dX10_lasts_31 : decode cX10_lasts 31 = .ok (.iload_n 1, 1) := by decide +kernel
theorem dX10_lasts_32 : decode cX10_lasts 32 = .ok (.iaload, 1) := by decide +kernel
theorem dX10_lasts_33 : decode cX10_lasts 33 = .ok (.ifCond .ne 5, 3) := by decide +kernel
theorem dX10_lasts_36 : decode cX10_lasts 36 = .ok (.iload_n 2, 1) := by decide +kernel
theorem dX10_lasts_37 : decode cX10_lasts 37 = .ok (.ireturn, 1) := by decide +kernel
theorem dX10_lasts_38 : decode cX10_lasts 38 = .ok (.aload_n 0, 1) := by decide +kernel
theorem dX10_lasts_39 : decode cX10_lasts 39 = .ok (.getfield 62, 3) := by decide +kernel
theorem dX10_lasts_42 : decode cX10_lasts 42 = .ok (.aload_n 0, 1) := by decide +kernel
theorem dX10_lasts_43 : decode cX10_lasts 43 = .ok (.getfield 19, 3) := by decide +kernel
theorem dX10_lasts_46 : decode cX10_lasts 46 = .ok (.aload_n 0, 1) := by decide +kernel
theorem dX10_lasts_47 : decode cX10_lasts 47 = .ok (.getfield 66, 3) := by decide +kernel
theorem dX10_lasts_50 : decode cX10_lasts 50 = .ok (.invokevirtual 235, 3) := by decide +kernel
theorem dX10_lasts_53 : decode cX10_lasts 53 = .ok (.iinc 2 1, 3) := by decide +kernel
theorem dX10_lasts_56 : decode cX10_lasts 56 = .ok (.goto (-38), 3) := by decide +kernel
theorem dX10_lasts_59 : decode cX10_lasts 59 = .ok (.iconst (-1), 1) := by decide +kernel
theorem dX10_lasts_60 : decode cX10_lasts 60 = .ok (.ireturn, 1) := by decide +kernel
set_option maxRecDepth 20000 in
theorem ggX10_grief_X10_needHouse : GoodIn wsX10_grief wsX10_needHouse := goodIn_ca (goodIn_r _ [10, 11, 12, 2, 13, 133, 134, 135, 136, 137, 138, 139, 140, 141, 142, 143, 144, 145, 146, 152, 153, 154, 155, 156, 157, 158, 159, 160, 161, 162] (by decide +kernel) (by decide +kernel)) (goodIn_sub (fun _ h => List.mem_cons_of_mem _ (List.mem_append_left _ (List.mem_append_right _ h))) (by decide +kernel))
set_option maxRecDepth 20000 in
theorem gX10_grief_X10_needHouse : GoodIn wsX10_grief (wsV RX10 180 RX10 yX10_needHouse wsX10_needHouse) := goodIn_app (goodIn_of _ (by decide +kernel)) ggX10_grief_X10_needHouse
set_option maxRecDepth 20000 in
theorem ggX10_grief_X10_needAhead : GoodIn wsX10_grief wsX10_needAhead := goodIn_ca (goodIn_r _ [16, 17, 18] (by decide +kernel) (by decide +kernel)) (goodIn_sub (fun _ h => List.mem_cons_of_mem _ (List.mem_append_right _ h)) (by decide +kernel))
set_option maxRecDepth 20000 in
theorem gX10_grief_X10_needAhead : GoodIn wsX10_grief (va_wsS RX10 262 yX10_needAhead wsX10_needAhead) := goodIn_app (goodIn_of _ (by decide +kernel)) ggX10_grief_X10_needAhead
set_option maxRecDepth 20000 in
theorem ggX10_grief_X9_copyFrom : GoodIn wsX10_grief wsX9_copyFrom := goodIn_r _ [23, 24, 25, 26, 27, 28, 29, 30, 31, 32, 33, 34, 35, 36, 37, 38, 152, 153, 154, 155, 156, 157, 158, 159, 160, 161, 162] (by decide +kernel) (by decide +kernel)
set_option maxRecDepth 20000 in
theorem gX10_grief_X9_copyFrom : GoodIn wsX10_grief (wsV RX10 119 RX9 yX9_copyFrom wsX9_copyFrom) := goodIn_app (goodIn_of _ (by decide +kernel)) ggX10_grief_X9_copyFrom
set_option maxRecDepth 20000 in
theorem ggX10_grief_X9_lampsOf : GoodIn wsX10_grief wsX9_lampsOf := goodIn_r _ [42, 25, 36, 152, 153, 154, 155, 156, 157, 158, 159, 160, 161, 162] (by decide +kernel) (by decide +kernel)
set_option maxRecDepth 20000 in
theorem gX10_grief_X9_lampsOf : GoodIn wsX10_grief (wsV RX10 192 RX9 yX9_lampsOf wsX9_lampsOf) := goodIn_app (goodIn_of _ (by decide +kernel)) ggX10_grief_X9_lampsOf
set_option maxRecDepth 20000 in
theorem ggX10_grief_X2_passHour : GoodIn wsX10_grief wsX2_passHour := goodIn_r _ [47, 48, 49, 50, 51, 52, 53, 54, 55, 56, 57, 22, 58, 25, 36, 26, 59, 60, 61, 62, 34, 35, 63, 64, 65, 66, 67, 68, 69, 70, 71, 72, 73, 74, 75, 76, 77, 78, 79, 80, 81, 40, 41, 42, 82, 83, 84, 85, 86, 87, 88, 89, 90, 91, 92, 93, 94, 95, 96, 97, 98, 99, 100, 101, 102, 103, 104, 46, 105, 106, 107, 108, 109, 110, 27, 111, 112, 113, 114, 38, 37, 28, 115, 116, 117, 118, 119, 120, 121, 122, 123, 124, 125, 126, 127, 128, 129, 130, 131, 147, 148, 149, 150, 151, 152, 153, 154, 155, 156, 157, 158, 159, 160, 161, 162, 163, 164, 165, 166] (by decide +kernel) (by decide +kernel)
set_option maxRecDepth 20000 in
theorem gX10_grief_X2_passHour : GoodIn wsX10_grief (wsV RX10 235 RX2 yX2_passHour wsX2_passHour) := goodIn_app (goodIn_of _ (by decide +kernel)) ggX10_grief_X2_passHour
set_option maxRecDepth 20000 in
theorem ggX10_grief_J6_bitCount_0f7a4 : GoodIn wsX10_grief wsJ6_bitCount_0f7a4 := goodIn_r _ [85, 86, 87, 88] (by decide +kernel) (by decide +kernel)
set_option maxRecDepth 20000 in
theorem gX10_grief_J6_bitCount_0f7a4 : GoodIn wsX10_grief (va_wsS RX10 145 yJ6_bitCount_0f7a4 wsJ6_bitCount_0f7a4) := goodIn_app (goodIn_of _ (by decide +kernel)) ggX10_grief_J6_bitCount_0f7a4
theorem dX10_grief_0 : decode cX10_grief 0 = .ok (.aload_n 0, 1) := by decide +kernel
theorem dX10_grief_1 : decode cX10_grief 1 = .ok (.iload_n 1, 1) := by decide +kernel
theorem dX10_grief_2 : decode cX10_grief 2 = .ok (.invokevirtual 180, 3) := by decide +kernel
theorem dX10_grief_5 : decode cX10_grief 5 = .ok (.iload_n 2, 1) := by decide +kernel
theorem dX10_grief_6 : decode cX10_grief 6 = .ok (.invokestatic 262, 3) := by decide +kernel
theorem dX10_grief_9 : decode cX10_grief 9 = .ok (.aload_n 0, 1) := by decide +kernel
theorem dX10_grief_10 : decode cX10_grief 10 = .ok (.getfield 66, 3) := by decide +kernel
theorem dX10_grief_13 : decode cX10_grief 13 = .ok (.aload_n 0, 1) := by decide +kernel
theorem dX10_grief_14 : decode cX10_grief 14 = .ok (.getfield 26, 3) := by decide +kernel
theorem dX10_grief_17 : decode cX10_grief 17 = .ok (.invokevirtual 119, 3) := by decide +kernel
theorem dX10_grief_20 : decode cX10_grief 20 = .ok (.aload_n 0, 1) := by decide +kernel
theorem dX10_grief_21 : decode cX10_grief 21 = .ok (.getfield 26, 3) := by decide +kernel
theorem dX10_grief_24 : decode cX10_grief 24 = .ok (.iload_n 1, 1) := by decide +kernel
theorem dX10_grief_25 : decode cX10_grief 25 = .ok (.invokevirtual 192, 3) := by decide +kernel
theorem dX10_grief_28 : decode cX10_grief 28 = .ok (.istore_n 3, 1) := by decide +kernel
theorem dX10_grief_29 : decode cX10_grief 29 = .ok (.iconst 0, 1) := by decide +kernel
theorem dX10_grief_30 : decode cX10_grief 30 = .ok (.istore 4, 2) := by decide +kernel
theorem dX10_grief_32 : decode cX10_grief 32 = .ok (.iconst 0, 1) := by decide +kernel
theorem dX10_grief_33 : decode cX10_grief 33 = .ok (.istore 5, 2) := by decide +kernel
theorem dX10_grief_35 : decode cX10_grief 35 = .ok (.iload 5, 2) := by decide +kernel
theorem dX10_grief_37 : decode cX10_grief 37 = .ok (.iload_n 2, 1) := by decide +kernel
theorem dX10_grief_38 : decode cX10_grief 38 = .ok (.if_icmp .ge 41, 3) := by decide +kernel
theorem dX10_grief_41 : decode cX10_grief 41 = .ok (.aload_n 0, 1) := by decide +kernel
theorem dX10_grief_42 : decode cX10_grief 42 = .ok (.getfield 62, 3) := by decide +kernel
theorem dX10_grief_45 : decode cX10_grief 45 = .ok (.aload_n 0, 1) := by decide +kernel
