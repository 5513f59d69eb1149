theorem dX0_init_0 : decode cX0_init 0 = .ok (.aload_n 0, 1) := by decide +kernel
theorem dX0_init_1 : decode cX0_init 1 = .ok (.invokespecial 3, 3) := by decide +kernel
theorem dX0_init_4 : decode cX0_init 4 = .ok (.return_, 1) := by decide +kernel
theorem dX0_draw_0 : decode cX0_draw 0 = .ok (.aload_n 0, 1) := by decide +kernel
theorem dX0_draw_1 : decode cX0_draw 1 = .ok (.aload_n 0, 1) := by decide +kernel
theorem dX0_draw_2 : decode cX0_draw 2 = .ok (.getfield 9, 3) := by decide +kernel
theorem dX0_draw_5 : decode cX0_draw 5 = .ok (.ldc 15, 2) := by decide +kernel
theorem dX0_draw_7 : decode cX0_draw 7 = .ok (.imul, 1) := by decide +kernel
theorem dX0_draw_8 : decode cX0_draw 8 = .ok (.sipush 12345, 3) := by decide +kernel
theorem dX0_draw_11 : decode cX0_draw 11 = .ok (.iadd, 1) := by decide +kernel
theorem dX0_draw_12 : decode cX0_draw 12 = .ok (.putfield 9, 3) := by decide +kernel
theorem dX0_draw_15 : decode cX0_draw 15 = .ok (.iload_n 1, 1) := by decide +kernel
theorem dX0_draw_16 : decode cX0_draw 16 = .ok (.iconst 1, 1) := by decide +kernel
theorem dX0_draw_17 : decode cX0_draw 17 = .ok (.if_icmp .ge 7, 3) := by decide +kernel
theorem dX0_draw_20 : decode cX0_draw 20 = .ok (.iconst 0, 1) := by decide +kernel
theorem dX0_draw_21 : decode cX0_draw 21 = .ok (.goto 16, 3) := by decide +kernel
theorem dX0_draw_24 : decode cX0_draw 24 = .ok (.aload_n 0, 1) := by decide +kernel
theorem dX0_draw_25 : decode cX0_draw 25 = .ok (.getfield 9, 3) := by decide +kernel
theorem dX0_draw_28 : decode cX0_draw 28 = .ok (.bipush 16, 2) := by decide +kernel
theorem dX0_draw_30 : decode cX0_draw 30 = .ok (.ishr, 1) := by decide +kernel
theorem dX0_draw_31 : decode cX0_draw 31 = .ok (.sipush 32767, 3) := by decide +kernel
theorem dX0_draw_34 : decode cX0_draw 34 = .ok (.iand, 1) := by decide +kernel
theorem dX0_draw_35 : decode cX0_draw 35 = .ok (.iload_n 1, 1) := by decide +kernel
theorem dX0_draw_36 : decode cX0_draw 36 = .ok (.irem, 1) := by decide +kernel
theorem dX0_draw_37 : decode cX0_draw 37 = .ok (.ireturn, 1) := by decide +kernel
theorem dX0_befall_0 : decode cX0_befall 0 = .ok (.aload_n 1, 1) := by decide +kernel
theorem dX0_befall_1 : decode cX0_befall 1 = .ok (.getfield 16, 3) := by decide +kernel
theorem dX0_befall_4 : decode cX0_befall 4 = .ok (.ifCond .ne 4, 3) := by decide +kernel
theorem dX0_befall_7 : decode cX0_befall 7 = .ok (.return_, 1) := by decide +kernel
theorem dX0_befall_8 : decode cX0_befall 8 = .ok (.aload_n 0, 1) := by decide +kernel
theorem dX0_befall_9 : decode cX0_befall 9 = .ok (.aload_n 1, 1) := by decide +kernel
theorem dX0_befall_10 : decode cX0_befall 10 = .ok (.getfield 16, 3) := by decide +kernel
theorem dX0_befall_13 : decode cX0_befall 13 = .ok (.invokevirtual 21, 3) := by decide +kernel
theorem dX0_befall_16 : decode cX0_befall 16 = .ok (.istore_n 2, 1) := by decide +kernel
theorem dX0_befall_17 : decode cX0_befall 17 = .ok (.aload_n 0, 1) := by decide +kernel
theorem dX0_befall_18 : decode cX0_befall 18 = .ok (.iconst 5, 1) := by decide +kernel
theorem dX0_befall_19 : decode cX0_befall 19 = .ok (.invokevirtual 21, 3) := by decide +kernel
theorem dX0_befall_22 : decode cX0_befall 22 = .ok (.istore_n 3, 1) := by decide +kernel
theorem dX0_befall_23 : decode cX0_befall 23 = .ok (.iload_n 3, 1) := by decide +kernel
theorem dX0_befall_24 : decode cX0_befall 24 = .ok (.ifCond .ne 11, 3) := by decide +kernel
theorem dX0_befall_27 : decode cX0_befall 27 = .ok (.aload_n 1, 1) := by decide +kernel
theorem dX0_befall_28 : decode cX0_befall 28 = .ok (.iload_n 2, 1) := by decide +kernel
theorem dX0_befall_29 : decode cX0_befall 29 = .ok (.invokevirtual 25, 3) := by decide +kernel
theorem dX0_befall_32 : decode cX0_befall 32 = .ok (.goto 50, 3) := by decide +kernel
theorem dX0_befall_35 : decode cX0_befall 35 = .ok (.iload_n 3, 1) := by decide +kernel
theorem dX0_befall_36 : decode cX0_befall 36 = .ok (.iconst 1, 1) := by decide +kernel
theorem dX0_befall_37 : decode cX0_befall 37 = .ok (.if_icmp .ne 20, 3) := by decide +kernel
theorem dX0_befall_40 : decode cX0_befall 40 = .ok (.aload_n 0, 1) := by decide +kernel
theorem dX0_befall_41 : decode cX0_befall 41 = .ok (.bipush 10, 2) := by decide +kernel
theorem dX0_befall_43 : decode cX0_befall 43 = .ok (.invokevirtual 21, 3) := by decide +kernel
theorem dX0_befall_46 : decode cX0_befall 46 = .ok (.ifCond .ne 36, 3) := by decide +kernel
theorem dX0_befall_49 : decode cX0_befall 49 = .ok (.aload_n 1, 1) := by decide +kernel
theorem dX0_befall_50 : decode cX0_befall 50 = .ok (.iload_n 2, 1) := by decide +kernel
theorem dX0_befall_51 : decode cX0_befall 51 = .ok (.invokevirtual 29, 3) := by decide +kernel
theorem dX0_befall_54 : decode cX0_befall 54 = .ok (.goto 28, 3) := by decide +kernel
theorem dX0_befall_57 : decode cX0_befall 57 = .ok (.iload_n 3, 1) := by decide +kernel
theorem dX0_befall_58 : decode cX0_befall 58 = .ok (.iconst 2, 1) := by decide +kernel
theorem dX0_befall_59 : decode cX0_befall 59 = .ok (.if_icmp .ne 23, 3) := by decide +kernel
theorem dX0_befall_62 : decode cX0_befall 62 = .ok (.aload_n 1, 1) := by decide +kernel
theorem dX0_befall_63 : decode cX0_befall 63 = .ok (.getfield 32, 3) := by decide +kernel
theorem dX0_befall_66 : decode cX0_befall 66 = .ok (.iload_n 2, 1) := by decide +kernel
theorem dX0_befall_67 : decode cX0_befall 67 = .ok (.bipush 99, 2) := by decide +kernel
theorem dX0_befall_69 : decode cX0_befall 69 = .ok (.aload_n 1, 1) := by decide +kernel
theorem dX0_befall_70 : decode cX0_befall 70 = .ok (.getfield 32, 3) := by decide +kernel
theorem dX0_befall_73 : decode cX0_befall 73 = .ok (.iload_n 2, 1) := by decide +kernel
theorem dX0_befall_74 : decode cX0_befall 74 = .ok (.iaload, 1) := by decide +kernel
theorem dX0_befall_75 : decode cX0_befall 75 = .ok (.bipush 9, 2) := by decide +kernel
theorem dX0_befall_77 : decode cX0_befall 77 = .ok (.iadd, 1) := by decide +kernel
theorem dX0_befall_78 : decode cX0_befall 78 = .ok (.invokestatic 36, 3) := by decide +kernel
theorem dX0_befall_81 : decode cX0_befall 81 = .ok (.iastore, 1) := by decide +kernel
theorem dX0_befall_82 : decode cX0_befall 82 = .ok (.return_, 1) := by decide +kernel
theorem dX1_init_0 : decode cX1_init 0 = .ok (.aload_n 0, 1) := by decide +kernel
theorem dX1_init_1 : decode cX1_init 1 = .ok (.invokespecial 3, 3) := by decide +kernel
theorem dX1_init_4 : decode cX1_init 4 = .ok (.return_, 1) := by decide +kernel
theorem dX1_restingCouples_0 : decode cX1_restingCouples 0 = .ok (.iconst 0, 1) := by decide +kernel
theorem dX1_restingCouples_1 : decode cX1_restingCouples 1 = .ok (.istore_n 1, 1) := by decide +kernel
theorem dX1_restingCouples_2 : decode cX1_restingCouples 2 = .ok (.iconst 0, 1) := by decide +kernel
theorem dX1_restingCouples_3 : decode cX1_restingCouples 3 = .ok (.istore_n 2, 1) := by decide +kernel
theorem dX1_restingCouples_4 : decode cX1_restingCouples 4 = .ok (.iload_n 2, 1) := by decide +kernel
theorem dX1_restingCouples_5 : decode cX1_restingCouples 5 = .ok (.iconst 2, 1) := by decide +kernel
theorem dX1_restingCouples_6 : decode cX1_restingCouples 6 = .ok (.if_icmp .ge 39, 3) := by decide +kernel
theorem dX1_restingCouples_9 : decode cX1_restingCouples 9 = .ok (.iconst 0, 1) := by decide +kernel
theorem dX1_restingCouples_10 : decode cX1_restingCouples 10 = .ok (.istore_n 3, 1) := by decide +kernel
theorem dX1_restingCouples_11 : decode cX1_restingCouples 11 = .ok (.iload_n 3, 1) := by decide +kernel
theorem dX1_restingCouples_12 : decode cX1_restingCouples 12 = .ok (.iconst 2, 1) := by decide +kernel
theorem dX1_restingCouples_13 : decode cX1_restingCouples 13 = .ok (.if_icmp .ge 26, 3) := by decide +kernel
theorem dX1_restingCouples_16 : decode cX1_restingCouples 16 = .ok (.iload_n 1, 1) := by decide +kernel
theorem dX1_restingCouples_17 : decode cX1_restingCouples 17 = .ok (.aload_n 0, 1) := by decide +kernel
theorem dX1_restingCouples_18 : decode cX1_restingCouples 18 = .ok (.iload_n 2, 1) := by decide +kernel
theorem dX1_restingCouples_19 : decode cX1_restingCouples 19 = .ok (.iload_n 3, 1) := by decide +kernel
theorem dX1_restingCouples_20 : decode cX1_restingCouples 20 = .ok (.invokevirtual 11, 3) := by decide +kernel
theorem dX1_restingCouples_23 : decode cX1_restingCouples 23 = .ok (.ifCond .eq 7, 3) := by decide +kernel
theorem dX1_restingCouples_26 : decode cX1_restingCouples 26 = .ok (.iconst 1, 1) := by decide +kernel
theorem dX1_restingCouples_27 : decode cX1_restingCouples 27 = .ok (.goto 4, 3) := by decide +kernel
theorem dX1_restingCouples_30 : decode cX1_restingCouples 30 = .ok (.iconst 0, 1) := by decide +kernel
theorem dX1_restingCouples_31 : decode cX1_restingCouples 31 = .ok (.iadd, 1) := by decide +kernel
theorem dX1_restingCouples_32 : decode cX1_restingCouples 32 = .ok (.istore_n 1, 1) := by decide +kernel
theorem dX1_restingCouples_33 : decode cX1_restingCouples 33 = .ok (.iinc 3 1, 3) := by decide +kernel
theorem dX1_restingCouples_36 : decode cX1_restingCouples 36 = .ok (.goto (-25), 3) := by decide +kernel
theorem dX1_restingCouples_39 : decode cX1_restingCouples 39 = .ok (.iinc 2 1, 3) := by decide +kernel
theorem dX1_restingCouples_42 : decode cX1_restingCouples 42 = .ok (.goto (-38), 3) := by decide +kernel
theorem dX1_restingCouples_45 : decode cX1_restingCouples 45 = .ok (.iload_n 1, 1) := by decide +kernel
theorem dX1_restingCouples_46 : decode cX1_restingCouples 46 = .ok (.ireturn, 1) := by decide +kernel
theorem dX1_firstRestingCouple_0 : decode cX1_firstRestingCouple 0 = .ok (.iconst 0, 1) := by decide +kernel
theorem dX1_firstRestingCouple_1 : decode cX1_firstRestingCouple 1 = .ok (.istore_n 1, 1) := by decide +kernel
theorem dX1_firstRestingCouple_2 : decode cX1_firstRestingCouple 2 = .ok (.iload_n 1, 1) := by decide +kernel
theorem dX1_firstRestingCouple_3 : decode cX1_firstRestingCouple 3 = .ok (.iconst 2, 1) := by decide +kernel
theorem dX1_firstRestingCouple_4 : decode cX1_firstRestingCouple 4 = .ok (.if_icmp .ge 38, 3) := by decide +kernel
theorem dX1_firstRestingCouple_7 : decode cX1_firstRestingCouple 7 = .ok (.iconst 0, 1) := by decide +kernel
theorem dX1_firstRestingCouple_8 : decode cX1_firstRestingCouple 8 = .ok (.istore_n 2, 1) := by decide +kernel
theorem dX1_firstRestingCouple_9 : decode cX1_firstRestingCouple 9 = .ok (.iload_n 2, 1) := by decide +kernel
theorem dX1_firstRestingCouple_10 : decode cX1_firstRestingCouple 10 = .ok (.iconst 2, 1) := by decide +kernel
theorem dX1_firstRestingCouple_11 : decode cX1_firstRestingCouple 11 = .ok (.if_icmp .ge 25, 3) := by decide +kernel
theorem dX1_firstRestingCouple_14 : decode cX1_firstRestingCouple 14 = .ok (.aload_n 0, 1) := by decide +kernel
theorem dX1_firstRestingCouple_15 : decode cX1_firstRestingCouple 15 = .ok (.iload_n 1, 1) := by decide +kernel
theorem dX1_firstRestingCouple_16 : decode cX1_firstRestingCouple 16 = .ok (.iload_n 2, 1) := by decide +kernel
theorem dX1_firstRestingCouple_17 : decode cX1_firstRestingCouple 17 = .ok (.invokevirtual 11, 3) := by decide +kernel
theorem dX1_firstRestingCouple_20 : decode cX1_firstRestingCouple 20 = .ok (.ifCond .eq 10, 3) := by decide +kernel
theorem dX1_firstRestingCouple_23 : decode cX1_firstRestingCouple 23 = .ok (.bipush 10, 2) := by decide +kernel
theorem dX1_firstRestingCouple_25 : decode cX1_firstRestingCouple 25 = .ok (.iload_n 1, 1) := by decide +kernel
theorem dX1_firstRestingCouple_26 : decode cX1_firstRestingCouple 26 = .ok (.imul, 1) := by decide +kernel
theorem dX1_firstRestingCouple_27 : decode cX1_firstRestingCouple 27 = .ok (.iload_n 2, 1) := by decide +kernel
theorem dX1_firstRestingCouple_28 : decode cX1_firstRestingCouple 28 = .ok (.iadd, 1) := by decide +kernel
theorem dX1_firstRestingCouple_29 : decode cX1_firstRestingCouple 29 = .ok (.ireturn, 1) := by decide +kernel
theorem dX1_firstRestingCouple_30 : decode cX1_firstRestingCouple 30 = .ok (.iinc 2 1, 3) := by decide +kernel
theorem dX1_firstRestingCouple_33 : decode cX1_firstRestingCouple 33 = .ok (.goto (-24), 3) := by decide +kernel
theorem dX1_firstRestingCouple_36 : decode cX1_firstRestingCouple 36 = .ok (.iinc 1 1, 3) := by decide +kernel
theorem dX1_firstRestingCouple_39 : decode cX1_firstRestingCouple 39 = .ok (.goto (-37), 3) := by decide +kernel
theorem dX1_firstRestingCouple_42 : decode cX1_firstRestingCouple 42 = .ok (.iconst (-1), 1) := by decide +kernel
theorem dX1_firstRestingCouple_43 : decode cX1_firstRestingCouple 43 = .ok (.ireturn, 1) := by decide +kernel
theorem dX1_rests_0 : decode cX1_rests 0 = .ok (.aload_n 0, 1) := by decide +kernel
theorem dX1_rests_1 : decode cX1_rests 1 = .ok (.iload_n 1, 1) := by decide +kernel
theorem dX1_rests_2 : decode cX1_rests 2 = .ok (.iconst 1, 1) := by decide +kernel
theorem dX1_rests_3 : decode cX1_rests 3 = .ok (.if_icmp .ne 7, 3) := by decide +kernel
theorem dX1_rests_6 : decode cX1_rests 6 = .ok (.iconst 1, 1) := by decide +kernel
theorem dX1_rests_7 : decode cX1_rests 7 = .ok (.goto 4, 3) := by decide +kernel
theorem dX1_rests_10 : decode cX1_rests 10 = .ok (.iconst 0, 1) := by decide +kernel
theorem dX1_rests_11 : decode cX1_rests 11 = .ok (.iload_n 2, 1) := by decide +kernel
theorem dX1_rests_12 : decode cX1_rests 12 = .ok (.iconst 1, 1) := by decide +kernel
theorem dX1_rests_13 : decode cX1_rests 13 = .ok (.if_icmp .ne 7, 3) := by decide +kernel
theorem dX1_rests_16 : decode cX1_rests 16 = .ok (.iconst 1, 1) := by decide +kernel
theorem dX1_rests_17 : decode cX1_rests 17 = .ok (.goto 4, 3) := by decide +kernel
theorem dX1_rests_20 : decode cX1_rests 20 = .ok (.iconst 0, 1) := by decide +kernel
theorem dX1_rests_21 : decode cX1_rests 21 = .ok (.invokevirtual 15, 3) := by decide +kernel
theorem dX1_rests_24 : decode cX1_rests 24 = .ok (.aload_n 0, 1) := by decide +kernel
theorem dX1_rests_25 : decode cX1_rests 25 = .ok (.getfield 19, 3) := by decide +kernel
theorem dX1_rests_28 : decode cX1_rests 28 = .ok (.istore_n 3, 1) := by decide +kernel
theorem dX1_rests_29 : decode cX1_rests 29 = .ok (.aload_n 0, 1) := by decide +kernel
theorem dX1_rests_30 : decode cX1_rests 30 = .ok (.getfield 23, 3) := by decide +kernel
theorem dX1_rests_33 : decode cX1_rests 33 = .ok (.istore 4, 2) := by decide +kernel
theorem dX1_rests_35 : decode cX1_rests 35 = .ok (.aload_n 0, 1) := by decide +kernel
theorem dX1_rests_36 : decode cX1_rests 36 = .ok (.iload_n 1, 1) := by decide +kernel
theorem dX1_rests_37 : decode cX1_rests 37 = .ok (.ifCond .ne 7, 3) := by decide +kernel
theorem dX1_rests_40 : decode cX1_rests 40 = .ok (.iconst 1, 1) := by decide +kernel
theorem dX1_rests_41 : decode cX1_rests 41 = .ok (.goto 4, 3) := by decide +kernel
theorem dX1_rests_44 : decode cX1_rests 44 = .ok (.iconst 0, 1) := by decide +kernel
theorem dX1_rests_45 : decode cX1_rests 45 = .ok (.iload_n 2, 1) := by decide +kernel
theorem dX1_rests_46 : decode cX1_rests 46 = .ok (.iconst 1, 1) := by decide +kernel
theorem dX1_rests_47 : decode cX1_rests 47 = .ok (.if_icmp .ne 7, 3) := by decide +kernel
theorem dX1_rests_50 : decode cX1_rests 50 = .ok (.iconst 1, 1) := by decide +kernel
theorem dX1_rests_51 : decode cX1_rests 51 = .ok (.goto 4, 3) := by decide +kernel
theorem dX1_rests_54 : decode cX1_rests 54 = .ok (.iconst 0, 1) := by decide +kernel
theorem dX1_rests_55 : decode cX1_rests 55 = .ok (.invokevirtual 15, 3) := by decide +kernel
theorem dX1_rests_58 : decode cX1_rests 58 = .ok (.aload_n 0, 1) := by decide +kernel
theorem dX1_rests_59 : decode cX1_rests 59 = .ok (.getfield 19, 3) := by decide +kernel
theorem dX1_rests_62 : decode cX1_rests 62 = .ok (.istore 5, 2) := by decide +kernel
theorem dX1_rests_64 : decode cX1_rests 64 = .ok (.aload_n 0, 1) := by decide +kernel
theorem dX1_rests_65 : decode cX1_rests 65 = .ok (.iload_n 1, 1) := by decide +kernel
theorem dX1_rests_66 : decode cX1_rests 66 = .ok (.iconst 1, 1) := by decide +kernel
theorem dX1_rests_67 : decode cX1_rests 67 = .ok (.if_icmp .ne 7, 3) := by decide +kernel
theorem dX1_rests_70 : decode cX1_rests 70 = .ok (.iconst 1, 1) := by decide +kernel
theorem dX1_rests_71 : decode cX1_rests 71 = .ok (.goto 4, 3) := by decide +kernel
theorem dX1_rests_74 : decode cX1_rests 74 = .ok (.iconst 0, 1) := by decide +kernel
theorem dX1_rests_75 : decode cX1_rests 75 = .ok (.iload_n 2, 1) := by decide +kernel
theorem dX1_rests_76 : decode cX1_rests 76 = .ok (.ifCond .ne 7, 3) := by decide +kernel
theorem dX1_rests_79 : decode cX1_rests 79 = .ok (.iconst 1, 1) := by decide +kernel
theorem dX1_rests_80 : decode cX1_rests 80 = .ok (.goto 4, 3) := by decide +kernel
theorem dX1_rests_83 : decode cX1_rests 83 = .ok (.iconst 0, 1) := by decide +kernel
theorem dX1_rests_84 : decode cX1_rests 84 = .ok (.invokevirtual 15, 3) := by decide +kernel
theorem dX1_rests_87 : decode cX1_rests 87 = .ok (.aload_n 0, 1) := by decide +kernel
theorem dX1_rests_88 : decode cX1_rests 88 = .ok (.getfield 23, 3) := by decide +kernel
theorem dX1_rests_91 : decode cX1_rests 91 = .ok (.istore 6, 2) := by decide +kernel
theorem dX1_rests_93 : decode cX1_rests 93 = .ok (.iload 5, 2) := by decide +kernel
theorem dX1_rests_95 : decode cX1_rests 95 = .ok (.iload_n 3, 1) := by decide +kernel
theorem dX1_rests_96 : decode cX1_rests 96 = .ok (.if_icmp .gt 14, 3) := by decide +kernel
theorem dX1_rests_99 : decode cX1_rests 99 = .ok (.iload 6, 2) := by decide +kernel
theorem dX1_rests_101 : decode cX1_rests 101 = .ok (.iload 4, 2) := by decide +kernel
theorem dX1_rests_103 : decode cX1_rests 103 = .ok (.if_icmp .gt 7, 3) := by decide +kernel
theorem dX1_rests_106 : decode cX1_rests 106 = .ok (.iconst 1, 1) := by decide +kernel
theorem dX1_rests_107 : decode cX1_rests 107 = .ok (.goto 4, 3) := by decide +kernel
theorem dX1_rests_110 : decode cX1_rests 110 = .ok (.iconst 0, 1) := by decide +kernel
theorem dX1_rests_111 : decode cX1_rests 111 = .ok (.ireturn, 1) := by decide +kernel
theorem dX1_play_0 : decode cX1_play 0 = .ok (.aload_n 0, 1) := by decide +kernel
theorem dX1_play_1 : decode cX1_play 1 = .ok (.getfield 26, 3) := by decide +kernel
theorem dX1_play_4 : decode cX1_play 4 = .ok (.ifCond .eq 7, 3) := by decide +kernel
theorem dX1_play_7 : decode cX1_play 7 = .ok (.iload_n 1, 1) := by decide +kernel
theorem dX1_play_8 : decode cX1_play 8 = .ok (.goto 4, 3) := by decide +kernel
theorem dX1_play_11 : decode cX1_play 11 = .ok (.iload_n 2, 1) := by decide +kernel
theorem dX1_play_12 : decode cX1_play 12 = .ok (.istore_n 3, 1) := by decide +kernel
theorem dX1_play_13 : decode cX1_play 13 = .ok (.aload_n 0, 1) := by decide +kernel
theorem dX1_play_14 : decode cX1_play 14 = .ok (.getfield 26, 3) := by decide +kernel
theorem dX1_play_17 : decode cX1_play 17 = .ok (.ifCond .eq 7, 3) := by decide +kernel
theorem dX1_play_20 : decode cX1_play 20 = .ok (.iload_n 2, 1) := by decide +kernel
theorem dX1_play_21 : decode cX1_play 21 = .ok (.goto 4, 3) := by decide +kernel
theorem dX1_play_24 : decode cX1_play 24 = .ok (.iload_n 1, 1) := by decide +kernel
theorem dX1_play_25 : decode cX1_play 25 = .ok (.istore 4, 2) := by decide +kernel
theorem dX1_play_27 : decode cX1_play 27 = .ok (.aload_n 0, 1) := by decide +kernel
theorem dX1_play_28 : decode cX1_play 28 = .ok (.getfield 30, 3) := by decide +kernel
theorem dX1_play_31 : decode cX1_play 31 = .ok (.iload_n 3, 1) := by decide +kernel
theorem dX1_play_32 : decode cX1_play 32 = .ok (.if_icmp .eq 7, 3) := by decide +kernel
theorem dX1_play_35 : decode cX1_play 35 = .ok (.iconst 1, 1) := by decide +kernel
theorem dX1_play_36 : decode cX1_play 36 = .ok (.goto 4, 3) := by decide +kernel
theorem dX1_play_39 : decode cX1_play 39 = .ok (.iconst 0, 1) := by decide +kernel
theorem dX1_play_40 : decode cX1_play 40 = .ok (.istore 5, 2) := by decide +kernel
theorem dX1_play_42 : decode cX1_play 42 = .ok (.iload_n 3, 1) := by decide +kernel
theorem dX1_play_43 : decode cX1_play 43 = .ok (.iload 4, 2) := by decide +kernel
theorem dX1_play_45 : decode cX1_play 45 = .ok (.if_icmp .eq 7, 3) := by decide +kernel
theorem dX1_play_48 : decode cX1_play 48 = .ok (.iconst 1, 1) := by decide +kernel
theorem dX1_play_49 : decode cX1_play 49 = .ok (.goto 4, 3) := by decide +kernel
theorem dX1_play_52 : decode cX1_play 52 = .ok (.iconst 0, 1) := by decide +kernel
theorem dX1_play_53 : decode cX1_play 53 = .ok (.istore 6, 2) := by decide +kernel
theorem dX1_play_55 : decode cX1_play 55 = .ok (.aload_n 0, 1) := by decide +kernel
theorem dX1_play_56 : decode cX1_play 56 = .ok (.iload 4, 2) := by decide +kernel
theorem dX1_play_58 : decode cX1_play 58 = .ok (.aload_n 0, 1) := by decide +kernel
theorem dX1_play_59 : decode cX1_play 59 = .ok (.getfield 33, 3) := by decide +kernel
theorem dX1_play_62 : decode cX1_play 62 = .ok (.if_icmp .ne 7, 3) := by decide +kernel
theorem dX1_play_65 : decode cX1_play 65 = .ok (.iconst 3, 1) := by decide +kernel
theorem dX1_play_66 : decode cX1_play 66 = .ok (.goto 4, 3) := by decide +kernel
theorem dX1_play_69 : decode cX1_play 69 = .ok (.iconst 0, 1) := by decide +kernel
theorem dX1_play_70 : decode cX1_play 70 = .ok (.aload_n 0, 1) := by decide +kernel
theorem dX1_play_71 : decode cX1_play 71 = .ok (.getfield 26, 3) := by decide +kernel
theorem dX1_play_74 : decode cX1_play 74 = .ok (.ifCond .eq 8, 3) := by decide +kernel
theorem dX1_play_77 : decode cX1_play 77 = .ok (.iload 5, 2) := by decide +kernel
theorem dX1_play_79 : decode cX1_play 79 = .ok (.goto 5, 3) := by decide +kernel
theorem dX1_play_82 : decode cX1_play 82 = .ok (.iload 6, 2) := by decide +kernel
theorem dX1_play_84 : decode cX1_play 84 = .ok (.isub, 1) := by decide +kernel
theorem dX1_play_85 : decode cX1_play 85 = .ok (.putfield 19, 3) := by decide +kernel
theorem dX1_play_88 : decode cX1_play 88 = .ok (.aload_n 0, 1) := by decide +kernel
theorem dX1_play_89 : decode cX1_play 89 = .ok (.iload 4, 2) := by decide +kernel
theorem dX1_play_91 : decode cX1_play 91 = .ok (.aload_n 0, 1) := by decide +kernel
theorem dX1_play_92 : decode cX1_play 92 = .ok (.getfield 36, 3) := by decide +kernel
theorem dX1_play_95 : decode cX1_play 95 = .ok (.if_icmp .ne 7, 3) := by decide +kernel
theorem dX1_play_98 : decode cX1_play 98 = .ok (.iconst 3, 1) := by decide +kernel
theorem dX1_play_99 : decode cX1_play 99 = .ok (.goto 4, 3) := by decide +kernel
theorem dX1_play_102 : decode cX1_play 102 = .ok (.iconst 0, 1) := by decide +kernel
theorem dX1_play_103 : decode cX1_play 103 = .ok (.aload_n 0, 1) := by decide +kernel
theorem dX1_play_104 : decode cX1_play 104 = .ok (.getfield 26, 3) := by decide +kernel
theorem dX1_play_107 : decode cX1_play 107 = .ok (.ifCond .eq 8, 3) := by decide +kernel
theorem dX1_play_110 : decode cX1_play 110 = .ok (.iload 6, 2) := by decide +kernel
theorem dX1_play_112 : decode cX1_play 112 = .ok (.goto 5, 3) := by decide +kernel
theorem dX1_play_115 : decode cX1_play 115 = .ok (.iload 5, 2) := by decide +kernel
theorem dX1_play_117 : decode cX1_play 117 = .ok (.isub, 1) := by decide +kernel
theorem dX1_play_118 : decode cX1_play 118 = .ok (.putfield 23, 3) := by decide +kernel
theorem dX1_play_121 : decode cX1_play 121 = .ok (.return_, 1) := by decide +kernel
theorem dX2_init_0 : decode cX2_init 0 = .ok (.aload_n 0, 1) := by decide +kernel
theorem dX2_init_1 : decode cX2_init 1 = .ok (.invokespecial 3, 3) := by decide +kernel
theorem dX2_init_4 : decode cX2_init 4 = .ok (.return_, 1) := by decide +kernel
theorem dX2_passHour_0 : decode cX2_passHour 0 = .ok (.aload_n 0, 1) := by decide +kernel
theorem dX2_passHour_1 : decode cX2_passHour 1 = .ok (.aload_n 2, 1) := by decide +kernel
theorem dX2_passHour_2 : decode cX2_passHour 2 = .ok (.invokevirtual 9, 3) := by decide +kernel
theorem dX2_passHour_5 : decode cX2_passHour 5 = .ok (.putfield 15, 3) := by decide +kernel
theorem dX2_passHour_8 : decode cX2_passHour 8 = .ok (.aload_n 0, 1) := by decide +kernel
theorem dX2_passHour_9 : decode cX2_passHour 9 = .ok (.iconst 0, 1) := by decide +kernel
theorem dX2_passHour_10 : decode cX2_passHour 10 = .ok (.putfield 21, 3) := by decide +kernel
theorem dX2_passHour_13 : decode cX2_passHour 13 = .ok (.iconst 0, 1) := by decide +kernel
theorem dX2_passHour_14 : decode cX2_passHour 14 = .ok (.istore_n 3, 1) := by decide +kernel
theorem dX2_passHour_15 : decode cX2_passHour 15 = .ok (.iload_n 3, 1) := by decide +kernel
theorem dX2_passHour_16 : decode cX2_passHour 16 = .ok (.aload_n 2, 1) := by decide +kernel
theorem dX2_passHour_17 : decode cX2_passHour 17 = .ok (.getfield 24, 3) := by decide +kernel
theorem dX2_passHour_20 : decode cX2_passHour 20 = .ok (.if_icmp .ge 49, 3) := by decide +kernel
theorem dX2_passHour_23 : decode cX2_passHour 23 = .ok (.aload_n 0, 1) := by decide +kernel
theorem dX2_passHour_24 : decode cX2_passHour 24 = .ok (.getfield 15, 3) := by decide +kernel
theorem dX2_passHour_27 : decode cX2_passHour 27 = .ok (.iload_n 3, 1) := by decide +kernel
theorem dX2_passHour_28 : decode cX2_passHour 28 = .ok (.ishr, 1) := by decide +kernel
theorem dX2_passHour_29 : decode cX2_passHour 29 = .ok (.iconst 1, 1) := by decide +kernel
theorem dX2_passHour_30 : decode cX2_passHour 30 = .ok (.iand, 1) := by decide +kernel
theorem dX2_passHour_31 : decode cX2_passHour 31 = .ok (.iconst 1, 1) := by decide +kernel
theorem dX2_passHour_32 : decode cX2_passHour 32 = .ok (.if_icmp .ne 31, 3) := by decide +kernel
theorem dX2_passHour_35 : decode cX2_passHour 35 = .ok (.aload_n 1, 1) := by decide +kernel
theorem dX2_passHour_36 : decode cX2_passHour 36 = .ok (.aload_n 2, 1) := by decide +kernel
theorem dX2_passHour_37 : decode cX2_passHour 37 = .ok (.iload_n 3, 1) := by decide +kernel
theorem dX2_passHour_38 : decode cX2_passHour 38 = .ok (.aload_n 2, 1) := by decide +kernel
theorem dX2_passHour_39 : decode cX2_passHour 39 = .ok (.getfield 27, 3) := by decide +kernel
theorem dX2_passHour_42 : decode cX2_passHour 42 = .ok (.bipush 24, 2) := by decide +kernel
theorem dX2_passHour_44 : decode cX2_passHour 44 = .ok (.irem, 1) := by decide +kernel
theorem dX2_passHour_45 : decode cX2_passHour 45 = .ok (.invokevirtual 30, 3) := by decide +kernel
theorem dX2_passHour_48 : decode cX2_passHour 48 = .ok (.ifCond .eq 15, 3) := by decide +kernel
theorem dX2_passHour_51 : decode cX2_passHour 51 = .ok (.aload_n 0, 1) := by decide +kernel
theorem dX2_passHour_52 : decode cX2_passHour 52 = .ok (.dup, 1) := by decide +kernel
theorem dX2_passHour_53 : decode cX2_passHour 53 = .ok (.getfield 21, 3) := by decide +kernel
theorem dX2_passHour_56 : decode cX2_passHour 56 = .ok (.iconst 1, 1) := by decide +kernel
theorem dX2_passHour_57 : decode cX2_passHour 57 = .ok (.iload_n 3, 1) := by decide +kernel
theorem dX2_passHour_58 : decode cX2_passHour 58 = .ok (.ishl, 1) := by decide +kernel
theorem dX2_passHour_59 : decode cX2_passHour 59 = .ok (.ior, 1) := by decide +kernel
theorem dX2_passHour_60 : decode cX2_passHour 60 = .ok (.putfield 21, 3) := by decide +kernel
theorem dX2_passHour_63 : decode cX2_passHour 63 = .ok (.iinc 3 1, 3) := by decide +kernel
theorem dX2_passHour_66 : decode cX2_passHour 66 = .ok (.goto (-51), 3) := by decide +kernel
theorem dX2_passHour_69 : decode cX2_passHour 69 = .ok (.aload_n 0, 1) := by decide +kernel
theorem dX2_passHour_70 : decode cX2_passHour 70 = .ok (.aload_n 2, 1) := by decide +kernel
theorem dX2_passHour_71 : decode cX2_passHour 71 = .ok (.invokevirtual 36, 3) := by decide +kernel
theorem dX2_passHour_74 : decode cX2_passHour 74 = .ok (.aload_n 0, 1) := by decide +kernel
theorem dX2_passHour_75 : decode cX2_passHour 75 = .ok (.aload_n 2, 1) := by decide +kernel
theorem dX2_passHour_76 : decode cX2_passHour 76 = .ok (.getfield 40, 3) := by decide +kernel
theorem dX2_passHour_79 : decode cX2_passHour 79 = .ok (.putfield 43, 3) := by decide +kernel
theorem dX2_passHour_82 : decode cX2_passHour 82 = .ok (.aload_n 0, 1) := by decide +kernel
theorem dX2_passHour_83 : decode cX2_passHour 83 = .ok (.aload_n 0, 1) := by decide +kernel
theorem dX2_passHour_84 : decode cX2_passHour 84 = .ok (.getfield 15, 3) := by decide +kernel
theorem dX2_passHour_87 : decode cX2_passHour 87 = .ok (.aload_n 0, 1) := by decide +kernel
theorem dX2_passHour_88 : decode cX2_passHour 88 = .ok (.getfield 21, 3) := by decide +kernel
theorem dX2_passHour_91 : decode cX2_passHour 91 = .ok (.aload_n 0, 1) := by decide +kernel
theorem dX2_passHour_92 : decode cX2_passHour 92 = .ok (.getfield 43, 3) := by decide +kernel
theorem dX2_passHour_95 : decode cX2_passHour 95 = .ok (.ixor, 1) := by decide +kernel
theorem dX2_passHour_96 : decode cX2_passHour 96 = .ok (.iand, 1) := by decide +kernel
theorem dX2_passHour_97 : decode cX2_passHour 97 = .ok (.putfield 46, 3) := by decide +kernel
theorem dX2_passHour_100 : decode cX2_passHour 100 = .ok (.aload_n 2, 1) := by decide +kernel
theorem dX2_passHour_101 : decode cX2_passHour 101 = .ok (.invokestatic 49, 3) := by decide +kernel
theorem dX2_passHour_104 : decode cX2_passHour 104 = .ok (.aload_n 2, 1) := by decide +kernel
theorem dX2_passHour_105 : decode cX2_passHour 105 = .ok (.dup, 1) := by decide +kernel
theorem dX2_passHour_106 : decode cX2_passHour 106 = .ok (.getfield 27, 3) := by decide +kernel
theorem dX2_passHour_109 : decode cX2_passHour 109 = .ok (.iconst 1, 1) := by decide +kernel
theorem dX2_passHour_110 : decode cX2_passHour 110 = .ok (.iadd, 1) := by decide +kernel
theorem dX2_passHour_111 : decode cX2_passHour 111 = .ok (.putfield 27, 3) := by decide +kernel
theorem dX2_passHour_114 : decode cX2_passHour 114 = .ok (.return_, 1) := by decide +kernel
theorem dX2_flickAll_0 : decode cX2_flickAll 0 = .ok (.aload_n 0, 1) := by decide +kernel
theorem dX2_flickAll_1 : decode cX2_flickAll 1 = .ok (.iconst 0, 1) := by decide +kernel
theorem dX2_flickAll_2 : decode cX2_flickAll 2 = .ok (.putfield 52, 3) := by decide +kernel
theorem dX2_flickAll_5 : decode cX2_flickAll 5 = .ok (.iconst 0, 1) := by decide +kernel
theorem dX2_flickAll_6 : decode cX2_flickAll 6 = .ok (.istore_n 2, 1) := by decide +kernel
theorem dX2_flickAll_7 : decode cX2_flickAll 7 = .ok (.iconst 0, 1) := by decide +kernel
theorem dX2_flickAll_8 : decode cX2_flickAll 8 = .ok (.istore_n 3, 1) := by decide +kernel
theorem dX2_flickAll_9 : decode cX2_flickAll 9 = .ok (.iload_n 3, 1) := by decide +kernel
theorem dX2_flickAll_10 : decode cX2_flickAll 10 = .ok (.aload_n 1, 1) := by decide +kernel
theorem dX2_flickAll_11 : decode cX2_flickAll 11 = .ok (.getfield 24, 3) := by decide +kernel
theorem dX2_flickAll_14 : decode cX2_flickAll 14 = .ok (.if_icmp .ge 115, 3) := by decide +kernel
theorem dX2_flickAll_17 : decode cX2_flickAll 17 = .ok (.aload_n 0, 1) := by decide +kernel
theorem dX2_flickAll_18 : decode cX2_flickAll 18 = .ok (.getfield 21, 3) := by decide +kernel
theorem dX2_flickAll_21 : decode cX2_flickAll 21 = .ok (.iload_n 3, 1) := by decide +kernel
theorem dX2_flickAll_22 : decode cX2_flickAll 22 = .ok (.ishr, 1) := by decide +kernel
theorem dX2_flickAll_23 : decode cX2_flickAll 23 = .ok (.iconst 1, 1) := by decide +kernel
theorem dX2_flickAll_24 : decode cX2_flickAll 24 = .ok (.iand, 1) := by decide +kernel
theorem dX2_flickAll_25 : decode cX2_flickAll 25 = .ok (.iconst 1, 1) := by decide +kernel
theorem dX2_flickAll_26 : decode cX2_flickAll 26 = .ok (.if_icmp .ne 7, 3) := by decide +kernel
theorem dX2_flickAll_29 : decode cX2_flickAll 29 = .ok (.iconst 1, 1) := by decide +kernel
theorem dX2_flickAll_30 : decode cX2_flickAll 30 = .ok (.goto 4, 3) := by decide +kernel
theorem dX2_flickAll_33 : decode cX2_flickAll 33 = .ok (.iconst 0, 1) := by decide +kernel
theorem dX2_flickAll_34 : decode cX2_flickAll 34 = .ok (.istore 4, 2) := by decide +kernel
theorem dX2_flickAll_36 : decode cX2_flickAll 36 = .ok (.aload_n 1, 1) := by decide +kernel
theorem dX2_flickAll_37 : decode cX2_flickAll 37 = .ok (.iload_n 3, 1) := by decide +kernel
theorem dX2_flickAll_38 : decode cX2_flickAll 38 = .ok (.invokevirtual 55, 3) := by decide +kernel
theorem dX2_flickAll_41 : decode cX2_flickAll 41 = .ok (.iload 4, 2) := by decide +kernel
theorem dX2_flickAll_43 : decode cX2_flickAll 43 = .ok (.if_icmp .eq 7, 3) := by decide +kernel
theorem dX2_flickAll_46 : decode cX2_flickAll 46 = .ok (.iconst 1, 1) := by decide +kernel
theorem dX2_flickAll_47 : decode cX2_flickAll 47 = .ok (.goto 4, 3) := by decide +kernel
theorem dX2_flickAll_50 : decode cX2_flickAll 50 = .ok (.iconst 0, 1) := by decide +kernel
theorem dX2_flickAll_51 : decode cX2_flickAll 51 = .ok (.istore 5, 2) := by decide +kernel
theorem dX2_flickAll_53 : decode cX2_flickAll 53 = .ok (.aload_n 0, 1) := by decide +kernel
theorem dX2_flickAll_54 : decode cX2_flickAll 54 = .ok (.getfield 15, 3) := by decide +kernel
theorem dX2_flickAll_57 : decode cX2_flickAll 57 = .ok (.iload_n 3, 1) := by decide +kernel
theorem dX2_flickAll_58 : decode cX2_flickAll 58 = .ok (.ishr, 1) := by decide +kernel
theorem dX2_flickAll_59 : decode cX2_flickAll 59 = .ok (.iconst 1, 1) := by decide +kernel
theorem dX2_flickAll_60 : decode cX2_flickAll 60 = .ok (.iand, 1) := by decide +kernel
theorem dX2_flickAll_61 : decode cX2_flickAll 61 = .ok (.iconst 1, 1) := by decide +kernel
theorem dX2_flickAll_62 : decode cX2_flickAll 62 = .ok (.if_icmp .ne 61, 3) := by decide +kernel
theorem dX2_flickAll_65 : decode cX2_flickAll 65 = .ok (.iload 5, 2) := by decide +kernel
theorem dX2_flickAll_67 : decode cX2_flickAll 67 = .ok (.ifCond .eq 56, 3) := by decide +kernel
theorem dX2_flickAll_70 : decode cX2_flickAll 70 = .ok (.iload 4, 2) := by decide +kernel
theorem dX2_flickAll_72 : decode cX2_flickAll 72 = .ok (.ifCond .eq 11, 3) := by decide +kernel
theorem dX2_flickAll_75 : decode cX2_flickAll 75 = .ok (.aload_n 1, 1) := by decide +kernel
theorem dX2_flickAll_76 : decode cX2_flickAll 76 = .ok (.iload_n 3, 1) := by decide +kernel
theorem dX2_flickAll_77 : decode cX2_flickAll 77 = .ok (.invokevirtual 59, 3) := by decide +kernel
theorem dX2_flickAll_80 : decode cX2_flickAll 80 = .ok (.ifCond .eq 43, 3) := by decide +kernel
theorem dX2_flickAll_83 : decode cX2_flickAll 83 = .ok (.iload 4, 2) := by decide +kernel
theorem dX2_flickAll_85 : decode cX2_flickAll 85 = .ok (.ifCond .eq 11, 3) := by decide +kernel
theorem dX2_flickAll_88 : decode cX2_flickAll 88 = .ok (.aload_n 1, 1) := by decide +kernel
theorem dX2_flickAll_89 : decode cX2_flickAll 89 = .ok (.iload_n 3, 1) := by decide +kernel
theorem dX2_flickAll_90 : decode cX2_flickAll 90 = .ok (.invokevirtual 62, 3) := by decide +kernel
theorem dX2_flickAll_93 : decode cX2_flickAll 93 = .ok (.goto 8, 3) := by decide +kernel
theorem dX2_flickAll_96 : decode cX2_flickAll 96 = .ok (.aload_n 1, 1) := by decide +kernel
theorem dX2_flickAll_97 : decode cX2_flickAll 97 = .ok (.iload_n 3, 1) := by decide +kernel
theorem dX2_flickAll_98 : decode cX2_flickAll 98 = .ok (.invokevirtual 66, 3) := by decide +kernel
theorem dX2_flickAll_101 : decode cX2_flickAll 101 = .ok (.aload_n 0, 1) := by decide +kernel
theorem dX2_flickAll_102 : decode cX2_flickAll 102 = .ok (.dup, 1) := by decide +kernel
theorem dX2_flickAll_103 : decode cX2_flickAll 103 = .ok (.getfield 52, 3) := by decide +kernel
theorem dX2_flickAll_106 : decode cX2_flickAll 106 = .ok (.iload_n 2, 1) := by decide +kernel
theorem dX2_flickAll_107 : decode cX2_flickAll 107 = .ok (.iload_n 3, 1) := by decide +kernel
theorem dX2_flickAll_108 : decode cX2_flickAll 108 = .ok (.ishr, 1) := by decide +kernel
theorem dX2_flickAll_109 : decode cX2_flickAll 109 = .ok (.iconst 1, 1) := by decide +kernel
theorem dX2_flickAll_110 : decode cX2_flickAll 110 = .ok (.iand, 1) := by decide +kernel
theorem dX2_flickAll_111 : decode cX2_flickAll 111 = .ok (.iadd, 1) := by decide +kernel
theorem dX2_flickAll_112 : decode cX2_flickAll 112 = .ok (.putfield 52, 3) := by decide +kernel
theorem dX2_flickAll_115 : decode cX2_flickAll 115 = .ok (.iload_n 2, 1) := by decide +kernel
theorem dX2_flickAll_116 : decode cX2_flickAll 116 = .ok (.aload_n 1, 1) := by decide +kernel
theorem dX2_flickAll_117 : decode cX2_flickAll 117 = .ok (.iload_n 3, 1) := by decide +kernel
theorem dX2_flickAll_118 : decode cX2_flickAll 118 = .ok (.invokevirtual 69, 3) := by decide +kernel
theorem dX2_flickAll_121 : decode cX2_flickAll 121 = .ok (.ior, 1) := by decide +kernel
theorem dX2_flickAll_122 : decode cX2_flickAll 122 = .ok (.istore_n 2, 1) := by decide +kernel
theorem dX2_flickAll_123 : decode cX2_flickAll 123 = .ok (.iinc 3 1, 3) := by decide +kernel
theorem dX2_flickAll_126 : decode cX2_flickAll 126 = .ok (.goto (-117), 3) := by decide +kernel
theorem dX2_flickAll_129 : decode cX2_flickAll 129 = .ok (.return_, 1) := by decide +kernel
theorem dX2_burn_0 : decode cX2_burn 0 = .ok (.iconst 0, 1) := by decide +kernel
theorem dX2_burn_1 : decode cX2_burn 1 = .ok (.istore_n 1, 1) := by decide +kernel
theorem dX2_burn_2 : decode cX2_burn 2 = .ok (.iconst 0, 1) := by decide +kernel
theorem dX2_burn_3 : decode cX2_burn 3 = .ok (.istore_n 2, 1) := by decide +kernel
theorem dX2_burn_4 : decode cX2_burn 4 = .ok (.iload_n 2, 1) := by decide +kernel
theorem dX2_burn_5 : decode cX2_burn 5 = .ok (.aload_n 0, 1) := by decide +kernel
theorem dX2_burn_6 : decode cX2_burn 6 = .ok (.getfield 24, 3) := by decide +kernel
theorem dX2_burn_9 : decode cX2_burn 9 = .ok (.if_icmp .ge 44, 3) := by decide +kernel
theorem dX2_burn_12 : decode cX2_burn 12 = .ok (.aload_n 0, 1) := by decide +kernel
theorem dX2_burn_13 : decode cX2_burn 13 = .ok (.iload_n 2, 1) := by decide +kernel
theorem dX2_burn_14 : decode cX2_burn 14 = .ok (.invokevirtual 55, 3) := by decide +kernel
theorem dX2_burn_17 : decode cX2_burn 17 = .ok (.ifCond .eq 30, 3) := by decide +kernel
theorem dX2_burn_20 : decode cX2_burn 20 = .ok (.aload_n 0, 1) := by decide +kernel
theorem dX2_burn_21 : decode cX2_burn 21 = .ok (.getfield 73, 3) := by decide +kernel
theorem dX2_burn_24 : decode cX2_burn 24 = .ok (.iload_n 2, 1) := by decide +kernel
theorem dX2_burn_25 : decode cX2_burn 25 = .ok (.dup2, 1) := by decide +kernel
theorem dX2_burn_26 : decode cX2_burn 26 = .ok (.iaload, 1) := by decide +kernel
theorem dX2_burn_27 : decode cX2_burn 27 = .ok (.iconst 1, 1) := by decide +kernel
theorem dX2_burn_28 : decode cX2_burn 28 = .ok (.isub, 1) := by decide +kernel
theorem dX2_burn_29 : decode cX2_burn 29 = .ok (.iastore, 1) := by decide +kernel
theorem dX2_burn_30 : decode cX2_burn 30 = .ok (.aload_n 0, 1) := by decide +kernel
theorem dX2_burn_31 : decode cX2_burn 31 = .ok (.getfield 73, 3) := by decide +kernel
theorem dX2_burn_34 : decode cX2_burn 34 = .ok (.iload_n 2, 1) := by decide +kernel
theorem dX2_burn_35 : decode cX2_burn 35 = .ok (.iaload, 1) := by decide +kernel
theorem dX2_burn_36 : decode cX2_burn 36 = .ok (.ifCond .gt 11, 3) := by decide +kernel
theorem dX2_burn_39 : decode cX2_burn 39 = .ok (.iload_n 1, 1) := by decide +kernel
theorem dX2_burn_40 : decode cX2_burn 40 = .ok (.aload_n 0, 1) := by decide +kernel
theorem dX2_burn_41 : decode cX2_burn 41 = .ok (.iload_n 2, 1) := by decide +kernel
theorem dX2_burn_42 : decode cX2_burn 42 = .ok (.invokevirtual 69, 3) := by decide +kernel
theorem dX2_burn_45 : decode cX2_burn 45 = .ok (.ior, 1) := by decide +kernel
theorem dX2_burn_46 : decode cX2_burn 46 = .ok (.istore_n 1, 1) := by decide +kernel
theorem dX2_burn_47 : decode cX2_burn 47 = .ok (.iinc 2 1, 3) := by decide +kernel
theorem dX2_burn_50 : decode cX2_burn 50 = .ok (.goto (-46), 3) := by decide +kernel
theorem dX2_burn_53 : decode cX2_burn 53 = .ok (.aload_n 0, 1) := by decide +kernel
theorem dX2_burn_54 : decode cX2_burn 54 = .ok (.dup, 1) := by decide +kernel
theorem dX2_burn_55 : decode cX2_burn 55 = .ok (.getfield 40, 3) := by decide +kernel
theorem dX2_burn_58 : decode cX2_burn 58 = .ok (.iload_n 1, 1) := by decide +kernel
theorem dX2_burn_59 : decode cX2_burn 59 = .ok (.iconst (-1), 1) := by decide +kernel
theorem dX2_burn_60 : decode cX2_burn 60 = .ok (.ixor, 1) := by decide +kernel
theorem dX2_burn_61 : decode cX2_burn 61 = .ok (.iand, 1) := by decide +kernel
theorem dX2_burn_62 : decode cX2_burn 62 = .ok (.putfield 40, 3) := by decide +kernel
theorem dX2_burn_65 : decode cX2_burn 65 = .ok (.return_, 1) := by decide +kernel
theorem dX3_init_0 : decode cX3_init 0 = .ok (.aload_n 0, 1) := by decide +kernel
theorem dX3_init_1 : decode cX3_init 1 = .ok (.invokespecial 3, 3) := by decide +kernel
theorem dX3_init_4 : decode cX3_init 4 = .ok (.aload_n 0, 1) := by decide +kernel
theorem dX3_init_5 : decode cX3_init 5 = .ok (.bipush 40, 2) := by decide +kernel
theorem dX3_init_7 : decode cX3_init 7 = .ok (.anewarray 9, 3) := by decide +kernel
theorem dX3_init_10 : decode cX3_init 10 = .ok (.putfield 11, 3) := by decide +kernel
theorem dX3_init_13 : decode cX3_init 13 = .ok (.iconst 0, 1) := by decide +kernel
theorem dX3_init_14 : decode cX3_init 14 = .ok (.istore_n 1, 1) := by decide +kernel
theorem dX3_init_15 : decode cX3_init 15 = .ok (.iload_n 1, 1) := by decide +kernel
theorem dX3_init_16 : decode cX3_init 16 = .ok (.bipush 40, 2) := by decide +kernel
theorem dX3_init_18 : decode cX3_init 18 = .ok (.if_icmp .ge 22, 3) := by decide +kernel
theorem dX3_init_21 : decode cX3_init 21 = .ok (.aload_n 0, 1) := by decide +kernel
theorem dX3_init_22 : decode cX3_init 22 = .ok (.getfield 11, 3) := by decide +kernel
theorem dX3_init_25 : decode cX3_init 25 = .ok (.iload_n 1, 1) := by decide +kernel
theorem dX3_init_26 : decode cX3_init 26 = .ok (.new 9, 3) := by decide +kernel
theorem dX3_init_29 : decode cX3_init 29 = .ok (.dup, 1) := by decide +kernel
theorem dX3_init_30 : decode cX3_init 30 = .ok (.invokespecial 17, 3) := by decide +kernel
theorem dX3_init_33 : decode cX3_init 33 = .ok (.aastore, 1) := by decide +kernel
theorem dX3_init_34 : decode cX3_init 34 = .ok (.iinc 1 1, 3) := by decide +kernel
theorem dX3_init_37 : decode cX3_init 37 = .ok (.goto (-22), 3) := by decide +kernel
theorem dX3_init_40 : decode cX3_init 40 = .ok (.return_, 1) := by decide +kernel
theorem dX3_clear_0 : decode cX3_clear 0 = .ok (.aload_n 0, 1) := by decide +kernel
theorem dX3_clear_1 : decode cX3_clear 1 = .ok (.iconst 0, 1) := by decide +kernel
theorem dX3_clear_2 : decode cX3_clear 2 = .ok (.putfield 18, 3) := by decide +kernel
theorem dX3_clear_5 : decode cX3_clear 5 = .ok (.return_, 1) := by decide +kernel
theorem dX3_keep_0 : decode cX3_keep 0 = .ok (.aload_n 0, 1) := by decide +kernel
theorem dX3_keep_1 : decode cX3_keep 1 = .ok (.getfield 18, 3) := by decide +kernel
theorem dX3_keep_4 : decode cX3_keep 4 = .ok (.bipush 40, 2) := by decide +kernel
theorem dX3_keep_6 : decode cX3_keep 6 = .ok (.if_icmp .lt 7, 3) := by decide +kernel
theorem dX3_keep_9 : decode cX3_keep 9 = .ok (.aload_n 0, 1) := by decide +kernel
theorem dX3_keep_10 : decode cX3_keep 10 = .ok (.invokevirtual 22, 3) := by decide +kernel
theorem dX3_keep_13 : decode cX3_keep 13 = .ok (.aload_n 0, 1) := by decide +kernel
theorem dX3_keep_14 : decode cX3_keep 14 = .ok (.getfield 11, 3) := by decide +kernel
theorem dX3_keep_17 : decode cX3_keep 17 = .ok (.aload_n 0, 1) := by decide +kernel
theorem dX3_keep_18 : decode cX3_keep 18 = .ok (.getfield 18, 3) := by decide +kernel
theorem dX3_keep_21 : decode cX3_keep 21 = .ok (.aaload, 1) := by decide +kernel
theorem dX3_keep_22 : decode cX3_keep 22 = .ok (.aload_n 1, 1) := by decide +kernel
theorem dX3_keep_23 : decode cX3_keep 23 = .ok (.invokevirtual 25, 3) := by decide +kernel
theorem dX3_keep_26 : decode cX3_keep 26 = .ok (.aload_n 0, 1) := by decide +kernel
theorem dX3_keep_27 : decode cX3_keep 27 = .ok (.dup, 1) := by decide +kernel
theorem dX3_keep_28 : decode cX3_keep 28 = .ok (.getfield 18, 3) := by decide +kernel
theorem dX3_keep_31 : decode cX3_keep 31 = .ok (.iconst 1, 1) := by decide +kernel
theorem dX3_keep_32 : decode cX3_keep 32 = .ok (.iadd, 1) := by decide +kernel
theorem dX3_keep_33 : decode cX3_keep 33 = .ok (.putfield 18, 3) := by decide +kernel
theorem dX3_keep_36 : decode cX3_keep 36 = .ok (.return_, 1) := by decide +kernel
theorem dX3_dropOldest_0 : decode cX3_dropOldest 0 = .ok (.aload_n 0, 1) := by decide +kernel
theorem dX3_dropOldest_1 : decode cX3_dropOldest 1 = .ok (.getfield 11, 3) := by decide +kernel
theorem dX3_dropOldest_4 : decode cX3_dropOldest 4 = .ok (.iconst 0, 1) := by decide +kernel
theorem dX3_dropOldest_5 : decode cX3_dropOldest 5 = .ok (.aaload, 1) := by decide +kernel
theorem dX3_dropOldest_6 : decode cX3_dropOldest 6 = .ok (.astore_n 1, 1) := by decide +kernel
theorem dX3_dropOldest_7 : decode cX3_dropOldest 7 = .ok (.iconst 1, 1) := by decide +kernel
theorem dX3_dropOldest_8 : decode cX3_dropOldest 8 = .ok (.istore_n 2, 1) := by decide +kernel
theorem dX3_dropOldest_9 : decode cX3_dropOldest 9 = .ok (.iload_n 2, 1) := by decide +kernel
theorem dX3_dropOldest_10 : decode cX3_dropOldest 10 = .ok (.bipush 40, 2) := by decide +kernel
theorem dX3_dropOldest_12 : decode cX3_dropOldest 12 = .ok (.if_icmp .ge 23, 3) := by decide +kernel
theorem dX3_dropOldest_15 : decode cX3_dropOldest 15 = .ok (.aload_n 0, 1) := by decide +kernel
theorem dX3_dropOldest_16 : decode cX3_dropOldest 16 = .ok (.getfield 11, 3) := by decide +kernel
theorem dX3_dropOldest_19 : decode cX3_dropOldest 19 = .ok (.iload_n 2, 1) := by decide +kernel
theorem dX3_dropOldest_20 : decode cX3_dropOldest 20 = .ok (.iconst 1, 1) := by decide +kernel
theorem dX3_dropOldest_21 : decode cX3_dropOldest 21 = .ok (.isub, 1) := by decide +kernel
theorem dX3_dropOldest_22 : decode cX3_dropOldest 22 = .ok (.aload_n 0, 1) := by decide +kernel
theorem dX3_dropOldest_23 : decode cX3_dropOldest 23 = .ok (.getfield 11, 3) := by decide +kernel
theorem dX3_dropOldest_26 : decode cX3_dropOldest 26 = .ok (.iload_n 2, 1) := by decide +kernel
theorem dX3_dropOldest_27 : decode cX3_dropOldest 27 = .ok (.aaload, 1) := by decide +kernel
theorem dX3_dropOldest_28 : decode cX3_dropOldest 28 = .ok (.aastore, 1) := by decide +kernel
theorem dX3_dropOldest_29 : decode cX3_dropOldest 29 = .ok (.iinc 2 1, 3) := by decide +kernel
theorem dX3_dropOldest_32 : decode cX3_dropOldest 32 = .ok (.goto (-23), 3) := by decide +kernel
theorem dX3_dropOldest_35 : decode cX3_dropOldest 35 = .ok (.aload_n 0, 1) := by decide +kernel
theorem dX3_dropOldest_36 : decode cX3_dropOldest 36 = .ok (.getfield 11, 3) := by decide +kernel
theorem dX3_dropOldest_39 : decode cX3_dropOldest 39 = .ok (.bipush 39, 2) := by decide +kernel
theorem dX3_dropOldest_41 : decode cX3_dropOldest 41 = .ok (.aload_n 1, 1) := by decide +kernel
theorem dX3_dropOldest_42 : decode cX3_dropOldest 42 = .ok (.aastore, 1) := by decide +kernel
theorem dX3_dropOldest_43 : decode cX3_dropOldest 43 = .ok (.aload_n 0, 1) := by decide +kernel
theorem dX3_dropOldest_44 : decode cX3_dropOldest 44 = .ok (.bipush 39, 2) := by decide +kernel
theorem dX3_dropOldest_46 : decode cX3_dropOldest 46 = .ok (.putfield 18, 3) := by decide +kernel
theorem dX3_dropOldest_49 : decode cX3_dropOldest 49 = .ok (.return_, 1) := by decide +kernel
theorem dX3_takeBack_0 : decode cX3_takeBack 0 = .ok (.aload_n 0, 1) := by decide +kernel
theorem dX3_takeBack_1 : decode cX3_takeBack 1 = .ok (.getfield 18, 3) := by decide +kernel
theorem dX3_takeBack_4 : decode cX3_takeBack 4 = .ok (.ifCond .le 26, 3) := by decide +kernel
theorem dX3_takeBack_7 : decode cX3_takeBack 7 = .ok (.aload_n 0, 1) := by decide +kernel
theorem dX3_takeBack_8 : decode cX3_takeBack 8 = .ok (.dup, 1) := by decide +kernel
theorem dX3_takeBack_9 : decode cX3_takeBack 9 = .ok (.getfield 18, 3) := by decide +kernel
theorem dX3_takeBack_12 : decode cX3_takeBack 12 = .ok (.iconst 1, 1) := by decide +kernel
theorem dX3_takeBack_13 : decode cX3_takeBack 13 = .ok (.isub, 1) := by decide +kernel
theorem dX3_takeBack_14 : decode cX3_takeBack 14 = .ok (.putfield 18, 3) := by decide +kernel
theorem dX3_takeBack_17 : decode cX3_takeBack 17 = .ok (.aload_n 1, 1) := by decide +kernel
theorem dX3_takeBack_18 : decode cX3_takeBack 18 = .ok (.aload_n 0, 1) := by decide +kernel
theorem dX3_takeBack_19 : decode cX3_takeBack 19 = .ok (.getfield 11, 3) := by decide +kernel
theorem dX3_takeBack_22 : decode cX3_takeBack 22 = .ok (.aload_n 0, 1) := by decide +kernel
theorem dX3_takeBack_23 : decode cX3_takeBack 23 = .ok (.getfield 18, 3) := by decide +kernel
theorem dX3_takeBack_26 : decode cX3_takeBack 26 = .ok (.aaload, 1) := by decide +kernel
theorem dX3_takeBack_27 : decode cX3_takeBack 27 = .ok (.invokevirtual 25, 3) := by decide +kernel
theorem dX3_takeBack_30 : decode cX3_takeBack 30 = .ok (.return_, 1) := by decide +kernel
theorem dX3_copyFrom_0 : decode cX3_copyFrom 0 = .ok (.aload_n 0, 1) := by decide +kernel
theorem dX3_copyFrom_1 : decode cX3_copyFrom 1 = .ok (.aload_n 1, 1) := by decide +kernel
theorem dX3_copyFrom_2 : decode cX3_copyFrom 2 = .ok (.getfield 18, 3) := by decide +kernel
theorem dX3_copyFrom_5 : decode cX3_copyFrom 5 = .ok (.putfield 18, 3) := by decide +kernel
theorem dX3_copyFrom_8 : decode cX3_copyFrom 8 = .ok (.iconst 0, 1) := by decide +kernel
theorem dX3_copyFrom_9 : decode cX3_copyFrom 9 = .ok (.istore_n 2, 1) := by decide +kernel
theorem dX3_copyFrom_10 : decode cX3_copyFrom 10 = .ok (.iload_n 2, 1) := by decide +kernel
theorem dX3_copyFrom_11 : decode cX3_copyFrom 11 = .ok (.aload_n 0, 1) := by decide +kernel
theorem dX3_copyFrom_12 : decode cX3_copyFrom 12 = .ok (.getfield 18, 3) := by decide +kernel
theorem dX3_copyFrom_15 : decode cX3_copyFrom 15 = .ok (.if_icmp .ge 24, 3) := by decide +kernel
theorem dX3_copyFrom_18 : decode cX3_copyFrom 18 = .ok (.aload_n 0, 1) := by decide +kernel
theorem dX3_copyFrom_19 : decode cX3_copyFrom 19 = .ok (.getfield 11, 3) := by decide +kernel
theorem dX3_copyFrom_22 : decode cX3_copyFrom 22 = .ok (.iload_n 2, 1) := by decide +kernel
theorem dX3_copyFrom_23 : decode cX3_copyFrom 23 = .ok (.aaload, 1) := by decide +kernel
theorem dX3_copyFrom_24 : decode cX3_copyFrom 24 = .ok (.aload_n 1, 1) := by decide +kernel
theorem dX3_copyFrom_25 : decode cX3_copyFrom 25 = .ok (.getfield 11, 3) := by decide +kernel
theorem dX3_copyFrom_28 : decode cX3_copyFrom 28 = .ok (.iload_n 2, 1) := by decide +kernel
theorem dX3_copyFrom_29 : decode cX3_copyFrom 29 = .ok (.aaload, 1) := by decide +kernel
theorem dX3_copyFrom_30 : decode cX3_copyFrom 30 = .ok (.invokevirtual 25, 3) := by decide +kernel
theorem dX3_copyFrom_33 : decode cX3_copyFrom 33 = .ok (.iinc 2 1, 3) := by decide +kernel
theorem dX3_copyFrom_36 : decode cX3_copyFrom 36 = .ok (.goto (-26), 3) := by decide +kernel
theorem dX3_copyFrom_39 : decode cX3_copyFrom 39 = .ok (.return_, 1) := by decide +kernel
theorem dX4_init_0 : decode cX4_init 0 = .ok (.aload_n 0, 1) := by decide +kernel
theorem dX4_init_1 : decode cX4_init 1 = .ok (.invokespecial 3, 3) := by decide +kernel
theorem dX4_init_4 : decode cX4_init 4 = .ok (.aload_n 0, 1) := by decide +kernel
theorem dX4_init_5 : decode cX4_init 5 = .ok (.bipush 12, 2) := by decide +kernel
theorem dX4_init_7 : decode cX4_init 7 = .ok (.newarray .int, 2) := by decide +kernel
theorem dX4_init_9 : decode cX4_init 9 = .ok (.putfield 9, 3) := by decide +kernel
theorem dX4_init_12 : decode cX4_init 12 = .ok (.aload_n 0, 1) := by decide +kernel
theorem dX4_init_13 : decode cX4_init 13 = .ok (.bipush 12, 2) := by decide +kernel
theorem dX4_init_15 : decode cX4_init 15 = .ok (.newarray .int, 2) := by decide +kernel
theorem dX4_init_17 : decode cX4_init 17 = .ok (.putfield 15, 3) := by decide +kernel
theorem dX4_init_20 : decode cX4_init 20 = .ok (.aload_n 0, 1) := by decide +kernel
theorem dX4_init_21 : decode cX4_init 21 = .ok (.bipush 12, 2) := by decide +kernel
theorem dX4_init_23 : decode cX4_init 23 = .ok (.bipush 12, 2) := by decide +kernel
theorem dX4_init_25 : decode cX4_init 25 = .ok (.multianewarray 18 2, 4) := by decide +kernel
theorem dX4_init_29 : decode cX4_init 29 = .ok (.putfield 20, 3) := by decide +kernel
theorem dX4_init_32 : decode cX4_init 32 = .ok (.aload_n 0, 1) := by decide +kernel
theorem dX4_init_33 : decode cX4_init 33 = .ok (.sipush 4096, 3) := by decide +kernel
theorem dX4_init_36 : decode cX4_init 36 = .ok (.newarray .int, 2) := by decide +kernel
theorem dX4_init_38 : decode cX4_init 38 = .ok (.putfield 23, 3) := by decide +kernel
theorem dX4_init_41 : decode cX4_init 41 = .ok (.return_, 1) := by decide +kernel
theorem dX4_setHours_0 : decode cX4_setHours 0 = .ok (.aload_n 0, 1) := by decide +kernel
theorem dX4_setHours_1 : decode cX4_setHours 1 = .ok (.getfield 9, 3) := by decide +kernel
theorem dX4_setHours_4 : decode cX4_setHours 4 = .ok (.iload_n 1, 1) := by decide +kernel
theorem dX4_setHours_5 : decode cX4_setHours 5 = .ok (.iload_n 2, 1) := by decide +kernel
theorem dX4_setHours_6 : decode cX4_setHours 6 = .ok (.iastore, 1) := by decide +kernel
theorem dX4_setHours_7 : decode cX4_setHours 7 = .ok (.aload_n 0, 1) := by decide +kernel
theorem dX4_setHours_8 : decode cX4_setHours 8 = .ok (.getfield 15, 3) := by decide +kernel
theorem dX4_setHours_11 : decode cX4_setHours 11 = .ok (.iload_n 1, 1) := by decide +kernel
theorem dX4_setHours_12 : decode cX4_setHours 12 = .ok (.iload_n 3, 1) := by decide +kernel
theorem dX4_setHours_13 : decode cX4_setHours 13 = .ok (.iastore, 1) := by decide +kernel
theorem dX4_setHours_14 : decode cX4_setHours 14 = .ok (.return_, 1) := by decide +kernel
theorem dX4_hoursAtOdds_0 : decode cX4_hoursAtOdds 0 = .ok (.aload_n 0, 1) := by decide +kernel
theorem dX4_hoursAtOdds_1 : decode cX4_hoursAtOdds 1 = .ok (.getfield 9, 3) := by decide +kernel
theorem dX4_hoursAtOdds_4 : decode cX4_hoursAtOdds 4 = .ok (.iload_n 1, 1) := by decide +kernel
theorem dX4_hoursAtOdds_5 : decode cX4_hoursAtOdds 5 = .ok (.iaload, 1) := by decide +kernel
theorem dX4_hoursAtOdds_6 : decode cX4_hoursAtOdds 6 = .ok (.aload_n 0, 1) := by decide +kernel
theorem dX4_hoursAtOdds_7 : decode cX4_hoursAtOdds 7 = .ok (.getfield 9, 3) := by decide +kernel
theorem dX4_hoursAtOdds_10 : decode cX4_hoursAtOdds 10 = .ok (.iload_n 2, 1) := by decide +kernel
theorem dX4_hoursAtOdds_11 : decode cX4_hoursAtOdds 11 = .ok (.iaload, 1) := by decide +kernel
theorem dX4_hoursAtOdds_12 : decode cX4_hoursAtOdds 12 = .ok (.iand, 1) := by decide +kernel
theorem dX4_hoursAtOdds_13 : decode cX4_hoursAtOdds 13 = .ok (.aload_n 0, 1) := by decide +kernel
theorem dX4_hoursAtOdds_14 : decode cX4_hoursAtOdds 14 = .ok (.getfield 15, 3) := by decide +kernel
theorem dX4_hoursAtOdds_17 : decode cX4_hoursAtOdds 17 = .ok (.iload_n 1, 1) := by decide +kernel
theorem dX4_hoursAtOdds_18 : decode cX4_hoursAtOdds 18 = .ok (.iaload, 1) := by decide +kernel
theorem dX4_hoursAtOdds_19 : decode cX4_hoursAtOdds 19 = .ok (.aload_n 0, 1) := by decide +kernel
theorem dX4_hoursAtOdds_20 : decode cX4_hoursAtOdds 20 = .ok (.getfield 15, 3) := by decide +kernel
theorem dX4_hoursAtOdds_23 : decode cX4_hoursAtOdds 23 = .ok (.iload_n 2, 1) := by decide +kernel
theorem dX4_hoursAtOdds_24 : decode cX4_hoursAtOdds 24 = .ok (.iaload, 1) := by decide +kernel
theorem dX4_hoursAtOdds_25 : decode cX4_hoursAtOdds 25 = .ok (.ixor, 1) := by decide +kernel
theorem dX4_hoursAtOdds_26 : decode cX4_hoursAtOdds 26 = .ok (.iand, 1) := by decide +kernel
theorem dX4_hoursAtOdds_27 : decode cX4_hoursAtOdds 27 = .ok (.istore_n 3, 1) := by decide +kernel
theorem dX4_hoursAtOdds_28 : decode cX4_hoursAtOdds 28 = .ok (.aload_n 0, 1) := by decide +kernel
theorem dX4_hoursAtOdds_29 : decode cX4_hoursAtOdds 29 = .ok (.getfield 9, 3) := by decide +kernel
theorem dX4_hoursAtOdds_32 : decode cX4_hoursAtOdds 32 = .ok (.iload_n 1, 1) := by decide +kernel
theorem dX4_hoursAtOdds_33 : decode cX4_hoursAtOdds 33 = .ok (.iaload, 1) := by decide +kernel
theorem dX4_hoursAtOdds_34 : decode cX4_hoursAtOdds 34 = .ok (.aload_n 0, 1) := by decide +kernel
theorem dX4_hoursAtOdds_35 : decode cX4_hoursAtOdds 35 = .ok (.getfield 9, 3) := by decide +kernel
theorem dX4_hoursAtOdds_38 : decode cX4_hoursAtOdds 38 = .ok (.iload_n 2, 1) := by decide +kernel
theorem dX4_hoursAtOdds_39 : decode cX4_hoursAtOdds 39 = .ok (.iaload, 1) := by decide +kernel
theorem dX4_hoursAtOdds_40 : decode cX4_hoursAtOdds 40 = .ok (.iconst (-1), 1) := by decide +kernel
theorem dX4_hoursAtOdds_41 : decode cX4_hoursAtOdds 41 = .ok (.ixor, 1) := by decide +kernel
theorem dX4_hoursAtOdds_42 : decode cX4_hoursAtOdds 42 = .ok (.iand, 1) := by decide +kernel
theorem dX4_hoursAtOdds_43 : decode cX4_hoursAtOdds 43 = .ok (.aload_n 0, 1) := by decide +kernel
theorem dX4_hoursAtOdds_44 : decode cX4_hoursAtOdds 44 = .ok (.getfield 15, 3) := by decide +kernel
theorem dX4_hoursAtOdds_47 : decode cX4_hoursAtOdds 47 = .ok (.iload_n 1, 1) := by decide +kernel
theorem dX4_hoursAtOdds_48 : decode cX4_hoursAtOdds 48 = .ok (.iaload, 1) := by decide +kernel
theorem dX4_hoursAtOdds_49 : decode cX4_hoursAtOdds 49 = .ok (.iand, 1) := by decide +kernel
theorem dX4_hoursAtOdds_50 : decode cX4_hoursAtOdds 50 = .ok (.istore 4, 2) := by decide +kernel
theorem dX4_hoursAtOdds_52 : decode cX4_hoursAtOdds 52 = .ok (.aload_n 0, 1) := by decide +kernel
theorem dX4_hoursAtOdds_53 : decode cX4_hoursAtOdds 53 = .ok (.getfield 9, 3) := by decide +kernel
theorem dX4_hoursAtOdds_56 : decode cX4_hoursAtOdds 56 = .ok (.iload_n 2, 1) := by decide +kernel
theorem dX4_hoursAtOdds_57 : decode cX4_hoursAtOdds 57 = .ok (.iaload, 1) := by decide +kernel
theorem dX4_hoursAtOdds_58 : decode cX4_hoursAtOdds 58 = .ok (.aload_n 0, 1) := by decide +kernel
theorem dX4_hoursAtOdds_59 : decode cX4_hoursAtOdds 59 = .ok (.getfield 9, 3) := by decide +kernel
theorem dX4_hoursAtOdds_62 : decode cX4_hoursAtOdds 62 = .ok (.iload_n 1, 1) := by decide +kernel
theorem dX4_hoursAtOdds_63 : decode cX4_hoursAtOdds 63 = .ok (.iaload, 1) := by decide +kernel
theorem dX4_hoursAtOdds_64 : decode cX4_hoursAtOdds 64 = .ok (.iconst (-1), 1) := by decide +kernel
theorem dX4_hoursAtOdds_65 : decode cX4_hoursAtOdds 65 = .ok (.ixor, 1) := by decide +kernel
theorem dX4_hoursAtOdds_66 : decode cX4_hoursAtOdds 66 = .ok (.iand, 1) := by decide +kernel
theorem dX4_hoursAtOdds_67 : decode cX4_hoursAtOdds 67 = .ok (.aload_n 0, 1) := by decide +kernel
theorem dX4_hoursAtOdds_68 : decode cX4_hoursAtOdds 68 = .ok (.getfield 15, 3) := by decide +kernel
theorem dX4_hoursAtOdds_71 : decode cX4_hoursAtOdds 71 = .ok (.iload_n 2, 1) := by decide +kernel
theorem dX4_hoursAtOdds_72 : decode cX4_hoursAtOdds 72 = .ok (.iaload, 1) := by decide +kernel
theorem dX4_hoursAtOdds_73 : decode cX4_hoursAtOdds 73 = .ok (.iand, 1) := by decide +kernel
theorem dX4_hoursAtOdds_74 : decode cX4_hoursAtOdds 74 = .ok (.istore 5, 2) := by decide +kernel
theorem dX4_hoursAtOdds_76 : decode cX4_hoursAtOdds 76 = .ok (.iload_n 3, 1) := by decide +kernel
theorem dX4_hoursAtOdds_77 : decode cX4_hoursAtOdds 77 = .ok (.iload 4, 2) := by decide +kernel
theorem dX4_hoursAtOdds_79 : decode cX4_hoursAtOdds 79 = .ok (.ior, 1) := by decide +kernel
theorem dX4_hoursAtOdds_80 : decode cX4_hoursAtOdds 80 = .ok (.iload 5, 2) := by decide +kernel
theorem dX4_hoursAtOdds_82 : decode cX4_hoursAtOdds 82 = .ok (.ior, 1) := by decide +kernel
theorem dX4_hoursAtOdds_83 : decode cX4_hoursAtOdds 83 = .ok (.invokestatic 26, 3) := by decide +kernel
theorem dX4_hoursAtOdds_86 : decode cX4_hoursAtOdds 86 = .ok (.ireturn, 1) := by decide +kernel
theorem dX4_price_0 : decode cX4_price 0 = .ok (.iconst 0, 1) := by decide +kernel
theorem dX4_price_1 : decode cX4_price 1 = .ok (.istore_n 2, 1) := by decide +kernel
theorem dX4_price_2 : decode cX4_price 2 = .ok (.iload_n 2, 1) := by decide +kernel
theorem dX4_price_3 : decode cX4_price 3 = .ok (.bipush 12, 2) := by decide +kernel
theorem dX4_price_5 : decode cX4_price 5 = .ok (.if_icmp .ge 57, 3) := by decide +kernel
theorem dX4_price_8 : decode cX4_price 8 = .ok (.iload_n 2, 1) := by decide +kernel
theorem dX4_price_9 : decode cX4_price 9 = .ok (.iconst 1, 1) := by decide +kernel
theorem dX4_price_10 : decode cX4_price 10 = .ok (.iadd, 1) := by decide +kernel
theorem dX4_price_11 : decode cX4_price 11 = .ok (.istore_n 3, 1) := by decide +kernel
theorem dX4_price_12 : decode cX4_price 12 = .ok (.iload_n 3, 1) := by decide +kernel
theorem dX4_price_13 : decode cX4_price 13 = .ok (.bipush 12, 2) := by decide +kernel
theorem dX4_price_15 : decode cX4_price 15 = .ok (.if_icmp .ge 41, 3) := by decide +kernel
theorem dX4_price_18 : decode cX4_price 18 = .ok (.iload_n 1, 1) := by decide +kernel
theorem dX4_price_19 : decode cX4_price 19 = .ok (.iload_n 2, 1) := by decide +kernel
theorem dX4_price_20 : decode cX4_price 20 = .ok (.ishr, 1) := by decide +kernel
theorem dX4_price_21 : decode cX4_price 21 = .ok (.iconst 1, 1) := by decide +kernel
theorem dX4_price_22 : decode cX4_price 22 = .ok (.iand, 1) := by decide +kernel
theorem dX4_price_23 : decode cX4_price 23 = .ok (.iconst 1, 1) := by decide +kernel
theorem dX4_price_24 : decode cX4_price 24 = .ok (.if_icmp .ne 26, 3) := by decide +kernel
theorem dX4_price_27 : decode cX4_price 27 = .ok (.iload_n 1, 1) := by decide +kernel
theorem dX4_price_28 : decode cX4_price 28 = .ok (.iload_n 3, 1) := by decide +kernel
theorem dX4_price_29 : decode cX4_price 29 = .ok (.ishr, 1) := by decide +kernel
theorem dX4_price_30 : decode cX4_price 30 = .ok (.iconst 1, 1) := by decide +kernel
theorem dX4_price_31 : decode cX4_price 31 = .ok (.iand, 1) := by decide +kernel
theorem dX4_price_32 : decode cX4_price 32 = .ok (.iconst 1, 1) := by decide +kernel
theorem dX4_price_33 : decode cX4_price 33 = .ok (.if_icmp .ne 17, 3) := by decide +kernel
theorem dX4_price_36 : decode cX4_price 36 = .ok (.aload_n 0, 1) := by decide +kernel
theorem dX4_price_37 : decode cX4_price 37 = .ok (.getfield 20, 3) := by decide +kernel
theorem dX4_price_40 : decode cX4_price 40 = .ok (.iload_n 2, 1) := by decide +kernel
theorem dX4_price_41 : decode cX4_price 41 = .ok (.aaload, 1) := by decide +kernel
theorem dX4_price_42 : decode cX4_price 42 = .ok (.iload_n 3, 1) := by decide +kernel
theorem dX4_price_43 : decode cX4_price 43 = .ok (.aload_n 0, 1) := by decide +kernel
theorem dX4_price_44 : decode cX4_price 44 = .ok (.iload_n 2, 1) := by decide +kernel
theorem dX4_price_45 : decode cX4_price 45 = .ok (.iload_n 3, 1) := by decide +kernel
theorem dX4_price_46 : decode cX4_price 46 = .ok (.invokevirtual 32, 3) := by decide +kernel
theorem dX4_price_49 : decode cX4_price 49 = .ok (.iastore, 1) := by decide +kernel
theorem dX4_price_50 : decode cX4_price 50 = .ok (.iinc 3 1, 3) := by decide +kernel
theorem dX4_price_53 : decode cX4_price 53 = .ok (.goto (-41), 3) := by decide +kernel
theorem dX4_price_56 : decode cX4_price 56 = .ok (.iinc 2 1, 3) := by decide +kernel
theorem dX4_price_59 : decode cX4_price 59 = .ok (.goto (-57), 3) := by decide +kernel
theorem dX4_price_62 : decode cX4_price 62 = .ok (.return_, 1) := by decide +kernel
theorem dX4_weigh_0 : decode cX4_weigh 0 = .ok (.aload_n 0, 1) := by decide +kernel
theorem dX4_weigh_1 : decode cX4_weigh 1 = .ok (.iload_n 1, 1) := by decide +kernel
theorem dX4_weigh_2 : decode cX4_weigh 2 = .ok (.invokevirtual 36, 3) := by decide +kernel
theorem dX4_weigh_5 : decode cX4_weigh 5 = .ok (.aload_n 0, 1) := by decide +kernel
theorem dX4_weigh_6 : decode cX4_weigh 6 = .ok (.getfield 23, 3) := by decide +kernel
theorem dX4_weigh_9 : decode cX4_weigh 9 = .ok (.iconst 0, 1) := by decide +kernel
theorem dX4_weigh_10 : decode cX4_weigh 10 = .ok (.iconst 0, 1) := by decide +kernel
theorem dX4_weigh_11 : decode cX4_weigh 11 = .ok (.iastore, 1) := by decide +kernel
theorem dX4_weigh_12 : decode cX4_weigh 12 = .ok (.iconst 1, 1) := by decide +kernel
theorem dX4_weigh_13 : decode cX4_weigh 13 = .ok (.istore_n 2, 1) := by decide +kernel
theorem dX4_weigh_14 : decode cX4_weigh 14 = .ok (.iload_n 2, 1) := by decide +kernel
theorem dX4_weigh_15 : decode cX4_weigh 15 = .ok (.aload_n 0, 1) := by decide +kernel
theorem dX4_weigh_16 : decode cX4_weigh 16 = .ok (.getfield 23, 3) := by decide +kernel
theorem dX4_weigh_19 : decode cX4_weigh 19 = .ok (.arraylength, 1) := by decide +kernel
theorem dX4_weigh_20 : decode cX4_weigh 20 = .ok (.if_icmp .ge 95, 3) := by decide +kernel
theorem dX4_weigh_23 : decode cX4_weigh 23 = .ok (.iload_n 2, 1) := by decide +kernel
theorem dX4_weigh_24 : decode cX4_weigh 24 = .ok (.iload_n 1, 1) := by decide +kernel
theorem dX4_weigh_25 : decode cX4_weigh 25 = .ok (.if_icmp .gt 90, 3) := by decide +kernel
theorem dX4_weigh_28 : decode cX4_weigh 28 = .ok (.iload_n 2, 1) := by decide +kernel
theorem dX4_weigh_29 : decode cX4_weigh 29 = .ok (.iload_n 1, 1) := by decide +kernel
theorem dX4_weigh_30 : decode cX4_weigh 30 = .ok (.iconst (-1), 1) := by decide +kernel
theorem dX4_weigh_31 : decode cX4_weigh 31 = .ok (.ixor, 1) := by decide +kernel
theorem dX4_weigh_32 : decode cX4_weigh 32 = .ok (.iand, 1) := by decide +kernel
theorem dX4_weigh_33 : decode cX4_weigh 33 = .ok (.ifCond .ne 76, 3) := by decide +kernel
theorem dX4_weigh_36 : decode cX4_weigh 36 = .ok (.iload_n 2, 1) := by decide +kernel
theorem dX4_weigh_37 : decode cX4_weigh 37 = .ok (.invokestatic 26, 3) := by decide +kernel
theorem dX4_weigh_40 : decode cX4_weigh 40 = .ok (.iconst 2, 1) := by decide +kernel
theorem dX4_weigh_41 : decode cX4_weigh 41 = .ok (.irem, 1) := by decide +kernel
theorem dX4_weigh_42 : decode cX4_weigh 42 = .ok (.ifCond .ne 67, 3) := by decide +kernel
theorem dX4_weigh_45 : decode cX4_weigh 45 = .ok (.aload_n 0, 1) := by decide +kernel
theorem dX4_weigh_46 : decode cX4_weigh 46 = .ok (.getfield 23, 3) := by decide +kernel
theorem dX4_weigh_49 : decode cX4_weigh 49 = .ok (.iload_n 2, 1) := by decide +kernel
theorem dX4_weigh_50 : decode cX4_weigh 50 = .ok (.ldc 40, 2) := by decide +kernel
theorem dX4_weigh_52 : decode cX4_weigh 52 = .ok (.iastore, 1) := by decide +kernel
theorem dX4_weigh_53 : decode cX4_weigh 53 = .ok (.iload_n 2, 1) := by decide +kernel
theorem dX4_weigh_54 : decode cX4_weigh 54 = .ok (.invokestatic 41, 3) := by decide +kernel
theorem dX4_weigh_57 : decode cX4_weigh 57 = .ok (.istore_n 3, 1) := by decide +kernel
theorem dX4_weigh_58 : decode cX4_weigh 58 = .ok (.iload_n 3, 1) := by decide +kernel
theorem dX4_weigh_59 : decode cX4_weigh 59 = .ok (.iconst 1, 1) := by decide +kernel
theorem dX4_weigh_60 : decode cX4_weigh 60 = .ok (.iadd, 1) := by decide +kernel
theorem dX4_weigh_61 : decode cX4_weigh 61 = .ok (.istore 4, 2) := by decide +kernel
theorem dX4_weigh_63 : decode cX4_weigh 63 = .ok (.iload 4, 2) := by decide +kernel
theorem dX4_weigh_65 : decode cX4_weigh 65 = .ok (.bipush 12, 2) := by decide +kernel
theorem dX4_weigh_67 : decode cX4_weigh 67 = .ok (.if_icmp .ge 42, 3) := by decide +kernel
theorem dX4_weigh_70 : decode cX4_weigh 70 = .ok (.iload_n 2, 1) := by decide +kernel
theorem dX4_weigh_71 : decode cX4_weigh 71 = .ok (.iload 4, 2) := by decide +kernel
theorem dX4_weigh_73 : decode cX4_weigh 73 = .ok (.ishr, 1) := by decide +kernel
theorem dX4_weigh_74 : decode cX4_weigh 74 = .ok (.iconst 1, 1) := by decide +kernel
theorem dX4_weigh_75 : decode cX4_weigh 75 = .ok (.iand, 1) := by decide +kernel
theorem dX4_weigh_76 : decode cX4_weigh 76 = .ok (.iconst 1, 1) := by decide +kernel
theorem dX4_weigh_77 : decode cX4_weigh 77 = .ok (.if_icmp .ne 26, 3) := by decide +kernel
theorem dX4_weigh_80 : decode cX4_weigh 80 = .ok (.aload_n 0, 1) := by decide +kernel
theorem dX4_weigh_81 : decode cX4_weigh 81 = .ok (.getfield 23, 3) := by decide +kernel
theorem dX4_weigh_84 : decode cX4_weigh 84 = .ok (.iload_n 2, 1) := by decide +kernel
theorem dX4_weigh_85 : decode cX4_weigh 85 = .ok (.aload_n 0, 1) := by decide +kernel
theorem dX4_weigh_86 : decode cX4_weigh 86 = .ok (.getfield 23, 3) := by decide +kernel
theorem dX4_weigh_89 : decode cX4_weigh 89 = .ok (.iload_n 2, 1) := by decide +kernel
theorem dX4_weigh_90 : decode cX4_weigh 90 = .ok (.iaload, 1) := by decide +kernel
theorem dX4_weigh_91 : decode cX4_weigh 91 = .ok (.aload_n 0, 1) := by decide +kernel
theorem dX4_weigh_92 : decode cX4_weigh 92 = .ok (.iload_n 2, 1) := by decide +kernel
theorem dX4_weigh_93 : decode cX4_weigh 93 = .ok (.iload_n 3, 1) := by decide +kernel
theorem dX4_weigh_94 : decode cX4_weigh 94 = .ok (.iload 4, 2) := by decide +kernel
theorem dX4_weigh_96 : decode cX4_weigh 96 = .ok (.invokevirtual 44, 3) := by decide +kernel
theorem dX4_weigh_99 : decode cX4_weigh 99 = .ok (.invokestatic 48, 3) := by decide +kernel
theorem dX4_weigh_102 : decode cX4_weigh 102 = .ok (.iastore, 1) := by decide +kernel
theorem dX4_weigh_103 : decode cX4_weigh 103 = .ok (.iinc 4 1, 3) := by decide +kernel
theorem dX4_weigh_106 : decode cX4_weigh 106 = .ok (.goto (-43), 3) := by decide +kernel
theorem dX4_weigh_109 : decode cX4_weigh 109 = .ok (.iinc 2 1, 3) := by decide +kernel
theorem dX4_weigh_112 : decode cX4_weigh 112 = .ok (.goto (-98), 3) := by decide +kernel
theorem dX4_weigh_115 : decode cX4_weigh 115 = .ok (.return_, 1) := by decide +kernel
theorem dX4_leastCost_0 : decode cX4_leastCost 0 = .ok (.iload_n 1, 1) := by decide +kernel
theorem dX4_leastCost_1 : decode cX4_leastCost 1 = .ok (.ifCond .lt 21, 3) := by decide +kernel
theorem dX4_leastCost_4 : decode cX4_leastCost 4 = .ok (.iload_n 1, 1) := by decide +kernel
theorem dX4_leastCost_5 : decode cX4_leastCost 5 = .ok (.aload_n 0, 1) := by decide +kernel
theorem dX4_leastCost_6 : decode cX4_leastCost 6 = .ok (.getfield 23, 3) := by decide +kernel
theorem dX4_leastCost_9 : decode cX4_leastCost 9 = .ok (.arraylength, 1) := by decide +kernel
theorem dX4_leastCost_10 : decode cX4_leastCost 10 = .ok (.if_icmp .ge 12, 3) := by decide +kernel
theorem dX4_leastCost_13 : decode cX4_leastCost 13 = .ok (.aload_n 0, 1) := by decide +kernel
theorem dX4_leastCost_14 : decode cX4_leastCost 14 = .ok (.getfield 23, 3) := by decide +kernel
theorem dX4_leastCost_17 : decode cX4_leastCost 17 = .ok (.iload_n 1, 1) := by decide +kernel
theorem dX4_leastCost_18 : decode cX4_leastCost 18 = .ok (.iaload, 1) := by decide +kernel
theorem dX4_leastCost_19 : decode cX4_leastCost 19 = .ok (.goto 4, 3) := by decide +kernel
theorem dX4_leastCost_22 : decode cX4_leastCost 22 = .ok (.iconst 0, 1) := by decide +kernel
theorem dX4_leastCost_23 : decode cX4_leastCost 23 = .ok (.ireturn, 1) := by decide +kernel
theorem dX4_partner_0 : decode cX4_partner 0 = .ok (.iload_n 1, 1) := by decide +kernel
theorem dX4_partner_1 : decode cX4_partner 1 = .ok (.istore_n 3, 1) := by decide +kernel
theorem dX4_partner_2 : decode cX4_partner 2 = .ok (.iconst 0, 1) := by decide +kernel
theorem dX4_partner_3 : decode cX4_partner 3 = .ok (.istore 4, 2) := by decide +kernel
theorem dX4_partner_5 : decode cX4_partner 5 = .ok (.iload 4, 2) := by decide +kernel
theorem dX4_partner_7 : decode cX4_partner 7 = .ok (.bipush 12, 2) := by decide +kernel
theorem dX4_partner_9 : decode cX4_partner 9 = .ok (.if_icmp .ge 91, 3) := by decide +kernel
theorem dX4_partner_12 : decode cX4_partner 12 = .ok (.iload_n 3, 1) := by decide +kernel
theorem dX4_partner_13 : decode cX4_partner 13 = .ok (.ifCond .le 87, 3) := by decide +kernel
theorem dX4_partner_16 : decode cX4_partner 16 = .ok (.iload_n 3, 1) := by decide +kernel
theorem dX4_partner_17 : decode cX4_partner 17 = .ok (.aload_n 0, 1) := by decide +kernel
theorem dX4_partner_18 : decode cX4_partner 18 = .ok (.getfield 23, 3) := by decide +kernel
theorem dX4_partner_21 : decode cX4_partner 21 = .ok (.arraylength, 1) := by decide +kernel
theorem dX4_partner_22 : decode cX4_partner 22 = .ok (.if_icmp .ge 78, 3) := by decide +kernel
theorem dX4_partner_25 : decode cX4_partner 25 = .ok (.iload_n 3, 1) := by decide +kernel
theorem dX4_partner_26 : decode cX4_partner 26 = .ok (.invokestatic 41, 3) := by decide +kernel
theorem dX4_partner_29 : decode cX4_partner 29 = .ok (.istore 5, 2) := by decide +kernel
theorem dX4_partner_31 : decode cX4_partner 31 = .ok (.iload 5, 2) := by decide +kernel
theorem dX4_partner_33 : decode cX4_partner 33 = .ok (.iconst 1, 1) := by decide +kernel
theorem dX4_partner_34 : decode cX4_partner 34 = .ok (.iadd, 1) := by decide +kernel
theorem dX4_partner_35 : decode cX4_partner 35 = .ok (.istore 6, 2) := by decide +kernel
theorem dX4_partner_37 : decode cX4_partner 37 = .ok (.iload 6, 2) := by decide +kernel
theorem dX4_partner_39 : decode cX4_partner 39 = .ok (.bipush 12, 2) := by decide +kernel
theorem dX4_partner_41 : decode cX4_partner 41 = .ok (.if_icmp .ge 21, 3) := by decide +kernel
theorem dX4_partner_44 : decode cX4_partner 44 = .ok (.aload_n 0, 1) := by decide +kernel
theorem dX4_partner_45 : decode cX4_partner 45 = .ok (.iload_n 3, 1) := by decide +kernel
theorem dX4_partner_46 : decode cX4_partner 46 = .ok (.iload 5, 2) := by decide +kernel
theorem dX4_partner_48 : decode cX4_partner 48 = .ok (.iload 6, 2) := by decide +kernel
theorem dX4_partner_50 : decode cX4_partner 50 = .ok (.invokevirtual 53, 3) := by decide +kernel
theorem dX4_partner_53 : decode cX4_partner 53 = .ok (.ifCond .ne 9, 3) := by decide +kernel
theorem dX4_partner_56 : decode cX4_partner 56 = .ok (.iinc 6 1, 3) := by decide +kernel
theorem dX4_partner_59 : decode cX4_partner 59 = .ok (.goto (-22), 3) := by decide +kernel
theorem dX4_partner_62 : decode cX4_partner 62 = .ok (.iload_n 2, 1) := by decide +kernel
theorem dX4_partner_63 : decode cX4_partner 63 = .ok (.iload 5, 2) := by decide +kernel
theorem dX4_partner_65 : decode cX4_partner 65 = .ok (.if_icmp .ne 6, 3) := by decide +kernel
theorem dX4_partner_68 : decode cX4_partner 68 = .ok (.iload 6, 2) := by decide +kernel
theorem dX4_partner_70 : decode cX4_partner 70 = .ok (.ireturn, 1) := by decide +kernel
theorem dX4_partner_71 : decode cX4_partner 71 = .ok (.iload_n 2, 1) := by decide +kernel
theorem dX4_partner_72 : decode cX4_partner 72 = .ok (.iload 6, 2) := by decide +kernel
theorem dX4_partner_74 : decode cX4_partner 74 = .ok (.if_icmp .ne 6, 3) := by decide +kernel
theorem dX4_partner_77 : decode cX4_partner 77 = .ok (.iload 5, 2) := by decide +kernel
theorem dX4_partner_79 : decode cX4_partner 79 = .ok (.ireturn, 1) := by decide +kernel
theorem dX4_partner_80 : decode cX4_partner 80 = .ok (.iload_n 3, 1) := by decide +kernel
theorem dX4_partner_81 : decode cX4_partner 81 = .ok (.iconst 1, 1) := by decide +kernel
theorem dX4_partner_82 : decode cX4_partner 82 = .ok (.iload 5, 2) := by decide +kernel
theorem dX4_partner_84 : decode cX4_partner 84 = .ok (.ishl, 1) := by decide +kernel
theorem dX4_partner_85 : decode cX4_partner 85 = .ok (.iconst 1, 1) := by decide +kernel
theorem dX4_partner_86 : decode cX4_partner 86 = .ok (.iload 6, 2) := by decide +kernel
theorem dX4_partner_88 : decode cX4_partner 88 = .ok (.ishl, 1) := by decide +kernel
theorem dX4_partner_89 : decode cX4_partner 89 = .ok (.ior, 1) := by decide +kernel
theorem dX4_partner_90 : decode cX4_partner 90 = .ok (.iconst (-1), 1) := by decide +kernel
theorem dX4_partner_91 : decode cX4_partner 91 = .ok (.ixor, 1) := by decide +kernel
theorem dX4_partner_92 : decode cX4_partner 92 = .ok (.iand, 1) := by decide +kernel
theorem dX4_partner_93 : decode cX4_partner 93 = .ok (.istore_n 3, 1) := by decide +kernel
theorem dX4_partner_94 : decode cX4_partner 94 = .ok (.iinc 4 1, 3) := by decide +kernel
theorem dX4_partner_97 : decode cX4_partner 97 = .ok (.goto (-92), 3) := by decide +kernel
theorem dX4_partner_100 : decode cX4_partner 100 = .ok (.iconst (-1), 1) := by decide +kernel
theorem dX4_partner_101 : decode cX4_partner 101 = .ok (.ireturn, 1) := by decide +kernel
theorem dX4_isBest_0 : decode cX4_isBest 0 = .ok (.iload_n 1, 1) := by decide +kernel
theorem dX4_isBest_1 : decode cX4_isBest 1 = .ok (.iload_n 3, 1) := by decide +kernel
theorem dX4_isBest_2 : decode cX4_isBest 2 = .ok (.ishr, 1) := by decide +kernel
theorem dX4_isBest_3 : decode cX4_isBest 3 = .ok (.iconst 1, 1) := by decide +kernel
theorem dX4_isBest_4 : decode cX4_isBest 4 = .ok (.iand, 1) := by decide +kernel
theorem dX4_isBest_5 : decode cX4_isBest 5 = .ok (.iconst 1, 1) := by decide +kernel
theorem dX4_isBest_6 : decode cX4_isBest 6 = .ok (.if_icmp .ne 23, 3) := by decide +kernel
theorem dX4_isBest_9 : decode cX4_isBest 9 = .ok (.aload_n 0, 1) := by decide +kernel
theorem dX4_isBest_10 : decode cX4_isBest 10 = .ok (.iload_n 1, 1) := by decide +kernel
theorem dX4_isBest_11 : decode cX4_isBest 11 = .ok (.iload_n 2, 1) := by decide +kernel
theorem dX4_isBest_12 : decode cX4_isBest 12 = .ok (.iload_n 3, 1) := by decide +kernel
theorem dX4_isBest_13 : decode cX4_isBest 13 = .ok (.invokevirtual 44, 3) := by decide +kernel
theorem dX4_isBest_16 : decode cX4_isBest 16 = .ok (.aload_n 0, 1) := by decide +kernel
theorem dX4_isBest_17 : decode cX4_isBest 17 = .ok (.getfield 23, 3) := by decide +kernel
theorem dX4_isBest_20 : decode cX4_isBest 20 = .ok (.iload_n 1, 1) := by decide +kernel
theorem dX4_isBest_21 : decode cX4_isBest 21 = .ok (.iaload, 1) := by decide +kernel
theorem dX4_isBest_22 : decode cX4_isBest 22 = .ok (.if_icmp .ne 7, 3) := by decide +kernel
theorem dX4_isBest_25 : decode cX4_isBest 25 = .ok (.iconst 1, 1) := by decide +kernel
theorem dX4_isBest_26 : decode cX4_isBest 26 = .ok (.goto 4, 3) := by decide +kernel
theorem dX4_isBest_29 : decode cX4_isBest 29 = .ok (.iconst 0, 1) := by decide +kernel
theorem dX4_isBest_30 : decode cX4_isBest 30 = .ok (.ireturn, 1) := by decide +kernel
theorem dX4_costWith_0 : decode cX4_costWith 0 = .ok (.aload_n 0, 1) := by decide +kernel
theorem dX4_costWith_1 : decode cX4_costWith 1 = .ok (.getfield 20, 3) := by decide +kernel
theorem dX4_costWith_4 : decode cX4_costWith 4 = .ok (.iload_n 2, 1) := by decide +kernel
theorem dX4_costWith_5 : decode cX4_costWith 5 = .ok (.aaload, 1) := by decide +kernel
theorem dX4_costWith_6 : decode cX4_costWith 6 = .ok (.iload_n 3, 1) := by decide +kernel
theorem dX4_costWith_7 : decode cX4_costWith 7 = .ok (.iaload, 1) := by decide +kernel
theorem dX4_costWith_8 : decode cX4_costWith 8 = .ok (.aload_n 0, 1) := by decide +kernel
theorem dX4_costWith_9 : decode cX4_costWith 9 = .ok (.getfield 23, 3) := by decide +kernel
theorem dX4_costWith_12 : decode cX4_costWith 12 = .ok (.iload_n 1, 1) := by decide +kernel
theorem dX4_costWith_13 : decode cX4_costWith 13 = .ok (.iconst 1, 1) := by decide +kernel
theorem dX4_costWith_14 : decode cX4_costWith 14 = .ok (.iload_n 2, 1) := by decide +kernel
theorem dX4_costWith_15 : decode cX4_costWith 15 = .ok (.ishl, 1) := by decide +kernel
theorem dX4_costWith_16 : decode cX4_costWith 16 = .ok (.iconst 1, 1) := by decide +kernel
theorem dX4_costWith_17 : decode cX4_costWith 17 = .ok (.iload_n 3, 1) := by decide +kernel
theorem dX4_costWith_18 : decode cX4_costWith 18 = .ok (.ishl, 1) := by decide +kernel
theorem dX4_costWith_19 : decode cX4_costWith 19 = .ok (.ior, 1) := by decide +kernel
theorem dX4_costWith_20 : decode cX4_costWith 20 = .ok (.iconst (-1), 1) := by decide +kernel
theorem dX4_costWith_21 : decode cX4_costWith 21 = .ok (.ixor, 1) := by decide +kernel
theorem dX4_costWith_22 : decode cX4_costWith 22 = .ok (.iand, 1) := by decide +kernel
theorem dX4_costWith_23 : decode cX4_costWith 23 = .ok (.iaload, 1) := by decide +kernel
theorem dX4_costWith_24 : decode cX4_costWith 24 = .ok (.iadd, 1) := by decide +kernel
theorem dX4_costWith_25 : decode cX4_costWith 25 = .ok (.ireturn, 1) := by decide +kernel
theorem dX5_init_0 : decode cX5_init 0 = .ok (.aload_n 0, 1) := by decide +kernel
theorem dX5_init_1 : decode cX5_init 1 = .ok (.invokespecial 1, 3) := by decide +kernel
theorem dX5_init_4 : decode cX5_init 4 = .ok (.aload_n 0, 1) := by decide +kernel
theorem dX5_init_5 : decode cX5_init 5 = .ok (.new 7, 3) := by decide +kernel
theorem dX5_init_8 : decode cX5_init 8 = .ok (.dup, 1) := by decide +kernel
theorem dX5_init_9 : decode cX5_init 9 = .ok (.invokespecial 9, 3) := by decide +kernel
theorem dX5_init_12 : decode cX5_init 12 = .ok (.putfield 10, 3) := by decide +kernel
theorem dX5_init_15 : decode cX5_init 15 = .ok (.aload_n 0, 1) := by decide +kernel
theorem dX5_init_16 : decode cX5_init 16 = .ok (.new 16, 3) := by decide +kernel
theorem dX5_init_19 : decode cX5_init 19 = .ok (.dup, 1) := by decide +kernel
theorem dX5_init_20 : decode cX5_init 20 = .ok (.invokespecial 18, 3) := by decide +kernel
theorem dX5_init_23 : decode cX5_init 23 = .ok (.putfield 19, 3) := by decide +kernel
theorem dX5_init_26 : decode cX5_init 26 = .ok (.aload_n 0, 1) := by decide +kernel
theorem dX5_init_27 : decode cX5_init 27 = .ok (.new 23, 3) := by decide +kernel
theorem dX5_init_30 : decode cX5_init 30 = .ok (.dup, 1) := by decide +kernel
theorem dX5_init_31 : decode cX5_init 31 = .ok (.invokespecial 25, 3) := by decide +kernel
theorem dX5_init_34 : decode cX5_init 34 = .ok (.putfield 26, 3) := by decide +kernel
theorem dX5_init_37 : decode cX5_init 37 = .ok (.aload_n 0, 1) := by decide +kernel
theorem dX5_init_38 : decode cX5_init 38 = .ok (.iconst 3, 1) := by decide +kernel
theorem dX5_init_39 : decode cX5_init 39 = .ok (.newarray .int, 2) := by decide +kernel
theorem dX5_init_41 : decode cX5_init 41 = .ok (.putfield 30, 3) := by decide +kernel
theorem dX5_init_44 : decode cX5_init 44 = .ok (.return_, 1) := by decide +kernel
theorem dX6_init_0 : decode cX6_init 0 = .ok (.aload_n 0, 1) := by decide +kernel
theorem dX6_init_1 : decode cX6_init 1 = .ok (.invokespecial 3, 3) := by decide +kernel
theorem dX6_init_4 : decode cX6_init 4 = .ok (.aload_n 0, 1) := by decide +kernel
theorem dX6_init_5 : decode cX6_init 5 = .ok (.new 9, 3) := by decide +kernel
theorem dX6_init_8 : decode cX6_init 8 = .ok (.dup, 1) := by decide +kernel
theorem dX6_init_9 : decode cX6_init 9 = .ok (.invokespecial 11, 3) := by decide +kernel
theorem dX6_init_12 : decode cX6_init 12 = .ok (.putfield 12, 3) := by decide +kernel
theorem dX6_init_15 : decode cX6_init 15 = .ok (.aload_n 0, 1) := by decide +kernel
theorem dX6_init_16 : decode cX6_init 16 = .ok (.new 18, 3) := by decide +kernel
theorem dX6_init_19 : decode cX6_init 19 = .ok (.dup, 1) := by decide +kernel
theorem dX6_init_20 : decode cX6_init 20 = .ok (.invokespecial 20, 3) := by decide +kernel
theorem dX6_init_23 : decode cX6_init 23 = .ok (.putfield 21, 3) := by decide +kernel
theorem dX6_init_26 : decode cX6_init 26 = .ok (.aload_n 0, 1) := by decide +kernel
theorem dX6_init_27 : decode cX6_init 27 = .ok (.iconst (-1), 1) := by decide +kernel
theorem dX6_init_28 : decode cX6_init 28 = .ok (.putfield 25, 3) := by decide +kernel
theorem dX6_init_31 : decode cX6_init 31 = .ok (.aload_n 0, 1) := by decide +kernel
theorem dX6_init_32 : decode cX6_init 32 = .ok (.sipush 600, 3) := by decide +kernel
theorem dX6_init_35 : decode cX6_init 35 = .ok (.newarray .byte, 2) := by decide +kernel
theorem dX6_init_37 : decode cX6_init 37 = .ok (.putfield 29, 3) := by decide +kernel
theorem dX6_init_40 : decode cX6_init 40 = .ok (.return_, 1) := by decide +kernel
theorem dX6_append_0 : decode cX6_append 0 = .ok (.bipush 24, 2) := by decide +kernel
theorem dX6_append_2 : decode cX6_append 2 = .ok (.istore_n 2, 1) := by decide +kernel
theorem dX6_append_3 : decode cX6_append 3 = .ok (.iload_n 2, 1) := by decide +kernel
theorem dX6_append_4 : decode cX6_append 4 = .ok (.ifCond .lt 44, 3) := by decide +kernel
theorem dX6_append_7 : decode cX6_append 7 = .ok (.aload_n 0, 1) := by decide +kernel
theorem dX6_append_8 : decode cX6_append 8 = .ok (.getfield 33, 3) := by decide +kernel
theorem dX6_append_11 : decode cX6_append 11 = .ok (.aload_n 0, 1) := by decide +kernel
theorem dX6_append_12 : decode cX6_append 12 = .ok (.getfield 29, 3) := by decide +kernel
theorem dX6_append_15 : decode cX6_append 15 = .ok (.arraylength, 1) := by decide +kernel
theorem dX6_append_16 : decode cX6_append 16 = .ok (.if_icmp .ge 26, 3) := by decide +kernel
theorem dX6_append_19 : decode cX6_append 19 = .ok (.aload_n 0, 1) := by decide +kernel
theorem dX6_append_20 : decode cX6_append 20 = .ok (.getfield 29, 3) := by decide +kernel
theorem dX6_append_23 : decode cX6_append 23 = .ok (.aload_n 0, 1) := by decide +kernel
theorem dX6_append_24 : decode cX6_append 24 = .ok (.getfield 33, 3) := by decide +kernel
theorem dX6_append_27 : decode cX6_append 27 = .ok (.iload_n 1, 1) := by decide +kernel
theorem dX6_append_28 : decode cX6_append 28 = .ok (.iload_n 2, 1) := by decide +kernel
theorem dX6_append_29 : decode cX6_append 29 = .ok (.ishr, 1) := by decide +kernel
theorem dX6_append_30 : decode cX6_append 30 = .ok (.i2b, 1) := by decide +kernel
theorem dX6_append_31 : decode cX6_append 31 = .ok (.bastore, 1) := by decide +kernel
theorem dX6_append_32 : decode cX6_append 32 = .ok (.aload_n 0, 1) := by decide +kernel
theorem dX6_append_33 : decode cX6_append 33 = .ok (.dup, 1) := by decide +kernel
theorem dX6_append_34 : decode cX6_append 34 = .ok (.getfield 33, 3) := by decide +kernel
theorem dX6_append_37 : decode cX6_append 37 = .ok (.iconst 1, 1) := by decide +kernel
theorem dX6_append_38 : decode cX6_append 38 = .ok (.iadd, 1) := by decide +kernel
theorem dX6_append_39 : decode cX6_append 39 = .ok (.putfield 33, 3) := by decide +kernel
theorem dX6_append_42 : decode cX6_append 42 = .ok (.iinc 2 (-8), 3) := by decide +kernel
theorem dX6_append_45 : decode cX6_append 45 = .ok (.goto (-42), 3) := by decide +kernel
theorem dX6_append_48 : decode cX6_append 48 = .ok (.return_, 1) := by decide +kernel
theorem dX6_parse_0 : decode cX6_parse 0 = .ok (.aload_n 0, 1) := by decide +kernel
theorem dX6_parse_1 : decode cX6_parse 1 = .ok (.iload_n 1, 1) := by decide +kernel
theorem dX6_parse_2 : decode cX6_parse 2 = .ok (.ifCond .ge 7, 3) := by decide +kernel
theorem dX6_parse_5 : decode cX6_parse 5 = .ok (.iconst 0, 1) := by decide +kernel
theorem dX6_parse_6 : decode cX6_parse 6 = .ok (.goto 19, 3) := by decide +kernel
theorem dX6_parse_9 : decode cX6_parse 9 = .ok (.iload_n 1, 1) := by decide +kernel
theorem dX6_parse_10 : decode cX6_parse 10 = .ok (.aload_n 0, 1) := by decide +kernel
theorem dX6_parse_11 : decode cX6_parse 11 = .ok (.getfield 33, 3) := by decide +kernel
theorem dX6_parse_14 : decode cX6_parse 14 = .ok (.if_icmp .le 10, 3) := by decide +kernel
theorem dX6_parse_17 : decode cX6_parse 17 = .ok (.aload_n 0, 1) := by decide +kernel
theorem dX6_parse_18 : decode cX6_parse 18 = .ok (.getfield 33, 3) := by decide +kernel
theorem dX6_parse_21 : decode cX6_parse 21 = .ok (.goto 4, 3) := by decide +kernel
theorem dX6_parse_24 : decode cX6_parse 24 = .ok (.iload_n 1, 1) := by decide +kernel
theorem dX6_parse_25 : decode cX6_parse 25 = .ok (.putfield 36, 3) := by decide +kernel
theorem dX6_parse_28 : decode cX6_parse 28 = .ok (.aload_n 0, 1) := by decide +kernel
theorem dX6_parse_29 : decode cX6_parse 29 = .ok (.getfield 12, 3) := by decide +kernel
theorem dX6_parse_32 : decode cX6_parse 32 = .ok (.invokevirtual 39, 3) := by decide +kernel
theorem dX6_parse_35 : decode cX6_parse 35 = .ok (.aload_n 0, 1) := by decide +kernel
theorem dX6_parse_36 : decode cX6_parse 36 = .ok (.getfield 21, 3) := by decide +kernel
theorem dX6_parse_39 : decode cX6_parse 39 = .ok (.invokevirtual 42, 3) := by decide +kernel
theorem dX6_parse_42 : decode cX6_parse 42 = .ok (.aload_n 0, 1) := by decide +kernel
theorem dX6_parse_43 : decode cX6_parse 43 = .ok (.iconst 0, 1) := by decide +kernel
theorem dX6_parse_44 : decode cX6_parse 44 = .ok (.putfield 43, 3) := by decide +kernel
theorem dX6_parse_47 : decode cX6_parse 47 = .ok (.aload_n 0, 1) := by decide +kernel
theorem dX6_parse_48 : decode cX6_parse 48 = .ok (.iconst (-1), 1) := by decide +kernel
theorem dX6_parse_49 : decode cX6_parse 49 = .ok (.putfield 25, 3) := by decide +kernel
theorem dX6_parse_52 : decode cX6_parse 52 = .ok (.aload_n 0, 1) := by decide +kernel
theorem dX6_parse_53 : decode cX6_parse 53 = .ok (.iconst 0, 1) := by decide +kernel
theorem dX6_parse_54 : decode cX6_parse 54 = .ok (.putfield 46, 3) := by decide +kernel
theorem dX6_parse_57 : decode cX6_parse 57 = .ok (.aload_n 0, 1) := by decide +kernel
theorem dX6_parse_58 : decode cX6_parse 58 = .ok (.invokevirtual 49, 3) := by decide +kernel
theorem dX6_parse_61 : decode cX6_parse 61 = .ok (.iconst 0, 1) := by decide +kernel
theorem dX6_parse_62 : decode cX6_parse 62 = .ok (.istore_n 2, 1) := by decide +kernel
theorem dX6_parse_63 : decode cX6_parse 63 = .ok (.iload_n 2, 1) := by decide +kernel
theorem dX6_parse_64 : decode cX6_parse 64 = .ok (.sipush 600, 3) := by decide +kernel
theorem dX6_parse_67 : decode cX6_parse 67 = .ok (.if_icmp .ge 27, 3) := by decide +kernel
theorem dX6_parse_70 : decode cX6_parse 70 = .ok (.aload_n 0, 1) := by decide +kernel
theorem dX6_parse_71 : decode cX6_parse 71 = .ok (.getfield 43, 3) := by decide +kernel
theorem dX6_parse_74 : decode cX6_parse 74 = .ok (.ifCond .ne 20, 3) := by decide +kernel
theorem dX6_parse_77 : decode cX6_parse 77 = .ok (.aload_n 0, 1) := by decide +kernel
theorem dX6_parse_78 : decode cX6_parse 78 = .ok (.getfield 52, 3) := by decide +kernel
theorem dX6_parse_81 : decode cX6_parse 81 = .ok (.ifCond .eq 13, 3) := by decide +kernel
theorem dX6_parse_84 : decode cX6_parse 84 = .ok (.aload_n 0, 1) := by decide +kernel
theorem dX6_parse_85 : decode cX6_parse 85 = .ok (.invokevirtual 55, 3) := by decide +kernel
theorem dX6_parse_88 : decode cX6_parse 88 = .ok (.iinc 2 1, 3) := by decide +kernel
theorem dX6_parse_91 : decode cX6_parse 91 = .ok (.goto (-28), 3) := by decide +kernel
theorem dX6_parse_94 : decode cX6_parse 94 = .ok (.aload_n 0, 1) := by decide +kernel
theorem dX6_parse_95 : decode cX6_parse 95 = .ok (.iconst 0, 1) := by decide +kernel
theorem dX6_parse_96 : decode cX6_parse 96 = .ok (.putfield 33, 3) := by decide +kernel
theorem dX6_parse_99 : decode cX6_parse 99 = .ok (.aload_n 0, 1) := by decide +kernel
theorem dX6_parse_100 : decode cX6_parse 100 = .ok (.getfield 43, 3) := by decide +kernel
theorem dX6_parse_103 : decode cX6_parse 103 = .ok (.ireturn, 1) := by decide +kernel
theorem dX6_fail_0 : decode cX6_fail 0 = .ok (.aload_n 0, 1) := by decide +kernel
theorem dX6_fail_1 : decode cX6_fail 1 = .ok (.getfield 43, 3) := by decide +kernel
theorem dX6_fail_4 : decode cX6_fail 4 = .ok (.ifCond .ne 16, 3) := by decide +kernel
theorem dX6_fail_7 : decode cX6_fail 7 = .ok (.aload_n 0, 1) := by decide +kernel
theorem dX6_fail_8 : decode cX6_fail 8 = .ok (.iload_n 1, 1) := by decide +kernel
theorem dX6_fail_9 : decode cX6_fail 9 = .ok (.putfield 43, 3) := by decide +kernel
theorem dX6_fail_12 : decode cX6_fail 12 = .ok (.aload_n 0, 1) := by decide +kernel
theorem dX6_fail_13 : decode cX6_fail 13 = .ok (.aload_n 0, 1) := by decide +kernel
theorem dX6_fail_14 : decode cX6_fail 14 = .ok (.getfield 58, 3) := by decide +kernel
theorem dX6_fail_17 : decode cX6_fail 17 = .ok (.putfield 25, 3) := by decide +kernel
theorem dX6_fail_20 : decode cX6_fail 20 = .ok (.return_, 1) := by decide +kernel
theorem dX6_line_0 : decode cX6_line 0 = .ok (.aload_n 0, 1) := by decide +kernel
theorem dX6_line_1 : decode cX6_line 1 = .ok (.getfield 52, 3) := by decide +kernel
theorem dX6_line_4 : decode cX6_line 4 = .ok (.sipush 300, 3) := by decide +kernel
theorem dX6_line_7 : decode cX6_line 7 = .ok (.if_icmp .lt 28, 3) := by decide +kernel
theorem dX6_line_10 : decode cX6_line 10 = .ok (.aload_n 0, 1) := by decide +kernel
theorem dX6_line_11 : decode cX6_line 11 = .ok (.getfield 52, 3) := by decide +kernel
theorem dX6_line_14 : decode cX6_line 14 = .ok (.sipush 303, 3) := by decide +kernel
theorem dX6_line_17 : decode cX6_line 17 = .ok (.if_icmp .gt 18, 3) := by decide +kernel
theorem dX6_line_20 : decode cX6_line 20 = .ok (.aload_n 0, 1) := by decide +kernel
theorem dX6_line_21 : decode cX6_line 21 = .ok (.aload_n 0, 1) := by decide +kernel
theorem dX6_line_22 : decode cX6_line 22 = .ok (.getfield 52, 3) := by decide +kernel
theorem dX6_line_25 : decode cX6_line 25 = .ok (.sipush 300, 3) := by decide +kernel
theorem dX6_line_28 : decode cX6_line 28 = .ok (.isub, 1) := by decide +kernel
theorem dX6_line_29 : decode cX6_line 29 = .ok (.invokevirtual 61, 3) := by decide +kernel
theorem dX6_line_32 : decode cX6_line 32 = .ok (.goto 79, 3) := by decide +kernel
theorem dX6_line_35 : decode cX6_line 35 = .ok (.aload_n 0, 1) := by decide +kernel
theorem dX6_line_36 : decode cX6_line 36 = .ok (.getfield 52, 3) := by decide +kernel
theorem dX6_line_39 : decode cX6_line 39 = .ok (.sipush 304, 3) := by decide +kernel
theorem dX6_line_42 : decode cX6_line 42 = .ok (.if_icmp .ne 10, 3) := by decide +kernel
theorem dX6_line_45 : decode cX6_line 45 = .ok (.aload_n 0, 1) := by decide +kernel
theorem dX6_line_46 : decode cX6_line 46 = .ok (.invokevirtual 65, 3) := by decide +kernel
theorem dX6_line_49 : decode cX6_line 49 = .ok (.goto 62, 3) := by decide +kernel
theorem dX6_line_52 : decode cX6_line 52 = .ok (.aload_n 0, 1) := by decide +kernel
theorem dX6_line_53 : decode cX6_line 53 = .ok (.getfield 52, 3) := by decide +kernel
theorem dX6_line_56 : decode cX6_line 56 = .ok (.sipush 305, 3) := by decide +kernel
theorem dX6_line_59 : decode cX6_line 59 = .ok (.if_icmp .ne 10, 3) := by decide +kernel
theorem dX6_line_62 : decode cX6_line 62 = .ok (.aload_n 0, 1) := by decide +kernel
theorem dX6_line_63 : decode cX6_line 63 = .ok (.invokevirtual 68, 3) := by decide +kernel
theorem dX6_line_66 : decode cX6_line 66 = .ok (.goto 45, 3) := by decide +kernel
theorem dX6_line_69 : decode cX6_line 69 = .ok (.aload_n 0, 1) := by decide +kernel
theorem dX6_line_70 : decode cX6_line 70 = .ok (.getfield 52, 3) := by decide +kernel
theorem dX6_line_73 : decode cX6_line 73 = .ok (.sipush 306, 3) := by decide +kernel
theorem dX6_line_76 : decode cX6_line 76 = .ok (.if_icmp .ne 30, 3) := by decide +kernel
theorem dX6_line_79 : decode cX6_line 79 = .ok (.aload_n 0, 1) := by decide +kernel
theorem dX6_line_80 : decode cX6_line 80 = .ok (.getfield 21, 3) := by decide +kernel
theorem dX6_line_83 : decode cX6_line 83 = .ok (.invokevirtual 71, 3) := by decide +kernel
theorem dX6_line_86 : decode cX6_line 86 = .ok (.ifCond .eq 8, 3) := by decide +kernel
theorem dX6_line_89 : decode cX6_line 89 = .ok (.aload_n 0, 1) := by decide +kernel
theorem dX6_line_90 : decode cX6_line 90 = .ok (.iconst 5, 1) := by decide +kernel
theorem dX6_line_91 : decode cX6_line 91 = .ok (.invokevirtual 75, 3) := by decide +kernel
theorem dX6_line_94 : decode cX6_line 94 = .ok (.aload_n 0, 1) := by decide +kernel
theorem dX6_line_95 : decode cX6_line 95 = .ok (.invokevirtual 49, 3) := by decide +kernel
theorem dX6_line_98 : decode cX6_line 98 = .ok (.aload_n 0, 1) := by decide +kernel
theorem dX6_line_99 : decode cX6_line 99 = .ok (.iconst 0, 1) := by decide +kernel
theorem dX6_line_100 : decode cX6_line 100 = .ok (.invokevirtual 78, 3) := by decide +kernel
theorem dX6_line_103 : decode cX6_line 103 = .ok (.goto 8, 3) := by decide +kernel
theorem dX6_line_106 : decode cX6_line 106 = .ok (.aload_n 0, 1) := by decide +kernel
theorem dX6_line_107 : decode cX6_line 107 = .ok (.iconst 1, 1) := by decide +kernel
theorem dX6_line_108 : decode cX6_line 108 = .ok (.invokevirtual 75, 3) := by decide +kernel
theorem dX6_line_111 : decode cX6_line 111 = .ok (.aload_n 0, 1) := by decide +kernel
theorem dX6_line_112 : decode cX6_line 112 = .ok (.bipush 59, 2) := by decide +kernel
theorem dX6_line_114 : decode cX6_line 114 = .ok (.invokevirtual 81, 3) := by decide +kernel
theorem dX6_line_117 : decode cX6_line 117 = .ok (.return_, 1) := by decide +kernel
theorem dX6_houseLine_0 : decode cX6_houseLine 0 = .ok (.aload_n 0, 1) := by decide +kernel
theorem dX6_houseLine_1 : decode cX6_houseLine 1 = .ok (.getfield 12, 3) := by decide +kernel
theorem dX6_houseLine_4 : decode cX6_houseLine 4 = .ok (.getfield 84, 3) := by decide +kernel
theorem dX6_houseLine_7 : decode cX6_houseLine 7 = .ok (.bipush 8, 2) := by decide +kernel
theorem dX6_houseLine_9 : decode cX6_houseLine 9 = .ok (.if_icmp .lt 8, 3) := by decide +kernel
theorem dX6_houseLine_12 : decode cX6_houseLine 12 = .ok (.aload_n 0, 1) := by decide +kernel
theorem dX6_houseLine_13 : decode cX6_houseLine 13 = .ok (.iconst 2, 1) := by decide +kernel
theorem dX6_houseLine_14 : decode cX6_houseLine 14 = .ok (.invokevirtual 75, 3) := by decide +kernel
theorem dX6_houseLine_17 : decode cX6_houseLine 17 = .ok (.aload_n 0, 1) := by decide +kernel
theorem dX6_houseLine_18 : decode cX6_houseLine 18 = .ok (.invokevirtual 49, 3) := by decide +kernel
theorem dX6_houseLine_21 : decode cX6_houseLine 21 = .ok (.aload_n 0, 1) := by decide +kernel
theorem dX6_houseLine_22 : decode cX6_houseLine 22 = .ok (.bipush 23, 2) := by decide +kernel
theorem dX6_houseLine_24 : decode cX6_houseLine 24 = .ok (.iconst 2, 1) := by decide +kernel
theorem dX6_houseLine_25 : decode cX6_houseLine 25 = .ok (.invokevirtual 87, 3) := by decide +kernel
theorem dX6_houseLine_28 : decode cX6_houseLine 28 = .ok (.istore_n 2, 1) := by decide +kernel
theorem dX6_houseLine_29 : decode cX6_houseLine 29 = .ok (.aload_n 0, 1) := by decide +kernel
theorem dX6_houseLine_30 : decode cX6_houseLine 30 = .ok (.invokevirtual 49, 3) := by decide +kernel
theorem dX6_houseLine_33 : decode cX6_houseLine 33 = .ok (.aload_n 0, 1) := by decide +kernel
theorem dX6_houseLine_34 : decode cX6_houseLine 34 = .ok (.bipush 23, 2) := by decide +kernel
theorem dX6_houseLine_36 : decode cX6_houseLine 36 = .ok (.iconst 2, 1) := by decide +kernel
theorem dX6_houseLine_37 : decode cX6_houseLine 37 = .ok (.invokevirtual 87, 3) := by decide +kernel
theorem dX6_houseLine_40 : decode cX6_houseLine 40 = .ok (.istore_n 3, 1) := by decide +kernel
theorem dX6_houseLine_41 : decode cX6_houseLine 41 = .ok (.aload_n 0, 1) := by decide +kernel
theorem dX6_houseLine_42 : decode cX6_houseLine 42 = .ok (.invokevirtual 49, 3) := by decide +kernel
theorem dX6_houseLine_45 : decode cX6_houseLine 45 = .ok (.aload_n 0, 1) := by decide +kernel
theorem dX6_houseLine_46 : decode cX6_houseLine 46 = .ok (.getfield 43, 3) := by decide +kernel
theorem dX6_houseLine_49 : decode cX6_houseLine 49 = .ok (.ifCond .ne 13, 3) := by decide +kernel
theorem dX6_houseLine_52 : decode cX6_houseLine 52 = .ok (.aload_n 0, 1) := by decide +kernel
theorem dX6_houseLine_53 : decode cX6_houseLine 53 = .ok (.getfield 12, 3) := by decide +kernel
theorem dX6_houseLine_56 : decode cX6_houseLine 56 = .ok (.iload_n 1, 1) := by decide +kernel
theorem dX6_houseLine_57 : decode cX6_houseLine 57 = .ok (.iload_n 2, 1) := by decide +kernel
theorem dX6_houseLine_58 : decode cX6_houseLine 58 = .ok (.iload_n 3, 1) := by decide +kernel
theorem dX6_houseLine_59 : decode cX6_houseLine 59 = .ok (.invokevirtual 91, 3) := by decide +kernel
theorem dX6_houseLine_62 : decode cX6_houseLine 62 = .ok (.return_, 1) := by decide +kernel
theorem dX6_lampLine_0 : decode cX6_lampLine 0 = .ok (.aload_n 0, 1) := by decide +kernel
theorem dX6_lampLine_1 : decode cX6_lampLine 1 = .ok (.getfield 12, 3) := by decide +kernel
theorem dX6_lampLine_4 : decode cX6_lampLine 4 = .ok (.getfield 95, 3) := by decide +kernel
theorem dX6_lampLine_7 : decode cX6_lampLine 7 = .ok (.bipush 12, 2) := by decide +kernel
theorem dX6_lampLine_9 : decode cX6_lampLine 9 = .ok (.if_icmp .lt 8, 3) := by decide +kernel
theorem dX6_lampLine_12 : decode cX6_lampLine 12 = .ok (.aload_n 0, 1) := by decide +kernel
theorem dX6_lampLine_13 : decode cX6_lampLine 13 = .ok (.iconst 2, 1) := by decide +kernel
theorem dX6_lampLine_14 : decode cX6_lampLine 14 = .ok (.invokevirtual 75, 3) := by decide +kernel
theorem dX6_lampLine_17 : decode cX6_lampLine 17 = .ok (.aload_n 0, 1) := by decide +kernel
theorem dX6_lampLine_18 : decode cX6_lampLine 18 = .ok (.invokevirtual 49, 3) := by decide +kernel
theorem dX6_lampLine_21 : decode cX6_lampLine 21 = .ok (.aload_n 0, 1) := by decide +kernel
theorem dX6_lampLine_22 : decode cX6_lampLine 22 = .ok (.aload_n 0, 1) := by decide +kernel
theorem dX6_lampLine_23 : decode cX6_lampLine 23 = .ok (.getfield 12, 3) := by decide +kernel
theorem dX6_lampLine_26 : decode cX6_lampLine 26 = .ok (.getfield 84, 3) := by decide +kernel
theorem dX6_lampLine_29 : decode cX6_lampLine 29 = .ok (.iconst 1, 1) := by decide +kernel
theorem dX6_lampLine_30 : decode cX6_lampLine 30 = .ok (.isub, 1) := by decide +kernel
theorem dX6_lampLine_31 : decode cX6_lampLine 31 = .ok (.iconst 3, 1) := by decide +kernel
theorem dX6_lampLine_32 : decode cX6_lampLine 32 = .ok (.invokevirtual 87, 3) := by decide +kernel
theorem dX6_lampLine_35 : decode cX6_lampLine 35 = .ok (.istore_n 1, 1) := by decide +kernel
theorem dX6_lampLine_36 : decode cX6_lampLine 36 = .ok (.aload_n 0, 1) := by decide +kernel
theorem dX6_lampLine_37 : decode cX6_lampLine 37 = .ok (.invokevirtual 49, 3) := by decide +kernel
theorem dX6_lampLine_40 : decode cX6_lampLine 40 = .ok (.aload_n 0, 1) := by decide +kernel
theorem dX6_lampLine_41 : decode cX6_lampLine 41 = .ok (.bipush 99, 2) := by decide +kernel
theorem dX6_lampLine_43 : decode cX6_lampLine 43 = .ok (.iconst 2, 1) := by decide +kernel
theorem dX6_lampLine_44 : decode cX6_lampLine 44 = .ok (.invokevirtual 87, 3) := by decide +kernel
theorem dX6_lampLine_47 : decode cX6_lampLine 47 = .ok (.istore_n 2, 1) := by decide +kernel
theorem dX6_lampLine_48 : decode cX6_lampLine 48 = .ok (.aload_n 0, 1) := by decide +kernel
theorem dX6_lampLine_49 : decode cX6_lampLine 49 = .ok (.invokevirtual 49, 3) := by decide +kernel
theorem dX6_lampLine_52 : decode cX6_lampLine 52 = .ok (.aload_n 0, 1) := by decide +kernel
theorem dX6_lampLine_53 : decode cX6_lampLine 53 = .ok (.getfield 43, 3) := by decide +kernel
theorem dX6_lampLine_56 : decode cX6_lampLine 56 = .ok (.ifCond .ne 12, 3) := by decide +kernel
theorem dX6_lampLine_59 : decode cX6_lampLine 59 = .ok (.aload_n 0, 1) := by decide +kernel
theorem dX6_lampLine_60 : decode cX6_lampLine 60 = .ok (.getfield 12, 3) := by decide +kernel
theorem dX6_lampLine_63 : decode cX6_lampLine 63 = .ok (.iload_n 1, 1) := by decide +kernel
theorem dX6_lampLine_64 : decode cX6_lampLine 64 = .ok (.iload_n 2, 1) := by decide +kernel
theorem dX6_lampLine_65 : decode cX6_lampLine 65 = .ok (.invokevirtual 98, 3) := by decide +kernel
theorem dX6_lampLine_68 : decode cX6_lampLine 68 = .ok (.return_, 1) := by decide +kernel
theorem dX6_twinsLine_0 : decode cX6_twinsLine 0 = .ok (.aload_n 0, 1) := by decide +kernel
theorem dX6_twinsLine_1 : decode cX6_twinsLine 1 = .ok (.invokevirtual 49, 3) := by decide +kernel
theorem dX6_twinsLine_4 : decode cX6_twinsLine 4 = .ok (.aload_n 0, 1) := by decide +kernel
theorem dX6_twinsLine_5 : decode cX6_twinsLine 5 = .ok (.aload_n 0, 1) := by decide +kernel
theorem dX6_twinsLine_6 : decode cX6_twinsLine 6 = .ok (.getfield 12, 3) := by decide +kernel
theorem dX6_twinsLine_9 : decode cX6_twinsLine 9 = .ok (.getfield 95, 3) := by decide +kernel
theorem dX6_twinsLine_12 : decode cX6_twinsLine 12 = .ok (.iconst 1, 1) := by decide +kernel
theorem dX6_twinsLine_13 : decode cX6_twinsLine 13 = .ok (.isub, 1) := by decide +kernel
theorem dX6_twinsLine_14 : decode cX6_twinsLine 14 = .ok (.iconst 3, 1) := by decide +kernel
theorem dX6_twinsLine_15 : decode cX6_twinsLine 15 = .ok (.invokevirtual 87, 3) := by decide +kernel
theorem dX6_twinsLine_18 : decode cX6_twinsLine 18 = .ok (.istore_n 1, 1) := by decide +kernel
theorem dX6_twinsLine_19 : decode cX6_twinsLine 19 = .ok (.aload_n 0, 1) := by decide +kernel
theorem dX6_twinsLine_20 : decode cX6_twinsLine 20 = .ok (.getfield 43, 3) := by decide +kernel
theorem dX6_twinsLine_23 : decode cX6_twinsLine 23 = .ok (.ifCond .ne 21, 3) := by decide +kernel
theorem dX6_twinsLine_26 : decode cX6_twinsLine 26 = .ok (.aload_n 0, 1) := by decide +kernel
theorem dX6_twinsLine_27 : decode cX6_twinsLine 27 = .ok (.getfield 12, 3) := by decide +kernel
theorem dX6_twinsLine_30 : decode cX6_twinsLine 30 = .ok (.getfield 102, 3) := by decide +kernel
theorem dX6_twinsLine_33 : decode cX6_twinsLine 33 = .ok (.iload_n 1, 1) := by decide +kernel
theorem dX6_twinsLine_34 : decode cX6_twinsLine 34 = .ok (.iaload, 1) := by decide +kernel
theorem dX6_twinsLine_35 : decode cX6_twinsLine 35 = .ok (.iconst (-1), 1) := by decide +kernel
theorem dX6_twinsLine_36 : decode cX6_twinsLine 36 = .ok (.if_icmp .eq 8, 3) := by decide +kernel
theorem dX6_twinsLine_39 : decode cX6_twinsLine 39 = .ok (.aload_n 0, 1) := by decide +kernel
theorem dX6_twinsLine_40 : decode cX6_twinsLine 40 = .ok (.iconst 4, 1) := by decide +kernel
theorem dX6_twinsLine_41 : decode cX6_twinsLine 41 = .ok (.invokevirtual 75, 3) := by decide +kernel
theorem dX6_twinsLine_44 : decode cX6_twinsLine 44 = .ok (.aload_n 0, 1) := by decide +kernel
theorem dX6_twinsLine_45 : decode cX6_twinsLine 45 = .ok (.invokevirtual 49, 3) := by decide +kernel
theorem dX6_twinsLine_48 : decode cX6_twinsLine 48 = .ok (.aload_n 0, 1) := by decide +kernel
theorem dX6_twinsLine_49 : decode cX6_twinsLine 49 = .ok (.aload_n 0, 1) := by decide +kernel
theorem dX6_twinsLine_50 : decode cX6_twinsLine 50 = .ok (.getfield 12, 3) := by decide +kernel
theorem dX6_twinsLine_53 : decode cX6_twinsLine 53 = .ok (.getfield 95, 3) := by decide +kernel
theorem dX6_twinsLine_56 : decode cX6_twinsLine 56 = .ok (.iconst 1, 1) := by decide +kernel
theorem dX6_twinsLine_57 : decode cX6_twinsLine 57 = .ok (.isub, 1) := by decide +kernel
theorem dX6_twinsLine_58 : decode cX6_twinsLine 58 = .ok (.iconst 3, 1) := by decide +kernel
theorem dX6_twinsLine_59 : decode cX6_twinsLine 59 = .ok (.invokevirtual 87, 3) := by decide +kernel
theorem dX6_twinsLine_62 : decode cX6_twinsLine 62 = .ok (.istore_n 2, 1) := by decide +kernel
theorem dX6_twinsLine_63 : decode cX6_twinsLine 63 = .ok (.aload_n 0, 1) := by decide +kernel
theorem dX6_twinsLine_64 : decode cX6_twinsLine 64 = .ok (.getfield 43, 3) := by decide +kernel
theorem dX6_twinsLine_67 : decode cX6_twinsLine 67 = .ok (.ifCond .ne 26, 3) := by decide +kernel
theorem dX6_twinsLine_70 : decode cX6_twinsLine 70 = .ok (.aload_n 0, 1) := by decide +kernel
theorem dX6_twinsLine_71 : decode cX6_twinsLine 71 = .ok (.getfield 12, 3) := by decide +kernel
theorem dX6_twinsLine_74 : decode cX6_twinsLine 74 = .ok (.getfield 102, 3) := by decide +kernel
theorem dX6_twinsLine_77 : decode cX6_twinsLine 77 = .ok (.iload_n 2, 1) := by decide +kernel
theorem dX6_twinsLine_78 : decode cX6_twinsLine 78 = .ok (.iaload, 1) := by decide +kernel
theorem dX6_twinsLine_79 : decode cX6_twinsLine 79 = .ok (.iconst (-1), 1) := by decide +kernel
theorem dX6_twinsLine_80 : decode cX6_twinsLine 80 = .ok (.if_icmp .ne 8, 3) := by decide +kernel
theorem dX6_twinsLine_83 : decode cX6_twinsLine 83 = .ok (.iload_n 2, 1) := by decide +kernel
theorem dX6_twinsLine_84 : decode cX6_twinsLine 84 = .ok (.iload_n 1, 1) := by decide +kernel
theorem dX6_twinsLine_85 : decode cX6_twinsLine 85 = .ok (.if_icmp .ne 8, 3) := by decide +kernel
theorem dX6_twinsLine_88 : decode cX6_twinsLine 88 = .ok (.aload_n 0, 1) := by decide +kernel
theorem dX6_twinsLine_89 : decode cX6_twinsLine 89 = .ok (.iconst 4, 1) := by decide +kernel
theorem dX6_twinsLine_90 : decode cX6_twinsLine 90 = .ok (.invokevirtual 75, 3) := by decide +kernel
theorem dX6_twinsLine_93 : decode cX6_twinsLine 93 = .ok (.aload_n 0, 1) := by decide +kernel
theorem dX6_twinsLine_94 : decode cX6_twinsLine 94 = .ok (.invokevirtual 49, 3) := by decide +kernel
theorem dX6_twinsLine_97 : decode cX6_twinsLine 97 = .ok (.aload_n 0, 1) := by decide +kernel
theorem dX6_twinsLine_98 : decode cX6_twinsLine 98 = .ok (.getfield 43, 3) := by decide +kernel
theorem dX6_twinsLine_101 : decode cX6_twinsLine 101 = .ok (.ifCond .ne 23, 3) := by decide +kernel
theorem dX6_twinsLine_104 : decode cX6_twinsLine 104 = .ok (.aload_n 0, 1) := by decide +kernel
theorem dX6_twinsLine_105 : decode cX6_twinsLine 105 = .ok (.getfield 12, 3) := by decide +kernel
theorem dX6_twinsLine_108 : decode cX6_twinsLine 108 = .ok (.getfield 102, 3) := by decide +kernel
theorem dX6_twinsLine_111 : decode cX6_twinsLine 111 = .ok (.iload_n 1, 1) := by decide +kernel
theorem dX6_twinsLine_112 : decode cX6_twinsLine 112 = .ok (.iload_n 2, 1) := by decide +kernel
theorem dX6_twinsLine_113 : decode cX6_twinsLine 113 = .ok (.iastore, 1) := by decide +kernel
theorem dX6_twinsLine_114 : decode cX6_twinsLine 114 = .ok (.aload_n 0, 1) := by decide +kernel
theorem dX6_twinsLine_115 : decode cX6_twinsLine 115 = .ok (.getfield 12, 3) := by decide +kernel
theorem dX6_twinsLine_118 : decode cX6_twinsLine 118 = .ok (.getfield 102, 3) := by decide +kernel
theorem dX6_twinsLine_121 : decode cX6_twinsLine 121 = .ok (.iload_n 2, 1) := by decide +kernel
theorem dX6_twinsLine_122 : decode cX6_twinsLine 122 = .ok (.iload_n 1, 1) := by decide +kernel
theorem dX6_twinsLine_123 : decode cX6_twinsLine 123 = .ok (.iastore, 1) := by decide +kernel
theorem dX6_twinsLine_124 : decode cX6_twinsLine 124 = .ok (.return_, 1) := by decide +kernel
theorem dX6_numberUpTo_0 : decode cX6_numberUpTo 0 = .ok (.aload_n 0, 1) := by decide +kernel
theorem dX6_numberUpTo_1 : decode cX6_numberUpTo 1 = .ok (.getfield 52, 3) := by decide +kernel
theorem dX6_numberUpTo_4 : decode cX6_numberUpTo 4 = .ok (.iconst 2, 1) := by decide +kernel
theorem dX6_numberUpTo_5 : decode cX6_numberUpTo 5 = .ok (.if_icmp .eq 11, 3) := by decide +kernel
theorem dX6_numberUpTo_8 : decode cX6_numberUpTo 8 = .ok (.aload_n 0, 1) := by decide +kernel
theorem dX6_numberUpTo_9 : decode cX6_numberUpTo 9 = .ok (.iconst 1, 1) := by decide +kernel
theorem dX6_numberUpTo_10 : decode cX6_numberUpTo 10 = .ok (.invokevirtual 75, 3) := by decide +kernel
theorem dX6_numberUpTo_13 : decode cX6_numberUpTo 13 = .ok (.goto 32, 3) := by decide +kernel
theorem dX6_numberUpTo_16 : decode cX6_numberUpTo 16 = .ok (.aload_n 0, 1) := by decide +kernel
theorem dX6_numberUpTo_17 : decode cX6_numberUpTo 17 = .ok (.getfield 106, 3) := by decide +kernel
theorem dX6_numberUpTo_20 : decode cX6_numberUpTo 20 = .ok (.iconst 4, 1) := by decide +kernel
theorem dX6_numberUpTo_21 : decode cX6_numberUpTo 21 = .ok (.if_icmp .le 11, 3) := by decide +kernel
theorem dX6_numberUpTo_24 : decode cX6_numberUpTo 24 = .ok (.aload_n 0, 1) := by decide +kernel
theorem dX6_numberUpTo_25 : decode cX6_numberUpTo 25 = .ok (.iconst 2, 1) := by decide +kernel
theorem dX6_numberUpTo_26 : decode cX6_numberUpTo 26 = .ok (.invokevirtual 75, 3) := by decide +kernel
theorem dX6_numberUpTo_29 : decode cX6_numberUpTo 29 = .ok (.goto 16, 3) := by decide +kernel
theorem dX6_numberUpTo_32 : decode cX6_numberUpTo 32 = .ok (.aload_n 0, 1) := by decide +kernel
theorem dX6_numberUpTo_33 : decode cX6_numberUpTo 33 = .ok (.getfield 109, 3) := by decide +kernel
theorem dX6_numberUpTo_36 : decode cX6_numberUpTo 36 = .ok (.iload_n 1, 1) := by decide +kernel
theorem dX6_numberUpTo_37 : decode cX6_numberUpTo 37 = .ok (.if_icmp .le 8, 3) := by decide +kernel
theorem dX6_numberUpTo_40 : decode cX6_numberUpTo 40 = .ok (.aload_n 0, 1) := by decide +kernel
theorem dX6_numberUpTo_41 : decode cX6_numberUpTo 41 = .ok (.iload_n 2, 1) := by decide +kernel
theorem dX6_numberUpTo_42 : decode cX6_numberUpTo 42 = .ok (.invokevirtual 75, 3) := by decide +kernel
theorem dX6_numberUpTo_45 : decode cX6_numberUpTo 45 = .ok (.aload_n 0, 1) := by decide +kernel
theorem dX6_numberUpTo_46 : decode cX6_numberUpTo 46 = .ok (.getfield 43, 3) := by decide +kernel
theorem dX6_numberUpTo_49 : decode cX6_numberUpTo 49 = .ok (.ifCond .ne 10, 3) := by decide +kernel
theorem dX6_numberUpTo_52 : decode cX6_numberUpTo 52 = .ok (.aload_n 0, 1) := by decide +kernel
theorem dX6_numberUpTo_53 : decode cX6_numberUpTo 53 = .ok (.getfield 109, 3) := by decide +kernel
theorem dX6_numberUpTo_56 : decode cX6_numberUpTo 56 = .ok (.goto 4, 3) := by decide +kernel
theorem dX6_numberUpTo_59 : decode cX6_numberUpTo 59 = .ok (.iconst 0, 1) := by decide +kernel
theorem dX6_numberUpTo_60 : decode cX6_numberUpTo 60 = .ok (.ireturn, 1) := by decide +kernel
theorem dX6_expression_0 : decode cX6_expression 0 = .ok (.aload_n 0, 1) := by decide +kernel
theorem dX6_expression_1 : decode cX6_expression 1 = .ok (.getfield 43, 3) := by decide +kernel
theorem dX6_expression_4 : decode cX6_expression 4 = .ok (.ifCond .eq 4, 3) := by decide +kernel
theorem dX6_expression_7 : decode cX6_expression 7 = .ok (.return_, 1) := by decide +kernel
theorem dX6_expression_8 : decode cX6_expression 8 = .ok (.iload_n 1, 1) := by decide +kernel
theorem dX6_expression_9 : decode cX6_expression 9 = .ok (.bipush 6, 2) := by decide +kernel
theorem dX6_expression_11 : decode cX6_expression 11 = .ok (.if_icmp .lt 40, 3) := by decide +kernel
theorem dX6_expression_14 : decode cX6_expression 14 = .ok (.aload_n 0, 1) := by decide +kernel
theorem dX6_expression_15 : decode cX6_expression 15 = .ok (.aload_n 0, 1) := by decide +kernel
theorem dX6_expression_16 : decode cX6_expression 16 = .ok (.getfield 52, 3) := by decide +kernel
theorem dX6_expression_19 : decode cX6_expression 19 = .ok (.iconst 2, 1) := by decide +kernel
theorem dX6_expression_20 : decode cX6_expression 20 = .ok (.if_icmp .eq 22, 3) := by decide +kernel
theorem dX6_expression_23 : decode cX6_expression 23 = .ok (.aload_n 0, 1) := by decide +kernel
theorem dX6_expression_24 : decode cX6_expression 24 = .ok (.getfield 52, 3) := by decide +kernel
theorem dX6_expression_27 : decode cX6_expression 27 = .ok (.sipush 300, 3) := by decide +kernel
theorem dX6_expression_30 : decode cX6_expression 30 = .ok (.if_icmp .ge 12, 3) := by decide +kernel
theorem dX6_expression_33 : decode cX6_expression 33 = .ok (.aload_n 0, 1) := by decide +kernel
theorem dX6_expression_34 : decode cX6_expression 34 = .ok (.getfield 52, 3) := by decide +kernel
theorem dX6_expression_37 : decode cX6_expression 37 = .ok (.bipush 40, 2) := by decide +kernel
theorem dX6_expression_39 : decode cX6_expression 39 = .ok (.if_icmp .ne 7, 3) := by decide +kernel
theorem dX6_expression_42 : decode cX6_expression 42 = .ok (.iconst 2, 1) := by decide +kernel
theorem dX6_expression_43 : decode cX6_expression 43 = .ok (.goto 4, 3) := by decide +kernel
theorem dX6_expression_46 : decode cX6_expression 46 = .ok (.iconst 1, 1) := by decide +kernel
theorem dX6_expression_47 : decode cX6_expression 47 = .ok (.invokevirtual 75, 3) := by decide +kernel
theorem dX6_expression_50 : decode cX6_expression 50 = .ok (.return_, 1) := by decide +kernel
theorem dX6_expression_51 : decode cX6_expression 51 = .ok (.aload_n 0, 1) := by decide +kernel
theorem dX6_expression_52 : decode cX6_expression 52 = .ok (.iload_n 1, 1) := by decide +kernel
theorem dX6_expression_53 : decode cX6_expression 53 = .ok (.invokevirtual 112, 3) := by decide +kernel
theorem dX6_expression_56 : decode cX6_expression 56 = .ok (.iconst 0, 1) := by decide +kernel
theorem dX6_expression_57 : decode cX6_expression 57 = .ok (.istore_n 2, 1) := by decide +kernel
theorem dX6_expression_58 : decode cX6_expression 58 = .ok (.iload_n 2, 1) := by decide +kernel
theorem dX6_expression_59 : decode cX6_expression 59 = .ok (.sipush 600, 3) := by decide +kernel
theorem dX6_expression_62 : decode cX6_expression 62 = .ok (.if_icmp .ge 45, 3) := by decide +kernel
theorem dX6_expression_65 : decode cX6_expression 65 = .ok (.aload_n 0, 1) := by decide +kernel
theorem dX6_expression_66 : decode cX6_expression 66 = .ok (.getfield 43, 3) := by decide +kernel
theorem dX6_expression_69 : decode cX6_expression 69 = .ok (.ifCond .ne 38, 3) := by decide +kernel
theorem dX6_expression_72 : decode cX6_expression 72 = .ok (.aload_n 0, 1) := by decide +kernel
theorem dX6_expression_73 : decode cX6_expression 73 = .ok (.getfield 52, 3) := by decide +kernel
theorem dX6_expression_76 : decode cX6_expression 76 = .ok (.sipush 307, 3) := by decide +kernel
theorem dX6_expression_79 : decode cX6_expression 79 = .ok (.if_icmp .ne 28, 3) := by decide +kernel
theorem dX6_expression_82 : decode cX6_expression 82 = .ok (.aload_n 0, 1) := by decide +kernel
theorem dX6_expression_83 : decode cX6_expression 83 = .ok (.invokevirtual 49, 3) := by decide +kernel
theorem dX6_expression_86 : decode cX6_expression 86 = .ok (.aload_n 0, 1) := by decide +kernel
theorem dX6_expression_87 : decode cX6_expression 87 = .ok (.iload_n 1, 1) := by decide +kernel
theorem dX6_expression_88 : decode cX6_expression 88 = .ok (.invokevirtual 112, 3) := by decide +kernel
theorem dX6_expression_91 : decode cX6_expression 91 = .ok (.aload_n 0, 1) := by decide +kernel
theorem dX6_expression_92 : decode cX6_expression 92 = .ok (.getfield 21, 3) := by decide +kernel
theorem dX6_expression_95 : decode cX6_expression 95 = .ok (.sipush (-307), 3) := by decide +kernel
theorem dX6_expression_98 : decode cX6_expression 98 = .ok (.invokevirtual 115, 3) := by decide +kernel
theorem dX6_expression_101 : decode cX6_expression 101 = .ok (.iinc 2 1, 3) := by decide +kernel
theorem dX6_expression_104 : decode cX6_expression 104 = .ok (.goto (-46), 3) := by decide +kernel
theorem dX6_expression_107 : decode cX6_expression 107 = .ok (.return_, 1) := by decide +kernel
theorem dX6_conjunction_0 : decode cX6_conjunction 0 = .ok (.aload_n 0, 1) := by decide +kernel
theorem dX6_conjunction_1 : decode cX6_conjunction 1 = .ok (.iload_n 1, 1) := by decide +kernel
theorem dX6_conjunction_2 : decode cX6_conjunction 2 = .ok (.invokevirtual 118, 3) := by decide +kernel
theorem dX6_conjunction_5 : decode cX6_conjunction 5 = .ok (.iconst 0, 1) := by decide +kernel
theorem dX6_conjunction_6 : decode cX6_conjunction 6 = .ok (.istore_n 2, 1) := by decide +kernel
theorem dX6_conjunction_7 : decode cX6_conjunction 7 = .ok (.iload_n 2, 1) := by decide +kernel
theorem dX6_conjunction_8 : decode cX6_conjunction 8 = .ok (.sipush 600, 3) := by decide +kernel
theorem dX6_conjunction_11 : decode cX6_conjunction 11 = .ok (.if_icmp .ge 45, 3) := by decide +kernel
theorem dX6_conjunction_14 : decode cX6_conjunction 14 = .ok (.aload_n 0, 1) := by decide +kernel
theorem dX6_conjunction_15 : decode cX6_conjunction 15 = .ok (.getfield 43, 3) := by decide +kernel
theorem dX6_conjunction_18 : decode cX6_conjunction 18 = .ok (.ifCond .ne 38, 3) := by decide +kernel
theorem dX6_conjunction_21 : decode cX6_conjunction 21 = .ok (.aload_n 0, 1) := by decide +kernel
theorem dX6_conjunction_22 : decode cX6_conjunction 22 = .ok (.getfield 52, 3) := by decide +kernel
theorem dX6_conjunction_25 : decode cX6_conjunction 25 = .ok (.sipush 308, 3) := by decide +kernel
theorem dX6_conjunction_28 : decode cX6_conjunction 28 = .ok (.if_icmp .ne 28, 3) := by decide +kernel
theorem dX6_conjunction_31 : decode cX6_conjunction 31 = .ok (.aload_n 0, 1) := by decide +kernel
theorem dX6_conjunction_32 : decode cX6_conjunction 32 = .ok (.invokevirtual 49, 3) := by decide +kernel
theorem dX6_conjunction_35 : decode cX6_conjunction 35 = .ok (.aload_n 0, 1) := by decide +kernel
theorem dX6_conjunction_36 : decode cX6_conjunction 36 = .ok (.iload_n 1, 1) := by decide +kernel
theorem dX6_conjunction_37 : decode cX6_conjunction 37 = .ok (.invokevirtual 118, 3) := by decide +kernel
theorem dX6_conjunction_40 : decode cX6_conjunction 40 = .ok (.aload_n 0, 1) := by decide +kernel
theorem dX6_conjunction_41 : decode cX6_conjunction 41 = .ok (.getfield 21, 3) := by decide +kernel
theorem dX6_conjunction_44 : decode cX6_conjunction 44 = .ok (.sipush (-308), 3) := by decide +kernel
theorem dX6_conjunction_47 : decode cX6_conjunction 47 = .ok (.invokevirtual 115, 3) := by decide +kernel
theorem dX6_conjunction_50 : decode cX6_conjunction 50 = .ok (.iinc 2 1, 3) := by decide +kernel
theorem dX6_conjunction_53 : decode cX6_conjunction 53 = .ok (.goto (-46), 3) := by decide +kernel
theorem dX6_conjunction_56 : decode cX6_conjunction 56 = .ok (.return_, 1) := by decide +kernel
theorem dX6_negation_0 : decode cX6_negation 0 = .ok (.iconst 0, 1) := by decide +kernel
theorem dX6_negation_1 : decode cX6_negation 1 = .ok (.istore_n 2, 1) := by decide +kernel
theorem dX6_negation_2 : decode cX6_negation 2 = .ok (.iconst 0, 1) := by decide +kernel
theorem dX6_negation_3 : decode cX6_negation 3 = .ok (.istore_n 3, 1) := by decide +kernel
theorem dX6_negation_4 : decode cX6_negation 4 = .ok (.iload_n 3, 1) := by decide +kernel
theorem dX6_negation_5 : decode cX6_negation 5 = .ok (.bipush 6, 2) := by decide +kernel
theorem dX6_negation_7 : decode cX6_negation 7 = .ok (.if_icmp .ge 26, 3) := by decide +kernel
theorem dX6_negation_10 : decode cX6_negation 10 = .ok (.aload_n 0, 1) := by decide +kernel
theorem dX6_negation_11 : decode cX6_negation 11 = .ok (.getfield 52, 3) := by decide +kernel
theorem dX6_negation_14 : decode cX6_negation 14 = .ok (.sipush 309, 3) := by decide +kernel
theorem dX6_negation_17 : decode cX6_negation 17 = .ok (.if_icmp .ne 16, 3) := by decide +kernel
theorem dX6_negation_20 : decode cX6_negation 20 = .ok (.aload_n 0, 1) := by decide +kernel
theorem dX6_negation_21 : decode cX6_negation 21 = .ok (.invokevirtual 49, 3) := by decide +kernel
theorem dX6_negation_24 : decode cX6_negation 24 = .ok (.iinc 2 1, 3) := by decide +kernel
theorem dX6_negation_27 : decode cX6_negation 27 = .ok (.iinc 3 1, 3) := by decide +kernel
theorem dX6_negation_30 : decode cX6_negation 30 = .ok (.goto (-26), 3) := by decide +kernel
theorem dX6_negation_33 : decode cX6_negation 33 = .ok (.aload_n 0, 1) := by decide +kernel
theorem dX6_negation_34 : decode cX6_negation 34 = .ok (.getfield 52, 3) := by decide +kernel
theorem dX6_negation_37 : decode cX6_negation 37 = .ok (.sipush 309, 3) := by decide +kernel
theorem dX6_negation_40 : decode cX6_negation 40 = .ok (.if_icmp .ne 15, 3) := by decide +kernel
theorem dX6_negation_43 : decode cX6_negation 43 = .ok (.iload_n 2, 1) := by decide +kernel
theorem dX6_negation_44 : decode cX6_negation 44 = .ok (.bipush 6, 2) := by decide +kernel
theorem dX6_negation_46 : decode cX6_negation 46 = .ok (.if_icmp .ne 9, 3) := by decide +kernel
theorem dX6_negation_49 : decode cX6_negation 49 = .ok (.aload_n 0, 1) := by decide +kernel
theorem dX6_negation_50 : decode cX6_negation 50 = .ok (.iconst 2, 1) := by decide +kernel
theorem dX6_negation_51 : decode cX6_negation 51 = .ok (.invokevirtual 75, 3) := by decide +kernel
theorem dX6_negation_54 : decode cX6_negation 54 = .ok (.return_, 1) := by decide +kernel
theorem dX6_negation_55 : decode cX6_negation 55 = .ok (.aload_n 0, 1) := by decide +kernel
theorem dX6_negation_56 : decode cX6_negation 56 = .ok (.iload_n 1, 1) := by decide +kernel
theorem dX6_negation_57 : decode cX6_negation 57 = .ok (.invokevirtual 121, 3) := by decide +kernel
theorem dX6_negation_60 : decode cX6_negation 60 = .ok (.iconst 0, 1) := by decide +kernel
theorem dX6_negation_61 : decode cX6_negation 61 = .ok (.istore_n 3, 1) := by decide +kernel
theorem dX6_negation_62 : decode cX6_negation 62 = .ok (.iload_n 3, 1) := by decide +kernel
theorem dX6_negation_63 : decode cX6_negation 63 = .ok (.iload_n 2, 1) := by decide +kernel
theorem dX6_negation_64 : decode cX6_negation 64 = .ok (.if_icmp .ge 19, 3) := by decide +kernel
theorem dX6_negation_67 : decode cX6_negation 67 = .ok (.aload_n 0, 1) := by decide +kernel
theorem dX6_negation_68 : decode cX6_negation 68 = .ok (.getfield 21, 3) := by decide +kernel
theorem dX6_negation_71 : decode cX6_negation 71 = .ok (.sipush (-309), 3) := by decide +kernel
theorem dX6_negation_74 : decode cX6_negation 74 = .ok (.invokevirtual 115, 3) := by decide +kernel
theorem dX6_negation_77 : decode cX6_negation 77 = .ok (.iinc 3 1, 3) := by decide +kernel
theorem dX6_negation_80 : decode cX6_negation 80 = .ok (.goto (-18), 3) := by decide +kernel
theorem dX6_negation_83 : decode cX6_negation 83 = .ok (.return_, 1) := by decide +kernel
theorem dX6_comparison_0 : decode cX6_comparison 0 = .ok (.aload_n 0, 1) := by decide +kernel
theorem dX6_comparison_1 : decode cX6_comparison 1 = .ok (.iload_n 1, 1) := by decide +kernel
theorem dX6_comparison_2 : decode cX6_comparison 2 = .ok (.invokevirtual 124, 3) := by decide +kernel
theorem dX6_comparison_5 : decode cX6_comparison 5 = .ok (.aload_n 0, 1) := by decide +kernel
theorem dX6_comparison_6 : decode cX6_comparison 6 = .ok (.getfield 43, 3) := by decide +kernel
theorem dX6_comparison_9 : decode cX6_comparison 9 = .ok (.ifCond .ne 44, 3) := by decide +kernel
theorem dX6_comparison_12 : decode cX6_comparison 12 = .ok (.aload_n 0, 1) := by decide +kernel
theorem dX6_comparison_13 : decode cX6_comparison 13 = .ok (.getfield 52, 3) := by decide +kernel
theorem dX6_comparison_16 : decode cX6_comparison 16 = .ok (.bipush 60, 2) := by decide +kernel
theorem dX6_comparison_18 : decode cX6_comparison 18 = .ok (.if_icmp .eq 12, 3) := by decide +kernel
theorem dX6_comparison_21 : decode cX6_comparison 21 = .ok (.aload_n 0, 1) := by decide +kernel
theorem dX6_comparison_22 : decode cX6_comparison 22 = .ok (.getfield 52, 3) := by decide +kernel
theorem dX6_comparison_25 : decode cX6_comparison 25 = .ok (.bipush 61, 2) := by decide +kernel
theorem dX6_comparison_27 : decode cX6_comparison 27 = .ok (.if_icmp .ne 26, 3) := by decide +kernel
theorem dX6_comparison_30 : decode cX6_comparison 30 = .ok (.aload_n 0, 1) := by decide +kernel
theorem dX6_comparison_31 : decode cX6_comparison 31 = .ok (.getfield 52, 3) := by decide +kernel
theorem dX6_comparison_34 : decode cX6_comparison 34 = .ok (.istore_n 2, 1) := by decide +kernel
theorem dX6_comparison_35 : decode cX6_comparison 35 = .ok (.aload_n 0, 1) := by decide +kernel
theorem dX6_comparison_36 : decode cX6_comparison 36 = .ok (.invokevirtual 49, 3) := by decide +kernel
theorem dX6_comparison_39 : decode cX6_comparison 39 = .ok (.aload_n 0, 1) := by decide +kernel
theorem dX6_comparison_40 : decode cX6_comparison 40 = .ok (.iload_n 1, 1) := by decide +kernel
theorem dX6_comparison_41 : decode cX6_comparison 41 = .ok (.invokevirtual 124, 3) := by decide +kernel
theorem dX6_comparison_44 : decode cX6_comparison 44 = .ok (.aload_n 0, 1) := by decide +kernel
theorem dX6_comparison_45 : decode cX6_comparison 45 = .ok (.getfield 21, 3) := by decide +kernel
theorem dX6_comparison_48 : decode cX6_comparison 48 = .ok (.iload_n 2, 1) := by decide +kernel
theorem dX6_comparison_49 : decode cX6_comparison 49 = .ok (.ineg, 1) := by decide +kernel
theorem dX6_comparison_50 : decode cX6_comparison 50 = .ok (.invokevirtual 115, 3) := by decide +kernel
theorem dX6_comparison_53 : decode cX6_comparison 53 = .ok (.return_, 1) := by decide +kernel
theorem dX6_sum_0 : decode cX6_sum 0 = .ok (.aload_n 0, 1) := by decide +kernel
theorem dX6_sum_1 : decode cX6_sum 1 = .ok (.iload_n 1, 1) := by decide +kernel
theorem dX6_sum_2 : decode cX6_sum 2 = .ok (.invokevirtual 127, 3) := by decide +kernel
theorem dX6_sum_5 : decode cX6_sum 5 = .ok (.iconst 0, 1) := by decide +kernel
theorem dX6_sum_6 : decode cX6_sum 6 = .ok (.istore_n 2, 1) := by decide +kernel
theorem dX6_sum_7 : decode cX6_sum 7 = .ok (.iload_n 2, 1) := by decide +kernel
theorem dX6_sum_8 : decode cX6_sum 8 = .ok (.sipush 600, 3) := by decide +kernel
theorem dX6_sum_11 : decode cX6_sum 11 = .ok (.if_icmp .ge 57, 3) := by decide +kernel
theorem dX6_sum_14 : decode cX6_sum 14 = .ok (.aload_n 0, 1) := by decide +kernel
theorem dX6_sum_15 : decode cX6_sum 15 = .ok (.getfield 43, 3) := by decide +kernel
theorem dX6_sum_18 : decode cX6_sum 18 = .ok (.ifCond .ne 50, 3) := by decide +kernel
theorem dX6_sum_21 : decode cX6_sum 21 = .ok (.aload_n 0, 1) := by decide +kernel
theorem dX6_sum_22 : decode cX6_sum 22 = .ok (.getfield 52, 3) := by decide +kernel
theorem dX6_sum_25 : decode cX6_sum 25 = .ok (.bipush 43, 2) := by decide +kernel
theorem dX6_sum_27 : decode cX6_sum 27 = .ok (.if_icmp .eq 12, 3) := by decide +kernel
theorem dX6_sum_30 : decode cX6_sum 30 = .ok (.aload_n 0, 1) := by decide +kernel
theorem dX6_sum_31 : decode cX6_sum 31 = .ok (.getfield 52, 3) := by decide +kernel
theorem dX6_sum_34 : decode cX6_sum 34 = .ok (.bipush 45, 2) := by decide +kernel
theorem dX6_sum_36 : decode cX6_sum 36 = .ok (.if_icmp .ne 32, 3) := by decide +kernel
theorem dX6_sum_39 : decode cX6_sum 39 = .ok (.aload_n 0, 1) := by decide +kernel
theorem dX6_sum_40 : decode cX6_sum 40 = .ok (.getfield 52, 3) := by decide +kernel
theorem dX6_sum_43 : decode cX6_sum 43 = .ok (.istore_n 3, 1) := by decide +kernel
theorem dX6_sum_44 : decode cX6_sum 44 = .ok (.aload_n 0, 1) := by decide +kernel
theorem dX6_sum_45 : decode cX6_sum 45 = .ok (.invokevirtual 49, 3) := by decide +kernel
theorem dX6_sum_48 : decode cX6_sum 48 = .ok (.aload_n 0, 1) := by decide +kernel
theorem dX6_sum_49 : decode cX6_sum 49 = .ok (.iload_n 1, 1) := by decide +kernel
theorem dX6_sum_50 : decode cX6_sum 50 = .ok (.invokevirtual 127, 3) := by decide +kernel
theorem dX6_sum_53 : decode cX6_sum 53 = .ok (.aload_n 0, 1) := by decide +kernel
theorem dX6_sum_54 : decode cX6_sum 54 = .ok (.getfield 21, 3) := by decide +kernel
theorem dX6_sum_57 : decode cX6_sum 57 = .ok (.iload_n 3, 1) := by decide +kernel
theorem dX6_sum_58 : decode cX6_sum 58 = .ok (.ineg, 1) := by decide +kernel
theorem dX6_sum_59 : decode cX6_sum 59 = .ok (.invokevirtual 115, 3) := by decide +kernel
theorem dX6_sum_62 : decode cX6_sum 62 = .ok (.iinc 2 1, 3) := by decide +kernel
theorem dX6_sum_65 : decode cX6_sum 65 = .ok (.goto (-58), 3) := by decide +kernel
theorem dX6_sum_68 : decode cX6_sum 68 = .ok (.return_, 1) := by decide +kernel
theorem dX6_product_0 : decode cX6_product 0 = .ok (.aload_n 0, 1) := by decide +kernel
theorem dX6_product_1 : decode cX6_product 1 = .ok (.iload_n 1, 1) := by decide +kernel
theorem dX6_product_2 : decode cX6_product 2 = .ok (.invokevirtual 130, 3) := by decide +kernel
theorem dX6_product_5 : decode cX6_product 5 = .ok (.iconst 0, 1) := by decide +kernel
theorem dX6_product_6 : decode cX6_product 6 = .ok (.istore_n 2, 1) := by decide +kernel
theorem dX6_product_7 : decode cX6_product 7 = .ok (.iload_n 2, 1) := by decide +kernel
theorem dX6_product_8 : decode cX6_product 8 = .ok (.sipush 600, 3) := by decide +kernel
theorem dX6_product_11 : decode cX6_product 11 = .ok (.if_icmp .ge 57, 3) := by decide +kernel
theorem dX6_product_14 : decode cX6_product 14 = .ok (.aload_n 0, 1) := by decide +kernel
theorem dX6_product_15 : decode cX6_product 15 = .ok (.getfield 43, 3) := by decide +kernel
theorem dX6_product_18 : decode cX6_product 18 = .ok (.ifCond .ne 50, 3) := by decide +kernel
theorem dX6_product_21 : decode cX6_product 21 = .ok (.aload_n 0, 1) := by decide +kernel
theorem dX6_product_22 : decode cX6_product 22 = .ok (.getfield 52, 3) := by decide +kernel
theorem dX6_product_25 : decode cX6_product 25 = .ok (.bipush 42, 2) := by decide +kernel
theorem dX6_product_27 : decode cX6_product 27 = .ok (.if_icmp .eq 12, 3) := by decide +kernel
theorem dX6_product_30 : decode cX6_product 30 = .ok (.aload_n 0, 1) := by decide +kernel
theorem dX6_product_31 : decode cX6_product 31 = .ok (.getfield 52, 3) := by decide +kernel
theorem dX6_product_34 : decode cX6_product 34 = .ok (.bipush 47, 2) := by decide +kernel
theorem dX6_product_36 : decode cX6_product 36 = .ok (.if_icmp .ne 32, 3) := by decide +kernel
theorem dX6_product_39 : decode cX6_product 39 = .ok (.aload_n 0, 1) := by decide +kernel
theorem dX6_product_40 : decode cX6_product 40 = .ok (.getfield 52, 3) := by decide +kernel
theorem dX6_product_43 : decode cX6_product 43 = .ok (.istore_n 3, 1) := by decide +kernel
theorem dX6_product_44 : decode cX6_product 44 = .ok (.aload_n 0, 1) := by decide +kernel
theorem dX6_product_45 : decode cX6_product 45 = .ok (.invokevirtual 49, 3) := by decide +kernel
theorem dX6_product_48 : decode cX6_product 48 = .ok (.aload_n 0, 1) := by decide +kernel
theorem dX6_product_49 : decode cX6_product 49 = .ok (.iload_n 1, 1) := by decide +kernel
theorem dX6_product_50 : decode cX6_product 50 = .ok (.invokevirtual 130, 3) := by decide +kernel
theorem dX6_product_53 : decode cX6_product 53 = .ok (.aload_n 0, 1) := by decide +kernel
theorem dX6_product_54 : decode cX6_product 54 = .ok (.getfield 21, 3) := by decide +kernel
theorem dX6_product_57 : decode cX6_product 57 = .ok (.iload_n 3, 1) := by decide +kernel
theorem dX6_product_58 : decode cX6_product 58 = .ok (.ineg, 1) := by decide +kernel
theorem dX6_product_59 : decode cX6_product 59 = .ok (.invokevirtual 115, 3) := by decide +kernel
theorem dX6_product_62 : decode cX6_product 62 = .ok (.iinc 2 1, 3) := by decide +kernel
theorem dX6_product_65 : decode cX6_product 65 = .ok (.goto (-58), 3) := by decide +kernel
theorem dX6_product_68 : decode cX6_product 68 = .ok (.return_, 1) := by decide +kernel
theorem dX6_part_0 : decode cX6_part 0 = .ok (.aload_n 0, 1) := by decide +kernel
theorem dX6_part_1 : decode cX6_part 1 = .ok (.getfield 52, 3) := by decide +kernel
theorem dX6_part_4 : decode cX6_part 4 = .ok (.iconst 2, 1) := by decide +kernel
theorem dX6_part_5 : decode cX6_part 5 = .ok (.if_icmp .ne 34, 3) := by decide +kernel
theorem dX6_part_8 : decode cX6_part 8 = .ok (.aload_n 0, 1) := by decide +kernel
theorem dX6_part_9 : decode cX6_part 9 = .ok (.getfield 106, 3) := by decide +kernel
theorem dX6_part_12 : decode cX6_part 12 = .ok (.iconst 4, 1) := by decide +kernel
theorem dX6_part_13 : decode cX6_part 13 = .ok (.if_icmp .le 8, 3) := by decide +kernel
theorem dX6_part_16 : decode cX6_part 16 = .ok (.aload_n 0, 1) := by decide +kernel
theorem dX6_part_17 : decode cX6_part 17 = .ok (.iconst 2, 1) := by decide +kernel
theorem dX6_part_18 : decode cX6_part 18 = .ok (.invokevirtual 75, 3) := by decide +kernel
theorem dX6_part_21 : decode cX6_part 21 = .ok (.aload_n 0, 1) := by decide +kernel
theorem dX6_part_22 : decode cX6_part 22 = .ok (.getfield 21, 3) := by decide +kernel
theorem dX6_part_25 : decode cX6_part 25 = .ok (.aload_n 0, 1) := by decide +kernel
theorem dX6_part_26 : decode cX6_part 26 = .ok (.getfield 109, 3) := by decide +kernel
theorem dX6_part_29 : decode cX6_part 29 = .ok (.invokevirtual 115, 3) := by decide +kernel
theorem dX6_part_32 : decode cX6_part 32 = .ok (.aload_n 0, 1) := by decide +kernel
theorem dX6_part_33 : decode cX6_part 33 = .ok (.invokevirtual 49, 3) := by decide +kernel
theorem dX6_part_36 : decode cX6_part 36 = .ok (.goto 90, 3) := by decide +kernel
theorem dX6_part_39 : decode cX6_part 39 = .ok (.aload_n 0, 1) := by decide +kernel
theorem dX6_part_40 : decode cX6_part 40 = .ok (.getfield 52, 3) := by decide +kernel
theorem dX6_part_43 : decode cX6_part 43 = .ok (.sipush 310, 3) := by decide +kernel
theorem dX6_part_46 : decode cX6_part 46 = .ok (.if_icmp .lt 32, 3) := by decide +kernel
theorem dX6_part_49 : decode cX6_part 49 = .ok (.aload_n 0, 1) := by decide +kernel
theorem dX6_part_50 : decode cX6_part 50 = .ok (.getfield 52, 3) := by decide +kernel
theorem dX6_part_53 : decode cX6_part 53 = .ok (.sipush 315, 3) := by decide +kernel
theorem dX6_part_56 : decode cX6_part 56 = .ok (.if_icmp .gt 22, 3) := by decide +kernel
theorem dX6_part_59 : decode cX6_part 59 = .ok (.aload_n 0, 1) := by decide +kernel
theorem dX6_part_60 : decode cX6_part 60 = .ok (.getfield 21, 3) := by decide +kernel
theorem dX6_part_63 : decode cX6_part 63 = .ok (.aload_n 0, 1) := by decide +kernel
theorem dX6_part_64 : decode cX6_part 64 = .ok (.getfield 52, 3) := by decide +kernel
theorem dX6_part_67 : decode cX6_part 67 = .ok (.ineg, 1) := by decide +kernel
theorem dX6_part_68 : decode cX6_part 68 = .ok (.invokevirtual 115, 3) := by decide +kernel
theorem dX6_part_71 : decode cX6_part 71 = .ok (.aload_n 0, 1) := by decide +kernel
theorem dX6_part_72 : decode cX6_part 72 = .ok (.invokevirtual 49, 3) := by decide +kernel
theorem dX6_part_75 : decode cX6_part 75 = .ok (.goto 51, 3) := by decide +kernel
theorem dX6_part_78 : decode cX6_part 78 = .ok (.aload_n 0, 1) := by decide +kernel
theorem dX6_part_79 : decode cX6_part 79 = .ok (.getfield 52, 3) := by decide +kernel
theorem dX6_part_82 : decode cX6_part 82 = .ok (.bipush 40, 2) := by decide +kernel
theorem dX6_part_84 : decode cX6_part 84 = .ok (.if_icmp .ne 23, 3) := by decide +kernel
theorem dX6_part_87 : decode cX6_part 87 = .ok (.aload_n 0, 1) := by decide +kernel
theorem dX6_part_88 : decode cX6_part 88 = .ok (.invokevirtual 49, 3) := by decide +kernel
theorem dX6_part_91 : decode cX6_part 91 = .ok (.aload_n 0, 1) := by decide +kernel
theorem dX6_part_92 : decode cX6_part 92 = .ok (.iload_n 1, 1) := by decide +kernel
theorem dX6_part_93 : decode cX6_part 93 = .ok (.iconst 1, 1) := by decide +kernel
theorem dX6_part_94 : decode cX6_part 94 = .ok (.iadd, 1) := by decide +kernel
theorem dX6_part_95 : decode cX6_part 95 = .ok (.invokevirtual 78, 3) := by decide +kernel
theorem dX6_part_98 : decode cX6_part 98 = .ok (.aload_n 0, 1) := by decide +kernel
theorem dX6_part_99 : decode cX6_part 99 = .ok (.bipush 41, 2) := by decide +kernel
theorem dX6_part_101 : decode cX6_part 101 = .ok (.invokevirtual 81, 3) := by decide +kernel
theorem dX6_part_104 : decode cX6_part 104 = .ok (.goto 22, 3) := by decide +kernel
theorem dX6_part_107 : decode cX6_part 107 = .ok (.aload_n 0, 1) := by decide +kernel
theorem dX6_part_108 : decode cX6_part 108 = .ok (.aload_n 0, 1) := by decide +kernel
theorem dX6_part_109 : decode cX6_part 109 = .ok (.getfield 52, 3) := by decide +kernel
theorem dX6_part_112 : decode cX6_part 112 = .ok (.sipush 300, 3) := by decide +kernel
theorem dX6_part_115 : decode cX6_part 115 = .ok (.if_icmp .lt 7, 3) := by decide +kernel
theorem dX6_part_118 : decode cX6_part 118 = .ok (.iconst 3, 1) := by decide +kernel
theorem dX6_part_119 : decode cX6_part 119 = .ok (.goto 4, 3) := by decide +kernel
theorem dX6_part_122 : decode cX6_part 122 = .ok (.iconst 1, 1) := by decide +kernel
theorem dX6_part_123 : decode cX6_part 123 = .ok (.invokevirtual 75, 3) := by decide +kernel
theorem dX6_part_126 : decode cX6_part 126 = .ok (.return_, 1) := by decide +kernel
theorem dX6_expect_0 : decode cX6_expect 0 = .ok (.aload_n 0, 1) := by decide +kernel
theorem dX6_expect_1 : decode cX6_expect 1 = .ok (.getfield 52, 3) := by decide +kernel
theorem dX6_expect_4 : decode cX6_expect 4 = .ok (.iload_n 1, 1) := by decide +kernel
theorem dX6_expect_5 : decode cX6_expect 5 = .ok (.if_icmp .eq 8, 3) := by decide +kernel
theorem dX6_expect_8 : decode cX6_expect 8 = .ok (.aload_n 0, 1) := by decide +kernel
theorem dX6_expect_9 : decode cX6_expect 9 = .ok (.iconst 1, 1) := by decide +kernel
theorem dX6_expect_10 : decode cX6_expect 10 = .ok (.invokevirtual 75, 3) := by decide +kernel
theorem dX6_expect_13 : decode cX6_expect 13 = .ok (.aload_n 0, 1) := by decide +kernel
theorem dX6_expect_14 : decode cX6_expect 14 = .ok (.invokevirtual 49, 3) := by decide +kernel
theorem dX6_expect_17 : decode cX6_expect 17 = .ok (.return_, 1) := by decide +kernel
theorem dX6_accept_0 : decode cX6_accept 0 = .ok (.aload_n 0, 1) := by decide +kernel
theorem dX6_accept_1 : decode cX6_accept 1 = .ok (.getfield 43, 3) := by decide +kernel
theorem dX6_accept_4 : decode cX6_accept 4 = .ok (.ifCond .eq 4, 3) := by decide +kernel
theorem dX6_accept_7 : decode cX6_accept 7 = .ok (.return_, 1) := by decide +kernel
theorem dX6_accept_8 : decode cX6_accept 8 = .ok (.aload_n 0, 1) := by decide +kernel
theorem dX6_accept_9 : decode cX6_accept 9 = .ok (.aload_n 0, 1) := by decide +kernel
theorem dX6_accept_10 : decode cX6_accept 10 = .ok (.getfield 46, 3) := by decide +kernel
theorem dX6_accept_13 : decode cX6_accept 13 = .ok (.putfield 58, 3) := by decide +kernel
theorem dX6_accept_16 : decode cX6_accept 16 = .ok (.aload_n 0, 1) := by decide +kernel
theorem dX6_accept_17 : decode cX6_accept 17 = .ok (.getfield 46, 3) := by decide +kernel
theorem dX6_accept_20 : decode cX6_accept 20 = .ok (.istore_n 1, 1) := by decide +kernel
theorem dX6_accept_21 : decode cX6_accept 21 = .ok (.iload_n 1, 1) := by decide +kernel
theorem dX6_accept_22 : decode cX6_accept 22 = .ok (.aload_n 0, 1) := by decide +kernel
theorem dX6_accept_23 : decode cX6_accept 23 = .ok (.getfield 36, 3) := by decide +kernel
theorem dX6_accept_26 : decode cX6_accept 26 = .ok (.if_icmp .ge 28, 3) := by decide +kernel
theorem dX6_accept_29 : decode cX6_accept 29 = .ok (.aload_n 0, 1) := by decide +kernel
theorem dX6_accept_30 : decode cX6_accept 30 = .ok (.getfield 29, 3) := by decide +kernel
theorem dX6_accept_33 : decode cX6_accept 33 = .ok (.iload_n 1, 1) := by decide +kernel
theorem dX6_accept_34 : decode cX6_accept 34 = .ok (.baload, 1) := by decide +kernel
theorem dX6_accept_35 : decode cX6_accept 35 = .ok (.invokestatic 133, 3) := by decide +kernel
theorem dX6_accept_38 : decode cX6_accept 38 = .ok (.ifCond .eq 16, 3) := by decide +kernel
theorem dX6_accept_41 : decode cX6_accept 41 = .ok (.aload_n 0, 1) := by decide +kernel
theorem dX6_accept_42 : decode cX6_accept 42 = .ok (.iload_n 1, 1) := by decide +kernel
theorem dX6_accept_43 : decode cX6_accept 43 = .ok (.iconst 1, 1) := by decide +kernel
theorem dX6_accept_44 : decode cX6_accept 44 = .ok (.iadd, 1) := by decide +kernel
theorem dX6_accept_45 : decode cX6_accept 45 = .ok (.putfield 58, 3) := by decide +kernel
theorem dX6_accept_48 : decode cX6_accept 48 = .ok (.iinc 1 1, 3) := by decide +kernel
theorem dX6_accept_51 : decode cX6_accept 51 = .ok (.goto (-30), 3) := by decide +kernel
theorem dX6_accept_54 : decode cX6_accept 54 = .ok (.aload_n 0, 1) := by decide +kernel
theorem dX6_accept_55 : decode cX6_accept 55 = .ok (.aload_n 0, 1) := by decide +kernel
theorem dX6_accept_56 : decode cX6_accept 56 = .ok (.getfield 58, 3) := by decide +kernel
theorem dX6_accept_59 : decode cX6_accept 59 = .ok (.putfield 46, 3) := by decide +kernel
theorem dX6_accept_62 : decode cX6_accept 62 = .ok (.aload_n 0, 1) := by decide +kernel
theorem dX6_accept_63 : decode cX6_accept 63 = .ok (.getfield 58, 3) := by decide +kernel
theorem dX6_accept_66 : decode cX6_accept 66 = .ok (.aload_n 0, 1) := by decide +kernel
theorem dX6_accept_67 : decode cX6_accept 67 = .ok (.getfield 36, 3) := by decide +kernel
theorem dX6_accept_70 : decode cX6_accept 70 = .ok (.if_icmp .lt 11, 3) := by decide +kernel
theorem dX6_accept_73 : decode cX6_accept 73 = .ok (.aload_n 0, 1) := by decide +kernel
theorem dX6_accept_74 : decode cX6_accept 74 = .ok (.iconst 0, 1) := by decide +kernel
theorem dX6_accept_75 : decode cX6_accept 75 = .ok (.putfield 52, 3) := by decide +kernel
theorem dX6_accept_78 : decode cX6_accept 78 = .ok (.goto 89, 3) := by decide +kernel
theorem dX6_accept_81 : decode cX6_accept 81 = .ok (.aload_n 0, 1) := by decide +kernel
theorem dX6_accept_82 : decode cX6_accept 82 = .ok (.getfield 29, 3) := by decide +kernel
theorem dX6_accept_85 : decode cX6_accept 85 = .ok (.aload_n 0, 1) := by decide +kernel
theorem dX6_accept_86 : decode cX6_accept 86 = .ok (.getfield 58, 3) := by decide +kernel
theorem dX6_accept_89 : decode cX6_accept 89 = .ok (.baload, 1) := by decide +kernel
theorem dX6_accept_90 : decode cX6_accept 90 = .ok (.invokestatic 137, 3) := by decide +kernel
theorem dX6_accept_93 : decode cX6_accept 93 = .ok (.ifCond .eq 10, 3) := by decide +kernel
theorem dX6_accept_96 : decode cX6_accept 96 = .ok (.aload_n 0, 1) := by decide +kernel
theorem dX6_accept_97 : decode cX6_accept 97 = .ok (.invokevirtual 140, 3) := by decide +kernel
theorem dX6_accept_100 : decode cX6_accept 100 = .ok (.goto 67, 3) := by decide +kernel
theorem dX6_accept_103 : decode cX6_accept 103 = .ok (.aload_n 0, 1) := by decide +kernel
theorem dX6_accept_104 : decode cX6_accept 104 = .ok (.getfield 29, 3) := by decide +kernel
theorem dX6_accept_107 : decode cX6_accept 107 = .ok (.aload_n 0, 1) := by decide +kernel
theorem dX6_accept_108 : decode cX6_accept 108 = .ok (.getfield 58, 3) := by decide +kernel
theorem dX6_accept_111 : decode cX6_accept 111 = .ok (.baload, 1) := by decide +kernel
theorem dX6_accept_112 : decode cX6_accept 112 = .ok (.invokestatic 143, 3) := by decide +kernel
theorem dX6_accept_115 : decode cX6_accept 115 = .ok (.ifCond .eq 10, 3) := by decide +kernel
theorem dX6_accept_118 : decode cX6_accept 118 = .ok (.aload_n 0, 1) := by decide +kernel
theorem dX6_accept_119 : decode cX6_accept 119 = .ok (.invokevirtual 146, 3) := by decide +kernel
theorem dX6_accept_122 : decode cX6_accept 122 = .ok (.goto 45, 3) := by decide +kernel
theorem dX6_accept_125 : decode cX6_accept 125 = .ok (.aload_n 0, 1) := by decide +kernel
theorem dX6_accept_126 : decode cX6_accept 126 = .ok (.aload_n 0, 1) := by decide +kernel
theorem dX6_accept_127 : decode cX6_accept 127 = .ok (.getfield 58, 3) := by decide +kernel
theorem dX6_accept_130 : decode cX6_accept 130 = .ok (.iconst 1, 1) := by decide +kernel
theorem dX6_accept_131 : decode cX6_accept 131 = .ok (.iadd, 1) := by decide +kernel
theorem dX6_accept_132 : decode cX6_accept 132 = .ok (.putfield 46, 3) := by decide +kernel
theorem dX6_accept_135 : decode cX6_accept 135 = .ok (.aload_n 0, 1) := by decide +kernel
theorem dX6_accept_136 : decode cX6_accept 136 = .ok (.aload_n 0, 1) := by decide +kernel
theorem dX6_accept_137 : decode cX6_accept 137 = .ok (.getfield 29, 3) := by decide +kernel
theorem dX6_accept_140 : decode cX6_accept 140 = .ok (.aload_n 0, 1) := by decide +kernel
theorem dX6_accept_141 : decode cX6_accept 141 = .ok (.getfield 58, 3) := by decide +kernel
theorem dX6_accept_144 : decode cX6_accept 144 = .ok (.baload, 1) := by decide +kernel
theorem dX6_accept_145 : decode cX6_accept 145 = .ok (.invokestatic 149, 3) := by decide +kernel
theorem dX6_accept_148 : decode cX6_accept 148 = .ok (.ifCond .eq 15, 3) := by decide +kernel
theorem dX6_accept_151 : decode cX6_accept 151 = .ok (.aload_n 0, 1) := by decide +kernel
theorem dX6_accept_152 : decode cX6_accept 152 = .ok (.getfield 29, 3) := by decide +kernel
theorem dX6_accept_155 : decode cX6_accept 155 = .ok (.aload_n 0, 1) := by decide +kernel
theorem dX6_accept_156 : decode cX6_accept 156 = .ok (.getfield 58, 3) := by decide +kernel
theorem dX6_accept_159 : decode cX6_accept 159 = .ok (.baload, 1) := by decide +kernel
theorem dX6_accept_160 : decode cX6_accept 160 = .ok (.goto 4, 3) := by decide +kernel
theorem dX6_accept_163 : decode cX6_accept 163 = .ok (.iconst 1, 1) := by decide +kernel
theorem dX6_accept_164 : decode cX6_accept 164 = .ok (.putfield 52, 3) := by decide +kernel
theorem dX6_accept_167 : decode cX6_accept 167 = .ok (.return_, 1) := by decide +kernel
theorem dX6_readNumber_0 : decode cX6_readNumber 0 = .ok (.aload_n 0, 1) := by decide +kernel
theorem dX6_readNumber_1 : decode cX6_readNumber 1 = .ok (.iconst 0, 1) := by decide +kernel
theorem dX6_readNumber_2 : decode cX6_readNumber 2 = .ok (.putfield 106, 3) := by decide +kernel
theorem dX6_readNumber_5 : decode cX6_readNumber 5 = .ok (.aload_n 0, 1) := by decide +kernel
theorem dX6_readNumber_6 : decode cX6_readNumber 6 = .ok (.iconst 0, 1) := by decide +kernel
theorem dX6_readNumber_7 : decode cX6_readNumber 7 = .ok (.putfield 109, 3) := by decide +kernel
theorem dX6_readNumber_10 : decode cX6_readNumber 10 = .ok (.aload_n 0, 1) := by decide +kernel
theorem dX6_readNumber_11 : decode cX6_readNumber 11 = .ok (.getfield 58, 3) := by decide +kernel
theorem dX6_readNumber_14 : decode cX6_readNumber 14 = .ok (.istore_n 1, 1) := by decide +kernel
theorem dX6_readNumber_15 : decode cX6_readNumber 15 = .ok (.iload_n 1, 1) := by decide +kernel
theorem dX6_readNumber_16 : decode cX6_readNumber 16 = .ok (.aload_n 0, 1) := by decide +kernel
theorem dX6_readNumber_17 : decode cX6_readNumber 17 = .ok (.getfield 36, 3) := by decide +kernel
theorem dX6_readNumber_20 : decode cX6_readNumber 20 = .ok (.if_icmp .ge 67, 3) := by decide +kernel
theorem dX6_readNumber_23 : decode cX6_readNumber 23 = .ok (.aload_n 0, 1) := by decide +kernel
theorem dX6_readNumber_24 : decode cX6_readNumber 24 = .ok (.getfield 29, 3) := by decide +kernel
theorem dX6_readNumber_27 : decode cX6_readNumber 27 = .ok (.iload_n 1, 1) := by decide +kernel
theorem dX6_readNumber_28 : decode cX6_readNumber 28 = .ok (.baload, 1) := by decide +kernel
theorem dX6_readNumber_29 : decode cX6_readNumber 29 = .ok (.invokestatic 143, 3) := by decide +kernel
theorem dX6_readNumber_32 : decode cX6_readNumber 32 = .ok (.ifCond .eq 55, 3) := by decide +kernel
theorem dX6_readNumber_35 : decode cX6_readNumber 35 = .ok (.aload_n 0, 1) := by decide +kernel
theorem dX6_readNumber_36 : decode cX6_readNumber 36 = .ok (.dup, 1) := by decide +kernel
theorem dX6_readNumber_37 : decode cX6_readNumber 37 = .ok (.getfield 106, 3) := by decide +kernel
theorem dX6_readNumber_40 : decode cX6_readNumber 40 = .ok (.iconst 1, 1) := by decide +kernel
theorem dX6_readNumber_41 : decode cX6_readNumber 41 = .ok (.iadd, 1) := by decide +kernel
theorem dX6_readNumber_42 : decode cX6_readNumber 42 = .ok (.putfield 106, 3) := by decide +kernel
theorem dX6_readNumber_45 : decode cX6_readNumber 45 = .ok (.aload_n 0, 1) := by decide +kernel
theorem dX6_readNumber_46 : decode cX6_readNumber 46 = .ok (.getfield 106, 3) := by decide +kernel
theorem dX6_readNumber_49 : decode cX6_readNumber 49 = .ok (.iconst 4, 1) := by decide +kernel
theorem dX6_readNumber_50 : decode cX6_readNumber 50 = .ok (.if_icmp .gt 24, 3) := by decide +kernel
theorem dX6_readNumber_53 : decode cX6_readNumber 53 = .ok (.aload_n 0, 1) := by decide +kernel
theorem dX6_readNumber_54 : decode cX6_readNumber 54 = .ok (.aload_n 0, 1) := by decide +kernel
theorem dX6_readNumber_55 : decode cX6_readNumber 55 = .ok (.getfield 109, 3) := by decide +kernel
theorem dX6_readNumber_58 : decode cX6_readNumber 58 = .ok (.bipush 10, 2) := by decide +kernel
theorem dX6_readNumber_60 : decode cX6_readNumber 60 = .ok (.imul, 1) := by decide +kernel
theorem dX6_readNumber_61 : decode cX6_readNumber 61 = .ok (.aload_n 0, 1) := by decide +kernel
theorem dX6_readNumber_62 : decode cX6_readNumber 62 = .ok (.getfield 29, 3) := by decide +kernel
theorem dX6_readNumber_65 : decode cX6_readNumber 65 = .ok (.iload_n 1, 1) := by decide +kernel
theorem dX6_readNumber_66 : decode cX6_readNumber 66 = .ok (.baload, 1) := by decide +kernel
theorem dX6_readNumber_67 : decode cX6_readNumber 67 = .ok (.iadd, 1) := by decide +kernel
theorem dX6_readNumber_68 : decode cX6_readNumber 68 = .ok (.bipush 48, 2) := by decide +kernel
theorem dX6_readNumber_70 : decode cX6_readNumber 70 = .ok (.isub, 1) := by decide +kernel
theorem dX6_readNumber_71 : decode cX6_readNumber 71 = .ok (.putfield 109, 3) := by decide +kernel
theorem dX6_readNumber_74 : decode cX6_readNumber 74 = .ok (.aload_n 0, 1) := by decide +kernel
theorem dX6_readNumber_75 : decode cX6_readNumber 75 = .ok (.iload_n 1, 1) := by decide +kernel
theorem dX6_readNumber_76 : decode cX6_readNumber 76 = .ok (.iconst 1, 1) := by decide +kernel
theorem dX6_readNumber_77 : decode cX6_readNumber 77 = .ok (.iadd, 1) := by decide +kernel
theorem dX6_readNumber_78 : decode cX6_readNumber 78 = .ok (.putfield 46, 3) := by decide +kernel
theorem dX6_readNumber_81 : decode cX6_readNumber 81 = .ok (.iinc 1 1, 3) := by decide +kernel
theorem dX6_readNumber_84 : decode cX6_readNumber 84 = .ok (.goto (-69), 3) := by decide +kernel
theorem dX6_readNumber_87 : decode cX6_readNumber 87 = .ok (.aload_n 0, 1) := by decide +kernel
theorem dX6_readNumber_88 : decode cX6_readNumber 88 = .ok (.iconst 2, 1) := by decide +kernel
theorem dX6_readNumber_89 : decode cX6_readNumber 89 = .ok (.putfield 52, 3) := by decide +kernel
theorem dX6_readNumber_92 : decode cX6_readNumber 92 = .ok (.return_, 1) := by decide +kernel
theorem dX6_readWord_0 : decode cX6_readWord 0 = .ok (.aload_n 0, 1) := by decide +kernel
theorem dX6_readWord_1 : decode cX6_readWord 1 = .ok (.getfield 58, 3) := by decide +kernel
theorem dX6_readWord_4 : decode cX6_readWord 4 = .ok (.istore_n 1, 1) := by decide +kernel
theorem dX6_readWord_5 : decode cX6_readWord 5 = .ok (.iload_n 1, 1) := by decide +kernel
theorem dX6_readWord_6 : decode cX6_readWord 6 = .ok (.aload_n 0, 1) := by decide +kernel
theorem dX6_readWord_7 : decode cX6_readWord 7 = .ok (.getfield 36, 3) := by decide +kernel
theorem dX6_readWord_10 : decode cX6_readWord 10 = .ok (.if_icmp .ge 28, 3) := by decide +kernel
theorem dX6_readWord_13 : decode cX6_readWord 13 = .ok (.aload_n 0, 1) := by decide +kernel
theorem dX6_readWord_14 : decode cX6_readWord 14 = .ok (.getfield 29, 3) := by decide +kernel
theorem dX6_readWord_17 : decode cX6_readWord 17 = .ok (.iload_n 1, 1) := by decide +kernel
theorem dX6_readWord_18 : decode cX6_readWord 18 = .ok (.baload, 1) := by decide +kernel
theorem dX6_readWord_19 : decode cX6_readWord 19 = .ok (.invokestatic 137, 3) := by decide +kernel
theorem dX6_readWord_22 : decode cX6_readWord 22 = .ok (.ifCond .eq 16, 3) := by decide +kernel
theorem dX6_readWord_25 : decode cX6_readWord 25 = .ok (.aload_n 0, 1) := by decide +kernel
theorem dX6_readWord_26 : decode cX6_readWord 26 = .ok (.iload_n 1, 1) := by decide +kernel
theorem dX6_readWord_27 : decode cX6_readWord 27 = .ok (.iconst 1, 1) := by decide +kernel
theorem dX6_readWord_28 : decode cX6_readWord 28 = .ok (.iadd, 1) := by decide +kernel
theorem dX6_readWord_29 : decode cX6_readWord 29 = .ok (.putfield 46, 3) := by decide +kernel
theorem dX6_readWord_32 : decode cX6_readWord 32 = .ok (.iinc 1 1, 3) := by decide +kernel
theorem dX6_readWord_35 : decode cX6_readWord 35 = .ok (.goto (-30), 3) := by decide +kernel
theorem dX6_readWord_38 : decode cX6_readWord 38 = .ok (.aload_n 0, 1) := by decide +kernel
theorem dX6_readWord_39 : decode cX6_readWord 39 = .ok (.sipush 316, 3) := by decide +kernel
theorem dX6_readWord_42 : decode cX6_readWord 42 = .ok (.putfield 52, 3) := by decide +kernel
theorem dX6_readWord_45 : decode cX6_readWord 45 = .ok (.sipush 300, 3) := by decide +kernel
theorem dX6_readWord_48 : decode cX6_readWord 48 = .ok (.istore_n 1, 1) := by decide +kernel
theorem dX6_readWord_49 : decode cX6_readWord 49 = .ok (.iload_n 1, 1) := by decide +kernel
theorem dX6_readWord_50 : decode cX6_readWord 50 = .ok (.sipush 316, 3) := by decide +kernel
theorem dX6_readWord_53 : decode cX6_readWord 53 = .ok (.if_icmp .ge 25, 3) := by decide +kernel
theorem dX6_readWord_56 : decode cX6_readWord 56 = .ok (.aload_n 0, 1) := by decide +kernel
theorem dX6_readWord_57 : decode cX6_readWord 57 = .ok (.iload_n 1, 1) := by decide +kernel
theorem dX6_readWord_58 : decode cX6_readWord 58 = .ok (.invokestatic 152, 3) := by decide +kernel
theorem dX6_readWord_61 : decode cX6_readWord 61 = .ok (.invokevirtual 156, 3) := by decide +kernel
theorem dX6_readWord_64 : decode cX6_readWord 64 = .ok (.ifCond .eq 8, 3) := by decide +kernel
theorem dX6_readWord_67 : decode cX6_readWord 67 = .ok (.aload_n 0, 1) := by decide +kernel
theorem dX6_readWord_68 : decode cX6_readWord 68 = .ok (.iload_n 1, 1) := by decide +kernel
theorem dX6_readWord_69 : decode cX6_readWord 69 = .ok (.putfield 52, 3) := by decide +kernel
theorem dX6_readWord_72 : decode cX6_readWord 72 = .ok (.iinc 1 1, 3) := by decide +kernel
theorem dX6_readWord_75 : decode cX6_readWord 75 = .ok (.goto (-26), 3) := by decide +kernel
theorem dX6_readWord_78 : decode cX6_readWord 78 = .ok (.return_, 1) := by decide +kernel
theorem dX6_isSpelt_0 : decode cX6_isSpelt 0 = .ok (.aload_n 1, 1) := by decide +kernel
theorem dX6_isSpelt_1 : decode cX6_isSpelt 1 = .ok (.invokevirtual 160, 3) := by decide +kernel
theorem dX6_isSpelt_4 : decode cX6_isSpelt 4 = .ok (.aload_n 0, 1) := by decide +kernel
theorem dX6_isSpelt_5 : decode cX6_isSpelt 5 = .ok (.getfield 46, 3) := by decide +kernel
theorem dX6_isSpelt_8 : decode cX6_isSpelt 8 = .ok (.aload_n 0, 1) := by decide +kernel
theorem dX6_isSpelt_9 : decode cX6_isSpelt 9 = .ok (.getfield 58, 3) := by decide +kernel
theorem dX6_isSpelt_12 : decode cX6_isSpelt 12 = .ok (.isub, 1) := by decide +kernel
theorem dX6_isSpelt_13 : decode cX6_isSpelt 13 = .ok (.if_icmp .eq 5, 3) := by decide +kernel
theorem dX6_isSpelt_16 : decode cX6_isSpelt 16 = .ok (.iconst 0, 1) := by decide +kernel
theorem dX6_isSpelt_17 : decode cX6_isSpelt 17 = .ok (.ireturn, 1) := by decide +kernel
theorem dX6_isSpelt_18 : decode cX6_isSpelt 18 = .ok (.iconst 0, 1) := by decide +kernel
theorem dX6_isSpelt_19 : decode cX6_isSpelt 19 = .ok (.istore_n 2, 1) := by decide +kernel
theorem dX6_isSpelt_20 : decode cX6_isSpelt 20 = .ok (.iload_n 2, 1) := by decide +kernel
theorem dX6_isSpelt_21 : decode cX6_isSpelt 21 = .ok (.aload_n 1, 1) := by decide +kernel
theorem dX6_isSpelt_22 : decode cX6_isSpelt 22 = .ok (.invokevirtual 160, 3) := by decide +kernel
theorem dX6_isSpelt_25 : decode cX6_isSpelt 25 = .ok (.if_icmp .ge 43, 3) := by decide +kernel
theorem dX6_isSpelt_28 : decode cX6_isSpelt 28 = .ok (.aload_n 0, 1) := by decide +kernel
theorem dX6_isSpelt_29 : decode cX6_isSpelt 29 = .ok (.getfield 58, 3) := by decide +kernel
theorem dX6_isSpelt_32 : decode cX6_isSpelt 32 = .ok (.iload_n 2, 1) := by decide +kernel
theorem dX6_isSpelt_33 : decode cX6_isSpelt 33 = .ok (.iadd, 1) := by decide +kernel
theorem dX6_isSpelt_34 : decode cX6_isSpelt 34 = .ok (.aload_n 0, 1) := by decide +kernel
theorem dX6_isSpelt_35 : decode cX6_isSpelt 35 = .ok (.getfield 36, 3) := by decide +kernel
theorem dX6_isSpelt_38 : decode cX6_isSpelt 38 = .ok (.if_icmp .ge 30, 3) := by decide +kernel
theorem dX6_isSpelt_41 : decode cX6_isSpelt 41 = .ok (.aload_n 1, 1) := by decide +kernel
theorem dX6_isSpelt_42 : decode cX6_isSpelt 42 = .ok (.iload_n 2, 1) := by decide +kernel
theorem dX6_isSpelt_43 : decode cX6_isSpelt 43 = .ok (.invokevirtual 166, 3) := by decide +kernel
theorem dX6_isSpelt_46 : decode cX6_isSpelt 46 = .ok (.aload_n 0, 1) := by decide +kernel
theorem dX6_isSpelt_47 : decode cX6_isSpelt 47 = .ok (.getfield 29, 3) := by decide +kernel
theorem dX6_isSpelt_50 : decode cX6_isSpelt 50 = .ok (.aload_n 0, 1) := by decide +kernel
theorem dX6_isSpelt_51 : decode cX6_isSpelt 51 = .ok (.getfield 58, 3) := by decide +kernel
theorem dX6_isSpelt_54 : decode cX6_isSpelt 54 = .ok (.iload_n 2, 1) := by decide +kernel
theorem dX6_isSpelt_55 : decode cX6_isSpelt 55 = .ok (.iadd, 1) := by decide +kernel
theorem dX6_isSpelt_56 : decode cX6_isSpelt 56 = .ok (.baload, 1) := by decide +kernel
theorem dX6_isSpelt_57 : decode cX6_isSpelt 57 = .ok (.if_icmp .eq 5, 3) := by decide +kernel
theorem dX6_isSpelt_60 : decode cX6_isSpelt 60 = .ok (.iconst 0, 1) := by decide +kernel
theorem dX6_isSpelt_61 : decode cX6_isSpelt 61 = .ok (.ireturn, 1) := by decide +kernel
theorem dX6_isSpelt_62 : decode cX6_isSpelt 62 = .ok (.iinc 2 1, 3) := by decide +kernel
theorem dX6_isSpelt_65 : decode cX6_isSpelt 65 = .ok (.goto (-45), 3) := by decide +kernel
theorem dX6_isSpelt_68 : decode cX6_isSpelt 68 = .ok (.iconst 1, 1) := by decide +kernel
theorem dX6_isSpelt_69 : decode cX6_isSpelt 69 = .ok (.ireturn, 1) := by decide +kernel
theorem dX6_textOf_0 : decode cX6_textOf 0 = .ok (.iload_n 0, 1) := by decide +kernel
theorem dX6_textOf_1 : decode cX6_textOf 1 = .ok (.sipush 300, 3) := by decide +kernel
theorem dX6_textOf_4 : decode cX6_textOf 4 = .ok (.isub, 1) := by decide +kernel
theorem dX6_textOf_5 : decode cX6_textOf 5 = .ok (.tableswitch 120 0 14 #[75, 78, 81, 84, 87, 90, 93, 96, 99, 102, 105, 108, 111, 114, 117], 75) := by decide +kernel
theorem dX6_textOf_80 : decode cX6_textOf 80 = .ok (.ldc 170, 2) := by decide +kernel
theorem dX6_textOf_82 : decode cX6_textOf 82 = .ok (.areturn, 1) := by decide +kernel
theorem dX6_textOf_83 : decode cX6_textOf 83 = .ok (.ldc 172, 2) := by decide +kernel
theorem dX6_textOf_85 : decode cX6_textOf 85 = .ok (.areturn, 1) := by decide +kernel
theorem dX6_textOf_86 : decode cX6_textOf 86 = .ok (.ldc 174, 2) := by decide +kernel
theorem dX6_textOf_88 : decode cX6_textOf 88 = .ok (.areturn, 1) := by decide +kernel
theorem dX6_textOf_89 : decode cX6_textOf 89 = .ok (.ldc 176, 2) := by decide +kernel
theorem dX6_textOf_91 : decode cX6_textOf 91 = .ok (.areturn, 1) := by decide +kernel
theorem dX6_textOf_92 : decode cX6_textOf 92 = .ok (.ldc 178, 2) := by decide +kernel
theorem dX6_textOf_94 : decode cX6_textOf 94 = .ok (.areturn, 1) := by decide +kernel
theorem dX6_textOf_95 : decode cX6_textOf 95 = .ok (.ldc 180, 2) := by decide +kernel
theorem dX6_textOf_97 : decode cX6_textOf 97 = .ok (.areturn, 1) := by decide +kernel
theorem dX6_textOf_98 : decode cX6_textOf 98 = .ok (.ldc 182, 2) := by decide +kernel
theorem dX6_textOf_100 : decode cX6_textOf 100 = .ok (.areturn, 1) := by decide +kernel
theorem dX6_textOf_101 : decode cX6_textOf 101 = .ok (.ldc 184, 2) := by decide +kernel
theorem dX6_textOf_103 : decode cX6_textOf 103 = .ok (.areturn, 1) := by decide +kernel
theorem dX6_textOf_104 : decode cX6_textOf 104 = .ok (.ldc 186, 2) := by decide +kernel
theorem dX6_textOf_106 : decode cX6_textOf 106 = .ok (.areturn, 1) := by decide +kernel
theorem dX6_textOf_107 : decode cX6_textOf 107 = .ok (.ldc 188, 2) := by decide +kernel
theorem dX6_textOf_109 : decode cX6_textOf 109 = .ok (.areturn, 1) := by decide +kernel
theorem dX6_textOf_110 : decode cX6_textOf 110 = .ok (.ldc 190, 2) := by decide +kernel
theorem dX6_textOf_112 : decode cX6_textOf 112 = .ok (.areturn, 1) := by decide +kernel
theorem dX6_textOf_113 : decode cX6_textOf 113 = .ok (.ldc 192, 2) := by decide +kernel
theorem dX6_textOf_115 : decode cX6_textOf 115 = .ok (.areturn, 1) := by decide +kernel
theorem dX6_textOf_116 : decode cX6_textOf 116 = .ok (.ldc 194, 2) := by decide +kernel
theorem dX6_textOf_118 : decode cX6_textOf 118 = .ok (.areturn, 1) := by decide +kernel
theorem dX6_textOf_119 : decode cX6_textOf 119 = .ok (.ldc 196, 2) := by decide +kernel
theorem dX6_textOf_121 : decode cX6_textOf 121 = .ok (.areturn, 1) := by decide +kernel
theorem dX6_textOf_122 : decode cX6_textOf 122 = .ok (.ldc 198, 2) := by decide +kernel
theorem dX6_textOf_124 : decode cX6_textOf 124 = .ok (.areturn, 1) := by decide +kernel
theorem dX6_textOf_125 : decode cX6_textOf 125 = .ok (.ldc 199, 2) := by decide +kernel
theorem dX6_textOf_127 : decode cX6_textOf 127 = .ok (.areturn, 1) := by decide +kernel
theorem dX6_isBlank_0 : decode cX6_isBlank 0 = .ok (.iload_n 0, 1) := by decide +kernel
theorem dX6_isBlank_1 : decode cX6_isBlank 1 = .ok (.bipush 32, 2) := by decide +kernel
theorem dX6_isBlank_3 : decode cX6_isBlank 3 = .ok (.if_icmp .eq 9, 3) := by decide +kernel
theorem dX6_isBlank_6 : decode cX6_isBlank 6 = .ok (.iload_n 0, 1) := by decide +kernel
theorem dX6_isBlank_7 : decode cX6_isBlank 7 = .ok (.bipush 10, 2) := by decide +kernel
theorem dX6_isBlank_9 : decode cX6_isBlank 9 = .ok (.if_icmp .ne 7, 3) := by decide +kernel
theorem dX6_isBlank_12 : decode cX6_isBlank 12 = .ok (.iconst 1, 1) := by decide +kernel
theorem dX6_isBlank_13 : decode cX6_isBlank 13 = .ok (.goto 4, 3) := by decide +kernel
theorem dX6_isBlank_16 : decode cX6_isBlank 16 = .ok (.iconst 0, 1) := by decide +kernel
theorem dX6_isBlank_17 : decode cX6_isBlank 17 = .ok (.ireturn, 1) := by decide +kernel
theorem dX6_isLetter_0 : decode cX6_isLetter 0 = .ok (.iload_n 0, 1) := by decide +kernel
theorem dX6_isLetter_1 : decode cX6_isLetter 1 = .ok (.bipush 97, 2) := by decide +kernel
theorem dX6_isLetter_3 : decode cX6_isLetter 3 = .ok (.if_icmp .lt 13, 3) := by decide +kernel
theorem dX6_isLetter_6 : decode cX6_isLetter 6 = .ok (.iload_n 0, 1) := by decide +kernel
theorem dX6_isLetter_7 : decode cX6_isLetter 7 = .ok (.bipush 122, 2) := by decide +kernel
theorem dX6_isLetter_9 : decode cX6_isLetter 9 = .ok (.if_icmp .gt 7, 3) := by decide +kernel
theorem dX6_isLetter_12 : decode cX6_isLetter 12 = .ok (.iconst 1, 1) := by decide +kernel
theorem dX6_isLetter_13 : decode cX6_isLetter 13 = .ok (.goto 4, 3) := by decide +kernel
theorem dX6_isLetter_16 : decode cX6_isLetter 16 = .ok (.iconst 0, 1) := by decide +kernel
theorem dX6_isLetter_17 : decode cX6_isLetter 17 = .ok (.ireturn, 1) := by decide +kernel
theorem dX6_isDigit_0 : decode cX6_isDigit 0 = .ok (.iload_n 0, 1) := by decide +kernel
theorem dX6_isDigit_1 : decode cX6_isDigit 1 = .ok (.bipush 48, 2) := by decide +kernel
theorem dX6_isDigit_3 : decode cX6_isDigit 3 = .ok (.if_icmp .lt 13, 3) := by decide +kernel
theorem dX6_isDigit_6 : decode cX6_isDigit 6 = .ok (.iload_n 0, 1) := by decide +kernel
theorem dX6_isDigit_7 : decode cX6_isDigit 7 = .ok (.bipush 57, 2) := by decide +kernel
theorem dX6_isDigit_9 : decode cX6_isDigit 9 = .ok (.if_icmp .gt 7, 3) := by decide +kernel
theorem dX6_isDigit_12 : decode cX6_isDigit 12 = .ok (.iconst 1, 1) := by decide +kernel
theorem dX6_isDigit_13 : decode cX6_isDigit 13 = .ok (.goto 4, 3) := by decide +kernel
theorem dX6_isDigit_16 : decode cX6_isDigit 16 = .ok (.iconst 0, 1) := by decide +kernel
theorem dX6_isDigit_17 : decode cX6_isDigit 17 = .ok (.ireturn, 1) := by decide +kernel
theorem dX6_isSign_0 : decode cX6_isSign 0 = .ok (.iload_n 0, 1) := by decide +kernel
theorem dX6_isSign_1 : decode cX6_isSign 1 = .ok (.tableswitch 105 40 61 #[103, 103, 103, 103, 105, 103, 105, 103, 105, 105, 105, 105, 105, 105, 105, 105, 105, 105, 105, 103, 103, 103], 103) := by decide +kernel
theorem dX6_isSign_104 : decode cX6_isSign 104 = .ok (.iconst 1, 1) := by decide +kernel
theorem dX6_isSign_105 : decode cX6_isSign 105 = .ok (.ireturn, 1) := by decide +kernel
theorem dX6_isSign_106 : decode cX6_isSign 106 = .ok (.iconst 0, 1) := by decide +kernel
theorem dX6_isSign_107 : decode cX6_isSign 107 = .ok (.ireturn, 1) := by decide +kernel
theorem dX7_init_0 : decode cX7_init 0 = .ok (.aload_n 0, 1) := by decide +kernel
theorem dX7_init_1 : decode cX7_init 1 = .ok (.invokespecial 3, 3) := by decide +kernel
theorem dX7_init_4 : decode cX7_init 4 = .ok (.aload_n 0, 1) := by decide +kernel
theorem dX7_init_5 : decode cX7_init 5 = .ok (.sipush 600, 3) := by decide +kernel
theorem dX7_init_8 : decode cX7_init 8 = .ok (.newarray .int, 2) := by decide +kernel
theorem dX7_init_10 : decode cX7_init 10 = .ok (.putfield 9, 3) := by decide +kernel
theorem dX7_init_13 : decode cX7_init 13 = .ok (.aload_n 0, 1) := by decide +kernel
theorem dX7_init_14 : decode cX7_init 14 = .ok (.bipush 64, 2) := by decide +kernel
theorem dX7_init_16 : decode cX7_init 16 = .ok (.newarray .int, 2) := by decide +kernel
theorem dX7_init_18 : decode cX7_init 18 = .ok (.putfield 15, 3) := by decide +kernel
theorem dX7_init_21 : decode cX7_init 21 = .ok (.aload_n 0, 1) := by decide +kernel
theorem dX7_init_22 : decode cX7_init 22 = .ok (.bipush 6, 2) := by decide +kernel
theorem dX7_init_24 : decode cX7_init 24 = .ok (.newarray .int, 2) := by decide +kernel
theorem dX7_init_26 : decode cX7_init 26 = .ok (.putfield 18, 3) := by decide +kernel
theorem dX7_init_29 : decode cX7_init 29 = .ok (.return_, 1) := by decide +kernel
theorem dX7_clear_0 : decode cX7_clear 0 = .ok (.aload_n 0, 1) := by decide +kernel
theorem dX7_clear_1 : decode cX7_clear 1 = .ok (.iconst 0, 1) := by decide +kernel
theorem dX7_clear_2 : decode cX7_clear 2 = .ok (.putfield 21, 3) := by decide +kernel
theorem dX7_clear_5 : decode cX7_clear 5 = .ok (.return_, 1) := by decide +kernel
theorem dX7_isTold_0 : decode cX7_isTold 0 = .ok (.aload_n 0, 1) := by decide +kernel
theorem dX7_isTold_1 : decode cX7_isTold 1 = .ok (.getfield 21, 3) := by decide +kernel
theorem dX7_isTold_4 : decode cX7_isTold 4 = .ok (.ifCond .le 7, 3) := by decide +kernel
theorem dX7_isTold_7 : decode cX7_isTold 7 = .ok (.iconst 1, 1) := by decide +kernel
theorem dX7_isTold_8 : decode cX7_isTold 8 = .ok (.goto 4, 3) := by decide +kernel
theorem dX7_isTold_11 : decode cX7_isTold 11 = .ok (.iconst 0, 1) := by decide +kernel
theorem dX7_isTold_12 : decode cX7_isTold 12 = .ok (.ireturn, 1) := by decide +kernel
theorem dX7_add_0 : decode cX7_add 0 = .ok (.aload_n 0, 1) := by decide +kernel
theorem dX7_add_1 : decode cX7_add 1 = .ok (.getfield 21, 3) := by decide +kernel
theorem dX7_add_4 : decode cX7_add 4 = .ok (.aload_n 0, 1) := by decide +kernel
theorem dX7_add_5 : decode cX7_add 5 = .ok (.getfield 9, 3) := by decide +kernel
theorem dX7_add_8 : decode cX7_add 8 = .ok (.arraylength, 1) := by decide +kernel
theorem dX7_add_9 : decode cX7_add 9 = .ok (.if_icmp .ge 23, 3) := by decide +kernel
theorem dX7_add_12 : decode cX7_add 12 = .ok (.aload_n 0, 1) := by decide +kernel
theorem dX7_add_13 : decode cX7_add 13 = .ok (.getfield 9, 3) := by decide +kernel
theorem dX7_add_16 : decode cX7_add 16 = .ok (.aload_n 0, 1) := by decide +kernel
theorem dX7_add_17 : decode cX7_add 17 = .ok (.getfield 21, 3) := by decide +kernel
theorem dX7_add_20 : decode cX7_add 20 = .ok (.iload_n 1, 1) := by decide +kernel
theorem dX7_add_21 : decode cX7_add 21 = .ok (.iastore, 1) := by decide +kernel
theorem dX7_add_22 : decode cX7_add 22 = .ok (.aload_n 0, 1) := by decide +kernel
theorem dX7_add_23 : decode cX7_add 23 = .ok (.dup, 1) := by decide +kernel
theorem dX7_add_24 : decode cX7_add 24 = .ok (.getfield 21, 3) := by decide +kernel
theorem dX7_add_27 : decode cX7_add 27 = .ok (.iconst 1, 1) := by decide +kernel
theorem dX7_add_28 : decode cX7_add 28 = .ok (.iadd, 1) := by decide +kernel
theorem dX7_add_29 : decode cX7_add 29 = .ok (.putfield 21, 3) := by decide +kernel
theorem dX7_add_32 : decode cX7_add 32 = .ok (.return_, 1) := by decide +kernel
theorem dX7_copyFrom_0 : decode cX7_copyFrom 0 = .ok (.aload_n 0, 1) := by decide +kernel
theorem dX7_copyFrom_1 : decode cX7_copyFrom 1 = .ok (.aload_n 1, 1) := by decide +kernel
theorem dX7_copyFrom_2 : decode cX7_copyFrom 2 = .ok (.getfield 21, 3) := by decide +kernel
theorem dX7_copyFrom_5 : decode cX7_copyFrom 5 = .ok (.putfield 21, 3) := by decide +kernel
theorem dX7_copyFrom_8 : decode cX7_copyFrom 8 = .ok (.aload_n 1, 1) := by decide +kernel
theorem dX7_copyFrom_9 : decode cX7_copyFrom 9 = .ok (.getfield 9, 3) := by decide +kernel
theorem dX7_copyFrom_12 : decode cX7_copyFrom 12 = .ok (.iconst 0, 1) := by decide +kernel
theorem dX7_copyFrom_13 : decode cX7_copyFrom 13 = .ok (.aload_n 0, 1) := by decide +kernel
theorem dX7_copyFrom_14 : decode cX7_copyFrom 14 = .ok (.getfield 9, 3) := by decide +kernel
theorem dX7_copyFrom_17 : decode cX7_copyFrom 17 = .ok (.iconst 0, 1) := by decide +kernel
theorem dX7_copyFrom_18 : decode cX7_copyFrom 18 = .ok (.sipush 600, 3) := by decide +kernel
theorem dX7_copyFrom_21 : decode cX7_copyFrom 21 = .ok (.invokestatic 25, 3) := by decide +kernel
theorem dX7_copyFrom_24 : decode cX7_copyFrom 24 = .ok (.return_, 1) := by decide +kernel
theorem dX7_wantsLit_0 : decode cX7_wantsLit 0 = .ok (.aload_n 1, 1) := by decide +kernel
theorem dX7_wantsLit_1 : decode cX7_wantsLit 1 = .ok (.getfield 31, 3) := by decide +kernel
theorem dX7_wantsLit_4 : decode cX7_wantsLit 4 = .ok (.iload_n 2, 1) := by decide +kernel
theorem dX7_wantsLit_5 : decode cX7_wantsLit 5 = .ok (.iaload, 1) := by decide +kernel
theorem dX7_wantsLit_6 : decode cX7_wantsLit 6 = .ok (.istore 4, 2) := by decide +kernel
theorem dX7_wantsLit_8 : decode cX7_wantsLit 8 = .ok (.aload_n 0, 1) := by decide +kernel
theorem dX7_wantsLit_9 : decode cX7_wantsLit 9 = .ok (.invokevirtual 36, 3) := by decide +kernel
theorem dX7_wantsLit_12 : decode cX7_wantsLit 12 = .ok (.ifCond .ne 22, 3) := by decide +kernel
theorem dX7_wantsLit_15 : decode cX7_wantsLit 15 = .ok (.aload_n 1, 1) := by decide +kernel
theorem dX7_wantsLit_16 : decode cX7_wantsLit 16 = .ok (.getfield 40, 3) := by decide +kernel
theorem dX7_wantsLit_19 : decode cX7_wantsLit 19 = .ok (.iload 4, 2) := by decide +kernel
theorem dX7_wantsLit_21 : decode cX7_wantsLit 21 = .ok (.iaload, 1) := by decide +kernel
theorem dX7_wantsLit_22 : decode cX7_wantsLit 22 = .ok (.aload_n 1, 1) := by decide +kernel
theorem dX7_wantsLit_23 : decode cX7_wantsLit 23 = .ok (.iload 4, 2) := by decide +kernel
theorem dX7_wantsLit_25 : decode cX7_wantsLit 25 = .ok (.iload_n 3, 1) := by decide +kernel
theorem dX7_wantsLit_26 : decode cX7_wantsLit 26 = .ok (.invokevirtual 43, 3) := by decide +kernel
theorem dX7_wantsLit_29 : decode cX7_wantsLit 29 = .ok (.iload_n 3, 1) := by decide +kernel
theorem dX7_wantsLit_30 : decode cX7_wantsLit 30 = .ok (.invokestatic 47, 3) := by decide +kernel
theorem dX7_wantsLit_33 : decode cX7_wantsLit 33 = .ok (.ireturn, 1) := by decide +kernel
theorem dX7_wantsLit_34 : decode cX7_wantsLit 34 = .ok (.aload_n 0, 1) := by decide +kernel
theorem dX7_wantsLit_35 : decode cX7_wantsLit 35 = .ok (.getfield 18, 3) := by decide +kernel
theorem dX7_wantsLit_38 : decode cX7_wantsLit 38 = .ok (.iconst 0, 1) := by decide +kernel
theorem dX7_wantsLit_39 : decode cX7_wantsLit 39 = .ok (.iload_n 3, 1) := by decide +kernel
theorem dX7_wantsLit_40 : decode cX7_wantsLit 40 = .ok (.iastore, 1) := by decide +kernel
theorem dX7_wantsLit_41 : decode cX7_wantsLit 41 = .ok (.aload_n 0, 1) := by decide +kernel
theorem dX7_wantsLit_42 : decode cX7_wantsLit 42 = .ok (.getfield 18, 3) := by decide +kernel
theorem dX7_wantsLit_45 : decode cX7_wantsLit 45 = .ok (.iconst 1, 1) := by decide +kernel
theorem dX7_wantsLit_46 : decode cX7_wantsLit 46 = .ok (.aload_n 1, 1) := by decide +kernel
theorem dX7_wantsLit_47 : decode cX7_wantsLit 47 = .ok (.getfield 40, 3) := by decide +kernel
theorem dX7_wantsLit_50 : decode cX7_wantsLit 50 = .ok (.iload 4, 2) := by decide +kernel
theorem dX7_wantsLit_52 : decode cX7_wantsLit 52 = .ok (.iaload, 1) := by decide +kernel
theorem dX7_wantsLit_53 : decode cX7_wantsLit 53 = .ok (.iastore, 1) := by decide +kernel
theorem dX7_wantsLit_54 : decode cX7_wantsLit 54 = .ok (.aload_n 0, 1) := by decide +kernel
theorem dX7_wantsLit_55 : decode cX7_wantsLit 55 = .ok (.getfield 18, 3) := by decide +kernel
theorem dX7_wantsLit_58 : decode cX7_wantsLit 58 = .ok (.iconst 2, 1) := by decide +kernel
theorem dX7_wantsLit_59 : decode cX7_wantsLit 59 = .ok (.aload_n 1, 1) := by decide +kernel
theorem dX7_wantsLit_60 : decode cX7_wantsLit 60 = .ok (.getfield 51, 3) := by decide +kernel
theorem dX7_wantsLit_63 : decode cX7_wantsLit 63 = .ok (.iload_n 2, 1) := by decide +kernel
theorem dX7_wantsLit_64 : decode cX7_wantsLit 64 = .ok (.iaload, 1) := by decide +kernel
theorem dX7_wantsLit_65 : decode cX7_wantsLit 65 = .ok (.iastore, 1) := by decide +kernel
theorem dX7_wantsLit_66 : decode cX7_wantsLit 66 = .ok (.aload_n 0, 1) := by decide +kernel
theorem dX7_wantsLit_67 : decode cX7_wantsLit 67 = .ok (.getfield 18, 3) := by decide +kernel
theorem dX7_wantsLit_70 : decode cX7_wantsLit 70 = .ok (.iconst 3, 1) := by decide +kernel
theorem dX7_wantsLit_71 : decode cX7_wantsLit 71 = .ok (.iload 4, 2) := by decide +kernel
theorem dX7_wantsLit_73 : decode cX7_wantsLit 73 = .ok (.iastore, 1) := by decide +kernel
theorem dX7_wantsLit_74 : decode cX7_wantsLit 74 = .ok (.aload_n 0, 1) := by decide +kernel
theorem dX7_wantsLit_75 : decode cX7_wantsLit 75 = .ok (.getfield 18, 3) := by decide +kernel
theorem dX7_wantsLit_78 : decode cX7_wantsLit 78 = .ok (.iconst 4, 1) := by decide +kernel
theorem dX7_wantsLit_79 : decode cX7_wantsLit 79 = .ok (.aload_n 1, 1) := by decide +kernel
theorem dX7_wantsLit_80 : decode cX7_wantsLit 80 = .ok (.iload 4, 2) := by decide +kernel
theorem dX7_wantsLit_82 : decode cX7_wantsLit 82 = .ok (.invokevirtual 54, 3) := by decide +kernel
theorem dX7_wantsLit_85 : decode cX7_wantsLit 85 = .ok (.invokestatic 58, 3) := by decide +kernel
theorem dX7_wantsLit_88 : decode cX7_wantsLit 88 = .ok (.iastore, 1) := by decide +kernel
theorem dX7_wantsLit_89 : decode cX7_wantsLit 89 = .ok (.aload_n 0, 1) := by decide +kernel
theorem dX7_wantsLit_90 : decode cX7_wantsLit 90 = .ok (.getfield 18, 3) := by decide +kernel
theorem dX7_wantsLit_93 : decode cX7_wantsLit 93 = .ok (.iconst 5, 1) := by decide +kernel
theorem dX7_wantsLit_94 : decode cX7_wantsLit 94 = .ok (.aload_n 1, 1) := by decide +kernel
theorem dX7_wantsLit_95 : decode cX7_wantsLit 95 = .ok (.iload 4, 2) := by decide +kernel
theorem dX7_wantsLit_97 : decode cX7_wantsLit 97 = .ok (.iload_n 3, 1) := by decide +kernel
theorem dX7_wantsLit_98 : decode cX7_wantsLit 98 = .ok (.invokevirtual 43, 3) := by decide +kernel
theorem dX7_wantsLit_101 : decode cX7_wantsLit 101 = .ok (.ifCond .eq 7, 3) := by decide +kernel
theorem dX7_wantsLit_104 : decode cX7_wantsLit 104 = .ok (.iconst 1, 1) := by decide +kernel
theorem dX7_wantsLit_105 : decode cX7_wantsLit 105 = .ok (.goto 4, 3) := by decide +kernel
theorem dX7_wantsLit_108 : decode cX7_wantsLit 108 = .ok (.iconst 0, 1) := by decide +kernel
theorem dX7_wantsLit_109 : decode cX7_wantsLit 109 = .ok (.iastore, 1) := by decide +kernel
theorem dX7_wantsLit_110 : decode cX7_wantsLit 110 = .ok (.aload_n 0, 1) := by decide +kernel
theorem dX7_wantsLit_111 : decode cX7_wantsLit 111 = .ok (.invokevirtual 63, 3) := by decide +kernel
theorem dX7_wantsLit_114 : decode cX7_wantsLit 114 = .ok (.ifCond .le 7, 3) := by decide +kernel
theorem dX7_wantsLit_117 : decode cX7_wantsLit 117 = .ok (.iconst 1, 1) := by decide +kernel
theorem dX7_wantsLit_118 : decode cX7_wantsLit 118 = .ok (.goto 4, 3) := by decide +kernel
theorem dX7_wantsLit_121 : decode cX7_wantsLit 121 = .ok (.iconst 0, 1) := by decide +kernel
theorem dX7_wantsLit_122 : decode cX7_wantsLit 122 = .ok (.ireturn, 1) := by decide +kernel
theorem dX7_hoursWanted_0 : decode cX7_hoursWanted 0 = .ok (.iconst 0, 1) := by decide +kernel
theorem dX7_hoursWanted_1 : decode cX7_hoursWanted 1 = .ok (.istore_n 3, 1) := by decide +kernel
theorem dX7_hoursWanted_2 : decode cX7_hoursWanted 2 = .ok (.iconst 0, 1) := by decide +kernel
theorem dX7_hoursWanted_3 : decode cX7_hoursWanted 3 = .ok (.istore 4, 2) := by decide +kernel
theorem dX7_hoursWanted_5 : decode cX7_hoursWanted 5 = .ok (.iload 4, 2) := by decide +kernel
theorem dX7_hoursWanted_7 : decode cX7_hoursWanted 7 = .ok (.bipush 24, 2) := by decide +kernel
theorem dX7_hoursWanted_9 : decode cX7_hoursWanted 9 = .ok (.if_icmp .ge 27, 3) := by decide +kernel
theorem dX7_hoursWanted_12 : decode cX7_hoursWanted 12 = .ok (.aload_n 0, 1) := by decide +kernel
theorem dX7_hoursWanted_13 : decode cX7_hoursWanted 13 = .ok (.aload_n 1, 1) := by decide +kernel
theorem dX7_hoursWanted_14 : decode cX7_hoursWanted 14 = .ok (.iload_n 2, 1) := by decide +kernel
theorem dX7_hoursWanted_15 : decode cX7_hoursWanted 15 = .ok (.iload 4, 2) := by decide +kernel
theorem dX7_hoursWanted_17 : decode cX7_hoursWanted 17 = .ok (.invokevirtual 67, 3) := by decide +kernel
theorem dX7_hoursWanted_20 : decode cX7_hoursWanted 20 = .ok (.ifCond .eq 10, 3) := by decide +kernel
theorem dX7_hoursWanted_23 : decode cX7_hoursWanted 23 = .ok (.iload_n 3, 1) := by decide +kernel
theorem dX7_hoursWanted_24 : decode cX7_hoursWanted 24 = .ok (.iconst 1, 1) := by decide +kernel
theorem dX7_hoursWanted_25 : decode cX7_hoursWanted 25 = .ok (.iload 4, 2) := by decide +kernel
theorem dX7_hoursWanted_27 : decode cX7_hoursWanted 27 = .ok (.ishl, 1) := by decide +kernel
theorem dX7_hoursWanted_28 : decode cX7_hoursWanted 28 = .ok (.ior, 1) := by decide +kernel
theorem dX7_hoursWanted_29 : decode cX7_hoursWanted 29 = .ok (.istore_n 3, 1) := by decide +kernel
theorem dX7_hoursWanted_30 : decode cX7_hoursWanted 30 = .ok (.iinc 4 1, 3) := by decide +kernel
theorem dX7_hoursWanted_33 : decode cX7_hoursWanted 33 = .ok (.goto (-28), 3) := by decide +kernel
theorem dX7_hoursWanted_36 : decode cX7_hoursWanted 36 = .ok (.iload_n 3, 1) := by decide +kernel
theorem dX7_hoursWanted_37 : decode cX7_hoursWanted 37 = .ok (.ireturn, 1) := by decide +kernel
theorem dX7_isCustomary_0 : decode cX7_isCustomary 0 = .ok (.iload_n 0, 1) := by decide +kernel
theorem dX7_isCustomary_1 : decode cX7_isCustomary 1 = .ok (.iconst 2, 1) := by decide +kernel
theorem dX7_isCustomary_2 : decode cX7_isCustomary 2 = .ok (.if_icmp .ne 5, 3) := by decide +kernel
theorem dX7_isCustomary_5 : decode cX7_isCustomary 5 = .ok (.iconst 0, 1) := by decide +kernel
theorem dX7_isCustomary_6 : decode cX7_isCustomary 6 = .ok (.ireturn, 1) := by decide +kernel
theorem dX7_isCustomary_7 : decode cX7_isCustomary 7 = .ok (.iload_n 2, 1) := by decide +kernel
theorem dX7_isCustomary_8 : decode cX7_isCustomary 8 = .ok (.bipush 18, 2) := by decide +kernel
theorem dX7_isCustomary_10 : decode cX7_isCustomary 10 = .ok (.if_icmp .ge 19, 3) := by decide +kernel
theorem dX7_isCustomary_13 : decode cX7_isCustomary 13 = .ok (.iload_n 2, 1) := by decide +kernel
theorem dX7_isCustomary_14 : decode cX7_isCustomary 14 = .ok (.iload_n 0, 1) := by decide +kernel
theorem dX7_isCustomary_15 : decode cX7_isCustomary 15 = .ok (.iconst 3, 1) := by decide +kernel
theorem dX7_isCustomary_16 : decode cX7_isCustomary 16 = .ok (.if_icmp .ne 8, 3) := by decide +kernel
theorem dX7_isCustomary_19 : decode cX7_isCustomary 19 = .ok (.bipush 9, 2) := by decide +kernel
theorem dX7_isCustomary_21 : decode cX7_isCustomary 21 = .ok (.goto 5, 3) := by decide +kernel
theorem dX7_isCustomary_24 : decode cX7_isCustomary 24 = .ok (.bipush 6, 2) := by decide +kernel
theorem dX7_isCustomary_26 : decode cX7_isCustomary 26 = .ok (.if_icmp .ge 7, 3) := by decide +kernel
theorem dX7_isCustomary_29 : decode cX7_isCustomary 29 = .ok (.iconst 1, 1) := by decide +kernel
theorem dX7_isCustomary_30 : decode cX7_isCustomary 30 = .ok (.goto 4, 3) := by decide +kernel
theorem dX7_isCustomary_33 : decode cX7_isCustomary 33 = .ok (.iconst 0, 1) := by decide +kernel
theorem dX7_isCustomary_34 : decode cX7_isCustomary 34 = .ok (.istore_n 3, 1) := by decide +kernel
theorem dX7_isCustomary_35 : decode cX7_isCustomary 35 = .ok (.iload_n 3, 1) := by decide +kernel
theorem dX7_isCustomary_36 : decode cX7_isCustomary 36 = .ok (.ifCond .eq 16, 3) := by decide +kernel
theorem dX7_isCustomary_39 : decode cX7_isCustomary 39 = .ok (.iload_n 1, 1) := by decide +kernel
theorem dX7_isCustomary_40 : decode cX7_isCustomary 40 = .ok (.ifCond .ne 8, 3) := by decide +kernel
theorem dX7_isCustomary_43 : decode cX7_isCustomary 43 = .ok (.iload_n 0, 1) := by decide +kernel
theorem dX7_isCustomary_44 : decode cX7_isCustomary 44 = .ok (.iconst 1, 1) := by decide +kernel
theorem dX7_isCustomary_45 : decode cX7_isCustomary 45 = .ok (.if_icmp .ne 7, 3) := by decide +kernel
theorem dX7_isCustomary_48 : decode cX7_isCustomary 48 = .ok (.iconst 1, 1) := by decide +kernel
theorem dX7_isCustomary_49 : decode cX7_isCustomary 49 = .ok (.goto 4, 3) := by decide +kernel
theorem dX7_isCustomary_52 : decode cX7_isCustomary 52 = .ok (.iconst 0, 1) := by decide +kernel
theorem dX7_isCustomary_53 : decode cX7_isCustomary 53 = .ok (.ireturn, 1) := by decide +kernel
theorem dX7_worth_0 : decode cX7_worth 0 = .ok (.iconst 0, 1) := by decide +kernel
theorem dX7_worth_1 : decode cX7_worth 1 = .ok (.istore_n 1, 1) := by decide +kernel
theorem dX7_worth_2 : decode cX7_worth 2 = .ok (.iconst 0, 1) := by decide +kernel
theorem dX7_worth_3 : decode cX7_worth 3 = .ok (.istore_n 2, 1) := by decide +kernel
theorem dX7_worth_4 : decode cX7_worth 4 = .ok (.iload_n 2, 1) := by decide +kernel
theorem dX7_worth_5 : decode cX7_worth 5 = .ok (.aload_n 0, 1) := by decide +kernel
theorem dX7_worth_6 : decode cX7_worth 6 = .ok (.getfield 21, 3) := by decide +kernel
theorem dX7_worth_9 : decode cX7_worth 9 = .ok (.if_icmp .ge 155, 3) := by decide +kernel
theorem dX7_worth_12 : decode cX7_worth 12 = .ok (.iload_n 2, 1) := by decide +kernel
theorem dX7_worth_13 : decode cX7_worth 13 = .ok (.aload_n 0, 1) := by decide +kernel
theorem dX7_worth_14 : decode cX7_worth 14 = .ok (.getfield 9, 3) := by decide +kernel
theorem dX7_worth_17 : decode cX7_worth 17 = .ok (.arraylength, 1) := by decide +kernel
theorem dX7_worth_18 : decode cX7_worth 18 = .ok (.if_icmp .ge 146, 3) := by decide +kernel
theorem dX7_worth_21 : decode cX7_worth 21 = .ok (.aload_n 0, 1) := by decide +kernel
theorem dX7_worth_22 : decode cX7_worth 22 = .ok (.getfield 9, 3) := by decide +kernel
theorem dX7_worth_25 : decode cX7_worth 25 = .ok (.iload_n 2, 1) := by decide +kernel
theorem dX7_worth_26 : decode cX7_worth 26 = .ok (.iaload, 1) := by decide +kernel
theorem dX7_worth_27 : decode cX7_worth 27 = .ok (.istore_n 3, 1) := by decide +kernel
theorem dX7_worth_28 : decode cX7_worth 28 = .ok (.iload_n 3, 1) := by decide +kernel
theorem dX7_worth_29 : decode cX7_worth 29 = .ok (.ifCond .ge 10, 3) := by decide +kernel
theorem dX7_worth_32 : decode cX7_worth 32 = .ok (.iload_n 3, 1) := by decide +kernel
theorem dX7_worth_33 : decode cX7_worth 33 = .ok (.sipush (-310), 3) := by decide +kernel
theorem dX7_worth_36 : decode cX7_worth 36 = .ok (.if_icmp .gt 44, 3) := by decide +kernel
theorem dX7_worth_39 : decode cX7_worth 39 = .ok (.iload_n 1, 1) := by decide +kernel
theorem dX7_worth_40 : decode cX7_worth 40 = .ok (.aload_n 0, 1) := by decide +kernel
theorem dX7_worth_41 : decode cX7_worth 41 = .ok (.getfield 15, 3) := by decide +kernel
theorem dX7_worth_44 : decode cX7_worth 44 = .ok (.arraylength, 1) := by decide +kernel
theorem dX7_worth_45 : decode cX7_worth 45 = .ok (.if_icmp .lt 5, 3) := by decide +kernel
theorem dX7_worth_48 : decode cX7_worth 48 = .ok (.iconst 0, 1) := by decide +kernel
theorem dX7_worth_49 : decode cX7_worth 49 = .ok (.ireturn, 1) := by decide +kernel
theorem dX7_worth_50 : decode cX7_worth 50 = .ok (.aload_n 0, 1) := by decide +kernel
theorem dX7_worth_51 : decode cX7_worth 51 = .ok (.getfield 15, 3) := by decide +kernel
theorem dX7_worth_54 : decode cX7_worth 54 = .ok (.iload_n 1, 1) := by decide +kernel
theorem dX7_worth_55 : decode cX7_worth 55 = .ok (.iload_n 3, 1) := by decide +kernel
theorem dX7_worth_56 : decode cX7_worth 56 = .ok (.ifCond .lt 7, 3) := by decide +kernel
theorem dX7_worth_59 : decode cX7_worth 59 = .ok (.iload_n 3, 1) := by decide +kernel
theorem dX7_worth_60 : decode cX7_worth 60 = .ok (.goto 13, 3) := by decide +kernel
theorem dX7_worth_63 : decode cX7_worth 63 = .ok (.aload_n 0, 1) := by decide +kernel
theorem dX7_worth_64 : decode cX7_worth 64 = .ok (.iload_n 3, 1) := by decide +kernel
theorem dX7_worth_65 : decode cX7_worth 65 = .ok (.ineg, 1) := by decide +kernel
theorem dX7_worth_66 : decode cX7_worth 66 = .ok (.sipush 310, 3) := by decide +kernel
theorem dX7_worth_69 : decode cX7_worth 69 = .ok (.isub, 1) := by decide +kernel
theorem dX7_worth_70 : decode cX7_worth 70 = .ok (.invokevirtual 73, 3) := by decide +kernel
theorem dX7_worth_73 : decode cX7_worth 73 = .ok (.iastore, 1) := by decide +kernel
theorem dX7_worth_74 : decode cX7_worth 74 = .ok (.iinc 1 1, 3) := by decide +kernel
theorem dX7_worth_77 : decode cX7_worth 77 = .ok (.goto 81, 3) := by decide +kernel
theorem dX7_worth_80 : decode cX7_worth 80 = .ok (.iload_n 3, 1) := by decide +kernel
theorem dX7_worth_81 : decode cX7_worth 81 = .ok (.sipush (-309), 3) := by decide +kernel
theorem dX7_worth_84 : decode cX7_worth 84 = .ok (.if_icmp .ne 37, 3) := by decide +kernel
theorem dX7_worth_87 : decode cX7_worth 87 = .ok (.iload_n 1, 1) := by decide +kernel
theorem dX7_worth_88 : decode cX7_worth 88 = .ok (.iconst 1, 1) := by decide +kernel
theorem dX7_worth_89 : decode cX7_worth 89 = .ok (.if_icmp .ge 5, 3) := by decide +kernel
theorem dX7_worth_92 : decode cX7_worth 92 = .ok (.iconst 0, 1) := by decide +kernel
theorem dX7_worth_93 : decode cX7_worth 93 = .ok (.ireturn, 1) := by decide +kernel
theorem dX7_worth_94 : decode cX7_worth 94 = .ok (.aload_n 0, 1) := by decide +kernel
theorem dX7_worth_95 : decode cX7_worth 95 = .ok (.getfield 15, 3) := by decide +kernel
theorem dX7_worth_98 : decode cX7_worth 98 = .ok (.iload_n 1, 1) := by decide +kernel
theorem dX7_worth_99 : decode cX7_worth 99 = .ok (.iconst 1, 1) := by decide +kernel
theorem dX7_worth_100 : decode cX7_worth 100 = .ok (.isub, 1) := by decide +kernel
theorem dX7_worth_101 : decode cX7_worth 101 = .ok (.aload_n 0, 1) := by decide +kernel
theorem dX7_worth_102 : decode cX7_worth 102 = .ok (.getfield 15, 3) := by decide +kernel
theorem dX7_worth_105 : decode cX7_worth 105 = .ok (.iload_n 1, 1) := by decide +kernel
theorem dX7_worth_106 : decode cX7_worth 106 = .ok (.iconst 1, 1) := by decide +kernel
theorem dX7_worth_107 : decode cX7_worth 107 = .ok (.isub, 1) := by decide +kernel
theorem dX7_worth_108 : decode cX7_worth 108 = .ok (.iaload, 1) := by decide +kernel
theorem dX7_worth_109 : decode cX7_worth 109 = .ok (.ifCond .ne 7, 3) := by decide +kernel
theorem dX7_worth_112 : decode cX7_worth 112 = .ok (.iconst 1, 1) := by decide +kernel
theorem dX7_worth_113 : decode cX7_worth 113 = .ok (.goto 4, 3) := by decide +kernel
theorem dX7_worth_116 : decode cX7_worth 116 = .ok (.iconst 0, 1) := by decide +kernel
theorem dX7_worth_117 : decode cX7_worth 117 = .ok (.iastore, 1) := by decide +kernel
theorem dX7_worth_118 : decode cX7_worth 118 = .ok (.goto 40, 3) := by decide +kernel
theorem dX7_worth_121 : decode cX7_worth 121 = .ok (.iload_n 1, 1) := by decide +kernel
theorem dX7_worth_122 : decode cX7_worth 122 = .ok (.iconst 2, 1) := by decide +kernel
theorem dX7_worth_123 : decode cX7_worth 123 = .ok (.if_icmp .ge 5, 3) := by decide +kernel
theorem dX7_worth_126 : decode cX7_worth 126 = .ok (.iconst 0, 1) := by decide +kernel
theorem dX7_worth_127 : decode cX7_worth 127 = .ok (.ireturn, 1) := by decide +kernel
theorem dX7_worth_128 : decode cX7_worth 128 = .ok (.iinc 1 (-1), 3) := by decide +kernel
theorem dX7_worth_131 : decode cX7_worth 131 = .ok (.aload_n 0, 1) := by decide +kernel
theorem dX7_worth_132 : decode cX7_worth 132 = .ok (.getfield 15, 3) := by decide +kernel
theorem dX7_worth_135 : decode cX7_worth 135 = .ok (.iload_n 1, 1) := by decide +kernel
theorem dX7_worth_136 : decode cX7_worth 136 = .ok (.iconst 1, 1) := by decide +kernel
theorem dX7_worth_137 : decode cX7_worth 137 = .ok (.isub, 1) := by decide +kernel
theorem dX7_worth_138 : decode cX7_worth 138 = .ok (.iload_n 3, 1) := by decide +kernel
theorem dX7_worth_139 : decode cX7_worth 139 = .ok (.ineg, 1) := by decide +kernel
theorem dX7_worth_140 : decode cX7_worth 140 = .ok (.aload_n 0, 1) := by decide +kernel
theorem dX7_worth_141 : decode cX7_worth 141 = .ok (.getfield 15, 3) := by decide +kernel
theorem dX7_worth_144 : decode cX7_worth 144 = .ok (.iload_n 1, 1) := by decide +kernel
theorem dX7_worth_145 : decode cX7_worth 145 = .ok (.iconst 1, 1) := by decide +kernel
theorem dX7_worth_146 : decode cX7_worth 146 = .ok (.isub, 1) := by decide +kernel
theorem dX7_worth_147 : decode cX7_worth 147 = .ok (.iaload, 1) := by decide +kernel
theorem dX7_worth_148 : decode cX7_worth 148 = .ok (.aload_n 0, 1) := by decide +kernel
theorem dX7_worth_149 : decode cX7_worth 149 = .ok (.getfield 15, 3) := by decide +kernel
theorem dX7_worth_152 : decode cX7_worth 152 = .ok (.iload_n 1, 1) := by decide +kernel
theorem dX7_worth_153 : decode cX7_worth 153 = .ok (.iaload, 1) := by decide +kernel
theorem dX7_worth_154 : decode cX7_worth 154 = .ok (.invokestatic 76, 3) := by decide +kernel
theorem dX7_worth_157 : decode cX7_worth 157 = .ok (.iastore, 1) := by decide +kernel
theorem dX7_worth_158 : decode cX7_worth 158 = .ok (.iinc 2 1, 3) := by decide +kernel
theorem dX7_worth_161 : decode cX7_worth 161 = .ok (.goto (-157), 3) := by decide +kernel
theorem dX7_worth_164 : decode cX7_worth 164 = .ok (.iload_n 1, 1) := by decide +kernel
theorem dX7_worth_165 : decode cX7_worth 165 = .ok (.iconst 1, 1) := by decide +kernel
theorem dX7_worth_166 : decode cX7_worth 166 = .ok (.if_icmp .ge 7, 3) := by decide +kernel
theorem dX7_worth_169 : decode cX7_worth 169 = .ok (.iconst 0, 1) := by decide +kernel
theorem dX7_worth_170 : decode cX7_worth 170 = .ok (.goto 9, 3) := by decide +kernel
theorem dX7_worth_173 : decode cX7_worth 173 = .ok (.aload_n 0, 1) := by decide +kernel
theorem dX7_worth_174 : decode cX7_worth 174 = .ok (.getfield 15, 3) := by decide +kernel
theorem dX7_worth_177 : decode cX7_worth 177 = .ok (.iconst 0, 1) := by decide +kernel
theorem dX7_worth_178 : decode cX7_worth 178 = .ok (.iaload, 1) := by decide +kernel
theorem dX7_worth_179 : decode cX7_worth 179 = .ok (.ireturn, 1) := by decide +kernel
theorem dX7_valueOf_0 : decode cX7_valueOf 0 = .ok (.iload_n 1, 1) := by decide +kernel
theorem dX7_valueOf_1 : decode cX7_valueOf 1 = .ok (.ifCond .lt 21, 3) := by decide +kernel
theorem dX7_valueOf_4 : decode cX7_valueOf 4 = .ok (.iload_n 1, 1) := by decide +kernel
theorem dX7_valueOf_5 : decode cX7_valueOf 5 = .ok (.aload_n 0, 1) := by decide +kernel
theorem dX7_valueOf_6 : decode cX7_valueOf 6 = .ok (.getfield 18, 3) := by decide +kernel
theorem dX7_valueOf_9 : decode cX7_valueOf 9 = .ok (.arraylength, 1) := by decide +kernel
theorem dX7_valueOf_10 : decode cX7_valueOf 10 = .ok (.if_icmp .ge 12, 3) := by decide +kernel
theorem dX7_valueOf_13 : decode cX7_valueOf 13 = .ok (.aload_n 0, 1) := by decide +kernel
theorem dX7_valueOf_14 : decode cX7_valueOf 14 = .ok (.getfield 18, 3) := by decide +kernel
theorem dX7_valueOf_17 : decode cX7_valueOf 17 = .ok (.iload_n 1, 1) := by decide +kernel
theorem dX7_valueOf_18 : decode cX7_valueOf 18 = .ok (.iaload, 1) := by decide +kernel
theorem dX7_valueOf_19 : decode cX7_valueOf 19 = .ok (.goto 4, 3) := by decide +kernel
theorem dX7_valueOf_22 : decode cX7_valueOf 22 = .ok (.iconst 0, 1) := by decide +kernel
theorem dX7_valueOf_23 : decode cX7_valueOf 23 = .ok (.ireturn, 1) := by decide +kernel
theorem dX7_together_0 : decode cX7_together 0 = .ok (.iload_n 0, 1) := by decide +kernel
theorem dX7_together_1 : decode cX7_together 1 = .ok (.lookupswitch 127 #[(42, 75), (43, 67), (45, 71), (47, 79), (60, 91), (61, 102), (308, 113)], 67) := by decide +kernel
theorem dX7_together_68 : decode cX7_together 68 = .ok (.iload_n 1, 1) := by decide +kernel
theorem dX7_together_69 : decode cX7_together 69 = .ok (.iload_n 2, 1) := by decide +kernel
theorem dX7_together_70 : decode cX7_together 70 = .ok (.iadd, 1) := by decide +kernel
theorem dX7_together_71 : decode cX7_together 71 = .ok (.ireturn, 1) := by decide +kernel
theorem dX7_together_72 : decode cX7_together 72 = .ok (.iload_n 1, 1) := by decide +kernel
theorem dX7_together_73 : decode cX7_together 73 = .ok (.iload_n 2, 1) := by decide +kernel
theorem dX7_together_74 : decode cX7_together 74 = .ok (.isub, 1) := by decide +kernel
theorem dX7_together_75 : decode cX7_together 75 = .ok (.ireturn, 1) := by decide +kernel
theorem dX7_together_76 : decode cX7_together 76 = .ok (.iload_n 1, 1) := by decide +kernel
theorem dX7_together_77 : decode cX7_together 77 = .ok (.iload_n 2, 1) := by decide +kernel
theorem dX7_together_78 : decode cX7_together 78 = .ok (.imul, 1) := by decide +kernel
theorem dX7_together_79 : decode cX7_together 79 = .ok (.ireturn, 1) := by decide +kernel
theorem dX7_together_80 : decode cX7_together 80 = .ok (.iload_n 2, 1) := by decide +kernel
theorem dX7_together_81 : decode cX7_together 81 = .ok (.ifCond .ne 7, 3) := by decide +kernel
theorem dX7_together_84 : decode cX7_together 84 = .ok (.iconst 0, 1) := by decide +kernel
theorem dX7_together_85 : decode cX7_together 85 = .ok (.goto 6, 3) := by decide +kernel
theorem dX7_together_88 : decode cX7_together 88 = .ok (.iload_n 1, 1) := by decide +kernel
theorem dX7_together_89 : decode cX7_together 89 = .ok (.iload_n 2, 1) := by decide +kernel
theorem dX7_together_90 : decode cX7_together 90 = .ok (.idiv, 1) := by decide +kernel
theorem dX7_together_91 : decode cX7_together 91 = .ok (.ireturn, 1) := by decide +kernel
theorem dX7_together_92 : decode cX7_together 92 = .ok (.iload_n 1, 1) := by decide +kernel
theorem dX7_together_93 : decode cX7_together 93 = .ok (.iload_n 2, 1) := by decide +kernel
theorem dX7_together_94 : decode cX7_together 94 = .ok (.if_icmp .ge 7, 3) := by decide +kernel
theorem dX7_together_97 : decode cX7_together 97 = .ok (.iconst 1, 1) := by decide +kernel
theorem dX7_together_98 : decode cX7_together 98 = .ok (.goto 4, 3) := by decide +kernel
theorem dX7_together_101 : decode cX7_together 101 = .ok (.iconst 0, 1) := by decide +kernel
theorem dX7_together_102 : decode cX7_together 102 = .ok (.ireturn, 1) := by decide +kernel
theorem dX7_together_103 : decode cX7_together 103 = .ok (.iload_n 1, 1) := by decide +kernel
theorem dX7_together_104 : decode cX7_together 104 = .ok (.iload_n 2, 1) := by decide +kernel
theorem dX7_together_105 : decode cX7_together 105 = .ok (.if_icmp .ne 7, 3) := by decide +kernel
theorem dX7_together_108 : decode cX7_together 108 = .ok (.iconst 1, 1) := by decide +kernel
theorem dX7_together_109 : decode cX7_together 109 = .ok (.goto 4, 3) := by decide +kernel
theorem dX7_together_112 : decode cX7_together 112 = .ok (.iconst 0, 1) := by decide +kernel
theorem dX7_together_113 : decode cX7_together 113 = .ok (.ireturn, 1) := by decide +kernel
theorem dX7_together_114 : decode cX7_together 114 = .ok (.iload_n 1, 1) := by decide +kernel
theorem dX7_together_115 : decode cX7_together 115 = .ok (.ifCond .eq 11, 3) := by decide +kernel
theorem dX7_together_118 : decode cX7_together 118 = .ok (.iload_n 2, 1) := by decide +kernel
theorem dX7_together_119 : decode cX7_together 119 = .ok (.ifCond .eq 7, 3) := by decide +kernel
theorem dX7_together_122 : decode cX7_together 122 = .ok (.iconst 1, 1) := by decide +kernel
theorem dX7_together_123 : decode cX7_together 123 = .ok (.goto 4, 3) := by decide +kernel
theorem dX7_together_126 : decode cX7_together 126 = .ok (.iconst 0, 1) := by decide +kernel
theorem dX7_together_127 : decode cX7_together 127 = .ok (.ireturn, 1) := by decide +kernel
theorem dX7_together_128 : decode cX7_together 128 = .ok (.iload_n 1, 1) := by decide +kernel
theorem dX7_together_129 : decode cX7_together 129 = .ok (.ifCond .ne 7, 3) := by decide +kernel
theorem dX7_together_132 : decode cX7_together 132 = .ok (.iload_n 2, 1) := by decide +kernel
theorem dX7_together_133 : decode cX7_together 133 = .ok (.ifCond .eq 7, 3) := by decide +kernel
theorem dX7_together_136 : decode cX7_together 136 = .ok (.iconst 1, 1) := by decide +kernel
theorem dX7_together_137 : decode cX7_together 137 = .ok (.goto 4, 3) := by decide +kernel
theorem dX7_together_140 : decode cX7_together 140 = .ok (.iconst 0, 1) := by decide +kernel
theorem dX7_together_141 : decode cX7_together 141 = .ok (.ireturn, 1) := by decide +kernel
theorem dX8_init_0 : decode cX8_init 0 = .ok (.aload_n 0, 1) := by decide +kernel
theorem dX8_init_1 : decode cX8_init 1 = .ok (.invokespecial 3, 3) := by decide +kernel
theorem dX8_init_4 : decode cX8_init 4 = .ok (.aload_n 0, 1) := by decide +kernel
theorem dX8_init_5 : decode cX8_init 5 = .ok (.bipush 8, 2) := by decide +kernel
theorem dX8_init_7 : decode cX8_init 7 = .ok (.newarray .int, 2) := by decide +kernel
theorem dX8_init_9 : decode cX8_init 9 = .ok (.putfield 9, 3) := by decide +kernel
theorem dX8_init_12 : decode cX8_init 12 = .ok (.aload_n 0, 1) := by decide +kernel
theorem dX8_init_13 : decode cX8_init 13 = .ok (.bipush 8, 2) := by decide +kernel
theorem dX8_init_15 : decode cX8_init 15 = .ok (.newarray .int, 2) := by decide +kernel
theorem dX8_init_17 : decode cX8_init 17 = .ok (.putfield 15, 3) := by decide +kernel
theorem dX8_init_20 : decode cX8_init 20 = .ok (.return_, 1) := by decide +kernel
theorem dX8_clear_0 : decode cX8_clear 0 = .ok (.aload_n 0, 1) := by decide +kernel
theorem dX8_clear_1 : decode cX8_clear 1 = .ok (.iconst 0, 1) := by decide +kernel
theorem dX8_clear_2 : decode cX8_clear 2 = .ok (.putfield 18, 3) := by decide +kernel
theorem dX8_clear_5 : decode cX8_clear 5 = .ok (.aload_n 0, 1) := by decide +kernel
theorem dX8_clear_6 : decode cX8_clear 6 = .ok (.iconst 0, 1) := by decide +kernel
theorem dX8_clear_7 : decode cX8_clear 7 = .ok (.putfield 22, 3) := by decide +kernel
theorem dX8_clear_10 : decode cX8_clear 10 = .ok (.return_, 1) := by decide +kernel
theorem dX8_add_0 : decode cX8_add 0 = .ok (.aload_n 0, 1) := by decide +kernel
theorem dX8_add_1 : decode cX8_add 1 = .ok (.getfield 18, 3) := by decide +kernel
theorem dX8_add_4 : decode cX8_add 4 = .ok (.bipush 8, 2) := by decide +kernel
theorem dX8_add_6 : decode cX8_add 6 = .ok (.if_icmp .ge 52, 3) := by decide +kernel
theorem dX8_add_9 : decode cX8_add 9 = .ok (.aload_n 0, 1) := by decide +kernel
theorem dX8_add_10 : decode cX8_add 10 = .ok (.getfield 9, 3) := by decide +kernel
theorem dX8_add_13 : decode cX8_add 13 = .ok (.aload_n 0, 1) := by decide +kernel
theorem dX8_add_14 : decode cX8_add 14 = .ok (.getfield 18, 3) := by decide +kernel
theorem dX8_add_17 : decode cX8_add 17 = .ok (.iload_n 1, 1) := by decide +kernel
theorem dX8_add_18 : decode cX8_add 18 = .ok (.iastore, 1) := by decide +kernel
theorem dX8_add_19 : decode cX8_add 19 = .ok (.aload_n 0, 1) := by decide +kernel
theorem dX8_add_20 : decode cX8_add 20 = .ok (.getfield 15, 3) := by decide +kernel
theorem dX8_add_23 : decode cX8_add 23 = .ok (.aload_n 0, 1) := by decide +kernel
theorem dX8_add_24 : decode cX8_add 24 = .ok (.getfield 18, 3) := by decide +kernel
theorem dX8_add_27 : decode cX8_add 27 = .ok (.iload_n 2, 1) := by decide +kernel
theorem dX8_add_28 : decode cX8_add 28 = .ok (.iastore, 1) := by decide +kernel
theorem dX8_add_29 : decode cX8_add 29 = .ok (.iload_n 3, 1) := by decide +kernel
theorem dX8_add_30 : decode cX8_add 30 = .ok (.ifCond .eq 18, 3) := by decide +kernel
theorem dX8_add_33 : decode cX8_add 33 = .ok (.aload_n 0, 1) := by decide +kernel
theorem dX8_add_34 : decode cX8_add 34 = .ok (.dup, 1) := by decide +kernel
theorem dX8_add_35 : decode cX8_add 35 = .ok (.getfield 22, 3) := by decide +kernel
theorem dX8_add_38 : decode cX8_add 38 = .ok (.iconst 1, 1) := by decide +kernel
theorem dX8_add_39 : decode cX8_add 39 = .ok (.aload_n 0, 1) := by decide +kernel
theorem dX8_add_40 : decode cX8_add 40 = .ok (.getfield 18, 3) := by decide +kernel
theorem dX8_add_43 : decode cX8_add 43 = .ok (.ishl, 1) := by decide +kernel
theorem dX8_add_44 : decode cX8_add 44 = .ok (.ior, 1) := by decide +kernel
theorem dX8_add_45 : decode cX8_add 45 = .ok (.putfield 22, 3) := by decide +kernel
theorem dX8_add_48 : decode cX8_add 48 = .ok (.aload_n 0, 1) := by decide +kernel
theorem dX8_add_49 : decode cX8_add 49 = .ok (.dup, 1) := by decide +kernel
theorem dX8_add_50 : decode cX8_add 50 = .ok (.getfield 18, 3) := by decide +kernel
theorem dX8_add_53 : decode cX8_add 53 = .ok (.iconst 1, 1) := by decide +kernel
theorem dX8_add_54 : decode cX8_add 54 = .ok (.iadd, 1) := by decide +kernel
theorem dX8_add_55 : decode cX8_add 55 = .ok (.putfield 18, 3) := by decide +kernel
theorem dX8_add_58 : decode cX8_add 58 = .ok (.return_, 1) := by decide +kernel
theorem dX8_copyFrom_0 : decode cX8_copyFrom 0 = .ok (.aload_n 0, 1) := by decide +kernel
theorem dX8_copyFrom_1 : decode cX8_copyFrom 1 = .ok (.aload_n 1, 1) := by decide +kernel
theorem dX8_copyFrom_2 : decode cX8_copyFrom 2 = .ok (.getfield 18, 3) := by decide +kernel
theorem dX8_copyFrom_5 : decode cX8_copyFrom 5 = .ok (.putfield 18, 3) := by decide +kernel
theorem dX8_copyFrom_8 : decode cX8_copyFrom 8 = .ok (.aload_n 0, 1) := by decide +kernel
theorem dX8_copyFrom_9 : decode cX8_copyFrom 9 = .ok (.aload_n 1, 1) := by decide +kernel
theorem dX8_copyFrom_10 : decode cX8_copyFrom 10 = .ok (.getfield 22, 3) := by decide +kernel
theorem dX8_copyFrom_13 : decode cX8_copyFrom 13 = .ok (.putfield 22, 3) := by decide +kernel
theorem dX8_copyFrom_16 : decode cX8_copyFrom 16 = .ok (.aload_n 1, 1) := by decide +kernel
theorem dX8_copyFrom_17 : decode cX8_copyFrom 17 = .ok (.getfield 9, 3) := by decide +kernel
theorem dX8_copyFrom_20 : decode cX8_copyFrom 20 = .ok (.iconst 0, 1) := by decide +kernel
theorem dX8_copyFrom_21 : decode cX8_copyFrom 21 = .ok (.aload_n 0, 1) := by decide +kernel
theorem dX8_copyFrom_22 : decode cX8_copyFrom 22 = .ok (.getfield 9, 3) := by decide +kernel
theorem dX8_copyFrom_25 : decode cX8_copyFrom 25 = .ok (.iconst 0, 1) := by decide +kernel
theorem dX8_copyFrom_26 : decode cX8_copyFrom 26 = .ok (.bipush 8, 2) := by decide +kernel
theorem dX8_copyFrom_28 : decode cX8_copyFrom 28 = .ok (.invokestatic 25, 3) := by decide +kernel
theorem dX8_copyFrom_31 : decode cX8_copyFrom 31 = .ok (.aload_n 1, 1) := by decide +kernel
theorem dX8_copyFrom_32 : decode cX8_copyFrom 32 = .ok (.getfield 15, 3) := by decide +kernel
theorem dX8_copyFrom_35 : decode cX8_copyFrom 35 = .ok (.iconst 0, 1) := by decide +kernel
theorem dX8_copyFrom_36 : decode cX8_copyFrom 36 = .ok (.aload_n 0, 1) := by decide +kernel
theorem dX8_copyFrom_37 : decode cX8_copyFrom 37 = .ok (.getfield 15, 3) := by decide +kernel
theorem dX8_copyFrom_40 : decode cX8_copyFrom 40 = .ok (.iconst 0, 1) := by decide +kernel
theorem dX8_copyFrom_41 : decode cX8_copyFrom 41 = .ok (.bipush 8, 2) := by decide +kernel
theorem dX8_copyFrom_43 : decode cX8_copyFrom 43 = .ok (.invokestatic 25, 3) := by decide +kernel
theorem dX8_copyFrom_46 : decode cX8_copyFrom 46 = .ok (.return_, 1) := by decide +kernel
theorem dX8_lastHour_0 : decode cX8_lastHour 0 = .ok (.iconst 0, 1) := by decide +kernel
theorem dX8_lastHour_1 : decode cX8_lastHour 1 = .ok (.istore_n 1, 1) := by decide +kernel
theorem dX8_lastHour_2 : decode cX8_lastHour 2 = .ok (.iconst 0, 1) := by decide +kernel
theorem dX8_lastHour_3 : decode cX8_lastHour 3 = .ok (.istore_n 2, 1) := by decide +kernel
theorem dX8_lastHour_4 : decode cX8_lastHour 4 = .ok (.iload_n 2, 1) := by decide +kernel
theorem dX8_lastHour_5 : decode cX8_lastHour 5 = .ok (.aload_n 0, 1) := by decide +kernel
theorem dX8_lastHour_6 : decode cX8_lastHour 6 = .ok (.getfield 18, 3) := by decide +kernel
theorem dX8_lastHour_9 : decode cX8_lastHour 9 = .ok (.if_icmp .ge 20, 3) := by decide +kernel
theorem dX8_lastHour_12 : decode cX8_lastHour 12 = .ok (.iload_n 1, 1) := by decide +kernel
theorem dX8_lastHour_13 : decode cX8_lastHour 13 = .ok (.aload_n 0, 1) := by decide +kernel
theorem dX8_lastHour_14 : decode cX8_lastHour 14 = .ok (.getfield 15, 3) := by decide +kernel
theorem dX8_lastHour_17 : decode cX8_lastHour 17 = .ok (.iload_n 2, 1) := by decide +kernel
theorem dX8_lastHour_18 : decode cX8_lastHour 18 = .ok (.iaload, 1) := by decide +kernel
theorem dX8_lastHour_19 : decode cX8_lastHour 19 = .ok (.invokestatic 31, 3) := by decide +kernel
theorem dX8_lastHour_22 : decode cX8_lastHour 22 = .ok (.istore_n 1, 1) := by decide +kernel
theorem dX8_lastHour_23 : decode cX8_lastHour 23 = .ok (.iinc 2 1, 3) := by decide +kernel
theorem dX8_lastHour_26 : decode cX8_lastHour 26 = .ok (.goto (-22), 3) := by decide +kernel
theorem dX8_lastHour_29 : decode cX8_lastHour 29 = .ok (.iload_n 1, 1) := by decide +kernel
theorem dX8_lastHour_30 : decode cX8_lastHour 30 = .ok (.ireturn, 1) := by decide +kernel
theorem dX8_agree_0 : decode cX8_agree 0 = .ok (.iconst 0, 1) := by decide +kernel
theorem dX8_agree_1 : decode cX8_agree 1 = .ok (.istore_n 3, 1) := by decide +kernel
theorem dX8_agree_2 : decode cX8_agree 2 = .ok (.iload_n 3, 1) := by decide +kernel
theorem dX8_agree_3 : decode cX8_agree 3 = .ok (.aload_n 0, 1) := by decide +kernel
theorem dX8_agree_4 : decode cX8_agree 4 = .ok (.getfield 18, 3) := by decide +kernel
theorem dX8_agree_7 : decode cX8_agree 7 = .ok (.if_icmp .ge 42, 3) := by decide +kernel
theorem dX8_agree_10 : decode cX8_agree 10 = .ok (.aload_n 0, 1) := by decide +kernel
theorem dX8_agree_11 : decode cX8_agree 11 = .ok (.getfield 15, 3) := by decide +kernel
theorem dX8_agree_14 : decode cX8_agree 14 = .ok (.iload_n 3, 1) := by decide +kernel
theorem dX8_agree_15 : decode cX8_agree 15 = .ok (.iaload, 1) := by decide +kernel
theorem dX8_agree_16 : decode cX8_agree 16 = .ok (.iload_n 1, 1) := by decide +kernel
theorem dX8_agree_17 : decode cX8_agree 17 = .ok (.if_icmp .ne 26, 3) := by decide +kernel
theorem dX8_agree_20 : decode cX8_agree 20 = .ok (.iload_n 2, 1) := by decide +kernel
theorem dX8_agree_21 : decode cX8_agree 21 = .ok (.aload_n 0, 1) := by decide +kernel
theorem dX8_agree_22 : decode cX8_agree 22 = .ok (.getfield 9, 3) := by decide +kernel
theorem dX8_agree_25 : decode cX8_agree 25 = .ok (.iload_n 3, 1) := by decide +kernel
theorem dX8_agree_26 : decode cX8_agree 26 = .ok (.iaload, 1) := by decide +kernel
theorem dX8_agree_27 : decode cX8_agree 27 = .ok (.ishr, 1) := by decide +kernel
theorem dX8_agree_28 : decode cX8_agree 28 = .ok (.iconst 1, 1) := by decide +kernel
theorem dX8_agree_29 : decode cX8_agree 29 = .ok (.iand, 1) := by decide +kernel
theorem dX8_agree_30 : decode cX8_agree 30 = .ok (.aload_n 0, 1) := by decide +kernel
theorem dX8_agree_31 : decode cX8_agree 31 = .ok (.getfield 22, 3) := by decide +kernel
theorem dX8_agree_34 : decode cX8_agree 34 = .ok (.iload_n 3, 1) := by decide +kernel
theorem dX8_agree_35 : decode cX8_agree 35 = .ok (.ishr, 1) := by decide +kernel
theorem dX8_agree_36 : decode cX8_agree 36 = .ok (.iconst 1, 1) := by decide +kernel
theorem dX8_agree_37 : decode cX8_agree 37 = .ok (.iand, 1) := by decide +kernel
theorem dX8_agree_38 : decode cX8_agree 38 = .ok (.if_icmp .eq 5, 3) := by decide +kernel
theorem dX8_agree_41 : decode cX8_agree 41 = .ok (.iconst 0, 1) := by decide +kernel
theorem dX8_agree_42 : decode cX8_agree 42 = .ok (.ireturn, 1) := by decide +kernel
theorem dX8_agree_43 : decode cX8_agree 43 = .ok (.iinc 3 1, 3) := by decide +kernel
theorem dX8_agree_46 : decode cX8_agree 46 = .ok (.goto (-44), 3) := by decide +kernel
theorem dX8_agree_49 : decode cX8_agree 49 = .ok (.iconst 1, 1) := by decide +kernel
theorem dX8_agree_50 : decode cX8_agree 50 = .ok (.ireturn, 1) := by decide +kernel
theorem dX9_init_0 : decode cX9_init 0 = .ok (.aload_n 0, 1) := by decide +kernel
theorem dX9_init_1 : decode cX9_init 1 = .ok (.invokespecial 3, 3) := by decide +kernel
theorem dX9_init_4 : decode cX9_init 4 = .ok (.aload_n 0, 1) := by decide +kernel
theorem dX9_init_5 : decode cX9_init 5 = .ok (.bipush 8, 2) := by decide +kernel
theorem dX9_init_7 : decode cX9_init 7 = .ok (.newarray .int, 2) := by decide +kernel
theorem dX9_init_9 : decode cX9_init 9 = .ok (.putfield 9, 3) := by decide +kernel
theorem dX9_init_12 : decode cX9_init 12 = .ok (.aload_n 0, 1) := by decide +kernel
theorem dX9_init_13 : decode cX9_init 13 = .ok (.bipush 8, 2) := by decide +kernel
theorem dX9_init_15 : decode cX9_init 15 = .ok (.newarray .int, 2) := by decide +kernel
theorem dX9_init_17 : decode cX9_init 17 = .ok (.putfield 15, 3) := by decide +kernel
theorem dX9_init_20 : decode cX9_init 20 = .ok (.aload_n 0, 1) := by decide +kernel
theorem dX9_init_21 : decode cX9_init 21 = .ok (.bipush 8, 2) := by decide +kernel
theorem dX9_init_23 : decode cX9_init 23 = .ok (.newarray .int, 2) := by decide +kernel
theorem dX9_init_25 : decode cX9_init 25 = .ok (.putfield 18, 3) := by decide +kernel
theorem dX9_init_28 : decode cX9_init 28 = .ok (.aload_n 0, 1) := by decide +kernel
theorem dX9_init_29 : decode cX9_init 29 = .ok (.bipush 12, 2) := by decide +kernel
theorem dX9_init_31 : decode cX9_init 31 = .ok (.newarray .int, 2) := by decide +kernel
theorem dX9_init_33 : decode cX9_init 33 = .ok (.putfield 21, 3) := by decide +kernel
theorem dX9_init_36 : decode cX9_init 36 = .ok (.aload_n 0, 1) := by decide +kernel
theorem dX9_init_37 : decode cX9_init 37 = .ok (.bipush 12, 2) := by decide +kernel
theorem dX9_init_39 : decode cX9_init 39 = .ok (.newarray .int, 2) := by decide +kernel
theorem dX9_init_41 : decode cX9_init 41 = .ok (.putfield 24, 3) := by decide +kernel
theorem dX9_init_44 : decode cX9_init 44 = .ok (.aload_n 0, 1) := by decide +kernel
theorem dX9_init_45 : decode cX9_init 45 = .ok (.bipush 12, 2) := by decide +kernel
theorem dX9_init_47 : decode cX9_init 47 = .ok (.newarray .int, 2) := by decide +kernel
theorem dX9_init_49 : decode cX9_init 49 = .ok (.putfield 27, 3) := by decide +kernel
theorem dX9_init_52 : decode cX9_init 52 = .ok (.return_, 1) := by decide +kernel
theorem dX9_clear_0 : decode cX9_clear 0 = .ok (.aload_n 0, 1) := by decide +kernel
theorem dX9_clear_1 : decode cX9_clear 1 = .ok (.iconst 0, 1) := by decide +kernel
theorem dX9_clear_2 : decode cX9_clear 2 = .ok (.putfield 30, 3) := by decide +kernel
theorem dX9_clear_5 : decode cX9_clear 5 = .ok (.aload_n 0, 1) := by decide +kernel
theorem dX9_clear_6 : decode cX9_clear 6 = .ok (.iconst 0, 1) := by decide +kernel
theorem dX9_clear_7 : decode cX9_clear 7 = .ok (.putfield 34, 3) := by decide +kernel
theorem dX9_clear_10 : decode cX9_clear 10 = .ok (.aload_n 0, 1) := by decide +kernel
theorem dX9_clear_11 : decode cX9_clear 11 = .ok (.iconst 0, 1) := by decide +kernel
theorem dX9_clear_12 : decode cX9_clear 12 = .ok (.putfield 37, 3) := by decide +kernel
theorem dX9_clear_15 : decode cX9_clear 15 = .ok (.aload_n 0, 1) := by decide +kernel
theorem dX9_clear_16 : decode cX9_clear 16 = .ok (.iconst 0, 1) := by decide +kernel
theorem dX9_clear_17 : decode cX9_clear 17 = .ok (.putfield 40, 3) := by decide +kernel
theorem dX9_clear_20 : decode cX9_clear 20 = .ok (.aload_n 0, 1) := by decide +kernel
theorem dX9_clear_21 : decode cX9_clear 21 = .ok (.iconst 0, 1) := by decide +kernel
theorem dX9_clear_22 : decode cX9_clear 22 = .ok (.putfield 43, 3) := by decide +kernel
theorem dX9_clear_25 : decode cX9_clear 25 = .ok (.return_, 1) := by decide +kernel
theorem dX9_copyFrom_0 : decode cX9_copyFrom 0 = .ok (.aload_n 0, 1) := by decide +kernel
theorem dX9_copyFrom_1 : decode cX9_copyFrom 1 = .ok (.aload_n 1, 1) := by decide +kernel
theorem dX9_copyFrom_2 : decode cX9_copyFrom 2 = .ok (.getfield 30, 3) := by decide +kernel
theorem dX9_copyFrom_5 : decode cX9_copyFrom 5 = .ok (.putfield 30, 3) := by decide +kernel
theorem dX9_copyFrom_8 : decode cX9_copyFrom 8 = .ok (.aload_n 0, 1) := by decide +kernel
theorem dX9_copyFrom_9 : decode cX9_copyFrom 9 = .ok (.aload_n 1, 1) := by decide +kernel
theorem dX9_copyFrom_10 : decode cX9_copyFrom 10 = .ok (.getfield 34, 3) := by decide +kernel
theorem dX9_copyFrom_13 : decode cX9_copyFrom 13 = .ok (.putfield 34, 3) := by decide +kernel
theorem dX9_copyFrom_16 : decode cX9_copyFrom 16 = .ok (.aload_n 0, 1) := by decide +kernel
theorem dX9_copyFrom_17 : decode cX9_copyFrom 17 = .ok (.aload_n 1, 1) := by decide +kernel
theorem dX9_copyFrom_18 : decode cX9_copyFrom 18 = .ok (.getfield 37, 3) := by decide +kernel
theorem dX9_copyFrom_21 : decode cX9_copyFrom 21 = .ok (.putfield 37, 3) := by decide +kernel
theorem dX9_copyFrom_24 : decode cX9_copyFrom 24 = .ok (.aload_n 0, 1) := by decide +kernel
theorem dX9_copyFrom_25 : decode cX9_copyFrom 25 = .ok (.aload_n 1, 1) := by decide +kernel
theorem dX9_copyFrom_26 : decode cX9_copyFrom 26 = .ok (.getfield 40, 3) := by decide +kernel
theorem dX9_copyFrom_29 : decode cX9_copyFrom 29 = .ok (.putfield 40, 3) := by decide +kernel
theorem dX9_copyFrom_32 : decode cX9_copyFrom 32 = .ok (.aload_n 0, 1) := by decide +kernel
theorem dX9_copyFrom_33 : decode cX9_copyFrom 33 = .ok (.aload_n 1, 1) := by decide +kernel
theorem dX9_copyFrom_34 : decode cX9_copyFrom 34 = .ok (.getfield 43, 3) := by decide +kernel
theorem dX9_copyFrom_37 : decode cX9_copyFrom 37 = .ok (.putfield 43, 3) := by decide +kernel
theorem dX9_copyFrom_40 : decode cX9_copyFrom 40 = .ok (.aload_n 1, 1) := by decide +kernel
theorem dX9_copyFrom_41 : decode cX9_copyFrom 41 = .ok (.getfield 9, 3) := by decide +kernel
theorem dX9_copyFrom_44 : decode cX9_copyFrom 44 = .ok (.iconst 0, 1) := by decide +kernel
theorem dX9_copyFrom_45 : decode cX9_copyFrom 45 = .ok (.aload_n 0, 1) := by decide +kernel
theorem dX9_copyFrom_46 : decode cX9_copyFrom 46 = .ok (.getfield 9, 3) := by decide +kernel
theorem dX9_copyFrom_49 : decode cX9_copyFrom 49 = .ok (.iconst 0, 1) := by decide +kernel
theorem dX9_copyFrom_50 : decode cX9_copyFrom 50 = .ok (.bipush 8, 2) := by decide +kernel
theorem dX9_copyFrom_52 : decode cX9_copyFrom 52 = .ok (.invokestatic 46, 3) := by decide +kernel
theorem dX9_copyFrom_55 : decode cX9_copyFrom 55 = .ok (.aload_n 1, 1) := by decide +kernel
theorem dX9_copyFrom_56 : decode cX9_copyFrom 56 = .ok (.getfield 15, 3) := by decide +kernel
theorem dX9_copyFrom_59 : decode cX9_copyFrom 59 = .ok (.iconst 0, 1) := by decide +kernel
theorem dX9_copyFrom_60 : decode cX9_copyFrom 60 = .ok (.aload_n 0, 1) := by decide +kernel
theorem dX9_copyFrom_61 : decode cX9_copyFrom 61 = .ok (.getfield 15, 3) := by decide +kernel
theorem dX9_copyFrom_64 : decode cX9_copyFrom 64 = .ok (.iconst 0, 1) := by decide +kernel
theorem dX9_copyFrom_65 : decode cX9_copyFrom 65 = .ok (.bipush 8, 2) := by decide +kernel
theorem dX9_copyFrom_67 : decode cX9_copyFrom 67 = .ok (.invokestatic 46, 3) := by decide +kernel
theorem dX9_copyFrom_70 : decode cX9_copyFrom 70 = .ok (.aload_n 1, 1) := by decide +kernel
theorem dX9_copyFrom_71 : decode cX9_copyFrom 71 = .ok (.getfield 18, 3) := by decide +kernel
theorem dX9_copyFrom_74 : decode cX9_copyFrom 74 = .ok (.iconst 0, 1) := by decide +kernel
theorem dX9_copyFrom_75 : decode cX9_copyFrom 75 = .ok (.aload_n 0, 1) := by decide +kernel
theorem dX9_copyFrom_76 : decode cX9_copyFrom 76 = .ok (.getfield 18, 3) := by decide +kernel
theorem dX9_copyFrom_79 : decode cX9_copyFrom 79 = .ok (.iconst 0, 1) := by decide +kernel
theorem dX9_copyFrom_80 : decode cX9_copyFrom 80 = .ok (.bipush 8, 2) := by decide +kernel
theorem dX9_copyFrom_82 : decode cX9_copyFrom 82 = .ok (.invokestatic 46, 3) := by decide +kernel
theorem dX9_copyFrom_85 : decode cX9_copyFrom 85 = .ok (.aload_n 1, 1) := by decide +kernel
theorem dX9_copyFrom_86 : decode cX9_copyFrom 86 = .ok (.getfield 21, 3) := by decide +kernel
theorem dX9_copyFrom_89 : decode cX9_copyFrom 89 = .ok (.iconst 0, 1) := by decide +kernel
theorem dX9_copyFrom_90 : decode cX9_copyFrom 90 = .ok (.aload_n 0, 1) := by decide +kernel
theorem dX9_copyFrom_91 : decode cX9_copyFrom 91 = .ok (.getfield 21, 3) := by decide +kernel
theorem dX9_copyFrom_94 : decode cX9_copyFrom 94 = .ok (.iconst 0, 1) := by decide +kernel
theorem dX9_copyFrom_95 : decode cX9_copyFrom 95 = .ok (.bipush 12, 2) := by decide +kernel
theorem dX9_copyFrom_97 : decode cX9_copyFrom 97 = .ok (.invokestatic 46, 3) := by decide +kernel
theorem dX9_copyFrom_100 : decode cX9_copyFrom 100 = .ok (.aload_n 1, 1) := by decide +kernel
theorem dX9_copyFrom_101 : decode cX9_copyFrom 101 = .ok (.getfield 24, 3) := by decide +kernel
theorem dX9_copyFrom_104 : decode cX9_copyFrom 104 = .ok (.iconst 0, 1) := by decide +kernel
theorem dX9_copyFrom_105 : decode cX9_copyFrom 105 = .ok (.aload_n 0, 1) := by decide +kernel
theorem dX9_copyFrom_106 : decode cX9_copyFrom 106 = .ok (.getfield 24, 3) := by decide +kernel
theorem dX9_copyFrom_109 : decode cX9_copyFrom 109 = .ok (.iconst 0, 1) := by decide +kernel
theorem dX9_copyFrom_110 : decode cX9_copyFrom 110 = .ok (.bipush 12, 2) := by decide +kernel
theorem dX9_copyFrom_112 : decode cX9_copyFrom 112 = .ok (.invokestatic 46, 3) := by decide +kernel
theorem dX9_copyFrom_115 : decode cX9_copyFrom 115 = .ok (.aload_n 1, 1) := by decide +kernel
theorem dX9_copyFrom_116 : decode cX9_copyFrom 116 = .ok (.getfield 27, 3) := by decide +kernel
theorem dX9_copyFrom_119 : decode cX9_copyFrom 119 = .ok (.iconst 0, 1) := by decide +kernel
theorem dX9_copyFrom_120 : decode cX9_copyFrom 120 = .ok (.aload_n 0, 1) := by decide +kernel
theorem dX9_copyFrom_121 : decode cX9_copyFrom 121 = .ok (.getfield 27, 3) := by decide +kernel
theorem dX9_copyFrom_124 : decode cX9_copyFrom 124 = .ok (.iconst 0, 1) := by decide +kernel
theorem dX9_copyFrom_125 : decode cX9_copyFrom 125 = .ok (.bipush 12, 2) := by decide +kernel
theorem dX9_copyFrom_127 : decode cX9_copyFrom 127 = .ok (.invokestatic 46, 3) := by decide +kernel
theorem dX9_copyFrom_130 : decode cX9_copyFrom 130 = .ok (.return_, 1) := by decide +kernel
theorem dX9_addHouse_0 : decode cX9_addHouse 0 = .ok (.aload_n 0, 1) := by decide +kernel
theorem dX9_addHouse_1 : decode cX9_addHouse 1 = .ok (.getfield 30, 3) := by decide +kernel
theorem dX9_addHouse_4 : decode cX9_addHouse 4 = .ok (.bipush 8, 2) := by decide +kernel
theorem dX9_addHouse_6 : decode cX9_addHouse 6 = .ok (.if_icmp .ge 43, 3) := by decide +kernel
theorem dX9_addHouse_9 : decode cX9_addHouse 9 = .ok (.aload_n 0, 1) := by decide +kernel
theorem dX9_addHouse_10 : decode cX9_addHouse 10 = .ok (.getfield 9, 3) := by decide +kernel
theorem dX9_addHouse_13 : decode cX9_addHouse 13 = .ok (.aload_n 0, 1) := by decide +kernel
theorem dX9_addHouse_14 : decode cX9_addHouse 14 = .ok (.getfield 30, 3) := by decide +kernel
theorem dX9_addHouse_17 : decode cX9_addHouse 17 = .ok (.iload_n 1, 1) := by decide +kernel
theorem dX9_addHouse_18 : decode cX9_addHouse 18 = .ok (.iastore, 1) := by decide +kernel
theorem dX9_addHouse_19 : decode cX9_addHouse 19 = .ok (.aload_n 0, 1) := by decide +kernel
theorem dX9_addHouse_20 : decode cX9_addHouse 20 = .ok (.getfield 15, 3) := by decide +kernel
theorem dX9_addHouse_23 : decode cX9_addHouse 23 = .ok (.aload_n 0, 1) := by decide +kernel
theorem dX9_addHouse_24 : decode cX9_addHouse 24 = .ok (.getfield 30, 3) := by decide +kernel
theorem dX9_addHouse_27 : decode cX9_addHouse 27 = .ok (.iload_n 2, 1) := by decide +kernel
theorem dX9_addHouse_28 : decode cX9_addHouse 28 = .ok (.iastore, 1) := by decide +kernel
theorem dX9_addHouse_29 : decode cX9_addHouse 29 = .ok (.aload_n 0, 1) := by decide +kernel
theorem dX9_addHouse_30 : decode cX9_addHouse 30 = .ok (.getfield 18, 3) := by decide +kernel
theorem dX9_addHouse_33 : decode cX9_addHouse 33 = .ok (.aload_n 0, 1) := by decide +kernel
theorem dX9_addHouse_34 : decode cX9_addHouse 34 = .ok (.getfield 30, 3) := by decide +kernel
theorem dX9_addHouse_37 : decode cX9_addHouse 37 = .ok (.iload_n 3, 1) := by decide +kernel
theorem dX9_addHouse_38 : decode cX9_addHouse 38 = .ok (.iastore, 1) := by decide +kernel
theorem dX9_addHouse_39 : decode cX9_addHouse 39 = .ok (.aload_n 0, 1) := by decide +kernel
theorem dX9_addHouse_40 : decode cX9_addHouse 40 = .ok (.dup, 1) := by decide +kernel
theorem dX9_addHouse_41 : decode cX9_addHouse 41 = .ok (.getfield 30, 3) := by decide +kernel
theorem dX9_addHouse_44 : decode cX9_addHouse 44 = .ok (.iconst 1, 1) := by decide +kernel
theorem dX9_addHouse_45 : decode cX9_addHouse 45 = .ok (.iadd, 1) := by decide +kernel
theorem dX9_addHouse_46 : decode cX9_addHouse 46 = .ok (.putfield 30, 3) := by decide +kernel
theorem dX9_addHouse_49 : decode cX9_addHouse 49 = .ok (.return_, 1) := by decide +kernel
theorem dX9_addLamp_0 : decode cX9_addLamp 0 = .ok (.aload_n 0, 1) := by decide +kernel
theorem dX9_addLamp_1 : decode cX9_addLamp 1 = .ok (.getfield 34, 3) := by decide +kernel
theorem dX9_addLamp_4 : decode cX9_addLamp 4 = .ok (.bipush 12, 2) := by decide +kernel
theorem dX9_addLamp_6 : decode cX9_addLamp 6 = .ok (.if_icmp .ge 43, 3) := by decide +kernel
theorem dX9_addLamp_9 : decode cX9_addLamp 9 = .ok (.aload_n 0, 1) := by decide +kernel
theorem dX9_addLamp_10 : decode cX9_addLamp 10 = .ok (.getfield 21, 3) := by decide +kernel
theorem dX9_addLamp_13 : decode cX9_addLamp 13 = .ok (.aload_n 0, 1) := by decide +kernel
theorem dX9_addLamp_14 : decode cX9_addLamp 14 = .ok (.getfield 34, 3) := by decide +kernel
theorem dX9_addLamp_17 : decode cX9_addLamp 17 = .ok (.iload_n 1, 1) := by decide +kernel
theorem dX9_addLamp_18 : decode cX9_addLamp 18 = .ok (.iastore, 1) := by decide +kernel
theorem dX9_addLamp_19 : decode cX9_addLamp 19 = .ok (.aload_n 0, 1) := by decide +kernel
theorem dX9_addLamp_20 : decode cX9_addLamp 20 = .ok (.getfield 24, 3) := by decide +kernel
theorem dX9_addLamp_23 : decode cX9_addLamp 23 = .ok (.aload_n 0, 1) := by decide +kernel
theorem dX9_addLamp_24 : decode cX9_addLamp 24 = .ok (.getfield 34, 3) := by decide +kernel
theorem dX9_addLamp_27 : decode cX9_addLamp 27 = .ok (.iload_n 2, 1) := by decide +kernel
theorem dX9_addLamp_28 : decode cX9_addLamp 28 = .ok (.iastore, 1) := by decide +kernel
theorem dX9_addLamp_29 : decode cX9_addLamp 29 = .ok (.aload_n 0, 1) := by decide +kernel
theorem dX9_addLamp_30 : decode cX9_addLamp 30 = .ok (.getfield 27, 3) := by decide +kernel
theorem dX9_addLamp_33 : decode cX9_addLamp 33 = .ok (.aload_n 0, 1) := by decide +kernel
theorem dX9_addLamp_34 : decode cX9_addLamp 34 = .ok (.getfield 34, 3) := by decide +kernel
theorem dX9_addLamp_37 : decode cX9_addLamp 37 = .ok (.iconst (-1), 1) := by decide +kernel
theorem dX9_addLamp_38 : decode cX9_addLamp 38 = .ok (.iastore, 1) := by decide +kernel
theorem dX9_addLamp_39 : decode cX9_addLamp 39 = .ok (.aload_n 0, 1) := by decide +kernel
theorem dX9_addLamp_40 : decode cX9_addLamp 40 = .ok (.dup, 1) := by decide +kernel
theorem dX9_addLamp_41 : decode cX9_addLamp 41 = .ok (.getfield 34, 3) := by decide +kernel
theorem dX9_addLamp_44 : decode cX9_addLamp 44 = .ok (.iconst 1, 1) := by decide +kernel
theorem dX9_addLamp_45 : decode cX9_addLamp 45 = .ok (.iadd, 1) := by decide +kernel
theorem dX9_addLamp_46 : decode cX9_addLamp 46 = .ok (.putfield 34, 3) := by decide +kernel
theorem dX9_addLamp_49 : decode cX9_addLamp 49 = .ok (.return_, 1) := by decide +kernel
theorem dX9_isLit_0 : decode cX9_isLit 0 = .ok (.aload_n 0, 1) := by decide +kernel
theorem dX9_isLit_1 : decode cX9_isLit 1 = .ok (.getfield 40, 3) := by decide +kernel
theorem dX9_isLit_4 : decode cX9_isLit 4 = .ok (.iload_n 1, 1) := by decide +kernel
theorem dX9_isLit_5 : decode cX9_isLit 5 = .ok (.ishr, 1) := by decide +kernel
theorem dX9_isLit_6 : decode cX9_isLit 6 = .ok (.iconst 1, 1) := by decide +kernel
theorem dX9_isLit_7 : decode cX9_isLit 7 = .ok (.iand, 1) := by decide +kernel
theorem dX9_isLit_8 : decode cX9_isLit 8 = .ok (.iconst 1, 1) := by decide +kernel
theorem dX9_isLit_9 : decode cX9_isLit 9 = .ok (.if_icmp .ne 7, 3) := by decide +kernel
theorem dX9_isLit_12 : decode cX9_isLit 12 = .ok (.iconst 1, 1) := by decide +kernel
theorem dX9_isLit_13 : decode cX9_isLit 13 = .ok (.goto 4, 3) := by decide +kernel
theorem dX9_isLit_16 : decode cX9_isLit 16 = .ok (.iconst 0, 1) := by decide +kernel
theorem dX9_isLit_17 : decode cX9_isLit 17 = .ok (.ireturn, 1) := by decide +kernel
theorem dX9_isBroken_0 : decode cX9_isBroken 0 = .ok (.aload_n 0, 1) := by decide +kernel
theorem dX9_isBroken_1 : decode cX9_isBroken 1 = .ok (.getfield 43, 3) := by decide +kernel
theorem dX9_isBroken_4 : decode cX9_isBroken 4 = .ok (.iload_n 1, 1) := by decide +kernel
theorem dX9_isBroken_5 : decode cX9_isBroken 5 = .ok (.ishr, 1) := by decide +kernel
theorem dX9_isBroken_6 : decode cX9_isBroken 6 = .ok (.iconst 1, 1) := by decide +kernel
theorem dX9_isBroken_7 : decode cX9_isBroken 7 = .ok (.iand, 1) := by decide +kernel
theorem dX9_isBroken_8 : decode cX9_isBroken 8 = .ok (.iconst 1, 1) := by decide +kernel
theorem dX9_isBroken_9 : decode cX9_isBroken 9 = .ok (.if_icmp .ne 7, 3) := by decide +kernel
theorem dX9_isBroken_12 : decode cX9_isBroken 12 = .ok (.iconst 1, 1) := by decide +kernel
theorem dX9_isBroken_13 : decode cX9_isBroken 13 = .ok (.goto 4, 3) := by decide +kernel
theorem dX9_isBroken_16 : decode cX9_isBroken 16 = .ok (.iconst 0, 1) := by decide +kernel
theorem dX9_isBroken_17 : decode cX9_isBroken 17 = .ok (.ireturn, 1) := by decide +kernel
theorem dX9_isAwake_0 : decode cX9_isAwake 0 = .ok (.aload_n 0, 1) := by decide +kernel
theorem dX9_isAwake_1 : decode cX9_isAwake 1 = .ok (.getfield 15, 3) := by decide +kernel
theorem dX9_isAwake_4 : decode cX9_isAwake 4 = .ok (.iload_n 1, 1) := by decide +kernel
theorem dX9_isAwake_5 : decode cX9_isAwake 5 = .ok (.iaload, 1) := by decide +kernel
theorem dX9_isAwake_6 : decode cX9_isAwake 6 = .ok (.istore_n 3, 1) := by decide +kernel
theorem dX9_isAwake_7 : decode cX9_isAwake 7 = .ok (.aload_n 0, 1) := by decide +kernel
theorem dX9_isAwake_8 : decode cX9_isAwake 8 = .ok (.getfield 18, 3) := by decide +kernel
theorem dX9_isAwake_11 : decode cX9_isAwake 11 = .ok (.iload_n 1, 1) := by decide +kernel
theorem dX9_isAwake_12 : decode cX9_isAwake 12 = .ok (.iaload, 1) := by decide +kernel
theorem dX9_isAwake_13 : decode cX9_isAwake 13 = .ok (.istore 4, 2) := by decide +kernel
theorem dX9_isAwake_15 : decode cX9_isAwake 15 = .ok (.iload_n 3, 1) := by decide +kernel
theorem dX9_isAwake_16 : decode cX9_isAwake 16 = .ok (.iload 4, 2) := by decide +kernel
theorem dX9_isAwake_18 : decode cX9_isAwake 18 = .ok (.if_icmp .ne 5, 3) := by decide +kernel
theorem dX9_isAwake_21 : decode cX9_isAwake 21 = .ok (.iconst 1, 1) := by decide +kernel
theorem dX9_isAwake_22 : decode cX9_isAwake 22 = .ok (.ireturn, 1) := by decide +kernel
theorem dX9_isAwake_23 : decode cX9_isAwake 23 = .ok (.iload_n 3, 1) := by decide +kernel
theorem dX9_isAwake_24 : decode cX9_isAwake 24 = .ok (.iload 4, 2) := by decide +kernel
theorem dX9_isAwake_26 : decode cX9_isAwake 26 = .ok (.if_icmp .ge 20, 3) := by decide +kernel
theorem dX9_isAwake_29 : decode cX9_isAwake 29 = .ok (.iload_n 2, 1) := by decide +kernel
theorem dX9_isAwake_30 : decode cX9_isAwake 30 = .ok (.iload_n 3, 1) := by decide +kernel
theorem dX9_isAwake_31 : decode cX9_isAwake 31 = .ok (.if_icmp .lt 13, 3) := by decide +kernel
theorem dX9_isAwake_34 : decode cX9_isAwake 34 = .ok (.iload_n 2, 1) := by decide +kernel
theorem dX9_isAwake_35 : decode cX9_isAwake 35 = .ok (.iload 4, 2) := by decide +kernel
theorem dX9_isAwake_37 : decode cX9_isAwake 37 = .ok (.if_icmp .ge 7, 3) := by decide +kernel
theorem dX9_isAwake_40 : decode cX9_isAwake 40 = .ok (.iconst 1, 1) := by decide +kernel
theorem dX9_isAwake_41 : decode cX9_isAwake 41 = .ok (.goto 4, 3) := by decide +kernel
theorem dX9_isAwake_44 : decode cX9_isAwake 44 = .ok (.iconst 0, 1) := by decide +kernel
theorem dX9_isAwake_45 : decode cX9_isAwake 45 = .ok (.ireturn, 1) := by decide +kernel
theorem dX9_isAwake_46 : decode cX9_isAwake 46 = .ok (.iload_n 2, 1) := by decide +kernel
theorem dX9_isAwake_47 : decode cX9_isAwake 47 = .ok (.iload_n 3, 1) := by decide +kernel
theorem dX9_isAwake_48 : decode cX9_isAwake 48 = .ok (.if_icmp .ge 9, 3) := by decide +kernel
theorem dX9_isAwake_51 : decode cX9_isAwake 51 = .ok (.iload_n 2, 1) := by decide +kernel
theorem dX9_isAwake_52 : decode cX9_isAwake 52 = .ok (.iload 4, 2) := by decide +kernel
theorem dX9_isAwake_54 : decode cX9_isAwake 54 = .ok (.if_icmp .ge 7, 3) := by decide +kernel
theorem dX9_isAwake_57 : decode cX9_isAwake 57 = .ok (.iconst 1, 1) := by decide +kernel
theorem dX9_isAwake_58 : decode cX9_isAwake 58 = .ok (.goto 4, 3) := by decide +kernel
theorem dX9_isAwake_61 : decode cX9_isAwake 61 = .ok (.iconst 0, 1) := by decide +kernel
theorem dX9_isAwake_62 : decode cX9_isAwake 62 = .ok (.ireturn, 1) := by decide +kernel
theorem dX9_hoursAwake_0 : decode cX9_hoursAwake 0 = .ok (.iconst 0, 1) := by decide +kernel
theorem dX9_hoursAwake_1 : decode cX9_hoursAwake 1 = .ok (.istore_n 2, 1) := by decide +kernel
theorem dX9_hoursAwake_2 : decode cX9_hoursAwake 2 = .ok (.iconst 0, 1) := by decide +kernel
theorem dX9_hoursAwake_3 : decode cX9_hoursAwake 3 = .ok (.istore_n 3, 1) := by decide +kernel
theorem dX9_hoursAwake_4 : decode cX9_hoursAwake 4 = .ok (.iload_n 3, 1) := by decide +kernel
theorem dX9_hoursAwake_5 : decode cX9_hoursAwake 5 = .ok (.bipush 24, 2) := by decide +kernel
theorem dX9_hoursAwake_7 : decode cX9_hoursAwake 7 = .ok (.if_icmp .ge 24, 3) := by decide +kernel
theorem dX9_hoursAwake_10 : decode cX9_hoursAwake 10 = .ok (.aload_n 0, 1) := by decide +kernel
theorem dX9_hoursAwake_11 : decode cX9_hoursAwake 11 = .ok (.iload_n 1, 1) := by decide +kernel
theorem dX9_hoursAwake_12 : decode cX9_hoursAwake 12 = .ok (.iload_n 3, 1) := by decide +kernel
theorem dX9_hoursAwake_13 : decode cX9_hoursAwake 13 = .ok (.invokevirtual 52, 3) := by decide +kernel
theorem dX9_hoursAwake_16 : decode cX9_hoursAwake 16 = .ok (.ifCond .eq 9, 3) := by decide +kernel
theorem dX9_hoursAwake_19 : decode cX9_hoursAwake 19 = .ok (.iload_n 2, 1) := by decide +kernel
theorem dX9_hoursAwake_20 : decode cX9_hoursAwake 20 = .ok (.iconst 1, 1) := by decide +kernel
theorem dX9_hoursAwake_21 : decode cX9_hoursAwake 21 = .ok (.iload_n 3, 1) := by decide +kernel
theorem dX9_hoursAwake_22 : decode cX9_hoursAwake 22 = .ok (.ishl, 1) := by decide +kernel
theorem dX9_hoursAwake_23 : decode cX9_hoursAwake 23 = .ok (.ior, 1) := by decide +kernel
theorem dX9_hoursAwake_24 : decode cX9_hoursAwake 24 = .ok (.istore_n 2, 1) := by decide +kernel
theorem dX9_hoursAwake_25 : decode cX9_hoursAwake 25 = .ok (.iinc 3 1, 3) := by decide +kernel
theorem dX9_hoursAwake_28 : decode cX9_hoursAwake 28 = .ok (.goto (-24), 3) := by decide +kernel
theorem dX9_hoursAwake_31 : decode cX9_hoursAwake 31 = .ok (.iload_n 2, 1) := by decide +kernel
theorem dX9_hoursAwake_32 : decode cX9_hoursAwake 32 = .ok (.ireturn, 1) := by decide +kernel
theorem dX9_awakeHouses_0 : decode cX9_awakeHouses 0 = .ok (.iconst 0, 1) := by decide +kernel
theorem dX9_awakeHouses_1 : decode cX9_awakeHouses 1 = .ok (.istore_n 2, 1) := by decide +kernel
theorem dX9_awakeHouses_2 : decode cX9_awakeHouses 2 = .ok (.iconst 0, 1) := by decide +kernel
theorem dX9_awakeHouses_3 : decode cX9_awakeHouses 3 = .ok (.istore_n 3, 1) := by decide +kernel
theorem dX9_awakeHouses_4 : decode cX9_awakeHouses 4 = .ok (.iload_n 3, 1) := by decide +kernel
theorem dX9_awakeHouses_5 : decode cX9_awakeHouses 5 = .ok (.aload_n 0, 1) := by decide +kernel
theorem dX9_awakeHouses_6 : decode cX9_awakeHouses 6 = .ok (.getfield 30, 3) := by decide +kernel
theorem dX9_awakeHouses_9 : decode cX9_awakeHouses 9 = .ok (.if_icmp .ge 24, 3) := by decide +kernel
theorem dX9_awakeHouses_12 : decode cX9_awakeHouses 12 = .ok (.aload_n 0, 1) := by decide +kernel
theorem dX9_awakeHouses_13 : decode cX9_awakeHouses 13 = .ok (.iload_n 3, 1) := by decide +kernel
theorem dX9_awakeHouses_14 : decode cX9_awakeHouses 14 = .ok (.iload_n 1, 1) := by decide +kernel
theorem dX9_awakeHouses_15 : decode cX9_awakeHouses 15 = .ok (.invokevirtual 52, 3) := by decide +kernel
theorem dX9_awakeHouses_18 : decode cX9_awakeHouses 18 = .ok (.ifCond .eq 9, 3) := by decide +kernel
theorem dX9_awakeHouses_21 : decode cX9_awakeHouses 21 = .ok (.iload_n 2, 1) := by decide +kernel
theorem dX9_awakeHouses_22 : decode cX9_awakeHouses 22 = .ok (.iconst 1, 1) := by decide +kernel
theorem dX9_awakeHouses_23 : decode cX9_awakeHouses 23 = .ok (.iload_n 3, 1) := by decide +kernel
theorem dX9_awakeHouses_24 : decode cX9_awakeHouses 24 = .ok (.ishl, 1) := by decide +kernel
theorem dX9_awakeHouses_25 : decode cX9_awakeHouses 25 = .ok (.ior, 1) := by decide +kernel
theorem dX9_awakeHouses_26 : decode cX9_awakeHouses 26 = .ok (.istore_n 2, 1) := by decide +kernel
theorem dX9_awakeHouses_27 : decode cX9_awakeHouses 27 = .ok (.iinc 3 1, 3) := by decide +kernel
theorem dX9_awakeHouses_30 : decode cX9_awakeHouses 30 = .ok (.goto (-26), 3) := by decide +kernel
theorem dX9_awakeHouses_33 : decode cX9_awakeHouses 33 = .ok (.iload_n 2, 1) := by decide +kernel
theorem dX9_awakeHouses_34 : decode cX9_awakeHouses 34 = .ok (.ireturn, 1) := by decide +kernel
theorem dX9_awakeLamps_0 : decode cX9_awakeLamps 0 = .ok (.iconst 0, 1) := by decide +kernel
theorem dX9_awakeLamps_1 : decode cX9_awakeLamps 1 = .ok (.istore_n 1, 1) := by decide +kernel
theorem dX9_awakeLamps_2 : decode cX9_awakeLamps 2 = .ok (.iconst 0, 1) := by decide +kernel
theorem dX9_awakeLamps_3 : decode cX9_awakeLamps 3 = .ok (.istore_n 2, 1) := by decide +kernel
theorem dX9_awakeLamps_4 : decode cX9_awakeLamps 4 = .ok (.iload_n 2, 1) := by decide +kernel
theorem dX9_awakeLamps_5 : decode cX9_awakeLamps 5 = .ok (.aload_n 0, 1) := by decide +kernel
theorem dX9_awakeLamps_6 : decode cX9_awakeLamps 6 = .ok (.getfield 34, 3) := by decide +kernel
theorem dX9_awakeLamps_9 : decode cX9_awakeLamps 9 = .ok (.if_icmp .ge 35, 3) := by decide +kernel
theorem dX9_awakeLamps_12 : decode cX9_awakeLamps 12 = .ok (.aload_n 0, 1) := by decide +kernel
theorem dX9_awakeLamps_13 : decode cX9_awakeLamps 13 = .ok (.aload_n 0, 1) := by decide +kernel
theorem dX9_awakeLamps_14 : decode cX9_awakeLamps 14 = .ok (.getfield 21, 3) := by decide +kernel
theorem dX9_awakeLamps_17 : decode cX9_awakeLamps 17 = .ok (.iload_n 2, 1) := by decide +kernel
theorem dX9_awakeLamps_18 : decode cX9_awakeLamps 18 = .ok (.iaload, 1) := by decide +kernel
theorem dX9_awakeLamps_19 : decode cX9_awakeLamps 19 = .ok (.aload_n 0, 1) := by decide +kernel
theorem dX9_awakeLamps_20 : decode cX9_awakeLamps 20 = .ok (.getfield 37, 3) := by decide +kernel
theorem dX9_awakeLamps_23 : decode cX9_awakeLamps 23 = .ok (.bipush 24, 2) := by decide +kernel
theorem dX9_awakeLamps_25 : decode cX9_awakeLamps 25 = .ok (.irem, 1) := by decide +kernel
theorem dX9_awakeLamps_26 : decode cX9_awakeLamps 26 = .ok (.invokevirtual 52, 3) := by decide +kernel
theorem dX9_awakeLamps_29 : decode cX9_awakeLamps 29 = .ok (.ifCond .eq 9, 3) := by decide +kernel
theorem dX9_awakeLamps_32 : decode cX9_awakeLamps 32 = .ok (.iload_n 1, 1) := by decide +kernel
theorem dX9_awakeLamps_33 : decode cX9_awakeLamps 33 = .ok (.iconst 1, 1) := by decide +kernel
theorem dX9_awakeLamps_34 : decode cX9_awakeLamps 34 = .ok (.iload_n 2, 1) := by decide +kernel
theorem dX9_awakeLamps_35 : decode cX9_awakeLamps 35 = .ok (.ishl, 1) := by decide +kernel
theorem dX9_awakeLamps_36 : decode cX9_awakeLamps 36 = .ok (.ior, 1) := by decide +kernel
theorem dX9_awakeLamps_37 : decode cX9_awakeLamps 37 = .ok (.istore_n 1, 1) := by decide +kernel
theorem dX9_awakeLamps_38 : decode cX9_awakeLamps 38 = .ok (.iinc 2 1, 3) := by decide +kernel
theorem dX9_awakeLamps_41 : decode cX9_awakeLamps 41 = .ok (.goto (-37), 3) := by decide +kernel
theorem dX9_awakeLamps_44 : decode cX9_awakeLamps 44 = .ok (.iload_n 1, 1) := by decide +kernel
theorem dX9_awakeLamps_45 : decode cX9_awakeLamps 45 = .ok (.ireturn, 1) := by decide +kernel
theorem dX9_allLamps_0 : decode cX9_allLamps 0 = .ok (.iconst 1, 1) := by decide +kernel
theorem dX9_allLamps_1 : decode cX9_allLamps 1 = .ok (.aload_n 0, 1) := by decide +kernel
theorem dX9_allLamps_2 : decode cX9_allLamps 2 = .ok (.getfield 34, 3) := by decide +kernel
theorem dX9_allLamps_5 : decode cX9_allLamps 5 = .ok (.ishl, 1) := by decide +kernel
theorem dX9_allLamps_6 : decode cX9_allLamps 6 = .ok (.iconst 1, 1) := by decide +kernel
theorem dX9_allLamps_7 : decode cX9_allLamps 7 = .ok (.isub, 1) := by decide +kernel
theorem dX9_allLamps_8 : decode cX9_allLamps 8 = .ok (.ireturn, 1) := by decide +kernel
theorem dX9_lampsOf_0 : decode cX9_lampsOf 0 = .ok (.iconst 0, 1) := by decide +kernel
theorem dX9_lampsOf_1 : decode cX9_lampsOf 1 = .ok (.istore_n 2, 1) := by decide +kernel
theorem dX9_lampsOf_2 : decode cX9_lampsOf 2 = .ok (.iconst 0, 1) := by decide +kernel
theorem dX9_lampsOf_3 : decode cX9_lampsOf 3 = .ok (.istore_n 3, 1) := by decide +kernel
theorem dX9_lampsOf_4 : decode cX9_lampsOf 4 = .ok (.iload_n 3, 1) := by decide +kernel
theorem dX9_lampsOf_5 : decode cX9_lampsOf 5 = .ok (.aload_n 0, 1) := by decide +kernel
theorem dX9_lampsOf_6 : decode cX9_lampsOf 6 = .ok (.getfield 34, 3) := by decide +kernel
theorem dX9_lampsOf_9 : decode cX9_lampsOf 9 = .ok (.if_icmp .ge 25, 3) := by decide +kernel
theorem dX9_lampsOf_12 : decode cX9_lampsOf 12 = .ok (.aload_n 0, 1) := by decide +kernel
theorem dX9_lampsOf_13 : decode cX9_lampsOf 13 = .ok (.getfield 21, 3) := by decide +kernel
theorem dX9_lampsOf_16 : decode cX9_lampsOf 16 = .ok (.iload_n 3, 1) := by decide +kernel
theorem dX9_lampsOf_17 : decode cX9_lampsOf 17 = .ok (.iaload, 1) := by decide +kernel
theorem dX9_lampsOf_18 : decode cX9_lampsOf 18 = .ok (.iload_n 1, 1) := by decide +kernel
theorem dX9_lampsOf_19 : decode cX9_lampsOf 19 = .ok (.if_icmp .ne 9, 3) := by decide +kernel
theorem dX9_lampsOf_22 : decode cX9_lampsOf 22 = .ok (.iload_n 2, 1) := by decide +kernel
theorem dX9_lampsOf_23 : decode cX9_lampsOf 23 = .ok (.iconst 1, 1) := by decide +kernel
theorem dX9_lampsOf_24 : decode cX9_lampsOf 24 = .ok (.iload_n 3, 1) := by decide +kernel
theorem dX9_lampsOf_25 : decode cX9_lampsOf 25 = .ok (.ishl, 1) := by decide +kernel
theorem dX9_lampsOf_26 : decode cX9_lampsOf 26 = .ok (.ior, 1) := by decide +kernel
theorem dX9_lampsOf_27 : decode cX9_lampsOf 27 = .ok (.istore_n 2, 1) := by decide +kernel
theorem dX9_lampsOf_28 : decode cX9_lampsOf 28 = .ok (.iinc 3 1, 3) := by decide +kernel
theorem dX9_lampsOf_31 : decode cX9_lampsOf 31 = .ok (.goto (-27), 3) := by decide +kernel
theorem dX9_lampsOf_34 : decode cX9_lampsOf 34 = .ok (.iload_n 2, 1) := by decide +kernel
theorem dX9_lampsOf_35 : decode cX9_lampsOf 35 = .ok (.ireturn, 1) := by decide +kernel
theorem dX9_oilInAll_0 : decode cX9_oilInAll 0 = .ok (.iconst 0, 1) := by decide +kernel
theorem dX9_oilInAll_1 : decode cX9_oilInAll 1 = .ok (.istore_n 1, 1) := by decide +kernel
theorem dX9_oilInAll_2 : decode cX9_oilInAll 2 = .ok (.iconst 0, 1) := by decide +kernel
theorem dX9_oilInAll_3 : decode cX9_oilInAll 3 = .ok (.istore_n 2, 1) := by decide +kernel
theorem dX9_oilInAll_4 : decode cX9_oilInAll 4 = .ok (.iload_n 2, 1) := by decide +kernel
theorem dX9_oilInAll_5 : decode cX9_oilInAll 5 = .ok (.aload_n 0, 1) := by decide +kernel
theorem dX9_oilInAll_6 : decode cX9_oilInAll 6 = .ok (.getfield 34, 3) := by decide +kernel
theorem dX9_oilInAll_9 : decode cX9_oilInAll 9 = .ok (.if_icmp .ge 18, 3) := by decide +kernel
theorem dX9_oilInAll_12 : decode cX9_oilInAll 12 = .ok (.iload_n 1, 1) := by decide +kernel
theorem dX9_oilInAll_13 : decode cX9_oilInAll 13 = .ok (.aload_n 0, 1) := by decide +kernel
theorem dX9_oilInAll_14 : decode cX9_oilInAll 14 = .ok (.getfield 24, 3) := by decide +kernel
theorem dX9_oilInAll_17 : decode cX9_oilInAll 17 = .ok (.iload_n 2, 1) := by decide +kernel
theorem dX9_oilInAll_18 : decode cX9_oilInAll 18 = .ok (.iaload, 1) := by decide +kernel
theorem dX9_oilInAll_19 : decode cX9_oilInAll 19 = .ok (.iadd, 1) := by decide +kernel
theorem dX9_oilInAll_20 : decode cX9_oilInAll 20 = .ok (.istore_n 1, 1) := by decide +kernel
theorem dX9_oilInAll_21 : decode cX9_oilInAll 21 = .ok (.iinc 2 1, 3) := by decide +kernel
theorem dX9_oilInAll_24 : decode cX9_oilInAll 24 = .ok (.goto (-20), 3) := by decide +kernel
theorem dX9_oilInAll_27 : decode cX9_oilInAll 27 = .ok (.iload_n 1, 1) := by decide +kernel
theorem dX9_oilInAll_28 : decode cX9_oilInAll 28 = .ok (.ireturn, 1) := by decide +kernel
theorem dX9_singletons_0 : decode cX9_singletons 0 = .ok (.iconst 0, 1) := by decide +kernel
theorem dX9_singletons_1 : decode cX9_singletons 1 = .ok (.istore_n 1, 1) := by decide +kernel
theorem dX9_singletons_2 : decode cX9_singletons 2 = .ok (.iconst 0, 1) := by decide +kernel
theorem dX9_singletons_3 : decode cX9_singletons 3 = .ok (.istore_n 2, 1) := by decide +kernel
theorem dX9_singletons_4 : decode cX9_singletons 4 = .ok (.iload_n 2, 1) := by decide +kernel
theorem dX9_singletons_5 : decode cX9_singletons 5 = .ok (.aload_n 0, 1) := by decide +kernel
theorem dX9_singletons_6 : decode cX9_singletons 6 = .ok (.getfield 34, 3) := by decide +kernel
theorem dX9_singletons_9 : decode cX9_singletons 9 = .ok (.if_icmp .ge 25, 3) := by decide +kernel
theorem dX9_singletons_12 : decode cX9_singletons 12 = .ok (.aload_n 0, 1) := by decide +kernel
theorem dX9_singletons_13 : decode cX9_singletons 13 = .ok (.getfield 27, 3) := by decide +kernel
theorem dX9_singletons_16 : decode cX9_singletons 16 = .ok (.iload_n 2, 1) := by decide +kernel
theorem dX9_singletons_17 : decode cX9_singletons 17 = .ok (.iaload, 1) := by decide +kernel
theorem dX9_singletons_18 : decode cX9_singletons 18 = .ok (.iconst (-1), 1) := by decide +kernel
theorem dX9_singletons_19 : decode cX9_singletons 19 = .ok (.if_icmp .ne 9, 3) := by decide +kernel
theorem dX9_singletons_22 : decode cX9_singletons 22 = .ok (.iload_n 1, 1) := by decide +kernel
theorem dX9_singletons_23 : decode cX9_singletons 23 = .ok (.iconst 1, 1) := by decide +kernel
theorem dX9_singletons_24 : decode cX9_singletons 24 = .ok (.iload_n 2, 1) := by decide +kernel
theorem dX9_singletons_25 : decode cX9_singletons 25 = .ok (.ishl, 1) := by decide +kernel
theorem dX9_singletons_26 : decode cX9_singletons 26 = .ok (.ior, 1) := by decide +kernel
theorem dX9_singletons_27 : decode cX9_singletons 27 = .ok (.istore_n 1, 1) := by decide +kernel
theorem dX9_singletons_28 : decode cX9_singletons 28 = .ok (.iinc 2 1, 3) := by decide +kernel
theorem dX9_singletons_31 : decode cX9_singletons 31 = .ok (.goto (-27), 3) := by decide +kernel
theorem dX9_singletons_34 : decode cX9_singletons 34 = .ok (.iload_n 1, 1) := by decide +kernel
theorem dX9_singletons_35 : decode cX9_singletons 35 = .ok (.ireturn, 1) := by decide +kernel
theorem dX9_happyLamps_0 : decode cX9_happyLamps 0 = .ok (.iconst 0, 1) := by decide +kernel
theorem dX9_happyLamps_1 : decode cX9_happyLamps 1 = .ok (.istore_n 1, 1) := by decide +kernel
theorem dX9_happyLamps_2 : decode cX9_happyLamps 2 = .ok (.iconst 0, 1) := by decide +kernel
theorem dX9_happyLamps_3 : decode cX9_happyLamps 3 = .ok (.istore_n 2, 1) := by decide +kernel
theorem dX9_happyLamps_4 : decode cX9_happyLamps 4 = .ok (.iload_n 2, 1) := by decide +kernel
theorem dX9_happyLamps_5 : decode cX9_happyLamps 5 = .ok (.aload_n 0, 1) := by decide +kernel
theorem dX9_happyLamps_6 : decode cX9_happyLamps 6 = .ok (.getfield 34, 3) := by decide +kernel
theorem dX9_happyLamps_9 : decode cX9_happyLamps 9 = .ok (.if_icmp .ge 49, 3) := by decide +kernel
theorem dX9_happyLamps_12 : decode cX9_happyLamps 12 = .ok (.aload_n 0, 1) := by decide +kernel
theorem dX9_happyLamps_13 : decode cX9_happyLamps 13 = .ok (.getfield 27, 3) := by decide +kernel
theorem dX9_happyLamps_16 : decode cX9_happyLamps 16 = .ok (.iload_n 2, 1) := by decide +kernel
theorem dX9_happyLamps_17 : decode cX9_happyLamps 17 = .ok (.iaload, 1) := by decide +kernel
theorem dX9_happyLamps_18 : decode cX9_happyLamps 18 = .ok (.istore_n 3, 1) := by decide +kernel
theorem dX9_happyLamps_19 : decode cX9_happyLamps 19 = .ok (.iload_n 3, 1) := by decide +kernel
theorem dX9_happyLamps_20 : decode cX9_happyLamps 20 = .ok (.ifCond .lt 32, 3) := by decide +kernel
theorem dX9_happyLamps_23 : decode cX9_happyLamps 23 = .ok (.iload_n 3, 1) := by decide +kernel
theorem dX9_happyLamps_24 : decode cX9_happyLamps 24 = .ok (.aload_n 0, 1) := by decide +kernel
theorem dX9_happyLamps_25 : decode cX9_happyLamps 25 = .ok (.getfield 34, 3) := by decide +kernel
theorem dX9_happyLamps_28 : decode cX9_happyLamps 28 = .ok (.if_icmp .ge 24, 3) := by decide +kernel
theorem dX9_happyLamps_31 : decode cX9_happyLamps 31 = .ok (.aload_n 0, 1) := by decide +kernel
theorem dX9_happyLamps_32 : decode cX9_happyLamps 32 = .ok (.getfield 21, 3) := by decide +kernel
theorem dX9_happyLamps_35 : decode cX9_happyLamps 35 = .ok (.iload_n 3, 1) := by decide +kernel
theorem dX9_happyLamps_36 : decode cX9_happyLamps 36 = .ok (.iaload, 1) := by decide +kernel
theorem dX9_happyLamps_37 : decode cX9_happyLamps 37 = .ok (.aload_n 0, 1) := by decide +kernel
theorem dX9_happyLamps_38 : decode cX9_happyLamps 38 = .ok (.getfield 21, 3) := by decide +kernel
theorem dX9_happyLamps_41 : decode cX9_happyLamps 41 = .ok (.iload_n 2, 1) := by decide +kernel
theorem dX9_happyLamps_42 : decode cX9_happyLamps 42 = .ok (.iaload, 1) := by decide +kernel
theorem dX9_happyLamps_43 : decode cX9_happyLamps 43 = .ok (.if_icmp .ne 9, 3) := by decide +kernel
theorem dX9_happyLamps_46 : decode cX9_happyLamps 46 = .ok (.iload_n 1, 1) := by decide +kernel
theorem dX9_happyLamps_47 : decode cX9_happyLamps 47 = .ok (.iconst 1, 1) := by decide +kernel
theorem dX9_happyLamps_48 : decode cX9_happyLamps 48 = .ok (.iload_n 2, 1) := by decide +kernel
theorem dX9_happyLamps_49 : decode cX9_happyLamps 49 = .ok (.ishl, 1) := by decide +kernel
theorem dX9_happyLamps_50 : decode cX9_happyLamps 50 = .ok (.ior, 1) := by decide +kernel
theorem dX9_happyLamps_51 : decode cX9_happyLamps 51 = .ok (.istore_n 1, 1) := by decide +kernel
theorem dX9_happyLamps_52 : decode cX9_happyLamps 52 = .ok (.iinc 2 1, 3) := by decide +kernel
theorem dX9_happyLamps_55 : decode cX9_happyLamps 55 = .ok (.goto (-51), 3) := by decide +kernel
theorem dX9_happyLamps_58 : decode cX9_happyLamps 58 = .ok (.iload_n 1, 1) := by decide +kernel
theorem dX9_happyLamps_59 : decode cX9_happyLamps 59 = .ok (.ireturn, 1) := by decide +kernel
theorem dX9_couple_0 : decode cX9_couple 0 = .ok (.aload_n 0, 1) := by decide +kernel
theorem dX9_couple_1 : decode cX9_couple 1 = .ok (.getfield 27, 3) := by decide +kernel
theorem dX9_couple_4 : decode cX9_couple 4 = .ok (.iload_n 1, 1) := by decide +kernel
theorem dX9_couple_5 : decode cX9_couple 5 = .ok (.iaload, 1) := by decide +kernel
theorem dX9_couple_6 : decode cX9_couple 6 = .ok (.istore_n 2, 1) := by decide +kernel
theorem dX9_couple_7 : decode cX9_couple 7 = .ok (.iload_n 2, 1) := by decide +kernel
theorem dX9_couple_8 : decode cX9_couple 8 = .ok (.iconst (-1), 1) := by decide +kernel
theorem dX9_couple_9 : decode cX9_couple 9 = .ok (.if_icmp .ne 9, 3) := by decide +kernel
theorem dX9_couple_12 : decode cX9_couple 12 = .ok (.iconst 1, 1) := by decide +kernel
theorem dX9_couple_13 : decode cX9_couple 13 = .ok (.iload_n 1, 1) := by decide +kernel
theorem dX9_couple_14 : decode cX9_couple 14 = .ok (.ishl, 1) := by decide +kernel
theorem dX9_couple_15 : decode cX9_couple 15 = .ok (.goto 10, 3) := by decide +kernel
theorem dX9_couple_18 : decode cX9_couple 18 = .ok (.iconst 1, 1) := by decide +kernel
theorem dX9_couple_19 : decode cX9_couple 19 = .ok (.iload_n 1, 1) := by decide +kernel
theorem dX9_couple_20 : decode cX9_couple 20 = .ok (.ishl, 1) := by decide +kernel
theorem dX9_couple_21 : decode cX9_couple 21 = .ok (.iconst 1, 1) := by decide +kernel
theorem dX9_couple_22 : decode cX9_couple 22 = .ok (.iload_n 2, 1) := by decide +kernel
theorem dX9_couple_23 : decode cX9_couple 23 = .ok (.ishl, 1) := by decide +kernel
theorem dX9_couple_24 : decode cX9_couple 24 = .ok (.ior, 1) := by decide +kernel
theorem dX9_couple_25 : decode cX9_couple 25 = .ok (.ireturn, 1) := by decide +kernel
theorem dX9_canBeLit_0 : decode cX9_canBeLit 0 = .ok (.aload_n 0, 1) := by decide +kernel
theorem dX9_canBeLit_1 : decode cX9_canBeLit 1 = .ok (.getfield 27, 3) := by decide +kernel
theorem dX9_canBeLit_4 : decode cX9_canBeLit 4 = .ok (.iload_n 1, 1) := by decide +kernel
theorem dX9_canBeLit_5 : decode cX9_canBeLit 5 = .ok (.iaload, 1) := by decide +kernel
theorem dX9_canBeLit_6 : decode cX9_canBeLit 6 = .ok (.istore_n 2, 1) := by decide +kernel
theorem dX9_canBeLit_7 : decode cX9_canBeLit 7 = .ok (.iload_n 2, 1) := by decide +kernel
theorem dX9_canBeLit_8 : decode cX9_canBeLit 8 = .ok (.ifCond .lt 22, 3) := by decide +kernel
theorem dX9_canBeLit_11 : decode cX9_canBeLit 11 = .ok (.iload_n 2, 1) := by decide +kernel
theorem dX9_canBeLit_12 : decode cX9_canBeLit 12 = .ok (.aload_n 0, 1) := by decide +kernel
theorem dX9_canBeLit_13 : decode cX9_canBeLit 13 = .ok (.getfield 34, 3) := by decide +kernel
theorem dX9_canBeLit_16 : decode cX9_canBeLit 16 = .ok (.if_icmp .ge 14, 3) := by decide +kernel
theorem dX9_canBeLit_19 : decode cX9_canBeLit 19 = .ok (.aload_n 0, 1) := by decide +kernel
theorem dX9_canBeLit_20 : decode cX9_canBeLit 20 = .ok (.getfield 24, 3) := by decide +kernel
theorem dX9_canBeLit_23 : decode cX9_canBeLit 23 = .ok (.iload_n 2, 1) := by decide +kernel
theorem dX9_canBeLit_24 : decode cX9_canBeLit 24 = .ok (.iaload, 1) := by decide +kernel
theorem dX9_canBeLit_25 : decode cX9_canBeLit 25 = .ok (.ifCond .ne 5, 3) := by decide +kernel
theorem dX9_canBeLit_28 : decode cX9_canBeLit 28 = .ok (.iconst 0, 1) := by decide +kernel
theorem dX9_canBeLit_29 : decode cX9_canBeLit 29 = .ok (.ireturn, 1) := by decide +kernel
theorem dX9_canBeLit_30 : decode cX9_canBeLit 30 = .ok (.aload_n 0, 1) := by decide +kernel
theorem dX9_canBeLit_31 : decode cX9_canBeLit 31 = .ok (.getfield 24, 3) := by decide +kernel
theorem dX9_canBeLit_34 : decode cX9_canBeLit 34 = .ok (.iload_n 1, 1) := by decide +kernel
theorem dX9_canBeLit_35 : decode cX9_canBeLit 35 = .ok (.iaload, 1) := by decide +kernel
theorem dX9_canBeLit_36 : decode cX9_canBeLit 36 = .ok (.ifCond .le 20, 3) := by decide +kernel
theorem dX9_canBeLit_39 : decode cX9_canBeLit 39 = .ok (.aload_n 0, 1) := by decide +kernel
theorem dX9_canBeLit_40 : decode cX9_canBeLit 40 = .ok (.getfield 43, 3) := by decide +kernel
theorem dX9_canBeLit_43 : decode cX9_canBeLit 43 = .ok (.aload_n 0, 1) := by decide +kernel
theorem dX9_canBeLit_44 : decode cX9_canBeLit 44 = .ok (.iload_n 1, 1) := by decide +kernel
theorem dX9_canBeLit_45 : decode cX9_canBeLit 45 = .ok (.invokevirtual 56, 3) := by decide +kernel
theorem dX9_canBeLit_48 : decode cX9_canBeLit 48 = .ok (.iand, 1) := by decide +kernel
theorem dX9_canBeLit_49 : decode cX9_canBeLit 49 = .ok (.ifCond .ne 7, 3) := by decide +kernel
theorem dX9_canBeLit_52 : decode cX9_canBeLit 52 = .ok (.iconst 1, 1) := by decide +kernel
theorem dX9_canBeLit_53 : decode cX9_canBeLit 53 = .ok (.goto 4, 3) := by decide +kernel
theorem dX9_canBeLit_56 : decode cX9_canBeLit 56 = .ok (.iconst 0, 1) := by decide +kernel
theorem dX9_canBeLit_57 : decode cX9_canBeLit 57 = .ok (.ireturn, 1) := by decide +kernel
theorem dX9_putOut_0 : decode cX9_putOut 0 = .ok (.aload_n 0, 1) := by decide +kernel
theorem dX9_putOut_1 : decode cX9_putOut 1 = .ok (.dup, 1) := by decide +kernel
theorem dX9_putOut_2 : decode cX9_putOut 2 = .ok (.getfield 40, 3) := by decide +kernel
theorem dX9_putOut_5 : decode cX9_putOut 5 = .ok (.aload_n 0, 1) := by decide +kernel
theorem dX9_putOut_6 : decode cX9_putOut 6 = .ok (.iload_n 1, 1) := by decide +kernel
theorem dX9_putOut_7 : decode cX9_putOut 7 = .ok (.invokevirtual 56, 3) := by decide +kernel
theorem dX9_putOut_10 : decode cX9_putOut 10 = .ok (.iconst (-1), 1) := by decide +kernel
theorem dX9_putOut_11 : decode cX9_putOut 11 = .ok (.ixor, 1) := by decide +kernel
theorem dX9_putOut_12 : decode cX9_putOut 12 = .ok (.iand, 1) := by decide +kernel
theorem dX9_putOut_13 : decode cX9_putOut 13 = .ok (.putfield 40, 3) := by decide +kernel
theorem dX9_putOut_16 : decode cX9_putOut 16 = .ok (.return_, 1) := by decide +kernel
theorem dX9_light_0 : decode cX9_light 0 = .ok (.aload_n 0, 1) := by decide +kernel
theorem dX9_light_1 : decode cX9_light 1 = .ok (.dup, 1) := by decide +kernel
theorem dX9_light_2 : decode cX9_light 2 = .ok (.getfield 40, 3) := by decide +kernel
theorem dX9_light_5 : decode cX9_light 5 = .ok (.aload_n 0, 1) := by decide +kernel
theorem dX9_light_6 : decode cX9_light 6 = .ok (.iload_n 1, 1) := by decide +kernel
theorem dX9_light_7 : decode cX9_light 7 = .ok (.invokevirtual 56, 3) := by decide +kernel
theorem dX9_light_10 : decode cX9_light 10 = .ok (.ior, 1) := by decide +kernel
theorem dX9_light_11 : decode cX9_light 11 = .ok (.putfield 40, 3) := by decide +kernel
theorem dX9_light_14 : decode cX9_light 14 = .ok (.return_, 1) := by decide +kernel
theorem dX9_flickByHand_0 : decode cX9_flickByHand 0 = .ok (.aload_n 0, 1) := by decide +kernel
theorem dX9_flickByHand_1 : decode cX9_flickByHand 1 = .ok (.iload_n 1, 1) := by decide +kernel
theorem dX9_flickByHand_2 : decode cX9_flickByHand 2 = .ok (.invokevirtual 60, 3) := by decide +kernel
theorem dX9_flickByHand_5 : decode cX9_flickByHand 5 = .ok (.ifCond .eq 11, 3) := by decide +kernel
theorem dX9_flickByHand_8 : decode cX9_flickByHand 8 = .ok (.aload_n 0, 1) := by decide +kernel
theorem dX9_flickByHand_9 : decode cX9_flickByHand 9 = .ok (.iload_n 1, 1) := by decide +kernel
theorem dX9_flickByHand_10 : decode cX9_flickByHand 10 = .ok (.invokevirtual 64, 3) := by decide +kernel
theorem dX9_flickByHand_13 : decode cX9_flickByHand 13 = .ok (.goto 16, 3) := by decide +kernel
theorem dX9_flickByHand_16 : decode cX9_flickByHand 16 = .ok (.aload_n 0, 1) := by decide +kernel
theorem dX9_flickByHand_17 : decode cX9_flickByHand 17 = .ok (.iload_n 1, 1) := by decide +kernel
theorem dX9_flickByHand_18 : decode cX9_flickByHand 18 = .ok (.invokevirtual 68, 3) := by decide +kernel
theorem dX9_flickByHand_21 : decode cX9_flickByHand 21 = .ok (.ifCond .eq 8, 3) := by decide +kernel
theorem dX9_flickByHand_24 : decode cX9_flickByHand 24 = .ok (.aload_n 0, 1) := by decide +kernel
theorem dX9_flickByHand_25 : decode cX9_flickByHand 25 = .ok (.iload_n 1, 1) := by decide +kernel
theorem dX9_flickByHand_26 : decode cX9_flickByHand 26 = .ok (.invokevirtual 71, 3) := by decide +kernel
theorem dX9_flickByHand_29 : decode cX9_flickByHand 29 = .ok (.return_, 1) := by decide +kernel
theorem dX9_shatter_0 : decode cX9_shatter 0 = .ok (.aload_n 0, 1) := by decide +kernel
theorem dX9_shatter_1 : decode cX9_shatter 1 = .ok (.iload_n 1, 1) := by decide +kernel
theorem dX9_shatter_2 : decode cX9_shatter 2 = .ok (.invokevirtual 64, 3) := by decide +kernel
theorem dX9_shatter_5 : decode cX9_shatter 5 = .ok (.aload_n 0, 1) := by decide +kernel
theorem dX9_shatter_6 : decode cX9_shatter 6 = .ok (.dup, 1) := by decide +kernel
theorem dX9_shatter_7 : decode cX9_shatter 7 = .ok (.getfield 43, 3) := by decide +kernel
theorem dX9_shatter_10 : decode cX9_shatter 10 = .ok (.iconst 1, 1) := by decide +kernel
theorem dX9_shatter_11 : decode cX9_shatter 11 = .ok (.iload_n 1, 1) := by decide +kernel
theorem dX9_shatter_12 : decode cX9_shatter 12 = .ok (.ishl, 1) := by decide +kernel
theorem dX9_shatter_13 : decode cX9_shatter 13 = .ok (.ior, 1) := by decide +kernel
theorem dX9_shatter_14 : decode cX9_shatter 14 = .ok (.putfield 43, 3) := by decide +kernel
theorem dX9_shatter_17 : decode cX9_shatter 17 = .ok (.return_, 1) := by decide +kernel
theorem dX9_soundTwins_0 : decode cX9_soundTwins 0 = .ok (.iconst 0, 1) := by decide +kernel
theorem dX9_soundTwins_1 : decode cX9_soundTwins 1 = .ok (.istore_n 1, 1) := by decide +kernel
theorem dX9_soundTwins_2 : decode cX9_soundTwins 2 = .ok (.iconst 0, 1) := by decide +kernel
theorem dX9_soundTwins_3 : decode cX9_soundTwins 3 = .ok (.istore_n 2, 1) := by decide +kernel
theorem dX9_soundTwins_4 : decode cX9_soundTwins 4 = .ok (.iload_n 2, 1) := by decide +kernel
theorem dX9_soundTwins_5 : decode cX9_soundTwins 5 = .ok (.aload_n 0, 1) := by decide +kernel
theorem dX9_soundTwins_6 : decode cX9_soundTwins 6 = .ok (.getfield 34, 3) := by decide +kernel
theorem dX9_soundTwins_9 : decode cX9_soundTwins 9 = .ok (.if_icmp .ge 38, 3) := by decide +kernel
theorem dX9_soundTwins_12 : decode cX9_soundTwins 12 = .ok (.aload_n 0, 1) := by decide +kernel
theorem dX9_soundTwins_13 : decode cX9_soundTwins 13 = .ok (.getfield 27, 3) := by decide +kernel
theorem dX9_soundTwins_16 : decode cX9_soundTwins 16 = .ok (.iload_n 2, 1) := by decide +kernel
theorem dX9_soundTwins_17 : decode cX9_soundTwins 17 = .ok (.iaload, 1) := by decide +kernel
theorem dX9_soundTwins_18 : decode cX9_soundTwins 18 = .ok (.iconst (-1), 1) := by decide +kernel
theorem dX9_soundTwins_19 : decode cX9_soundTwins 19 = .ok (.if_icmp .eq 22, 3) := by decide +kernel
theorem dX9_soundTwins_22 : decode cX9_soundTwins 22 = .ok (.aload_n 0, 1) := by decide +kernel
theorem dX9_soundTwins_23 : decode cX9_soundTwins 23 = .ok (.getfield 43, 3) := by decide +kernel
theorem dX9_soundTwins_26 : decode cX9_soundTwins 26 = .ok (.aload_n 0, 1) := by decide +kernel
theorem dX9_soundTwins_27 : decode cX9_soundTwins 27 = .ok (.iload_n 2, 1) := by decide +kernel
theorem dX9_soundTwins_28 : decode cX9_soundTwins 28 = .ok (.invokevirtual 56, 3) := by decide +kernel
theorem dX9_soundTwins_31 : decode cX9_soundTwins 31 = .ok (.iand, 1) := by decide +kernel
theorem dX9_soundTwins_32 : decode cX9_soundTwins 32 = .ok (.ifCond .ne 9, 3) := by decide +kernel
theorem dX9_soundTwins_35 : decode cX9_soundTwins 35 = .ok (.iload_n 1, 1) := by decide +kernel
theorem dX9_soundTwins_36 : decode cX9_soundTwins 36 = .ok (.iconst 1, 1) := by decide +kernel
theorem dX9_soundTwins_37 : decode cX9_soundTwins 37 = .ok (.iload_n 2, 1) := by decide +kernel
theorem dX9_soundTwins_38 : decode cX9_soundTwins 38 = .ok (.ishl, 1) := by decide +kernel
theorem dX9_soundTwins_39 : decode cX9_soundTwins 39 = .ok (.ior, 1) := by decide +kernel
theorem dX9_soundTwins_40 : decode cX9_soundTwins 40 = .ok (.istore_n 1, 1) := by decide +kernel
theorem dX9_soundTwins_41 : decode cX9_soundTwins 41 = .ok (.iinc 2 1, 3) := by decide +kernel
theorem dX9_soundTwins_44 : decode cX9_soundTwins 44 = .ok (.goto (-40), 3) := by decide +kernel
theorem dX9_soundTwins_47 : decode cX9_soundTwins 47 = .ok (.iload_n 1, 1) := by decide +kernel
theorem dX9_soundTwins_48 : decode cX9_soundTwins 48 = .ok (.ireturn, 1) := by decide +kernel
theorem dX9_hasSoundLamp_0 : decode cX9_hasSoundLamp 0 = .ok (.iconst 0, 1) := by decide +kernel
theorem dX9_hasSoundLamp_1 : decode cX9_hasSoundLamp 1 = .ok (.istore_n 2, 1) := by decide +kernel
theorem dX9_hasSoundLamp_2 : decode cX9_hasSoundLamp 2 = .ok (.iload_n 2, 1) := by decide +kernel
theorem dX9_hasSoundLamp_3 : decode cX9_hasSoundLamp 3 = .ok (.aload_n 0, 1) := by decide +kernel
theorem dX9_hasSoundLamp_4 : decode cX9_hasSoundLamp 4 = .ok (.getfield 34, 3) := by decide +kernel
theorem dX9_hasSoundLamp_7 : decode cX9_hasSoundLamp 7 = .ok (.if_icmp .ge 34, 3) := by decide +kernel
theorem dX9_hasSoundLamp_10 : decode cX9_hasSoundLamp 10 = .ok (.aload_n 0, 1) := by decide +kernel
theorem dX9_hasSoundLamp_11 : decode cX9_hasSoundLamp 11 = .ok (.getfield 21, 3) := by decide +kernel
theorem dX9_hasSoundLamp_14 : decode cX9_hasSoundLamp 14 = .ok (.iload_n 2, 1) := by decide +kernel
theorem dX9_hasSoundLamp_15 : decode cX9_hasSoundLamp 15 = .ok (.iaload, 1) := by decide +kernel
theorem dX9_hasSoundLamp_16 : decode cX9_hasSoundLamp 16 = .ok (.iload_n 1, 1) := by decide +kernel
theorem dX9_hasSoundLamp_17 : decode cX9_hasSoundLamp 17 = .ok (.if_icmp .ne 18, 3) := by decide +kernel
theorem dX9_hasSoundLamp_20 : decode cX9_hasSoundLamp 20 = .ok (.aload_n 0, 1) := by decide +kernel
theorem dX9_hasSoundLamp_21 : decode cX9_hasSoundLamp 21 = .ok (.getfield 43, 3) := by decide +kernel
theorem dX9_hasSoundLamp_24 : decode cX9_hasSoundLamp 24 = .ok (.aload_n 0, 1) := by decide +kernel
theorem dX9_hasSoundLamp_25 : decode cX9_hasSoundLamp 25 = .ok (.iload_n 2, 1) := by decide +kernel
theorem dX9_hasSoundLamp_26 : decode cX9_hasSoundLamp 26 = .ok (.invokevirtual 56, 3) := by decide +kernel
theorem dX9_hasSoundLamp_29 : decode cX9_hasSoundLamp 29 = .ok (.iand, 1) := by decide +kernel
theorem dX9_hasSoundLamp_30 : decode cX9_hasSoundLamp 30 = .ok (.ifCond .ne 5, 3) := by decide +kernel
theorem dX9_hasSoundLamp_33 : decode cX9_hasSoundLamp 33 = .ok (.iconst 1, 1) := by decide +kernel
theorem dX9_hasSoundLamp_34 : decode cX9_hasSoundLamp 34 = .ok (.ireturn, 1) := by decide +kernel
theorem dX9_hasSoundLamp_35 : decode cX9_hasSoundLamp 35 = .ok (.iinc 2 1, 3) := by decide +kernel
theorem dX9_hasSoundLamp_38 : decode cX9_hasSoundLamp 38 = .ok (.goto (-36), 3) := by decide +kernel
theorem dX9_hasSoundLamp_41 : decode cX9_hasSoundLamp 41 = .ok (.iconst 0, 1) := by decide +kernel
theorem dX9_hasSoundLamp_42 : decode cX9_hasSoundLamp 42 = .ok (.ireturn, 1) := by decide +kernel
theorem dX9_plungedBy_0 : decode cX9_plungedBy 0 = .ok (.iconst 0, 1) := by decide +kernel
theorem dX9_plungedBy_1 : decode cX9_plungedBy 1 = .ok (.istore_n 2, 1) := by decide +kernel
theorem dX9_plungedBy_2 : decode cX9_plungedBy 2 = .ok (.iconst 0, 1) := by decide +kernel
theorem dX9_plungedBy_3 : decode cX9_plungedBy 3 = .ok (.istore_n 3, 1) := by decide +kernel
theorem dX9_plungedBy_4 : decode cX9_plungedBy 4 = .ok (.iload_n 3, 1) := by decide +kernel
theorem dX9_plungedBy_5 : decode cX9_plungedBy 5 = .ok (.aload_n 0, 1) := by decide +kernel
