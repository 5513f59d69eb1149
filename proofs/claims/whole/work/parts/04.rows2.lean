theorem dX9_plungedBy_6 : decode cX9_plungedBy 6 = .ok (.getfield 34, 3) := by decide +kernel
theorem dX9_plungedBy_9 : decode cX9_plungedBy 9 = .ok (.if_icmp .ge 53, 3) := by decide +kernel
theorem dX9_plungedBy_12 : decode cX9_plungedBy 12 = .ok (.aload_n 0, 1) := by decide +kernel
theorem dX9_plungedBy_13 : decode cX9_plungedBy 13 = .ok (.getfield 27, 3) := by decide +kernel
theorem dX9_plungedBy_16 : decode cX9_plungedBy 16 = .ok (.iload_n 3, 1) := by decide +kernel
theorem dX9_plungedBy_17 : decode cX9_plungedBy 17 = .ok (.iaload, 1) := by decide +kernel
theorem dX9_plungedBy_18 : decode cX9_plungedBy 18 = .ok (.istore 4, 2) := by decide +kernel
theorem dX9_plungedBy_20 : decode cX9_plungedBy 20 = .ok (.aload_n 0, 1) := by decide +kernel
theorem dX9_plungedBy_21 : decode cX9_plungedBy 21 = .ok (.getfield 21, 3) := by decide +kernel
theorem dX9_plungedBy_24 : decode cX9_plungedBy 24 = .ok (.iload_n 3, 1) := by decide +kernel
theorem dX9_plungedBy_25 : decode cX9_plungedBy 25 = .ok (.iaload, 1) := by decide +kernel
theorem dX9_plungedBy_26 : decode cX9_plungedBy 26 = .ok (.iload_n 1, 1) := by decide +kernel
theorem dX9_plungedBy_27 : decode cX9_plungedBy 27 = .ok (.if_icmp .ne 29, 3) := by decide +kernel
theorem dX9_plungedBy_30 : decode cX9_plungedBy 30 = .ok (.iload 4, 2) := by decide +kernel
theorem dX9_plungedBy_32 : decode cX9_plungedBy 32 = .ok (.ifCond .lt 24, 3) := by decide +kernel
theorem dX9_plungedBy_35 : decode cX9_plungedBy 35 = .ok (.iload 4, 2) := by decide +kernel
theorem dX9_plungedBy_37 : decode cX9_plungedBy 37 = .ok (.aload_n 0, 1) := by decide +kernel
theorem dX9_plungedBy_38 : decode cX9_plungedBy 38 = .ok (.getfield 34, 3) := by decide +kernel
theorem dX9_plungedBy_41 : decode cX9_plungedBy 41 = .ok (.if_icmp .ge 15, 3) := by decide +kernel
theorem dX9_plungedBy_44 : decode cX9_plungedBy 44 = .ok (.iload_n 2, 1) := by decide +kernel
theorem dX9_plungedBy_45 : decode cX9_plungedBy 45 = .ok (.iconst 1, 1) := by decide +kernel
theorem dX9_plungedBy_46 : decode cX9_plungedBy 46 = .ok (.aload_n 0, 1) := by decide +kernel
theorem dX9_plungedBy_47 : decode cX9_plungedBy 47 = .ok (.getfield 21, 3) := by decide +kernel
theorem dX9_plungedBy_50 : decode cX9_plungedBy 50 = .ok (.iload 4, 2) := by decide +kernel
theorem dX9_plungedBy_52 : decode cX9_plungedBy 52 = .ok (.iaload, 1) := by decide +kernel
theorem dX9_plungedBy_53 : decode cX9_plungedBy 53 = .ok (.ishl, 1) := by decide +kernel
theorem dX9_plungedBy_54 : decode cX9_plungedBy 54 = .ok (.ior, 1) := by decide +kernel
theorem dX9_plungedBy_55 : decode cX9_plungedBy 55 = .ok (.istore_n 2, 1) := by decide +kernel
theorem dX9_plungedBy_56 : decode cX9_plungedBy 56 = .ok (.iinc 3 1, 3) := by decide +kernel
theorem dX9_plungedBy_59 : decode cX9_plungedBy 59 = .ok (.goto (-55), 3) := by decide +kernel
theorem dX9_plungedBy_62 : decode cX9_plungedBy 62 = .ok (.iload_n 2, 1) := by decide +kernel
theorem dX9_plungedBy_63 : decode cX9_plungedBy 63 = .ok (.ireturn, 1) := by decide +kernel
theorem dX9_oneTwinFurther_0 : decode cX9_oneTwinFurther 0 = .ok (.iload_n 1, 1) := by decide +kernel
theorem dX9_oneTwinFurther_1 : decode cX9_oneTwinFurther 1 = .ok (.istore_n 2, 1) := by decide +kernel
theorem dX9_oneTwinFurther_2 : decode cX9_oneTwinFurther 2 = .ok (.iconst 0, 1) := by decide +kernel
theorem dX9_oneTwinFurther_3 : decode cX9_oneTwinFurther 3 = .ok (.istore_n 3, 1) := by decide +kernel
theorem dX9_oneTwinFurther_4 : decode cX9_oneTwinFurther 4 = .ok (.iload_n 3, 1) := by decide +kernel
theorem dX9_oneTwinFurther_5 : decode cX9_oneTwinFurther 5 = .ok (.aload_n 0, 1) := by decide +kernel
theorem dX9_oneTwinFurther_6 : decode cX9_oneTwinFurther 6 = .ok (.getfield 30, 3) := by decide +kernel
theorem dX9_oneTwinFurther_9 : decode cX9_oneTwinFurther 9 = .ok (.if_icmp .ge 26, 3) := by decide +kernel
theorem dX9_oneTwinFurther_12 : decode cX9_oneTwinFurther 12 = .ok (.iload_n 1, 1) := by decide +kernel
theorem dX9_oneTwinFurther_13 : decode cX9_oneTwinFurther 13 = .ok (.iload_n 3, 1) := by decide +kernel
theorem dX9_oneTwinFurther_14 : decode cX9_oneTwinFurther 14 = .ok (.ishr, 1) := by decide +kernel
theorem dX9_oneTwinFurther_15 : decode cX9_oneTwinFurther 15 = .ok (.iconst 1, 1) := by decide +kernel
theorem dX9_oneTwinFurther_16 : decode cX9_oneTwinFurther 16 = .ok (.iand, 1) := by decide +kernel
theorem dX9_oneTwinFurther_17 : decode cX9_oneTwinFurther 17 = .ok (.iconst 1, 1) := by decide +kernel
theorem dX9_oneTwinFurther_18 : decode cX9_oneTwinFurther 18 = .ok (.if_icmp .ne 11, 3) := by decide +kernel
theorem dX9_oneTwinFurther_21 : decode cX9_oneTwinFurther 21 = .ok (.iload_n 2, 1) := by decide +kernel
theorem dX9_oneTwinFurther_22 : decode cX9_oneTwinFurther 22 = .ok (.aload_n 0, 1) := by decide +kernel
theorem dX9_oneTwinFurther_23 : decode cX9_oneTwinFurther 23 = .ok (.iload_n 3, 1) := by decide +kernel
theorem dX9_oneTwinFurther_24 : decode cX9_oneTwinFurther 24 = .ok (.invokevirtual 74, 3) := by decide +kernel
theorem dX9_oneTwinFurther_27 : decode cX9_oneTwinFurther 27 = .ok (.ior, 1) := by decide +kernel
theorem dX9_oneTwinFurther_28 : decode cX9_oneTwinFurther 28 = .ok (.istore_n 2, 1) := by decide +kernel
theorem dX9_oneTwinFurther_29 : decode cX9_oneTwinFurther 29 = .ok (.iinc 3 1, 3) := by decide +kernel
theorem dX9_oneTwinFurther_32 : decode cX9_oneTwinFurther 32 = .ok (.goto (-28), 3) := by decide +kernel
theorem dX9_oneTwinFurther_35 : decode cX9_oneTwinFurther 35 = .ok (.iload_n 2, 1) := by decide +kernel
theorem dX9_oneTwinFurther_36 : decode cX9_oneTwinFurther 36 = .ok (.ireturn, 1) := by decide +kernel
theorem dX9_fewestTwins_0 : decode cX9_fewestTwins 0 = .ok (.iconst 1, 1) := by decide +kernel
theorem dX9_fewestTwins_1 : decode cX9_fewestTwins 1 = .ok (.iload_n 1, 1) := by decide +kernel
theorem dX9_fewestTwins_2 : decode cX9_fewestTwins 2 = .ok (.ishl, 1) := by decide +kernel
theorem dX9_fewestTwins_3 : decode cX9_fewestTwins 3 = .ok (.istore_n 3, 1) := by decide +kernel
theorem dX9_fewestTwins_4 : decode cX9_fewestTwins 4 = .ok (.iconst 0, 1) := by decide +kernel
theorem dX9_fewestTwins_5 : decode cX9_fewestTwins 5 = .ok (.istore 4, 2) := by decide +kernel
theorem dX9_fewestTwins_7 : decode cX9_fewestTwins 7 = .ok (.iload 4, 2) := by decide +kernel
theorem dX9_fewestTwins_9 : decode cX9_fewestTwins 9 = .ok (.bipush 8, 2) := by decide +kernel
theorem dX9_fewestTwins_11 : decode cX9_fewestTwins 11 = .ok (.if_icmp .ge 27, 3) := by decide +kernel
theorem dX9_fewestTwins_14 : decode cX9_fewestTwins 14 = .ok (.iload_n 3, 1) := by decide +kernel
theorem dX9_fewestTwins_15 : decode cX9_fewestTwins 15 = .ok (.iload_n 2, 1) := by decide +kernel
theorem dX9_fewestTwins_16 : decode cX9_fewestTwins 16 = .ok (.ishr, 1) := by decide +kernel
theorem dX9_fewestTwins_17 : decode cX9_fewestTwins 17 = .ok (.iconst 1, 1) := by decide +kernel
theorem dX9_fewestTwins_18 : decode cX9_fewestTwins 18 = .ok (.iand, 1) := by decide +kernel
theorem dX9_fewestTwins_19 : decode cX9_fewestTwins 19 = .ok (.iconst 1, 1) := by decide +kernel
theorem dX9_fewestTwins_20 : decode cX9_fewestTwins 20 = .ok (.if_icmp .ne 6, 3) := by decide +kernel
theorem dX9_fewestTwins_23 : decode cX9_fewestTwins 23 = .ok (.iload 4, 2) := by decide +kernel
theorem dX9_fewestTwins_25 : decode cX9_fewestTwins 25 = .ok (.ireturn, 1) := by decide +kernel
theorem dX9_fewestTwins_26 : decode cX9_fewestTwins 26 = .ok (.aload_n 0, 1) := by decide +kernel
theorem dX9_fewestTwins_27 : decode cX9_fewestTwins 27 = .ok (.iload_n 3, 1) := by decide +kernel
theorem dX9_fewestTwins_28 : decode cX9_fewestTwins 28 = .ok (.invokevirtual 77, 3) := by decide +kernel
theorem dX9_fewestTwins_31 : decode cX9_fewestTwins 31 = .ok (.istore_n 3, 1) := by decide +kernel
theorem dX9_fewestTwins_32 : decode cX9_fewestTwins 32 = .ok (.iinc 4 1, 3) := by decide +kernel
theorem dX9_fewestTwins_35 : decode cX9_fewestTwins 35 = .ok (.goto (-28), 3) := by decide +kernel
theorem dX9_fewestTwins_38 : decode cX9_fewestTwins 38 = .ok (.iconst (-1), 1) := by decide +kernel
theorem dX9_fewestTwins_39 : decode cX9_fewestTwins 39 = .ok (.ireturn, 1) := by decide +kernel
theorem dX9_groups_0 : decode cX9_groups 0 = .ok (.iconst 0, 1) := by decide +kernel
theorem dX9_groups_1 : decode cX9_groups 1 = .ok (.istore_n 1, 1) := by decide +kernel
theorem dX9_groups_2 : decode cX9_groups 2 = .ok (.iconst 0, 1) := by decide +kernel
theorem dX9_groups_3 : decode cX9_groups 3 = .ok (.istore_n 2, 1) := by decide +kernel
theorem dX9_groups_4 : decode cX9_groups 4 = .ok (.iconst 0, 1) := by decide +kernel
theorem dX9_groups_5 : decode cX9_groups 5 = .ok (.istore_n 3, 1) := by decide +kernel
theorem dX9_groups_6 : decode cX9_groups 6 = .ok (.iload_n 3, 1) := by decide +kernel
theorem dX9_groups_7 : decode cX9_groups 7 = .ok (.aload_n 0, 1) := by decide +kernel
theorem dX9_groups_8 : decode cX9_groups 8 = .ok (.getfield 30, 3) := by decide +kernel
theorem dX9_groups_11 : decode cX9_groups 11 = .ok (.if_icmp .ge 28, 3) := by decide +kernel
theorem dX9_groups_14 : decode cX9_groups 14 = .ok (.iload_n 2, 1) := by decide +kernel
theorem dX9_groups_15 : decode cX9_groups 15 = .ok (.iload_n 3, 1) := by decide +kernel
theorem dX9_groups_16 : decode cX9_groups 16 = .ok (.ishr, 1) := by decide +kernel
theorem dX9_groups_17 : decode cX9_groups 17 = .ok (.iconst 1, 1) := by decide +kernel
theorem dX9_groups_18 : decode cX9_groups 18 = .ok (.iand, 1) := by decide +kernel
theorem dX9_groups_19 : decode cX9_groups 19 = .ok (.ifCond .ne 14, 3) := by decide +kernel
theorem dX9_groups_22 : decode cX9_groups 22 = .ok (.iinc 1 1, 3) := by decide +kernel
theorem dX9_groups_25 : decode cX9_groups 25 = .ok (.iload_n 2, 1) := by decide +kernel
theorem dX9_groups_26 : decode cX9_groups 26 = .ok (.aload_n 0, 1) := by decide +kernel
theorem dX9_groups_27 : decode cX9_groups 27 = .ok (.iload_n 3, 1) := by decide +kernel
theorem dX9_groups_28 : decode cX9_groups 28 = .ok (.invokevirtual 80, 3) := by decide +kernel
theorem dX9_groups_31 : decode cX9_groups 31 = .ok (.ior, 1) := by decide +kernel
theorem dX9_groups_32 : decode cX9_groups 32 = .ok (.istore_n 2, 1) := by decide +kernel
theorem dX9_groups_33 : decode cX9_groups 33 = .ok (.iinc 3 1, 3) := by decide +kernel
theorem dX9_groups_36 : decode cX9_groups 36 = .ok (.goto (-30), 3) := by decide +kernel
theorem dX9_groups_39 : decode cX9_groups 39 = .ok (.iload_n 1, 1) := by decide +kernel
theorem dX9_groups_40 : decode cX9_groups 40 = .ok (.ireturn, 1) := by decide +kernel
theorem dX9_groupOf_0 : decode cX9_groupOf 0 = .ok (.iconst 1, 1) := by decide +kernel
theorem dX9_groupOf_1 : decode cX9_groupOf 1 = .ok (.iload_n 1, 1) := by decide +kernel
theorem dX9_groupOf_2 : decode cX9_groupOf 2 = .ok (.ishl, 1) := by decide +kernel
theorem dX9_groupOf_3 : decode cX9_groupOf 3 = .ok (.istore_n 2, 1) := by decide +kernel
theorem dX9_groupOf_4 : decode cX9_groupOf 4 = .ok (.iconst 0, 1) := by decide +kernel
theorem dX9_groupOf_5 : decode cX9_groupOf 5 = .ok (.istore_n 3, 1) := by decide +kernel
theorem dX9_groupOf_6 : decode cX9_groupOf 6 = .ok (.iload_n 3, 1) := by decide +kernel
theorem dX9_groupOf_7 : decode cX9_groupOf 7 = .ok (.bipush 8, 2) := by decide +kernel
theorem dX9_groupOf_9 : decode cX9_groupOf 9 = .ok (.if_icmp .ge 15, 3) := by decide +kernel
theorem dX9_groupOf_12 : decode cX9_groupOf 12 = .ok (.aload_n 0, 1) := by decide +kernel
theorem dX9_groupOf_13 : decode cX9_groupOf 13 = .ok (.iload_n 2, 1) := by decide +kernel
theorem dX9_groupOf_14 : decode cX9_groupOf 14 = .ok (.invokevirtual 77, 3) := by decide +kernel
theorem dX9_groupOf_17 : decode cX9_groupOf 17 = .ok (.istore_n 2, 1) := by decide +kernel
theorem dX9_groupOf_18 : decode cX9_groupOf 18 = .ok (.iinc 3 1, 3) := by decide +kernel
theorem dX9_groupOf_21 : decode cX9_groupOf 21 = .ok (.goto (-15), 3) := by decide +kernel
theorem dX9_groupOf_24 : decode cX9_groupOf 24 = .ok (.iload_n 2, 1) := by decide +kernel
theorem dX9_groupOf_25 : decode cX9_groupOf 25 = .ok (.ireturn, 1) := by decide +kernel
theorem dX9_canChangeTwins_0 : decode cX9_canChangeTwins 0 = .ok (.iload_n 2, 1) := by decide +kernel
theorem dX9_canChangeTwins_1 : decode cX9_canChangeTwins 1 = .ok (.iload_n 1, 1) := by decide +kernel
theorem dX9_canChangeTwins_2 : decode cX9_canChangeTwins 2 = .ok (.if_icmp .eq 37, 3) := by decide +kernel
theorem dX9_canChangeTwins_5 : decode cX9_canChangeTwins 5 = .ok (.iload_n 2, 1) := by decide +kernel
theorem dX9_canChangeTwins_6 : decode cX9_canChangeTwins 6 = .ok (.aload_n 0, 1) := by decide +kernel
theorem dX9_canChangeTwins_7 : decode cX9_canChangeTwins 7 = .ok (.getfield 27, 3) := by decide +kernel
theorem dX9_canChangeTwins_10 : decode cX9_canChangeTwins 10 = .ok (.iload_n 1, 1) := by decide +kernel
theorem dX9_canChangeTwins_11 : decode cX9_canChangeTwins 11 = .ok (.iaload, 1) := by decide +kernel
theorem dX9_canChangeTwins_12 : decode cX9_canChangeTwins 12 = .ok (.if_icmp .eq 27, 3) := by decide +kernel
theorem dX9_canChangeTwins_15 : decode cX9_canChangeTwins 15 = .ok (.aload_n 0, 1) := by decide +kernel
theorem dX9_canChangeTwins_16 : decode cX9_canChangeTwins 16 = .ok (.getfield 27, 3) := by decide +kernel
theorem dX9_canChangeTwins_19 : decode cX9_canChangeTwins 19 = .ok (.iload_n 1, 1) := by decide +kernel
theorem dX9_canChangeTwins_20 : decode cX9_canChangeTwins 20 = .ok (.iaload, 1) := by decide +kernel
theorem dX9_canChangeTwins_21 : decode cX9_canChangeTwins 21 = .ok (.iconst (-1), 1) := by decide +kernel
theorem dX9_canChangeTwins_22 : decode cX9_canChangeTwins 22 = .ok (.if_icmp .eq 17, 3) := by decide +kernel
theorem dX9_canChangeTwins_25 : decode cX9_canChangeTwins 25 = .ok (.aload_n 0, 1) := by decide +kernel
theorem dX9_canChangeTwins_26 : decode cX9_canChangeTwins 26 = .ok (.getfield 27, 3) := by decide +kernel
theorem dX9_canChangeTwins_29 : decode cX9_canChangeTwins 29 = .ok (.iload_n 2, 1) := by decide +kernel
theorem dX9_canChangeTwins_30 : decode cX9_canChangeTwins 30 = .ok (.iaload, 1) := by decide +kernel
theorem dX9_canChangeTwins_31 : decode cX9_canChangeTwins 31 = .ok (.iconst (-1), 1) := by decide +kernel
theorem dX9_canChangeTwins_32 : decode cX9_canChangeTwins 32 = .ok (.if_icmp .eq 7, 3) := by decide +kernel
theorem dX9_canChangeTwins_35 : decode cX9_canChangeTwins 35 = .ok (.iconst 1, 1) := by decide +kernel
theorem dX9_canChangeTwins_36 : decode cX9_canChangeTwins 36 = .ok (.goto 4, 3) := by decide +kernel
theorem dX9_canChangeTwins_39 : decode cX9_canChangeTwins 39 = .ok (.iconst 0, 1) := by decide +kernel
theorem dX9_canChangeTwins_40 : decode cX9_canChangeTwins 40 = .ok (.ireturn, 1) := by decide +kernel
theorem dX9_changeTwins_0 : decode cX9_changeTwins 0 = .ok (.aload_n 0, 1) := by decide +kernel
theorem dX9_changeTwins_1 : decode cX9_changeTwins 1 = .ok (.getfield 27, 3) := by decide +kernel
theorem dX9_changeTwins_4 : decode cX9_changeTwins 4 = .ok (.iload_n 1, 1) := by decide +kernel
theorem dX9_changeTwins_5 : decode cX9_changeTwins 5 = .ok (.iaload, 1) := by decide +kernel
theorem dX9_changeTwins_6 : decode cX9_changeTwins 6 = .ok (.istore_n 3, 1) := by decide +kernel
theorem dX9_changeTwins_7 : decode cX9_changeTwins 7 = .ok (.aload_n 0, 1) := by decide +kernel
theorem dX9_changeTwins_8 : decode cX9_changeTwins 8 = .ok (.getfield 27, 3) := by decide +kernel
theorem dX9_changeTwins_11 : decode cX9_changeTwins 11 = .ok (.iload_n 2, 1) := by decide +kernel
theorem dX9_changeTwins_12 : decode cX9_changeTwins 12 = .ok (.iaload, 1) := by decide +kernel
theorem dX9_changeTwins_13 : decode cX9_changeTwins 13 = .ok (.istore 4, 2) := by decide +kernel
theorem dX9_changeTwins_15 : decode cX9_changeTwins 15 = .ok (.iload_n 3, 1) := by decide +kernel
theorem dX9_changeTwins_16 : decode cX9_changeTwins 16 = .ok (.ifCond .lt 25, 3) := by decide +kernel
theorem dX9_changeTwins_19 : decode cX9_changeTwins 19 = .ok (.iload_n 3, 1) := by decide +kernel
theorem dX9_changeTwins_20 : decode cX9_changeTwins 20 = .ok (.aload_n 0, 1) := by decide +kernel
theorem dX9_changeTwins_21 : decode cX9_changeTwins 21 = .ok (.getfield 34, 3) := by decide +kernel
theorem dX9_changeTwins_24 : decode cX9_changeTwins 24 = .ok (.if_icmp .ge 17, 3) := by decide +kernel
theorem dX9_changeTwins_27 : decode cX9_changeTwins 27 = .ok (.iload 4, 2) := by decide +kernel
theorem dX9_changeTwins_29 : decode cX9_changeTwins 29 = .ok (.ifCond .lt 12, 3) := by decide +kernel
theorem dX9_changeTwins_32 : decode cX9_changeTwins 32 = .ok (.iload 4, 2) := by decide +kernel
theorem dX9_changeTwins_34 : decode cX9_changeTwins 34 = .ok (.aload_n 0, 1) := by decide +kernel
theorem dX9_changeTwins_35 : decode cX9_changeTwins 35 = .ok (.getfield 34, 3) := by decide +kernel
theorem dX9_changeTwins_38 : decode cX9_changeTwins 38 = .ok (.if_icmp .lt 4, 3) := by decide +kernel
theorem dX9_changeTwins_41 : decode cX9_changeTwins 41 = .ok (.return_, 1) := by decide +kernel
theorem dX9_changeTwins_42 : decode cX9_changeTwins 42 = .ok (.aload_n 0, 1) := by decide +kernel
theorem dX9_changeTwins_43 : decode cX9_changeTwins 43 = .ok (.getfield 27, 3) := by decide +kernel
theorem dX9_changeTwins_46 : decode cX9_changeTwins 46 = .ok (.iload_n 1, 1) := by decide +kernel
theorem dX9_changeTwins_47 : decode cX9_changeTwins 47 = .ok (.iload 4, 2) := by decide +kernel
theorem dX9_changeTwins_49 : decode cX9_changeTwins 49 = .ok (.iastore, 1) := by decide +kernel
theorem dX9_changeTwins_50 : decode cX9_changeTwins 50 = .ok (.aload_n 0, 1) := by decide +kernel
theorem dX9_changeTwins_51 : decode cX9_changeTwins 51 = .ok (.getfield 27, 3) := by decide +kernel
theorem dX9_changeTwins_54 : decode cX9_changeTwins 54 = .ok (.iload 4, 2) := by decide +kernel
theorem dX9_changeTwins_56 : decode cX9_changeTwins 56 = .ok (.iload_n 1, 1) := by decide +kernel
theorem dX9_changeTwins_57 : decode cX9_changeTwins 57 = .ok (.iastore, 1) := by decide +kernel
theorem dX9_changeTwins_58 : decode cX9_changeTwins 58 = .ok (.aload_n 0, 1) := by decide +kernel
theorem dX9_changeTwins_59 : decode cX9_changeTwins 59 = .ok (.getfield 27, 3) := by decide +kernel
theorem dX9_changeTwins_62 : decode cX9_changeTwins 62 = .ok (.iload_n 2, 1) := by decide +kernel
theorem dX9_changeTwins_63 : decode cX9_changeTwins 63 = .ok (.iload_n 3, 1) := by decide +kernel
theorem dX9_changeTwins_64 : decode cX9_changeTwins 64 = .ok (.iastore, 1) := by decide +kernel
theorem dX9_changeTwins_65 : decode cX9_changeTwins 65 = .ok (.aload_n 0, 1) := by decide +kernel
theorem dX9_changeTwins_66 : decode cX9_changeTwins 66 = .ok (.getfield 27, 3) := by decide +kernel
theorem dX9_changeTwins_69 : decode cX9_changeTwins 69 = .ok (.iload_n 3, 1) := by decide +kernel
theorem dX9_changeTwins_70 : decode cX9_changeTwins 70 = .ok (.iload_n 2, 1) := by decide +kernel
theorem dX9_changeTwins_71 : decode cX9_changeTwins 71 = .ok (.iastore, 1) := by decide +kernel
theorem dX9_changeTwins_72 : decode cX9_changeTwins 72 = .ok (.return_, 1) := by decide +kernel
theorem dX10_init_0 : decode cX10_init 0 = .ok (.aload_n 0, 1) := by decide +kernel
theorem dX10_init_1 : decode cX10_init 1 = .ok (.invokespecial 1, 3) := by decide +kernel
theorem dX10_init_4 : decode cX10_init 4 = .ok (.aload_n 0, 1) := by decide +kernel
theorem dX10_init_5 : decode cX10_init 5 = .ok (.new 7, 3) := by decide +kernel
theorem dX10_init_8 : decode cX10_init 8 = .ok (.dup, 1) := by decide +kernel
theorem dX10_init_9 : decode cX10_init 9 = .ok (.invokespecial 9, 3) := by decide +kernel
theorem dX10_init_12 : decode cX10_init 12 = .ok (.putfield 10, 3) := by decide +kernel
theorem dX10_init_15 : decode cX10_init 15 = .ok (.aload_n 0, 1) := by decide +kernel
theorem dX10_init_16 : decode cX10_init 16 = .ok (.new 16, 3) := by decide +kernel
theorem dX10_init_19 : decode cX10_init 19 = .ok (.dup, 1) := by decide +kernel
theorem dX10_init_20 : decode cX10_init 20 = .ok (.invokespecial 18, 3) := by decide +kernel
theorem dX10_init_23 : decode cX10_init 23 = .ok (.putfield 19, 3) := by decide +kernel
theorem dX10_init_26 : decode cX10_init 26 = .ok (.aload_n 0, 1) := by decide +kernel
theorem dX10_init_27 : decode cX10_init 27 = .ok (.new 23, 3) := by decide +kernel
theorem dX10_init_30 : decode cX10_init 30 = .ok (.dup, 1) := by decide +kernel
theorem dX10_init_31 : decode cX10_init 31 = .ok (.invokespecial 25, 3) := by decide +kernel
theorem dX10_init_34 : decode cX10_init 34 = .ok (.putfield 26, 3) := by decide +kernel
theorem dX10_init_37 : decode cX10_init 37 = .ok (.aload_n 0, 1) := by decide +kernel
theorem dX10_init_38 : decode cX10_init 38 = .ok (.new 30, 3) := by decide +kernel
theorem dX10_init_41 : decode cX10_init 41 = .ok (.dup, 1) := by decide +kernel
theorem dX10_init_42 : decode cX10_init 42 = .ok (.invokespecial 32, 3) := by decide +kernel
theorem dX10_init_45 : decode cX10_init 45 = .ok (.putfield 33, 3) := by decide +kernel
theorem dX10_init_48 : decode cX10_init 48 = .ok (.aload_n 0, 1) := by decide +kernel
theorem dX10_init_49 : decode cX10_init 49 = .ok (.new 37, 3) := by decide +kernel
theorem dX10_init_52 : decode cX10_init 52 = .ok (.dup, 1) := by decide +kernel
theorem dX10_init_53 : decode cX10_init 53 = .ok (.invokespecial 39, 3) := by decide +kernel
theorem dX10_init_56 : decode cX10_init 56 = .ok (.putfield 40, 3) := by decide +kernel
theorem dX10_init_59 : decode cX10_init 59 = .ok (.aload_n 0, 1) := by decide +kernel
theorem dX10_init_60 : decode cX10_init 60 = .ok (.iconst 3, 1) := by decide +kernel
theorem dX10_init_61 : decode cX10_init 61 = .ok (.newarray .int, 2) := by decide +kernel
theorem dX10_init_63 : decode cX10_init 63 = .ok (.putfield 44, 3) := by decide +kernel
theorem dX10_init_66 : decode cX10_init 66 = .ok (.aload_n 0, 1) := by decide +kernel
theorem dX10_init_67 : decode cX10_init 67 = .ok (.new 48, 3) := by decide +kernel
theorem dX10_init_70 : decode cX10_init 70 = .ok (.dup, 1) := by decide +kernel
theorem dX10_init_71 : decode cX10_init 71 = .ok (.invokespecial 50, 3) := by decide +kernel
theorem dX10_init_74 : decode cX10_init 74 = .ok (.putfield 51, 3) := by decide +kernel
theorem dX10_init_77 : decode cX10_init 77 = .ok (.aload_n 0, 1) := by decide +kernel
theorem dX10_init_78 : decode cX10_init 78 = .ok (.iconst (-1), 1) := by decide +kernel
theorem dX10_init_79 : decode cX10_init 79 = .ok (.putfield 55, 3) := by decide +kernel
theorem dX10_init_82 : decode cX10_init 82 = .ok (.aload_n 0, 1) := by decide +kernel
theorem dX10_init_83 : decode cX10_init 83 = .ok (.new 59, 3) := by decide +kernel
theorem dX10_init_86 : decode cX10_init 86 = .ok (.dup, 1) := by decide +kernel
theorem dX10_init_87 : decode cX10_init 87 = .ok (.invokespecial 61, 3) := by decide +kernel
theorem dX10_init_90 : decode cX10_init 90 = .ok (.putfield 62, 3) := by decide +kernel
theorem dX10_init_93 : decode cX10_init 93 = .ok (.aload_n 0, 1) := by decide +kernel
theorem dX10_init_94 : decode cX10_init 94 = .ok (.new 23, 3) := by decide +kernel
theorem dX10_init_97 : decode cX10_init 97 = .ok (.dup, 1) := by decide +kernel
theorem dX10_init_98 : decode cX10_init 98 = .ok (.invokespecial 25, 3) := by decide +kernel
theorem dX10_init_101 : decode cX10_init 101 = .ok (.putfield 66, 3) := by decide +kernel
theorem dX10_init_104 : decode cX10_init 104 = .ok (.aload_n 0, 1) := by decide +kernel
theorem dX10_init_105 : decode cX10_init 105 = .ok (.new 69, 3) := by decide +kernel
theorem dX10_init_108 : decode cX10_init 108 = .ok (.dup, 1) := by decide +kernel
theorem dX10_init_109 : decode cX10_init 109 = .ok (.invokespecial 71, 3) := by decide +kernel
theorem dX10_init_112 : decode cX10_init 112 = .ok (.putfield 72, 3) := by decide +kernel
theorem dX10_init_115 : decode cX10_init 115 = .ok (.aload_n 0, 1) := by decide +kernel
theorem dX10_init_116 : decode cX10_init 116 = .ok (.new 76, 3) := by decide +kernel
theorem dX10_init_119 : decode cX10_init 119 = .ok (.dup, 1) := by decide +kernel
theorem dX10_init_120 : decode cX10_init 120 = .ok (.invokespecial 78, 3) := by decide +kernel
theorem dX10_init_123 : decode cX10_init 123 = .ok (.putfield 79, 3) := by decide +kernel
theorem dX10_init_126 : decode cX10_init 126 = .ok (.aload_n 0, 1) := by decide +kernel
theorem dX10_init_127 : decode cX10_init 127 = .ok (.new 83, 3) := by decide +kernel
theorem dX10_init_130 : decode cX10_init 130 = .ok (.dup, 1) := by decide +kernel
theorem dX10_init_131 : decode cX10_init 131 = .ok (.invokespecial 85, 3) := by decide +kernel
theorem dX10_init_134 : decode cX10_init 134 = .ok (.putfield 86, 3) := by decide +kernel
theorem dX10_init_137 : decode cX10_init 137 = .ok (.aload_n 0, 1) := by decide +kernel
theorem dX10_init_138 : decode cX10_init 138 = .ok (.bipush 12, 2) := by decide +kernel
theorem dX10_init_140 : decode cX10_init 140 = .ok (.bipush 48, 2) := by decide +kernel
theorem dX10_init_142 : decode cX10_init 142 = .ok (.multianewarray 90 2, 4) := by decide +kernel
theorem dX10_init_146 : decode cX10_init 146 = .ok (.putfield 92, 3) := by decide +kernel
theorem dX10_init_149 : decode cX10_init 149 = .ok (.return_, 1) := by decide +kernel
theorem dX10_feed_0 : decode cX10_feed 0 = .ok (.aload_n 0, 1) := by decide +kernel
theorem dX10_feed_1 : decode cX10_feed 1 = .ok (.getfield 10, 3) := by decide +kernel
theorem dX10_feed_4 : decode cX10_feed 4 = .ok (.getfield 95, 3) := by decide +kernel
theorem dX10_feed_7 : decode cX10_feed 7 = .ok (.sipush 580, 3) := by decide +kernel
theorem dX10_feed_10 : decode cX10_feed 10 = .ok (.if_icmp .le 5, 3) := by decide +kernel
theorem dX10_feed_13 : decode cX10_feed 13 = .ok (.iconst (-1), 1) := by decide +kernel
theorem dX10_feed_14 : decode cX10_feed 14 = .ok (.ireturn, 1) := by decide +kernel
theorem dX10_feed_15 : decode cX10_feed 15 = .ok (.aload_n 0, 1) := by decide +kernel
theorem dX10_feed_16 : decode cX10_feed 16 = .ok (.getfield 10, 3) := by decide +kernel
theorem dX10_feed_19 : decode cX10_feed 19 = .ok (.iload_n 1, 1) := by decide +kernel
theorem dX10_feed_20 : decode cX10_feed 20 = .ok (.invokevirtual 98, 3) := by decide +kernel
theorem dX10_feed_23 : decode cX10_feed 23 = .ok (.aload_n 0, 1) := by decide +kernel
theorem dX10_feed_24 : decode cX10_feed 24 = .ok (.getfield 10, 3) := by decide +kernel
theorem dX10_feed_27 : decode cX10_feed 27 = .ok (.iload_n 2, 1) := by decide +kernel
theorem dX10_feed_28 : decode cX10_feed 28 = .ok (.invokevirtual 98, 3) := by decide +kernel
theorem dX10_feed_31 : decode cX10_feed 31 = .ok (.aload_n 0, 1) := by decide +kernel
theorem dX10_feed_32 : decode cX10_feed 32 = .ok (.getfield 10, 3) := by decide +kernel
theorem dX10_feed_35 : decode cX10_feed 35 = .ok (.iload_n 3, 1) := by decide +kernel
theorem dX10_feed_36 : decode cX10_feed 36 = .ok (.invokevirtual 98, 3) := by decide +kernel
theorem dX10_feed_39 : decode cX10_feed 39 = .ok (.aload_n 0, 1) := by decide +kernel
theorem dX10_feed_40 : decode cX10_feed 40 = .ok (.getfield 10, 3) := by decide +kernel
theorem dX10_feed_43 : decode cX10_feed 43 = .ok (.iload 4, 2) := by decide +kernel
theorem dX10_feed_45 : decode cX10_feed 45 = .ok (.invokevirtual 98, 3) := by decide +kernel
theorem dX10_feed_48 : decode cX10_feed 48 = .ok (.aload_n 0, 1) := by decide +kernel
theorem dX10_feed_49 : decode cX10_feed 49 = .ok (.getfield 10, 3) := by decide +kernel
theorem dX10_feed_52 : decode cX10_feed 52 = .ok (.iload 5, 2) := by decide +kernel
theorem dX10_feed_54 : decode cX10_feed 54 = .ok (.invokevirtual 98, 3) := by decide +kernel
theorem dX10_feed_57 : decode cX10_feed 57 = .ok (.aload_n 0, 1) := by decide +kernel
theorem dX10_feed_58 : decode cX10_feed 58 = .ok (.getfield 10, 3) := by decide +kernel
theorem dX10_feed_61 : decode cX10_feed 61 = .ok (.getfield 95, 3) := by decide +kernel
theorem dX10_feed_64 : decode cX10_feed 64 = .ok (.ireturn, 1) := by decide +kernel
theorem dX10_street_0 : decode cX10_street 0 = .ok (.iload_n 1, 1) := by decide +kernel
theorem dX10_street_1 : decode cX10_street 1 = .ok (.ifCond .lt 14, 3) := by decide +kernel
theorem dX10_street_4 : decode cX10_street 4 = .ok (.iload_n 1, 1) := by decide +kernel
theorem dX10_street_5 : decode cX10_street 5 = .ok (.aload_n 0, 1) := by decide +kernel
theorem dX10_street_6 : decode cX10_street 6 = .ok (.getfield 10, 3) := by decide +kernel
theorem dX10_street_9 : decode cX10_street 9 = .ok (.getfield 95, 3) := by decide +kernel
theorem dX10_street_12 : decode cX10_street 12 = .ok (.if_icmp .le 13, 3) := by decide +kernel
theorem dX10_street_15 : decode cX10_street 15 = .ok (.new 102, 3) := by decide +kernel
theorem dX10_street_18 : decode cX10_street 18 = .ok (.dup, 1) := by decide +kernel
theorem dX10_street_19 : decode cX10_street 19 = .ok (.ldc 104, 2) := by decide +kernel
theorem dX10_street_21 : decode cX10_street 21 = .ok (.invokespecial 106, 3) := by decide +kernel
theorem dX10_street_24 : decode cX10_street 24 = .ok (.athrow, 1) := by decide +kernel
theorem dX10_street_25 : decode cX10_street 25 = .ok (.aload_n 0, 1) := by decide +kernel
theorem dX10_street_26 : decode cX10_street 26 = .ok (.getfield 10, 3) := by decide +kernel
theorem dX10_street_29 : decode cX10_street 29 = .ok (.iload_n 1, 1) := by decide +kernel
theorem dX10_street_30 : decode cX10_street 30 = .ok (.invokevirtual 109, 3) := by decide +kernel
theorem dX10_street_33 : decode cX10_street 33 = .ok (.istore_n 2, 1) := by decide +kernel
theorem dX10_street_34 : decode cX10_street 34 = .ok (.aload_n 0, 1) := by decide +kernel
theorem dX10_street_35 : decode cX10_street 35 = .ok (.aload_n 0, 1) := by decide +kernel
theorem dX10_street_36 : decode cX10_street 36 = .ok (.getfield 10, 3) := by decide +kernel
theorem dX10_street_39 : decode cX10_street 39 = .ok (.getfield 113, 3) := by decide +kernel
theorem dX10_street_42 : decode cX10_street 42 = .ok (.putfield 55, 3) := by decide +kernel
theorem dX10_street_45 : decode cX10_street 45 = .ok (.iload_n 2, 1) := by decide +kernel
theorem dX10_street_46 : decode cX10_street 46 = .ok (.ifCond .eq 15, 3) := by decide +kernel
theorem dX10_street_49 : decode cX10_street 49 = .ok (.aload_n 0, 1) := by decide +kernel
theorem dX10_street_50 : decode cX10_street 50 = .ok (.getfield 44, 3) := by decide +kernel
theorem dX10_street_53 : decode cX10_street 53 = .ok (.iconst 0, 1) := by decide +kernel
theorem dX10_street_54 : decode cX10_street 54 = .ok (.dup2, 1) := by decide +kernel
theorem dX10_street_55 : decode cX10_street 55 = .ok (.iaload, 1) := by decide +kernel
theorem dX10_street_56 : decode cX10_street 56 = .ok (.iconst 1, 1) := by decide +kernel
theorem dX10_street_57 : decode cX10_street 57 = .ok (.iadd, 1) := by decide +kernel
theorem dX10_street_58 : decode cX10_street 58 = .ok (.iastore, 1) := by decide +kernel
theorem dX10_street_59 : decode cX10_street 59 = .ok (.iload_n 2, 1) := by decide +kernel
theorem dX10_street_60 : decode cX10_street 60 = .ok (.ireturn, 1) := by decide +kernel
theorem dX10_street_61 : decode cX10_street 61 = .ok (.aload_n 0, 1) := by decide +kernel
theorem dX10_street_62 : decode cX10_street 62 = .ok (.getfield 26, 3) := by decide +kernel
theorem dX10_street_65 : decode cX10_street 65 = .ok (.aload_n 0, 1) := by decide +kernel
theorem dX10_street_66 : decode cX10_street 66 = .ok (.getfield 10, 3) := by decide +kernel
theorem dX10_street_69 : decode cX10_street 69 = .ok (.getfield 116, 3) := by decide +kernel
theorem dX10_street_72 : decode cX10_street 72 = .ok (.invokevirtual 119, 3) := by decide +kernel
theorem dX10_street_75 : decode cX10_street 75 = .ok (.aload_n 0, 1) := by decide +kernel
theorem dX10_street_76 : decode cX10_street 76 = .ok (.getfield 19, 3) := by decide +kernel
theorem dX10_street_79 : decode cX10_street 79 = .ok (.aload_n 0, 1) := by decide +kernel
theorem dX10_street_80 : decode cX10_street 80 = .ok (.getfield 10, 3) := by decide +kernel
theorem dX10_street_83 : decode cX10_street 83 = .ok (.getfield 123, 3) := by decide +kernel
theorem dX10_street_86 : decode cX10_street 86 = .ok (.invokevirtual 124, 3) := by decide +kernel
theorem dX10_street_89 : decode cX10_street 89 = .ok (.aload_n 0, 1) := by decide +kernel
theorem dX10_street_90 : decode cX10_street 90 = .ok (.getfield 33, 3) := by decide +kernel
theorem dX10_street_93 : decode cX10_street 93 = .ok (.invokevirtual 127, 3) := by decide +kernel
theorem dX10_street_96 : decode cX10_street 96 = .ok (.aload_n 0, 1) := by decide +kernel
theorem dX10_street_97 : decode cX10_street 97 = .ok (.getfield 40, 3) := by decide +kernel
theorem dX10_street_100 : decode cX10_street 100 = .ok (.invokevirtual 130, 3) := by decide +kernel
theorem dX10_street_103 : decode cX10_street 103 = .ok (.aload_n 0, 1) := by decide +kernel
theorem dX10_street_104 : decode cX10_street 104 = .ok (.getfield 51, 3) := by decide +kernel
theorem dX10_street_107 : decode cX10_street 107 = .ok (.iconst 0, 1) := by decide +kernel
theorem dX10_street_108 : decode cX10_street 108 = .ok (.putfield 131, 3) := by decide +kernel
theorem dX10_street_111 : decode cX10_street 111 = .ok (.iconst 0, 1) := by decide +kernel
theorem dX10_street_112 : decode cX10_street 112 = .ok (.ireturn, 1) := by decide +kernel
theorem dX10_fault_0 : decode cX10_fault 0 = .ok (.aload_n 0, 1) := by decide +kernel
theorem dX10_fault_1 : decode cX10_fault 1 = .ok (.getfield 55, 3) := by decide +kernel
theorem dX10_fault_4 : decode cX10_fault 4 = .ok (.ireturn, 1) := by decide +kernel
theorem dX10_count_0 : decode cX10_count 0 = .ok (.iload_n 1, 1) := by decide +kernel
theorem dX10_count_1 : decode cX10_count 1 = .ok (.tableswitch 239 0 16 #[83, 91, 99, 120, 128, 136, 144, 152, 160, 168, 176, 194, 202, 210, 218, 225, 232], 83) := by decide +kernel
theorem dX10_count_84 : decode cX10_count 84 = .ok (.aload_n 0, 1) := by decide +kernel
theorem dX10_count_85 : decode cX10_count 85 = .ok (.getfield 26, 3) := by decide +kernel
theorem dX10_count_88 : decode cX10_count 88 = .ok (.getfield 135, 3) := by decide +kernel
theorem dX10_count_91 : decode cX10_count 91 = .ok (.ireturn, 1) := by decide +kernel
theorem dX10_count_92 : decode cX10_count 92 = .ok (.aload_n 0, 1) := by decide +kernel
theorem dX10_count_93 : decode cX10_count 93 = .ok (.getfield 26, 3) := by decide +kernel
theorem dX10_count_96 : decode cX10_count 96 = .ok (.getfield 138, 3) := by decide +kernel
theorem dX10_count_99 : decode cX10_count 99 = .ok (.ireturn, 1) := by decide +kernel
theorem dX10_count_100 : decode cX10_count 100 = .ok (.aload_n 0, 1) := by decide +kernel
theorem dX10_count_101 : decode cX10_count 101 = .ok (.getfield 26, 3) := by decide +kernel
theorem dX10_count_104 : decode cX10_count 104 = .ok (.getfield 138, 3) := by decide +kernel
theorem dX10_count_107 : decode cX10_count 107 = .ok (.aload_n 0, 1) := by decide +kernel
theorem dX10_count_108 : decode cX10_count 108 = .ok (.getfield 26, 3) := by decide +kernel
theorem dX10_count_111 : decode cX10_count 111 = .ok (.invokevirtual 141, 3) := by decide +kernel
theorem dX10_count_114 : decode cX10_count 114 = .ok (.invokestatic 145, 3) := by decide +kernel
theorem dX10_count_117 : decode cX10_count 117 = .ok (.isub, 1) := by decide +kernel
theorem dX10_count_118 : decode cX10_count 118 = .ok (.iconst 2, 1) := by decide +kernel
theorem dX10_count_119 : decode cX10_count 119 = .ok (.idiv, 1) := by decide +kernel
theorem dX10_count_120 : decode cX10_count 120 = .ok (.ireturn, 1) := by decide +kernel
theorem dX10_count_121 : decode cX10_count 121 = .ok (.aload_n 0, 1) := by decide +kernel
theorem dX10_count_122 : decode cX10_count 122 = .ok (.getfield 26, 3) := by decide +kernel
theorem dX10_count_125 : decode cX10_count 125 = .ok (.getfield 150, 3) := by decide +kernel
theorem dX10_count_128 : decode cX10_count 128 = .ok (.ireturn, 1) := by decide +kernel
theorem dX10_count_129 : decode cX10_count 129 = .ok (.aload_n 0, 1) := by decide +kernel
theorem dX10_count_130 : decode cX10_count 130 = .ok (.getfield 26, 3) := by decide +kernel
theorem dX10_count_133 : decode cX10_count 133 = .ok (.getfield 153, 3) := by decide +kernel
theorem dX10_count_136 : decode cX10_count 136 = .ok (.ireturn, 1) := by decide +kernel
theorem dX10_count_137 : decode cX10_count 137 = .ok (.aload_n 0, 1) := by decide +kernel
theorem dX10_count_138 : decode cX10_count 138 = .ok (.getfield 26, 3) := by decide +kernel
theorem dX10_count_141 : decode cX10_count 141 = .ok (.getfield 156, 3) := by decide +kernel
theorem dX10_count_144 : decode cX10_count 144 = .ok (.ireturn, 1) := by decide +kernel
theorem dX10_count_145 : decode cX10_count 145 = .ok (.aload_n 0, 1) := by decide +kernel
theorem dX10_count_146 : decode cX10_count 146 = .ok (.getfield 26, 3) := by decide +kernel
theorem dX10_count_149 : decode cX10_count 149 = .ok (.invokevirtual 159, 3) := by decide +kernel
theorem dX10_count_152 : decode cX10_count 152 = .ok (.ireturn, 1) := by decide +kernel
theorem dX10_count_153 : decode cX10_count 153 = .ok (.aload_n 0, 1) := by decide +kernel
theorem dX10_count_154 : decode cX10_count 154 = .ok (.getfield 26, 3) := by decide +kernel
theorem dX10_count_157 : decode cX10_count 157 = .ok (.invokevirtual 141, 3) := by decide +kernel
theorem dX10_count_160 : decode cX10_count 160 = .ok (.ireturn, 1) := by decide +kernel
theorem dX10_count_161 : decode cX10_count 161 = .ok (.aload_n 0, 1) := by decide +kernel
theorem dX10_count_162 : decode cX10_count 162 = .ok (.getfield 26, 3) := by decide +kernel
theorem dX10_count_165 : decode cX10_count 165 = .ok (.invokevirtual 162, 3) := by decide +kernel
theorem dX10_count_168 : decode cX10_count 168 = .ok (.ireturn, 1) := by decide +kernel
theorem dX10_count_169 : decode cX10_count 169 = .ok (.aload_n 0, 1) := by decide +kernel
theorem dX10_count_170 : decode cX10_count 170 = .ok (.getfield 26, 3) := by decide +kernel
theorem dX10_count_173 : decode cX10_count 173 = .ok (.invokevirtual 165, 3) := by decide +kernel
theorem dX10_count_176 : decode cX10_count 176 = .ok (.ireturn, 1) := by decide +kernel
theorem dX10_count_177 : decode cX10_count 177 = .ok (.aload_n 0, 1) := by decide +kernel
theorem dX10_count_178 : decode cX10_count 178 = .ok (.getfield 26, 3) := by decide +kernel
theorem dX10_count_181 : decode cX10_count 181 = .ok (.aload_n 0, 1) := by decide +kernel
theorem dX10_count_182 : decode cX10_count 182 = .ok (.getfield 26, 3) := by decide +kernel
theorem dX10_count_185 : decode cX10_count 185 = .ok (.getfield 150, 3) := by decide +kernel
theorem dX10_count_188 : decode cX10_count 188 = .ok (.bipush 24, 2) := by decide +kernel
theorem dX10_count_190 : decode cX10_count 190 = .ok (.irem, 1) := by decide +kernel
theorem dX10_count_191 : decode cX10_count 191 = .ok (.invokevirtual 168, 3) := by decide +kernel
theorem dX10_count_194 : decode cX10_count 194 = .ok (.ireturn, 1) := by decide +kernel
theorem dX10_count_195 : decode cX10_count 195 = .ok (.aload_n 0, 1) := by decide +kernel
theorem dX10_count_196 : decode cX10_count 196 = .ok (.getfield 33, 3) := by decide +kernel
theorem dX10_count_199 : decode cX10_count 199 = .ok (.getfield 171, 3) := by decide +kernel
theorem dX10_count_202 : decode cX10_count 202 = .ok (.ireturn, 1) := by decide +kernel
theorem dX10_count_203 : decode cX10_count 203 = .ok (.aload_n 0, 1) := by decide +kernel
theorem dX10_count_204 : decode cX10_count 204 = .ok (.getfield 40, 3) := by decide +kernel
theorem dX10_count_207 : decode cX10_count 207 = .ok (.getfield 174, 3) := by decide +kernel
theorem dX10_count_210 : decode cX10_count 210 = .ok (.ireturn, 1) := by decide +kernel
theorem dX10_count_211 : decode cX10_count 211 = .ok (.aload_n 0, 1) := by decide +kernel
theorem dX10_count_212 : decode cX10_count 212 = .ok (.getfield 10, 3) := by decide +kernel
theorem dX10_count_215 : decode cX10_count 215 = .ok (.getfield 95, 3) := by decide +kernel
theorem dX10_count_218 : decode cX10_count 218 = .ok (.ireturn, 1) := by decide +kernel
theorem dX10_count_219 : decode cX10_count 219 = .ok (.aload_n 0, 1) := by decide +kernel
theorem dX10_count_220 : decode cX10_count 220 = .ok (.getfield 44, 3) := by decide +kernel
theorem dX10_count_223 : decode cX10_count 223 = .ok (.iconst 0, 1) := by decide +kernel
theorem dX10_count_224 : decode cX10_count 224 = .ok (.iaload, 1) := by decide +kernel
theorem dX10_count_225 : decode cX10_count 225 = .ok (.ireturn, 1) := by decide +kernel
theorem dX10_count_226 : decode cX10_count 226 = .ok (.aload_n 0, 1) := by decide +kernel
theorem dX10_count_227 : decode cX10_count 227 = .ok (.getfield 44, 3) := by decide +kernel
theorem dX10_count_230 : decode cX10_count 230 = .ok (.iconst 1, 1) := by decide +kernel
theorem dX10_count_231 : decode cX10_count 231 = .ok (.iaload, 1) := by decide +kernel
theorem dX10_count_232 : decode cX10_count 232 = .ok (.ireturn, 1) := by decide +kernel
theorem dX10_count_233 : decode cX10_count 233 = .ok (.aload_n 0, 1) := by decide +kernel
theorem dX10_count_234 : decode cX10_count 234 = .ok (.getfield 44, 3) := by decide +kernel
theorem dX10_count_237 : decode cX10_count 237 = .ok (.iconst 2, 1) := by decide +kernel
theorem dX10_count_238 : decode cX10_count 238 = .ok (.iaload, 1) := by decide +kernel
theorem dX10_count_239 : decode cX10_count 239 = .ok (.ireturn, 1) := by decide +kernel
theorem dX10_count_240 : decode cX10_count 240 = .ok (.new 175, 3) := by decide +kernel
theorem dX10_count_243 : decode cX10_count 243 = .ok (.dup, 1) := by decide +kernel
theorem dX10_count_244 : decode cX10_count 244 = .ok (.ldc 177, 2) := by decide +kernel
theorem dX10_count_246 : decode cX10_count 246 = .ok (.invokespecial 179, 3) := by decide +kernel
theorem dX10_count_249 : decode cX10_count 249 = .ok (.athrow, 1) := by decide +kernel
theorem dX10_house_0 : decode cX10_house 0 = .ok (.aload_n 0, 1) := by decide +kernel
theorem dX10_house_1 : decode cX10_house 1 = .ok (.iload_n 1, 1) := by decide +kernel
theorem dX10_house_2 : decode cX10_house 2 = .ok (.invokevirtual 180, 3) := by decide +kernel
theorem dX10_house_5 : decode cX10_house 5 = .ok (.iload_n 2, 1) := by decide +kernel
theorem dX10_house_6 : decode cX10_house 6 = .ok (.tableswitch 82 0 4 #[34, 44, 54, 64, 73], 34) := by decide +kernel
theorem dX10_house_40 : decode cX10_house 40 = .ok (.aload_n 0, 1) := by decide +kernel
theorem dX10_house_41 : decode cX10_house 41 = .ok (.getfield 26, 3) := by decide +kernel
theorem dX10_house_44 : decode cX10_house 44 = .ok (.getfield 183, 3) := by decide +kernel
theorem dX10_house_47 : decode cX10_house 47 = .ok (.iload_n 1, 1) := by decide +kernel
theorem dX10_house_48 : decode cX10_house 48 = .ok (.iaload, 1) := by decide +kernel
theorem dX10_house_49 : decode cX10_house 49 = .ok (.ireturn, 1) := by decide +kernel
theorem dX10_house_50 : decode cX10_house 50 = .ok (.aload_n 0, 1) := by decide +kernel
theorem dX10_house_51 : decode cX10_house 51 = .ok (.getfield 26, 3) := by decide +kernel
theorem dX10_house_54 : decode cX10_house 54 = .ok (.getfield 186, 3) := by decide +kernel
theorem dX10_house_57 : decode cX10_house 57 = .ok (.iload_n 1, 1) := by decide +kernel
theorem dX10_house_58 : decode cX10_house 58 = .ok (.iaload, 1) := by decide +kernel
theorem dX10_house_59 : decode cX10_house 59 = .ok (.ireturn, 1) := by decide +kernel
theorem dX10_house_60 : decode cX10_house 60 = .ok (.aload_n 0, 1) := by decide +kernel
theorem dX10_house_61 : decode cX10_house 61 = .ok (.getfield 26, 3) := by decide +kernel
theorem dX10_house_64 : decode cX10_house 64 = .ok (.getfield 189, 3) := by decide +kernel
theorem dX10_house_67 : decode cX10_house 67 = .ok (.iload_n 1, 1) := by decide +kernel
theorem dX10_house_68 : decode cX10_house 68 = .ok (.iaload, 1) := by decide +kernel
theorem dX10_house_69 : decode cX10_house 69 = .ok (.ireturn, 1) := by decide +kernel
theorem dX10_house_70 : decode cX10_house 70 = .ok (.aload_n 0, 1) := by decide +kernel
theorem dX10_house_71 : decode cX10_house 71 = .ok (.getfield 26, 3) := by decide +kernel
theorem dX10_house_74 : decode cX10_house 74 = .ok (.iload_n 1, 1) := by decide +kernel
theorem dX10_house_75 : decode cX10_house 75 = .ok (.invokevirtual 192, 3) := by decide +kernel
theorem dX10_house_78 : decode cX10_house 78 = .ok (.ireturn, 1) := by decide +kernel
theorem dX10_house_79 : decode cX10_house 79 = .ok (.aload_n 0, 1) := by decide +kernel
theorem dX10_house_80 : decode cX10_house 80 = .ok (.getfield 26, 3) := by decide +kernel
theorem dX10_house_83 : decode cX10_house 83 = .ok (.iload_n 1, 1) := by decide +kernel
theorem dX10_house_84 : decode cX10_house 84 = .ok (.invokevirtual 195, 3) := by decide +kernel
theorem dX10_house_87 : decode cX10_house 87 = .ok (.ireturn, 1) := by decide +kernel
theorem dX10_house_88 : decode cX10_house 88 = .ok (.new 175, 3) := by decide +kernel
theorem dX10_house_91 : decode cX10_house 91 = .ok (.dup, 1) := by decide +kernel
theorem dX10_house_92 : decode cX10_house 92 = .ok (.ldc 198, 2) := by decide +kernel
theorem dX10_house_94 : decode cX10_house 94 = .ok (.invokespecial 179, 3) := by decide +kernel
theorem dX10_house_97 : decode cX10_house 97 = .ok (.athrow, 1) := by decide +kernel
theorem dX10_lamp_0 : decode cX10_lamp 0 = .ok (.aload_n 0, 1) := by decide +kernel
theorem dX10_lamp_1 : decode cX10_lamp 1 = .ok (.iload_n 1, 1) := by decide +kernel
theorem dX10_lamp_2 : decode cX10_lamp 2 = .ok (.invokevirtual 200, 3) := by decide +kernel
theorem dX10_lamp_5 : decode cX10_lamp 5 = .ok (.iload_n 2, 1) := by decide +kernel
theorem dX10_lamp_6 : decode cX10_lamp 6 = .ok (.tableswitch 150 0 6 #[42, 52, 62, 72, 89, 106, 137], 42) := by decide +kernel
theorem dX10_lamp_48 : decode cX10_lamp 48 = .ok (.aload_n 0, 1) := by decide +kernel
theorem dX10_lamp_49 : decode cX10_lamp 49 = .ok (.getfield 26, 3) := by decide +kernel
theorem dX10_lamp_52 : decode cX10_lamp 52 = .ok (.getfield 203, 3) := by decide +kernel
theorem dX10_lamp_55 : decode cX10_lamp 55 = .ok (.iload_n 1, 1) := by decide +kernel
theorem dX10_lamp_56 : decode cX10_lamp 56 = .ok (.iaload, 1) := by decide +kernel
theorem dX10_lamp_57 : decode cX10_lamp 57 = .ok (.ireturn, 1) := by decide +kernel
theorem dX10_lamp_58 : decode cX10_lamp 58 = .ok (.aload_n 0, 1) := by decide +kernel
theorem dX10_lamp_59 : decode cX10_lamp 59 = .ok (.getfield 26, 3) := by decide +kernel
theorem dX10_lamp_62 : decode cX10_lamp 62 = .ok (.getfield 206, 3) := by decide +kernel
theorem dX10_lamp_65 : decode cX10_lamp 65 = .ok (.iload_n 1, 1) := by decide +kernel
theorem dX10_lamp_66 : decode cX10_lamp 66 = .ok (.iaload, 1) := by decide +kernel
theorem dX10_lamp_67 : decode cX10_lamp 67 = .ok (.ireturn, 1) := by decide +kernel
theorem dX10_lamp_68 : decode cX10_lamp 68 = .ok (.aload_n 0, 1) := by decide +kernel
theorem dX10_lamp_69 : decode cX10_lamp 69 = .ok (.getfield 26, 3) := by decide +kernel
theorem dX10_lamp_72 : decode cX10_lamp 72 = .ok (.getfield 209, 3) := by decide +kernel
theorem dX10_lamp_75 : decode cX10_lamp 75 = .ok (.iload_n 1, 1) := by decide +kernel
theorem dX10_lamp_76 : decode cX10_lamp 76 = .ok (.iaload, 1) := by decide +kernel
theorem dX10_lamp_77 : decode cX10_lamp 77 = .ok (.ireturn, 1) := by decide +kernel
theorem dX10_lamp_78 : decode cX10_lamp 78 = .ok (.aload_n 0, 1) := by decide +kernel
theorem dX10_lamp_79 : decode cX10_lamp 79 = .ok (.getfield 26, 3) := by decide +kernel
theorem dX10_lamp_82 : decode cX10_lamp 82 = .ok (.iload_n 1, 1) := by decide +kernel
theorem dX10_lamp_83 : decode cX10_lamp 83 = .ok (.invokevirtual 212, 3) := by decide +kernel
theorem dX10_lamp_86 : decode cX10_lamp 86 = .ok (.ifCond .eq 7, 3) := by decide +kernel
theorem dX10_lamp_89 : decode cX10_lamp 89 = .ok (.iconst 1, 1) := by decide +kernel
theorem dX10_lamp_90 : decode cX10_lamp 90 = .ok (.goto 4, 3) := by decide +kernel
theorem dX10_lamp_93 : decode cX10_lamp 93 = .ok (.iconst 0, 1) := by decide +kernel
theorem dX10_lamp_94 : decode cX10_lamp 94 = .ok (.ireturn, 1) := by decide +kernel
theorem dX10_lamp_95 : decode cX10_lamp 95 = .ok (.aload_n 0, 1) := by decide +kernel
theorem dX10_lamp_96 : decode cX10_lamp 96 = .ok (.getfield 26, 3) := by decide +kernel
theorem dX10_lamp_99 : decode cX10_lamp 99 = .ok (.iload_n 1, 1) := by decide +kernel
theorem dX10_lamp_100 : decode cX10_lamp 100 = .ok (.invokevirtual 216, 3) := by decide +kernel
theorem dX10_lamp_103 : decode cX10_lamp 103 = .ok (.ifCond .eq 7, 3) := by decide +kernel
theorem dX10_lamp_106 : decode cX10_lamp 106 = .ok (.iconst 1, 1) := by decide +kernel
theorem dX10_lamp_107 : decode cX10_lamp 107 = .ok (.goto 4, 3) := by decide +kernel
theorem dX10_lamp_110 : decode cX10_lamp 110 = .ok (.iconst 0, 1) := by decide +kernel
theorem dX10_lamp_111 : decode cX10_lamp 111 = .ok (.ireturn, 1) := by decide +kernel
theorem dX10_lamp_112 : decode cX10_lamp 112 = .ok (.aload_n 0, 1) := by decide +kernel
theorem dX10_lamp_113 : decode cX10_lamp 113 = .ok (.getfield 19, 3) := by decide +kernel
theorem dX10_lamp_116 : decode cX10_lamp 116 = .ok (.aload_n 0, 1) := by decide +kernel
theorem dX10_lamp_117 : decode cX10_lamp 117 = .ok (.getfield 26, 3) := by decide +kernel
theorem dX10_lamp_120 : decode cX10_lamp 120 = .ok (.iload_n 1, 1) := by decide +kernel
theorem dX10_lamp_121 : decode cX10_lamp 121 = .ok (.aload_n 0, 1) := by decide +kernel
theorem dX10_lamp_122 : decode cX10_lamp 122 = .ok (.getfield 26, 3) := by decide +kernel
theorem dX10_lamp_125 : decode cX10_lamp 125 = .ok (.getfield 150, 3) := by decide +kernel
theorem dX10_lamp_128 : decode cX10_lamp 128 = .ok (.bipush 24, 2) := by decide +kernel
theorem dX10_lamp_130 : decode cX10_lamp 130 = .ok (.irem, 1) := by decide +kernel
theorem dX10_lamp_131 : decode cX10_lamp 131 = .ok (.invokevirtual 219, 3) := by decide +kernel
theorem dX10_lamp_134 : decode cX10_lamp 134 = .ok (.ifCond .eq 7, 3) := by decide +kernel
theorem dX10_lamp_137 : decode cX10_lamp 137 = .ok (.iconst 1, 1) := by decide +kernel
theorem dX10_lamp_138 : decode cX10_lamp 138 = .ok (.goto 4, 3) := by decide +kernel
theorem dX10_lamp_141 : decode cX10_lamp 141 = .ok (.iconst 0, 1) := by decide +kernel
theorem dX10_lamp_142 : decode cX10_lamp 142 = .ok (.ireturn, 1) := by decide +kernel
theorem dX10_lamp_143 : decode cX10_lamp 143 = .ok (.aload_n 0, 1) := by decide +kernel
theorem dX10_lamp_144 : decode cX10_lamp 144 = .ok (.getfield 19, 3) := by decide +kernel
theorem dX10_lamp_147 : decode cX10_lamp 147 = .ok (.aload_n 0, 1) := by decide +kernel
theorem dX10_lamp_148 : decode cX10_lamp 148 = .ok (.getfield 26, 3) := by decide +kernel
theorem dX10_lamp_151 : decode cX10_lamp 151 = .ok (.iload_n 1, 1) := by decide +kernel
theorem dX10_lamp_152 : decode cX10_lamp 152 = .ok (.invokevirtual 223, 3) := by decide +kernel
theorem dX10_lamp_155 : decode cX10_lamp 155 = .ok (.ireturn, 1) := by decide +kernel
theorem dX10_lamp_156 : decode cX10_lamp 156 = .ok (.new 175, 3) := by decide +kernel
theorem dX10_lamp_159 : decode cX10_lamp 159 = .ok (.dup, 1) := by decide +kernel
theorem dX10_lamp_160 : decode cX10_lamp 160 = .ok (.ldc 227, 2) := by decide +kernel
theorem dX10_lamp_162 : decode cX10_lamp 162 = .ok (.invokespecial 179, 3) := by decide +kernel
theorem dX10_lamp_165 : decode cX10_lamp 165 = .ok (.athrow, 1) := by decide +kernel
theorem dX10_hours_0 : decode cX10_hours 0 = .ok (.iload_n 1, 1) := by decide +kernel
theorem dX10_hours_1 : decode cX10_hours 1 = .ok (.iconst 1, 1) := by decide +kernel
theorem dX10_hours_2 : decode cX10_hours 2 = .ok (.if_icmp .lt 24, 3) := by decide +kernel
theorem dX10_hours_5 : decode cX10_hours 5 = .ok (.iload_n 1, 1) := by decide +kernel
theorem dX10_hours_6 : decode cX10_hours 6 = .ok (.bipush 48, 2) := by decide +kernel
theorem dX10_hours_8 : decode cX10_hours 8 = .ok (.if_icmp .gt 18, 3) := by decide +kernel
theorem dX10_hours_11 : decode cX10_hours 11 = .ok (.aload_n 0, 1) := by decide +kernel
theorem dX10_hours_12 : decode cX10_hours 12 = .ok (.getfield 26, 3) := by decide +kernel
theorem dX10_hours_15 : decode cX10_hours 15 = .ok (.getfield 150, 3) := by decide +kernel
theorem dX10_hours_18 : decode cX10_hours 18 = .ok (.iload_n 1, 1) := by decide +kernel
theorem dX10_hours_19 : decode cX10_hours 19 = .ok (.iadd, 1) := by decide +kernel
theorem dX10_hours_20 : decode cX10_hours 20 = .ok (.sipush 9999, 3) := by decide +kernel
theorem dX10_hours_23 : decode cX10_hours 23 = .ok (.if_icmp .le 9, 3) := by decide +kernel
theorem dX10_hours_26 : decode cX10_hours 26 = .ok (.aload_n 0, 1) := by decide +kernel
theorem dX10_hours_27 : decode cX10_hours 27 = .ok (.iconst 1, 1) := by decide +kernel
theorem dX10_hours_28 : decode cX10_hours 28 = .ok (.invokevirtual 229, 3) := by decide +kernel
theorem dX10_hours_31 : decode cX10_hours 31 = .ok (.ireturn, 1) := by decide +kernel
theorem dX10_hours_32 : decode cX10_hours 32 = .ok (.aload_n 0, 1) := by decide +kernel
theorem dX10_hours_33 : decode cX10_hours 33 = .ok (.getfield 33, 3) := by decide +kernel
theorem dX10_hours_36 : decode cX10_hours 36 = .ok (.aload_n 0, 1) := by decide +kernel
theorem dX10_hours_37 : decode cX10_hours 37 = .ok (.getfield 26, 3) := by decide +kernel
theorem dX10_hours_40 : decode cX10_hours 40 = .ok (.invokevirtual 232, 3) := by decide +kernel
theorem dX10_hours_43 : decode cX10_hours 43 = .ok (.iconst 0, 1) := by decide +kernel
theorem dX10_hours_44 : decode cX10_hours 44 = .ok (.istore_n 2, 1) := by decide +kernel
theorem dX10_hours_45 : decode cX10_hours 45 = .ok (.iload_n 2, 1) := by decide +kernel
theorem dX10_hours_46 : decode cX10_hours 46 = .ok (.iload_n 1, 1) := by decide +kernel
theorem dX10_hours_47 : decode cX10_hours 47 = .ok (.if_icmp .ge 24, 3) := by decide +kernel
theorem dX10_hours_50 : decode cX10_hours 50 = .ok (.aload_n 0, 1) := by decide +kernel
theorem dX10_hours_51 : decode cX10_hours 51 = .ok (.getfield 62, 3) := by decide +kernel
theorem dX10_hours_54 : decode cX10_hours 54 = .ok (.aload_n 0, 1) := by decide +kernel
theorem dX10_hours_55 : decode cX10_hours 55 = .ok (.getfield 19, 3) := by decide +kernel
theorem dX10_hours_58 : decode cX10_hours 58 = .ok (.aload_n 0, 1) := by decide +kernel
theorem dX10_hours_59 : decode cX10_hours 59 = .ok (.getfield 26, 3) := by decide +kernel
theorem dX10_hours_62 : decode cX10_hours 62 = .ok (.invokevirtual 235, 3) := by decide +kernel
theorem dX10_hours_65 : decode cX10_hours 65 = .ok (.iinc 2 1, 3) := by decide +kernel
theorem dX10_hours_68 : decode cX10_hours 68 = .ok (.goto (-23), 3) := by decide +kernel
theorem dX10_hours_71 : decode cX10_hours 71 = .ok (.aload_n 0, 1) := by decide +kernel
theorem dX10_hours_72 : decode cX10_hours 72 = .ok (.getfield 26, 3) := by decide +kernel
theorem dX10_hours_75 : decode cX10_hours 75 = .ok (.getfield 150, 3) := by decide +kernel
theorem dX10_hours_78 : decode cX10_hours 78 = .ok (.ireturn, 1) := by decide +kernel
theorem dX10_flick_0 : decode cX10_flick 0 = .ok (.aload_n 0, 1) := by decide +kernel
theorem dX10_flick_1 : decode cX10_flick 1 = .ok (.iload_n 1, 1) := by decide +kernel
theorem dX10_flick_2 : decode cX10_flick 2 = .ok (.invokevirtual 200, 3) := by decide +kernel
theorem dX10_flick_5 : decode cX10_flick 5 = .ok (.aload_n 0, 1) := by decide +kernel
theorem dX10_flick_6 : decode cX10_flick 6 = .ok (.getfield 26, 3) := by decide +kernel
theorem dX10_flick_9 : decode cX10_flick 9 = .ok (.iload_n 1, 1) := by decide +kernel
theorem dX10_flick_10 : decode cX10_flick 10 = .ok (.invokevirtual 212, 3) := by decide +kernel
theorem dX10_flick_13 : decode cX10_flick 13 = .ok (.ifCond .ne 20, 3) := by decide +kernel
theorem dX10_flick_16 : decode cX10_flick 16 = .ok (.aload_n 0, 1) := by decide +kernel
theorem dX10_flick_17 : decode cX10_flick 17 = .ok (.getfield 26, 3) := by decide +kernel
theorem dX10_flick_20 : decode cX10_flick 20 = .ok (.iload_n 1, 1) := by decide +kernel
theorem dX10_flick_21 : decode cX10_flick 21 = .ok (.invokevirtual 239, 3) := by decide +kernel
theorem dX10_flick_24 : decode cX10_flick 24 = .ok (.ifCond .ne 9, 3) := by decide +kernel
theorem dX10_flick_27 : decode cX10_flick 27 = .ok (.aload_n 0, 1) := by decide +kernel
theorem dX10_flick_28 : decode cX10_flick 28 = .ok (.iconst 1, 1) := by decide +kernel
theorem dX10_flick_29 : decode cX10_flick 29 = .ok (.invokevirtual 229, 3) := by decide +kernel
theorem dX10_flick_32 : decode cX10_flick 32 = .ok (.ireturn, 1) := by decide +kernel
theorem dX10_flick_33 : decode cX10_flick 33 = .ok (.aload_n 0, 1) := by decide +kernel
theorem dX10_flick_34 : decode cX10_flick 34 = .ok (.getfield 33, 3) := by decide +kernel
theorem dX10_flick_37 : decode cX10_flick 37 = .ok (.aload_n 0, 1) := by decide +kernel
theorem dX10_flick_38 : decode cX10_flick 38 = .ok (.getfield 26, 3) := by decide +kernel
theorem dX10_flick_41 : decode cX10_flick 41 = .ok (.invokevirtual 232, 3) := by decide +kernel
theorem dX10_flick_44 : decode cX10_flick 44 = .ok (.aload_n 0, 1) := by decide +kernel
theorem dX10_flick_45 : decode cX10_flick 45 = .ok (.getfield 26, 3) := by decide +kernel
theorem dX10_flick_48 : decode cX10_flick 48 = .ok (.iload_n 1, 1) := by decide +kernel
theorem dX10_flick_49 : decode cX10_flick 49 = .ok (.invokevirtual 242, 3) := by decide +kernel
theorem dX10_flick_52 : decode cX10_flick 52 = .ok (.aload_n 0, 1) := by decide +kernel
theorem dX10_flick_53 : decode cX10_flick 53 = .ok (.getfield 26, 3) := by decide +kernel
theorem dX10_flick_56 : decode cX10_flick 56 = .ok (.iload_n 1, 1) := by decide +kernel
theorem dX10_flick_57 : decode cX10_flick 57 = .ok (.invokevirtual 212, 3) := by decide +kernel
theorem dX10_flick_60 : decode cX10_flick 60 = .ok (.ifCond .eq 7, 3) := by decide +kernel
theorem dX10_flick_63 : decode cX10_flick 63 = .ok (.iconst 1, 1) := by decide +kernel
theorem dX10_flick_64 : decode cX10_flick 64 = .ok (.goto 4, 3) := by decide +kernel
theorem dX10_flick_67 : decode cX10_flick 67 = .ok (.iconst 0, 1) := by decide +kernel
theorem dX10_flick_68 : decode cX10_flick 68 = .ok (.ireturn, 1) := by decide +kernel
theorem dX10_trim_0 : decode cX10_trim 0 = .ok (.aload_n 0, 1) := by decide +kernel
theorem dX10_trim_1 : decode cX10_trim 1 = .ok (.iload_n 1, 1) := by decide +kernel
theorem dX10_trim_2 : decode cX10_trim 2 = .ok (.invokevirtual 200, 3) := by decide +kernel
theorem dX10_trim_5 : decode cX10_trim 5 = .ok (.iload_n 2, 1) := by decide +kernel
theorem dX10_trim_6 : decode cX10_trim 6 = .ok (.ifCond .lt 9, 3) := by decide +kernel
theorem dX10_trim_9 : decode cX10_trim 9 = .ok (.iload_n 2, 1) := by decide +kernel
theorem dX10_trim_10 : decode cX10_trim 10 = .ok (.bipush 99, 2) := by decide +kernel
theorem dX10_trim_12 : decode cX10_trim 12 = .ok (.if_icmp .le 9, 3) := by decide +kernel
theorem dX10_trim_15 : decode cX10_trim 15 = .ok (.aload_n 0, 1) := by decide +kernel
theorem dX10_trim_16 : decode cX10_trim 16 = .ok (.iconst 1, 1) := by decide +kernel
theorem dX10_trim_17 : decode cX10_trim 17 = .ok (.invokevirtual 229, 3) := by decide +kernel
theorem dX10_trim_20 : decode cX10_trim 20 = .ok (.ireturn, 1) := by decide +kernel
theorem dX10_trim_21 : decode cX10_trim 21 = .ok (.aload_n 0, 1) := by decide +kernel
theorem dX10_trim_22 : decode cX10_trim 22 = .ok (.getfield 33, 3) := by decide +kernel
theorem dX10_trim_25 : decode cX10_trim 25 = .ok (.aload_n 0, 1) := by decide +kernel
theorem dX10_trim_26 : decode cX10_trim 26 = .ok (.getfield 26, 3) := by decide +kernel
theorem dX10_trim_29 : decode cX10_trim 29 = .ok (.invokevirtual 232, 3) := by decide +kernel
theorem dX10_trim_32 : decode cX10_trim 32 = .ok (.aload_n 0, 1) := by decide +kernel
theorem dX10_trim_33 : decode cX10_trim 33 = .ok (.getfield 26, 3) := by decide +kernel
theorem dX10_trim_36 : decode cX10_trim 36 = .ok (.getfield 206, 3) := by decide +kernel
theorem dX10_trim_39 : decode cX10_trim 39 = .ok (.iload_n 1, 1) := by decide +kernel
theorem dX10_trim_40 : decode cX10_trim 40 = .ok (.iaload, 1) := by decide +kernel
theorem dX10_trim_41 : decode cX10_trim 41 = .ok (.istore_n 3, 1) := by decide +kernel
theorem dX10_trim_42 : decode cX10_trim 42 = .ok (.aload_n 0, 1) := by decide +kernel
theorem dX10_trim_43 : decode cX10_trim 43 = .ok (.getfield 26, 3) := by decide +kernel
theorem dX10_trim_46 : decode cX10_trim 46 = .ok (.getfield 206, 3) := by decide +kernel
theorem dX10_trim_49 : decode cX10_trim 49 = .ok (.iload_n 1, 1) := by decide +kernel
theorem dX10_trim_50 : decode cX10_trim 50 = .ok (.iload_n 2, 1) := by decide +kernel
theorem dX10_trim_51 : decode cX10_trim 51 = .ok (.iastore, 1) := by decide +kernel
theorem dX10_trim_52 : decode cX10_trim 52 = .ok (.iload_n 2, 1) := by decide +kernel
theorem dX10_trim_53 : decode cX10_trim 53 = .ok (.ifCond .ne 11, 3) := by decide +kernel
theorem dX10_trim_56 : decode cX10_trim 56 = .ok (.aload_n 0, 1) := by decide +kernel
theorem dX10_trim_57 : decode cX10_trim 57 = .ok (.getfield 26, 3) := by decide +kernel
theorem dX10_trim_60 : decode cX10_trim 60 = .ok (.iload_n 1, 1) := by decide +kernel
theorem dX10_trim_61 : decode cX10_trim 61 = .ok (.invokevirtual 245, 3) := by decide +kernel
theorem dX10_trim_64 : decode cX10_trim 64 = .ok (.iload_n 3, 1) := by decide +kernel
theorem dX10_trim_65 : decode cX10_trim 65 = .ok (.ireturn, 1) := by decide +kernel
theorem dX10_breaks_0 : decode cX10_breaks 0 = .ok (.aload_n 0, 1) := by decide +kernel
theorem dX10_breaks_1 : decode cX10_breaks 1 = .ok (.iload_n 1, 1) := by decide +kernel
theorem dX10_breaks_2 : decode cX10_breaks 2 = .ok (.invokevirtual 200, 3) := by decide +kernel
theorem dX10_breaks_5 : decode cX10_breaks 5 = .ok (.aload_n 0, 1) := by decide +kernel
theorem dX10_breaks_6 : decode cX10_breaks 6 = .ok (.getfield 26, 3) := by decide +kernel
theorem dX10_breaks_9 : decode cX10_breaks 9 = .ok (.iload_n 1, 1) := by decide +kernel
theorem dX10_breaks_10 : decode cX10_breaks 10 = .ok (.invokevirtual 216, 3) := by decide +kernel
theorem dX10_breaks_13 : decode cX10_breaks 13 = .ok (.ifCond .eq 11, 3) := by decide +kernel
theorem dX10_breaks_16 : decode cX10_breaks 16 = .ok (.aload_n 0, 1) := by decide +kernel
theorem dX10_breaks_17 : decode cX10_breaks 17 = .ok (.iconst 1, 1) := by decide +kernel
theorem dX10_breaks_18 : decode cX10_breaks 18 = .ok (.invokevirtual 229, 3) := by decide +kernel
theorem dX10_breaks_21 : decode cX10_breaks 21 = .ok (.pop, 1) := by decide +kernel
theorem dX10_breaks_22 : decode cX10_breaks 22 = .ok (.iconst 0, 1) := by decide +kernel
theorem dX10_breaks_23 : decode cX10_breaks 23 = .ok (.ireturn, 1) := by decide +kernel
theorem dX10_breaks_24 : decode cX10_breaks 24 = .ok (.aload_n 0, 1) := by decide +kernel
theorem dX10_breaks_25 : decode cX10_breaks 25 = .ok (.getfield 33, 3) := by decide +kernel
theorem dX10_breaks_28 : decode cX10_breaks 28 = .ok (.aload_n 0, 1) := by decide +kernel
theorem dX10_breaks_29 : decode cX10_breaks 29 = .ok (.getfield 26, 3) := by decide +kernel
theorem dX10_breaks_32 : decode cX10_breaks 32 = .ok (.invokevirtual 232, 3) := by decide +kernel
theorem dX10_breaks_35 : decode cX10_breaks 35 = .ok (.aload_n 0, 1) := by decide +kernel
theorem dX10_breaks_36 : decode cX10_breaks 36 = .ok (.getfield 26, 3) := by decide +kernel
theorem dX10_breaks_39 : decode cX10_breaks 39 = .ok (.iload_n 1, 1) := by decide +kernel
theorem dX10_breaks_40 : decode cX10_breaks 40 = .ok (.invokevirtual 248, 3) := by decide +kernel
theorem dX10_breaks_43 : decode cX10_breaks 43 = .ok (.iconst 1, 1) := by decide +kernel
theorem dX10_breaks_44 : decode cX10_breaks 44 = .ok (.ireturn, 1) := by decide +kernel
theorem dX10_give_0 : decode cX10_give 0 = .ok (.aload_n 0, 1) := by decide +kernel
theorem dX10_give_1 : decode cX10_give 1 = .ok (.iload_n 1, 1) := by decide +kernel
theorem dX10_give_2 : decode cX10_give 2 = .ok (.invokevirtual 200, 3) := by decide +kernel
theorem dX10_give_5 : decode cX10_give 5 = .ok (.aload_n 0, 1) := by decide +kernel
theorem dX10_give_6 : decode cX10_give 6 = .ok (.iload_n 2, 1) := by decide +kernel
theorem dX10_give_7 : decode cX10_give 7 = .ok (.invokevirtual 180, 3) := by decide +kernel
theorem dX10_give_10 : decode cX10_give 10 = .ok (.aload_n 0, 1) := by decide +kernel
theorem dX10_give_11 : decode cX10_give 11 = .ok (.getfield 26, 3) := by decide +kernel
theorem dX10_give_14 : decode cX10_give 14 = .ok (.getfield 203, 3) := by decide +kernel
theorem dX10_give_17 : decode cX10_give 17 = .ok (.iload_n 1, 1) := by decide +kernel
theorem dX10_give_18 : decode cX10_give 18 = .ok (.iaload, 1) := by decide +kernel
theorem dX10_give_19 : decode cX10_give 19 = .ok (.istore_n 3, 1) := by decide +kernel
theorem dX10_give_20 : decode cX10_give 20 = .ok (.iload_n 3, 1) := by decide +kernel
theorem dX10_give_21 : decode cX10_give 21 = .ok (.iload_n 2, 1) := by decide +kernel
theorem dX10_give_22 : decode cX10_give 22 = .ok (.if_icmp .ne 9, 3) := by decide +kernel
theorem dX10_give_25 : decode cX10_give 25 = .ok (.aload_n 0, 1) := by decide +kernel
theorem dX10_give_26 : decode cX10_give 26 = .ok (.iconst 1, 1) := by decide +kernel
theorem dX10_give_27 : decode cX10_give 27 = .ok (.invokevirtual 229, 3) := by decide +kernel
theorem dX10_give_30 : decode cX10_give 30 = .ok (.ireturn, 1) := by decide +kernel
theorem dX10_give_31 : decode cX10_give 31 = .ok (.aload_n 0, 1) := by decide +kernel
theorem dX10_give_32 : decode cX10_give 32 = .ok (.getfield 33, 3) := by decide +kernel
theorem dX10_give_35 : decode cX10_give 35 = .ok (.aload_n 0, 1) := by decide +kernel
theorem dX10_give_36 : decode cX10_give 36 = .ok (.getfield 26, 3) := by decide +kernel
theorem dX10_give_39 : decode cX10_give 39 = .ok (.invokevirtual 232, 3) := by decide +kernel
theorem dX10_give_42 : decode cX10_give 42 = .ok (.aload_n 0, 1) := by decide +kernel
theorem dX10_give_43 : decode cX10_give 43 = .ok (.getfield 26, 3) := by decide +kernel
theorem dX10_give_46 : decode cX10_give 46 = .ok (.getfield 203, 3) := by decide +kernel
theorem dX10_give_49 : decode cX10_give 49 = .ok (.iload_n 1, 1) := by decide +kernel
theorem dX10_give_50 : decode cX10_give 50 = .ok (.iload_n 2, 1) := by decide +kernel
theorem dX10_give_51 : decode cX10_give 51 = .ok (.iastore, 1) := by decide +kernel
theorem dX10_give_52 : decode cX10_give 52 = .ok (.iload_n 3, 1) := by decide +kernel
theorem dX10_give_53 : decode cX10_give 53 = .ok (.ireturn, 1) := by decide +kernel
theorem dX10_sleep_0 : decode cX10_sleep 0 = .ok (.aload_n 0, 1) := by decide +kernel
theorem dX10_sleep_1 : decode cX10_sleep 1 = .ok (.iload_n 1, 1) := by decide +kernel
theorem dX10_sleep_2 : decode cX10_sleep 2 = .ok (.invokevirtual 180, 3) := by decide +kernel
theorem dX10_sleep_5 : decode cX10_sleep 5 = .ok (.iload_n 2, 1) := by decide +kernel
theorem dX10_sleep_6 : decode cX10_sleep 6 = .ok (.invokestatic 251, 3) := by decide +kernel
theorem dX10_sleep_9 : decode cX10_sleep 9 = .ok (.ifCond .eq 10, 3) := by decide +kernel
theorem dX10_sleep_12 : decode cX10_sleep 12 = .ok (.iload_n 3, 1) := by decide +kernel
theorem dX10_sleep_13 : decode cX10_sleep 13 = .ok (.invokestatic 251, 3) := by decide +kernel
theorem dX10_sleep_16 : decode cX10_sleep 16 = .ok (.ifCond .ne 9, 3) := by decide +kernel
theorem dX10_sleep_19 : decode cX10_sleep 19 = .ok (.aload_n 0, 1) := by decide +kernel
theorem dX10_sleep_20 : decode cX10_sleep 20 = .ok (.iconst 1, 1) := by decide +kernel
theorem dX10_sleep_21 : decode cX10_sleep 21 = .ok (.invokevirtual 229, 3) := by decide +kernel
theorem dX10_sleep_24 : decode cX10_sleep 24 = .ok (.ireturn, 1) := by decide +kernel
theorem dX10_sleep_25 : decode cX10_sleep 25 = .ok (.aload_n 0, 1) := by decide +kernel
theorem dX10_sleep_26 : decode cX10_sleep 26 = .ok (.getfield 33, 3) := by decide +kernel
theorem dX10_sleep_29 : decode cX10_sleep 29 = .ok (.aload_n 0, 1) := by decide +kernel
theorem dX10_sleep_30 : decode cX10_sleep 30 = .ok (.getfield 26, 3) := by decide +kernel
theorem dX10_sleep_33 : decode cX10_sleep 33 = .ok (.invokevirtual 232, 3) := by decide +kernel
theorem dX10_sleep_36 : decode cX10_sleep 36 = .ok (.aload_n 0, 1) := by decide +kernel
theorem dX10_sleep_37 : decode cX10_sleep 37 = .ok (.getfield 26, 3) := by decide +kernel
theorem dX10_sleep_40 : decode cX10_sleep 40 = .ok (.getfield 186, 3) := by decide +kernel
theorem dX10_sleep_43 : decode cX10_sleep 43 = .ok (.iload_n 1, 1) := by decide +kernel
theorem dX10_sleep_44 : decode cX10_sleep 44 = .ok (.iaload, 1) := by decide +kernel
theorem dX10_sleep_45 : decode cX10_sleep 45 = .ok (.bipush 24, 2) := by decide +kernel
theorem dX10_sleep_47 : decode cX10_sleep 47 = .ok (.imul, 1) := by decide +kernel
theorem dX10_sleep_48 : decode cX10_sleep 48 = .ok (.aload_n 0, 1) := by decide +kernel
theorem dX10_sleep_49 : decode cX10_sleep 49 = .ok (.getfield 26, 3) := by decide +kernel
theorem dX10_sleep_52 : decode cX10_sleep 52 = .ok (.getfield 189, 3) := by decide +kernel
theorem dX10_sleep_55 : decode cX10_sleep 55 = .ok (.iload_n 1, 1) := by decide +kernel
theorem dX10_sleep_56 : decode cX10_sleep 56 = .ok (.iaload, 1) := by decide +kernel
theorem dX10_sleep_57 : decode cX10_sleep 57 = .ok (.iadd, 1) := by decide +kernel
theorem dX10_sleep_58 : decode cX10_sleep 58 = .ok (.istore 4, 2) := by decide +kernel
theorem dX10_sleep_60 : decode cX10_sleep 60 = .ok (.aload_n 0, 1) := by decide +kernel
theorem dX10_sleep_61 : decode cX10_sleep 61 = .ok (.getfield 26, 3) := by decide +kernel
theorem dX10_sleep_64 : decode cX10_sleep 64 = .ok (.getfield 186, 3) := by decide +kernel
theorem dX10_sleep_67 : decode cX10_sleep 67 = .ok (.iload_n 1, 1) := by decide +kernel
theorem dX10_sleep_68 : decode cX10_sleep 68 = .ok (.iload_n 2, 1) := by decide +kernel
theorem dX10_sleep_69 : decode cX10_sleep 69 = .ok (.iastore, 1) := by decide +kernel
theorem dX10_sleep_70 : decode cX10_sleep 70 = .ok (.aload_n 0, 1) := by decide +kernel
theorem dX10_sleep_71 : decode cX10_sleep 71 = .ok (.getfield 26, 3) := by decide +kernel
theorem dX10_sleep_74 : decode cX10_sleep 74 = .ok (.getfield 189, 3) := by decide +kernel
theorem dX10_sleep_77 : decode cX10_sleep 77 = .ok (.iload_n 1, 1) := by decide +kernel
theorem dX10_sleep_78 : decode cX10_sleep 78 = .ok (.iload_n 3, 1) := by decide +kernel
theorem dX10_sleep_79 : decode cX10_sleep 79 = .ok (.iastore, 1) := by decide +kernel
theorem dX10_sleep_80 : decode cX10_sleep 80 = .ok (.iload 4, 2) := by decide +kernel
theorem dX10_sleep_82 : decode cX10_sleep 82 = .ok (.ireturn, 1) := by decide +kernel
theorem dX10_undo_0 : decode cX10_undo 0 = .ok (.aload_n 0, 1) := by decide +kernel
theorem dX10_undo_1 : decode cX10_undo 1 = .ok (.getfield 33, 3) := by decide +kernel
theorem dX10_undo_4 : decode cX10_undo 4 = .ok (.getfield 171, 3) := by decide +kernel
theorem dX10_undo_7 : decode cX10_undo 7 = .ok (.ifCond .ne 5, 3) := by decide +kernel
theorem dX10_undo_10 : decode cX10_undo 10 = .ok (.iconst (-1), 1) := by decide +kernel
theorem dX10_undo_11 : decode cX10_undo 11 = .ok (.ireturn, 1) := by decide +kernel
theorem dX10_undo_12 : decode cX10_undo 12 = .ok (.aload_n 0, 1) := by decide +kernel
theorem dX10_undo_13 : decode cX10_undo 13 = .ok (.getfield 33, 3) := by decide +kernel
theorem dX10_undo_16 : decode cX10_undo 16 = .ok (.aload_n 0, 1) := by decide +kernel
theorem dX10_undo_17 : decode cX10_undo 17 = .ok (.getfield 26, 3) := by decide +kernel
theorem dX10_undo_20 : decode cX10_undo 20 = .ok (.invokevirtual 254, 3) := by decide +kernel
theorem dX10_undo_23 : decode cX10_undo 23 = .ok (.aload_n 0, 1) := by decide +kernel
theorem dX10_undo_24 : decode cX10_undo 24 = .ok (.getfield 33, 3) := by decide +kernel
theorem dX10_undo_27 : decode cX10_undo 27 = .ok (.getfield 171, 3) := by decide +kernel
theorem dX10_undo_30 : decode cX10_undo 30 = .ok (.ireturn, 1) := by decide +kernel
theorem dX10_then_0 : decode cX10_then 0 = .ok (.iload_n 1, 1) := by decide +kernel
theorem dX10_then_1 : decode cX10_then 1 = .ok (.iconst 1, 1) := by decide +kernel
theorem dX10_then_2 : decode cX10_then 2 = .ok (.if_icmp .lt 9, 3) := by decide +kernel
theorem dX10_then_5 : decode cX10_then 5 = .ok (.iload_n 1, 1) := by decide +kernel
theorem dX10_then_6 : decode cX10_then 6 = .ok (.bipush 96, 2) := by decide +kernel
theorem dX10_then_8 : decode cX10_then 8 = .ok (.if_icmp .le 14, 3) := by decide +kernel
theorem dX10_then_11 : decode cX10_then 11 = .ok (.new 102, 3) := by decide +kernel
theorem dX10_then_14 : decode cX10_then 14 = .ok (.dup, 1) := by decide +kernel
theorem dX10_then_15 : decode cX10_then 15 = .ok (.ldc_w 257, 3) := by decide +kernel
theorem dX10_then_18 : decode cX10_then 18 = .ok (.invokespecial 106, 3) := by decide +kernel
theorem dX10_then_21 : decode cX10_then 21 = .ok (.athrow, 1) := by decide +kernel
theorem dX10_then_22 : decode cX10_then 22 = .ok (.aload_n 0, 1) := by decide +kernel
theorem dX10_then_23 : decode cX10_then 23 = .ok (.getfield 66, 3) := by decide +kernel
theorem dX10_then_26 : decode cX10_then 26 = .ok (.aload_n 0, 1) := by decide +kernel
theorem dX10_then_27 : decode cX10_then 27 = .ok (.getfield 26, 3) := by decide +kernel
theorem dX10_then_30 : decode cX10_then 30 = .ok (.invokevirtual 119, 3) := by decide +kernel
theorem dX10_then_33 : decode cX10_then 33 = .ok (.iconst 0, 1) := by decide +kernel
theorem dX10_then_34 : decode cX10_then 34 = .ok (.istore_n 2, 1) := by decide +kernel
theorem dX10_then_35 : decode cX10_then 35 = .ok (.iload_n 2, 1) := by decide +kernel
theorem dX10_then_36 : decode cX10_then 36 = .ok (.iload_n 1, 1) := by decide +kernel
theorem dX10_then_37 : decode cX10_then 37 = .ok (.if_icmp .ge 24, 3) := by decide +kernel
theorem dX10_then_40 : decode cX10_then 40 = .ok (.aload_n 0, 1) := by decide +kernel
theorem dX10_then_41 : decode cX10_then 41 = .ok (.getfield 62, 3) := by decide +kernel
theorem dX10_then_44 : decode cX10_then 44 = .ok (.aload_n 0, 1) := by decide +kernel
theorem dX10_then_45 : decode cX10_then 45 = .ok (.getfield 19, 3) := by decide +kernel
theorem dX10_then_48 : decode cX10_then 48 = .ok (.aload_n 0, 1) := by decide +kernel
theorem dX10_then_49 : decode cX10_then 49 = .ok (.getfield 66, 3) := by decide +kernel
theorem dX10_then_52 : decode cX10_then 52 = .ok (.invokevirtual 235, 3) := by decide +kernel
theorem dX10_then_55 : decode cX10_then 55 = .ok (.iinc 2 1, 3) := by decide +kernel
theorem dX10_then_58 : decode cX10_then 58 = .ok (.goto (-23), 3) := by decide +kernel
theorem dX10_then_61 : decode cX10_then 61 = .ok (.aload_n 0, 1) := by decide +kernel
theorem dX10_then_62 : decode cX10_then 62 = .ok (.getfield 62, 3) := by decide +kernel
theorem dX10_then_65 : decode cX10_then 65 = .ok (.getfield 259, 3) := by decide +kernel
theorem dX10_then_68 : decode cX10_then 68 = .ok (.ireturn, 1) := by decide +kernel
theorem dX10_burnt_0 : decode cX10_burnt 0 = .ok (.aload_n 0, 1) := by decide +kernel
theorem dX10_burnt_1 : decode cX10_burnt 1 = .ok (.iload_n 1, 1) := by decide +kernel
theorem dX10_burnt_2 : decode cX10_burnt 2 = .ok (.invokevirtual 200, 3) := by decide +kernel
theorem dX10_burnt_5 : decode cX10_burnt 5 = .ok (.iload_n 2, 1) := by decide +kernel
theorem dX10_burnt_6 : decode cX10_burnt 6 = .ok (.invokestatic 262, 3) := by decide +kernel
theorem dX10_burnt_9 : decode cX10_burnt 9 = .ok (.aload_n 0, 1) := by decide +kernel
theorem dX10_burnt_10 : decode cX10_burnt 10 = .ok (.getfield 66, 3) := by decide +kernel
theorem dX10_burnt_13 : decode cX10_burnt 13 = .ok (.aload_n 0, 1) := by decide +kernel
theorem dX10_burnt_14 : decode cX10_burnt 14 = .ok (.getfield 26, 3) := by decide +kernel
theorem dX10_burnt_17 : decode cX10_burnt 17 = .ok (.invokevirtual 119, 3) := by decide +kernel
theorem dX10_burnt_20 : decode cX10_burnt 20 = .ok (.iconst 0, 1) := by decide +kernel
theorem dX10_burnt_21 : decode cX10_burnt 21 = .ok (.istore_n 3, 1) := by decide +kernel
theorem dX10_burnt_22 : decode cX10_burnt 22 = .ok (.iload_n 3, 1) := by decide +kernel
theorem dX10_burnt_23 : decode cX10_burnt 23 = .ok (.iload_n 2, 1) := by decide +kernel
theorem dX10_burnt_24 : decode cX10_burnt 24 = .ok (.if_icmp .ge 24, 3) := by decide +kernel
theorem dX10_burnt_27 : decode cX10_burnt 27 = .ok (.aload_n 0, 1) := by decide +kernel
theorem dX10_burnt_28 : decode cX10_burnt 28 = .ok (.getfield 62, 3) := by decide +kernel
theorem dX10_burnt_31 : decode cX10_burnt 31 = .ok (.aload_n 0, 1) := by decide +kernel
theorem dX10_burnt_32 : decode cX10_burnt 32 = .ok (.getfield 19, 3) := by decide +kernel
theorem dX10_burnt_35 : decode cX10_burnt 35 = .ok (.aload_n 0, 1) := by decide +kernel
theorem dX10_burnt_36 : decode cX10_burnt 36 = .ok (.getfield 66, 3) := by decide +kernel
theorem dX10_burnt_39 : decode cX10_burnt 39 = .ok (.invokevirtual 235, 3) := by decide +kernel
theorem dX10_burnt_42 : decode cX10_burnt 42 = .ok (.iinc 3 1, 3) := by decide +kernel
theorem dX10_burnt_45 : decode cX10_burnt 45 = .ok (.goto (-23), 3) := by decide +kernel
theorem dX10_burnt_48 : decode cX10_burnt 48 = .ok (.aload_n 0, 1) := by decide +kernel
theorem dX10_burnt_49 : decode cX10_burnt 49 = .ok (.getfield 26, 3) := by decide +kernel
theorem dX10_burnt_52 : decode cX10_burnt 52 = .ok (.getfield 206, 3) := by decide +kernel
theorem dX10_burnt_55 : decode cX10_burnt 55 = .ok (.iload_n 1, 1) := by decide +kernel
theorem dX10_burnt_56 : decode cX10_burnt 56 = .ok (.iaload, 1) := by decide +kernel
theorem dX10_burnt_57 : decode cX10_burnt 57 = .ok (.aload_n 0, 1) := by decide +kernel
theorem dX10_burnt_58 : decode cX10_burnt 58 = .ok (.getfield 66, 3) := by decide +kernel
theorem dX10_burnt_61 : decode cX10_burnt 61 = .ok (.getfield 206, 3) := by decide +kernel
theorem dX10_burnt_64 : decode cX10_burnt 64 = .ok (.iload_n 1, 1) := by decide +kernel
theorem dX10_burnt_65 : decode cX10_burnt 65 = .ok (.iaload, 1) := by decide +kernel
theorem dX10_burnt_66 : decode cX10_burnt 66 = .ok (.isub, 1) := by decide +kernel
theorem dX10_burnt_67 : decode cX10_burnt 67 = .ok (.ireturn, 1) := by decide +kernel
theorem dX10_shining_0 : decode cX10_shining 0 = .ok (.aload_n 0, 1) := by decide +kernel
theorem dX10_shining_1 : decode cX10_shining 1 = .ok (.iload_n 1, 1) := by decide +kernel
theorem dX10_shining_2 : decode cX10_shining 2 = .ok (.invokevirtual 200, 3) := by decide +kernel
theorem dX10_shining_5 : decode cX10_shining 5 = .ok (.iload_n 2, 1) := by decide +kernel
theorem dX10_shining_6 : decode cX10_shining 6 = .ok (.invokestatic 262, 3) := by decide +kernel
theorem dX10_shining_9 : decode cX10_shining 9 = .ok (.aload_n 0, 1) := by decide +kernel
theorem dX10_shining_10 : decode cX10_shining 10 = .ok (.getfield 66, 3) := by decide +kernel
theorem dX10_shining_13 : decode cX10_shining 13 = .ok (.aload_n 0, 1) := by decide +kernel
theorem dX10_shining_14 : decode cX10_shining 14 = .ok (.getfield 26, 3) := by decide +kernel
theorem dX10_shining_17 : decode cX10_shining 17 = .ok (.invokevirtual 119, 3) := by decide +kernel
theorem dX10_shining_20 : decode cX10_shining 20 = .ok (.iconst 0, 1) := by decide +kernel
theorem dX10_shining_21 : decode cX10_shining 21 = .ok (.istore_n 3, 1) := by decide +kernel
theorem dX10_shining_22 : decode cX10_shining 22 = .ok (.iconst 0, 1) := by decide +kernel
theorem dX10_shining_23 : decode cX10_shining 23 = .ok (.istore 4, 2) := by decide +kernel
theorem dX10_shining_25 : decode cX10_shining 25 = .ok (.iload 4, 2) := by decide +kernel
theorem dX10_shining_27 : decode cX10_shining 27 = .ok (.iload_n 2, 1) := by decide +kernel
theorem dX10_shining_28 : decode cX10_shining 28 = .ok (.if_icmp .ge 38, 3) := by decide +kernel
theorem dX10_shining_31 : decode cX10_shining 31 = .ok (.aload_n 0, 1) := by decide +kernel
theorem dX10_shining_32 : decode cX10_shining 32 = .ok (.getfield 62, 3) := by decide +kernel
theorem dX10_shining_35 : decode cX10_shining 35 = .ok (.aload_n 0, 1) := by decide +kernel
theorem dX10_shining_36 : decode cX10_shining 36 = .ok (.getfield 19, 3) := by decide +kernel
theorem dX10_shining_39 : decode cX10_shining 39 = .ok (.aload_n 0, 1) := by decide +kernel
theorem dX10_shining_40 : decode cX10_shining 40 = .ok (.getfield 66, 3) := by decide +kernel
theorem dX10_shining_43 : decode cX10_shining 43 = .ok (.invokevirtual 235, 3) := by decide +kernel
theorem dX10_shining_46 : decode cX10_shining 46 = .ok (.iload_n 3, 1) := by decide +kernel
theorem dX10_shining_47 : decode cX10_shining 47 = .ok (.aload_n 0, 1) := by decide +kernel
theorem dX10_shining_48 : decode cX10_shining 48 = .ok (.getfield 62, 3) := by decide +kernel
theorem dX10_shining_51 : decode cX10_shining 51 = .ok (.getfield 259, 3) := by decide +kernel
theorem dX10_shining_54 : decode cX10_shining 54 = .ok (.iload_n 1, 1) := by decide +kernel
theorem dX10_shining_55 : decode cX10_shining 55 = .ok (.ishr, 1) := by decide +kernel
theorem dX10_shining_56 : decode cX10_shining 56 = .ok (.iconst 1, 1) := by decide +kernel
theorem dX10_shining_57 : decode cX10_shining 57 = .ok (.iand, 1) := by decide +kernel
theorem dX10_shining_58 : decode cX10_shining 58 = .ok (.iadd, 1) := by decide +kernel
theorem dX10_shining_59 : decode cX10_shining 59 = .ok (.istore_n 3, 1) := by decide +kernel
theorem dX10_shining_60 : decode cX10_shining 60 = .ok (.iinc 4 1, 3) := by decide +kernel
theorem dX10_shining_63 : decode cX10_shining 63 = .ok (.goto (-38), 3) := by decide +kernel
theorem dX10_shining_66 : decode cX10_shining 66 = .ok (.iload_n 3, 1) := by decide +kernel
theorem dX10_shining_67 : decode cX10_shining 67 = .ok (.ireturn, 1) := by decide +kernel
theorem dX10_soonest_0 : decode cX10_soonest 0 = .ok (.aload_n 0, 1) := by decide +kernel
theorem dX10_soonest_1 : decode cX10_soonest 1 = .ok (.iload_n 1, 1) := by decide +kernel
theorem dX10_soonest_2 : decode cX10_soonest 2 = .ok (.invokevirtual 200, 3) := by decide +kernel
theorem dX10_soonest_5 : decode cX10_soonest 5 = .ok (.aload_n 0, 1) := by decide +kernel
theorem dX10_soonest_6 : decode cX10_soonest 6 = .ok (.getfield 66, 3) := by decide +kernel
theorem dX10_soonest_9 : decode cX10_soonest 9 = .ok (.aload_n 0, 1) := by decide +kernel
theorem dX10_soonest_10 : decode cX10_soonest 10 = .ok (.getfield 26, 3) := by decide +kernel
theorem dX10_soonest_13 : decode cX10_soonest 13 = .ok (.invokevirtual 119, 3) := by decide +kernel
theorem dX10_soonest_16 : decode cX10_soonest 16 = .ok (.iconst 1, 1) := by decide +kernel
theorem dX10_soonest_17 : decode cX10_soonest 17 = .ok (.istore_n 2, 1) := by decide +kernel
theorem dX10_soonest_18 : decode cX10_soonest 18 = .ok (.iload_n 2, 1) := by decide +kernel
theorem dX10_soonest_19 : decode cX10_soonest 19 = .ok (.bipush 96, 2) := by decide +kernel
theorem dX10_soonest_21 : decode cX10_soonest 21 = .ok (.if_icmp .gt 41, 3) := by decide +kernel
theorem dX10_soonest_24 : decode cX10_soonest 24 = .ok (.aload_n 0, 1) := by decide +kernel
theorem dX10_soonest_25 : decode cX10_soonest 25 = .ok (.getfield 62, 3) := by decide +kernel
theorem dX10_soonest_28 : decode cX10_soonest 28 = .ok (.aload_n 0, 1) := by decide +kernel
theorem dX10_soonest_29 : decode cX10_soonest 29 = .ok (.getfield 19, 3) := by decide +kernel
theorem dX10_soonest_32 : decode cX10_soonest 32 = .ok (.aload_n 0, 1) := by decide +kernel
theorem dX10_soonest_33 : decode cX10_soonest 33 = .ok (.getfield 66, 3) := by decide +kernel
theorem dX10_soonest_36 : decode cX10_soonest 36 = .ok (.invokevirtual 235, 3) := by decide +kernel
theorem dX10_soonest_39 : decode cX10_soonest 39 = .ok (.aload_n 0, 1) := by decide +kernel
theorem dX10_soonest_40 : decode cX10_soonest 40 = .ok (.getfield 62, 3) := by decide +kernel
theorem dX10_soonest_43 : decode cX10_soonest 43 = .ok (.getfield 259, 3) := by decide +kernel
theorem dX10_soonest_46 : decode cX10_soonest 46 = .ok (.iload_n 1, 1) := by decide +kernel
theorem dX10_soonest_47 : decode cX10_soonest 47 = .ok (.ishr, 1) := by decide +kernel
theorem dX10_soonest_48 : decode cX10_soonest 48 = .ok (.iconst 1, 1) := by decide +kernel
theorem dX10_soonest_49 : decode cX10_soonest 49 = .ok (.iand, 1) := by decide +kernel
theorem dX10_soonest_50 : decode cX10_soonest 50 = .ok (.iconst 1, 1) := by decide +kernel
theorem dX10_soonest_51 : decode cX10_soonest 51 = .ok (.if_icmp .ne 5, 3) := by decide +kernel
theorem dX10_soonest_54 : decode cX10_soonest 54 = .ok (.iload_n 2, 1) := by decide +kernel
theorem dX10_soonest_55 : decode cX10_soonest 55 = .ok (.ireturn, 1) := by decide +kernel
theorem dX10_soonest_56 : decode cX10_soonest 56 = .ok (.iinc 2 1, 3) := by decide +kernel
theorem dX10_soonest_59 : decode cX10_soonest 59 = .ok (.goto (-41), 3) := by decide +kernel
theorem dX10_soonest_62 : decode cX10_soonest 62 = .ok (.iconst (-1), 1) := by decide +kernel
theorem dX10_soonest_63 : decode cX10_soonest 63 = .ok (.ireturn, 1) := by decide +kernel
theorem dX10_busiest_0 : decode cX10_busiest 0 = .ok (.iload_n 1, 1) := by decide +kernel
theorem dX10_busiest_1 : decode cX10_busiest 1 = .ok (.invokestatic 265, 3) := by decide +kernel
theorem dX10_busiest_4 : decode cX10_busiest 4 = .ok (.iconst (-1), 1) := by decide +kernel
theorem dX10_busiest_5 : decode cX10_busiest 5 = .ok (.istore_n 2, 1) := by decide +kernel
theorem dX10_busiest_6 : decode cX10_busiest 6 = .ok (.iconst 0, 1) := by decide +kernel
theorem dX10_busiest_7 : decode cX10_busiest 7 = .ok (.istore_n 3, 1) := by decide +kernel
theorem dX10_busiest_8 : decode cX10_busiest 8 = .ok (.iconst 0, 1) := by decide +kernel
theorem dX10_busiest_9 : decode cX10_busiest 9 = .ok (.istore 4, 2) := by decide +kernel
theorem dX10_busiest_11 : decode cX10_busiest 11 = .ok (.iload 4, 2) := by decide +kernel
theorem dX10_busiest_13 : decode cX10_busiest 13 = .ok (.bipush 24, 2) := by decide +kernel
theorem dX10_busiest_15 : decode cX10_busiest 15 = .ok (.if_icmp .ge 29, 3) := by decide +kernel
theorem dX10_busiest_18 : decode cX10_busiest 18 = .ok (.aload_n 0, 1) := by decide +kernel
theorem dX10_busiest_19 : decode cX10_busiest 19 = .ok (.iload 4, 2) := by decide +kernel
theorem dX10_busiest_21 : decode cX10_busiest 21 = .ok (.invokevirtual 268, 3) := by decide +kernel
theorem dX10_busiest_24 : decode cX10_busiest 24 = .ok (.istore 5, 2) := by decide +kernel
theorem dX10_busiest_26 : decode cX10_busiest 26 = .ok (.iload 5, 2) := by decide +kernel
theorem dX10_busiest_28 : decode cX10_busiest 28 = .ok (.iload_n 3, 1) := by decide +kernel
theorem dX10_busiest_29 : decode cX10_busiest 29 = .ok (.if_icmp .le 9, 3) := by decide +kernel
theorem dX10_busiest_32 : decode cX10_busiest 32 = .ok (.iload 5, 2) := by decide +kernel
theorem dX10_busiest_34 : decode cX10_busiest 34 = .ok (.istore_n 3, 1) := by decide +kernel
theorem dX10_busiest_35 : decode cX10_busiest 35 = .ok (.iload 4, 2) := by decide +kernel
theorem dX10_busiest_37 : decode cX10_busiest 37 = .ok (.istore_n 2, 1) := by decide +kernel
theorem dX10_busiest_38 : decode cX10_busiest 38 = .ok (.iinc 4 1, 3) := by decide +kernel
theorem dX10_busiest_41 : decode cX10_busiest 41 = .ok (.goto (-30), 3) := by decide +kernel
theorem dX10_busiest_44 : decode cX10_busiest 44 = .ok (.iload_n 1, 1) := by decide +kernel
theorem dX10_busiest_45 : decode cX10_busiest 45 = .ok (.ifCond .ne 7, 3) := by decide +kernel
theorem dX10_busiest_48 : decode cX10_busiest 48 = .ok (.iload_n 2, 1) := by decide +kernel
theorem dX10_busiest_49 : decode cX10_busiest 49 = .ok (.goto 4, 3) := by decide +kernel
theorem dX10_busiest_52 : decode cX10_busiest 52 = .ok (.iload_n 3, 1) := by decide +kernel
theorem dX10_busiest_53 : decode cX10_busiest 53 = .ok (.ireturn, 1) := by decide +kernel
theorem dX10_lasts_0 : decode cX10_lasts 0 = .ok (.aload_n 0, 1) := by decide +kernel
theorem dX10_lasts_1 : decode cX10_lasts 1 = .ok (.iload_n 1, 1) := by decide +kernel
theorem dX10_lasts_2 : decode cX10_lasts 2 = .ok (.invokevirtual 200, 3) := by decide +kernel
theorem dX10_lasts_5 : decode cX10_lasts 5 = .ok (.aload_n 0, 1) := by decide +kernel
theorem dX10_lasts_6 : decode cX10_lasts 6 = .ok (.getfield 66, 3) := by decide +kernel
theorem dX10_lasts_9 : decode cX10_lasts 9 = .ok (.aload_n 0, 1) := by decide +kernel
theorem dX10_lasts_10 : decode cX10_lasts 10 = .ok (.getfield 26, 3) := by decide +kernel
theorem dX10_lasts_13 : decode cX10_lasts 13 = .ok (.invokevirtual 119, 3) := by decide +kernel
theorem dX10_lasts_16 : decode cX10_lasts 16 = .ok (.iconst 0, 1) := by decide +kernel
theorem dX10_lasts_17 : decode cX10_lasts 17 = .ok (.istore_n 2, 1) := by decide +kernel
theorem dX10_lasts_18 : decode cX10_lasts 18 = .ok (.iload_n 2, 1) := by decide +kernel
theorem dX10_lasts_19 : decode cX10_lasts 19 = .ok (.bipush 96, 2) := by decide +kernel
theorem dX10_lasts_21 : decode cX10_lasts 21 = .ok (.if_icmp .gt 38, 3) := by decide +kernel
theorem dX10_lasts_24 : decode cX10_lasts 24 = .ok (.aload_n 0, 1) := by decide +kernel
theorem dX10_lasts_25 : decode cX10_lasts 25 = .ok (.getfield 66, 3) := by decide +kernel
theorem dX10_lasts_28 : decode cX10_lasts 28 = .ok (.getfield 206, 3) := by decide +kernel
theorem dX10_lasts_31 : decode cX10_lasts 31 = .ok (.iload_n 1, 1) := by decide +kernel
theorem dX10_lasts_32 : decode cX10_lasts 32 = .ok (.iaload, 1) := by decide +kernel
theorem dX10_lasts_33 : decode cX10_lasts 33 = .ok (.ifCond .ne 5, 3) := by decide +kernel
theorem dX10_lasts_36 : decode cX10_lasts 36 = .ok (.iload_n 2, 1) := by decide +kernel
theorem dX10_lasts_37 : decode cX10_lasts 37 = .ok (.ireturn, 1) := by decide +kernel
theorem dX10_lasts_38 : decode cX10_lasts 38 = .ok (.aload_n 0, 1) := by decide +kernel
theorem dX10_lasts_39 : decode cX10_lasts 39 = .ok (.getfield 62, 3) := by decide +kernel
theorem dX10_lasts_42 : decode cX10_lasts 42 = .ok (.aload_n 0, 1) := by decide +kernel
theorem dX10_lasts_43 : decode cX10_lasts 43 = .ok (.getfield 19, 3) := by decide +kernel
theorem dX10_lasts_46 : decode cX10_lasts 46 = .ok (.aload_n 0, 1) := by decide +kernel
theorem dX10_lasts_47 : decode cX10_lasts 47 = .ok (.getfield 66, 3) := by decide +kernel
theorem dX10_lasts_50 : decode cX10_lasts 50 = .ok (.invokevirtual 235, 3) := by decide +kernel
theorem dX10_lasts_53 : decode cX10_lasts 53 = .ok (.iinc 2 1, 3) := by decide +kernel
theorem dX10_lasts_56 : decode cX10_lasts 56 = .ok (.goto (-38), 3) := by decide +kernel
theorem dX10_lasts_59 : decode cX10_lasts 59 = .ok (.iconst (-1), 1) := by decide +kernel
theorem dX10_lasts_60 : decode cX10_lasts 60 = .ok (.ireturn, 1) := by decide +kernel
theorem dX10_grief_0 : decode cX10_grief 0 = .ok (.aload_n 0, 1) := by decide +kernel
theorem dX10_grief_1 : decode cX10_grief 1 = .ok (.iload_n 1, 1) := by decide +kernel
theorem dX10_grief_2 : decode cX10_grief 2 = .ok (.invokevirtual 180, 3) := by decide +kernel
theorem dX10_grief_5 : decode cX10_grief 5 = .ok (.iload_n 2, 1) := by decide +kernel
theorem dX10_grief_6 : decode cX10_grief 6 = .ok (.invokestatic 262, 3) := by decide +kernel
theorem dX10_grief_9 : decode cX10_grief 9 = .ok (.aload_n 0, 1) := by decide +kernel
theorem dX10_grief_10 : decode cX10_grief 10 = .ok (.getfield 66, 3) := by decide +kernel
theorem dX10_grief_13 : decode cX10_grief 13 = .ok (.aload_n 0, 1) := by decide +kernel
theorem dX10_grief_14 : decode cX10_grief 14 = .ok (.getfield 26, 3) := by decide +kernel
theorem dX10_grief_17 : decode cX10_grief 17 = .ok (.invokevirtual 119, 3) := by decide +kernel
theorem dX10_grief_20 : decode cX10_grief 20 = .ok (.aload_n 0, 1) := by decide +kernel
theorem dX10_grief_21 : decode cX10_grief 21 = .ok (.getfield 26, 3) := by decide +kernel
theorem dX10_grief_24 : decode cX10_grief 24 = .ok (.iload_n 1, 1) := by decide +kernel
theorem dX10_grief_25 : decode cX10_grief 25 = .ok (.invokevirtual 192, 3) := by decide +kernel
theorem dX10_grief_28 : decode cX10_grief 28 = .ok (.istore_n 3, 1) := by decide +kernel
theorem dX10_grief_29 : decode cX10_grief 29 = .ok (.iconst 0, 1) := by decide +kernel
theorem dX10_grief_30 : decode cX10_grief 30 = .ok (.istore 4, 2) := by decide +kernel
theorem dX10_grief_32 : decode cX10_grief 32 = .ok (.iconst 0, 1) := by decide +kernel
theorem dX10_grief_33 : decode cX10_grief 33 = .ok (.istore 5, 2) := by decide +kernel
theorem dX10_grief_35 : decode cX10_grief 35 = .ok (.iload 5, 2) := by decide +kernel
theorem dX10_grief_37 : decode cX10_grief 37 = .ok (.iload_n 2, 1) := by decide +kernel
theorem dX10_grief_38 : decode cX10_grief 38 = .ok (.if_icmp .ge 41, 3) := by decide +kernel
theorem dX10_grief_41 : decode cX10_grief 41 = .ok (.aload_n 0, 1) := by decide +kernel
theorem dX10_grief_42 : decode cX10_grief 42 = .ok (.getfield 62, 3) := by decide +kernel
theorem dX10_grief_45 : decode cX10_grief 45 = .ok (.aload_n 0, 1) := by decide +kernel
theorem dX10_grief_46 : decode cX10_grief 46 = .ok (.getfield 19, 3) := by decide +kernel
theorem dX10_grief_49 : decode cX10_grief 49 = .ok (.aload_n 0, 1) := by decide +kernel
theorem dX10_grief_50 : decode cX10_grief 50 = .ok (.getfield 66, 3) := by decide +kernel
theorem dX10_grief_53 : decode cX10_grief 53 = .ok (.invokevirtual 235, 3) := by decide +kernel
theorem dX10_grief_56 : decode cX10_grief 56 = .ok (.iload 4, 2) := by decide +kernel
theorem dX10_grief_58 : decode cX10_grief 58 = .ok (.aload_n 0, 1) := by decide +kernel
theorem dX10_grief_59 : decode cX10_grief 59 = .ok (.getfield 62, 3) := by decide +kernel
theorem dX10_grief_62 : decode cX10_grief 62 = .ok (.getfield 271, 3) := by decide +kernel
theorem dX10_grief_65 : decode cX10_grief 65 = .ok (.iload_n 3, 1) := by decide +kernel
theorem dX10_grief_66 : decode cX10_grief 66 = .ok (.iand, 1) := by decide +kernel
theorem dX10_grief_67 : decode cX10_grief 67 = .ok (.invokestatic 145, 3) := by decide +kernel
theorem dX10_grief_70 : decode cX10_grief 70 = .ok (.iadd, 1) := by decide +kernel
theorem dX10_grief_71 : decode cX10_grief 71 = .ok (.istore 4, 2) := by decide +kernel
theorem dX10_grief_73 : decode cX10_grief 73 = .ok (.iinc 5 1, 3) := by decide +kernel
theorem dX10_grief_76 : decode cX10_grief 76 = .ok (.goto (-41), 3) := by decide +kernel
theorem dX10_grief_79 : decode cX10_grief 79 = .ok (.iload 4, 2) := by decide +kernel
theorem dX10_grief_81 : decode cX10_grief 81 = .ok (.ireturn, 1) := by decide +kernel
theorem dX10_quarrels_0 : decode cX10_quarrels 0 = .ok (.iload_n 1, 1) := by decide +kernel
theorem dX10_quarrels_1 : decode cX10_quarrels 1 = .ok (.invokestatic 262, 3) := by decide +kernel
theorem dX10_quarrels_4 : decode cX10_quarrels 4 = .ok (.aload_n 0, 1) := by decide +kernel
theorem dX10_quarrels_5 : decode cX10_quarrels 5 = .ok (.getfield 66, 3) := by decide +kernel
theorem dX10_quarrels_8 : decode cX10_quarrels 8 = .ok (.aload_n 0, 1) := by decide +kernel
theorem dX10_quarrels_9 : decode cX10_quarrels 9 = .ok (.getfield 26, 3) := by decide +kernel
theorem dX10_quarrels_12 : decode cX10_quarrels 12 = .ok (.invokevirtual 119, 3) := by decide +kernel
theorem dX10_quarrels_15 : decode cX10_quarrels 15 = .ok (.iconst 0, 1) := by decide +kernel
theorem dX10_quarrels_16 : decode cX10_quarrels 16 = .ok (.istore_n 2, 1) := by decide +kernel
theorem dX10_quarrels_17 : decode cX10_quarrels 17 = .ok (.iconst 0, 1) := by decide +kernel
theorem dX10_quarrels_18 : decode cX10_quarrels 18 = .ok (.istore_n 3, 1) := by decide +kernel
theorem dX10_quarrels_19 : decode cX10_quarrels 19 = .ok (.iload_n 3, 1) := by decide +kernel
theorem dX10_quarrels_20 : decode cX10_quarrels 20 = .ok (.iload_n 1, 1) := by decide +kernel
theorem dX10_quarrels_21 : decode cX10_quarrels 21 = .ok (.if_icmp .ge 34, 3) := by decide +kernel
theorem dX10_quarrels_24 : decode cX10_quarrels 24 = .ok (.aload_n 0, 1) := by decide +kernel
theorem dX10_quarrels_25 : decode cX10_quarrels 25 = .ok (.getfield 62, 3) := by decide +kernel
theorem dX10_quarrels_28 : decode cX10_quarrels 28 = .ok (.aload_n 0, 1) := by decide +kernel
theorem dX10_quarrels_29 : decode cX10_quarrels 29 = .ok (.getfield 19, 3) := by decide +kernel
theorem dX10_quarrels_32 : decode cX10_quarrels 32 = .ok (.aload_n 0, 1) := by decide +kernel
theorem dX10_quarrels_33 : decode cX10_quarrels 33 = .ok (.getfield 66, 3) := by decide +kernel
theorem dX10_quarrels_36 : decode cX10_quarrels 36 = .ok (.invokevirtual 235, 3) := by decide +kernel
theorem dX10_quarrels_39 : decode cX10_quarrels 39 = .ok (.iload_n 2, 1) := by decide +kernel
theorem dX10_quarrels_40 : decode cX10_quarrels 40 = .ok (.aload_n 0, 1) := by decide +kernel
theorem dX10_quarrels_41 : decode cX10_quarrels 41 = .ok (.getfield 62, 3) := by decide +kernel
theorem dX10_quarrels_44 : decode cX10_quarrels 44 = .ok (.getfield 274, 3) := by decide +kernel
theorem dX10_quarrels_47 : decode cX10_quarrels 47 = .ok (.iadd, 1) := by decide +kernel
theorem dX10_quarrels_48 : decode cX10_quarrels 48 = .ok (.istore_n 2, 1) := by decide +kernel
theorem dX10_quarrels_49 : decode cX10_quarrels 49 = .ok (.iinc 3 1, 3) := by decide +kernel
theorem dX10_quarrels_52 : decode cX10_quarrels 52 = .ok (.goto (-33), 3) := by decide +kernel
theorem dX10_quarrels_55 : decode cX10_quarrels 55 = .ok (.iload_n 2, 1) := by decide +kernel
theorem dX10_quarrels_56 : decode cX10_quarrels 56 = .ok (.ireturn, 1) := by decide +kernel
theorem dX10_joined_0 : decode cX10_joined 0 = .ok (.aload_n 0, 1) := by decide +kernel
theorem dX10_joined_1 : decode cX10_joined 1 = .ok (.iload_n 1, 1) := by decide +kernel
theorem dX10_joined_2 : decode cX10_joined 2 = .ok (.invokevirtual 180, 3) := by decide +kernel
theorem dX10_joined_5 : decode cX10_joined 5 = .ok (.aload_n 0, 1) := by decide +kernel
theorem dX10_joined_6 : decode cX10_joined 6 = .ok (.iload_n 2, 1) := by decide +kernel
theorem dX10_joined_7 : decode cX10_joined 7 = .ok (.invokevirtual 180, 3) := by decide +kernel
theorem dX10_joined_10 : decode cX10_joined 10 = .ok (.aload_n 0, 1) := by decide +kernel
theorem dX10_joined_11 : decode cX10_joined 11 = .ok (.getfield 26, 3) := by decide +kernel
theorem dX10_joined_14 : decode cX10_joined 14 = .ok (.iload_n 1, 1) := by decide +kernel
theorem dX10_joined_15 : decode cX10_joined 15 = .ok (.iload_n 2, 1) := by decide +kernel
theorem dX10_joined_16 : decode cX10_joined 16 = .ok (.invokevirtual 277, 3) := by decide +kernel
theorem dX10_joined_19 : decode cX10_joined 19 = .ok (.ireturn, 1) := by decide +kernel
theorem dX10_strife_0 : decode cX10_strife 0 = .ok (.aload_n 0, 1) := by decide +kernel
theorem dX10_strife_1 : decode cX10_strife 1 = .ok (.iload_n 1, 1) := by decide +kernel
theorem dX10_strife_2 : decode cX10_strife 2 = .ok (.invokevirtual 200, 3) := by decide +kernel
theorem dX10_strife_5 : decode cX10_strife 5 = .ok (.aload_n 0, 1) := by decide +kernel
theorem dX10_strife_6 : decode cX10_strife 6 = .ok (.iload_n 2, 1) := by decide +kernel
theorem dX10_strife_7 : decode cX10_strife 7 = .ok (.invokevirtual 200, 3) := by decide +kernel
theorem dX10_strife_10 : decode cX10_strife 10 = .ok (.aload_n 0, 1) := by decide +kernel
theorem dX10_strife_11 : decode cX10_strife 11 = .ok (.getfield 72, 3) := by decide +kernel
theorem dX10_strife_14 : decode cX10_strife 14 = .ok (.iload_n 1, 1) := by decide +kernel
theorem dX10_strife_15 : decode cX10_strife 15 = .ok (.aload_n 0, 1) := by decide +kernel
theorem dX10_strife_16 : decode cX10_strife 16 = .ok (.getfield 26, 3) := by decide +kernel
theorem dX10_strife_19 : decode cX10_strife 19 = .ok (.aload_n 0, 1) := by decide +kernel
theorem dX10_strife_20 : decode cX10_strife 20 = .ok (.getfield 26, 3) := by decide +kernel
theorem dX10_strife_23 : decode cX10_strife 23 = .ok (.getfield 203, 3) := by decide +kernel
theorem dX10_strife_26 : decode cX10_strife 26 = .ok (.iload_n 1, 1) := by decide +kernel
theorem dX10_strife_27 : decode cX10_strife 27 = .ok (.iaload, 1) := by decide +kernel
theorem dX10_strife_28 : decode cX10_strife 28 = .ok (.invokevirtual 281, 3) := by decide +kernel
theorem dX10_strife_31 : decode cX10_strife 31 = .ok (.aload_n 0, 1) := by decide +kernel
theorem dX10_strife_32 : decode cX10_strife 32 = .ok (.getfield 19, 3) := by decide +kernel
theorem dX10_strife_35 : decode cX10_strife 35 = .ok (.aload_n 0, 1) := by decide +kernel
theorem dX10_strife_36 : decode cX10_strife 36 = .ok (.getfield 26, 3) := by decide +kernel
theorem dX10_strife_39 : decode cX10_strife 39 = .ok (.iload_n 1, 1) := by decide +kernel
theorem dX10_strife_40 : decode cX10_strife 40 = .ok (.invokevirtual 223, 3) := by decide +kernel
theorem dX10_strife_43 : decode cX10_strife 43 = .ok (.invokevirtual 284, 3) := by decide +kernel
theorem dX10_strife_46 : decode cX10_strife 46 = .ok (.aload_n 0, 1) := by decide +kernel
theorem dX10_strife_47 : decode cX10_strife 47 = .ok (.getfield 72, 3) := by decide +kernel
theorem dX10_strife_50 : decode cX10_strife 50 = .ok (.iload_n 2, 1) := by decide +kernel
theorem dX10_strife_51 : decode cX10_strife 51 = .ok (.aload_n 0, 1) := by decide +kernel
theorem dX10_strife_52 : decode cX10_strife 52 = .ok (.getfield 26, 3) := by decide +kernel
theorem dX10_strife_55 : decode cX10_strife 55 = .ok (.aload_n 0, 1) := by decide +kernel
theorem dX10_strife_56 : decode cX10_strife 56 = .ok (.getfield 26, 3) := by decide +kernel
theorem dX10_strife_59 : decode cX10_strife 59 = .ok (.getfield 203, 3) := by decide +kernel
theorem dX10_strife_62 : decode cX10_strife 62 = .ok (.iload_n 2, 1) := by decide +kernel
theorem dX10_strife_63 : decode cX10_strife 63 = .ok (.iaload, 1) := by decide +kernel
theorem dX10_strife_64 : decode cX10_strife 64 = .ok (.invokevirtual 281, 3) := by decide +kernel
theorem dX10_strife_67 : decode cX10_strife 67 = .ok (.aload_n 0, 1) := by decide +kernel
theorem dX10_strife_68 : decode cX10_strife 68 = .ok (.getfield 19, 3) := by decide +kernel
theorem dX10_strife_71 : decode cX10_strife 71 = .ok (.aload_n 0, 1) := by decide +kernel
theorem dX10_strife_72 : decode cX10_strife 72 = .ok (.getfield 26, 3) := by decide +kernel
theorem dX10_strife_75 : decode cX10_strife 75 = .ok (.iload_n 2, 1) := by decide +kernel
theorem dX10_strife_76 : decode cX10_strife 76 = .ok (.invokevirtual 223, 3) := by decide +kernel
theorem dX10_strife_79 : decode cX10_strife 79 = .ok (.invokevirtual 284, 3) := by decide +kernel
theorem dX10_strife_82 : decode cX10_strife 82 = .ok (.aload_n 0, 1) := by decide +kernel
theorem dX10_strife_83 : decode cX10_strife 83 = .ok (.getfield 72, 3) := by decide +kernel
theorem dX10_strife_86 : decode cX10_strife 86 = .ok (.iload_n 1, 1) := by decide +kernel
theorem dX10_strife_87 : decode cX10_strife 87 = .ok (.iload_n 2, 1) := by decide +kernel
theorem dX10_strife_88 : decode cX10_strife 88 = .ok (.invokevirtual 288, 3) := by decide +kernel
theorem dX10_strife_91 : decode cX10_strife 91 = .ok (.ireturn, 1) := by decide +kernel
theorem dX10_better_0 : decode cX10_better 0 = .ok (.iload_n 1, 1) := by decide +kernel
theorem dX10_better_1 : decode cX10_better 1 = .ok (.iconst (-1), 1) := by decide +kernel
theorem dX10_better_2 : decode cX10_better 2 = .ok (.if_icmp .eq 8, 3) := by decide +kernel
theorem dX10_better_5 : decode cX10_better 5 = .ok (.aload_n 0, 1) := by decide +kernel
theorem dX10_better_6 : decode cX10_better 6 = .ok (.iload_n 1, 1) := by decide +kernel
theorem dX10_better_7 : decode cX10_better 7 = .ok (.invokevirtual 200, 3) := by decide +kernel
theorem dX10_better_10 : decode cX10_better 10 = .ok (.aload_n 0, 1) := by decide +kernel
theorem dX10_better_11 : decode cX10_better 11 = .ok (.getfield 26, 3) := by decide +kernel
theorem dX10_better_14 : decode cX10_better 14 = .ok (.invokevirtual 291, 3) := by decide +kernel
theorem dX10_better_17 : decode cX10_better 17 = .ok (.istore_n 2, 1) := by decide +kernel
theorem dX10_better_18 : decode cX10_better 18 = .ok (.iload_n 1, 1) := by decide +kernel
theorem dX10_better_19 : decode cX10_better 19 = .ok (.iconst (-1), 1) := by decide +kernel
theorem dX10_better_20 : decode cX10_better 20 = .ok (.if_icmp .eq 13, 3) := by decide +kernel
theorem dX10_better_23 : decode cX10_better 23 = .ok (.iload_n 2, 1) := by decide +kernel
theorem dX10_better_24 : decode cX10_better 24 = .ok (.iload_n 1, 1) := by decide +kernel
theorem dX10_better_25 : decode cX10_better 25 = .ok (.ishr, 1) := by decide +kernel
theorem dX10_better_26 : decode cX10_better 26 = .ok (.iconst 1, 1) := by decide +kernel
theorem dX10_better_27 : decode cX10_better 27 = .ok (.iand, 1) := by decide +kernel
theorem dX10_better_28 : decode cX10_better 28 = .ok (.ifCond .ne 5, 3) := by decide +kernel
theorem dX10_better_31 : decode cX10_better 31 = .ok (.iconst (-1), 1) := by decide +kernel
theorem dX10_better_32 : decode cX10_better 32 = .ok (.ireturn, 1) := by decide +kernel
theorem dX10_better_33 : decode cX10_better 33 = .ok (.iconst 0, 1) := by decide +kernel
theorem dX10_better_34 : decode cX10_better 34 = .ok (.istore_n 3, 1) := by decide +kernel
theorem dX10_better_35 : decode cX10_better 35 = .ok (.iload_n 3, 1) := by decide +kernel
theorem dX10_better_36 : decode cX10_better 36 = .ok (.aload_n 0, 1) := by decide +kernel
theorem dX10_better_37 : decode cX10_better 37 = .ok (.getfield 26, 3) := by decide +kernel
theorem dX10_better_40 : decode cX10_better 40 = .ok (.getfield 138, 3) := by decide +kernel
theorem dX10_better_43 : decode cX10_better 43 = .ok (.if_icmp .ge 45, 3) := by decide +kernel
theorem dX10_better_46 : decode cX10_better 46 = .ok (.aload_n 0, 1) := by decide +kernel
theorem dX10_better_47 : decode cX10_better 47 = .ok (.getfield 72, 3) := by decide +kernel
theorem dX10_better_50 : decode cX10_better 50 = .ok (.iload_n 3, 1) := by decide +kernel
theorem dX10_better_51 : decode cX10_better 51 = .ok (.aload_n 0, 1) := by decide +kernel
theorem dX10_better_52 : decode cX10_better 52 = .ok (.getfield 26, 3) := by decide +kernel
theorem dX10_better_55 : decode cX10_better 55 = .ok (.aload_n 0, 1) := by decide +kernel
theorem dX10_better_56 : decode cX10_better 56 = .ok (.getfield 26, 3) := by decide +kernel
theorem dX10_better_59 : decode cX10_better 59 = .ok (.getfield 203, 3) := by decide +kernel
theorem dX10_better_62 : decode cX10_better 62 = .ok (.iload_n 3, 1) := by decide +kernel
theorem dX10_better_63 : decode cX10_better 63 = .ok (.iaload, 1) := by decide +kernel
theorem dX10_better_64 : decode cX10_better 64 = .ok (.invokevirtual 281, 3) := by decide +kernel
theorem dX10_better_67 : decode cX10_better 67 = .ok (.aload_n 0, 1) := by decide +kernel
theorem dX10_better_68 : decode cX10_better 68 = .ok (.getfield 19, 3) := by decide +kernel
theorem dX10_better_71 : decode cX10_better 71 = .ok (.aload_n 0, 1) := by decide +kernel
theorem dX10_better_72 : decode cX10_better 72 = .ok (.getfield 26, 3) := by decide +kernel
theorem dX10_better_75 : decode cX10_better 75 = .ok (.iload_n 3, 1) := by decide +kernel
theorem dX10_better_76 : decode cX10_better 76 = .ok (.invokevirtual 223, 3) := by decide +kernel
theorem dX10_better_79 : decode cX10_better 79 = .ok (.invokevirtual 284, 3) := by decide +kernel
theorem dX10_better_82 : decode cX10_better 82 = .ok (.iinc 3 1, 3) := by decide +kernel
theorem dX10_better_85 : decode cX10_better 85 = .ok (.goto (-50), 3) := by decide +kernel
theorem dX10_better_88 : decode cX10_better 88 = .ok (.aload_n 0, 1) := by decide +kernel
theorem dX10_better_89 : decode cX10_better 89 = .ok (.getfield 72, 3) := by decide +kernel
theorem dX10_better_92 : decode cX10_better 92 = .ok (.iload_n 2, 1) := by decide +kernel
theorem dX10_better_93 : decode cX10_better 93 = .ok (.invokevirtual 294, 3) := by decide +kernel
theorem dX10_better_96 : decode cX10_better 96 = .ok (.iload_n 1, 1) := by decide +kernel
theorem dX10_better_97 : decode cX10_better 97 = .ok (.iconst (-1), 1) := by decide +kernel
theorem dX10_better_98 : decode cX10_better 98 = .ok (.if_icmp .ne 14, 3) := by decide +kernel
theorem dX10_better_101 : decode cX10_better 101 = .ok (.aload_n 0, 1) := by decide +kernel
theorem dX10_better_102 : decode cX10_better 102 = .ok (.getfield 72, 3) := by decide +kernel
theorem dX10_better_105 : decode cX10_better 105 = .ok (.iload_n 2, 1) := by decide +kernel
theorem dX10_better_106 : decode cX10_better 106 = .ok (.invokevirtual 297, 3) := by decide +kernel
theorem dX10_better_109 : decode cX10_better 109 = .ok (.goto 12, 3) := by decide +kernel
theorem dX10_better_112 : decode cX10_better 112 = .ok (.aload_n 0, 1) := by decide +kernel
theorem dX10_better_113 : decode cX10_better 113 = .ok (.getfield 72, 3) := by decide +kernel
theorem dX10_better_116 : decode cX10_better 116 = .ok (.iload_n 2, 1) := by decide +kernel
theorem dX10_better_117 : decode cX10_better 117 = .ok (.iload_n 1, 1) := by decide +kernel
theorem dX10_better_118 : decode cX10_better 118 = .ok (.invokevirtual 300, 3) := by decide +kernel
theorem dX10_better_121 : decode cX10_better 121 = .ok (.ireturn, 1) := by decide +kernel
theorem dX10_treaty_0 : decode cX10_treaty 0 = .ok (.aload_n 0, 1) := by decide +kernel
theorem dX10_treaty_1 : decode cX10_treaty 1 = .ok (.iload_n 1, 1) := by decide +kernel
theorem dX10_treaty_2 : decode cX10_treaty 2 = .ok (.invokevirtual 180, 3) := by decide +kernel
theorem dX10_treaty_5 : decode cX10_treaty 5 = .ok (.aload_n 0, 1) := by decide +kernel
theorem dX10_treaty_6 : decode cX10_treaty 6 = .ok (.iload_n 1, 1) := by decide +kernel
theorem dX10_treaty_7 : decode cX10_treaty 7 = .ok (.aload_n 0, 1) := by decide +kernel
theorem dX10_treaty_8 : decode cX10_treaty 8 = .ok (.getfield 26, 3) := by decide +kernel
theorem dX10_treaty_11 : decode cX10_treaty 11 = .ok (.getfield 189, 3) := by decide +kernel
theorem dX10_treaty_14 : decode cX10_treaty 14 = .ok (.iload_n 1, 1) := by decide +kernel
theorem dX10_treaty_15 : decode cX10_treaty 15 = .ok (.iaload, 1) := by decide +kernel
theorem dX10_treaty_16 : decode cX10_treaty 16 = .ok (.invokevirtual 303, 3) := by decide +kernel
theorem dX10_treaty_19 : decode cX10_treaty 19 = .ok (.istore_n 2, 1) := by decide +kernel
theorem dX10_treaty_20 : decode cX10_treaty 20 = .ok (.iconst (-1), 1) := by decide +kernel
theorem dX10_treaty_21 : decode cX10_treaty 21 = .ok (.istore_n 3, 1) := by decide +kernel
theorem dX10_treaty_22 : decode cX10_treaty 22 = .ok (.iconst 0, 1) := by decide +kernel
theorem dX10_treaty_23 : decode cX10_treaty 23 = .ok (.istore 4, 2) := by decide +kernel
theorem dX10_treaty_25 : decode cX10_treaty 25 = .ok (.iload 4, 2) := by decide +kernel
theorem dX10_treaty_27 : decode cX10_treaty 27 = .ok (.bipush 24, 2) := by decide +kernel
theorem dX10_treaty_29 : decode cX10_treaty 29 = .ok (.if_icmp .ge 30, 3) := by decide +kernel
theorem dX10_treaty_32 : decode cX10_treaty 32 = .ok (.aload_n 0, 1) := by decide +kernel
theorem dX10_treaty_33 : decode cX10_treaty 33 = .ok (.iload_n 1, 1) := by decide +kernel
theorem dX10_treaty_34 : decode cX10_treaty 34 = .ok (.iload 4, 2) := by decide +kernel
theorem dX10_treaty_36 : decode cX10_treaty 36 = .ok (.invokevirtual 303, 3) := by decide +kernel
theorem dX10_treaty_39 : decode cX10_treaty 39 = .ok (.istore 5, 2) := by decide +kernel
theorem dX10_treaty_41 : decode cX10_treaty 41 = .ok (.iload 5, 2) := by decide +kernel
theorem dX10_treaty_43 : decode cX10_treaty 43 = .ok (.iload_n 2, 1) := by decide +kernel
theorem dX10_treaty_44 : decode cX10_treaty 44 = .ok (.if_icmp .ge 9, 3) := by decide +kernel
theorem dX10_treaty_47 : decode cX10_treaty 47 = .ok (.iload 5, 2) := by decide +kernel
theorem dX10_treaty_49 : decode cX10_treaty 49 = .ok (.istore_n 2, 1) := by decide +kernel
theorem dX10_treaty_50 : decode cX10_treaty 50 = .ok (.iload 4, 2) := by decide +kernel
theorem dX10_treaty_52 : decode cX10_treaty 52 = .ok (.istore_n 3, 1) := by decide +kernel
theorem dX10_treaty_53 : decode cX10_treaty 53 = .ok (.iinc 4 1, 3) := by decide +kernel
theorem dX10_treaty_56 : decode cX10_treaty 56 = .ok (.goto (-31), 3) := by decide +kernel
theorem dX10_treaty_59 : decode cX10_treaty 59 = .ok (.iload_n 3, 1) := by decide +kernel
theorem dX10_treaty_60 : decode cX10_treaty 60 = .ok (.ireturn, 1) := by decide +kernel
theorem dX10_fund_0 : decode cX10_fund 0 = .ok (.aload_n 0, 1) := by decide +kernel
theorem dX10_fund_1 : decode cX10_fund 1 = .ok (.iload_n 1, 1) := by decide +kernel
theorem dX10_fund_2 : decode cX10_fund 2 = .ok (.invokevirtual 200, 3) := by decide +kernel
theorem dX10_fund_5 : decode cX10_fund 5 = .ok (.aload_n 0, 1) := by decide +kernel
theorem dX10_fund_6 : decode cX10_fund 6 = .ok (.getfield 66, 3) := by decide +kernel
theorem dX10_fund_9 : decode cX10_fund 9 = .ok (.aload_n 0, 1) := by decide +kernel
theorem dX10_fund_10 : decode cX10_fund 10 = .ok (.getfield 26, 3) := by decide +kernel
theorem dX10_fund_13 : decode cX10_fund 13 = .ok (.invokevirtual 119, 3) := by decide +kernel
theorem dX10_fund_16 : decode cX10_fund 16 = .ok (.aload_n 0, 1) := by decide +kernel
theorem dX10_fund_17 : decode cX10_fund 17 = .ok (.getfield 66, 3) := by decide +kernel
theorem dX10_fund_20 : decode cX10_fund 20 = .ok (.iload_n 1, 1) := by decide +kernel
theorem dX10_fund_21 : decode cX10_fund 21 = .ok (.invokevirtual 248, 3) := by decide +kernel
theorem dX10_fund_24 : decode cX10_fund 24 = .ok (.iconst 0, 1) := by decide +kernel
theorem dX10_fund_25 : decode cX10_fund 25 = .ok (.istore_n 2, 1) := by decide +kernel
theorem dX10_fund_26 : decode cX10_fund 26 = .ok (.iconst 0, 1) := by decide +kernel
theorem dX10_fund_27 : decode cX10_fund 27 = .ok (.istore_n 3, 1) := by decide +kernel
theorem dX10_fund_28 : decode cX10_fund 28 = .ok (.iload_n 3, 1) := by decide +kernel
theorem dX10_fund_29 : decode cX10_fund 29 = .ok (.aload_n 0, 1) := by decide +kernel
theorem dX10_fund_30 : decode cX10_fund 30 = .ok (.getfield 26, 3) := by decide +kernel
theorem dX10_fund_33 : decode cX10_fund 33 = .ok (.getfield 135, 3) := by decide +kernel
theorem dX10_fund_36 : decode cX10_fund 36 = .ok (.if_icmp .ge 37, 3) := by decide +kernel
theorem dX10_fund_39 : decode cX10_fund 39 = .ok (.aload_n 0, 1) := by decide +kernel
theorem dX10_fund_40 : decode cX10_fund 40 = .ok (.getfield 26, 3) := by decide +kernel
theorem dX10_fund_43 : decode cX10_fund 43 = .ok (.iload_n 3, 1) := by decide +kernel
theorem dX10_fund_44 : decode cX10_fund 44 = .ok (.invokevirtual 306, 3) := by decide +kernel
theorem dX10_fund_47 : decode cX10_fund 47 = .ok (.ifCond .eq 20, 3) := by decide +kernel
theorem dX10_fund_50 : decode cX10_fund 50 = .ok (.aload_n 0, 1) := by decide +kernel
theorem dX10_fund_51 : decode cX10_fund 51 = .ok (.getfield 66, 3) := by decide +kernel
theorem dX10_fund_54 : decode cX10_fund 54 = .ok (.iload_n 3, 1) := by decide +kernel
theorem dX10_fund_55 : decode cX10_fund 55 = .ok (.invokevirtual 306, 3) := by decide +kernel
theorem dX10_fund_58 : decode cX10_fund 58 = .ok (.ifCond .ne 9, 3) := by decide +kernel
theorem dX10_fund_61 : decode cX10_fund 61 = .ok (.iload_n 2, 1) := by decide +kernel
theorem dX10_fund_62 : decode cX10_fund 62 = .ok (.iconst 1, 1) := by decide +kernel
theorem dX10_fund_63 : decode cX10_fund 63 = .ok (.iload_n 3, 1) := by decide +kernel
theorem dX10_fund_64 : decode cX10_fund 64 = .ok (.ishl, 1) := by decide +kernel
theorem dX10_fund_65 : decode cX10_fund 65 = .ok (.ior, 1) := by decide +kernel
theorem dX10_fund_66 : decode cX10_fund 66 = .ok (.istore_n 2, 1) := by decide +kernel
theorem dX10_fund_67 : decode cX10_fund 67 = .ok (.iinc 3 1, 3) := by decide +kernel
theorem dX10_fund_70 : decode cX10_fund 70 = .ok (.goto (-42), 3) := by decide +kernel
theorem dX10_fund_73 : decode cX10_fund 73 = .ok (.iload_n 2, 1) := by decide +kernel
theorem dX10_fund_74 : decode cX10_fund 74 = .ok (.ireturn, 1) := by decide +kernel
theorem dX10_signals_0 : decode cX10_signals 0 = .ok (.iload_n 1, 1) := by decide +kernel
theorem dX10_signals_1 : decode cX10_signals 1 = .ok (.aload_n 0, 1) := by decide +kernel
theorem dX10_signals_2 : decode cX10_signals 2 = .ok (.getfield 26, 3) := by decide +kernel
theorem dX10_signals_5 : decode cX10_signals 5 = .ok (.invokevirtual 309, 3) := by decide +kernel
theorem dX10_signals_8 : decode cX10_signals 8 = .ok (.iconst (-1), 1) := by decide +kernel
theorem dX10_signals_9 : decode cX10_signals 9 = .ok (.ixor, 1) := by decide +kernel
theorem dX10_signals_10 : decode cX10_signals 10 = .ok (.iand, 1) := by decide +kernel
theorem dX10_signals_11 : decode cX10_signals 11 = .ok (.ifCond .eq 14, 3) := by decide +kernel
theorem dX10_signals_14 : decode cX10_signals 14 = .ok (.new 102, 3) := by decide +kernel
theorem dX10_signals_17 : decode cX10_signals 17 = .ok (.dup, 1) := by decide +kernel
theorem dX10_signals_18 : decode cX10_signals 18 = .ok (.ldc_w 312, 3) := by decide +kernel
theorem dX10_signals_21 : decode cX10_signals 21 = .ok (.invokespecial 106, 3) := by decide +kernel
theorem dX10_signals_24 : decode cX10_signals 24 = .ok (.athrow, 1) := by decide +kernel
theorem dX10_signals_25 : decode cX10_signals 25 = .ok (.iload_n 1, 1) := by decide +kernel
theorem dX10_signals_26 : decode cX10_signals 26 = .ok (.invokestatic 145, 3) := by decide +kernel
theorem dX10_signals_29 : decode cX10_signals 29 = .ok (.istore_n 2, 1) := by decide +kernel
theorem dX10_signals_30 : decode cX10_signals 30 = .ok (.iconst 0, 1) := by decide +kernel
theorem dX10_signals_31 : decode cX10_signals 31 = .ok (.istore_n 3, 1) := by decide +kernel
theorem dX10_signals_32 : decode cX10_signals 32 = .ok (.iconst 1, 1) := by decide +kernel
theorem dX10_signals_33 : decode cX10_signals 33 = .ok (.istore 4, 2) := by decide +kernel
theorem dX10_signals_35 : decode cX10_signals 35 = .ok (.iload 4, 2) := by decide +kernel
theorem dX10_signals_37 : decode cX10_signals 37 = .ok (.iload_n 2, 1) := by decide +kernel
theorem dX10_signals_38 : decode cX10_signals 38 = .ok (.if_icmp .ge 15, 3) := by decide +kernel
theorem dX10_signals_41 : decode cX10_signals 41 = .ok (.iinc 3 1, 3) := by decide +kernel
theorem dX10_signals_44 : decode cX10_signals 44 = .ok (.iload 4, 2) := by decide +kernel
theorem dX10_signals_46 : decode cX10_signals 46 = .ok (.iconst 2, 1) := by decide +kernel
theorem dX10_signals_47 : decode cX10_signals 47 = .ok (.imul, 1) := by decide +kernel
theorem dX10_signals_48 : decode cX10_signals 48 = .ok (.istore 4, 2) := by decide +kernel
theorem dX10_signals_50 : decode cX10_signals 50 = .ok (.goto (-15), 3) := by decide +kernel
theorem dX10_signals_53 : decode cX10_signals 53 = .ok (.iload_n 3, 1) := by decide +kernel
theorem dX10_signals_54 : decode cX10_signals 54 = .ok (.ireturn, 1) := by decide +kernel
theorem dX10_see_0 : decode cX10_see 0 = .ok (.aload_n 0, 1) := by decide +kernel
theorem dX10_see_1 : decode cX10_see 1 = .ok (.iload_n 1, 1) := by decide +kernel
theorem dX10_see_2 : decode cX10_see 2 = .ok (.invokevirtual 200, 3) := by decide +kernel
theorem dX10_see_5 : decode cX10_see 5 = .ok (.iload_n 2, 1) := by decide +kernel
theorem dX10_see_6 : decode cX10_see 6 = .ok (.iconst 1, 1) := by decide +kernel
theorem dX10_see_7 : decode cX10_see 7 = .ok (.if_icmp .lt 21, 3) := by decide +kernel
theorem dX10_see_10 : decode cX10_see 10 = .ok (.iload_n 2, 1) := by decide +kernel
theorem dX10_see_11 : decode cX10_see 11 = .ok (.bipush 48, 2) := by decide +kernel
theorem dX10_see_13 : decode cX10_see 13 = .ok (.if_icmp .gt 15, 3) := by decide +kernel
theorem dX10_see_16 : decode cX10_see 16 = .ok (.aload_n 0, 1) := by decide +kernel
theorem dX10_see_17 : decode cX10_see 17 = .ok (.getfield 40, 3) := by decide +kernel
theorem dX10_see_20 : decode cX10_see 20 = .ok (.getfield 174, 3) := by decide +kernel
theorem dX10_see_23 : decode cX10_see 23 = .ok (.bipush 8, 2) := by decide +kernel
theorem dX10_see_25 : decode cX10_see 25 = .ok (.if_icmp .lt 9, 3) := by decide +kernel
theorem dX10_see_28 : decode cX10_see 28 = .ok (.aload_n 0, 1) := by decide +kernel
theorem dX10_see_29 : decode cX10_see 29 = .ok (.iconst 2, 1) := by decide +kernel
theorem dX10_see_30 : decode cX10_see 30 = .ok (.invokevirtual 229, 3) := by decide +kernel
theorem dX10_see_33 : decode cX10_see 33 = .ok (.ireturn, 1) := by decide +kernel
theorem dX10_see_34 : decode cX10_see 34 = .ok (.aload_n 0, 1) := by decide +kernel
theorem dX10_see_35 : decode cX10_see 35 = .ok (.getfield 40, 3) := by decide +kernel
theorem dX10_see_38 : decode cX10_see 38 = .ok (.iload_n 1, 1) := by decide +kernel
theorem dX10_see_39 : decode cX10_see 39 = .ok (.iload_n 2, 1) := by decide +kernel
theorem dX10_see_40 : decode cX10_see 40 = .ok (.iload_n 3, 1) := by decide +kernel
theorem dX10_see_41 : decode cX10_see 41 = .ok (.invokevirtual 314, 3) := by decide +kernel
theorem dX10_see_44 : decode cX10_see 44 = .ok (.aload_n 0, 1) := by decide +kernel
theorem dX10_see_45 : decode cX10_see 45 = .ok (.getfield 40, 3) := by decide +kernel
theorem dX10_see_48 : decode cX10_see 48 = .ok (.getfield 174, 3) := by decide +kernel
theorem dX10_see_51 : decode cX10_see 51 = .ok (.ireturn, 1) := by decide +kernel
theorem dX10_whose_0 : decode cX10_whose 0 = .ok (.aload_n 0, 1) := by decide +kernel
theorem dX10_whose_1 : decode cX10_whose 1 = .ok (.iload_n 1, 1) := by decide +kernel
theorem dX10_whose_2 : decode cX10_whose 2 = .ok (.invokevirtual 200, 3) := by decide +kernel
theorem dX10_whose_5 : decode cX10_whose 5 = .ok (.aload_n 0, 1) := by decide +kernel
theorem dX10_whose_6 : decode cX10_whose 6 = .ok (.getfield 66, 3) := by decide +kernel
theorem dX10_whose_9 : decode cX10_whose 9 = .ok (.aload_n 0, 1) := by decide +kernel
theorem dX10_whose_10 : decode cX10_whose 10 = .ok (.getfield 26, 3) := by decide +kernel
theorem dX10_whose_13 : decode cX10_whose 13 = .ok (.invokevirtual 119, 3) := by decide +kernel
theorem dX10_whose_16 : decode cX10_whose 16 = .ok (.aload_n 0, 1) := by decide +kernel
theorem dX10_whose_17 : decode cX10_whose 17 = .ok (.invokevirtual 318, 3) := by decide +kernel
theorem dX10_whose_20 : decode cX10_whose 20 = .ok (.ifCond .eq 9, 3) := by decide +kernel
theorem dX10_whose_23 : decode cX10_whose 23 = .ok (.sipush 4096, 3) := by decide +kernel
theorem dX10_whose_26 : decode cX10_whose 26 = .ok (.goto 4, 3) := by decide +kernel
theorem dX10_whose_29 : decode cX10_whose 29 = .ok (.iconst 0, 1) := by decide +kernel
theorem dX10_whose_30 : decode cX10_whose 30 = .ok (.istore_n 2, 1) := by decide +kernel
theorem dX10_whose_31 : decode cX10_whose 31 = .ok (.iload_n 2, 1) := by decide +kernel
theorem dX10_whose_32 : decode cX10_whose 32 = .ok (.aload_n 0, 1) := by decide +kernel
theorem dX10_whose_33 : decode cX10_whose 33 = .ok (.iload_n 1, 1) := by decide +kernel
theorem dX10_whose_34 : decode cX10_whose 34 = .ok (.invokevirtual 322, 3) := by decide +kernel
theorem dX10_whose_37 : decode cX10_whose 37 = .ok (.ior, 1) := by decide +kernel
theorem dX10_whose_38 : decode cX10_whose 38 = .ok (.ireturn, 1) := by decide +kernel
theorem dX10_look_0 : decode cX10_look 0 = .ok (.aload_n 0, 1) := by decide +kernel
theorem dX10_look_1 : decode cX10_look 1 = .ok (.iload_n 1, 1) := by decide +kernel
theorem dX10_look_2 : decode cX10_look 2 = .ok (.invokevirtual 200, 3) := by decide +kernel
theorem dX10_look_5 : decode cX10_look 5 = .ok (.iload_n 2, 1) := by decide +kernel
theorem dX10_look_6 : decode cX10_look 6 = .ok (.invokestatic 265, 3) := by decide +kernel
theorem dX10_look_9 : decode cX10_look 9 = .ok (.aload_n 0, 1) := by decide +kernel
theorem dX10_look_10 : decode cX10_look 10 = .ok (.iload_n 1, 1) := by decide +kernel
theorem dX10_look_11 : decode cX10_look 11 = .ok (.aload_n 0, 1) := by decide +kernel
theorem dX10_look_12 : decode cX10_look 12 = .ok (.iload_n 1, 1) := by decide +kernel
theorem dX10_look_13 : decode cX10_look 13 = .ok (.invokevirtual 322, 3) := by decide +kernel
theorem dX10_look_16 : decode cX10_look 16 = .ok (.invokevirtual 325, 3) := by decide +kernel
theorem dX10_look_19 : decode cX10_look 19 = .ok (.istore_n 3, 1) := by decide +kernel
theorem dX10_look_20 : decode cX10_look 20 = .ok (.iconst (-1), 1) := by decide +kernel
theorem dX10_look_21 : decode cX10_look 21 = .ok (.istore 4, 2) := by decide +kernel
theorem dX10_look_23 : decode cX10_look 23 = .ok (.iconst 0, 1) := by decide +kernel
theorem dX10_look_24 : decode cX10_look 24 = .ok (.istore 5, 2) := by decide +kernel
theorem dX10_look_26 : decode cX10_look 26 = .ok (.iconst 0, 1) := by decide +kernel
theorem dX10_look_27 : decode cX10_look 27 = .ok (.istore 6, 2) := by decide +kernel
theorem dX10_look_29 : decode cX10_look 29 = .ok (.iload 6, 2) := by decide +kernel
theorem dX10_look_31 : decode cX10_look 31 = .ok (.bipush 48, 2) := by decide +kernel
theorem dX10_look_33 : decode cX10_look 33 = .ok (.if_icmp .ge 35, 3) := by decide +kernel
theorem dX10_look_36 : decode cX10_look 36 = .ok (.aload_n 0, 1) := by decide +kernel
theorem dX10_look_37 : decode cX10_look 37 = .ok (.iload_n 3, 1) := by decide +kernel
theorem dX10_look_38 : decode cX10_look 38 = .ok (.iload 6, 2) := by decide +kernel
theorem dX10_look_40 : decode cX10_look 40 = .ok (.invokevirtual 328, 3) := by decide +kernel
theorem dX10_look_43 : decode cX10_look 43 = .ok (.istore 7, 2) := by decide +kernel
theorem dX10_look_45 : decode cX10_look 45 = .ok (.iload 7, 2) := by decide +kernel
theorem dX10_look_47 : decode cX10_look 47 = .ok (.iload 5, 2) := by decide +kernel
theorem dX10_look_49 : decode cX10_look 49 = .ok (.if_icmp .le 13, 3) := by decide +kernel
theorem dX10_look_52 : decode cX10_look 52 = .ok (.iload 7, 2) := by decide +kernel
theorem dX10_look_54 : decode cX10_look 54 = .ok (.istore 5, 2) := by decide +kernel
theorem dX10_look_56 : decode cX10_look 56 = .ok (.iload 6, 2) := by decide +kernel
theorem dX10_look_58 : decode cX10_look 58 = .ok (.iconst 1, 1) := by decide +kernel
theorem dX10_look_59 : decode cX10_look 59 = .ok (.iadd, 1) := by decide +kernel
theorem dX10_look_60 : decode cX10_look 60 = .ok (.istore 4, 2) := by decide +kernel
theorem dX10_look_62 : decode cX10_look 62 = .ok (.iinc 6 1, 3) := by decide +kernel
theorem dX10_look_65 : decode cX10_look 65 = .ok (.goto (-36), 3) := by decide +kernel
theorem dX10_look_68 : decode cX10_look 68 = .ok (.iload_n 2, 1) := by decide +kernel
theorem dX10_look_69 : decode cX10_look 69 = .ok (.ifCond .ne 8, 3) := by decide +kernel
theorem dX10_look_72 : decode cX10_look 72 = .ok (.iload 4, 2) := by decide +kernel
theorem dX10_look_74 : decode cX10_look 74 = .ok (.goto 5, 3) := by decide +kernel
theorem dX10_look_77 : decode cX10_look 77 = .ok (.iload 5, 2) := by decide +kernel
theorem dX10_look_79 : decode cX10_look 79 = .ok (.ireturn, 1) := by decide +kernel
theorem dX10_forget_0 : decode cX10_forget 0 = .ok (.aload_n 0, 1) := by decide +kernel
theorem dX10_forget_1 : decode cX10_forget 1 = .ok (.getfield 40, 3) := by decide +kernel
theorem dX10_forget_4 : decode cX10_forget 4 = .ok (.invokevirtual 130, 3) := by decide +kernel
theorem dX10_forget_7 : decode cX10_forget 7 = .ok (.return_, 1) := by decide +kernel
theorem dX10_game_0 : decode cX10_game 0 = .ok (.aload_n 0, 1) := by decide +kernel
theorem dX10_game_1 : decode cX10_game 1 = .ok (.iload_n 1, 1) := by decide +kernel
theorem dX10_game_2 : decode cX10_game 2 = .ok (.invokevirtual 200, 3) := by decide +kernel
theorem dX10_game_5 : decode cX10_game 5 = .ok (.aload_n 0, 1) := by decide +kernel
theorem dX10_game_6 : decode cX10_game 6 = .ok (.iload_n 2, 1) := by decide +kernel
theorem dX10_game_7 : decode cX10_game 7 = .ok (.invokevirtual 200, 3) := by decide +kernel
theorem dX10_game_10 : decode cX10_game 10 = .ok (.iload_n 3, 1) := by decide +kernel
theorem dX10_game_11 : decode cX10_game 11 = .ok (.invokestatic 265, 3) := by decide +kernel
theorem dX10_game_14 : decode cX10_game 14 = .ok (.aload_n 0, 1) := by decide +kernel
theorem dX10_game_15 : decode cX10_game 15 = .ok (.getfield 26, 3) := by decide +kernel
theorem dX10_game_18 : decode cX10_game 18 = .ok (.getfield 209, 3) := by decide +kernel
theorem dX10_game_21 : decode cX10_game 21 = .ok (.iload_n 1, 1) := by decide +kernel
theorem dX10_game_22 : decode cX10_game 22 = .ok (.iaload, 1) := by decide +kernel
theorem dX10_game_23 : decode cX10_game 23 = .ok (.iload_n 2, 1) := by decide +kernel
theorem dX10_game_24 : decode cX10_game 24 = .ok (.if_icmp .ne 14, 3) := by decide +kernel
theorem dX10_game_27 : decode cX10_game 27 = .ok (.aload_n 0, 1) := by decide +kernel
theorem dX10_game_28 : decode cX10_game 28 = .ok (.getfield 26, 3) := by decide +kernel
theorem dX10_game_31 : decode cX10_game 31 = .ok (.iload_n 1, 1) := by decide +kernel
theorem dX10_game_32 : decode cX10_game 32 = .ok (.invokevirtual 239, 3) := by decide +kernel
theorem dX10_game_35 : decode cX10_game 35 = .ok (.ifCond .ne 14, 3) := by decide +kernel
theorem dX10_game_38 : decode cX10_game 38 = .ok (.new 102, 3) := by decide +kernel
theorem dX10_game_41 : decode cX10_game 41 = .ok (.dup, 1) := by decide +kernel
theorem dX10_game_42 : decode cX10_game 42 = .ok (.ldc_w 331, 3) := by decide +kernel
theorem dX10_game_45 : decode cX10_game 45 = .ok (.invokespecial 106, 3) := by decide +kernel
theorem dX10_game_48 : decode cX10_game 48 = .ok (.athrow, 1) := by decide +kernel
theorem dX10_game_49 : decode cX10_game 49 = .ok (.aload_n 0, 1) := by decide +kernel
theorem dX10_game_50 : decode cX10_game 50 = .ok (.getfield 26, 3) := by decide +kernel
theorem dX10_game_53 : decode cX10_game 53 = .ok (.getfield 150, 3) := by decide +kernel
theorem dX10_game_56 : decode cX10_game 56 = .ok (.bipush 24, 2) := by decide +kernel
theorem dX10_game_58 : decode cX10_game 58 = .ok (.irem, 1) := by decide +kernel
theorem dX10_game_59 : decode cX10_game 59 = .ok (.istore 4, 2) := by decide +kernel
theorem dX10_game_61 : decode cX10_game 61 = .ok (.aload_n 0, 1) := by decide +kernel
theorem dX10_game_62 : decode cX10_game 62 = .ok (.getfield 86, 3) := by decide +kernel
theorem dX10_game_65 : decode cX10_game 65 = .ok (.aload_n 0, 1) := by decide +kernel
theorem dX10_game_66 : decode cX10_game 66 = .ok (.getfield 26, 3) := by decide +kernel
theorem dX10_game_69 : decode cX10_game 69 = .ok (.iload_n 1, 1) := by decide +kernel
theorem dX10_game_70 : decode cX10_game 70 = .ok (.invokevirtual 212, 3) := by decide +kernel
theorem dX10_game_73 : decode cX10_game 73 = .ok (.putfield 333, 3) := by decide +kernel
theorem dX10_game_76 : decode cX10_game 76 = .ok (.aload_n 0, 1) := by decide +kernel
theorem dX10_game_77 : decode cX10_game 77 = .ok (.getfield 86, 3) := by decide +kernel
theorem dX10_game_80 : decode cX10_game 80 = .ok (.iload_n 1, 1) := by decide +kernel
theorem dX10_game_81 : decode cX10_game 81 = .ok (.iload_n 2, 1) := by decide +kernel
theorem dX10_game_82 : decode cX10_game 82 = .ok (.if_icmp .ge 7, 3) := by decide +kernel
theorem dX10_game_85 : decode cX10_game 85 = .ok (.iconst 1, 1) := by decide +kernel
theorem dX10_game_86 : decode cX10_game 86 = .ok (.goto 4, 3) := by decide +kernel
theorem dX10_game_89 : decode cX10_game 89 = .ok (.iconst 0, 1) := by decide +kernel
theorem dX10_game_90 : decode cX10_game 90 = .ok (.putfield 335, 3) := by decide +kernel
theorem dX10_game_93 : decode cX10_game 93 = .ok (.aload_n 0, 1) := by decide +kernel
theorem dX10_game_94 : decode cX10_game 94 = .ok (.getfield 86, 3) := by decide +kernel
theorem dX10_game_97 : decode cX10_game 97 = .ok (.aload_n 0, 1) := by decide +kernel
theorem dX10_game_98 : decode cX10_game 98 = .ok (.getfield 19, 3) := by decide +kernel
theorem dX10_game_101 : decode cX10_game 101 = .ok (.aload_n 0, 1) := by decide +kernel
theorem dX10_game_102 : decode cX10_game 102 = .ok (.getfield 26, 3) := by decide +kernel
theorem dX10_game_105 : decode cX10_game 105 = .ok (.iload_n 1, 1) := by decide +kernel
theorem dX10_game_106 : decode cX10_game 106 = .ok (.iload 4, 2) := by decide +kernel
theorem dX10_game_108 : decode cX10_game 108 = .ok (.invokevirtual 219, 3) := by decide +kernel
theorem dX10_game_111 : decode cX10_game 111 = .ok (.putfield 338, 3) := by decide +kernel
theorem dX10_game_114 : decode cX10_game 114 = .ok (.aload_n 0, 1) := by decide +kernel
theorem dX10_game_115 : decode cX10_game 115 = .ok (.getfield 86, 3) := by decide +kernel
theorem dX10_game_118 : decode cX10_game 118 = .ok (.aload_n 0, 1) := by decide +kernel
theorem dX10_game_119 : decode cX10_game 119 = .ok (.getfield 19, 3) := by decide +kernel
theorem dX10_game_122 : decode cX10_game 122 = .ok (.aload_n 0, 1) := by decide +kernel
theorem dX10_game_123 : decode cX10_game 123 = .ok (.getfield 26, 3) := by decide +kernel
theorem dX10_game_126 : decode cX10_game 126 = .ok (.iload_n 2, 1) := by decide +kernel
theorem dX10_game_127 : decode cX10_game 127 = .ok (.iload 4, 2) := by decide +kernel
theorem dX10_game_129 : decode cX10_game 129 = .ok (.invokevirtual 219, 3) := by decide +kernel
theorem dX10_game_132 : decode cX10_game 132 = .ok (.putfield 341, 3) := by decide +kernel
theorem dX10_game_135 : decode cX10_game 135 = .ok (.iload_n 3, 1) := by decide +kernel
theorem dX10_game_136 : decode cX10_game 136 = .ok (.ifCond .ne 13, 3) := by decide +kernel
theorem dX10_game_139 : decode cX10_game 139 = .ok (.aload_n 0, 1) := by decide +kernel
theorem dX10_game_140 : decode cX10_game 140 = .ok (.getfield 86, 3) := by decide +kernel
theorem dX10_game_143 : decode cX10_game 143 = .ok (.invokevirtual 344, 3) := by decide +kernel
theorem dX10_game_146 : decode cX10_game 146 = .ok (.goto 10, 3) := by decide +kernel
theorem dX10_game_149 : decode cX10_game 149 = .ok (.aload_n 0, 1) := by decide +kernel
theorem dX10_game_150 : decode cX10_game 150 = .ok (.getfield 86, 3) := by decide +kernel
theorem dX10_game_153 : decode cX10_game 153 = .ok (.invokevirtual 347, 3) := by decide +kernel
theorem dX10_game_156 : decode cX10_game 156 = .ok (.ireturn, 1) := by decide +kernel
theorem dX10_winter_0 : decode cX10_winter 0 = .ok (.iload_n 3, 1) := by decide +kernel
theorem dX10_winter_1 : decode cX10_winter 1 = .ok (.ifCond .lt 8, 3) := by decide +kernel
theorem dX10_winter_4 : decode cX10_winter 4 = .ok (.iload_n 3, 1) := by decide +kernel
theorem dX10_winter_5 : decode cX10_winter 5 = .ok (.iconst 2, 1) := by decide +kernel
theorem dX10_winter_6 : decode cX10_winter 6 = .ok (.if_icmp .le 14, 3) := by decide +kernel
theorem dX10_winter_9 : decode cX10_winter 9 = .ok (.new 175, 3) := by decide +kernel
theorem dX10_winter_12 : decode cX10_winter 12 = .ok (.dup, 1) := by decide +kernel
theorem dX10_winter_13 : decode cX10_winter 13 = .ok (.ldc_w 350, 3) := by decide +kernel
theorem dX10_winter_16 : decode cX10_winter 16 = .ok (.invokespecial 179, 3) := by decide +kernel
theorem dX10_winter_19 : decode cX10_winter 19 = .ok (.athrow, 1) := by decide +kernel
theorem dX10_winter_20 : decode cX10_winter 20 = .ok (.iload_n 2, 1) := by decide +kernel
theorem dX10_winter_21 : decode cX10_winter 21 = .ok (.invokestatic 262, 3) := by decide +kernel
theorem dX10_winter_24 : decode cX10_winter 24 = .ok (.aload_n 0, 1) := by decide +kernel
theorem dX10_winter_25 : decode cX10_winter 25 = .ok (.getfield 66, 3) := by decide +kernel
theorem dX10_winter_28 : decode cX10_winter 28 = .ok (.aload_n 0, 1) := by decide +kernel
theorem dX10_winter_29 : decode cX10_winter 29 = .ok (.getfield 26, 3) := by decide +kernel
theorem dX10_winter_32 : decode cX10_winter 32 = .ok (.invokevirtual 119, 3) := by decide +kernel
theorem dX10_winter_35 : decode cX10_winter 35 = .ok (.aload_n 0, 1) := by decide +kernel
theorem dX10_winter_36 : decode cX10_winter 36 = .ok (.getfield 79, 3) := by decide +kernel
theorem dX10_winter_39 : decode cX10_winter 39 = .ok (.iload_n 1, 1) := by decide +kernel
theorem dX10_winter_40 : decode cX10_winter 40 = .ok (.putfield 352, 3) := by decide +kernel
theorem dX10_winter_43 : decode cX10_winter 43 = .ok (.iconst 0, 1) := by decide +kernel
theorem dX10_winter_44 : decode cX10_winter 44 = .ok (.istore 4, 2) := by decide +kernel
theorem dX10_winter_46 : decode cX10_winter 46 = .ok (.iconst 0, 1) := by decide +kernel
theorem dX10_winter_47 : decode cX10_winter 47 = .ok (.istore 5, 2) := by decide +kernel
theorem dX10_winter_49 : decode cX10_winter 49 = .ok (.iload 5, 2) := by decide +kernel
theorem dX10_winter_51 : decode cX10_winter 51 = .ok (.iload_n 2, 1) := by decide +kernel
theorem dX10_winter_52 : decode cX10_winter 52 = .ok (.if_icmp .ge 50, 3) := by decide +kernel
theorem dX10_winter_55 : decode cX10_winter 55 = .ok (.aload_n 0, 1) := by decide +kernel
theorem dX10_winter_56 : decode cX10_winter 56 = .ok (.getfield 79, 3) := by decide +kernel
theorem dX10_winter_59 : decode cX10_winter 59 = .ok (.aload_n 0, 1) := by decide +kernel
theorem dX10_winter_60 : decode cX10_winter 60 = .ok (.getfield 66, 3) := by decide +kernel
theorem dX10_winter_63 : decode cX10_winter 63 = .ok (.invokevirtual 355, 3) := by decide +kernel
theorem dX10_winter_66 : decode cX10_winter 66 = .ok (.aload_n 0, 1) := by decide +kernel
theorem dX10_winter_67 : decode cX10_winter 67 = .ok (.getfield 62, 3) := by decide +kernel
theorem dX10_winter_70 : decode cX10_winter 70 = .ok (.aload_n 0, 1) := by decide +kernel
theorem dX10_winter_71 : decode cX10_winter 71 = .ok (.getfield 19, 3) := by decide +kernel
theorem dX10_winter_74 : decode cX10_winter 74 = .ok (.aload_n 0, 1) := by decide +kernel
theorem dX10_winter_75 : decode cX10_winter 75 = .ok (.getfield 66, 3) := by decide +kernel
theorem dX10_winter_78 : decode cX10_winter 78 = .ok (.invokevirtual 235, 3) := by decide +kernel
theorem dX10_winter_81 : decode cX10_winter 81 = .ok (.iload 4, 2) := by decide +kernel
theorem dX10_winter_83 : decode cX10_winter 83 = .ok (.aload_n 0, 1) := by decide +kernel
theorem dX10_winter_84 : decode cX10_winter 84 = .ok (.getfield 62, 3) := by decide +kernel
theorem dX10_winter_87 : decode cX10_winter 87 = .ok (.getfield 271, 3) := by decide +kernel
theorem dX10_winter_90 : decode cX10_winter 90 = .ok (.invokestatic 145, 3) := by decide +kernel
theorem dX10_winter_93 : decode cX10_winter 93 = .ok (.iadd, 1) := by decide +kernel
theorem dX10_winter_94 : decode cX10_winter 94 = .ok (.istore 4, 2) := by decide +kernel
theorem dX10_winter_96 : decode cX10_winter 96 = .ok (.iinc 5 1, 3) := by decide +kernel
theorem dX10_winter_99 : decode cX10_winter 99 = .ok (.goto (-50), 3) := by decide +kernel
theorem dX10_winter_102 : decode cX10_winter 102 = .ok (.iload_n 3, 1) := by decide +kernel
theorem dX10_winter_103 : decode cX10_winter 103 = .ok (.ifCond .ne 6, 3) := by decide +kernel
theorem dX10_winter_106 : decode cX10_winter 106 = .ok (.iload 4, 2) := by decide +kernel
theorem dX10_winter_108 : decode cX10_winter 108 = .ok (.ireturn, 1) := by decide +kernel
theorem dX10_winter_109 : decode cX10_winter 109 = .ok (.iload_n 3, 1) := by decide +kernel
theorem dX10_winter_110 : decode cX10_winter 110 = .ok (.iconst 1, 1) := by decide +kernel
theorem dX10_winter_111 : decode cX10_winter 111 = .ok (.if_icmp .ne 13, 3) := by decide +kernel
theorem dX10_winter_114 : decode cX10_winter 114 = .ok (.aload_n 0, 1) := by decide +kernel
theorem dX10_winter_115 : decode cX10_winter 115 = .ok (.getfield 66, 3) := by decide +kernel
theorem dX10_winter_118 : decode cX10_winter 118 = .ok (.getfield 153, 3) := by decide +kernel
theorem dX10_winter_121 : decode cX10_winter 121 = .ok (.goto 10, 3) := by decide +kernel
theorem dX10_winter_124 : decode cX10_winter 124 = .ok (.aload_n 0, 1) := by decide +kernel
theorem dX10_winter_125 : decode cX10_winter 125 = .ok (.getfield 66, 3) := by decide +kernel
theorem dX10_winter_128 : decode cX10_winter 128 = .ok (.getfield 156, 3) := by decide +kernel
theorem dX10_winter_131 : decode cX10_winter 131 = .ok (.invokestatic 145, 3) := by decide +kernel
theorem dX10_winter_134 : decode cX10_winter 134 = .ok (.ireturn, 1) := by decide +kernel
theorem dX10_image_0 : decode cX10_image 0 = .ok (.aload_n 0, 1) := by decide +kernel
theorem dX10_image_1 : decode cX10_image 1 = .ok (.getfield 51, 3) := by decide +kernel
theorem dX10_image_4 : decode cX10_image 4 = .ok (.iconst 1, 1) := by decide +kernel
theorem dX10_image_5 : decode cX10_image 5 = .ok (.putfield 131, 3) := by decide +kernel
theorem dX10_image_8 : decode cX10_image 8 = .ok (.aload_n 0, 1) := by decide +kernel
theorem dX10_image_9 : decode cX10_image 9 = .ok (.getfield 51, 3) := by decide +kernel
theorem dX10_image_12 : decode cX10_image 12 = .ok (.getfield 358, 3) := by decide +kernel
theorem dX10_image_15 : decode cX10_image 15 = .ok (.aload_n 0, 1) := by decide +kernel
theorem dX10_image_16 : decode cX10_image 16 = .ok (.getfield 26, 3) := by decide +kernel
theorem dX10_image_19 : decode cX10_image 19 = .ok (.invokevirtual 119, 3) := by decide +kernel
theorem dX10_image_22 : decode cX10_image 22 = .ok (.aload_n 0, 1) := by decide +kernel
theorem dX10_image_23 : decode cX10_image 23 = .ok (.getfield 51, 3) := by decide +kernel
theorem dX10_image_26 : decode cX10_image 26 = .ok (.getfield 359, 3) := by decide +kernel
theorem dX10_image_29 : decode cX10_image 29 = .ok (.aload_n 0, 1) := by decide +kernel
theorem dX10_image_30 : decode cX10_image 30 = .ok (.getfield 33, 3) := by decide +kernel
theorem dX10_image_33 : decode cX10_image 33 = .ok (.invokevirtual 360, 3) := by decide +kernel
theorem dX10_image_36 : decode cX10_image 36 = .ok (.aload_n 0, 1) := by decide +kernel
theorem dX10_image_37 : decode cX10_image 37 = .ok (.getfield 51, 3) := by decide +kernel
theorem dX10_image_40 : decode cX10_image 40 = .ok (.getfield 363, 3) := by decide +kernel
theorem dX10_image_43 : decode cX10_image 43 = .ok (.aload_n 0, 1) := by decide +kernel
theorem dX10_image_44 : decode cX10_image 44 = .ok (.getfield 40, 3) := by decide +kernel
theorem dX10_image_47 : decode cX10_image 47 = .ok (.invokevirtual 364, 3) := by decide +kernel
theorem dX10_image_50 : decode cX10_image 50 = .ok (.aload_n 0, 1) := by decide +kernel
theorem dX10_image_51 : decode cX10_image 51 = .ok (.getfield 44, 3) := by decide +kernel
theorem dX10_image_54 : decode cX10_image 54 = .ok (.iconst 0, 1) := by decide +kernel
theorem dX10_image_55 : decode cX10_image 55 = .ok (.aload_n 0, 1) := by decide +kernel
theorem dX10_image_56 : decode cX10_image 56 = .ok (.getfield 51, 3) := by decide +kernel
theorem dX10_image_59 : decode cX10_image 59 = .ok (.getfield 367, 3) := by decide +kernel
theorem dX10_image_62 : decode cX10_image 62 = .ok (.iconst 0, 1) := by decide +kernel
theorem dX10_image_63 : decode cX10_image 63 = .ok (.iconst 3, 1) := by decide +kernel
theorem dX10_image_64 : decode cX10_image 64 = .ok (.invokestatic 368, 3) := by decide +kernel
theorem dX10_image_67 : decode cX10_image 67 = .ok (.return_, 1) := by decide +kernel
theorem dX10_restore_0 : decode cX10_restore 0 = .ok (.aload_n 0, 1) := by decide +kernel
theorem dX10_restore_1 : decode cX10_restore 1 = .ok (.getfield 51, 3) := by decide +kernel
theorem dX10_restore_4 : decode cX10_restore 4 = .ok (.getfield 131, 3) := by decide +kernel
theorem dX10_restore_7 : decode cX10_restore 7 = .ok (.ifCond .ne 5, 3) := by decide +kernel
theorem dX10_restore_10 : decode cX10_restore 10 = .ok (.iconst 0, 1) := by decide +kernel
theorem dX10_restore_11 : decode cX10_restore 11 = .ok (.ireturn, 1) := by decide +kernel
theorem dX10_restore_12 : decode cX10_restore 12 = .ok (.aload_n 0, 1) := by decide +kernel
theorem dX10_restore_13 : decode cX10_restore 13 = .ok (.getfield 26, 3) := by decide +kernel
theorem dX10_restore_16 : decode cX10_restore 16 = .ok (.aload_n 0, 1) := by decide +kernel
theorem dX10_restore_17 : decode cX10_restore 17 = .ok (.getfield 51, 3) := by decide +kernel
theorem dX10_restore_20 : decode cX10_restore 20 = .ok (.getfield 358, 3) := by decide +kernel
theorem dX10_restore_23 : decode cX10_restore 23 = .ok (.invokevirtual 119, 3) := by decide +kernel
theorem dX10_restore_26 : decode cX10_restore 26 = .ok (.aload_n 0, 1) := by decide +kernel
theorem dX10_restore_27 : decode cX10_restore 27 = .ok (.getfield 33, 3) := by decide +kernel
theorem dX10_restore_30 : decode cX10_restore 30 = .ok (.aload_n 0, 1) := by decide +kernel
theorem dX10_restore_31 : decode cX10_restore 31 = .ok (.getfield 51, 3) := by decide +kernel
theorem dX10_restore_34 : decode cX10_restore 34 = .ok (.getfield 359, 3) := by decide +kernel
theorem dX10_restore_37 : decode cX10_restore 37 = .ok (.invokevirtual 360, 3) := by decide +kernel
theorem dX10_restore_40 : decode cX10_restore 40 = .ok (.aload_n 0, 1) := by decide +kernel
theorem dX10_restore_41 : decode cX10_restore 41 = .ok (.getfield 40, 3) := by decide +kernel
theorem dX10_restore_44 : decode cX10_restore 44 = .ok (.aload_n 0, 1) := by decide +kernel
theorem dX10_restore_45 : decode cX10_restore 45 = .ok (.getfield 51, 3) := by decide +kernel
theorem dX10_restore_48 : decode cX10_restore 48 = .ok (.getfield 363, 3) := by decide +kernel
theorem dX10_restore_51 : decode cX10_restore 51 = .ok (.invokevirtual 364, 3) := by decide +kernel
theorem dX10_restore_54 : decode cX10_restore 54 = .ok (.aload_n 0, 1) := by decide +kernel
theorem dX10_restore_55 : decode cX10_restore 55 = .ok (.getfield 51, 3) := by decide +kernel
theorem dX10_restore_58 : decode cX10_restore 58 = .ok (.getfield 367, 3) := by decide +kernel
theorem dX10_restore_61 : decode cX10_restore 61 = .ok (.iconst 0, 1) := by decide +kernel
theorem dX10_restore_62 : decode cX10_restore 62 = .ok (.aload_n 0, 1) := by decide +kernel
theorem dX10_restore_63 : decode cX10_restore 63 = .ok (.getfield 44, 3) := by decide +kernel
theorem dX10_restore_66 : decode cX10_restore 66 = .ok (.iconst 0, 1) := by decide +kernel
theorem dX10_restore_67 : decode cX10_restore 67 = .ok (.iconst 3, 1) := by decide +kernel
theorem dX10_restore_68 : decode cX10_restore 68 = .ok (.invokestatic 368, 3) := by decide +kernel
theorem dX10_restore_71 : decode cX10_restore 71 = .ok (.iconst 1, 1) := by decide +kernel
theorem dX10_restore_72 : decode cX10_restore 72 = .ok (.ireturn, 1) := by decide +kernel
theorem dX10_needHouse_0 : decode cX10_needHouse 0 = .ok (.iload_n 1, 1) := by decide +kernel
theorem dX10_needHouse_1 : decode cX10_needHouse 1 = .ok (.ifCond .lt 14, 3) := by decide +kernel
theorem dX10_needHouse_4 : decode cX10_needHouse 4 = .ok (.iload_n 1, 1) := by decide +kernel
theorem dX10_needHouse_5 : decode cX10_needHouse 5 = .ok (.aload_n 0, 1) := by decide +kernel
theorem dX10_needHouse_6 : decode cX10_needHouse 6 = .ok (.getfield 26, 3) := by decide +kernel
theorem dX10_needHouse_9 : decode cX10_needHouse 9 = .ok (.getfield 135, 3) := by decide +kernel
theorem dX10_needHouse_12 : decode cX10_needHouse 12 = .ok (.if_icmp .lt 14, 3) := by decide +kernel
theorem dX10_needHouse_15 : decode cX10_needHouse 15 = .ok (.new 175, 3) := by decide +kernel
theorem dX10_needHouse_18 : decode cX10_needHouse 18 = .ok (.dup, 1) := by decide +kernel
theorem dX10_needHouse_19 : decode cX10_needHouse 19 = .ok (.ldc_w 374, 3) := by decide +kernel
theorem dX10_needHouse_22 : decode cX10_needHouse 22 = .ok (.invokespecial 179, 3) := by decide +kernel
theorem dX10_needHouse_25 : decode cX10_needHouse 25 = .ok (.athrow, 1) := by decide +kernel
theorem dX10_needHouse_26 : decode cX10_needHouse 26 = .ok (.return_, 1) := by decide +kernel
theorem dX10_needLamp_0 : decode cX10_needLamp 0 = .ok (.iload_n 1, 1) := by decide +kernel
theorem dX10_needLamp_1 : decode cX10_needLamp 1 = .ok (.ifCond .lt 14, 3) := by decide +kernel
theorem dX10_needLamp_4 : decode cX10_needLamp 4 = .ok (.iload_n 1, 1) := by decide +kernel
theorem dX10_needLamp_5 : decode cX10_needLamp 5 = .ok (.aload_n 0, 1) := by decide +kernel
theorem dX10_needLamp_6 : decode cX10_needLamp 6 = .ok (.getfield 26, 3) := by decide +kernel
theorem dX10_needLamp_9 : decode cX10_needLamp 9 = .ok (.getfield 138, 3) := by decide +kernel
theorem dX10_needLamp_12 : decode cX10_needLamp 12 = .ok (.if_icmp .lt 14, 3) := by decide +kernel
theorem dX10_needLamp_15 : decode cX10_needLamp 15 = .ok (.new 175, 3) := by decide +kernel
theorem dX10_needLamp_18 : decode cX10_needLamp 18 = .ok (.dup, 1) := by decide +kernel
theorem dX10_needLamp_19 : decode cX10_needLamp 19 = .ok (.ldc_w 376, 3) := by decide +kernel
theorem dX10_needLamp_22 : decode cX10_needLamp 22 = .ok (.invokespecial 179, 3) := by decide +kernel
theorem dX10_needLamp_25 : decode cX10_needLamp 25 = .ok (.athrow, 1) := by decide +kernel
theorem dX10_needLamp_26 : decode cX10_needLamp 26 = .ok (.return_, 1) := by decide +kernel
theorem dX10_needHourOrMany_0 : decode cX10_needHourOrMany 0 = .ok (.iload_n 0, 1) := by decide +kernel
theorem dX10_needHourOrMany_1 : decode cX10_needHourOrMany 1 = .ok (.ifCond .eq 19, 3) := by decide +kernel
theorem dX10_needHourOrMany_4 : decode cX10_needHourOrMany 4 = .ok (.iload_n 0, 1) := by decide +kernel
theorem dX10_needHourOrMany_5 : decode cX10_needHourOrMany 5 = .ok (.iconst 1, 1) := by decide +kernel
theorem dX10_needHourOrMany_6 : decode cX10_needHourOrMany 6 = .ok (.if_icmp .eq 14, 3) := by decide +kernel
theorem dX10_needHourOrMany_9 : decode cX10_needHourOrMany 9 = .ok (.new 175, 3) := by decide +kernel
theorem dX10_needHourOrMany_12 : decode cX10_needHourOrMany 12 = .ok (.dup, 1) := by decide +kernel
theorem dX10_needHourOrMany_13 : decode cX10_needHourOrMany 13 = .ok (.ldc_w 378, 3) := by decide +kernel
theorem dX10_needHourOrMany_16 : decode cX10_needHourOrMany 16 = .ok (.invokespecial 179, 3) := by decide +kernel
theorem dX10_needHourOrMany_19 : decode cX10_needHourOrMany 19 = .ok (.athrow, 1) := by decide +kernel
theorem dX10_needHourOrMany_20 : decode cX10_needHourOrMany 20 = .ok (.return_, 1) := by decide +kernel
theorem dX10_needAhead_0 : decode cX10_needAhead 0 = .ok (.iload_n 0, 1) := by decide +kernel
theorem dX10_needAhead_1 : decode cX10_needAhead 1 = .ok (.ifCond .lt 9, 3) := by decide +kernel
theorem dX10_needAhead_4 : decode cX10_needAhead 4 = .ok (.iload_n 0, 1) := by decide +kernel
theorem dX10_needAhead_5 : decode cX10_needAhead 5 = .ok (.bipush 96, 2) := by decide +kernel
theorem dX10_needAhead_7 : decode cX10_needAhead 7 = .ok (.if_icmp .le 14, 3) := by decide +kernel
theorem dX10_needAhead_10 : decode cX10_needAhead 10 = .ok (.new 102, 3) := by decide +kernel
theorem dX10_needAhead_13 : decode cX10_needAhead 13 = .ok (.dup, 1) := by decide +kernel
theorem dX10_needAhead_14 : decode cX10_needAhead 14 = .ok (.ldc_w 380, 3) := by decide +kernel
theorem dX10_needAhead_17 : decode cX10_needAhead 17 = .ok (.invokespecial 106, 3) := by decide +kernel
theorem dX10_needAhead_20 : decode cX10_needAhead 20 = .ok (.athrow, 1) := by decide +kernel
theorem dX10_needAhead_21 : decode cX10_needAhead 21 = .ok (.return_, 1) := by decide +kernel
theorem dX10_isHourOfDay_0 : decode cX10_isHourOfDay 0 = .ok (.iload_n 0, 1) := by decide +kernel
theorem dX10_isHourOfDay_1 : decode cX10_isHourOfDay 1 = .ok (.ifCond .lt 13, 3) := by decide +kernel
theorem dX10_isHourOfDay_4 : decode cX10_isHourOfDay 4 = .ok (.iload_n 0, 1) := by decide +kernel
theorem dX10_isHourOfDay_5 : decode cX10_isHourOfDay 5 = .ok (.bipush 24, 2) := by decide +kernel
theorem dX10_isHourOfDay_7 : decode cX10_isHourOfDay 7 = .ok (.if_icmp .ge 7, 3) := by decide +kernel
theorem dX10_isHourOfDay_10 : decode cX10_isHourOfDay 10 = .ok (.iconst 1, 1) := by decide +kernel
theorem dX10_isHourOfDay_11 : decode cX10_isHourOfDay 11 = .ok (.goto 4, 3) := by decide +kernel
theorem dX10_isHourOfDay_14 : decode cX10_isHourOfDay 14 = .ok (.iconst 0, 1) := by decide +kernel
theorem dX10_isHourOfDay_15 : decode cX10_isHourOfDay 15 = .ok (.ireturn, 1) := by decide +kernel
theorem dX10_refuse_0 : decode cX10_refuse 0 = .ok (.aload_n 0, 1) := by decide +kernel
theorem dX10_refuse_1 : decode cX10_refuse 1 = .ok (.getfield 44, 3) := by decide +kernel
theorem dX10_refuse_4 : decode cX10_refuse 4 = .ok (.iload_n 1, 1) := by decide +kernel
theorem dX10_refuse_5 : decode cX10_refuse 5 = .ok (.dup2, 1) := by decide +kernel
theorem dX10_refuse_6 : decode cX10_refuse 6 = .ok (.iaload, 1) := by decide +kernel
theorem dX10_refuse_7 : decode cX10_refuse 7 = .ok (.iconst 1, 1) := by decide +kernel
theorem dX10_refuse_8 : decode cX10_refuse 8 = .ok (.iadd, 1) := by decide +kernel
theorem dX10_refuse_9 : decode cX10_refuse 9 = .ok (.iastore, 1) := by decide +kernel
theorem dX10_refuse_10 : decode cX10_refuse 10 = .ok (.iconst (-1), 1) := by decide +kernel
theorem dX10_refuse_11 : decode cX10_refuse 11 = .ok (.ireturn, 1) := by decide +kernel
theorem dX10_wantedByAwake_0 : decode cX10_wantedByAwake 0 = .ok (.iconst 0, 1) := by decide +kernel
theorem dX10_wantedByAwake_1 : decode cX10_wantedByAwake 1 = .ok (.istore_n 2, 1) := by decide +kernel
theorem dX10_wantedByAwake_2 : decode cX10_wantedByAwake 2 = .ok (.iconst 0, 1) := by decide +kernel
theorem dX10_wantedByAwake_3 : decode cX10_wantedByAwake 3 = .ok (.istore_n 3, 1) := by decide +kernel
theorem dX10_wantedByAwake_4 : decode cX10_wantedByAwake 4 = .ok (.iload_n 3, 1) := by decide +kernel
theorem dX10_wantedByAwake_5 : decode cX10_wantedByAwake 5 = .ok (.aload_n 0, 1) := by decide +kernel
theorem dX10_wantedByAwake_6 : decode cX10_wantedByAwake 6 = .ok (.getfield 26, 3) := by decide +kernel
theorem dX10_wantedByAwake_9 : decode cX10_wantedByAwake 9 = .ok (.getfield 138, 3) := by decide +kernel
theorem dX10_wantedByAwake_12 : decode cX10_wantedByAwake 12 = .ok (.if_icmp .ge 48, 3) := by decide +kernel
theorem dX10_wantedByAwake_15 : decode cX10_wantedByAwake 15 = .ok (.aload_n 0, 1) := by decide +kernel
theorem dX10_wantedByAwake_16 : decode cX10_wantedByAwake 16 = .ok (.getfield 26, 3) := by decide +kernel
theorem dX10_wantedByAwake_19 : decode cX10_wantedByAwake 19 = .ok (.aload_n 0, 1) := by decide +kernel
theorem dX10_wantedByAwake_20 : decode cX10_wantedByAwake 20 = .ok (.getfield 26, 3) := by decide +kernel
theorem dX10_wantedByAwake_23 : decode cX10_wantedByAwake 23 = .ok (.getfield 203, 3) := by decide +kernel
theorem dX10_wantedByAwake_26 : decode cX10_wantedByAwake 26 = .ok (.iload_n 3, 1) := by decide +kernel
theorem dX10_wantedByAwake_27 : decode cX10_wantedByAwake 27 = .ok (.iaload, 1) := by decide +kernel
theorem dX10_wantedByAwake_28 : decode cX10_wantedByAwake 28 = .ok (.iload_n 1, 1) := by decide +kernel
theorem dX10_wantedByAwake_29 : decode cX10_wantedByAwake 29 = .ok (.invokevirtual 382, 3) := by decide +kernel
theorem dX10_wantedByAwake_32 : decode cX10_wantedByAwake 32 = .ok (.ifCond .eq 22, 3) := by decide +kernel
theorem dX10_wantedByAwake_35 : decode cX10_wantedByAwake 35 = .ok (.aload_n 0, 1) := by decide +kernel
theorem dX10_wantedByAwake_36 : decode cX10_wantedByAwake 36 = .ok (.getfield 19, 3) := by decide +kernel
theorem dX10_wantedByAwake_39 : decode cX10_wantedByAwake 39 = .ok (.aload_n 0, 1) := by decide +kernel
theorem dX10_wantedByAwake_40 : decode cX10_wantedByAwake 40 = .ok (.getfield 26, 3) := by decide +kernel
theorem dX10_wantedByAwake_43 : decode cX10_wantedByAwake 43 = .ok (.iload_n 3, 1) := by decide +kernel
theorem dX10_wantedByAwake_44 : decode cX10_wantedByAwake 44 = .ok (.iload_n 1, 1) := by decide +kernel
theorem dX10_wantedByAwake_45 : decode cX10_wantedByAwake 45 = .ok (.invokevirtual 219, 3) := by decide +kernel
theorem dX10_wantedByAwake_48 : decode cX10_wantedByAwake 48 = .ok (.ifCond .eq 6, 3) := by decide +kernel
theorem dX10_wantedByAwake_51 : decode cX10_wantedByAwake 51 = .ok (.iinc 2 1, 3) := by decide +kernel
theorem dX10_wantedByAwake_54 : decode cX10_wantedByAwake 54 = .ok (.iinc 3 1, 3) := by decide +kernel
theorem dX10_wantedByAwake_57 : decode cX10_wantedByAwake 57 = .ok (.goto (-53), 3) := by decide +kernel
theorem dX10_wantedByAwake_60 : decode cX10_wantedByAwake 60 = .ok (.iload_n 2, 1) := by decide +kernel
theorem dX10_wantedByAwake_61 : decode cX10_wantedByAwake 61 = .ok (.ireturn, 1) := by decide +kernel
theorem dX10_complaintsOfADay_0 : decode cX10_complaintsOfADay 0 = .ok (.aload_n 0, 1) := by decide +kernel
theorem dX10_complaintsOfADay_1 : decode cX10_complaintsOfADay 1 = .ok (.getfield 66, 3) := by decide +kernel
theorem dX10_complaintsOfADay_4 : decode cX10_complaintsOfADay 4 = .ok (.aload_n 0, 1) := by decide +kernel
theorem dX10_complaintsOfADay_5 : decode cX10_complaintsOfADay 5 = .ok (.getfield 26, 3) := by decide +kernel
theorem dX10_complaintsOfADay_8 : decode cX10_complaintsOfADay 8 = .ok (.invokevirtual 119, 3) := by decide +kernel
theorem dX10_complaintsOfADay_11 : decode cX10_complaintsOfADay 11 = .ok (.aload_n 0, 1) := by decide +kernel
theorem dX10_complaintsOfADay_12 : decode cX10_complaintsOfADay 12 = .ok (.getfield 66, 3) := by decide +kernel
theorem dX10_complaintsOfADay_15 : decode cX10_complaintsOfADay 15 = .ok (.getfield 189, 3) := by decide +kernel
theorem dX10_complaintsOfADay_18 : decode cX10_complaintsOfADay 18 = .ok (.iload_n 1, 1) := by decide +kernel
theorem dX10_complaintsOfADay_19 : decode cX10_complaintsOfADay 19 = .ok (.iload_n 2, 1) := by decide +kernel
theorem dX10_complaintsOfADay_20 : decode cX10_complaintsOfADay 20 = .ok (.iastore, 1) := by decide +kernel
theorem dX10_complaintsOfADay_21 : decode cX10_complaintsOfADay 21 = .ok (.iconst 0, 1) := by decide +kernel
theorem dX10_complaintsOfADay_22 : decode cX10_complaintsOfADay 22 = .ok (.istore_n 3, 1) := by decide +kernel
theorem dX10_complaintsOfADay_23 : decode cX10_complaintsOfADay 23 = .ok (.iconst 0, 1) := by decide +kernel
theorem dX10_complaintsOfADay_24 : decode cX10_complaintsOfADay 24 = .ok (.istore 4, 2) := by decide +kernel
theorem dX10_complaintsOfADay_26 : decode cX10_complaintsOfADay 26 = .ok (.iload 4, 2) := by decide +kernel
theorem dX10_complaintsOfADay_28 : decode cX10_complaintsOfADay 28 = .ok (.bipush 24, 2) := by decide +kernel
theorem dX10_complaintsOfADay_30 : decode cX10_complaintsOfADay 30 = .ok (.if_icmp .ge 37, 3) := by decide +kernel
theorem dX10_complaintsOfADay_33 : decode cX10_complaintsOfADay 33 = .ok (.aload_n 0, 1) := by decide +kernel
theorem dX10_complaintsOfADay_34 : decode cX10_complaintsOfADay 34 = .ok (.getfield 62, 3) := by decide +kernel
theorem dX10_complaintsOfADay_37 : decode cX10_complaintsOfADay 37 = .ok (.aload_n 0, 1) := by decide +kernel
theorem dX10_complaintsOfADay_38 : decode cX10_complaintsOfADay 38 = .ok (.getfield 19, 3) := by decide +kernel
theorem dX10_complaintsOfADay_41 : decode cX10_complaintsOfADay 41 = .ok (.aload_n 0, 1) := by decide +kernel
theorem dX10_complaintsOfADay_42 : decode cX10_complaintsOfADay 42 = .ok (.getfield 66, 3) := by decide +kernel
theorem dX10_complaintsOfADay_45 : decode cX10_complaintsOfADay 45 = .ok (.invokevirtual 235, 3) := by decide +kernel
theorem dX10_complaintsOfADay_48 : decode cX10_complaintsOfADay 48 = .ok (.iload_n 3, 1) := by decide +kernel
theorem dX10_complaintsOfADay_49 : decode cX10_complaintsOfADay 49 = .ok (.aload_n 0, 1) := by decide +kernel
theorem dX10_complaintsOfADay_50 : decode cX10_complaintsOfADay 50 = .ok (.getfield 62, 3) := by decide +kernel
theorem dX10_complaintsOfADay_53 : decode cX10_complaintsOfADay 53 = .ok (.getfield 271, 3) := by decide +kernel
theorem dX10_complaintsOfADay_56 : decode cX10_complaintsOfADay 56 = .ok (.invokestatic 145, 3) := by decide +kernel
theorem dX10_complaintsOfADay_59 : decode cX10_complaintsOfADay 59 = .ok (.iadd, 1) := by decide +kernel
theorem dX10_complaintsOfADay_60 : decode cX10_complaintsOfADay 60 = .ok (.istore_n 3, 1) := by decide +kernel
theorem dX10_complaintsOfADay_61 : decode cX10_complaintsOfADay 61 = .ok (.iinc 4 1, 3) := by decide +kernel
theorem dX10_complaintsOfADay_64 : decode cX10_complaintsOfADay 64 = .ok (.goto (-38), 3) := by decide +kernel
theorem dX10_complaintsOfADay_67 : decode cX10_complaintsOfADay 67 = .ok (.iload_n 3, 1) := by decide +kernel
theorem dX10_complaintsOfADay_68 : decode cX10_complaintsOfADay 68 = .ok (.ireturn, 1) := by decide +kernel
theorem dX10_isAllSeenSo_0 : decode cX10_isAllSeenSo 0 = .ok (.aload_n 0, 1) := by decide +kernel
theorem dX10_isAllSeenSo_1 : decode cX10_isAllSeenSo 1 = .ok (.getfield 40, 3) := by decide +kernel
theorem dX10_isAllSeenSo_4 : decode cX10_isAllSeenSo 4 = .ok (.invokevirtual 386, 3) := by decide +kernel
theorem dX10_isAllSeenSo_7 : decode cX10_isAllSeenSo 7 = .ok (.istore_n 1, 1) := by decide +kernel
theorem dX10_isAllSeenSo_8 : decode cX10_isAllSeenSo 8 = .ok (.iconst 1, 1) := by decide +kernel
theorem dX10_isAllSeenSo_9 : decode cX10_isAllSeenSo 9 = .ok (.istore_n 2, 1) := by decide +kernel
theorem dX10_isAllSeenSo_10 : decode cX10_isAllSeenSo 10 = .ok (.iload_n 2, 1) := by decide +kernel
theorem dX10_isAllSeenSo_11 : decode cX10_isAllSeenSo 11 = .ok (.iload_n 1, 1) := by decide +kernel
theorem dX10_isAllSeenSo_12 : decode cX10_isAllSeenSo 12 = .ok (.if_icmp .gt 44, 3) := by decide +kernel
theorem dX10_isAllSeenSo_15 : decode cX10_isAllSeenSo 15 = .ok (.aload_n 0, 1) := by decide +kernel
theorem dX10_isAllSeenSo_16 : decode cX10_isAllSeenSo 16 = .ok (.getfield 62, 3) := by decide +kernel
theorem dX10_isAllSeenSo_19 : decode cX10_isAllSeenSo 19 = .ok (.aload_n 0, 1) := by decide +kernel
theorem dX10_isAllSeenSo_20 : decode cX10_isAllSeenSo 20 = .ok (.getfield 19, 3) := by decide +kernel
theorem dX10_isAllSeenSo_23 : decode cX10_isAllSeenSo 23 = .ok (.aload_n 0, 1) := by decide +kernel
theorem dX10_isAllSeenSo_24 : decode cX10_isAllSeenSo 24 = .ok (.getfield 66, 3) := by decide +kernel
theorem dX10_isAllSeenSo_27 : decode cX10_isAllSeenSo 27 = .ok (.invokevirtual 235, 3) := by decide +kernel
theorem dX10_isAllSeenSo_30 : decode cX10_isAllSeenSo 30 = .ok (.aload_n 0, 1) := by decide +kernel
theorem dX10_isAllSeenSo_31 : decode cX10_isAllSeenSo 31 = .ok (.getfield 40, 3) := by decide +kernel
theorem dX10_isAllSeenSo_34 : decode cX10_isAllSeenSo 34 = .ok (.iload_n 2, 1) := by decide +kernel
theorem dX10_isAllSeenSo_35 : decode cX10_isAllSeenSo 35 = .ok (.aload_n 0, 1) := by decide +kernel
theorem dX10_isAllSeenSo_36 : decode cX10_isAllSeenSo 36 = .ok (.getfield 62, 3) := by decide +kernel
theorem dX10_isAllSeenSo_39 : decode cX10_isAllSeenSo 39 = .ok (.getfield 259, 3) := by decide +kernel
theorem dX10_isAllSeenSo_42 : decode cX10_isAllSeenSo 42 = .ok (.invokevirtual 389, 3) := by decide +kernel
theorem dX10_isAllSeenSo_45 : decode cX10_isAllSeenSo 45 = .ok (.ifCond .ne 5, 3) := by decide +kernel
theorem dX10_isAllSeenSo_48 : decode cX10_isAllSeenSo 48 = .ok (.iconst 0, 1) := by decide +kernel
theorem dX10_isAllSeenSo_49 : decode cX10_isAllSeenSo 49 = .ok (.ireturn, 1) := by decide +kernel
theorem dX10_isAllSeenSo_50 : decode cX10_isAllSeenSo 50 = .ok (.iinc 2 1, 3) := by decide +kernel
theorem dX10_isAllSeenSo_53 : decode cX10_isAllSeenSo 53 = .ok (.goto (-43), 3) := by decide +kernel
theorem dX10_isAllSeenSo_56 : decode cX10_isAllSeenSo 56 = .ok (.iconst 1, 1) := by decide +kernel
theorem dX10_isAllSeenSo_57 : decode cX10_isAllSeenSo 57 = .ok (.ireturn, 1) := by decide +kernel
theorem dX10_changesThatFit_0 : decode cX10_changesThatFit 0 = .ok (.iconst 0, 1) := by decide +kernel
theorem dX10_changesThatFit_1 : decode cX10_changesThatFit 1 = .ok (.istore_n 2, 1) := by decide +kernel
theorem dX10_changesThatFit_2 : decode cX10_changesThatFit 2 = .ok (.iconst 0, 1) := by decide +kernel
theorem dX10_changesThatFit_3 : decode cX10_changesThatFit 3 = .ok (.istore_n 3, 1) := by decide +kernel
theorem dX10_changesThatFit_4 : decode cX10_changesThatFit 4 = .ok (.iload_n 3, 1) := by decide +kernel
theorem dX10_changesThatFit_5 : decode cX10_changesThatFit 5 = .ok (.aload_n 0, 1) := by decide +kernel
theorem dX10_changesThatFit_6 : decode cX10_changesThatFit 6 = .ok (.getfield 26, 3) := by decide +kernel
theorem dX10_changesThatFit_9 : decode cX10_changesThatFit 9 = .ok (.getfield 138, 3) := by decide +kernel
theorem dX10_changesThatFit_12 : decode cX10_changesThatFit 12 = .ok (.if_icmp .ge 54, 3) := by decide +kernel
theorem dX10_changesThatFit_15 : decode cX10_changesThatFit 15 = .ok (.aload_n 0, 1) := by decide +kernel
theorem dX10_changesThatFit_16 : decode cX10_changesThatFit 16 = .ok (.getfield 26, 3) := by decide +kernel
theorem dX10_changesThatFit_19 : decode cX10_changesThatFit 19 = .ok (.iload_n 1, 1) := by decide +kernel
theorem dX10_changesThatFit_20 : decode cX10_changesThatFit 20 = .ok (.iload_n 3, 1) := by decide +kernel
theorem dX10_changesThatFit_21 : decode cX10_changesThatFit 21 = .ok (.invokevirtual 392, 3) := by decide +kernel
theorem dX10_changesThatFit_24 : decode cX10_changesThatFit 24 = .ok (.ifCond .eq 36, 3) := by decide +kernel
theorem dX10_changesThatFit_27 : decode cX10_changesThatFit 27 = .ok (.aload_n 0, 1) := by decide +kernel
theorem dX10_changesThatFit_28 : decode cX10_changesThatFit 28 = .ok (.getfield 66, 3) := by decide +kernel
theorem dX10_changesThatFit_31 : decode cX10_changesThatFit 31 = .ok (.aload_n 0, 1) := by decide +kernel
theorem dX10_changesThatFit_32 : decode cX10_changesThatFit 32 = .ok (.getfield 26, 3) := by decide +kernel
theorem dX10_changesThatFit_35 : decode cX10_changesThatFit 35 = .ok (.invokevirtual 119, 3) := by decide +kernel
theorem dX10_changesThatFit_38 : decode cX10_changesThatFit 38 = .ok (.aload_n 0, 1) := by decide +kernel
theorem dX10_changesThatFit_39 : decode cX10_changesThatFit 39 = .ok (.getfield 66, 3) := by decide +kernel
theorem dX10_changesThatFit_42 : decode cX10_changesThatFit 42 = .ok (.iload_n 1, 1) := by decide +kernel
theorem dX10_changesThatFit_43 : decode cX10_changesThatFit 43 = .ok (.iload_n 3, 1) := by decide +kernel
theorem dX10_changesThatFit_44 : decode cX10_changesThatFit 44 = .ok (.invokevirtual 395, 3) := by decide +kernel
theorem dX10_changesThatFit_47 : decode cX10_changesThatFit 47 = .ok (.aload_n 0, 1) := by decide +kernel
theorem dX10_changesThatFit_48 : decode cX10_changesThatFit 48 = .ok (.invokevirtual 318, 3) := by decide +kernel
theorem dX10_changesThatFit_51 : decode cX10_changesThatFit 51 = .ok (.ifCond .eq 9, 3) := by decide +kernel
theorem dX10_changesThatFit_54 : decode cX10_changesThatFit 54 = .ok (.iload_n 2, 1) := by decide +kernel
theorem dX10_changesThatFit_55 : decode cX10_changesThatFit 55 = .ok (.iconst 1, 1) := by decide +kernel
theorem dX10_changesThatFit_56 : decode cX10_changesThatFit 56 = .ok (.iload_n 3, 1) := by decide +kernel
theorem dX10_changesThatFit_57 : decode cX10_changesThatFit 57 = .ok (.ishl, 1) := by decide +kernel
theorem dX10_changesThatFit_58 : decode cX10_changesThatFit 58 = .ok (.ior, 1) := by decide +kernel
theorem dX10_changesThatFit_59 : decode cX10_changesThatFit 59 = .ok (.istore_n 2, 1) := by decide +kernel
theorem dX10_changesThatFit_60 : decode cX10_changesThatFit 60 = .ok (.iinc 3 1, 3) := by decide +kernel
theorem dX10_changesThatFit_63 : decode cX10_changesThatFit 63 = .ok (.goto (-59), 3) := by decide +kernel
theorem dX10_changesThatFit_66 : decode cX10_changesThatFit 66 = .ok (.iload_n 2, 1) := by decide +kernel
theorem dX10_changesThatFit_67 : decode cX10_changesThatFit 67 = .ok (.ireturn, 1) := by decide +kernel
theorem dX10_foreseeChanges_0 : decode cX10_foreseeChanges 0 = .ok (.iconst 0, 1) := by decide +kernel
theorem dX10_foreseeChanges_1 : decode cX10_foreseeChanges 1 = .ok (.istore_n 3, 1) := by decide +kernel
theorem dX10_foreseeChanges_2 : decode cX10_foreseeChanges 2 = .ok (.iconst 0, 1) := by decide +kernel
theorem dX10_foreseeChanges_3 : decode cX10_foreseeChanges 3 = .ok (.istore 4, 2) := by decide +kernel
theorem dX10_foreseeChanges_5 : decode cX10_foreseeChanges 5 = .ok (.iload 4, 2) := by decide +kernel
theorem dX10_foreseeChanges_7 : decode cX10_foreseeChanges 7 = .ok (.aload_n 0, 1) := by decide +kernel
theorem dX10_foreseeChanges_8 : decode cX10_foreseeChanges 8 = .ok (.getfield 26, 3) := by decide +kernel
theorem dX10_foreseeChanges_11 : decode cX10_foreseeChanges 11 = .ok (.getfield 138, 3) := by decide +kernel
theorem dX10_foreseeChanges_14 : decode cX10_foreseeChanges 14 = .ok (.if_icmp .ge 90, 3) := by decide +kernel
theorem dX10_foreseeChanges_17 : decode cX10_foreseeChanges 17 = .ok (.iload_n 2, 1) := by decide +kernel
theorem dX10_foreseeChanges_18 : decode cX10_foreseeChanges 18 = .ok (.iload 4, 2) := by decide +kernel
theorem dX10_foreseeChanges_20 : decode cX10_foreseeChanges 20 = .ok (.ishr, 1) := by decide +kernel
theorem dX10_foreseeChanges_21 : decode cX10_foreseeChanges 21 = .ok (.iconst 1, 1) := by decide +kernel
theorem dX10_foreseeChanges_22 : decode cX10_foreseeChanges 22 = .ok (.iand, 1) := by decide +kernel
theorem dX10_foreseeChanges_23 : decode cX10_foreseeChanges 23 = .ok (.iconst 1, 1) := by decide +kernel
theorem dX10_foreseeChanges_24 : decode cX10_foreseeChanges 24 = .ok (.if_icmp .ne 74, 3) := by decide +kernel
theorem dX10_foreseeChanges_27 : decode cX10_foreseeChanges 27 = .ok (.aload_n 0, 1) := by decide +kernel
theorem dX10_foreseeChanges_28 : decode cX10_foreseeChanges 28 = .ok (.getfield 66, 3) := by decide +kernel
theorem dX10_foreseeChanges_31 : decode cX10_foreseeChanges 31 = .ok (.aload_n 0, 1) := by decide +kernel
theorem dX10_foreseeChanges_32 : decode cX10_foreseeChanges 32 = .ok (.getfield 26, 3) := by decide +kernel
theorem dX10_foreseeChanges_35 : decode cX10_foreseeChanges 35 = .ok (.invokevirtual 119, 3) := by decide +kernel
theorem dX10_foreseeChanges_38 : decode cX10_foreseeChanges 38 = .ok (.aload_n 0, 1) := by decide +kernel
theorem dX10_foreseeChanges_39 : decode cX10_foreseeChanges 39 = .ok (.getfield 66, 3) := by decide +kernel
theorem dX10_foreseeChanges_42 : decode cX10_foreseeChanges 42 = .ok (.iload_n 1, 1) := by decide +kernel
theorem dX10_foreseeChanges_43 : decode cX10_foreseeChanges 43 = .ok (.iload 4, 2) := by decide +kernel
theorem dX10_foreseeChanges_45 : decode cX10_foreseeChanges 45 = .ok (.invokevirtual 395, 3) := by decide +kernel
theorem dX10_foreseeChanges_48 : decode cX10_foreseeChanges 48 = .ok (.iconst 0, 1) := by decide +kernel
theorem dX10_foreseeChanges_49 : decode cX10_foreseeChanges 49 = .ok (.istore 5, 2) := by decide +kernel
theorem dX10_foreseeChanges_51 : decode cX10_foreseeChanges 51 = .ok (.iload 5, 2) := by decide +kernel
theorem dX10_foreseeChanges_53 : decode cX10_foreseeChanges 53 = .ok (.bipush 48, 2) := by decide +kernel
theorem dX10_foreseeChanges_55 : decode cX10_foreseeChanges 55 = .ok (.if_icmp .ge 40, 3) := by decide +kernel
theorem dX10_foreseeChanges_58 : decode cX10_foreseeChanges 58 = .ok (.aload_n 0, 1) := by decide +kernel
theorem dX10_foreseeChanges_59 : decode cX10_foreseeChanges 59 = .ok (.getfield 62, 3) := by decide +kernel
theorem dX10_foreseeChanges_62 : decode cX10_foreseeChanges 62 = .ok (.aload_n 0, 1) := by decide +kernel
theorem dX10_foreseeChanges_63 : decode cX10_foreseeChanges 63 = .ok (.getfield 19, 3) := by decide +kernel
theorem dX10_foreseeChanges_66 : decode cX10_foreseeChanges 66 = .ok (.aload_n 0, 1) := by decide +kernel
theorem dX10_foreseeChanges_67 : decode cX10_foreseeChanges 67 = .ok (.getfield 66, 3) := by decide +kernel
theorem dX10_foreseeChanges_70 : decode cX10_foreseeChanges 70 = .ok (.invokevirtual 235, 3) := by decide +kernel
theorem dX10_foreseeChanges_73 : decode cX10_foreseeChanges 73 = .ok (.aload_n 0, 1) := by decide +kernel
theorem dX10_foreseeChanges_74 : decode cX10_foreseeChanges 74 = .ok (.getfield 92, 3) := by decide +kernel
theorem dX10_foreseeChanges_77 : decode cX10_foreseeChanges 77 = .ok (.iload_n 3, 1) := by decide +kernel
theorem dX10_foreseeChanges_78 : decode cX10_foreseeChanges 78 = .ok (.aaload, 1) := by decide +kernel
theorem dX10_foreseeChanges_79 : decode cX10_foreseeChanges 79 = .ok (.iload 5, 2) := by decide +kernel
theorem dX10_foreseeChanges_81 : decode cX10_foreseeChanges 81 = .ok (.aload_n 0, 1) := by decide +kernel
theorem dX10_foreseeChanges_82 : decode cX10_foreseeChanges 82 = .ok (.getfield 62, 3) := by decide +kernel
theorem dX10_foreseeChanges_85 : decode cX10_foreseeChanges 85 = .ok (.getfield 259, 3) := by decide +kernel
theorem dX10_foreseeChanges_88 : decode cX10_foreseeChanges 88 = .ok (.iastore, 1) := by decide +kernel
theorem dX10_foreseeChanges_89 : decode cX10_foreseeChanges 89 = .ok (.iinc 5 1, 3) := by decide +kernel
theorem dX10_foreseeChanges_92 : decode cX10_foreseeChanges 92 = .ok (.goto (-41), 3) := by decide +kernel
theorem dX10_foreseeChanges_95 : decode cX10_foreseeChanges 95 = .ok (.iinc 3 1, 3) := by decide +kernel
theorem dX10_foreseeChanges_98 : decode cX10_foreseeChanges 98 = .ok (.iinc 4 1, 3) := by decide +kernel
theorem dX10_foreseeChanges_101 : decode cX10_foreseeChanges 101 = .ok (.goto (-96), 3) := by decide +kernel
theorem dX10_foreseeChanges_104 : decode cX10_foreseeChanges 104 = .ok (.iload_n 3, 1) := by decide +kernel
theorem dX10_foreseeChanges_105 : decode cX10_foreseeChanges 105 = .ok (.ireturn, 1) := by decide +kernel
theorem dX10_unlikeSets_0 : decode cX10_unlikeSets 0 = .ok (.iconst 0, 1) := by decide +kernel
theorem dX10_unlikeSets_1 : decode cX10_unlikeSets 1 = .ok (.istore_n 3, 1) := by decide +kernel
theorem dX10_unlikeSets_2 : decode cX10_unlikeSets 2 = .ok (.iconst 0, 1) := by decide +kernel
theorem dX10_unlikeSets_3 : decode cX10_unlikeSets 3 = .ok (.istore 4, 2) := by decide +kernel
theorem dX10_unlikeSets_5 : decode cX10_unlikeSets 5 = .ok (.iload 4, 2) := by decide +kernel
theorem dX10_unlikeSets_7 : decode cX10_unlikeSets 7 = .ok (.iload_n 1, 1) := by decide +kernel
theorem dX10_unlikeSets_8 : decode cX10_unlikeSets 8 = .ok (.if_icmp .ge 60, 3) := by decide +kernel
theorem dX10_unlikeSets_11 : decode cX10_unlikeSets 11 = .ok (.iconst 0, 1) := by decide +kernel
theorem dX10_unlikeSets_12 : decode cX10_unlikeSets 12 = .ok (.istore 5, 2) := by decide +kernel
theorem dX10_unlikeSets_14 : decode cX10_unlikeSets 14 = .ok (.iconst 0, 1) := by decide +kernel
theorem dX10_unlikeSets_15 : decode cX10_unlikeSets 15 = .ok (.istore 6, 2) := by decide +kernel
theorem dX10_unlikeSets_17 : decode cX10_unlikeSets 17 = .ok (.iload 6, 2) := by decide +kernel
theorem dX10_unlikeSets_19 : decode cX10_unlikeSets 19 = .ok (.iload 4, 2) := by decide +kernel
theorem dX10_unlikeSets_21 : decode cX10_unlikeSets 21 = .ok (.if_icmp .ge 33, 3) := by decide +kernel
theorem dX10_unlikeSets_24 : decode cX10_unlikeSets 24 = .ok (.aload_n 0, 1) := by decide +kernel
theorem dX10_unlikeSets_25 : decode cX10_unlikeSets 25 = .ok (.getfield 92, 3) := by decide +kernel
theorem dX10_unlikeSets_28 : decode cX10_unlikeSets 28 = .ok (.iload 6, 2) := by decide +kernel
theorem dX10_unlikeSets_30 : decode cX10_unlikeSets 30 = .ok (.aaload, 1) := by decide +kernel
theorem dX10_unlikeSets_31 : decode cX10_unlikeSets 31 = .ok (.iload_n 2, 1) := by decide +kernel
theorem dX10_unlikeSets_32 : decode cX10_unlikeSets 32 = .ok (.iaload, 1) := by decide +kernel
theorem dX10_unlikeSets_33 : decode cX10_unlikeSets 33 = .ok (.aload_n 0, 1) := by decide +kernel
theorem dX10_unlikeSets_34 : decode cX10_unlikeSets 34 = .ok (.getfield 92, 3) := by decide +kernel
theorem dX10_unlikeSets_37 : decode cX10_unlikeSets 37 = .ok (.iload 4, 2) := by decide +kernel
theorem dX10_unlikeSets_39 : decode cX10_unlikeSets 39 = .ok (.aaload, 1) := by decide +kernel
theorem dX10_unlikeSets_40 : decode cX10_unlikeSets 40 = .ok (.iload_n 2, 1) := by decide +kernel
theorem dX10_unlikeSets_41 : decode cX10_unlikeSets 41 = .ok (.iaload, 1) := by decide +kernel
theorem dX10_unlikeSets_42 : decode cX10_unlikeSets 42 = .ok (.if_icmp .ne 6, 3) := by decide +kernel
theorem dX10_unlikeSets_45 : decode cX10_unlikeSets 45 = .ok (.iinc 5 1, 3) := by decide +kernel
theorem dX10_unlikeSets_48 : decode cX10_unlikeSets 48 = .ok (.iinc 6 1, 3) := by decide +kernel
theorem dX10_unlikeSets_51 : decode cX10_unlikeSets 51 = .ok (.goto (-34), 3) := by decide +kernel
theorem dX10_unlikeSets_54 : decode cX10_unlikeSets 54 = .ok (.iload 5, 2) := by decide +kernel
theorem dX10_unlikeSets_56 : decode cX10_unlikeSets 56 = .ok (.ifCond .ne 6, 3) := by decide +kernel
theorem dX10_unlikeSets_59 : decode cX10_unlikeSets 59 = .ok (.iinc 3 1, 3) := by decide +kernel
theorem dX10_unlikeSets_62 : decode cX10_unlikeSets 62 = .ok (.iinc 4 1, 3) := by decide +kernel
theorem dX10_unlikeSets_65 : decode cX10_unlikeSets 65 = .ok (.goto (-60), 3) := by decide +kernel
theorem dX10_unlikeSets_68 : decode cX10_unlikeSets 68 = .ok (.iload_n 3, 1) := by decide +kernel
theorem dX10_unlikeSets_69 : decode cX10_unlikeSets 69 = .ok (.ireturn, 1) := by decide +kernel
theorem dX11_init_0 : decode cX11_init 0 = .ok (.aload_n 0, 1) := by decide +kernel
theorem dX11_init_1 : decode cX11_init 1 = .ok (.invokespecial 3, 3) := by decide +kernel
theorem dX11_init_4 : decode cX11_init 4 = .ok (.aload_n 0, 1) := by decide +kernel
theorem dX11_init_5 : decode cX11_init 5 = .ok (.iconst 4, 1) := by decide +kernel
theorem dX11_init_6 : decode cX11_init 6 = .ok (.anewarray 9, 3) := by decide +kernel
theorem dX11_init_9 : decode cX11_init 9 = .ok (.dup, 1) := by decide +kernel
theorem dX11_init_10 : decode cX11_init 10 = .ok (.iconst 0, 1) := by decide +kernel
theorem dX11_init_11 : decode cX11_init 11 = .ok (.ldc 11, 2) := by decide +kernel
theorem dX11_init_13 : decode cX11_init 13 = .ok (.aastore, 1) := by decide +kernel
theorem dX11_init_14 : decode cX11_init 14 = .ok (.dup, 1) := by decide +kernel
theorem dX11_init_15 : decode cX11_init 15 = .ok (.iconst 1, 1) := by decide +kernel
theorem dX11_init_16 : decode cX11_init 16 = .ok (.ldc 13, 2) := by decide +kernel
theorem dX11_init_18 : decode cX11_init 18 = .ok (.aastore, 1) := by decide +kernel
theorem dX11_init_19 : decode cX11_init 19 = .ok (.dup, 1) := by decide +kernel
theorem dX11_init_20 : decode cX11_init 20 = .ok (.iconst 2, 1) := by decide +kernel
theorem dX11_init_21 : decode cX11_init 21 = .ok (.ldc 15, 2) := by decide +kernel
theorem dX11_init_23 : decode cX11_init 23 = .ok (.aastore, 1) := by decide +kernel
theorem dX11_init_24 : decode cX11_init 24 = .ok (.dup, 1) := by decide +kernel
theorem dX11_init_25 : decode cX11_init 25 = .ok (.iconst 3, 1) := by decide +kernel
theorem dX11_init_26 : decode cX11_init 26 = .ok (.ldc 17, 2) := by decide +kernel
theorem dX11_init_28 : decode cX11_init 28 = .ok (.aastore, 1) := by decide +kernel
theorem dX11_init_29 : decode cX11_init 29 = .ok (.putfield 19, 3) := by decide +kernel
theorem dX11_init_32 : decode cX11_init 32 = .ok (.aload_n 0, 1) := by decide +kernel
theorem dX11_init_33 : decode cX11_init 33 = .ok (.bipush 6, 2) := by decide +kernel
theorem dX11_init_35 : decode cX11_init 35 = .ok (.anewarray 9, 3) := by decide +kernel
theorem dX11_init_38 : decode cX11_init 38 = .ok (.dup, 1) := by decide +kernel
theorem dX11_init_39 : decode cX11_init 39 = .ok (.iconst 0, 1) := by decide +kernel
theorem dX11_init_40 : decode cX11_init 40 = .ok (.ldc 23, 2) := by decide +kernel
theorem dX11_init_42 : decode cX11_init 42 = .ok (.aastore, 1) := by decide +kernel
theorem dX11_init_43 : decode cX11_init 43 = .ok (.dup, 1) := by decide +kernel
theorem dX11_init_44 : decode cX11_init 44 = .ok (.iconst 1, 1) := by decide +kernel
theorem dX11_init_45 : decode cX11_init 45 = .ok (.ldc 25, 2) := by decide +kernel
theorem dX11_init_47 : decode cX11_init 47 = .ok (.aastore, 1) := by decide +kernel
theorem dX11_init_48 : decode cX11_init 48 = .ok (.dup, 1) := by decide +kernel
theorem dX11_init_49 : decode cX11_init 49 = .ok (.iconst 2, 1) := by decide +kernel
theorem dX11_init_50 : decode cX11_init 50 = .ok (.ldc 27, 2) := by decide +kernel
theorem dX11_init_52 : decode cX11_init 52 = .ok (.aastore, 1) := by decide +kernel
theorem dX11_init_53 : decode cX11_init 53 = .ok (.dup, 1) := by decide +kernel
theorem dX11_init_54 : decode cX11_init 54 = .ok (.iconst 3, 1) := by decide +kernel
theorem dX11_init_55 : decode cX11_init 55 = .ok (.ldc 29, 2) := by decide +kernel
theorem dX11_init_57 : decode cX11_init 57 = .ok (.aastore, 1) := by decide +kernel
theorem dX11_init_58 : decode cX11_init 58 = .ok (.dup, 1) := by decide +kernel
theorem dX11_init_59 : decode cX11_init 59 = .ok (.iconst 4, 1) := by decide +kernel
theorem dX11_init_60 : decode cX11_init 60 = .ok (.ldc 31, 2) := by decide +kernel
theorem dX11_init_62 : decode cX11_init 62 = .ok (.aastore, 1) := by decide +kernel
theorem dX11_init_63 : decode cX11_init 63 = .ok (.dup, 1) := by decide +kernel
theorem dX11_init_64 : decode cX11_init 64 = .ok (.iconst 5, 1) := by decide +kernel
theorem dX11_init_65 : decode cX11_init 65 = .ok (.ldc 33, 2) := by decide +kernel
theorem dX11_init_67 : decode cX11_init 67 = .ok (.aastore, 1) := by decide +kernel
theorem dX11_init_68 : decode cX11_init 68 = .ok (.putfield 35, 3) := by decide +kernel
theorem dX11_init_71 : decode cX11_init 71 = .ok (.aload_n 0, 1) := by decide +kernel
theorem dX11_init_72 : decode cX11_init 72 = .ok (.bipush 8, 2) := by decide +kernel
theorem dX11_init_74 : decode cX11_init 74 = .ok (.newarray .int, 2) := by decide +kernel
theorem dX11_init_76 : decode cX11_init 76 = .ok (.putfield 38, 3) := by decide +kernel
theorem dX11_init_79 : decode cX11_init 79 = .ok (.aload_n 0, 1) := by decide +kernel
theorem dX11_init_80 : decode cX11_init 80 = .ok (.bipush 16, 2) := by decide +kernel
theorem dX11_init_82 : decode cX11_init 82 = .ok (.newarray .int, 2) := by decide +kernel
theorem dX11_init_84 : decode cX11_init 84 = .ok (.putfield 42, 3) := by decide +kernel
theorem dX11_init_87 : decode cX11_init 87 = .ok (.aload_n 0, 1) := by decide +kernel
theorem dX11_init_88 : decode cX11_init 88 = .ok (.bipush 16, 2) := by decide +kernel
theorem dX11_init_90 : decode cX11_init 90 = .ok (.newarray .int, 2) := by decide +kernel
theorem dX11_init_92 : decode cX11_init 92 = .ok (.putfield 44, 3) := by decide +kernel
theorem dX11_init_95 : decode cX11_init 95 = .ok (.aload_n 0, 1) := by decide +kernel
theorem dX11_init_96 : decode cX11_init 96 = .ok (.bipush 16, 2) := by decide +kernel
theorem dX11_init_98 : decode cX11_init 98 = .ok (.newarray .int, 2) := by decide +kernel
theorem dX11_init_100 : decode cX11_init 100 = .ok (.putfield 47, 3) := by decide +kernel
theorem dX11_init_103 : decode cX11_init 103 = .ok (.aload_n 0, 1) := by decide +kernel
theorem dX11_init_104 : decode cX11_init 104 = .ok (.bipush 24, 2) := by decide +kernel
theorem dX11_init_106 : decode cX11_init 106 = .ok (.newarray .int, 2) := by decide +kernel
theorem dX11_init_108 : decode cX11_init 108 = .ok (.putfield 50, 3) := by decide +kernel
theorem dX11_init_111 : decode cX11_init 111 = .ok (.aload_n 0, 1) := by decide +kernel
theorem dX11_init_112 : decode cX11_init 112 = .ok (.bipush 24, 2) := by decide +kernel
theorem dX11_init_114 : decode cX11_init 114 = .ok (.newarray .int, 2) := by decide +kernel
theorem dX11_init_116 : decode cX11_init 116 = .ok (.putfield 53, 3) := by decide +kernel
theorem dX11_init_119 : decode cX11_init 119 = .ok (.aload_n 0, 1) := by decide +kernel
theorem dX11_init_120 : decode cX11_init 120 = .ok (.bipush 24, 2) := by decide +kernel
theorem dX11_init_122 : decode cX11_init 122 = .ok (.newarray .int, 2) := by decide +kernel
theorem dX11_init_124 : decode cX11_init 124 = .ok (.putfield 56, 3) := by decide +kernel
theorem dX11_init_127 : decode cX11_init 127 = .ok (.aload_n 0, 1) := by decide +kernel
theorem dX11_init_128 : decode cX11_init 128 = .ok (.sipush 1200, 3) := by decide +kernel
theorem dX11_init_131 : decode cX11_init 131 = .ok (.newarray .int, 2) := by decide +kernel
theorem dX11_init_133 : decode cX11_init 133 = .ok (.putfield 59, 3) := by decide +kernel
theorem dX11_init_136 : decode cX11_init 136 = .ok (.aload_n 0, 1) := by decide +kernel
theorem dX11_init_137 : decode cX11_init 137 = .ok (.iconst 3, 1) := by decide +kernel
theorem dX11_init_138 : decode cX11_init 138 = .ok (.newarray .int, 2) := by decide +kernel
theorem dX11_init_140 : decode cX11_init 140 = .ok (.putfield 62, 3) := by decide +kernel
theorem dX11_init_143 : decode cX11_init 143 = .ok (.aload_n 0, 1) := by decide +kernel
theorem dX11_init_144 : decode cX11_init 144 = .ok (.sipush 600, 3) := by decide +kernel
theorem dX11_init_147 : decode cX11_init 147 = .ok (.newarray .int, 2) := by decide +kernel
theorem dX11_init_149 : decode cX11_init 149 = .ok (.putfield 65, 3) := by decide +kernel
theorem dX11_init_152 : decode cX11_init 152 = .ok (.aload_n 0, 1) := by decide +kernel
theorem dX11_init_153 : decode cX11_init 153 = .ok (.iconst (-1), 1) := by decide +kernel
theorem dX11_init_154 : decode cX11_init 154 = .ok (.putfield 68, 3) := by decide +kernel
theorem dX11_init_157 : decode cX11_init 157 = .ok (.aload_n 0, 1) := by decide +kernel
theorem dX11_init_158 : decode cX11_init 158 = .ok (.bipush 12, 2) := by decide +kernel
theorem dX11_init_160 : decode cX11_init 160 = .ok (.newarray .int, 2) := by decide +kernel
theorem dX11_init_162 : decode cX11_init 162 = .ok (.putfield 72, 3) := by decide +kernel
theorem dX11_init_165 : decode cX11_init 165 = .ok (.aload_n 0, 1) := by decide +kernel
theorem dX11_init_166 : decode cX11_init 166 = .ok (.bipush 12, 2) := by decide +kernel
theorem dX11_init_168 : decode cX11_init 168 = .ok (.newarray .int, 2) := by decide +kernel
theorem dX11_init_170 : decode cX11_init 170 = .ok (.putfield 74, 3) := by decide +kernel
theorem dX11_init_173 : decode cX11_init 173 = .ok (.aload_n 0, 1) := by decide +kernel
theorem dX11_init_174 : decode cX11_init 174 = .ok (.bipush 8, 2) := by decide +kernel
theorem dX11_init_176 : decode cX11_init 176 = .ok (.newarray .int, 2) := by decide +kernel
theorem dX11_init_178 : decode cX11_init 178 = .ok (.putfield 76, 3) := by decide +kernel
theorem dX11_init_181 : decode cX11_init 181 = .ok (.aload_n 0, 1) := by decide +kernel
theorem dX11_init_182 : decode cX11_init 182 = .ok (.bipush 8, 2) := by decide +kernel
theorem dX11_init_184 : decode cX11_init 184 = .ok (.newarray .int, 2) := by decide +kernel
theorem dX11_init_186 : decode cX11_init 186 = .ok (.putfield 79, 3) := by decide +kernel
theorem dX11_init_189 : decode cX11_init 189 = .ok (.aload_n 0, 1) := by decide +kernel
theorem dX11_init_190 : decode cX11_init 190 = .ok (.sipush 1720, 3) := by decide +kernel
theorem dX11_init_193 : decode cX11_init 193 = .ok (.newarray .int, 2) := by decide +kernel
theorem dX11_init_195 : decode cX11_init 195 = .ok (.putfield 82, 3) := by decide +kernel
theorem dX11_init_198 : decode cX11_init 198 = .ok (.aload_n 0, 1) := by decide +kernel
theorem dX11_init_199 : decode cX11_init 199 = .ok (.bipush 6, 2) := by decide +kernel
theorem dX11_init_201 : decode cX11_init 201 = .ok (.newarray .int, 2) := by decide +kernel
theorem dX11_init_203 : decode cX11_init 203 = .ok (.putfield 85, 3) := by decide +kernel
theorem dX11_init_206 : decode cX11_init 206 = .ok (.aload_n 0, 1) := by decide +kernel
theorem dX11_init_207 : decode cX11_init 207 = .ok (.bipush 64, 2) := by decide +kernel
theorem dX11_init_209 : decode cX11_init 209 = .ok (.newarray .int, 2) := by decide +kernel
theorem dX11_init_211 : decode cX11_init 211 = .ok (.putfield 88, 3) := by decide +kernel
theorem dX11_init_214 : decode cX11_init 214 = .ok (.aload_n 0, 1) := by decide +kernel
theorem dX11_init_215 : decode cX11_init 215 = .ok (.bipush 8, 2) := by decide +kernel
theorem dX11_init_217 : decode cX11_init 217 = .ok (.newarray .int, 2) := by decide +kernel
theorem dX11_init_219 : decode cX11_init 219 = .ok (.putfield 91, 3) := by decide +kernel
theorem dX11_init_222 : decode cX11_init 222 = .ok (.aload_n 0, 1) := by decide +kernel
theorem dX11_init_223 : decode cX11_init 223 = .ok (.bipush 8, 2) := by decide +kernel
theorem dX11_init_225 : decode cX11_init 225 = .ok (.newarray .int, 2) := by decide +kernel
theorem dX11_init_227 : decode cX11_init 227 = .ok (.putfield 94, 3) := by decide +kernel
theorem dX11_init_230 : decode cX11_init 230 = .ok (.aload_n 0, 1) := by decide +kernel
theorem dX11_init_231 : decode cX11_init 231 = .ok (.bipush 43, 2) := by decide +kernel
theorem dX11_init_233 : decode cX11_init 233 = .ok (.newarray .int, 2) := by decide +kernel
theorem dX11_init_235 : decode cX11_init 235 = .ok (.putfield 97, 3) := by decide +kernel
theorem dX11_init_238 : decode cX11_init 238 = .ok (.aload_n 0, 1) := by decide +kernel
theorem dX11_init_239 : decode cX11_init 239 = .ok (.sipush 144, 3) := by decide +kernel
theorem dX11_init_242 : decode cX11_init 242 = .ok (.newarray .int, 2) := by decide +kernel
theorem dX11_init_244 : decode cX11_init 244 = .ok (.putfield 100, 3) := by decide +kernel
theorem dX11_init_247 : decode cX11_init 247 = .ok (.aload_n 0, 1) := by decide +kernel
theorem dX11_init_248 : decode cX11_init 248 = .ok (.sipush 4096, 3) := by decide +kernel
theorem dX11_init_251 : decode cX11_init 251 = .ok (.newarray .int, 2) := by decide +kernel
theorem dX11_init_253 : decode cX11_init 253 = .ok (.putfield 103, 3) := by decide +kernel
theorem dX11_init_256 : decode cX11_init 256 = .ok (.aload_n 0, 1) := by decide +kernel
theorem dX11_init_257 : decode cX11_init 257 = .ok (.bipush 12, 2) := by decide +kernel
theorem dX11_init_259 : decode cX11_init 259 = .ok (.newarray .int, 2) := by decide +kernel
theorem dX11_init_261 : decode cX11_init 261 = .ok (.putfield 106, 3) := by decide +kernel
theorem dX11_init_264 : decode cX11_init 264 = .ok (.aload_n 0, 1) := by decide +kernel
theorem dX11_init_265 : decode cX11_init 265 = .ok (.bipush 8, 2) := by decide +kernel
theorem dX11_init_267 : decode cX11_init 267 = .ok (.newarray .int, 2) := by decide +kernel
theorem dX11_init_269 : decode cX11_init 269 = .ok (.putfield 109, 3) := by decide +kernel
theorem dX11_init_272 : decode cX11_init 272 = .ok (.aload_n 0, 1) := by decide +kernel
theorem dX11_init_273 : decode cX11_init 273 = .ok (.bipush 8, 2) := by decide +kernel
theorem dX11_init_275 : decode cX11_init 275 = .ok (.newarray .int, 2) := by decide +kernel
theorem dX11_init_277 : decode cX11_init 277 = .ok (.putfield 112, 3) := by decide +kernel
theorem dX11_init_280 : decode cX11_init 280 = .ok (.aload_n 0, 1) := by decide +kernel
theorem dX11_init_281 : decode cX11_init 281 = .ok (.bipush 8, 2) := by decide +kernel
theorem dX11_init_283 : decode cX11_init 283 = .ok (.newarray .int, 2) := by decide +kernel
theorem dX11_init_285 : decode cX11_init 285 = .ok (.putfield 115, 3) := by decide +kernel
theorem dX11_init_288 : decode cX11_init 288 = .ok (.aload_n 0, 1) := by decide +kernel
theorem dX11_init_289 : decode cX11_init 289 = .ok (.bipush 43, 2) := by decide +kernel
theorem dX11_init_291 : decode cX11_init 291 = .ok (.newarray .int, 2) := by decide +kernel
theorem dX11_init_293 : decode cX11_init 293 = .ok (.putfield 118, 3) := by decide +kernel
theorem dX11_init_296 : decode cX11_init 296 = .ok (.aload_n 0, 1) := by decide +kernel
theorem dX11_init_297 : decode cX11_init 297 = .ok (.sipush 576, 3) := by decide +kernel
theorem dX11_init_300 : decode cX11_init 300 = .ok (.newarray .int, 2) := by decide +kernel
theorem dX11_init_302 : decode cX11_init 302 = .ok (.putfield 121, 3) := by decide +kernel
theorem dX11_init_305 : decode cX11_init 305 = .ok (.aload_n 0, 1) := by decide +kernel
theorem dX11_init_306 : decode cX11_init 306 = .ok (.bipush 43, 2) := by decide +kernel
theorem dX11_init_308 : decode cX11_init 308 = .ok (.newarray .int, 2) := by decide +kernel
theorem dX11_init_310 : decode cX11_init 310 = .ok (.putfield 124, 3) := by decide +kernel
theorem dX11_init_313 : decode cX11_init 313 = .ok (.aload_n 0, 1) := by decide +kernel
theorem dX11_init_314 : decode cX11_init 314 = .ok (.sipush 1720, 3) := by decide +kernel
theorem dX11_init_317 : decode cX11_init 317 = .ok (.newarray .int, 2) := by decide +kernel
theorem dX11_init_319 : decode cX11_init 319 = .ok (.putfield 127, 3) := by decide +kernel
theorem dX11_init_322 : decode cX11_init 322 = .ok (.aload_n 0, 1) := by decide +kernel
theorem dX11_init_323 : decode cX11_init 323 = .ok (.bipush 8, 2) := by decide +kernel
theorem dX11_init_325 : decode cX11_init 325 = .ok (.newarray .int, 2) := by decide +kernel
theorem dX11_init_327 : decode cX11_init 327 = .ok (.putfield 130, 3) := by decide +kernel
theorem dX11_init_330 : decode cX11_init 330 = .ok (.aload_n 0, 1) := by decide +kernel
theorem dX11_init_331 : decode cX11_init 331 = .ok (.bipush 8, 2) := by decide +kernel
theorem dX11_init_333 : decode cX11_init 333 = .ok (.newarray .int, 2) := by decide +kernel
theorem dX11_init_335 : decode cX11_init 335 = .ok (.putfield 133, 3) := by decide +kernel
theorem dX11_init_338 : decode cX11_init 338 = .ok (.aload_n 0, 1) := by decide +kernel
theorem dX11_init_339 : decode cX11_init 339 = .ok (.bipush 8, 2) := by decide +kernel
theorem dX11_init_341 : decode cX11_init 341 = .ok (.newarray .int, 2) := by decide +kernel
theorem dX11_init_343 : decode cX11_init 343 = .ok (.putfield 136, 3) := by decide +kernel
theorem dX11_init_346 : decode cX11_init 346 = .ok (.aload_n 0, 1) := by decide +kernel
theorem dX11_init_347 : decode cX11_init 347 = .ok (.iconst 3, 1) := by decide +kernel
theorem dX11_init_348 : decode cX11_init 348 = .ok (.newarray .int, 2) := by decide +kernel
theorem dX11_init_350 : decode cX11_init 350 = .ok (.putfield 139, 3) := by decide +kernel
theorem dX11_init_353 : decode cX11_init 353 = .ok (.return_, 1) := by decide +kernel
theorem dX11_thrown_0 : decode cX11_thrown 0 = .ok (.aload_n 0, 1) := by decide +kernel
theorem dX11_thrown_1 : decode cX11_thrown 1 = .ok (.getfield 142, 3) := by decide +kernel
theorem dX11_thrown_4 : decode cX11_thrown 4 = .ok (.ireturn, 1) := by decide +kernel
theorem dX11_fail_0 : decode cX11_fail 0 = .ok (.aload_n 0, 1) := by decide +kernel
theorem dX11_fail_1 : decode cX11_fail 1 = .ok (.iload_n 1, 1) := by decide +kernel
theorem dX11_fail_2 : decode cX11_fail 2 = .ok (.putfield 142, 3) := by decide +kernel
theorem dX11_fail_5 : decode cX11_fail 5 = .ok (.iconst 0, 1) := by decide +kernel
theorem dX11_fail_6 : decode cX11_fail 6 = .ok (.ireturn, 1) := by decide +kernel
theorem dX11_failing_0 : decode cX11_failing 0 = .ok (.aload_n 0, 1) := by decide +kernel
theorem dX11_failing_1 : decode cX11_failing 1 = .ok (.iload_n 1, 1) := by decide +kernel
theorem dX11_failing_2 : decode cX11_failing 2 = .ok (.putfield 142, 3) := by decide +kernel
theorem dX11_failing_5 : decode cX11_failing 5 = .ok (.iconst 0, 1) := by decide +kernel
theorem dX11_failing_6 : decode cX11_failing 6 = .ok (.ireturn, 1) := by decide +kernel
theorem dX11_isIn_0 : decode cX11_isIn 0 = .ok (.lload_n 0, 1) := by decide +kernel
theorem dX11_isIn_1 : decode cX11_isIn 1 = .ok (.lload_n 2, 1) := by decide +kernel
theorem dX11_isIn_2 : decode cX11_isIn 2 = .ok (.lcmp, 1) := by decide +kernel
theorem dX11_isIn_3 : decode cX11_isIn 3 = .ok (.ifCond .lt 14, 3) := by decide +kernel
theorem dX11_isIn_6 : decode cX11_isIn 6 = .ok (.lload_n 0, 1) := by decide +kernel
theorem dX11_isIn_7 : decode cX11_isIn 7 = .ok (.lload 4, 2) := by decide +kernel
theorem dX11_isIn_9 : decode cX11_isIn 9 = .ok (.lcmp, 1) := by decide +kernel
theorem dX11_isIn_10 : decode cX11_isIn 10 = .ok (.ifCond .gt 7, 3) := by decide +kernel
theorem dX11_isIn_13 : decode cX11_isIn 13 = .ok (.iconst 1, 1) := by decide +kernel
theorem dX11_isIn_14 : decode cX11_isIn 14 = .ok (.goto 4, 3) := by decide +kernel
theorem dX11_isIn_17 : decode cX11_isIn 17 = .ok (.iconst 0, 1) := by decide +kernel
theorem dX11_isIn_18 : decode cX11_isIn 18 = .ok (.ireturn, 1) := by decide +kernel
theorem dX11_isOf_0 : decode cX11_isOf 0 = .ok (.iload_n 0, 1) := by decide +kernel
theorem dX11_isOf_1 : decode cX11_isOf 1 = .ok (.iload_n 1, 1) := by decide +kernel
theorem dX11_isOf_2 : decode cX11_isOf 2 = .ok (.ishr, 1) := by decide +kernel
theorem dX11_isOf_3 : decode cX11_isOf 3 = .ok (.iconst 1, 1) := by decide +kernel
theorem dX11_isOf_4 : decode cX11_isOf 4 = .ok (.iand, 1) := by decide +kernel
theorem dX11_isOf_5 : decode cX11_isOf 5 = .ok (.iconst 1, 1) := by decide +kernel
theorem dX11_isOf_6 : decode cX11_isOf 6 = .ok (.if_icmp .ne 7, 3) := by decide +kernel
theorem dX11_isOf_9 : decode cX11_isOf 9 = .ok (.iconst 1, 1) := by decide +kernel
theorem dX11_isOf_10 : decode cX11_isOf 10 = .ok (.goto 4, 3) := by decide +kernel
theorem dX11_isOf_13 : decode cX11_isOf 13 = .ok (.iconst 0, 1) := by decide +kernel
theorem dX11_isOf_14 : decode cX11_isOf 14 = .ok (.ireturn, 1) := by decide +kernel
theorem dX11_bitsOf_0 : decode cX11_bitsOf 0 = .ok (.iconst 0, 1) := by decide +kernel
theorem dX11_bitsOf_1 : decode cX11_bitsOf 1 = .ok (.istore_n 1, 1) := by decide +kernel
theorem dX11_bitsOf_2 : decode cX11_bitsOf 2 = .ok (.iload_n 0, 1) := by decide +kernel
theorem dX11_bitsOf_3 : decode cX11_bitsOf 3 = .ok (.istore_n 2, 1) := by decide +kernel
theorem dX11_bitsOf_4 : decode cX11_bitsOf 4 = .ok (.iload_n 2, 1) := by decide +kernel
theorem dX11_bitsOf_5 : decode cX11_bitsOf 5 = .ok (.ifCond .eq 15, 3) := by decide +kernel
theorem dX11_bitsOf_8 : decode cX11_bitsOf 8 = .ok (.iinc 1 1, 3) := by decide +kernel
theorem dX11_bitsOf_11 : decode cX11_bitsOf 11 = .ok (.iload_n 2, 1) := by decide +kernel
theorem dX11_bitsOf_12 : decode cX11_bitsOf 12 = .ok (.iload_n 2, 1) := by decide +kernel
theorem dX11_bitsOf_13 : decode cX11_bitsOf 13 = .ok (.iconst 1, 1) := by decide +kernel
theorem dX11_bitsOf_14 : decode cX11_bitsOf 14 = .ok (.isub, 1) := by decide +kernel
theorem dX11_bitsOf_15 : decode cX11_bitsOf 15 = .ok (.iand, 1) := by decide +kernel
theorem dX11_bitsOf_16 : decode cX11_bitsOf 16 = .ok (.istore_n 2, 1) := by decide +kernel
theorem dX11_bitsOf_17 : decode cX11_bitsOf 17 = .ok (.goto (-13), 3) := by decide +kernel
theorem dX11_bitsOf_20 : decode cX11_bitsOf 20 = .ok (.iload_n 1, 1) := by decide +kernel
theorem dX11_bitsOf_21 : decode cX11_bitsOf 21 = .ok (.ireturn, 1) := by decide +kernel
theorem dX11_isHouse_0 : decode cX11_isHouse 0 = .ok (.iload_n 1, 1) := by decide +kernel
theorem dX11_isHouse_1 : decode cX11_isHouse 1 = .ok (.i2l, 1) := by decide +kernel
theorem dX11_isHouse_2 : decode cX11_isHouse 2 = .ok (.lconst 0, 1) := by decide +kernel
theorem dX11_isHouse_3 : decode cX11_isHouse 3 = .ok (.aload_n 0, 1) := by decide +kernel
theorem dX11_isHouse_4 : decode cX11_isHouse 4 = .ok (.getfield 38, 3) := by decide +kernel
theorem dX11_isHouse_7 : decode cX11_isHouse 7 = .ok (.iconst 0, 1) := by decide +kernel
theorem dX11_isHouse_8 : decode cX11_isHouse 8 = .ok (.iaload, 1) := by decide +kernel
theorem dX11_isHouse_9 : decode cX11_isHouse 9 = .ok (.iconst 1, 1) := by decide +kernel
theorem dX11_isHouse_10 : decode cX11_isHouse 10 = .ok (.isub, 1) := by decide +kernel
theorem dX11_isHouse_11 : decode cX11_isHouse 11 = .ok (.i2l, 1) := by decide +kernel
theorem dX11_isHouse_12 : decode cX11_isHouse 12 = .ok (.invokestatic 145, 3) := by decide +kernel
theorem dX11_isHouse_15 : decode cX11_isHouse 15 = .ok (.ireturn, 1) := by decide +kernel
theorem dX11_isLamp_0 : decode cX11_isLamp 0 = .ok (.iload_n 1, 1) := by decide +kernel
theorem dX11_isLamp_1 : decode cX11_isLamp 1 = .ok (.i2l, 1) := by decide +kernel
theorem dX11_isLamp_2 : decode cX11_isLamp 2 = .ok (.lconst 0, 1) := by decide +kernel
theorem dX11_isLamp_3 : decode cX11_isLamp 3 = .ok (.aload_n 0, 1) := by decide +kernel
theorem dX11_isLamp_4 : decode cX11_isLamp 4 = .ok (.getfield 38, 3) := by decide +kernel
theorem dX11_isLamp_7 : decode cX11_isLamp 7 = .ok (.iconst 1, 1) := by decide +kernel
theorem dX11_isLamp_8 : decode cX11_isLamp 8 = .ok (.iaload, 1) := by decide +kernel
theorem dX11_isLamp_9 : decode cX11_isLamp 9 = .ok (.iconst 1, 1) := by decide +kernel
theorem dX11_isLamp_10 : decode cX11_isLamp 10 = .ok (.isub, 1) := by decide +kernel
theorem dX11_isLamp_11 : decode cX11_isLamp 11 = .ok (.i2l, 1) := by decide +kernel
theorem dX11_isLamp_12 : decode cX11_isLamp 12 = .ok (.invokestatic 145, 3) := by decide +kernel
theorem dX11_isLamp_15 : decode cX11_isLamp 15 = .ok (.ireturn, 1) := by decide +kernel
theorem dX11_feed_0 : decode cX11_feed 0 = .ok (.aload_n 0, 1) := by decide +kernel
theorem dX11_feed_1 : decode cX11_feed 1 = .ok (.iconst 0, 1) := by decide +kernel
theorem dX11_feed_2 : decode cX11_feed 2 = .ok (.putfield 142, 3) := by decide +kernel
theorem dX11_feed_5 : decode cX11_feed 5 = .ok (.aload_n 0, 1) := by decide +kernel
theorem dX11_feed_6 : decode cX11_feed 6 = .ok (.getfield 149, 3) := by decide +kernel
theorem dX11_feed_9 : decode cX11_feed 9 = .ok (.bipush 20, 2) := by decide +kernel
theorem dX11_feed_11 : decode cX11_feed 11 = .ok (.iadd, 1) := by decide +kernel
theorem dX11_feed_12 : decode cX11_feed 12 = .ok (.sipush 600, 3) := by decide +kernel
theorem dX11_feed_15 : decode cX11_feed 15 = .ok (.if_icmp .le 5, 3) := by decide +kernel
theorem dX11_feed_18 : decode cX11_feed 18 = .ok (.iconst (-1), 1) := by decide +kernel
theorem dX11_feed_19 : decode cX11_feed 19 = .ok (.ireturn, 1) := by decide +kernel
theorem dX11_feed_20 : decode cX11_feed 20 = .ok (.iconst 0, 1) := by decide +kernel
theorem dX11_feed_21 : decode cX11_feed 21 = .ok (.istore 6, 2) := by decide +kernel
theorem dX11_feed_23 : decode cX11_feed 23 = .ok (.iload 6, 2) := by decide +kernel
theorem dX11_feed_25 : decode cX11_feed 25 = .ok (.bipush 20, 2) := by decide +kernel
theorem dX11_feed_27 : decode cX11_feed 27 = .ok (.if_icmp .ge 93, 3) := by decide +kernel
theorem dX11_feed_30 : decode cX11_feed 30 = .ok (.iload 6, 2) := by decide +kernel
theorem dX11_feed_32 : decode cX11_feed 32 = .ok (.iconst 4, 1) := by decide +kernel
theorem dX11_feed_33 : decode cX11_feed 33 = .ok (.if_icmp .ge 7, 3) := by decide +kernel
theorem dX11_feed_36 : decode cX11_feed 36 = .ok (.iload_n 1, 1) := by decide +kernel
theorem dX11_feed_37 : decode cX11_feed 37 = .ok (.goto 39, 3) := by decide +kernel
theorem dX11_feed_40 : decode cX11_feed 40 = .ok (.iload 6, 2) := by decide +kernel
theorem dX11_feed_42 : decode cX11_feed 42 = .ok (.bipush 8, 2) := by decide +kernel
theorem dX11_feed_44 : decode cX11_feed 44 = .ok (.if_icmp .ge 7, 3) := by decide +kernel
theorem dX11_feed_47 : decode cX11_feed 47 = .ok (.iload_n 2, 1) := by decide +kernel
theorem dX11_feed_48 : decode cX11_feed 48 = .ok (.goto 28, 3) := by decide +kernel
theorem dX11_feed_51 : decode cX11_feed 51 = .ok (.iload 6, 2) := by decide +kernel
theorem dX11_feed_53 : decode cX11_feed 53 = .ok (.bipush 12, 2) := by decide +kernel
theorem dX11_feed_55 : decode cX11_feed 55 = .ok (.if_icmp .ge 7, 3) := by decide +kernel
theorem dX11_feed_58 : decode cX11_feed 58 = .ok (.iload_n 3, 1) := by decide +kernel
theorem dX11_feed_59 : decode cX11_feed 59 = .ok (.goto 17, 3) := by decide +kernel
theorem dX11_feed_62 : decode cX11_feed 62 = .ok (.iload 6, 2) := by decide +kernel
theorem dX11_feed_64 : decode cX11_feed 64 = .ok (.bipush 16, 2) := by decide +kernel
theorem dX11_feed_66 : decode cX11_feed 66 = .ok (.if_icmp .ge 8, 3) := by decide +kernel
theorem dX11_feed_69 : decode cX11_feed 69 = .ok (.iload 4, 2) := by decide +kernel
theorem dX11_feed_71 : decode cX11_feed 71 = .ok (.goto 5, 3) := by decide +kernel
theorem dX11_feed_74 : decode cX11_feed 74 = .ok (.iload 5, 2) := by decide +kernel
theorem dX11_feed_76 : decode cX11_feed 76 = .ok (.istore 7, 2) := by decide +kernel
theorem dX11_feed_78 : decode cX11_feed 78 = .ok (.aload_n 0, 1) := by decide +kernel
theorem dX11_feed_79 : decode cX11_feed 79 = .ok (.getfield 65, 3) := by decide +kernel
theorem dX11_feed_82 : decode cX11_feed 82 = .ok (.aload_n 0, 1) := by decide +kernel
theorem dX11_feed_83 : decode cX11_feed 83 = .ok (.getfield 149, 3) := by decide +kernel
theorem dX11_feed_86 : decode cX11_feed 86 = .ok (.iload 7, 2) := by decide +kernel
theorem dX11_feed_88 : decode cX11_feed 88 = .ok (.bipush 24, 2) := by decide +kernel
theorem dX11_feed_90 : decode cX11_feed 90 = .ok (.bipush 8, 2) := by decide +kernel
theorem dX11_feed_92 : decode cX11_feed 92 = .ok (.iload 6, 2) := by decide +kernel
theorem dX11_feed_94 : decode cX11_feed 94 = .ok (.iconst 4, 1) := by decide +kernel
theorem dX11_feed_95 : decode cX11_feed 95 = .ok (.irem, 1) := by decide +kernel
theorem dX11_feed_96 : decode cX11_feed 96 = .ok (.imul, 1) := by decide +kernel
theorem dX11_feed_97 : decode cX11_feed 97 = .ok (.isub, 1) := by decide +kernel
theorem dX11_feed_98 : decode cX11_feed 98 = .ok (.ishr, 1) := by decide +kernel
theorem dX11_feed_99 : decode cX11_feed 99 = .ok (.sipush 255, 3) := by decide +kernel
theorem dX11_feed_102 : decode cX11_feed 102 = .ok (.iand, 1) := by decide +kernel
theorem dX11_feed_103 : decode cX11_feed 103 = .ok (.iastore, 1) := by decide +kernel
theorem dX11_feed_104 : decode cX11_feed 104 = .ok (.aload_n 0, 1) := by decide +kernel
theorem dX11_feed_105 : decode cX11_feed 105 = .ok (.dup, 1) := by decide +kernel
theorem dX11_feed_106 : decode cX11_feed 106 = .ok (.getfield 149, 3) := by decide +kernel
theorem dX11_feed_109 : decode cX11_feed 109 = .ok (.iconst 1, 1) := by decide +kernel
theorem dX11_feed_110 : decode cX11_feed 110 = .ok (.iadd, 1) := by decide +kernel
theorem dX11_feed_111 : decode cX11_feed 111 = .ok (.putfield 149, 3) := by decide +kernel
theorem dX11_feed_114 : decode cX11_feed 114 = .ok (.iinc 6 1, 3) := by decide +kernel
theorem dX11_feed_117 : decode cX11_feed 117 = .ok (.goto (-94), 3) := by decide +kernel
theorem dX11_feed_120 : decode cX11_feed 120 = .ok (.aload_n 0, 1) := by decide +kernel
theorem dX11_feed_121 : decode cX11_feed 121 = .ok (.getfield 149, 3) := by decide +kernel
theorem dX11_feed_124 : decode cX11_feed 124 = .ok (.ireturn, 1) := by decide +kernel
theorem dX11_byteAt_0 : decode cX11_byteAt 0 = .ok (.iload_n 1, 1) := by decide +kernel
theorem dX11_byteAt_1 : decode cX11_byteAt 1 = .ok (.aload_n 0, 1) := by decide +kernel
theorem dX11_byteAt_2 : decode cX11_byteAt 2 = .ok (.getfield 152, 3) := by decide +kernel
theorem dX11_byteAt_5 : decode cX11_byteAt 5 = .ok (.if_icmp .ge 12, 3) := by decide +kernel
theorem dX11_byteAt_8 : decode cX11_byteAt 8 = .ok (.aload_n 0, 1) := by decide +kernel
theorem dX11_byteAt_9 : decode cX11_byteAt 9 = .ok (.getfield 65, 3) := by decide +kernel
theorem dX11_byteAt_12 : decode cX11_byteAt 12 = .ok (.iload_n 1, 1) := by decide +kernel
theorem dX11_byteAt_13 : decode cX11_byteAt 13 = .ok (.iaload, 1) := by decide +kernel
theorem dX11_byteAt_14 : decode cX11_byteAt 14 = .ok (.goto 4, 3) := by decide +kernel
theorem dX11_byteAt_17 : decode cX11_byteAt 17 = .ok (.iconst (-1), 1) := by decide +kernel
theorem dX11_byteAt_18 : decode cX11_byteAt 18 = .ok (.ireturn, 1) := by decide +kernel
theorem dX11_isLetter_0 : decode cX11_isLetter 0 = .ok (.iload_n 0, 1) := by decide +kernel
theorem dX11_isLetter_1 : decode cX11_isLetter 1 = .ok (.bipush 97, 2) := by decide +kernel
theorem dX11_isLetter_3 : decode cX11_isLetter 3 = .ok (.if_icmp .lt 13, 3) := by decide +kernel
theorem dX11_isLetter_6 : decode cX11_isLetter 6 = .ok (.iload_n 0, 1) := by decide +kernel
theorem dX11_isLetter_7 : decode cX11_isLetter 7 = .ok (.bipush 122, 2) := by decide +kernel
theorem dX11_isLetter_9 : decode cX11_isLetter 9 = .ok (.if_icmp .gt 7, 3) := by decide +kernel
theorem dX11_isLetter_12 : decode cX11_isLetter 12 = .ok (.iconst 1, 1) := by decide +kernel
theorem dX11_isLetter_13 : decode cX11_isLetter 13 = .ok (.goto 4, 3) := by decide +kernel
theorem dX11_isLetter_16 : decode cX11_isLetter 16 = .ok (.iconst 0, 1) := by decide +kernel
theorem dX11_isLetter_17 : decode cX11_isLetter 17 = .ok (.ireturn, 1) := by decide +kernel
theorem dX11_isDigit_0 : decode cX11_isDigit 0 = .ok (.iload_n 0, 1) := by decide +kernel
theorem dX11_isDigit_1 : decode cX11_isDigit 1 = .ok (.bipush 48, 2) := by decide +kernel
theorem dX11_isDigit_3 : decode cX11_isDigit 3 = .ok (.if_icmp .lt 13, 3) := by decide +kernel
theorem dX11_isDigit_6 : decode cX11_isDigit 6 = .ok (.iload_n 0, 1) := by decide +kernel
theorem dX11_isDigit_7 : decode cX11_isDigit 7 = .ok (.bipush 57, 2) := by decide +kernel
theorem dX11_isDigit_9 : decode cX11_isDigit 9 = .ok (.if_icmp .gt 7, 3) := by decide +kernel
theorem dX11_isDigit_12 : decode cX11_isDigit 12 = .ok (.iconst 1, 1) := by decide +kernel
theorem dX11_isDigit_13 : decode cX11_isDigit 13 = .ok (.goto 4, 3) := by decide +kernel
theorem dX11_isDigit_16 : decode cX11_isDigit 16 = .ok (.iconst 0, 1) := by decide +kernel
theorem dX11_isDigit_17 : decode cX11_isDigit 17 = .ok (.ireturn, 1) := by decide +kernel
theorem dX11_isMark_0 : decode cX11_isMark 0 = .ok (.iload_n 0, 1) := by decide +kernel
theorem dX11_isMark_1 : decode cX11_isMark 1 = .ok (.bipush 59, 2) := by decide +kernel
theorem dX11_isMark_3 : decode cX11_isMark 3 = .ok (.if_icmp .eq 51, 3) := by decide +kernel
theorem dX11_isMark_6 : decode cX11_isMark 6 = .ok (.iload_n 0, 1) := by decide +kernel
theorem dX11_isMark_7 : decode cX11_isMark 7 = .ok (.bipush 40, 2) := by decide +kernel
theorem dX11_isMark_9 : decode cX11_isMark 9 = .ok (.if_icmp .eq 45, 3) := by decide +kernel
theorem dX11_isMark_12 : decode cX11_isMark 12 = .ok (.iload_n 0, 1) := by decide +kernel
theorem dX11_isMark_13 : decode cX11_isMark 13 = .ok (.bipush 41, 2) := by decide +kernel
theorem dX11_isMark_15 : decode cX11_isMark 15 = .ok (.if_icmp .eq 39, 3) := by decide +kernel
theorem dX11_isMark_18 : decode cX11_isMark 18 = .ok (.iload_n 0, 1) := by decide +kernel
theorem dX11_isMark_19 : decode cX11_isMark 19 = .ok (.bipush 43, 2) := by decide +kernel
theorem dX11_isMark_21 : decode cX11_isMark 21 = .ok (.if_icmp .eq 33, 3) := by decide +kernel
theorem dX11_isMark_24 : decode cX11_isMark 24 = .ok (.iload_n 0, 1) := by decide +kernel
theorem dX11_isMark_25 : decode cX11_isMark 25 = .ok (.bipush 45, 2) := by decide +kernel
theorem dX11_isMark_27 : decode cX11_isMark 27 = .ok (.if_icmp .eq 27, 3) := by decide +kernel
theorem dX11_isMark_30 : decode cX11_isMark 30 = .ok (.iload_n 0, 1) := by decide +kernel
theorem dX11_isMark_31 : decode cX11_isMark 31 = .ok (.bipush 42, 2) := by decide +kernel
theorem dX11_isMark_33 : decode cX11_isMark 33 = .ok (.if_icmp .eq 21, 3) := by decide +kernel
theorem dX11_isMark_36 : decode cX11_isMark 36 = .ok (.iload_n 0, 1) := by decide +kernel
theorem dX11_isMark_37 : decode cX11_isMark 37 = .ok (.bipush 47, 2) := by decide +kernel
theorem dX11_isMark_39 : decode cX11_isMark 39 = .ok (.if_icmp .eq 15, 3) := by decide +kernel
theorem dX11_isMark_42 : decode cX11_isMark 42 = .ok (.iload_n 0, 1) := by decide +kernel
theorem dX11_isMark_43 : decode cX11_isMark 43 = .ok (.bipush 60, 2) := by decide +kernel
theorem dX11_isMark_45 : decode cX11_isMark 45 = .ok (.if_icmp .eq 9, 3) := by decide +kernel
theorem dX11_isMark_48 : decode cX11_isMark 48 = .ok (.iload_n 0, 1) := by decide +kernel
theorem dX11_isMark_49 : decode cX11_isMark 49 = .ok (.bipush 61, 2) := by decide +kernel
theorem dX11_isMark_51 : decode cX11_isMark 51 = .ok (.if_icmp .ne 7, 3) := by decide +kernel
theorem dX11_isMark_54 : decode cX11_isMark 54 = .ok (.iconst 1, 1) := by decide +kernel
theorem dX11_isMark_55 : decode cX11_isMark 55 = .ok (.goto 4, 3) := by decide +kernel
theorem dX11_isMark_58 : decode cX11_isMark 58 = .ok (.iconst 0, 1) := by decide +kernel
theorem dX11_isMark_59 : decode cX11_isMark 59 = .ok (.ireturn, 1) := by decide +kernel
theorem dX11_stepOn_0 : decode cX11_stepOn 0 = .ok (.aload_n 0, 1) := by decide +kernel
theorem dX11_stepOn_1 : decode cX11_stepOn 1 = .ok (.aload_n 0, 1) := by decide +kernel
theorem dX11_stepOn_2 : decode cX11_stepOn 2 = .ok (.getfield 155, 3) := by decide +kernel
theorem dX11_stepOn_5 : decode cX11_stepOn 5 = .ok (.invokevirtual 158, 3) := by decide +kernel
theorem dX11_stepOn_8 : decode cX11_stepOn 8 = .ok (.bipush 32, 2) := by decide +kernel
theorem dX11_stepOn_10 : decode cX11_stepOn 10 = .ok (.if_icmp .eq 16, 3) := by decide +kernel
theorem dX11_stepOn_13 : decode cX11_stepOn 13 = .ok (.aload_n 0, 1) := by decide +kernel
theorem dX11_stepOn_14 : decode cX11_stepOn 14 = .ok (.aload_n 0, 1) := by decide +kernel
theorem dX11_stepOn_15 : decode cX11_stepOn 15 = .ok (.getfield 155, 3) := by decide +kernel
theorem dX11_stepOn_18 : decode cX11_stepOn 18 = .ok (.invokevirtual 158, 3) := by decide +kernel
theorem dX11_stepOn_21 : decode cX11_stepOn 21 = .ok (.bipush 10, 2) := by decide +kernel
theorem dX11_stepOn_23 : decode cX11_stepOn 23 = .ok (.if_icmp .ne 16, 3) := by decide +kernel
theorem dX11_stepOn_26 : decode cX11_stepOn 26 = .ok (.aload_n 0, 1) := by decide +kernel
theorem dX11_stepOn_27 : decode cX11_stepOn 27 = .ok (.dup, 1) := by decide +kernel
theorem dX11_stepOn_28 : decode cX11_stepOn 28 = .ok (.getfield 155, 3) := by decide +kernel
theorem dX11_stepOn_31 : decode cX11_stepOn 31 = .ok (.iconst 1, 1) := by decide +kernel
theorem dX11_stepOn_32 : decode cX11_stepOn 32 = .ok (.iadd, 1) := by decide +kernel
theorem dX11_stepOn_33 : decode cX11_stepOn 33 = .ok (.putfield 155, 3) := by decide +kernel
theorem dX11_stepOn_36 : decode cX11_stepOn 36 = .ok (.goto (-36), 3) := by decide +kernel
theorem dX11_stepOn_39 : decode cX11_stepOn 39 = .ok (.aload_n 0, 1) := by decide +kernel
theorem dX11_stepOn_40 : decode cX11_stepOn 40 = .ok (.aload_n 0, 1) := by decide +kernel
theorem dX11_stepOn_41 : decode cX11_stepOn 41 = .ok (.getfield 155, 3) := by decide +kernel
theorem dX11_stepOn_44 : decode cX11_stepOn 44 = .ok (.putfield 162, 3) := by decide +kernel
theorem dX11_stepOn_47 : decode cX11_stepOn 47 = .ok (.aload_n 0, 1) := by decide +kernel
theorem dX11_stepOn_48 : decode cX11_stepOn 48 = .ok (.aload_n 0, 1) := by decide +kernel
theorem dX11_stepOn_49 : decode cX11_stepOn 49 = .ok (.getfield 155, 3) := by decide +kernel
theorem dX11_stepOn_52 : decode cX11_stepOn 52 = .ok (.invokevirtual 158, 3) := by decide +kernel
theorem dX11_stepOn_55 : decode cX11_stepOn 55 = .ok (.istore_n 1, 1) := by decide +kernel
theorem dX11_stepOn_56 : decode cX11_stepOn 56 = .ok (.iload_n 1, 1) := by decide +kernel
theorem dX11_stepOn_57 : decode cX11_stepOn 57 = .ok (.iconst (-1), 1) := by decide +kernel
theorem dX11_stepOn_58 : decode cX11_stepOn 58 = .ok (.if_icmp .ne 11, 3) := by decide +kernel
theorem dX11_stepOn_61 : decode cX11_stepOn 61 = .ok (.aload_n 0, 1) := by decide +kernel
theorem dX11_stepOn_62 : decode cX11_stepOn 62 = .ok (.iconst 0, 1) := by decide +kernel
theorem dX11_stepOn_63 : decode cX11_stepOn 63 = .ok (.putfield 165, 3) := by decide +kernel
theorem dX11_stepOn_66 : decode cX11_stepOn 66 = .ok (.goto 146, 3) := by decide +kernel
theorem dX11_stepOn_69 : decode cX11_stepOn 69 = .ok (.iload_n 1, 1) := by decide +kernel
theorem dX11_stepOn_70 : decode cX11_stepOn 70 = .ok (.invokestatic 168, 3) := by decide +kernel
theorem dX11_stepOn_73 : decode cX11_stepOn 73 = .ok (.ifCond .eq 38, 3) := by decide +kernel
theorem dX11_stepOn_76 : decode cX11_stepOn 76 = .ok (.aload_n 0, 1) := by decide +kernel
theorem dX11_stepOn_77 : decode cX11_stepOn 77 = .ok (.aload_n 0, 1) := by decide +kernel
theorem dX11_stepOn_78 : decode cX11_stepOn 78 = .ok (.getfield 155, 3) := by decide +kernel
theorem dX11_stepOn_81 : decode cX11_stepOn 81 = .ok (.invokevirtual 158, 3) := by decide +kernel
theorem dX11_stepOn_84 : decode cX11_stepOn 84 = .ok (.invokestatic 168, 3) := by decide +kernel
theorem dX11_stepOn_87 : decode cX11_stepOn 87 = .ok (.ifCond .eq 16, 3) := by decide +kernel
theorem dX11_stepOn_90 : decode cX11_stepOn 90 = .ok (.aload_n 0, 1) := by decide +kernel
theorem dX11_stepOn_91 : decode cX11_stepOn 91 = .ok (.dup, 1) := by decide +kernel
theorem dX11_stepOn_92 : decode cX11_stepOn 92 = .ok (.getfield 155, 3) := by decide +kernel
theorem dX11_stepOn_95 : decode cX11_stepOn 95 = .ok (.iconst 1, 1) := by decide +kernel
theorem dX11_stepOn_96 : decode cX11_stepOn 96 = .ok (.iadd, 1) := by decide +kernel
theorem dX11_stepOn_97 : decode cX11_stepOn 97 = .ok (.putfield 155, 3) := by decide +kernel
theorem dX11_stepOn_100 : decode cX11_stepOn 100 = .ok (.goto (-24), 3) := by decide +kernel
theorem dX11_stepOn_103 : decode cX11_stepOn 103 = .ok (.aload_n 0, 1) := by decide +kernel
theorem dX11_stepOn_104 : decode cX11_stepOn 104 = .ok (.iconst 1, 1) := by decide +kernel
theorem dX11_stepOn_105 : decode cX11_stepOn 105 = .ok (.putfield 165, 3) := by decide +kernel
theorem dX11_stepOn_108 : decode cX11_stepOn 108 = .ok (.goto 104, 3) := by decide +kernel
theorem dX11_stepOn_111 : decode cX11_stepOn 111 = .ok (.iload_n 1, 1) := by decide +kernel
theorem dX11_stepOn_112 : decode cX11_stepOn 112 = .ok (.invokestatic 172, 3) := by decide +kernel
theorem dX11_stepOn_115 : decode cX11_stepOn 115 = .ok (.ifCond .eq 71, 3) := by decide +kernel
theorem dX11_stepOn_118 : decode cX11_stepOn 118 = .ok (.aload_n 0, 1) := by decide +kernel
theorem dX11_stepOn_119 : decode cX11_stepOn 119 = .ok (.iconst 0, 1) := by decide +kernel
theorem dX11_stepOn_120 : decode cX11_stepOn 120 = .ok (.putfield 175, 3) := by decide +kernel
theorem dX11_stepOn_123 : decode cX11_stepOn 123 = .ok (.aload_n 0, 1) := by decide +kernel
theorem dX11_stepOn_124 : decode cX11_stepOn 124 = .ok (.aload_n 0, 1) := by decide +kernel
theorem dX11_stepOn_125 : decode cX11_stepOn 125 = .ok (.getfield 155, 3) := by decide +kernel
theorem dX11_stepOn_128 : decode cX11_stepOn 128 = .ok (.invokevirtual 158, 3) := by decide +kernel
theorem dX11_stepOn_131 : decode cX11_stepOn 131 = .ok (.invokestatic 172, 3) := by decide +kernel
theorem dX11_stepOn_134 : decode cX11_stepOn 134 = .ok (.ifCond .eq 44, 3) := by decide +kernel
theorem dX11_stepOn_137 : decode cX11_stepOn 137 = .ok (.aload_n 0, 1) := by decide +kernel
theorem dX11_stepOn_138 : decode cX11_stepOn 138 = .ok (.ldc 178, 2) := by decide +kernel
theorem dX11_stepOn_140 : decode cX11_stepOn 140 = .ok (.bipush 10, 2) := by decide +kernel
theorem dX11_stepOn_142 : decode cX11_stepOn 142 = .ok (.aload_n 0, 1) := by decide +kernel
theorem dX11_stepOn_143 : decode cX11_stepOn 143 = .ok (.getfield 175, 3) := by decide +kernel
theorem dX11_stepOn_146 : decode cX11_stepOn 146 = .ok (.imul, 1) := by decide +kernel
theorem dX11_stepOn_147 : decode cX11_stepOn 147 = .ok (.aload_n 0, 1) := by decide +kernel
theorem dX11_stepOn_148 : decode cX11_stepOn 148 = .ok (.aload_n 0, 1) := by decide +kernel
theorem dX11_stepOn_149 : decode cX11_stepOn 149 = .ok (.getfield 155, 3) := by decide +kernel
theorem dX11_stepOn_152 : decode cX11_stepOn 152 = .ok (.invokevirtual 158, 3) := by decide +kernel
theorem dX11_stepOn_155 : decode cX11_stepOn 155 = .ok (.iadd, 1) := by decide +kernel
theorem dX11_stepOn_156 : decode cX11_stepOn 156 = .ok (.bipush 48, 2) := by decide +kernel
theorem dX11_stepOn_158 : decode cX11_stepOn 158 = .ok (.isub, 1) := by decide +kernel
theorem dX11_stepOn_159 : decode cX11_stepOn 159 = .ok (.invokestatic 179, 3) := by decide +kernel
theorem dX11_stepOn_162 : decode cX11_stepOn 162 = .ok (.putfield 175, 3) := by decide +kernel
theorem dX11_stepOn_165 : decode cX11_stepOn 165 = .ok (.aload_n 0, 1) := by decide +kernel
theorem dX11_stepOn_166 : decode cX11_stepOn 166 = .ok (.dup, 1) := by decide +kernel
theorem dX11_stepOn_167 : decode cX11_stepOn 167 = .ok (.getfield 155, 3) := by decide +kernel
theorem dX11_stepOn_170 : decode cX11_stepOn 170 = .ok (.iconst 1, 1) := by decide +kernel
theorem dX11_stepOn_171 : decode cX11_stepOn 171 = .ok (.iadd, 1) := by decide +kernel
theorem dX11_stepOn_172 : decode cX11_stepOn 172 = .ok (.putfield 155, 3) := by decide +kernel
theorem dX11_stepOn_175 : decode cX11_stepOn 175 = .ok (.goto (-52), 3) := by decide +kernel
theorem dX11_stepOn_178 : decode cX11_stepOn 178 = .ok (.aload_n 0, 1) := by decide +kernel
theorem dX11_stepOn_179 : decode cX11_stepOn 179 = .ok (.iconst 2, 1) := by decide +kernel
theorem dX11_stepOn_180 : decode cX11_stepOn 180 = .ok (.putfield 165, 3) := by decide +kernel
theorem dX11_stepOn_183 : decode cX11_stepOn 183 = .ok (.goto 29, 3) := by decide +kernel
theorem dX11_stepOn_186 : decode cX11_stepOn 186 = .ok (.aload_n 0, 1) := by decide +kernel
theorem dX11_stepOn_187 : decode cX11_stepOn 187 = .ok (.dup, 1) := by decide +kernel
theorem dX11_stepOn_188 : decode cX11_stepOn 188 = .ok (.getfield 155, 3) := by decide +kernel
theorem dX11_stepOn_191 : decode cX11_stepOn 191 = .ok (.iconst 1, 1) := by decide +kernel
theorem dX11_stepOn_192 : decode cX11_stepOn 192 = .ok (.iadd, 1) := by decide +kernel
theorem dX11_stepOn_193 : decode cX11_stepOn 193 = .ok (.putfield 155, 3) := by decide +kernel
theorem dX11_stepOn_196 : decode cX11_stepOn 196 = .ok (.aload_n 0, 1) := by decide +kernel
theorem dX11_stepOn_197 : decode cX11_stepOn 197 = .ok (.iload_n 1, 1) := by decide +kernel
theorem dX11_stepOn_198 : decode cX11_stepOn 198 = .ok (.invokestatic 185, 3) := by decide +kernel
theorem dX11_stepOn_201 : decode cX11_stepOn 201 = .ok (.ifCond .eq 7, 3) := by decide +kernel
theorem dX11_stepOn_204 : decode cX11_stepOn 204 = .ok (.iconst 3, 1) := by decide +kernel
theorem dX11_stepOn_205 : decode cX11_stepOn 205 = .ok (.goto 4, 3) := by decide +kernel
theorem dX11_stepOn_208 : decode cX11_stepOn 208 = .ok (.iconst 4, 1) := by decide +kernel
theorem dX11_stepOn_209 : decode cX11_stepOn 209 = .ok (.putfield 165, 3) := by decide +kernel
theorem dX11_stepOn_212 : decode cX11_stepOn 212 = .ok (.aload_n 0, 1) := by decide +kernel
theorem dX11_stepOn_213 : decode cX11_stepOn 213 = .ok (.aload_n 0, 1) := by decide +kernel
theorem dX11_stepOn_214 : decode cX11_stepOn 214 = .ok (.getfield 155, 3) := by decide +kernel
theorem dX11_stepOn_217 : decode cX11_stepOn 217 = .ok (.putfield 188, 3) := by decide +kernel
theorem dX11_stepOn_220 : decode cX11_stepOn 220 = .ok (.return_, 1) := by decide +kernel
theorem dX11_wrong_0 : decode cX11_wrong 0 = .ok (.aload_n 0, 1) := by decide +kernel
theorem dX11_wrong_1 : decode cX11_wrong 1 = .ok (.getfield 191, 3) := by decide +kernel
theorem dX11_wrong_4 : decode cX11_wrong 4 = .ok (.ifCond .eq 4, 3) := by decide +kernel
theorem dX11_wrong_7 : decode cX11_wrong 7 = .ok (.return_, 1) := by decide +kernel
theorem dX11_wrong_8 : decode cX11_wrong 8 = .ok (.aload_n 0, 1) := by decide +kernel
theorem dX11_wrong_9 : decode cX11_wrong 9 = .ok (.iload_n 1, 1) := by decide +kernel
theorem dX11_wrong_10 : decode cX11_wrong 10 = .ok (.putfield 191, 3) := by decide +kernel
theorem dX11_wrong_13 : decode cX11_wrong 13 = .ok (.aload_n 0, 1) := by decide +kernel
theorem dX11_wrong_14 : decode cX11_wrong 14 = .ok (.aload_n 0, 1) := by decide +kernel
theorem dX11_wrong_15 : decode cX11_wrong 15 = .ok (.getfield 162, 3) := by decide +kernel
theorem dX11_wrong_18 : decode cX11_wrong 18 = .ok (.putfield 194, 3) := by decide +kernel
theorem dX11_wrong_21 : decode cX11_wrong 21 = .ok (.return_, 1) := by decide +kernel
theorem dX11_is_0 : decode cX11_is 0 = .ok (.aload_n 0, 1) := by decide +kernel
theorem dX11_is_1 : decode cX11_is 1 = .ok (.getfield 191, 3) := by decide +kernel
theorem dX11_is_4 : decode cX11_is 4 = .ok (.ifCond .ne 31, 3) := by decide +kernel
theorem dX11_is_7 : decode cX11_is 7 = .ok (.aload_n 0, 1) := by decide +kernel
theorem dX11_is_8 : decode cX11_is 8 = .ok (.getfield 165, 3) := by decide +kernel
theorem dX11_is_11 : decode cX11_is 11 = .ok (.iconst 1, 1) := by decide +kernel
theorem dX11_is_12 : decode cX11_is 12 = .ok (.if_icmp .ne 23, 3) := by decide +kernel
theorem dX11_is_15 : decode cX11_is 15 = .ok (.aload_n 1, 1) := by decide +kernel
theorem dX11_is_16 : decode cX11_is 16 = .ok (.invokevirtual 197, 3) := by decide +kernel
theorem dX11_is_19 : decode cX11_is 19 = .ok (.aload_n 0, 1) := by decide +kernel
theorem dX11_is_20 : decode cX11_is 20 = .ok (.getfield 188, 3) := by decide +kernel
theorem dX11_is_23 : decode cX11_is 23 = .ok (.aload_n 0, 1) := by decide +kernel
theorem dX11_is_24 : decode cX11_is 24 = .ok (.getfield 162, 3) := by decide +kernel
theorem dX11_is_27 : decode cX11_is 27 = .ok (.isub, 1) := by decide +kernel
theorem dX11_is_28 : decode cX11_is 28 = .ok (.if_icmp .ne 7, 3) := by decide +kernel
theorem dX11_is_31 : decode cX11_is 31 = .ok (.iconst 1, 1) := by decide +kernel
theorem dX11_is_32 : decode cX11_is 32 = .ok (.goto 4, 3) := by decide +kernel
theorem dX11_is_35 : decode cX11_is 35 = .ok (.iconst 0, 1) := by decide +kernel
theorem dX11_is_36 : decode cX11_is 36 = .ok (.istore_n 2, 1) := by decide +kernel
theorem dX11_is_37 : decode cX11_is 37 = .ok (.iconst 0, 1) := by decide +kernel
theorem dX11_is_38 : decode cX11_is 38 = .ok (.istore_n 3, 1) := by decide +kernel
theorem dX11_is_39 : decode cX11_is 39 = .ok (.iload_n 2, 1) := by decide +kernel
theorem dX11_is_40 : decode cX11_is 40 = .ok (.ifCond .eq 42, 3) := by decide +kernel
theorem dX11_is_43 : decode cX11_is 43 = .ok (.iload_n 3, 1) := by decide +kernel
theorem dX11_is_44 : decode cX11_is 44 = .ok (.aload_n 1, 1) := by decide +kernel
theorem dX11_is_45 : decode cX11_is 45 = .ok (.invokevirtual 197, 3) := by decide +kernel
theorem dX11_is_48 : decode cX11_is 48 = .ok (.if_icmp .ge 34, 3) := by decide +kernel
theorem dX11_is_51 : decode cX11_is 51 = .ok (.aload_n 1, 1) := by decide +kernel
theorem dX11_is_52 : decode cX11_is 52 = .ok (.iload_n 3, 1) := by decide +kernel
theorem dX11_is_53 : decode cX11_is 53 = .ok (.invokevirtual 201, 3) := by decide +kernel
theorem dX11_is_56 : decode cX11_is 56 = .ok (.aload_n 0, 1) := by decide +kernel
theorem dX11_is_57 : decode cX11_is 57 = .ok (.getfield 65, 3) := by decide +kernel
theorem dX11_is_60 : decode cX11_is 60 = .ok (.aload_n 0, 1) := by decide +kernel
theorem dX11_is_61 : decode cX11_is 61 = .ok (.getfield 162, 3) := by decide +kernel
theorem dX11_is_64 : decode cX11_is 64 = .ok (.iload_n 3, 1) := by decide +kernel
theorem dX11_is_65 : decode cX11_is 65 = .ok (.iadd, 1) := by decide +kernel
theorem dX11_is_66 : decode cX11_is 66 = .ok (.iaload, 1) := by decide +kernel
theorem dX11_is_67 : decode cX11_is 67 = .ok (.if_icmp .ne 7, 3) := by decide +kernel
theorem dX11_is_70 : decode cX11_is 70 = .ok (.iconst 1, 1) := by decide +kernel
theorem dX11_is_71 : decode cX11_is 71 = .ok (.goto 4, 3) := by decide +kernel
theorem dX11_is_74 : decode cX11_is 74 = .ok (.iconst 0, 1) := by decide +kernel
theorem dX11_is_75 : decode cX11_is 75 = .ok (.istore_n 2, 1) := by decide +kernel
theorem dX11_is_76 : decode cX11_is 76 = .ok (.iinc 3 1, 3) := by decide +kernel
theorem dX11_is_79 : decode cX11_is 79 = .ok (.goto (-40), 3) := by decide +kernel
theorem dX11_is_82 : decode cX11_is 82 = .ok (.iload_n 2, 1) := by decide +kernel
theorem dX11_is_83 : decode cX11_is 83 = .ok (.ireturn, 1) := by decide +kernel
theorem dX11_which_0 : decode cX11_which 0 = .ok (.iconst 0, 1) := by decide +kernel
theorem dX11_which_1 : decode cX11_which 1 = .ok (.istore_n 2, 1) := by decide +kernel
theorem dX11_which_2 : decode cX11_which 2 = .ok (.iload_n 2, 1) := by decide +kernel
theorem dX11_which_3 : decode cX11_which 3 = .ok (.aload_n 1, 1) := by decide +kernel
theorem dX11_which_4 : decode cX11_which 4 = .ok (.arraylength, 1) := by decide +kernel
theorem dX11_which_5 : decode cX11_which 5 = .ok (.if_icmp .ge 21, 3) := by decide +kernel
theorem dX11_which_8 : decode cX11_which 8 = .ok (.aload_n 0, 1) := by decide +kernel
theorem dX11_which_9 : decode cX11_which 9 = .ok (.aload_n 1, 1) := by decide +kernel
theorem dX11_which_10 : decode cX11_which 10 = .ok (.iload_n 2, 1) := by decide +kernel
theorem dX11_which_11 : decode cX11_which 11 = .ok (.aaload, 1) := by decide +kernel
theorem dX11_which_12 : decode cX11_which 12 = .ok (.invokevirtual 205, 3) := by decide +kernel
theorem dX11_which_15 : decode cX11_which 15 = .ok (.ifCond .eq 5, 3) := by decide +kernel
theorem dX11_which_18 : decode cX11_which 18 = .ok (.iload_n 2, 1) := by decide +kernel
theorem dX11_which_19 : decode cX11_which 19 = .ok (.ireturn, 1) := by decide +kernel
theorem dX11_which_20 : decode cX11_which 20 = .ok (.iinc 2 1, 3) := by decide +kernel
theorem dX11_which_23 : decode cX11_which 23 = .ok (.goto (-21), 3) := by decide +kernel
theorem dX11_which_26 : decode cX11_which 26 = .ok (.iconst (-1), 1) := by decide +kernel
theorem dX11_which_27 : decode cX11_which 27 = .ok (.ireturn, 1) := by decide +kernel
theorem dX11_isMarked_0 : decode cX11_isMarked 0 = .ok (.aload_n 0, 1) := by decide +kernel
theorem dX11_isMarked_1 : decode cX11_isMarked 1 = .ok (.getfield 191, 3) := by decide +kernel
theorem dX11_isMarked_4 : decode cX11_isMarked 4 = .ok (.ifCond .ne 28, 3) := by decide +kernel
theorem dX11_isMarked_7 : decode cX11_isMarked 7 = .ok (.aload_n 0, 1) := by decide +kernel
theorem dX11_isMarked_8 : decode cX11_isMarked 8 = .ok (.getfield 165, 3) := by decide +kernel
theorem dX11_isMarked_11 : decode cX11_isMarked 11 = .ok (.iconst 3, 1) := by decide +kernel
theorem dX11_isMarked_12 : decode cX11_isMarked 12 = .ok (.if_icmp .ne 20, 3) := by decide +kernel
theorem dX11_isMarked_15 : decode cX11_isMarked 15 = .ok (.aload_n 0, 1) := by decide +kernel
theorem dX11_isMarked_16 : decode cX11_isMarked 16 = .ok (.getfield 65, 3) := by decide +kernel
theorem dX11_isMarked_19 : decode cX11_isMarked 19 = .ok (.aload_n 0, 1) := by decide +kernel
theorem dX11_isMarked_20 : decode cX11_isMarked 20 = .ok (.getfield 162, 3) := by decide +kernel
theorem dX11_isMarked_23 : decode cX11_isMarked 23 = .ok (.iaload, 1) := by decide +kernel
theorem dX11_isMarked_24 : decode cX11_isMarked 24 = .ok (.iload_n 1, 1) := by decide +kernel
theorem dX11_isMarked_25 : decode cX11_isMarked 25 = .ok (.if_icmp .ne 7, 3) := by decide +kernel
theorem dX11_isMarked_28 : decode cX11_isMarked 28 = .ok (.iconst 1, 1) := by decide +kernel
theorem dX11_isMarked_29 : decode cX11_isMarked 29 = .ok (.goto 4, 3) := by decide +kernel
theorem dX11_isMarked_32 : decode cX11_isMarked 32 = .ok (.iconst 0, 1) := by decide +kernel
theorem dX11_isMarked_33 : decode cX11_isMarked 33 = .ok (.ireturn, 1) := by decide +kernel
theorem dX11_mark_0 : decode cX11_mark 0 = .ok (.aload_n 0, 1) := by decide +kernel
theorem dX11_mark_1 : decode cX11_mark 1 = .ok (.getfield 191, 3) := by decide +kernel
theorem dX11_mark_4 : decode cX11_mark 4 = .ok (.ifCond .ne 16, 3) := by decide +kernel
theorem dX11_mark_7 : decode cX11_mark 7 = .ok (.aload_n 0, 1) := by decide +kernel
theorem dX11_mark_8 : decode cX11_mark 8 = .ok (.iload_n 1, 1) := by decide +kernel
theorem dX11_mark_9 : decode cX11_mark 9 = .ok (.invokevirtual 209, 3) := by decide +kernel
theorem dX11_mark_12 : decode cX11_mark 12 = .ok (.ifCond .ne 8, 3) := by decide +kernel
theorem dX11_mark_15 : decode cX11_mark 15 = .ok (.aload_n 0, 1) := by decide +kernel
theorem dX11_mark_16 : decode cX11_mark 16 = .ok (.iconst 1, 1) := by decide +kernel
theorem dX11_mark_17 : decode cX11_mark 17 = .ok (.invokevirtual 212, 3) := by decide +kernel
theorem dX11_mark_20 : decode cX11_mark 20 = .ok (.aload_n 0, 1) := by decide +kernel
theorem dX11_mark_21 : decode cX11_mark 21 = .ok (.getfield 191, 3) := by decide +kernel
theorem dX11_mark_24 : decode cX11_mark 24 = .ok (.ifCond .ne 7, 3) := by decide +kernel
theorem dX11_mark_27 : decode cX11_mark 27 = .ok (.aload_n 0, 1) := by decide +kernel
theorem dX11_mark_28 : decode cX11_mark 28 = .ok (.invokevirtual 216, 3) := by decide +kernel
theorem dX11_mark_31 : decode cX11_mark 31 = .ok (.return_, 1) := by decide +kernel
theorem dX11_numberNow_0 : decode cX11_numberNow 0 = .ok (.aload_n 0, 1) := by decide +kernel
theorem dX11_numberNow_1 : decode cX11_numberNow 1 = .ok (.getfield 191, 3) := by decide +kernel
theorem dX11_numberNow_4 : decode cX11_numberNow 4 = .ok (.ifCond .eq 5, 3) := by decide +kernel
theorem dX11_numberNow_7 : decode cX11_numberNow 7 = .ok (.iconst 0, 1) := by decide +kernel
theorem dX11_numberNow_8 : decode cX11_numberNow 8 = .ok (.ireturn, 1) := by decide +kernel
theorem dX11_numberNow_9 : decode cX11_numberNow 9 = .ok (.aload_n 0, 1) := by decide +kernel
theorem dX11_numberNow_10 : decode cX11_numberNow 10 = .ok (.getfield 165, 3) := by decide +kernel
theorem dX11_numberNow_13 : decode cX11_numberNow 13 = .ok (.iconst 2, 1) := by decide +kernel
theorem dX11_numberNow_14 : decode cX11_numberNow 14 = .ok (.if_icmp .eq 11, 3) := by decide +kernel
theorem dX11_numberNow_17 : decode cX11_numberNow 17 = .ok (.aload_n 0, 1) := by decide +kernel
theorem dX11_numberNow_18 : decode cX11_numberNow 18 = .ok (.iconst 1, 1) := by decide +kernel
theorem dX11_numberNow_19 : decode cX11_numberNow 19 = .ok (.invokevirtual 212, 3) := by decide +kernel
theorem dX11_numberNow_22 : decode cX11_numberNow 22 = .ok (.goto 37, 3) := by decide +kernel
theorem dX11_numberNow_25 : decode cX11_numberNow 25 = .ok (.aload_n 0, 1) := by decide +kernel
theorem dX11_numberNow_26 : decode cX11_numberNow 26 = .ok (.getfield 188, 3) := by decide +kernel
theorem dX11_numberNow_29 : decode cX11_numberNow 29 = .ok (.aload_n 0, 1) := by decide +kernel
theorem dX11_numberNow_30 : decode cX11_numberNow 30 = .ok (.getfield 162, 3) := by decide +kernel
theorem dX11_numberNow_33 : decode cX11_numberNow 33 = .ok (.isub, 1) := by decide +kernel
theorem dX11_numberNow_34 : decode cX11_numberNow 34 = .ok (.iconst 4, 1) := by decide +kernel
theorem dX11_numberNow_35 : decode cX11_numberNow 35 = .ok (.if_icmp .gt 19, 3) := by decide +kernel
theorem dX11_numberNow_38 : decode cX11_numberNow 38 = .ok (.aload_n 0, 1) := by decide +kernel
theorem dX11_numberNow_39 : decode cX11_numberNow 39 = .ok (.getfield 175, 3) := by decide +kernel
theorem dX11_numberNow_42 : decode cX11_numberNow 42 = .ok (.iload_n 1, 1) := by decide +kernel
theorem dX11_numberNow_43 : decode cX11_numberNow 43 = .ok (.if_icmp .lt 11, 3) := by decide +kernel
theorem dX11_numberNow_46 : decode cX11_numberNow 46 = .ok (.aload_n 0, 1) := by decide +kernel
theorem dX11_numberNow_47 : decode cX11_numberNow 47 = .ok (.getfield 175, 3) := by decide +kernel
theorem dX11_numberNow_50 : decode cX11_numberNow 50 = .ok (.iload_n 2, 1) := by decide +kernel
theorem dX11_numberNow_51 : decode cX11_numberNow 51 = .ok (.if_icmp .le 8, 3) := by decide +kernel
theorem dX11_numberNow_54 : decode cX11_numberNow 54 = .ok (.aload_n 0, 1) := by decide +kernel
theorem dX11_numberNow_55 : decode cX11_numberNow 55 = .ok (.iconst 2, 1) := by decide +kernel
theorem dX11_numberNow_56 : decode cX11_numberNow 56 = .ok (.invokevirtual 212, 3) := by decide +kernel
theorem dX11_numberNow_59 : decode cX11_numberNow 59 = .ok (.aload_n 0, 1) := by decide +kernel
theorem dX11_numberNow_60 : decode cX11_numberNow 60 = .ok (.getfield 191, 3) := by decide +kernel
theorem dX11_numberNow_63 : decode cX11_numberNow 63 = .ok (.ifCond .ne 10, 3) := by decide +kernel
theorem dX11_numberNow_66 : decode cX11_numberNow 66 = .ok (.aload_n 0, 1) := by decide +kernel
theorem dX11_numberNow_67 : decode cX11_numberNow 67 = .ok (.getfield 175, 3) := by decide +kernel
theorem dX11_numberNow_70 : decode cX11_numberNow 70 = .ok (.goto 4, 3) := by decide +kernel
theorem dX11_numberNow_73 : decode cX11_numberNow 73 = .ok (.iconst 0, 1) := by decide +kernel
theorem dX11_numberNow_74 : decode cX11_numberNow 74 = .ok (.ireturn, 1) := by decide +kernel
theorem dX11_readNumber_0 : decode cX11_readNumber 0 = .ok (.aload_n 0, 1) := by decide +kernel
theorem dX11_readNumber_1 : decode cX11_readNumber 1 = .ok (.iload_n 1, 1) := by decide +kernel
theorem dX11_readNumber_2 : decode cX11_readNumber 2 = .ok (.iload_n 2, 1) := by decide +kernel
theorem dX11_readNumber_3 : decode cX11_readNumber 3 = .ok (.invokevirtual 219, 3) := by decide +kernel
theorem dX11_readNumber_6 : decode cX11_readNumber 6 = .ok (.istore_n 3, 1) := by decide +kernel
theorem dX11_readNumber_7 : decode cX11_readNumber 7 = .ok (.aload_n 0, 1) := by decide +kernel
theorem dX11_readNumber_8 : decode cX11_readNumber 8 = .ok (.getfield 191, 3) := by decide +kernel
theorem dX11_readNumber_11 : decode cX11_readNumber 11 = .ok (.ifCond .ne 7, 3) := by decide +kernel
theorem dX11_readNumber_14 : decode cX11_readNumber 14 = .ok (.aload_n 0, 1) := by decide +kernel
theorem dX11_readNumber_15 : decode cX11_readNumber 15 = .ok (.invokevirtual 216, 3) := by decide +kernel
theorem dX11_readNumber_18 : decode cX11_readNumber 18 = .ok (.iload_n 3, 1) := by decide +kernel
theorem dX11_readNumber_19 : decode cX11_readNumber 19 = .ok (.ireturn, 1) := by decide +kernel
theorem dX11_oneNow_0 : decode cX11_oneNow 0 = .ok (.aload_n 0, 1) := by decide +kernel
theorem dX11_oneNow_1 : decode cX11_oneNow 1 = .ok (.iconst 0, 1) := by decide +kernel
theorem dX11_oneNow_2 : decode cX11_oneNow 2 = .ok (.sipush 9999, 3) := by decide +kernel
theorem dX11_oneNow_5 : decode cX11_oneNow 5 = .ok (.invokevirtual 219, 3) := by decide +kernel
theorem dX11_oneNow_8 : decode cX11_oneNow 8 = .ok (.istore_n 2, 1) := by decide +kernel
theorem dX11_oneNow_9 : decode cX11_oneNow 9 = .ok (.aload_n 0, 1) := by decide +kernel
theorem dX11_oneNow_10 : decode cX11_oneNow 10 = .ok (.getfield 191, 3) := by decide +kernel
theorem dX11_oneNow_13 : decode cX11_oneNow 13 = .ok (.ifCond .ne 20, 3) := by decide +kernel
theorem dX11_oneNow_16 : decode cX11_oneNow 16 = .ok (.iload_n 2, 1) := by decide +kernel
theorem dX11_oneNow_17 : decode cX11_oneNow 17 = .ok (.aload_n 0, 1) := by decide +kernel
theorem dX11_oneNow_18 : decode cX11_oneNow 18 = .ok (.getfield 38, 3) := by decide +kernel
theorem dX11_oneNow_21 : decode cX11_oneNow 21 = .ok (.iconst 4, 1) := by decide +kernel
theorem dX11_oneNow_22 : decode cX11_oneNow 22 = .ok (.iload_n 1, 1) := by decide +kernel
theorem dX11_oneNow_23 : decode cX11_oneNow 23 = .ok (.iadd, 1) := by decide +kernel
theorem dX11_oneNow_24 : decode cX11_oneNow 24 = .ok (.iaload, 1) := by decide +kernel
theorem dX11_oneNow_25 : decode cX11_oneNow 25 = .ok (.if_icmp .lt 8, 3) := by decide +kernel
theorem dX11_oneNow_28 : decode cX11_oneNow 28 = .ok (.aload_n 0, 1) := by decide +kernel
theorem dX11_oneNow_29 : decode cX11_oneNow 29 = .ok (.iconst 3, 1) := by decide +kernel
theorem dX11_oneNow_30 : decode cX11_oneNow 30 = .ok (.invokevirtual 212, 3) := by decide +kernel
theorem dX11_oneNow_33 : decode cX11_oneNow 33 = .ok (.aload_n 0, 1) := by decide +kernel
theorem dX11_oneNow_34 : decode cX11_oneNow 34 = .ok (.getfield 191, 3) := by decide +kernel
theorem dX11_oneNow_37 : decode cX11_oneNow 37 = .ok (.ifCond .ne 7, 3) := by decide +kernel
theorem dX11_oneNow_40 : decode cX11_oneNow 40 = .ok (.iload_n 2, 1) := by decide +kernel
theorem dX11_oneNow_41 : decode cX11_oneNow 41 = .ok (.goto 4, 3) := by decide +kernel
theorem dX11_oneNow_44 : decode cX11_oneNow 44 = .ok (.iconst 0, 1) := by decide +kernel
theorem dX11_oneNow_45 : decode cX11_oneNow 45 = .ok (.ireturn, 1) := by decide +kernel
theorem dX11_lay_0 : decode cX11_lay 0 = .ok (.aload_n 0, 1) := by decide +kernel
theorem dX11_lay_1 : decode cX11_lay 1 = .ok (.getfield 191, 3) := by decide +kernel
theorem dX11_lay_4 : decode cX11_lay 4 = .ok (.ifCond .eq 4, 3) := by decide +kernel
theorem dX11_lay_7 : decode cX11_lay 7 = .ok (.return_, 1) := by decide +kernel
theorem dX11_lay_8 : decode cX11_lay 8 = .ok (.aload_n 0, 1) := by decide +kernel
theorem dX11_lay_9 : decode cX11_lay 9 = .ok (.getfield 59, 3) := by decide +kernel
theorem dX11_lay_12 : decode cX11_lay 12 = .ok (.sipush 600, 3) := by decide +kernel
theorem dX11_lay_15 : decode cX11_lay 15 = .ok (.aload_n 0, 1) := by decide +kernel
theorem dX11_lay_16 : decode cX11_lay 16 = .ok (.getfield 38, 3) := by decide +kernel
theorem dX11_lay_19 : decode cX11_lay 19 = .ok (.bipush 7, 2) := by decide +kernel
theorem dX11_lay_21 : decode cX11_lay 21 = .ok (.iaload, 1) := by decide +kernel
theorem dX11_lay_22 : decode cX11_lay 22 = .ok (.iadd, 1) := by decide +kernel
theorem dX11_lay_23 : decode cX11_lay 23 = .ok (.iload_n 1, 1) := by decide +kernel
theorem dX11_lay_24 : decode cX11_lay 24 = .ok (.iastore, 1) := by decide +kernel
theorem dX11_lay_25 : decode cX11_lay 25 = .ok (.aload_n 0, 1) := by decide +kernel
theorem dX11_lay_26 : decode cX11_lay 26 = .ok (.getfield 38, 3) := by decide +kernel
theorem dX11_lay_29 : decode cX11_lay 29 = .ok (.bipush 7, 2) := by decide +kernel
theorem dX11_lay_31 : decode cX11_lay 31 = .ok (.dup2, 1) := by decide +kernel
theorem dX11_lay_32 : decode cX11_lay 32 = .ok (.iaload, 1) := by decide +kernel
theorem dX11_lay_33 : decode cX11_lay 33 = .ok (.iconst 1, 1) := by decide +kernel
theorem dX11_lay_34 : decode cX11_lay 34 = .ok (.iadd, 1) := by decide +kernel
theorem dX11_lay_35 : decode cX11_lay 35 = .ok (.iastore, 1) := by decide +kernel
theorem dX11_lay_36 : decode cX11_lay 36 = .ok (.return_, 1) := by decide +kernel
theorem dX11_readPart_0 : decode cX11_readPart 0 = .ok (.aload_n 0, 1) := by decide +kernel
theorem dX11_readPart_1 : decode cX11_readPart 1 = .ok (.getfield 191, 3) := by decide +kernel
theorem dX11_readPart_4 : decode cX11_readPart 4 = .ok (.ifCond .eq 4, 3) := by decide +kernel
theorem dX11_readPart_7 : decode cX11_readPart 7 = .ok (.return_, 1) := by decide +kernel
theorem dX11_readPart_8 : decode cX11_readPart 8 = .ok (.aload_n 0, 1) := by decide +kernel
theorem dX11_readPart_9 : decode cX11_readPart 9 = .ok (.getfield 165, 3) := by decide +kernel
theorem dX11_readPart_12 : decode cX11_readPart 12 = .ok (.iconst 2, 1) := by decide +kernel
theorem dX11_readPart_13 : decode cX11_readPart 13 = .ok (.if_icmp .ne 16, 3) := by decide +kernel
theorem dX11_readPart_16 : decode cX11_readPart 16 = .ok (.aload_n 0, 1) := by decide +kernel
theorem dX11_readPart_17 : decode cX11_readPart 17 = .ok (.aload_n 0, 1) := by decide +kernel
theorem dX11_readPart_18 : decode cX11_readPart 18 = .ok (.iconst 0, 1) := by decide +kernel
theorem dX11_readPart_19 : decode cX11_readPart 19 = .ok (.sipush 9999, 3) := by decide +kernel
theorem dX11_readPart_22 : decode cX11_readPart 22 = .ok (.invokevirtual 222, 3) := by decide +kernel
theorem dX11_readPart_25 : decode cX11_readPart 25 = .ok (.invokevirtual 225, 3) := by decide +kernel
theorem dX11_readPart_28 : decode cX11_readPart 28 = .ok (.return_, 1) := by decide +kernel
theorem dX11_readPart_29 : decode cX11_readPart 29 = .ok (.aload_n 0, 1) := by decide +kernel
theorem dX11_readPart_30 : decode cX11_readPart 30 = .ok (.getfield 165, 3) := by decide +kernel
theorem dX11_readPart_33 : decode cX11_readPart 33 = .ok (.iconst 1, 1) := by decide +kernel
theorem dX11_readPart_34 : decode cX11_readPart 34 = .ok (.if_icmp .ne 41, 3) := by decide +kernel
theorem dX11_readPart_37 : decode cX11_readPart 37 = .ok (.aload_n 0, 1) := by decide +kernel
theorem dX11_readPart_38 : decode cX11_readPart 38 = .ok (.aload_n 0, 1) := by decide +kernel
theorem dX11_readPart_39 : decode cX11_readPart 39 = .ok (.getfield 35, 3) := by decide +kernel
theorem dX11_readPart_42 : decode cX11_readPart 42 = .ok (.invokevirtual 228, 3) := by decide +kernel
theorem dX11_readPart_45 : decode cX11_readPart 45 = .ok (.istore_n 2, 1) := by decide +kernel
theorem dX11_readPart_46 : decode cX11_readPart 46 = .ok (.iload_n 2, 1) := by decide +kernel
theorem dX11_readPart_47 : decode cX11_readPart 47 = .ok (.iconst (-1), 1) := by decide +kernel
theorem dX11_readPart_48 : decode cX11_readPart 48 = .ok (.if_icmp .ne 8, 3) := by decide +kernel
theorem dX11_readPart_51 : decode cX11_readPart 51 = .ok (.aload_n 0, 1) := by decide +kernel
theorem dX11_readPart_52 : decode cX11_readPart 52 = .ok (.iconst 3, 1) := by decide +kernel
theorem dX11_readPart_53 : decode cX11_readPart 53 = .ok (.invokevirtual 212, 3) := by decide +kernel
theorem dX11_readPart_56 : decode cX11_readPart 56 = .ok (.aload_n 0, 1) := by decide +kernel
theorem dX11_readPart_57 : decode cX11_readPart 57 = .ok (.iconst (-1), 1) := by decide +kernel
theorem dX11_readPart_58 : decode cX11_readPart 58 = .ok (.iload_n 2, 1) := by decide +kernel
theorem dX11_readPart_59 : decode cX11_readPart 59 = .ok (.isub, 1) := by decide +kernel
theorem dX11_readPart_60 : decode cX11_readPart 60 = .ok (.invokevirtual 225, 3) := by decide +kernel
theorem dX11_readPart_63 : decode cX11_readPart 63 = .ok (.aload_n 0, 1) := by decide +kernel
theorem dX11_readPart_64 : decode cX11_readPart 64 = .ok (.getfield 191, 3) := by decide +kernel
theorem dX11_readPart_67 : decode cX11_readPart 67 = .ok (.ifCond .ne 7, 3) := by decide +kernel
theorem dX11_readPart_70 : decode cX11_readPart 70 = .ok (.aload_n 0, 1) := by decide +kernel
theorem dX11_readPart_71 : decode cX11_readPart 71 = .ok (.invokevirtual 216, 3) := by decide +kernel
theorem dX11_readPart_74 : decode cX11_readPart 74 = .ok (.return_, 1) := by decide +kernel
theorem dX11_readPart_75 : decode cX11_readPart 75 = .ok (.aload_n 0, 1) := by decide +kernel
theorem dX11_readPart_76 : decode cX11_readPart 76 = .ok (.bipush 40, 2) := by decide +kernel
theorem dX11_readPart_78 : decode cX11_readPart 78 = .ok (.invokevirtual 232, 3) := by decide +kernel
theorem dX11_readPart_81 : decode cX11_readPart 81 = .ok (.aload_n 0, 1) := by decide +kernel
theorem dX11_readPart_82 : decode cX11_readPart 82 = .ok (.iload_n 1, 1) := by decide +kernel
theorem dX11_readPart_83 : decode cX11_readPart 83 = .ok (.iconst 1, 1) := by decide +kernel
theorem dX11_readPart_84 : decode cX11_readPart 84 = .ok (.iadd, 1) := by decide +kernel
theorem dX11_readPart_85 : decode cX11_readPart 85 = .ok (.invokevirtual 235, 3) := by decide +kernel
theorem dX11_readPart_88 : decode cX11_readPart 88 = .ok (.aload_n 0, 1) := by decide +kernel
theorem dX11_readPart_89 : decode cX11_readPart 89 = .ok (.bipush 41, 2) := by decide +kernel
theorem dX11_readPart_91 : decode cX11_readPart 91 = .ok (.invokevirtual 232, 3) := by decide +kernel
theorem dX11_readPart_94 : decode cX11_readPart 94 = .ok (.return_, 1) := by decide +kernel
theorem dX11_readProduct_0 : decode cX11_readProduct 0 = .ok (.aload_n 0, 1) := by decide +kernel
theorem dX11_readProduct_1 : decode cX11_readProduct 1 = .ok (.iload_n 1, 1) := by decide +kernel
theorem dX11_readProduct_2 : decode cX11_readProduct 2 = .ok (.invokevirtual 238, 3) := by decide +kernel
theorem dX11_readProduct_5 : decode cX11_readProduct 5 = .ok (.aload_n 0, 1) := by decide +kernel
theorem dX11_readProduct_6 : decode cX11_readProduct 6 = .ok (.bipush 42, 2) := by decide +kernel
theorem dX11_readProduct_8 : decode cX11_readProduct 8 = .ok (.invokevirtual 209, 3) := by decide +kernel
theorem dX11_readProduct_11 : decode cX11_readProduct 11 = .ok (.ifCond .ne 12, 3) := by decide +kernel
theorem dX11_readProduct_14 : decode cX11_readProduct 14 = .ok (.aload_n 0, 1) := by decide +kernel
theorem dX11_readProduct_15 : decode cX11_readProduct 15 = .ok (.bipush 47, 2) := by decide +kernel
theorem dX11_readProduct_17 : decode cX11_readProduct 17 = .ok (.invokevirtual 209, 3) := by decide +kernel
theorem dX11_readProduct_20 : decode cX11_readProduct 20 = .ok (.ifCond .eq 37, 3) := by decide +kernel
theorem dX11_readProduct_23 : decode cX11_readProduct 23 = .ok (.aload_n 0, 1) := by decide +kernel
theorem dX11_readProduct_24 : decode cX11_readProduct 24 = .ok (.bipush 42, 2) := by decide +kernel
theorem dX11_readProduct_26 : decode cX11_readProduct 26 = .ok (.invokevirtual 209, 3) := by decide +kernel
theorem dX11_readProduct_29 : decode cX11_readProduct 29 = .ok (.ifCond .eq 8, 3) := by decide +kernel
theorem dX11_readProduct_32 : decode cX11_readProduct 32 = .ok (.bipush (-22), 2) := by decide +kernel
theorem dX11_readProduct_34 : decode cX11_readProduct 34 = .ok (.goto 5, 3) := by decide +kernel
theorem dX11_readProduct_37 : decode cX11_readProduct 37 = .ok (.bipush (-23), 2) := by decide +kernel
theorem dX11_readProduct_39 : decode cX11_readProduct 39 = .ok (.istore_n 2, 1) := by decide +kernel
theorem dX11_readProduct_40 : decode cX11_readProduct 40 = .ok (.aload_n 0, 1) := by decide +kernel
theorem dX11_readProduct_41 : decode cX11_readProduct 41 = .ok (.invokevirtual 216, 3) := by decide +kernel
theorem dX11_readProduct_44 : decode cX11_readProduct 44 = .ok (.aload_n 0, 1) := by decide +kernel
theorem dX11_readProduct_45 : decode cX11_readProduct 45 = .ok (.iload_n 1, 1) := by decide +kernel
theorem dX11_readProduct_46 : decode cX11_readProduct 46 = .ok (.invokevirtual 238, 3) := by decide +kernel
theorem dX11_readProduct_49 : decode cX11_readProduct 49 = .ok (.aload_n 0, 1) := by decide +kernel
theorem dX11_readProduct_50 : decode cX11_readProduct 50 = .ok (.iload_n 2, 1) := by decide +kernel
theorem dX11_readProduct_51 : decode cX11_readProduct 51 = .ok (.invokevirtual 225, 3) := by decide +kernel
theorem dX11_readProduct_54 : decode cX11_readProduct 54 = .ok (.goto (-49), 3) := by decide +kernel
theorem dX11_readProduct_57 : decode cX11_readProduct 57 = .ok (.return_, 1) := by decide +kernel
theorem dX11_readSum_0 : decode cX11_readSum 0 = .ok (.aload_n 0, 1) := by decide +kernel
theorem dX11_readSum_1 : decode cX11_readSum 1 = .ok (.iload_n 1, 1) := by decide +kernel
theorem dX11_readSum_2 : decode cX11_readSum 2 = .ok (.invokevirtual 241, 3) := by decide +kernel
theorem dX11_readSum_5 : decode cX11_readSum 5 = .ok (.aload_n 0, 1) := by decide +kernel
theorem dX11_readSum_6 : decode cX11_readSum 6 = .ok (.bipush 43, 2) := by decide +kernel
theorem dX11_readSum_8 : decode cX11_readSum 8 = .ok (.invokevirtual 209, 3) := by decide +kernel
theorem dX11_readSum_11 : decode cX11_readSum 11 = .ok (.ifCond .ne 12, 3) := by decide +kernel
theorem dX11_readSum_14 : decode cX11_readSum 14 = .ok (.aload_n 0, 1) := by decide +kernel
theorem dX11_readSum_15 : decode cX11_readSum 15 = .ok (.bipush 45, 2) := by decide +kernel
theorem dX11_readSum_17 : decode cX11_readSum 17 = .ok (.invokevirtual 209, 3) := by decide +kernel
theorem dX11_readSum_20 : decode cX11_readSum 20 = .ok (.ifCond .eq 37, 3) := by decide +kernel
theorem dX11_readSum_23 : decode cX11_readSum 23 = .ok (.aload_n 0, 1) := by decide +kernel
theorem dX11_readSum_24 : decode cX11_readSum 24 = .ok (.bipush 43, 2) := by decide +kernel
theorem dX11_readSum_26 : decode cX11_readSum 26 = .ok (.invokevirtual 209, 3) := by decide +kernel
theorem dX11_readSum_29 : decode cX11_readSum 29 = .ok (.ifCond .eq 8, 3) := by decide +kernel
theorem dX11_readSum_32 : decode cX11_readSum 32 = .ok (.bipush (-20), 2) := by decide +kernel
theorem dX11_readSum_34 : decode cX11_readSum 34 = .ok (.goto 5, 3) := by decide +kernel
theorem dX11_readSum_37 : decode cX11_readSum 37 = .ok (.bipush (-21), 2) := by decide +kernel
theorem dX11_readSum_39 : decode cX11_readSum 39 = .ok (.istore_n 2, 1) := by decide +kernel
theorem dX11_readSum_40 : decode cX11_readSum 40 = .ok (.aload_n 0, 1) := by decide +kernel
theorem dX11_readSum_41 : decode cX11_readSum 41 = .ok (.invokevirtual 216, 3) := by decide +kernel
theorem dX11_readSum_44 : decode cX11_readSum 44 = .ok (.aload_n 0, 1) := by decide +kernel
theorem dX11_readSum_45 : decode cX11_readSum 45 = .ok (.iload_n 1, 1) := by decide +kernel
theorem dX11_readSum_46 : decode cX11_readSum 46 = .ok (.invokevirtual 241, 3) := by decide +kernel
theorem dX11_readSum_49 : decode cX11_readSum 49 = .ok (.aload_n 0, 1) := by decide +kernel
theorem dX11_readSum_50 : decode cX11_readSum 50 = .ok (.iload_n 2, 1) := by decide +kernel
theorem dX11_readSum_51 : decode cX11_readSum 51 = .ok (.invokevirtual 225, 3) := by decide +kernel
theorem dX11_readSum_54 : decode cX11_readSum 54 = .ok (.goto (-49), 3) := by decide +kernel
theorem dX11_readSum_57 : decode cX11_readSum 57 = .ok (.return_, 1) := by decide +kernel
theorem dX11_readNot_0 : decode cX11_readNot 0 = .ok (.iconst 0, 1) := by decide +kernel
theorem dX11_readNot_1 : decode cX11_readNot 1 = .ok (.istore_n 2, 1) := by decide +kernel
theorem dX11_readNot_2 : decode cX11_readNot 2 = .ok (.aload_n 0, 1) := by decide +kernel
theorem dX11_readNot_3 : decode cX11_readNot 3 = .ok (.ldc 244, 2) := by decide +kernel
theorem dX11_readNot_5 : decode cX11_readNot 5 = .ok (.invokevirtual 205, 3) := by decide +kernel
theorem dX11_readNot_8 : decode cX11_readNot 8 = .ok (.ifCond .eq 31, 3) := by decide +kernel
theorem dX11_readNot_11 : decode cX11_readNot 11 = .ok (.iload_n 2, 1) := by decide +kernel
theorem dX11_readNot_12 : decode cX11_readNot 12 = .ok (.bipush 6, 2) := by decide +kernel
theorem dX11_readNot_14 : decode cX11_readNot 14 = .ok (.if_icmp .ne 8, 3) := by decide +kernel
theorem dX11_readNot_17 : decode cX11_readNot 17 = .ok (.aload_n 0, 1) := by decide +kernel
theorem dX11_readNot_18 : decode cX11_readNot 18 = .ok (.iconst 2, 1) := by decide +kernel
theorem dX11_readNot_19 : decode cX11_readNot 19 = .ok (.invokevirtual 212, 3) := by decide +kernel
theorem dX11_readNot_22 : decode cX11_readNot 22 = .ok (.iinc 2 1, 3) := by decide +kernel
theorem dX11_readNot_25 : decode cX11_readNot 25 = .ok (.aload_n 0, 1) := by decide +kernel
theorem dX11_readNot_26 : decode cX11_readNot 26 = .ok (.getfield 191, 3) := by decide +kernel
theorem dX11_readNot_29 : decode cX11_readNot 29 = .ok (.ifCond .ne (-27), 3) := by decide +kernel
theorem dX11_readNot_32 : decode cX11_readNot 32 = .ok (.aload_n 0, 1) := by decide +kernel
theorem dX11_readNot_33 : decode cX11_readNot 33 = .ok (.invokevirtual 216, 3) := by decide +kernel
theorem dX11_readNot_36 : decode cX11_readNot 36 = .ok (.goto (-34), 3) := by decide +kernel
theorem dX11_readNot_39 : decode cX11_readNot 39 = .ok (.aload_n 0, 1) := by decide +kernel
theorem dX11_readNot_40 : decode cX11_readNot 40 = .ok (.iload_n 1, 1) := by decide +kernel
theorem dX11_readNot_41 : decode cX11_readNot 41 = .ok (.invokevirtual 246, 3) := by decide +kernel
theorem dX11_readNot_44 : decode cX11_readNot 44 = .ok (.aload_n 0, 1) := by decide +kernel
theorem dX11_readNot_45 : decode cX11_readNot 45 = .ok (.bipush 60, 2) := by decide +kernel
theorem dX11_readNot_47 : decode cX11_readNot 47 = .ok (.invokevirtual 209, 3) := by decide +kernel
theorem dX11_readNot_50 : decode cX11_readNot 50 = .ok (.ifCond .ne 12, 3) := by decide +kernel
theorem dX11_readNot_53 : decode cX11_readNot 53 = .ok (.aload_n 0, 1) := by decide +kernel
theorem dX11_readNot_54 : decode cX11_readNot 54 = .ok (.bipush 61, 2) := by decide +kernel
theorem dX11_readNot_56 : decode cX11_readNot 56 = .ok (.invokevirtual 209, 3) := by decide +kernel
theorem dX11_readNot_59 : decode cX11_readNot 59 = .ok (.ifCond .eq 34, 3) := by decide +kernel
theorem dX11_readNot_62 : decode cX11_readNot 62 = .ok (.aload_n 0, 1) := by decide +kernel
theorem dX11_readNot_63 : decode cX11_readNot 63 = .ok (.bipush 60, 2) := by decide +kernel
theorem dX11_readNot_65 : decode cX11_readNot 65 = .ok (.invokevirtual 209, 3) := by decide +kernel
theorem dX11_readNot_68 : decode cX11_readNot 68 = .ok (.ifCond .eq 8, 3) := by decide +kernel
theorem dX11_readNot_71 : decode cX11_readNot 71 = .ok (.bipush (-24), 2) := by decide +kernel
theorem dX11_readNot_73 : decode cX11_readNot 73 = .ok (.goto 5, 3) := by decide +kernel
theorem dX11_readNot_76 : decode cX11_readNot 76 = .ok (.bipush (-25), 2) := by decide +kernel
theorem dX11_readNot_78 : decode cX11_readNot 78 = .ok (.istore_n 3, 1) := by decide +kernel
theorem dX11_readNot_79 : decode cX11_readNot 79 = .ok (.aload_n 0, 1) := by decide +kernel
theorem dX11_readNot_80 : decode cX11_readNot 80 = .ok (.invokevirtual 216, 3) := by decide +kernel
theorem dX11_readNot_83 : decode cX11_readNot 83 = .ok (.aload_n 0, 1) := by decide +kernel
theorem dX11_readNot_84 : decode cX11_readNot 84 = .ok (.iload_n 1, 1) := by decide +kernel
theorem dX11_readNot_85 : decode cX11_readNot 85 = .ok (.invokevirtual 246, 3) := by decide +kernel
theorem dX11_readNot_88 : decode cX11_readNot 88 = .ok (.aload_n 0, 1) := by decide +kernel
theorem dX11_readNot_89 : decode cX11_readNot 89 = .ok (.iload_n 3, 1) := by decide +kernel
theorem dX11_readNot_90 : decode cX11_readNot 90 = .ok (.invokevirtual 225, 3) := by decide +kernel
theorem dX11_readNot_93 : decode cX11_readNot 93 = .ok (.iconst 0, 1) := by decide +kernel
theorem dX11_readNot_94 : decode cX11_readNot 94 = .ok (.istore_n 3, 1) := by decide +kernel
theorem dX11_readNot_95 : decode cX11_readNot 95 = .ok (.iload_n 3, 1) := by decide +kernel
theorem dX11_readNot_96 : decode cX11_readNot 96 = .ok (.iload_n 2, 1) := by decide +kernel
theorem dX11_readNot_97 : decode cX11_readNot 97 = .ok (.if_icmp .ge 15, 3) := by decide +kernel
theorem dX11_readNot_100 : decode cX11_readNot 100 = .ok (.aload_n 0, 1) := by decide +kernel
theorem dX11_readNot_101 : decode cX11_readNot 101 = .ok (.bipush (-28), 2) := by decide +kernel
theorem dX11_readNot_103 : decode cX11_readNot 103 = .ok (.invokevirtual 225, 3) := by decide +kernel
theorem dX11_readNot_106 : decode cX11_readNot 106 = .ok (.iinc 3 1, 3) := by decide +kernel
theorem dX11_readNot_109 : decode cX11_readNot 109 = .ok (.goto (-14), 3) := by decide +kernel
theorem dX11_readNot_112 : decode cX11_readNot 112 = .ok (.return_, 1) := by decide +kernel
theorem dX11_readAnd_0 : decode cX11_readAnd 0 = .ok (.aload_n 0, 1) := by decide +kernel
theorem dX11_readAnd_1 : decode cX11_readAnd 1 = .ok (.iload_n 1, 1) := by decide +kernel
theorem dX11_readAnd_2 : decode cX11_readAnd 2 = .ok (.invokevirtual 249, 3) := by decide +kernel
theorem dX11_readAnd_5 : decode cX11_readAnd 5 = .ok (.aload_n 0, 1) := by decide +kernel
theorem dX11_readAnd_6 : decode cX11_readAnd 6 = .ok (.ldc 252, 2) := by decide +kernel
theorem dX11_readAnd_8 : decode cX11_readAnd 8 = .ok (.invokevirtual 205, 3) := by decide +kernel
theorem dX11_readAnd_11 : decode cX11_readAnd 11 = .ok (.ifCond .eq 21, 3) := by decide +kernel
theorem dX11_readAnd_14 : decode cX11_readAnd 14 = .ok (.aload_n 0, 1) := by decide +kernel
theorem dX11_readAnd_15 : decode cX11_readAnd 15 = .ok (.invokevirtual 216, 3) := by decide +kernel
theorem dX11_readAnd_18 : decode cX11_readAnd 18 = .ok (.aload_n 0, 1) := by decide +kernel
theorem dX11_readAnd_19 : decode cX11_readAnd 19 = .ok (.iload_n 1, 1) := by decide +kernel
theorem dX11_readAnd_20 : decode cX11_readAnd 20 = .ok (.invokevirtual 249, 3) := by decide +kernel
theorem dX11_readAnd_23 : decode cX11_readAnd 23 = .ok (.aload_n 0, 1) := by decide +kernel
theorem dX11_readAnd_24 : decode cX11_readAnd 24 = .ok (.bipush (-26), 2) := by decide +kernel
theorem dX11_readAnd_26 : decode cX11_readAnd 26 = .ok (.invokevirtual 225, 3) := by decide +kernel
theorem dX11_readAnd_29 : decode cX11_readAnd 29 = .ok (.goto (-24), 3) := by decide +kernel
theorem dX11_readAnd_32 : decode cX11_readAnd 32 = .ok (.return_, 1) := by decide +kernel
theorem dX11_readExpression_0 : decode cX11_readExpression 0 = .ok (.aload_n 0, 1) := by decide +kernel
theorem dX11_readExpression_1 : decode cX11_readExpression 1 = .ok (.getfield 191, 3) := by decide +kernel
theorem dX11_readExpression_4 : decode cX11_readExpression 4 = .ok (.ifCond .eq 4, 3) := by decide +kernel
theorem dX11_readExpression_7 : decode cX11_readExpression 7 = .ok (.return_, 1) := by decide +kernel
theorem dX11_readExpression_8 : decode cX11_readExpression 8 = .ok (.aload_n 0, 1) := by decide +kernel
theorem dX11_readExpression_9 : decode cX11_readExpression 9 = .ok (.getfield 165, 3) := by decide +kernel
theorem dX11_readExpression_12 : decode cX11_readExpression 12 = .ok (.iconst 2, 1) := by decide +kernel
theorem dX11_readExpression_13 : decode cX11_readExpression 13 = .ok (.if_icmp .eq 20, 3) := by decide +kernel
theorem dX11_readExpression_16 : decode cX11_readExpression 16 = .ok (.aload_n 0, 1) := by decide +kernel
theorem dX11_readExpression_17 : decode cX11_readExpression 17 = .ok (.getfield 165, 3) := by decide +kernel
theorem dX11_readExpression_20 : decode cX11_readExpression 20 = .ok (.iconst 1, 1) := by decide +kernel
theorem dX11_readExpression_21 : decode cX11_readExpression 21 = .ok (.if_icmp .eq 12, 3) := by decide +kernel
theorem dX11_readExpression_24 : decode cX11_readExpression 24 = .ok (.aload_n 0, 1) := by decide +kernel
theorem dX11_readExpression_25 : decode cX11_readExpression 25 = .ok (.bipush 40, 2) := by decide +kernel
theorem dX11_readExpression_27 : decode cX11_readExpression 27 = .ok (.invokevirtual 209, 3) := by decide +kernel
theorem dX11_readExpression_30 : decode cX11_readExpression 30 = .ok (.ifCond .eq 7, 3) := by decide +kernel
theorem dX11_readExpression_33 : decode cX11_readExpression 33 = .ok (.iconst 1, 1) := by decide +kernel
theorem dX11_readExpression_34 : decode cX11_readExpression 34 = .ok (.goto 4, 3) := by decide +kernel
theorem dX11_readExpression_37 : decode cX11_readExpression 37 = .ok (.iconst 0, 1) := by decide +kernel
theorem dX11_readExpression_38 : decode cX11_readExpression 38 = .ok (.istore_n 2, 1) := by decide +kernel
theorem dX11_readExpression_39 : decode cX11_readExpression 39 = .ok (.iload_n 2, 1) := by decide +kernel
theorem dX11_readExpression_40 : decode cX11_readExpression 40 = .ok (.ifCond .ne 11, 3) := by decide +kernel
theorem dX11_readExpression_43 : decode cX11_readExpression 43 = .ok (.aload_n 0, 1) := by decide +kernel
theorem dX11_readExpression_44 : decode cX11_readExpression 44 = .ok (.iconst 1, 1) := by decide +kernel
theorem dX11_readExpression_45 : decode cX11_readExpression 45 = .ok (.invokevirtual 212, 3) := by decide +kernel
theorem dX11_readExpression_48 : decode cX11_readExpression 48 = .ok (.goto 14, 3) := by decide +kernel
theorem dX11_readExpression_51 : decode cX11_readExpression 51 = .ok (.iload_n 1, 1) := by decide +kernel
theorem dX11_readExpression_52 : decode cX11_readExpression 52 = .ok (.bipush 6, 2) := by decide +kernel
theorem dX11_readExpression_54 : decode cX11_readExpression 54 = .ok (.if_icmp .ne 8, 3) := by decide +kernel
theorem dX11_readExpression_57 : decode cX11_readExpression 57 = .ok (.aload_n 0, 1) := by decide +kernel
theorem dX11_readExpression_58 : decode cX11_readExpression 58 = .ok (.iconst 2, 1) := by decide +kernel
theorem dX11_readExpression_59 : decode cX11_readExpression 59 = .ok (.invokevirtual 212, 3) := by decide +kernel
theorem dX11_readExpression_62 : decode cX11_readExpression 62 = .ok (.aload_n 0, 1) := by decide +kernel
theorem dX11_readExpression_63 : decode cX11_readExpression 63 = .ok (.iload_n 1, 1) := by decide +kernel
theorem dX11_readExpression_64 : decode cX11_readExpression 64 = .ok (.invokevirtual 254, 3) := by decide +kernel
theorem dX11_readExpression_67 : decode cX11_readExpression 67 = .ok (.aload_n 0, 1) := by decide +kernel
theorem dX11_readExpression_68 : decode cX11_readExpression 68 = .ok (.ldc_w 257, 3) := by decide +kernel
theorem dX11_readExpression_71 : decode cX11_readExpression 71 = .ok (.invokevirtual 205, 3) := by decide +kernel
theorem dX11_readExpression_74 : decode cX11_readExpression 74 = .ok (.ifCond .eq 21, 3) := by decide +kernel
theorem dX11_readExpression_77 : decode cX11_readExpression 77 = .ok (.aload_n 0, 1) := by decide +kernel
theorem dX11_readExpression_78 : decode cX11_readExpression 78 = .ok (.invokevirtual 216, 3) := by decide +kernel
theorem dX11_readExpression_81 : decode cX11_readExpression 81 = .ok (.aload_n 0, 1) := by decide +kernel
theorem dX11_readExpression_82 : decode cX11_readExpression 82 = .ok (.iload_n 1, 1) := by decide +kernel
theorem dX11_readExpression_83 : decode cX11_readExpression 83 = .ok (.invokevirtual 254, 3) := by decide +kernel
theorem dX11_readExpression_86 : decode cX11_readExpression 86 = .ok (.aload_n 0, 1) := by decide +kernel
theorem dX11_readExpression_87 : decode cX11_readExpression 87 = .ok (.bipush (-27), 2) := by decide +kernel
theorem dX11_readExpression_89 : decode cX11_readExpression 89 = .ok (.invokevirtual 225, 3) := by decide +kernel
theorem dX11_readExpression_92 : decode cX11_readExpression 92 = .ok (.goto (-25), 3) := by decide +kernel
theorem dX11_readExpression_95 : decode cX11_readExpression 95 = .ok (.return_, 1) := by decide +kernel
theorem dX11_another_0 : decode cX11_another 0 = .ok (.aload_n 0, 1) := by decide +kernel
theorem dX11_another_1 : decode cX11_another 1 = .ok (.getfield 38, 3) := by decide +kernel
theorem dX11_another_4 : decode cX11_another 4 = .ok (.iconst 4, 1) := by decide +kernel
theorem dX11_another_5 : decode cX11_another 5 = .ok (.iload_n 1, 1) := by decide +kernel
theorem dX11_another_6 : decode cX11_another 6 = .ok (.iadd, 1) := by decide +kernel
theorem dX11_another_7 : decode cX11_another 7 = .ok (.iaload, 1) := by decide +kernel
theorem dX11_another_8 : decode cX11_another 8 = .ok (.iload_n 2, 1) := by decide +kernel
theorem dX11_another_9 : decode cX11_another 9 = .ok (.if_icmp .ne 8, 3) := by decide +kernel
theorem dX11_another_12 : decode cX11_another 12 = .ok (.aload_n 0, 1) := by decide +kernel
theorem dX11_another_13 : decode cX11_another 13 = .ok (.iconst 2, 1) := by decide +kernel
theorem dX11_another_14 : decode cX11_another 14 = .ok (.invokevirtual 212, 3) := by decide +kernel
theorem dX11_another_17 : decode cX11_another 17 = .ok (.aload_n 0, 1) := by decide +kernel
theorem dX11_another_18 : decode cX11_another 18 = .ok (.getfield 191, 3) := by decide +kernel
theorem dX11_another_21 : decode cX11_another 21 = .ok (.ifCond .eq 5, 3) := by decide +kernel
theorem dX11_another_24 : decode cX11_another 24 = .ok (.iconst 0, 1) := by decide +kernel
theorem dX11_another_25 : decode cX11_another 25 = .ok (.ireturn, 1) := by decide +kernel
theorem dX11_another_26 : decode cX11_another 26 = .ok (.aload_n 0, 1) := by decide +kernel
theorem dX11_another_27 : decode cX11_another 27 = .ok (.invokevirtual 216, 3) := by decide +kernel
theorem dX11_another_30 : decode cX11_another 30 = .ok (.iconst 1, 1) := by decide +kernel
theorem dX11_another_31 : decode cX11_another 31 = .ok (.ireturn, 1) := by decide +kernel
theorem dX11_sayHouse_0 : decode cX11_sayHouse 0 = .ok (.aload_n 0, 1) := by decide +kernel
theorem dX11_sayHouse_1 : decode cX11_sayHouse 1 = .ok (.iconst 0, 1) := by decide +kernel
theorem dX11_sayHouse_2 : decode cX11_sayHouse 2 = .ok (.bipush 8, 2) := by decide +kernel
theorem dX11_sayHouse_4 : decode cX11_sayHouse 4 = .ok (.invokevirtual 259, 3) := by decide +kernel
theorem dX11_sayHouse_7 : decode cX11_sayHouse 7 = .ok (.ifCond .ne 4, 3) := by decide +kernel
theorem dX11_sayHouse_10 : decode cX11_sayHouse 10 = .ok (.return_, 1) := by decide +kernel
theorem dX11_sayHouse_11 : decode cX11_sayHouse 11 = .ok (.bipush 8, 2) := by decide +kernel
theorem dX11_sayHouse_13 : decode cX11_sayHouse 13 = .ok (.aload_n 0, 1) := by decide +kernel
theorem dX11_sayHouse_14 : decode cX11_sayHouse 14 = .ok (.getfield 38, 3) := by decide +kernel
theorem dX11_sayHouse_17 : decode cX11_sayHouse 17 = .ok (.iconst 4, 1) := by decide +kernel
theorem dX11_sayHouse_18 : decode cX11_sayHouse 18 = .ok (.iaload, 1) := by decide +kernel
theorem dX11_sayHouse_19 : decode cX11_sayHouse 19 = .ok (.iadd, 1) := by decide +kernel
theorem dX11_sayHouse_20 : decode cX11_sayHouse 20 = .ok (.istore_n 2, 1) := by decide +kernel
theorem dX11_sayHouse_21 : decode cX11_sayHouse 21 = .ok (.aload_n 0, 1) := by decide +kernel
