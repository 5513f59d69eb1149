theorem dX11_sayHouse_22 : decode cX11_sayHouse 22 = .ok (.getfield 42, 3) := by decide +kernel
theorem dX11_sayHouse_25 : decode cX11_sayHouse 25 = .ok (.iload_n 2, 1) := by decide +kernel
theorem dX11_sayHouse_26 : decode cX11_sayHouse 26 = .ok (.iload_n 1, 1) := by decide +kernel
theorem dX11_sayHouse_27 : decode cX11_sayHouse 27 = .ok (.iastore, 1) := by decide +kernel
theorem dX11_sayHouse_28 : decode cX11_sayHouse 28 = .ok (.aload_n 0, 1) := by decide +kernel
theorem dX11_sayHouse_29 : decode cX11_sayHouse 29 = .ok (.getfield 44, 3) := by decide +kernel
theorem dX11_sayHouse_32 : decode cX11_sayHouse 32 = .ok (.iload_n 2, 1) := by decide +kernel
theorem dX11_sayHouse_33 : decode cX11_sayHouse 33 = .ok (.aload_n 0, 1) := by decide +kernel
theorem dX11_sayHouse_34 : decode cX11_sayHouse 34 = .ok (.iconst 0, 1) := by decide +kernel
theorem dX11_sayHouse_35 : decode cX11_sayHouse 35 = .ok (.bipush 23, 2) := by decide +kernel
theorem dX11_sayHouse_37 : decode cX11_sayHouse 37 = .ok (.invokevirtual 222, 3) := by decide +kernel
theorem dX11_sayHouse_40 : decode cX11_sayHouse 40 = .ok (.iastore, 1) := by decide +kernel
theorem dX11_sayHouse_41 : decode cX11_sayHouse 41 = .ok (.aload_n 0, 1) := by decide +kernel
theorem dX11_sayHouse_42 : decode cX11_sayHouse 42 = .ok (.getfield 47, 3) := by decide +kernel
theorem dX11_sayHouse_45 : decode cX11_sayHouse 45 = .ok (.iload_n 2, 1) := by decide +kernel
theorem dX11_sayHouse_46 : decode cX11_sayHouse 46 = .ok (.aload_n 0, 1) := by decide +kernel
theorem dX11_sayHouse_47 : decode cX11_sayHouse 47 = .ok (.iconst 0, 1) := by decide +kernel
theorem dX11_sayHouse_48 : decode cX11_sayHouse 48 = .ok (.bipush 23, 2) := by decide +kernel
theorem dX11_sayHouse_50 : decode cX11_sayHouse 50 = .ok (.invokevirtual 222, 3) := by decide +kernel
theorem dX11_sayHouse_53 : decode cX11_sayHouse 53 = .ok (.iastore, 1) := by decide +kernel
theorem dX11_sayHouse_54 : decode cX11_sayHouse 54 = .ok (.aload_n 0, 1) := by decide +kernel
theorem dX11_sayHouse_55 : decode cX11_sayHouse 55 = .ok (.getfield 38, 3) := by decide +kernel
theorem dX11_sayHouse_58 : decode cX11_sayHouse 58 = .ok (.iconst 4, 1) := by decide +kernel
theorem dX11_sayHouse_59 : decode cX11_sayHouse 59 = .ok (.dup2, 1) := by decide +kernel
theorem dX11_sayHouse_60 : decode cX11_sayHouse 60 = .ok (.iaload, 1) := by decide +kernel
theorem dX11_sayHouse_61 : decode cX11_sayHouse 61 = .ok (.iconst 1, 1) := by decide +kernel
theorem dX11_sayHouse_62 : decode cX11_sayHouse 62 = .ok (.iadd, 1) := by decide +kernel
theorem dX11_sayHouse_63 : decode cX11_sayHouse 63 = .ok (.iastore, 1) := by decide +kernel
theorem dX11_sayHouse_64 : decode cX11_sayHouse 64 = .ok (.return_, 1) := by decide +kernel
theorem dX11_sayLamp_0 : decode cX11_sayLamp 0 = .ok (.aload_n 0, 1) := by decide +kernel
theorem dX11_sayLamp_1 : decode cX11_sayLamp 1 = .ok (.iconst 1, 1) := by decide +kernel
theorem dX11_sayLamp_2 : decode cX11_sayLamp 2 = .ok (.bipush 12, 2) := by decide +kernel
theorem dX11_sayLamp_4 : decode cX11_sayLamp 4 = .ok (.invokevirtual 259, 3) := by decide +kernel
theorem dX11_sayLamp_7 : decode cX11_sayLamp 7 = .ok (.ifCond .ne 4, 3) := by decide +kernel
theorem dX11_sayLamp_10 : decode cX11_sayLamp 10 = .ok (.return_, 1) := by decide +kernel
theorem dX11_sayLamp_11 : decode cX11_sayLamp 11 = .ok (.bipush 12, 2) := by decide +kernel
theorem dX11_sayLamp_13 : decode cX11_sayLamp 13 = .ok (.aload_n 0, 1) := by decide +kernel
theorem dX11_sayLamp_14 : decode cX11_sayLamp 14 = .ok (.getfield 38, 3) := by decide +kernel
theorem dX11_sayLamp_17 : decode cX11_sayLamp 17 = .ok (.iconst 5, 1) := by decide +kernel
theorem dX11_sayLamp_18 : decode cX11_sayLamp 18 = .ok (.iaload, 1) := by decide +kernel
theorem dX11_sayLamp_19 : decode cX11_sayLamp 19 = .ok (.iadd, 1) := by decide +kernel
theorem dX11_sayLamp_20 : decode cX11_sayLamp 20 = .ok (.istore_n 1, 1) := by decide +kernel
theorem dX11_sayLamp_21 : decode cX11_sayLamp 21 = .ok (.aload_n 0, 1) := by decide +kernel
theorem dX11_sayLamp_22 : decode cX11_sayLamp 22 = .ok (.getfield 50, 3) := by decide +kernel
theorem dX11_sayLamp_25 : decode cX11_sayLamp 25 = .ok (.iload_n 1, 1) := by decide +kernel
theorem dX11_sayLamp_26 : decode cX11_sayLamp 26 = .ok (.aload_n 0, 1) := by decide +kernel
theorem dX11_sayLamp_27 : decode cX11_sayLamp 27 = .ok (.iconst 0, 1) := by decide +kernel
theorem dX11_sayLamp_28 : decode cX11_sayLamp 28 = .ok (.invokevirtual 263, 3) := by decide +kernel
theorem dX11_sayLamp_31 : decode cX11_sayLamp 31 = .ok (.iastore, 1) := by decide +kernel
theorem dX11_sayLamp_32 : decode cX11_sayLamp 32 = .ok (.aload_n 0, 1) := by decide +kernel
theorem dX11_sayLamp_33 : decode cX11_sayLamp 33 = .ok (.getfield 191, 3) := by decide +kernel
theorem dX11_sayLamp_36 : decode cX11_sayLamp 36 = .ok (.ifCond .ne 7, 3) := by decide +kernel
theorem dX11_sayLamp_39 : decode cX11_sayLamp 39 = .ok (.aload_n 0, 1) := by decide +kernel
theorem dX11_sayLamp_40 : decode cX11_sayLamp 40 = .ok (.invokevirtual 216, 3) := by decide +kernel
theorem dX11_sayLamp_43 : decode cX11_sayLamp 43 = .ok (.aload_n 0, 1) := by decide +kernel
theorem dX11_sayLamp_44 : decode cX11_sayLamp 44 = .ok (.getfield 53, 3) := by decide +kernel
theorem dX11_sayLamp_47 : decode cX11_sayLamp 47 = .ok (.iload_n 1, 1) := by decide +kernel
theorem dX11_sayLamp_48 : decode cX11_sayLamp 48 = .ok (.aload_n 0, 1) := by decide +kernel
theorem dX11_sayLamp_49 : decode cX11_sayLamp 49 = .ok (.iconst 0, 1) := by decide +kernel
theorem dX11_sayLamp_50 : decode cX11_sayLamp 50 = .ok (.bipush 99, 2) := by decide +kernel
theorem dX11_sayLamp_52 : decode cX11_sayLamp 52 = .ok (.invokevirtual 222, 3) := by decide +kernel
theorem dX11_sayLamp_55 : decode cX11_sayLamp 55 = .ok (.iastore, 1) := by decide +kernel
theorem dX11_sayLamp_56 : decode cX11_sayLamp 56 = .ok (.aload_n 0, 1) := by decide +kernel
theorem dX11_sayLamp_57 : decode cX11_sayLamp 57 = .ok (.getfield 56, 3) := by decide +kernel
theorem dX11_sayLamp_60 : decode cX11_sayLamp 60 = .ok (.iload_n 1, 1) := by decide +kernel
theorem dX11_sayLamp_61 : decode cX11_sayLamp 61 = .ok (.iconst (-1), 1) := by decide +kernel
theorem dX11_sayLamp_62 : decode cX11_sayLamp 62 = .ok (.iastore, 1) := by decide +kernel
theorem dX11_sayLamp_63 : decode cX11_sayLamp 63 = .ok (.aload_n 0, 1) := by decide +kernel
theorem dX11_sayLamp_64 : decode cX11_sayLamp 64 = .ok (.getfield 38, 3) := by decide +kernel
theorem dX11_sayLamp_67 : decode cX11_sayLamp 67 = .ok (.iconst 5, 1) := by decide +kernel
theorem dX11_sayLamp_68 : decode cX11_sayLamp 68 = .ok (.dup2, 1) := by decide +kernel
theorem dX11_sayLamp_69 : decode cX11_sayLamp 69 = .ok (.iaload, 1) := by decide +kernel
theorem dX11_sayLamp_70 : decode cX11_sayLamp 70 = .ok (.iconst 1, 1) := by decide +kernel
theorem dX11_sayLamp_71 : decode cX11_sayLamp 71 = .ok (.iadd, 1) := by decide +kernel
theorem dX11_sayLamp_72 : decode cX11_sayLamp 72 = .ok (.iastore, 1) := by decide +kernel
theorem dX11_sayLamp_73 : decode cX11_sayLamp 73 = .ok (.return_, 1) := by decide +kernel
theorem dX11_sayTwins_0 : decode cX11_sayTwins 0 = .ok (.aload_n 0, 1) := by decide +kernel
theorem dX11_sayTwins_1 : decode cX11_sayTwins 1 = .ok (.getfield 191, 3) := by decide +kernel
theorem dX11_sayTwins_4 : decode cX11_sayTwins 4 = .ok (.ifCond .eq 4, 3) := by decide +kernel
theorem dX11_sayTwins_7 : decode cX11_sayTwins 7 = .ok (.return_, 1) := by decide +kernel
theorem dX11_sayTwins_8 : decode cX11_sayTwins 8 = .ok (.aload_n 0, 1) := by decide +kernel
theorem dX11_sayTwins_9 : decode cX11_sayTwins 9 = .ok (.invokevirtual 216, 3) := by decide +kernel
theorem dX11_sayTwins_12 : decode cX11_sayTwins 12 = .ok (.aload_n 0, 1) := by decide +kernel
theorem dX11_sayTwins_13 : decode cX11_sayTwins 13 = .ok (.iconst 1, 1) := by decide +kernel
theorem dX11_sayTwins_14 : decode cX11_sayTwins 14 = .ok (.invokevirtual 263, 3) := by decide +kernel
theorem dX11_sayTwins_17 : decode cX11_sayTwins 17 = .ok (.istore_n 1, 1) := by decide +kernel
theorem dX11_sayTwins_18 : decode cX11_sayTwins 18 = .ok (.aload_n 0, 1) := by decide +kernel
theorem dX11_sayTwins_19 : decode cX11_sayTwins 19 = .ok (.getfield 191, 3) := by decide +kernel
theorem dX11_sayTwins_22 : decode cX11_sayTwins 22 = .ok (.ifCond .ne 21, 3) := by decide +kernel
theorem dX11_sayTwins_25 : decode cX11_sayTwins 25 = .ok (.aload_n 0, 1) := by decide +kernel
theorem dX11_sayTwins_26 : decode cX11_sayTwins 26 = .ok (.getfield 56, 3) := by decide +kernel
theorem dX11_sayTwins_29 : decode cX11_sayTwins 29 = .ok (.bipush 12, 2) := by decide +kernel
theorem dX11_sayTwins_31 : decode cX11_sayTwins 31 = .ok (.iload_n 1, 1) := by decide +kernel
theorem dX11_sayTwins_32 : decode cX11_sayTwins 32 = .ok (.iadd, 1) := by decide +kernel
theorem dX11_sayTwins_33 : decode cX11_sayTwins 33 = .ok (.iaload, 1) := by decide +kernel
theorem dX11_sayTwins_34 : decode cX11_sayTwins 34 = .ok (.iconst (-1), 1) := by decide +kernel
theorem dX11_sayTwins_35 : decode cX11_sayTwins 35 = .ok (.if_icmp .eq 8, 3) := by decide +kernel
theorem dX11_sayTwins_38 : decode cX11_sayTwins 38 = .ok (.aload_n 0, 1) := by decide +kernel
theorem dX11_sayTwins_39 : decode cX11_sayTwins 39 = .ok (.iconst 4, 1) := by decide +kernel
theorem dX11_sayTwins_40 : decode cX11_sayTwins 40 = .ok (.invokevirtual 212, 3) := by decide +kernel
theorem dX11_sayTwins_43 : decode cX11_sayTwins 43 = .ok (.aload_n 0, 1) := by decide +kernel
theorem dX11_sayTwins_44 : decode cX11_sayTwins 44 = .ok (.getfield 191, 3) := by decide +kernel
theorem dX11_sayTwins_47 : decode cX11_sayTwins 47 = .ok (.ifCond .ne 7, 3) := by decide +kernel
theorem dX11_sayTwins_50 : decode cX11_sayTwins 50 = .ok (.aload_n 0, 1) := by decide +kernel
theorem dX11_sayTwins_51 : decode cX11_sayTwins 51 = .ok (.invokevirtual 216, 3) := by decide +kernel
theorem dX11_sayTwins_54 : decode cX11_sayTwins 54 = .ok (.aload_n 0, 1) := by decide +kernel
theorem dX11_sayTwins_55 : decode cX11_sayTwins 55 = .ok (.iconst 1, 1) := by decide +kernel
theorem dX11_sayTwins_56 : decode cX11_sayTwins 56 = .ok (.invokevirtual 263, 3) := by decide +kernel
theorem dX11_sayTwins_59 : decode cX11_sayTwins 59 = .ok (.istore_n 2, 1) := by decide +kernel
theorem dX11_sayTwins_60 : decode cX11_sayTwins 60 = .ok (.aload_n 0, 1) := by decide +kernel
theorem dX11_sayTwins_61 : decode cX11_sayTwins 61 = .ok (.getfield 191, 3) := by decide +kernel
theorem dX11_sayTwins_64 : decode cX11_sayTwins 64 = .ok (.ifCond .ne 26, 3) := by decide +kernel
theorem dX11_sayTwins_67 : decode cX11_sayTwins 67 = .ok (.iload_n 1, 1) := by decide +kernel
theorem dX11_sayTwins_68 : decode cX11_sayTwins 68 = .ok (.iload_n 2, 1) := by decide +kernel
theorem dX11_sayTwins_69 : decode cX11_sayTwins 69 = .ok (.if_icmp .eq 16, 3) := by decide +kernel
theorem dX11_sayTwins_72 : decode cX11_sayTwins 72 = .ok (.aload_n 0, 1) := by decide +kernel
theorem dX11_sayTwins_73 : decode cX11_sayTwins 73 = .ok (.getfield 56, 3) := by decide +kernel
theorem dX11_sayTwins_76 : decode cX11_sayTwins 76 = .ok (.bipush 12, 2) := by decide +kernel
theorem dX11_sayTwins_78 : decode cX11_sayTwins 78 = .ok (.iload_n 2, 1) := by decide +kernel
theorem dX11_sayTwins_79 : decode cX11_sayTwins 79 = .ok (.iadd, 1) := by decide +kernel
theorem dX11_sayTwins_80 : decode cX11_sayTwins 80 = .ok (.iaload, 1) := by decide +kernel
theorem dX11_sayTwins_81 : decode cX11_sayTwins 81 = .ok (.iconst (-1), 1) := by decide +kernel
theorem dX11_sayTwins_82 : decode cX11_sayTwins 82 = .ok (.if_icmp .eq 8, 3) := by decide +kernel
theorem dX11_sayTwins_85 : decode cX11_sayTwins 85 = .ok (.aload_n 0, 1) := by decide +kernel
theorem dX11_sayTwins_86 : decode cX11_sayTwins 86 = .ok (.iconst 4, 1) := by decide +kernel
theorem dX11_sayTwins_87 : decode cX11_sayTwins 87 = .ok (.invokevirtual 212, 3) := by decide +kernel
theorem dX11_sayTwins_90 : decode cX11_sayTwins 90 = .ok (.aload_n 0, 1) := by decide +kernel
theorem dX11_sayTwins_91 : decode cX11_sayTwins 91 = .ok (.getfield 191, 3) := by decide +kernel
theorem dX11_sayTwins_94 : decode cX11_sayTwins 94 = .ok (.ifCond .eq 4, 3) := by decide +kernel
theorem dX11_sayTwins_97 : decode cX11_sayTwins 97 = .ok (.return_, 1) := by decide +kernel
theorem dX11_sayTwins_98 : decode cX11_sayTwins 98 = .ok (.aload_n 0, 1) := by decide +kernel
theorem dX11_sayTwins_99 : decode cX11_sayTwins 99 = .ok (.invokevirtual 216, 3) := by decide +kernel
theorem dX11_sayTwins_102 : decode cX11_sayTwins 102 = .ok (.aload_n 0, 1) := by decide +kernel
theorem dX11_sayTwins_103 : decode cX11_sayTwins 103 = .ok (.getfield 56, 3) := by decide +kernel
theorem dX11_sayTwins_106 : decode cX11_sayTwins 106 = .ok (.bipush 12, 2) := by decide +kernel
theorem dX11_sayTwins_108 : decode cX11_sayTwins 108 = .ok (.iload_n 1, 1) := by decide +kernel
theorem dX11_sayTwins_109 : decode cX11_sayTwins 109 = .ok (.iadd, 1) := by decide +kernel
theorem dX11_sayTwins_110 : decode cX11_sayTwins 110 = .ok (.iload_n 2, 1) := by decide +kernel
theorem dX11_sayTwins_111 : decode cX11_sayTwins 111 = .ok (.iastore, 1) := by decide +kernel
theorem dX11_sayTwins_112 : decode cX11_sayTwins 112 = .ok (.aload_n 0, 1) := by decide +kernel
theorem dX11_sayTwins_113 : decode cX11_sayTwins 113 = .ok (.getfield 56, 3) := by decide +kernel
theorem dX11_sayTwins_116 : decode cX11_sayTwins 116 = .ok (.bipush 12, 2) := by decide +kernel
theorem dX11_sayTwins_118 : decode cX11_sayTwins 118 = .ok (.iload_n 2, 1) := by decide +kernel
theorem dX11_sayTwins_119 : decode cX11_sayTwins 119 = .ok (.iadd, 1) := by decide +kernel
theorem dX11_sayTwins_120 : decode cX11_sayTwins 120 = .ok (.iload_n 1, 1) := by decide +kernel
theorem dX11_sayTwins_121 : decode cX11_sayTwins 121 = .ok (.iastore, 1) := by decide +kernel
theorem dX11_sayTwins_122 : decode cX11_sayTwins 122 = .ok (.aload_n 0, 1) := by decide +kernel
theorem dX11_sayTwins_123 : decode cX11_sayTwins 123 = .ok (.getfield 38, 3) := by decide +kernel
theorem dX11_sayTwins_126 : decode cX11_sayTwins 126 = .ok (.bipush 6, 2) := by decide +kernel
theorem dX11_sayTwins_128 : decode cX11_sayTwins 128 = .ok (.dup2, 1) := by decide +kernel
theorem dX11_sayTwins_129 : decode cX11_sayTwins 129 = .ok (.iaload, 1) := by decide +kernel
theorem dX11_sayTwins_130 : decode cX11_sayTwins 130 = .ok (.iconst 1, 1) := by decide +kernel
theorem dX11_sayTwins_131 : decode cX11_sayTwins 131 = .ok (.iadd, 1) := by decide +kernel
theorem dX11_sayTwins_132 : decode cX11_sayTwins 132 = .ok (.iastore, 1) := by decide +kernel
theorem dX11_sayTwins_133 : decode cX11_sayTwins 133 = .ok (.return_, 1) := by decide +kernel
theorem dX11_readLine_0 : decode cX11_readLine 0 = .ok (.aload_n 0, 1) := by decide +kernel
theorem dX11_readLine_1 : decode cX11_readLine 1 = .ok (.aload_n 0, 1) := by decide +kernel
theorem dX11_readLine_2 : decode cX11_readLine 2 = .ok (.getfield 19, 3) := by decide +kernel
theorem dX11_readLine_5 : decode cX11_readLine 5 = .ok (.invokevirtual 228, 3) := by decide +kernel
theorem dX11_readLine_8 : decode cX11_readLine 8 = .ok (.istore_n 2, 1) := by decide +kernel
theorem dX11_readLine_9 : decode cX11_readLine 9 = .ok (.aload_n 0, 1) := by decide +kernel
theorem dX11_readLine_10 : decode cX11_readLine 10 = .ok (.ldc_w 266, 3) := by decide +kernel
theorem dX11_readLine_13 : decode cX11_readLine 13 = .ok (.invokevirtual 205, 3) := by decide +kernel
theorem dX11_readLine_16 : decode cX11_readLine 16 = .ok (.ifCond .eq 37, 3) := by decide +kernel
theorem dX11_readLine_19 : decode cX11_readLine 19 = .ok (.iload_n 1, 1) := by decide +kernel
theorem dX11_readLine_20 : decode cX11_readLine 20 = .ok (.iconst 1, 1) := by decide +kernel
theorem dX11_readLine_21 : decode cX11_readLine 21 = .ok (.if_icmp .ne 8, 3) := by decide +kernel
theorem dX11_readLine_24 : decode cX11_readLine 24 = .ok (.aload_n 0, 1) := by decide +kernel
theorem dX11_readLine_25 : decode cX11_readLine 25 = .ok (.iconst 5, 1) := by decide +kernel
theorem dX11_readLine_26 : decode cX11_readLine 26 = .ok (.invokevirtual 212, 3) := by decide +kernel
theorem dX11_readLine_29 : decode cX11_readLine 29 = .ok (.aload_n 0, 1) := by decide +kernel
theorem dX11_readLine_30 : decode cX11_readLine 30 = .ok (.getfield 191, 3) := by decide +kernel
theorem dX11_readLine_33 : decode cX11_readLine 33 = .ok (.ifCond .ne 7, 3) := by decide +kernel
theorem dX11_readLine_36 : decode cX11_readLine 36 = .ok (.aload_n 0, 1) := by decide +kernel
theorem dX11_readLine_37 : decode cX11_readLine 37 = .ok (.invokevirtual 216, 3) := by decide +kernel
theorem dX11_readLine_40 : decode cX11_readLine 40 = .ok (.aload_n 0, 1) := by decide +kernel
theorem dX11_readLine_41 : decode cX11_readLine 41 = .ok (.iconst 0, 1) := by decide +kernel
theorem dX11_readLine_42 : decode cX11_readLine 42 = .ok (.invokevirtual 235, 3) := by decide +kernel
theorem dX11_readLine_45 : decode cX11_readLine 45 = .ok (.aload_n 0, 1) := by decide +kernel
theorem dX11_readLine_46 : decode cX11_readLine 46 = .ok (.bipush 59, 2) := by decide +kernel
theorem dX11_readLine_48 : decode cX11_readLine 48 = .ok (.invokevirtual 232, 3) := by decide +kernel
theorem dX11_readLine_51 : decode cX11_readLine 51 = .ok (.iconst 1, 1) := by decide +kernel
theorem dX11_readLine_52 : decode cX11_readLine 52 = .ok (.ireturn, 1) := by decide +kernel
theorem dX11_readLine_53 : decode cX11_readLine 53 = .ok (.iload_n 2, 1) := by decide +kernel
theorem dX11_readLine_54 : decode cX11_readLine 54 = .ok (.iconst (-1), 1) := by decide +kernel
theorem dX11_readLine_55 : decode cX11_readLine 55 = .ok (.if_icmp .eq 11, 3) := by decide +kernel
theorem dX11_readLine_58 : decode cX11_readLine 58 = .ok (.aload_n 0, 1) := by decide +kernel
theorem dX11_readLine_59 : decode cX11_readLine 59 = .ok (.iload_n 2, 1) := by decide +kernel
theorem dX11_readLine_60 : decode cX11_readLine 60 = .ok (.invokevirtual 268, 3) := by decide +kernel
theorem dX11_readLine_63 : decode cX11_readLine 63 = .ok (.goto 42, 3) := by decide +kernel
theorem dX11_readLine_66 : decode cX11_readLine 66 = .ok (.aload_n 0, 1) := by decide +kernel
theorem dX11_readLine_67 : decode cX11_readLine 67 = .ok (.ldc_w 271, 3) := by decide +kernel
theorem dX11_readLine_70 : decode cX11_readLine 70 = .ok (.invokevirtual 205, 3) := by decide +kernel
theorem dX11_readLine_73 : decode cX11_readLine 73 = .ok (.ifCond .eq 10, 3) := by decide +kernel
theorem dX11_readLine_76 : decode cX11_readLine 76 = .ok (.aload_n 0, 1) := by decide +kernel
theorem dX11_readLine_77 : decode cX11_readLine 77 = .ok (.invokevirtual 273, 3) := by decide +kernel
theorem dX11_readLine_80 : decode cX11_readLine 80 = .ok (.goto 25, 3) := by decide +kernel
theorem dX11_readLine_83 : decode cX11_readLine 83 = .ok (.aload_n 0, 1) := by decide +kernel
theorem dX11_readLine_84 : decode cX11_readLine 84 = .ok (.ldc_w 276, 3) := by decide +kernel
theorem dX11_readLine_87 : decode cX11_readLine 87 = .ok (.invokevirtual 205, 3) := by decide +kernel
theorem dX11_readLine_90 : decode cX11_readLine 90 = .ok (.ifCond .eq 10, 3) := by decide +kernel
theorem dX11_readLine_93 : decode cX11_readLine 93 = .ok (.aload_n 0, 1) := by decide +kernel
theorem dX11_readLine_94 : decode cX11_readLine 94 = .ok (.invokevirtual 278, 3) := by decide +kernel
theorem dX11_readLine_97 : decode cX11_readLine 97 = .ok (.goto 8, 3) := by decide +kernel
theorem dX11_readLine_100 : decode cX11_readLine 100 = .ok (.aload_n 0, 1) := by decide +kernel
theorem dX11_readLine_101 : decode cX11_readLine 101 = .ok (.iconst 1, 1) := by decide +kernel
theorem dX11_readLine_102 : decode cX11_readLine 102 = .ok (.invokevirtual 212, 3) := by decide +kernel
theorem dX11_readLine_105 : decode cX11_readLine 105 = .ok (.aload_n 0, 1) := by decide +kernel
theorem dX11_readLine_106 : decode cX11_readLine 106 = .ok (.bipush 59, 2) := by decide +kernel
theorem dX11_readLine_108 : decode cX11_readLine 108 = .ok (.invokevirtual 232, 3) := by decide +kernel
theorem dX11_readLine_111 : decode cX11_readLine 111 = .ok (.iload_n 1, 1) := by decide +kernel
theorem dX11_readLine_112 : decode cX11_readLine 112 = .ok (.ireturn, 1) := by decide +kernel
theorem dX11_street_0 : decode cX11_street 0 = .ok (.aload_n 0, 1) := by decide +kernel
theorem dX11_street_1 : decode cX11_street 1 = .ok (.iconst 0, 1) := by decide +kernel
theorem dX11_street_2 : decode cX11_street 2 = .ok (.putfield 142, 3) := by decide +kernel
theorem dX11_street_5 : decode cX11_street 5 = .ok (.iload_n 1, 1) := by decide +kernel
theorem dX11_street_6 : decode cX11_street 6 = .ok (.ifCond .lt 11, 3) := by decide +kernel
theorem dX11_street_9 : decode cX11_street 9 = .ok (.iload_n 1, 1) := by decide +kernel
theorem dX11_street_10 : decode cX11_street 10 = .ok (.aload_n 0, 1) := by decide +kernel
theorem dX11_street_11 : decode cX11_street 11 = .ok (.getfield 149, 3) := by decide +kernel
theorem dX11_street_14 : decode cX11_street 14 = .ok (.if_icmp .le 9, 3) := by decide +kernel
theorem dX11_street_17 : decode cX11_street 17 = .ok (.aload_n 0, 1) := by decide +kernel
theorem dX11_street_18 : decode cX11_street 18 = .ok (.iconst 1, 1) := by decide +kernel
theorem dX11_street_19 : decode cX11_street 19 = .ok (.invokevirtual 281, 3) := by decide +kernel
theorem dX11_street_22 : decode cX11_street 22 = .ok (.ireturn, 1) := by decide +kernel
theorem dX11_street_23 : decode cX11_street 23 = .ok (.aload_n 0, 1) := by decide +kernel
theorem dX11_street_24 : decode cX11_street 24 = .ok (.iconst 0, 1) := by decide +kernel
theorem dX11_street_25 : decode cX11_street 25 = .ok (.putfield 149, 3) := by decide +kernel
theorem dX11_street_28 : decode cX11_street 28 = .ok (.aload_n 0, 1) := by decide +kernel
theorem dX11_street_29 : decode cX11_street 29 = .ok (.iload_n 1, 1) := by decide +kernel
theorem dX11_street_30 : decode cX11_street 30 = .ok (.putfield 152, 3) := by decide +kernel
theorem dX11_street_33 : decode cX11_street 33 = .ok (.aload_n 0, 1) := by decide +kernel
theorem dX11_street_34 : decode cX11_street 34 = .ok (.iconst 0, 1) := by decide +kernel
theorem dX11_street_35 : decode cX11_street 35 = .ok (.putfield 155, 3) := by decide +kernel
theorem dX11_street_38 : decode cX11_street 38 = .ok (.aload_n 0, 1) := by decide +kernel
theorem dX11_street_39 : decode cX11_street 39 = .ok (.iconst 0, 1) := by decide +kernel
theorem dX11_street_40 : decode cX11_street 40 = .ok (.putfield 191, 3) := by decide +kernel
theorem dX11_street_43 : decode cX11_street 43 = .ok (.aload_n 0, 1) := by decide +kernel
theorem dX11_street_44 : decode cX11_street 44 = .ok (.iconst (-1), 1) := by decide +kernel
theorem dX11_street_45 : decode cX11_street 45 = .ok (.putfield 68, 3) := by decide +kernel
theorem dX11_street_48 : decode cX11_street 48 = .ok (.iconst 0, 1) := by decide +kernel
theorem dX11_street_49 : decode cX11_street 49 = .ok (.istore_n 2, 1) := by decide +kernel
theorem dX11_street_50 : decode cX11_street 50 = .ok (.iload_n 2, 1) := by decide +kernel
theorem dX11_street_51 : decode cX11_street 51 = .ok (.iconst 4, 1) := by decide +kernel
theorem dX11_street_52 : decode cX11_street 52 = .ok (.if_icmp .ge 18, 3) := by decide +kernel
theorem dX11_street_55 : decode cX11_street 55 = .ok (.aload_n 0, 1) := by decide +kernel
theorem dX11_street_56 : decode cX11_street 56 = .ok (.getfield 38, 3) := by decide +kernel
theorem dX11_street_59 : decode cX11_street 59 = .ok (.iconst 4, 1) := by decide +kernel
theorem dX11_street_60 : decode cX11_street 60 = .ok (.iload_n 2, 1) := by decide +kernel
theorem dX11_street_61 : decode cX11_street 61 = .ok (.iadd, 1) := by decide +kernel
theorem dX11_street_62 : decode cX11_street 62 = .ok (.iconst 0, 1) := by decide +kernel
theorem dX11_street_63 : decode cX11_street 63 = .ok (.iastore, 1) := by decide +kernel
theorem dX11_street_64 : decode cX11_street 64 = .ok (.iinc 2 1, 3) := by decide +kernel
theorem dX11_street_67 : decode cX11_street 67 = .ok (.goto (-17), 3) := by decide +kernel
theorem dX11_street_70 : decode cX11_street 70 = .ok (.aload_n 0, 1) := by decide +kernel
theorem dX11_street_71 : decode cX11_street 71 = .ok (.invokevirtual 216, 3) := by decide +kernel
theorem dX11_street_74 : decode cX11_street 74 = .ok (.iconst 0, 1) := by decide +kernel
theorem dX11_street_75 : decode cX11_street 75 = .ok (.istore_n 2, 1) := by decide +kernel
theorem dX11_street_76 : decode cX11_street 76 = .ok (.aload_n 0, 1) := by decide +kernel
theorem dX11_street_77 : decode cX11_street 77 = .ok (.getfield 191, 3) := by decide +kernel
theorem dX11_street_80 : decode cX11_street 80 = .ok (.ifCond .ne 19, 3) := by decide +kernel
theorem dX11_street_83 : decode cX11_street 83 = .ok (.aload_n 0, 1) := by decide +kernel
theorem dX11_street_84 : decode cX11_street 84 = .ok (.getfield 165, 3) := by decide +kernel
theorem dX11_street_87 : decode cX11_street 87 = .ok (.ifCond .eq 12, 3) := by decide +kernel
theorem dX11_street_90 : decode cX11_street 90 = .ok (.aload_n 0, 1) := by decide +kernel
theorem dX11_street_91 : decode cX11_street 91 = .ok (.iload_n 2, 1) := by decide +kernel
theorem dX11_street_92 : decode cX11_street 92 = .ok (.invokevirtual 284, 3) := by decide +kernel
theorem dX11_street_95 : decode cX11_street 95 = .ok (.istore_n 2, 1) := by decide +kernel
theorem dX11_street_96 : decode cX11_street 96 = .ok (.goto (-20), 3) := by decide +kernel
theorem dX11_street_99 : decode cX11_street 99 = .ok (.aload_n 0, 1) := by decide +kernel
theorem dX11_street_100 : decode cX11_street 100 = .ok (.getfield 191, 3) := by decide +kernel
theorem dX11_street_103 : decode cX11_street 103 = .ok (.ifCond .eq 26, 3) := by decide +kernel
theorem dX11_street_106 : decode cX11_street 106 = .ok (.aload_n 0, 1) := by decide +kernel
theorem dX11_street_107 : decode cX11_street 107 = .ok (.aload_n 0, 1) := by decide +kernel
theorem dX11_street_108 : decode cX11_street 108 = .ok (.getfield 194, 3) := by decide +kernel
theorem dX11_street_111 : decode cX11_street 111 = .ok (.putfield 68, 3) := by decide +kernel
theorem dX11_street_114 : decode cX11_street 114 = .ok (.aload_n 0, 1) := by decide +kernel
theorem dX11_street_115 : decode cX11_street 115 = .ok (.getfield 62, 3) := by decide +kernel
theorem dX11_street_118 : decode cX11_street 118 = .ok (.iconst 0, 1) := by decide +kernel
theorem dX11_street_119 : decode cX11_street 119 = .ok (.dup2, 1) := by decide +kernel
theorem dX11_street_120 : decode cX11_street 120 = .ok (.iaload, 1) := by decide +kernel
theorem dX11_street_121 : decode cX11_street 121 = .ok (.iconst 1, 1) := by decide +kernel
theorem dX11_street_122 : decode cX11_street 122 = .ok (.iadd, 1) := by decide +kernel
theorem dX11_street_123 : decode cX11_street 123 = .ok (.iastore, 1) := by decide +kernel
theorem dX11_street_124 : decode cX11_street 124 = .ok (.aload_n 0, 1) := by decide +kernel
theorem dX11_street_125 : decode cX11_street 125 = .ok (.getfield 191, 3) := by decide +kernel
theorem dX11_street_128 : decode cX11_street 128 = .ok (.ireturn, 1) := by decide +kernel
theorem dX11_street_129 : decode cX11_street 129 = .ok (.aload_n 0, 1) := by decide +kernel
theorem dX11_street_130 : decode cX11_street 130 = .ok (.invokevirtual 287, 3) := by decide +kernel
theorem dX11_street_133 : decode cX11_street 133 = .ok (.iconst 0, 1) := by decide +kernel
theorem dX11_street_134 : decode cX11_street 134 = .ok (.ireturn, 1) := by decide +kernel
theorem dX11_takeHalf_0 : decode cX11_takeHalf 0 = .ok (.iconst 0, 1) := by decide +kernel
theorem dX11_takeHalf_1 : decode cX11_takeHalf 1 = .ok (.istore_n 1, 1) := by decide +kernel
theorem dX11_takeHalf_2 : decode cX11_takeHalf 2 = .ok (.iload_n 1, 1) := by decide +kernel
theorem dX11_takeHalf_3 : decode cX11_takeHalf 3 = .ok (.aload_n 0, 1) := by decide +kernel
theorem dX11_takeHalf_4 : decode cX11_takeHalf 4 = .ok (.arraylength, 1) := by decide +kernel
theorem dX11_takeHalf_5 : decode cX11_takeHalf 5 = .ok (.iconst 2, 1) := by decide +kernel
theorem dX11_takeHalf_6 : decode cX11_takeHalf 6 = .ok (.idiv, 1) := by decide +kernel
theorem dX11_takeHalf_7 : decode cX11_takeHalf 7 = .ok (.if_icmp .ge 20, 3) := by decide +kernel
theorem dX11_takeHalf_10 : decode cX11_takeHalf 10 = .ok (.aload_n 0, 1) := by decide +kernel
theorem dX11_takeHalf_11 : decode cX11_takeHalf 11 = .ok (.iload_n 1, 1) := by decide +kernel
theorem dX11_takeHalf_12 : decode cX11_takeHalf 12 = .ok (.aload_n 0, 1) := by decide +kernel
theorem dX11_takeHalf_13 : decode cX11_takeHalf 13 = .ok (.aload_n 0, 1) := by decide +kernel
theorem dX11_takeHalf_14 : decode cX11_takeHalf 14 = .ok (.arraylength, 1) := by decide +kernel
theorem dX11_takeHalf_15 : decode cX11_takeHalf 15 = .ok (.iconst 2, 1) := by decide +kernel
theorem dX11_takeHalf_16 : decode cX11_takeHalf 16 = .ok (.idiv, 1) := by decide +kernel
theorem dX11_takeHalf_17 : decode cX11_takeHalf 17 = .ok (.iload_n 1, 1) := by decide +kernel
theorem dX11_takeHalf_18 : decode cX11_takeHalf 18 = .ok (.iadd, 1) := by decide +kernel
theorem dX11_takeHalf_19 : decode cX11_takeHalf 19 = .ok (.iaload, 1) := by decide +kernel
theorem dX11_takeHalf_20 : decode cX11_takeHalf 20 = .ok (.iastore, 1) := by decide +kernel
theorem dX11_takeHalf_21 : decode cX11_takeHalf 21 = .ok (.iinc 1 1, 3) := by decide +kernel
theorem dX11_takeHalf_24 : decode cX11_takeHalf 24 = .ok (.goto (-22), 3) := by decide +kernel
theorem dX11_takeHalf_27 : decode cX11_takeHalf 27 = .ok (.return_, 1) := by decide +kernel
theorem dX11_takeOver_0 : decode cX11_takeOver 0 = .ok (.aload_n 0, 1) := by decide +kernel
theorem dX11_takeOver_1 : decode cX11_takeOver 1 = .ok (.getfield 38, 3) := by decide +kernel
theorem dX11_takeOver_4 : decode cX11_takeOver 4 = .ok (.invokestatic 290, 3) := by decide +kernel
theorem dX11_takeOver_7 : decode cX11_takeOver 7 = .ok (.aload_n 0, 1) := by decide +kernel
theorem dX11_takeOver_8 : decode cX11_takeOver 8 = .ok (.getfield 42, 3) := by decide +kernel
theorem dX11_takeOver_11 : decode cX11_takeOver 11 = .ok (.invokestatic 290, 3) := by decide +kernel
theorem dX11_takeOver_14 : decode cX11_takeOver 14 = .ok (.aload_n 0, 1) := by decide +kernel
theorem dX11_takeOver_15 : decode cX11_takeOver 15 = .ok (.getfield 44, 3) := by decide +kernel
theorem dX11_takeOver_18 : decode cX11_takeOver 18 = .ok (.invokestatic 290, 3) := by decide +kernel
theorem dX11_takeOver_21 : decode cX11_takeOver 21 = .ok (.aload_n 0, 1) := by decide +kernel
theorem dX11_takeOver_22 : decode cX11_takeOver 22 = .ok (.getfield 47, 3) := by decide +kernel
theorem dX11_takeOver_25 : decode cX11_takeOver 25 = .ok (.invokestatic 290, 3) := by decide +kernel
theorem dX11_takeOver_28 : decode cX11_takeOver 28 = .ok (.aload_n 0, 1) := by decide +kernel
theorem dX11_takeOver_29 : decode cX11_takeOver 29 = .ok (.getfield 50, 3) := by decide +kernel
theorem dX11_takeOver_32 : decode cX11_takeOver 32 = .ok (.invokestatic 290, 3) := by decide +kernel
theorem dX11_takeOver_35 : decode cX11_takeOver 35 = .ok (.aload_n 0, 1) := by decide +kernel
theorem dX11_takeOver_36 : decode cX11_takeOver 36 = .ok (.getfield 53, 3) := by decide +kernel
theorem dX11_takeOver_39 : decode cX11_takeOver 39 = .ok (.invokestatic 290, 3) := by decide +kernel
theorem dX11_takeOver_42 : decode cX11_takeOver 42 = .ok (.aload_n 0, 1) := by decide +kernel
theorem dX11_takeOver_43 : decode cX11_takeOver 43 = .ok (.getfield 56, 3) := by decide +kernel
theorem dX11_takeOver_46 : decode cX11_takeOver 46 = .ok (.invokestatic 290, 3) := by decide +kernel
theorem dX11_takeOver_49 : decode cX11_takeOver 49 = .ok (.aload_n 0, 1) := by decide +kernel
theorem dX11_takeOver_50 : decode cX11_takeOver 50 = .ok (.getfield 59, 3) := by decide +kernel
theorem dX11_takeOver_53 : decode cX11_takeOver 53 = .ok (.invokestatic 290, 3) := by decide +kernel
theorem dX11_takeOver_56 : decode cX11_takeOver 56 = .ok (.aload_n 0, 1) := by decide +kernel
theorem dX11_takeOver_57 : decode cX11_takeOver 57 = .ok (.iconst 0, 1) := by decide +kernel
theorem dX11_takeOver_58 : decode cX11_takeOver 58 = .ok (.putfield 294, 3) := by decide +kernel
theorem dX11_takeOver_61 : decode cX11_takeOver 61 = .ok (.aload_n 0, 1) := by decide +kernel
theorem dX11_takeOver_62 : decode cX11_takeOver 62 = .ok (.iconst 0, 1) := by decide +kernel
theorem dX11_takeOver_63 : decode cX11_takeOver 63 = .ok (.putfield 296, 3) := by decide +kernel
theorem dX11_takeOver_66 : decode cX11_takeOver 66 = .ok (.aload_n 0, 1) := by decide +kernel
theorem dX11_takeOver_67 : decode cX11_takeOver 67 = .ok (.iconst 0, 1) := by decide +kernel
theorem dX11_takeOver_68 : decode cX11_takeOver 68 = .ok (.putfield 299, 3) := by decide +kernel
theorem dX11_takeOver_71 : decode cX11_takeOver 71 = .ok (.iconst 0, 1) := by decide +kernel
theorem dX11_takeOver_72 : decode cX11_takeOver 72 = .ok (.istore_n 1, 1) := by decide +kernel
theorem dX11_takeOver_73 : decode cX11_takeOver 73 = .ok (.iload_n 1, 1) := by decide +kernel
theorem dX11_takeOver_74 : decode cX11_takeOver 74 = .ok (.bipush 12, 2) := by decide +kernel
theorem dX11_takeOver_76 : decode cX11_takeOver 76 = .ok (.if_icmp .ge 61, 3) := by decide +kernel
theorem dX11_takeOver_79 : decode cX11_takeOver 79 = .ok (.aload_n 0, 1) := by decide +kernel
theorem dX11_takeOver_80 : decode cX11_takeOver 80 = .ok (.getfield 72, 3) := by decide +kernel
theorem dX11_takeOver_83 : decode cX11_takeOver 83 = .ok (.iload_n 1, 1) := by decide +kernel
theorem dX11_takeOver_84 : decode cX11_takeOver 84 = .ok (.iload_n 1, 1) := by decide +kernel
theorem dX11_takeOver_85 : decode cX11_takeOver 85 = .ok (.aload_n 0, 1) := by decide +kernel
theorem dX11_takeOver_86 : decode cX11_takeOver 86 = .ok (.getfield 38, 3) := by decide +kernel
theorem dX11_takeOver_89 : decode cX11_takeOver 89 = .ok (.iconst 1, 1) := by decide +kernel
theorem dX11_takeOver_90 : decode cX11_takeOver 90 = .ok (.iaload, 1) := by decide +kernel
theorem dX11_takeOver_91 : decode cX11_takeOver 91 = .ok (.if_icmp .ge 12, 3) := by decide +kernel
theorem dX11_takeOver_94 : decode cX11_takeOver 94 = .ok (.aload_n 0, 1) := by decide +kernel
theorem dX11_takeOver_95 : decode cX11_takeOver 95 = .ok (.getfield 53, 3) := by decide +kernel
theorem dX11_takeOver_98 : decode cX11_takeOver 98 = .ok (.iload_n 1, 1) := by decide +kernel
theorem dX11_takeOver_99 : decode cX11_takeOver 99 = .ok (.iaload, 1) := by decide +kernel
theorem dX11_takeOver_100 : decode cX11_takeOver 100 = .ok (.goto 4, 3) := by decide +kernel
theorem dX11_takeOver_103 : decode cX11_takeOver 103 = .ok (.iconst 0, 1) := by decide +kernel
theorem dX11_takeOver_104 : decode cX11_takeOver 104 = .ok (.iastore, 1) := by decide +kernel
theorem dX11_takeOver_105 : decode cX11_takeOver 105 = .ok (.aload_n 0, 1) := by decide +kernel
theorem dX11_takeOver_106 : decode cX11_takeOver 106 = .ok (.getfield 74, 3) := by decide +kernel
theorem dX11_takeOver_109 : decode cX11_takeOver 109 = .ok (.iload_n 1, 1) := by decide +kernel
theorem dX11_takeOver_110 : decode cX11_takeOver 110 = .ok (.iload_n 1, 1) := by decide +kernel
theorem dX11_takeOver_111 : decode cX11_takeOver 111 = .ok (.aload_n 0, 1) := by decide +kernel
theorem dX11_takeOver_112 : decode cX11_takeOver 112 = .ok (.getfield 38, 3) := by decide +kernel
theorem dX11_takeOver_115 : decode cX11_takeOver 115 = .ok (.iconst 1, 1) := by decide +kernel
theorem dX11_takeOver_116 : decode cX11_takeOver 116 = .ok (.iaload, 1) := by decide +kernel
theorem dX11_takeOver_117 : decode cX11_takeOver 117 = .ok (.if_icmp .ge 12, 3) := by decide +kernel
theorem dX11_takeOver_120 : decode cX11_takeOver 120 = .ok (.aload_n 0, 1) := by decide +kernel
theorem dX11_takeOver_121 : decode cX11_takeOver 121 = .ok (.getfield 50, 3) := by decide +kernel
theorem dX11_takeOver_124 : decode cX11_takeOver 124 = .ok (.iload_n 1, 1) := by decide +kernel
theorem dX11_takeOver_125 : decode cX11_takeOver 125 = .ok (.iaload, 1) := by decide +kernel
theorem dX11_takeOver_126 : decode cX11_takeOver 126 = .ok (.goto 4, 3) := by decide +kernel
theorem dX11_takeOver_129 : decode cX11_takeOver 129 = .ok (.iconst (-1), 1) := by decide +kernel
theorem dX11_takeOver_130 : decode cX11_takeOver 130 = .ok (.iastore, 1) := by decide +kernel
theorem dX11_takeOver_131 : decode cX11_takeOver 131 = .ok (.iinc 1 1, 3) := by decide +kernel
theorem dX11_takeOver_134 : decode cX11_takeOver 134 = .ok (.goto (-61), 3) := by decide +kernel
theorem dX11_takeOver_137 : decode cX11_takeOver 137 = .ok (.iconst 0, 1) := by decide +kernel
theorem dX11_takeOver_138 : decode cX11_takeOver 138 = .ok (.istore_n 1, 1) := by decide +kernel
theorem dX11_takeOver_139 : decode cX11_takeOver 139 = .ok (.iload_n 1, 1) := by decide +kernel
theorem dX11_takeOver_140 : decode cX11_takeOver 140 = .ok (.bipush 8, 2) := by decide +kernel
theorem dX11_takeOver_142 : decode cX11_takeOver 142 = .ok (.if_icmp .ge 33, 3) := by decide +kernel
theorem dX11_takeOver_145 : decode cX11_takeOver 145 = .ok (.aload_n 0, 1) := by decide +kernel
theorem dX11_takeOver_146 : decode cX11_takeOver 146 = .ok (.getfield 76, 3) := by decide +kernel
theorem dX11_takeOver_149 : decode cX11_takeOver 149 = .ok (.iload_n 1, 1) := by decide +kernel
theorem dX11_takeOver_150 : decode cX11_takeOver 150 = .ok (.aload_n 0, 1) := by decide +kernel
theorem dX11_takeOver_151 : decode cX11_takeOver 151 = .ok (.getfield 44, 3) := by decide +kernel
theorem dX11_takeOver_154 : decode cX11_takeOver 154 = .ok (.iload_n 1, 1) := by decide +kernel
theorem dX11_takeOver_155 : decode cX11_takeOver 155 = .ok (.iaload, 1) := by decide +kernel
theorem dX11_takeOver_156 : decode cX11_takeOver 156 = .ok (.iastore, 1) := by decide +kernel
theorem dX11_takeOver_157 : decode cX11_takeOver 157 = .ok (.aload_n 0, 1) := by decide +kernel
theorem dX11_takeOver_158 : decode cX11_takeOver 158 = .ok (.getfield 79, 3) := by decide +kernel
theorem dX11_takeOver_161 : decode cX11_takeOver 161 = .ok (.iload_n 1, 1) := by decide +kernel
theorem dX11_takeOver_162 : decode cX11_takeOver 162 = .ok (.aload_n 0, 1) := by decide +kernel
theorem dX11_takeOver_163 : decode cX11_takeOver 163 = .ok (.getfield 47, 3) := by decide +kernel
theorem dX11_takeOver_166 : decode cX11_takeOver 166 = .ok (.iload_n 1, 1) := by decide +kernel
theorem dX11_takeOver_167 : decode cX11_takeOver 167 = .ok (.iaload, 1) := by decide +kernel
theorem dX11_takeOver_168 : decode cX11_takeOver 168 = .ok (.iastore, 1) := by decide +kernel
theorem dX11_takeOver_169 : decode cX11_takeOver 169 = .ok (.iinc 1 1, 3) := by decide +kernel
theorem dX11_takeOver_172 : decode cX11_takeOver 172 = .ok (.goto (-33), 3) := by decide +kernel
theorem dX11_takeOver_175 : decode cX11_takeOver 175 = .ok (.aload_n 0, 1) := by decide +kernel
theorem dX11_takeOver_176 : decode cX11_takeOver 176 = .ok (.iconst 0, 1) := by decide +kernel
theorem dX11_takeOver_177 : decode cX11_takeOver 177 = .ok (.putfield 302, 3) := by decide +kernel
theorem dX11_takeOver_180 : decode cX11_takeOver 180 = .ok (.aload_n 0, 1) := by decide +kernel
theorem dX11_takeOver_181 : decode cX11_takeOver 181 = .ok (.iconst 0, 1) := by decide +kernel
theorem dX11_takeOver_182 : decode cX11_takeOver 182 = .ok (.putfield 305, 3) := by decide +kernel
theorem dX11_takeOver_185 : decode cX11_takeOver 185 = .ok (.aload_n 0, 1) := by decide +kernel
theorem dX11_takeOver_186 : decode cX11_takeOver 186 = .ok (.iconst 0, 1) := by decide +kernel
theorem dX11_takeOver_187 : decode cX11_takeOver 187 = .ok (.putfield 308, 3) := by decide +kernel
theorem dX11_takeOver_190 : decode cX11_takeOver 190 = .ok (.return_, 1) := by decide +kernel
theorem dX11_fault_0 : decode cX11_fault 0 = .ok (.aload_n 0, 1) := by decide +kernel
theorem dX11_fault_1 : decode cX11_fault 1 = .ok (.iconst 0, 1) := by decide +kernel
theorem dX11_fault_2 : decode cX11_fault 2 = .ok (.putfield 142, 3) := by decide +kernel
theorem dX11_fault_5 : decode cX11_fault 5 = .ok (.aload_n 0, 1) := by decide +kernel
theorem dX11_fault_6 : decode cX11_fault 6 = .ok (.getfield 68, 3) := by decide +kernel
theorem dX11_fault_9 : decode cX11_fault 9 = .ok (.ireturn, 1) := by decide +kernel
theorem dX11_pack_0 : decode cX11_pack 0 = .ok (.aload_n 1, 1) := by decide +kernel
theorem dX11_pack_1 : decode cX11_pack 1 = .ok (.iload_n 2, 1) := by decide +kernel
theorem dX11_pack_2 : decode cX11_pack 2 = .ok (.aload_n 0, 1) := by decide +kernel
theorem dX11_pack_3 : decode cX11_pack 3 = .ok (.getfield 294, 3) := by decide +kernel
theorem dX11_pack_6 : decode cX11_pack 6 = .ok (.iastore, 1) := by decide +kernel
theorem dX11_pack_7 : decode cX11_pack 7 = .ok (.aload_n 1, 1) := by decide +kernel
theorem dX11_pack_8 : decode cX11_pack 8 = .ok (.iload_n 2, 1) := by decide +kernel
theorem dX11_pack_9 : decode cX11_pack 9 = .ok (.iconst 1, 1) := by decide +kernel
theorem dX11_pack_10 : decode cX11_pack 10 = .ok (.iadd, 1) := by decide +kernel
theorem dX11_pack_11 : decode cX11_pack 11 = .ok (.aload_n 0, 1) := by decide +kernel
theorem dX11_pack_12 : decode cX11_pack 12 = .ok (.getfield 296, 3) := by decide +kernel
theorem dX11_pack_15 : decode cX11_pack 15 = .ok (.iastore, 1) := by decide +kernel
theorem dX11_pack_16 : decode cX11_pack 16 = .ok (.aload_n 1, 1) := by decide +kernel
theorem dX11_pack_17 : decode cX11_pack 17 = .ok (.iload_n 2, 1) := by decide +kernel
theorem dX11_pack_18 : decode cX11_pack 18 = .ok (.iconst 2, 1) := by decide +kernel
theorem dX11_pack_19 : decode cX11_pack 19 = .ok (.iadd, 1) := by decide +kernel
theorem dX11_pack_20 : decode cX11_pack 20 = .ok (.aload_n 0, 1) := by decide +kernel
theorem dX11_pack_21 : decode cX11_pack 21 = .ok (.getfield 299, 3) := by decide +kernel
theorem dX11_pack_24 : decode cX11_pack 24 = .ok (.iastore, 1) := by decide +kernel
theorem dX11_pack_25 : decode cX11_pack 25 = .ok (.iconst 0, 1) := by decide +kernel
theorem dX11_pack_26 : decode cX11_pack 26 = .ok (.istore_n 3, 1) := by decide +kernel
theorem dX11_pack_27 : decode cX11_pack 27 = .ok (.iload_n 3, 1) := by decide +kernel
theorem dX11_pack_28 : decode cX11_pack 28 = .ok (.bipush 12, 2) := by decide +kernel
theorem dX11_pack_30 : decode cX11_pack 30 = .ok (.if_icmp .ge 38, 3) := by decide +kernel
theorem dX11_pack_33 : decode cX11_pack 33 = .ok (.aload_n 1, 1) := by decide +kernel
theorem dX11_pack_34 : decode cX11_pack 34 = .ok (.iload_n 2, 1) := by decide +kernel
theorem dX11_pack_35 : decode cX11_pack 35 = .ok (.iconst 3, 1) := by decide +kernel
theorem dX11_pack_36 : decode cX11_pack 36 = .ok (.iadd, 1) := by decide +kernel
theorem dX11_pack_37 : decode cX11_pack 37 = .ok (.iload_n 3, 1) := by decide +kernel
theorem dX11_pack_38 : decode cX11_pack 38 = .ok (.iadd, 1) := by decide +kernel
theorem dX11_pack_39 : decode cX11_pack 39 = .ok (.aload_n 0, 1) := by decide +kernel
theorem dX11_pack_40 : decode cX11_pack 40 = .ok (.getfield 72, 3) := by decide +kernel
theorem dX11_pack_43 : decode cX11_pack 43 = .ok (.iload_n 3, 1) := by decide +kernel
theorem dX11_pack_44 : decode cX11_pack 44 = .ok (.iaload, 1) := by decide +kernel
theorem dX11_pack_45 : decode cX11_pack 45 = .ok (.iastore, 1) := by decide +kernel
theorem dX11_pack_46 : decode cX11_pack 46 = .ok (.aload_n 1, 1) := by decide +kernel
theorem dX11_pack_47 : decode cX11_pack 47 = .ok (.iload_n 2, 1) := by decide +kernel
theorem dX11_pack_48 : decode cX11_pack 48 = .ok (.iconst 3, 1) := by decide +kernel
theorem dX11_pack_49 : decode cX11_pack 49 = .ok (.iadd, 1) := by decide +kernel
theorem dX11_pack_50 : decode cX11_pack 50 = .ok (.bipush 12, 2) := by decide +kernel
theorem dX11_pack_52 : decode cX11_pack 52 = .ok (.iadd, 1) := by decide +kernel
theorem dX11_pack_53 : decode cX11_pack 53 = .ok (.iload_n 3, 1) := by decide +kernel
theorem dX11_pack_54 : decode cX11_pack 54 = .ok (.iadd, 1) := by decide +kernel
theorem dX11_pack_55 : decode cX11_pack 55 = .ok (.aload_n 0, 1) := by decide +kernel
theorem dX11_pack_56 : decode cX11_pack 56 = .ok (.getfield 74, 3) := by decide +kernel
theorem dX11_pack_59 : decode cX11_pack 59 = .ok (.iload_n 3, 1) := by decide +kernel
theorem dX11_pack_60 : decode cX11_pack 60 = .ok (.iaload, 1) := by decide +kernel
theorem dX11_pack_61 : decode cX11_pack 61 = .ok (.iastore, 1) := by decide +kernel
theorem dX11_pack_62 : decode cX11_pack 62 = .ok (.iinc 3 1, 3) := by decide +kernel
theorem dX11_pack_65 : decode cX11_pack 65 = .ok (.goto (-38), 3) := by decide +kernel
theorem dX11_pack_68 : decode cX11_pack 68 = .ok (.iconst 0, 1) := by decide +kernel
theorem dX11_pack_69 : decode cX11_pack 69 = .ok (.istore_n 3, 1) := by decide +kernel
theorem dX11_pack_70 : decode cX11_pack 70 = .ok (.iload_n 3, 1) := by decide +kernel
theorem dX11_pack_71 : decode cX11_pack 71 = .ok (.bipush 8, 2) := by decide +kernel
theorem dX11_pack_73 : decode cX11_pack 73 = .ok (.if_icmp .ge 44, 3) := by decide +kernel
theorem dX11_pack_76 : decode cX11_pack 76 = .ok (.aload_n 1, 1) := by decide +kernel
theorem dX11_pack_77 : decode cX11_pack 77 = .ok (.iload_n 2, 1) := by decide +kernel
theorem dX11_pack_78 : decode cX11_pack 78 = .ok (.iconst 3, 1) := by decide +kernel
theorem dX11_pack_79 : decode cX11_pack 79 = .ok (.iadd, 1) := by decide +kernel
theorem dX11_pack_80 : decode cX11_pack 80 = .ok (.bipush 24, 2) := by decide +kernel
theorem dX11_pack_82 : decode cX11_pack 82 = .ok (.iadd, 1) := by decide +kernel
theorem dX11_pack_83 : decode cX11_pack 83 = .ok (.iload_n 3, 1) := by decide +kernel
theorem dX11_pack_84 : decode cX11_pack 84 = .ok (.iadd, 1) := by decide +kernel
theorem dX11_pack_85 : decode cX11_pack 85 = .ok (.aload_n 0, 1) := by decide +kernel
theorem dX11_pack_86 : decode cX11_pack 86 = .ok (.getfield 76, 3) := by decide +kernel
theorem dX11_pack_89 : decode cX11_pack 89 = .ok (.iload_n 3, 1) := by decide +kernel
theorem dX11_pack_90 : decode cX11_pack 90 = .ok (.iaload, 1) := by decide +kernel
theorem dX11_pack_91 : decode cX11_pack 91 = .ok (.iastore, 1) := by decide +kernel
theorem dX11_pack_92 : decode cX11_pack 92 = .ok (.aload_n 1, 1) := by decide +kernel
theorem dX11_pack_93 : decode cX11_pack 93 = .ok (.iload_n 2, 1) := by decide +kernel
theorem dX11_pack_94 : decode cX11_pack 94 = .ok (.iconst 3, 1) := by decide +kernel
theorem dX11_pack_95 : decode cX11_pack 95 = .ok (.iadd, 1) := by decide +kernel
theorem dX11_pack_96 : decode cX11_pack 96 = .ok (.bipush 24, 2) := by decide +kernel
theorem dX11_pack_98 : decode cX11_pack 98 = .ok (.iadd, 1) := by decide +kernel
theorem dX11_pack_99 : decode cX11_pack 99 = .ok (.bipush 8, 2) := by decide +kernel
theorem dX11_pack_101 : decode cX11_pack 101 = .ok (.iadd, 1) := by decide +kernel
theorem dX11_pack_102 : decode cX11_pack 102 = .ok (.iload_n 3, 1) := by decide +kernel
theorem dX11_pack_103 : decode cX11_pack 103 = .ok (.iadd, 1) := by decide +kernel
theorem dX11_pack_104 : decode cX11_pack 104 = .ok (.aload_n 0, 1) := by decide +kernel
theorem dX11_pack_105 : decode cX11_pack 105 = .ok (.getfield 79, 3) := by decide +kernel
theorem dX11_pack_108 : decode cX11_pack 108 = .ok (.iload_n 3, 1) := by decide +kernel
theorem dX11_pack_109 : decode cX11_pack 109 = .ok (.iaload, 1) := by decide +kernel
theorem dX11_pack_110 : decode cX11_pack 110 = .ok (.iastore, 1) := by decide +kernel
theorem dX11_pack_111 : decode cX11_pack 111 = .ok (.iinc 3 1, 3) := by decide +kernel
theorem dX11_pack_114 : decode cX11_pack 114 = .ok (.goto (-44), 3) := by decide +kernel
theorem dX11_pack_117 : decode cX11_pack 117 = .ok (.return_, 1) := by decide +kernel
theorem dX11_unpack_0 : decode cX11_unpack 0 = .ok (.aload_n 0, 1) := by decide +kernel
theorem dX11_unpack_1 : decode cX11_unpack 1 = .ok (.aload_n 1, 1) := by decide +kernel
theorem dX11_unpack_2 : decode cX11_unpack 2 = .ok (.iload_n 2, 1) := by decide +kernel
theorem dX11_unpack_3 : decode cX11_unpack 3 = .ok (.iaload, 1) := by decide +kernel
theorem dX11_unpack_4 : decode cX11_unpack 4 = .ok (.putfield 294, 3) := by decide +kernel
theorem dX11_unpack_7 : decode cX11_unpack 7 = .ok (.aload_n 0, 1) := by decide +kernel
theorem dX11_unpack_8 : decode cX11_unpack 8 = .ok (.aload_n 1, 1) := by decide +kernel
theorem dX11_unpack_9 : decode cX11_unpack 9 = .ok (.iload_n 2, 1) := by decide +kernel
theorem dX11_unpack_10 : decode cX11_unpack 10 = .ok (.iconst 1, 1) := by decide +kernel
theorem dX11_unpack_11 : decode cX11_unpack 11 = .ok (.iadd, 1) := by decide +kernel
theorem dX11_unpack_12 : decode cX11_unpack 12 = .ok (.iaload, 1) := by decide +kernel
theorem dX11_unpack_13 : decode cX11_unpack 13 = .ok (.putfield 296, 3) := by decide +kernel
theorem dX11_unpack_16 : decode cX11_unpack 16 = .ok (.aload_n 0, 1) := by decide +kernel
theorem dX11_unpack_17 : decode cX11_unpack 17 = .ok (.aload_n 1, 1) := by decide +kernel
theorem dX11_unpack_18 : decode cX11_unpack 18 = .ok (.iload_n 2, 1) := by decide +kernel
theorem dX11_unpack_19 : decode cX11_unpack 19 = .ok (.iconst 2, 1) := by decide +kernel
theorem dX11_unpack_20 : decode cX11_unpack 20 = .ok (.iadd, 1) := by decide +kernel
theorem dX11_unpack_21 : decode cX11_unpack 21 = .ok (.iaload, 1) := by decide +kernel
theorem dX11_unpack_22 : decode cX11_unpack 22 = .ok (.putfield 299, 3) := by decide +kernel
theorem dX11_unpack_25 : decode cX11_unpack 25 = .ok (.iconst 0, 1) := by decide +kernel
theorem dX11_unpack_26 : decode cX11_unpack 26 = .ok (.istore_n 3, 1) := by decide +kernel
theorem dX11_unpack_27 : decode cX11_unpack 27 = .ok (.iload_n 3, 1) := by decide +kernel
theorem dX11_unpack_28 : decode cX11_unpack 28 = .ok (.bipush 12, 2) := by decide +kernel
theorem dX11_unpack_30 : decode cX11_unpack 30 = .ok (.if_icmp .ge 38, 3) := by decide +kernel
theorem dX11_unpack_33 : decode cX11_unpack 33 = .ok (.aload_n 0, 1) := by decide +kernel
theorem dX11_unpack_34 : decode cX11_unpack 34 = .ok (.getfield 72, 3) := by decide +kernel
theorem dX11_unpack_37 : decode cX11_unpack 37 = .ok (.iload_n 3, 1) := by decide +kernel
theorem dX11_unpack_38 : decode cX11_unpack 38 = .ok (.aload_n 1, 1) := by decide +kernel
theorem dX11_unpack_39 : decode cX11_unpack 39 = .ok (.iload_n 2, 1) := by decide +kernel
theorem dX11_unpack_40 : decode cX11_unpack 40 = .ok (.iconst 3, 1) := by decide +kernel
theorem dX11_unpack_41 : decode cX11_unpack 41 = .ok (.iadd, 1) := by decide +kernel
theorem dX11_unpack_42 : decode cX11_unpack 42 = .ok (.iload_n 3, 1) := by decide +kernel
theorem dX11_unpack_43 : decode cX11_unpack 43 = .ok (.iadd, 1) := by decide +kernel
theorem dX11_unpack_44 : decode cX11_unpack 44 = .ok (.iaload, 1) := by decide +kernel
theorem dX11_unpack_45 : decode cX11_unpack 45 = .ok (.iastore, 1) := by decide +kernel
theorem dX11_unpack_46 : decode cX11_unpack 46 = .ok (.aload_n 0, 1) := by decide +kernel
theorem dX11_unpack_47 : decode cX11_unpack 47 = .ok (.getfield 74, 3) := by decide +kernel
theorem dX11_unpack_50 : decode cX11_unpack 50 = .ok (.iload_n 3, 1) := by decide +kernel
theorem dX11_unpack_51 : decode cX11_unpack 51 = .ok (.aload_n 1, 1) := by decide +kernel
theorem dX11_unpack_52 : decode cX11_unpack 52 = .ok (.iload_n 2, 1) := by decide +kernel
theorem dX11_unpack_53 : decode cX11_unpack 53 = .ok (.iconst 3, 1) := by decide +kernel
theorem dX11_unpack_54 : decode cX11_unpack 54 = .ok (.iadd, 1) := by decide +kernel
theorem dX11_unpack_55 : decode cX11_unpack 55 = .ok (.bipush 12, 2) := by decide +kernel
theorem dX11_unpack_57 : decode cX11_unpack 57 = .ok (.iadd, 1) := by decide +kernel
theorem dX11_unpack_58 : decode cX11_unpack 58 = .ok (.iload_n 3, 1) := by decide +kernel
theorem dX11_unpack_59 : decode cX11_unpack 59 = .ok (.iadd, 1) := by decide +kernel
theorem dX11_unpack_60 : decode cX11_unpack 60 = .ok (.iaload, 1) := by decide +kernel
theorem dX11_unpack_61 : decode cX11_unpack 61 = .ok (.iastore, 1) := by decide +kernel
theorem dX11_unpack_62 : decode cX11_unpack 62 = .ok (.iinc 3 1, 3) := by decide +kernel
theorem dX11_unpack_65 : decode cX11_unpack 65 = .ok (.goto (-38), 3) := by decide +kernel
theorem dX11_unpack_68 : decode cX11_unpack 68 = .ok (.iconst 0, 1) := by decide +kernel
theorem dX11_unpack_69 : decode cX11_unpack 69 = .ok (.istore_n 3, 1) := by decide +kernel
theorem dX11_unpack_70 : decode cX11_unpack 70 = .ok (.iload_n 3, 1) := by decide +kernel
theorem dX11_unpack_71 : decode cX11_unpack 71 = .ok (.bipush 8, 2) := by decide +kernel
theorem dX11_unpack_73 : decode cX11_unpack 73 = .ok (.if_icmp .ge 44, 3) := by decide +kernel
theorem dX11_unpack_76 : decode cX11_unpack 76 = .ok (.aload_n 0, 1) := by decide +kernel
theorem dX11_unpack_77 : decode cX11_unpack 77 = .ok (.getfield 76, 3) := by decide +kernel
theorem dX11_unpack_80 : decode cX11_unpack 80 = .ok (.iload_n 3, 1) := by decide +kernel
theorem dX11_unpack_81 : decode cX11_unpack 81 = .ok (.aload_n 1, 1) := by decide +kernel
theorem dX11_unpack_82 : decode cX11_unpack 82 = .ok (.iload_n 2, 1) := by decide +kernel
theorem dX11_unpack_83 : decode cX11_unpack 83 = .ok (.iconst 3, 1) := by decide +kernel
theorem dX11_unpack_84 : decode cX11_unpack 84 = .ok (.iadd, 1) := by decide +kernel
theorem dX11_unpack_85 : decode cX11_unpack 85 = .ok (.bipush 24, 2) := by decide +kernel
theorem dX11_unpack_87 : decode cX11_unpack 87 = .ok (.iadd, 1) := by decide +kernel
theorem dX11_unpack_88 : decode cX11_unpack 88 = .ok (.iload_n 3, 1) := by decide +kernel
theorem dX11_unpack_89 : decode cX11_unpack 89 = .ok (.iadd, 1) := by decide +kernel
theorem dX11_unpack_90 : decode cX11_unpack 90 = .ok (.iaload, 1) := by decide +kernel
theorem dX11_unpack_91 : decode cX11_unpack 91 = .ok (.iastore, 1) := by decide +kernel
theorem dX11_unpack_92 : decode cX11_unpack 92 = .ok (.aload_n 0, 1) := by decide +kernel
theorem dX11_unpack_93 : decode cX11_unpack 93 = .ok (.getfield 79, 3) := by decide +kernel
theorem dX11_unpack_96 : decode cX11_unpack 96 = .ok (.iload_n 3, 1) := by decide +kernel
theorem dX11_unpack_97 : decode cX11_unpack 97 = .ok (.aload_n 1, 1) := by decide +kernel
theorem dX11_unpack_98 : decode cX11_unpack 98 = .ok (.iload_n 2, 1) := by decide +kernel
theorem dX11_unpack_99 : decode cX11_unpack 99 = .ok (.iconst 3, 1) := by decide +kernel
theorem dX11_unpack_100 : decode cX11_unpack 100 = .ok (.iadd, 1) := by decide +kernel
theorem dX11_unpack_101 : decode cX11_unpack 101 = .ok (.bipush 24, 2) := by decide +kernel
theorem dX11_unpack_103 : decode cX11_unpack 103 = .ok (.iadd, 1) := by decide +kernel
theorem dX11_unpack_104 : decode cX11_unpack 104 = .ok (.bipush 8, 2) := by decide +kernel
theorem dX11_unpack_106 : decode cX11_unpack 106 = .ok (.iadd, 1) := by decide +kernel
theorem dX11_unpack_107 : decode cX11_unpack 107 = .ok (.iload_n 3, 1) := by decide +kernel
theorem dX11_unpack_108 : decode cX11_unpack 108 = .ok (.iadd, 1) := by decide +kernel
theorem dX11_unpack_109 : decode cX11_unpack 109 = .ok (.iaload, 1) := by decide +kernel
theorem dX11_unpack_110 : decode cX11_unpack 110 = .ok (.iastore, 1) := by decide +kernel
theorem dX11_unpack_111 : decode cX11_unpack 111 = .ok (.iinc 3 1, 3) := by decide +kernel
theorem dX11_unpack_114 : decode cX11_unpack 114 = .ok (.goto (-44), 3) := by decide +kernel
theorem dX11_unpack_117 : decode cX11_unpack 117 = .ok (.return_, 1) := by decide +kernel
theorem dX11_reckon_0 : decode cX11_reckon 0 = .ok (.iload_n 0, 1) := by decide +kernel
theorem dX11_reckon_1 : decode cX11_reckon 1 = .ok (.tableswitch 103 (-26) (-20) #[89, 78, 67, 55, 51, 47, 43], 43) := by decide +kernel
theorem dX11_reckon_44 : decode cX11_reckon 44 = .ok (.iload_n 1, 1) := by decide +kernel
theorem dX11_reckon_45 : decode cX11_reckon 45 = .ok (.iload_n 2, 1) := by decide +kernel
theorem dX11_reckon_46 : decode cX11_reckon 46 = .ok (.iadd, 1) := by decide +kernel
theorem dX11_reckon_47 : decode cX11_reckon 47 = .ok (.ireturn, 1) := by decide +kernel
theorem dX11_reckon_48 : decode cX11_reckon 48 = .ok (.iload_n 1, 1) := by decide +kernel
theorem dX11_reckon_49 : decode cX11_reckon 49 = .ok (.iload_n 2, 1) := by decide +kernel
theorem dX11_reckon_50 : decode cX11_reckon 50 = .ok (.isub, 1) := by decide +kernel
theorem dX11_reckon_51 : decode cX11_reckon 51 = .ok (.ireturn, 1) := by decide +kernel
theorem dX11_reckon_52 : decode cX11_reckon 52 = .ok (.iload_n 1, 1) := by decide +kernel
theorem dX11_reckon_53 : decode cX11_reckon 53 = .ok (.iload_n 2, 1) := by decide +kernel
theorem dX11_reckon_54 : decode cX11_reckon 54 = .ok (.imul, 1) := by decide +kernel
theorem dX11_reckon_55 : decode cX11_reckon 55 = .ok (.ireturn, 1) := by decide +kernel
theorem dX11_reckon_56 : decode cX11_reckon 56 = .ok (.iload_n 2, 1) := by decide +kernel
theorem dX11_reckon_57 : decode cX11_reckon 57 = .ok (.ifCond .ne 7, 3) := by decide +kernel
theorem dX11_reckon_60 : decode cX11_reckon 60 = .ok (.iconst 0, 1) := by decide +kernel
theorem dX11_reckon_61 : decode cX11_reckon 61 = .ok (.goto 6, 3) := by decide +kernel
theorem dX11_reckon_64 : decode cX11_reckon 64 = .ok (.iload_n 1, 1) := by decide +kernel
theorem dX11_reckon_65 : decode cX11_reckon 65 = .ok (.iload_n 2, 1) := by decide +kernel
theorem dX11_reckon_66 : decode cX11_reckon 66 = .ok (.idiv, 1) := by decide +kernel
theorem dX11_reckon_67 : decode cX11_reckon 67 = .ok (.ireturn, 1) := by decide +kernel
theorem dX11_reckon_68 : decode cX11_reckon 68 = .ok (.iload_n 1, 1) := by decide +kernel
theorem dX11_reckon_69 : decode cX11_reckon 69 = .ok (.iload_n 2, 1) := by decide +kernel
theorem dX11_reckon_70 : decode cX11_reckon 70 = .ok (.if_icmp .ge 7, 3) := by decide +kernel
theorem dX11_reckon_73 : decode cX11_reckon 73 = .ok (.iconst 1, 1) := by decide +kernel
theorem dX11_reckon_74 : decode cX11_reckon 74 = .ok (.goto 4, 3) := by decide +kernel
theorem dX11_reckon_77 : decode cX11_reckon 77 = .ok (.iconst 0, 1) := by decide +kernel
theorem dX11_reckon_78 : decode cX11_reckon 78 = .ok (.ireturn, 1) := by decide +kernel
theorem dX11_reckon_79 : decode cX11_reckon 79 = .ok (.iload_n 1, 1) := by decide +kernel
theorem dX11_reckon_80 : decode cX11_reckon 80 = .ok (.iload_n 2, 1) := by decide +kernel
theorem dX11_reckon_81 : decode cX11_reckon 81 = .ok (.if_icmp .ne 7, 3) := by decide +kernel
theorem dX11_reckon_84 : decode cX11_reckon 84 = .ok (.iconst 1, 1) := by decide +kernel
theorem dX11_reckon_85 : decode cX11_reckon 85 = .ok (.goto 4, 3) := by decide +kernel
theorem dX11_reckon_88 : decode cX11_reckon 88 = .ok (.iconst 0, 1) := by decide +kernel
theorem dX11_reckon_89 : decode cX11_reckon 89 = .ok (.ireturn, 1) := by decide +kernel
theorem dX11_reckon_90 : decode cX11_reckon 90 = .ok (.iload_n 1, 1) := by decide +kernel
theorem dX11_reckon_91 : decode cX11_reckon 91 = .ok (.ifCond .eq 11, 3) := by decide +kernel
theorem dX11_reckon_94 : decode cX11_reckon 94 = .ok (.iload_n 2, 1) := by decide +kernel
theorem dX11_reckon_95 : decode cX11_reckon 95 = .ok (.ifCond .eq 7, 3) := by decide +kernel
theorem dX11_reckon_98 : decode cX11_reckon 98 = .ok (.iconst 1, 1) := by decide +kernel
theorem dX11_reckon_99 : decode cX11_reckon 99 = .ok (.goto 4, 3) := by decide +kernel
theorem dX11_reckon_102 : decode cX11_reckon 102 = .ok (.iconst 0, 1) := by decide +kernel
theorem dX11_reckon_103 : decode cX11_reckon 103 = .ok (.ireturn, 1) := by decide +kernel
theorem dX11_reckon_104 : decode cX11_reckon 104 = .ok (.iload_n 1, 1) := by decide +kernel
theorem dX11_reckon_105 : decode cX11_reckon 105 = .ok (.ifCond .ne 7, 3) := by decide +kernel
theorem dX11_reckon_108 : decode cX11_reckon 108 = .ok (.iload_n 2, 1) := by decide +kernel
theorem dX11_reckon_109 : decode cX11_reckon 109 = .ok (.ifCond .eq 7, 3) := by decide +kernel
theorem dX11_reckon_112 : decode cX11_reckon 112 = .ok (.iconst 1, 1) := by decide +kernel
theorem dX11_reckon_113 : decode cX11_reckon 113 = .ok (.goto 4, 3) := by decide +kernel
theorem dX11_reckon_116 : decode cX11_reckon 116 = .ok (.iconst 0, 1) := by decide +kernel
theorem dX11_reckon_117 : decode cX11_reckon 117 = .ok (.ireturn, 1) := by decide +kernel
theorem dX11_valueNow_0 : decode cX11_valueNow 0 = .ok (.iconst 0, 1) := by decide +kernel
theorem dX11_valueNow_1 : decode cX11_valueNow 1 = .ok (.istore_n 1, 1) := by decide +kernel
theorem dX11_valueNow_2 : decode cX11_valueNow 2 = .ok (.iconst 0, 1) := by decide +kernel
theorem dX11_valueNow_3 : decode cX11_valueNow 3 = .ok (.istore_n 2, 1) := by decide +kernel
theorem dX11_valueNow_4 : decode cX11_valueNow 4 = .ok (.iload_n 2, 1) := by decide +kernel
theorem dX11_valueNow_5 : decode cX11_valueNow 5 = .ok (.aload_n 0, 1) := by decide +kernel
theorem dX11_valueNow_6 : decode cX11_valueNow 6 = .ok (.getfield 38, 3) := by decide +kernel
theorem dX11_valueNow_9 : decode cX11_valueNow 9 = .ok (.iconst 3, 1) := by decide +kernel
theorem dX11_valueNow_10 : decode cX11_valueNow 10 = .ok (.iaload, 1) := by decide +kernel
theorem dX11_valueNow_11 : decode cX11_valueNow 11 = .ok (.if_icmp .ge 112, 3) := by decide +kernel
theorem dX11_valueNow_14 : decode cX11_valueNow 14 = .ok (.aload_n 0, 1) := by decide +kernel
theorem dX11_valueNow_15 : decode cX11_valueNow 15 = .ok (.getfield 59, 3) := by decide +kernel
theorem dX11_valueNow_18 : decode cX11_valueNow 18 = .ok (.iload_n 2, 1) := by decide +kernel
theorem dX11_valueNow_19 : decode cX11_valueNow 19 = .ok (.iaload, 1) := by decide +kernel
theorem dX11_valueNow_20 : decode cX11_valueNow 20 = .ok (.istore_n 3, 1) := by decide +kernel
theorem dX11_valueNow_21 : decode cX11_valueNow 21 = .ok (.iload_n 3, 1) := by decide +kernel
theorem dX11_valueNow_22 : decode cX11_valueNow 22 = .ok (.bipush (-20), 2) := by decide +kernel
theorem dX11_valueNow_24 : decode cX11_valueNow 24 = .ok (.if_icmp .le 31, 3) := by decide +kernel
theorem dX11_valueNow_27 : decode cX11_valueNow 27 = .ok (.aload_n 0, 1) := by decide +kernel
theorem dX11_valueNow_28 : decode cX11_valueNow 28 = .ok (.getfield 88, 3) := by decide +kernel
theorem dX11_valueNow_31 : decode cX11_valueNow 31 = .ok (.iload_n 1, 1) := by decide +kernel
theorem dX11_valueNow_32 : decode cX11_valueNow 32 = .ok (.iload_n 3, 1) := by decide +kernel
theorem dX11_valueNow_33 : decode cX11_valueNow 33 = .ok (.ifCond .lt 7, 3) := by decide +kernel
theorem dX11_valueNow_36 : decode cX11_valueNow 36 = .ok (.iload_n 3, 1) := by decide +kernel
theorem dX11_valueNow_37 : decode cX11_valueNow 37 = .ok (.goto 11, 3) := by decide +kernel
theorem dX11_valueNow_40 : decode cX11_valueNow 40 = .ok (.aload_n 0, 1) := by decide +kernel
theorem dX11_valueNow_41 : decode cX11_valueNow 41 = .ok (.getfield 85, 3) := by decide +kernel
theorem dX11_valueNow_44 : decode cX11_valueNow 44 = .ok (.iconst (-1), 1) := by decide +kernel
theorem dX11_valueNow_45 : decode cX11_valueNow 45 = .ok (.iload_n 3, 1) := by decide +kernel
theorem dX11_valueNow_46 : decode cX11_valueNow 46 = .ok (.isub, 1) := by decide +kernel
theorem dX11_valueNow_47 : decode cX11_valueNow 47 = .ok (.iaload, 1) := by decide +kernel
theorem dX11_valueNow_48 : decode cX11_valueNow 48 = .ok (.iastore, 1) := by decide +kernel
theorem dX11_valueNow_49 : decode cX11_valueNow 49 = .ok (.iinc 1 1, 3) := by decide +kernel
theorem dX11_valueNow_52 : decode cX11_valueNow 52 = .ok (.goto 65, 3) := by decide +kernel
theorem dX11_valueNow_55 : decode cX11_valueNow 55 = .ok (.iload_n 3, 1) := by decide +kernel
theorem dX11_valueNow_56 : decode cX11_valueNow 56 = .ok (.bipush (-28), 2) := by decide +kernel
theorem dX11_valueNow_58 : decode cX11_valueNow 58 = .ok (.if_icmp .ne 30, 3) := by decide +kernel
theorem dX11_valueNow_61 : decode cX11_valueNow 61 = .ok (.aload_n 0, 1) := by decide +kernel
theorem dX11_valueNow_62 : decode cX11_valueNow 62 = .ok (.getfield 88, 3) := by decide +kernel
theorem dX11_valueNow_65 : decode cX11_valueNow 65 = .ok (.iload_n 1, 1) := by decide +kernel
theorem dX11_valueNow_66 : decode cX11_valueNow 66 = .ok (.iconst 1, 1) := by decide +kernel
theorem dX11_valueNow_67 : decode cX11_valueNow 67 = .ok (.isub, 1) := by decide +kernel
theorem dX11_valueNow_68 : decode cX11_valueNow 68 = .ok (.aload_n 0, 1) := by decide +kernel
theorem dX11_valueNow_69 : decode cX11_valueNow 69 = .ok (.getfield 88, 3) := by decide +kernel
theorem dX11_valueNow_72 : decode cX11_valueNow 72 = .ok (.iload_n 1, 1) := by decide +kernel
theorem dX11_valueNow_73 : decode cX11_valueNow 73 = .ok (.iconst 1, 1) := by decide +kernel
theorem dX11_valueNow_74 : decode cX11_valueNow 74 = .ok (.isub, 1) := by decide +kernel
theorem dX11_valueNow_75 : decode cX11_valueNow 75 = .ok (.iaload, 1) := by decide +kernel
theorem dX11_valueNow_76 : decode cX11_valueNow 76 = .ok (.ifCond .eq 7, 3) := by decide +kernel
theorem dX11_valueNow_79 : decode cX11_valueNow 79 = .ok (.iconst 0, 1) := by decide +kernel
theorem dX11_valueNow_80 : decode cX11_valueNow 80 = .ok (.goto 4, 3) := by decide +kernel
theorem dX11_valueNow_83 : decode cX11_valueNow 83 = .ok (.iconst 1, 1) := by decide +kernel
theorem dX11_valueNow_84 : decode cX11_valueNow 84 = .ok (.iastore, 1) := by decide +kernel
theorem dX11_valueNow_85 : decode cX11_valueNow 85 = .ok (.goto 32, 3) := by decide +kernel
theorem dX11_valueNow_88 : decode cX11_valueNow 88 = .ok (.iinc 1 (-1), 3) := by decide +kernel
theorem dX11_valueNow_91 : decode cX11_valueNow 91 = .ok (.aload_n 0, 1) := by decide +kernel
theorem dX11_valueNow_92 : decode cX11_valueNow 92 = .ok (.getfield 88, 3) := by decide +kernel
theorem dX11_valueNow_95 : decode cX11_valueNow 95 = .ok (.iload_n 1, 1) := by decide +kernel
theorem dX11_valueNow_96 : decode cX11_valueNow 96 = .ok (.iconst 1, 1) := by decide +kernel
theorem dX11_valueNow_97 : decode cX11_valueNow 97 = .ok (.isub, 1) := by decide +kernel
theorem dX11_valueNow_98 : decode cX11_valueNow 98 = .ok (.iload_n 3, 1) := by decide +kernel
theorem dX11_valueNow_99 : decode cX11_valueNow 99 = .ok (.aload_n 0, 1) := by decide +kernel
theorem dX11_valueNow_100 : decode cX11_valueNow 100 = .ok (.getfield 88, 3) := by decide +kernel
theorem dX11_valueNow_103 : decode cX11_valueNow 103 = .ok (.iload_n 1, 1) := by decide +kernel
theorem dX11_valueNow_104 : decode cX11_valueNow 104 = .ok (.iconst 1, 1) := by decide +kernel
theorem dX11_valueNow_105 : decode cX11_valueNow 105 = .ok (.isub, 1) := by decide +kernel
theorem dX11_valueNow_106 : decode cX11_valueNow 106 = .ok (.iaload, 1) := by decide +kernel
theorem dX11_valueNow_107 : decode cX11_valueNow 107 = .ok (.aload_n 0, 1) := by decide +kernel
theorem dX11_valueNow_108 : decode cX11_valueNow 108 = .ok (.getfield 88, 3) := by decide +kernel
theorem dX11_valueNow_111 : decode cX11_valueNow 111 = .ok (.iload_n 1, 1) := by decide +kernel
theorem dX11_valueNow_112 : decode cX11_valueNow 112 = .ok (.iaload, 1) := by decide +kernel
theorem dX11_valueNow_113 : decode cX11_valueNow 113 = .ok (.invokestatic 312, 3) := by decide +kernel
theorem dX11_valueNow_116 : decode cX11_valueNow 116 = .ok (.iastore, 1) := by decide +kernel
theorem dX11_valueNow_117 : decode cX11_valueNow 117 = .ok (.iinc 2 1, 3) := by decide +kernel
theorem dX11_valueNow_120 : decode cX11_valueNow 120 = .ok (.goto (-116), 3) := by decide +kernel
theorem dX11_valueNow_123 : decode cX11_valueNow 123 = .ok (.aload_n 0, 1) := by decide +kernel
theorem dX11_valueNow_124 : decode cX11_valueNow 124 = .ok (.getfield 88, 3) := by decide +kernel
theorem dX11_valueNow_127 : decode cX11_valueNow 127 = .ok (.iconst 0, 1) := by decide +kernel
theorem dX11_valueNow_128 : decode cX11_valueNow 128 = .ok (.iaload, 1) := by decide +kernel
theorem dX11_valueNow_129 : decode cX11_valueNow 129 = .ok (.ireturn, 1) := by decide +kernel
theorem dX11_isAwake_0 : decode cX11_isAwake 0 = .ok (.aload_n 0, 1) := by decide +kernel
theorem dX11_isAwake_1 : decode cX11_isAwake 1 = .ok (.getfield 76, 3) := by decide +kernel
theorem dX11_isAwake_4 : decode cX11_isAwake 4 = .ok (.iload_n 1, 1) := by decide +kernel
theorem dX11_isAwake_5 : decode cX11_isAwake 5 = .ok (.iaload, 1) := by decide +kernel
theorem dX11_isAwake_6 : decode cX11_isAwake 6 = .ok (.aload_n 0, 1) := by decide +kernel
theorem dX11_isAwake_7 : decode cX11_isAwake 7 = .ok (.getfield 79, 3) := by decide +kernel
theorem dX11_isAwake_10 : decode cX11_isAwake 10 = .ok (.iload_n 1, 1) := by decide +kernel
theorem dX11_isAwake_11 : decode cX11_isAwake 11 = .ok (.iaload, 1) := by decide +kernel
theorem dX11_isAwake_12 : decode cX11_isAwake 12 = .ok (.if_icmp .ne 5, 3) := by decide +kernel
theorem dX11_isAwake_15 : decode cX11_isAwake 15 = .ok (.iconst 1, 1) := by decide +kernel
theorem dX11_isAwake_16 : decode cX11_isAwake 16 = .ok (.ireturn, 1) := by decide +kernel
theorem dX11_isAwake_17 : decode cX11_isAwake 17 = .ok (.aload_n 0, 1) := by decide +kernel
theorem dX11_isAwake_18 : decode cX11_isAwake 18 = .ok (.getfield 76, 3) := by decide +kernel
theorem dX11_isAwake_21 : decode cX11_isAwake 21 = .ok (.iload_n 1, 1) := by decide +kernel
theorem dX11_isAwake_22 : decode cX11_isAwake 22 = .ok (.iaload, 1) := by decide +kernel
theorem dX11_isAwake_23 : decode cX11_isAwake 23 = .ok (.aload_n 0, 1) := by decide +kernel
theorem dX11_isAwake_24 : decode cX11_isAwake 24 = .ok (.getfield 79, 3) := by decide +kernel
theorem dX11_isAwake_27 : decode cX11_isAwake 27 = .ok (.iload_n 1, 1) := by decide +kernel
theorem dX11_isAwake_28 : decode cX11_isAwake 28 = .ok (.iaload, 1) := by decide +kernel
theorem dX11_isAwake_29 : decode cX11_isAwake 29 = .ok (.if_icmp .ge 31, 3) := by decide +kernel
theorem dX11_isAwake_32 : decode cX11_isAwake 32 = .ok (.iload_n 2, 1) := by decide +kernel
theorem dX11_isAwake_33 : decode cX11_isAwake 33 = .ok (.aload_n 0, 1) := by decide +kernel
theorem dX11_isAwake_34 : decode cX11_isAwake 34 = .ok (.getfield 76, 3) := by decide +kernel
theorem dX11_isAwake_37 : decode cX11_isAwake 37 = .ok (.iload_n 1, 1) := by decide +kernel
theorem dX11_isAwake_38 : decode cX11_isAwake 38 = .ok (.iaload, 1) := by decide +kernel
theorem dX11_isAwake_39 : decode cX11_isAwake 39 = .ok (.if_icmp .lt 17, 3) := by decide +kernel
theorem dX11_isAwake_42 : decode cX11_isAwake 42 = .ok (.iload_n 2, 1) := by decide +kernel
theorem dX11_isAwake_43 : decode cX11_isAwake 43 = .ok (.aload_n 0, 1) := by decide +kernel
theorem dX11_isAwake_44 : decode cX11_isAwake 44 = .ok (.getfield 79, 3) := by decide +kernel
theorem dX11_isAwake_47 : decode cX11_isAwake 47 = .ok (.iload_n 1, 1) := by decide +kernel
theorem dX11_isAwake_48 : decode cX11_isAwake 48 = .ok (.iaload, 1) := by decide +kernel
theorem dX11_isAwake_49 : decode cX11_isAwake 49 = .ok (.if_icmp .ge 7, 3) := by decide +kernel
theorem dX11_isAwake_52 : decode cX11_isAwake 52 = .ok (.iconst 1, 1) := by decide +kernel
theorem dX11_isAwake_53 : decode cX11_isAwake 53 = .ok (.goto 32, 3) := by decide +kernel
theorem dX11_isAwake_56 : decode cX11_isAwake 56 = .ok (.iconst 0, 1) := by decide +kernel
theorem dX11_isAwake_57 : decode cX11_isAwake 57 = .ok (.goto 28, 3) := by decide +kernel
theorem dX11_isAwake_60 : decode cX11_isAwake 60 = .ok (.iload_n 2, 1) := by decide +kernel
theorem dX11_isAwake_61 : decode cX11_isAwake 61 = .ok (.aload_n 0, 1) := by decide +kernel
theorem dX11_isAwake_62 : decode cX11_isAwake 62 = .ok (.getfield 76, 3) := by decide +kernel
theorem dX11_isAwake_65 : decode cX11_isAwake 65 = .ok (.iload_n 1, 1) := by decide +kernel
theorem dX11_isAwake_66 : decode cX11_isAwake 66 = .ok (.iaload, 1) := by decide +kernel
theorem dX11_isAwake_67 : decode cX11_isAwake 67 = .ok (.if_icmp .ge 13, 3) := by decide +kernel
theorem dX11_isAwake_70 : decode cX11_isAwake 70 = .ok (.iload_n 2, 1) := by decide +kernel
theorem dX11_isAwake_71 : decode cX11_isAwake 71 = .ok (.aload_n 0, 1) := by decide +kernel
theorem dX11_isAwake_72 : decode cX11_isAwake 72 = .ok (.getfield 79, 3) := by decide +kernel
theorem dX11_isAwake_75 : decode cX11_isAwake 75 = .ok (.iload_n 1, 1) := by decide +kernel
theorem dX11_isAwake_76 : decode cX11_isAwake 76 = .ok (.iaload, 1) := by decide +kernel
theorem dX11_isAwake_77 : decode cX11_isAwake 77 = .ok (.if_icmp .ge 7, 3) := by decide +kernel
theorem dX11_isAwake_80 : decode cX11_isAwake 80 = .ok (.iconst 1, 1) := by decide +kernel
theorem dX11_isAwake_81 : decode cX11_isAwake 81 = .ok (.goto 4, 3) := by decide +kernel
theorem dX11_isAwake_84 : decode cX11_isAwake 84 = .ok (.iconst 0, 1) := by decide +kernel
theorem dX11_isAwake_85 : decode cX11_isAwake 85 = .ok (.ireturn, 1) := by decide +kernel
theorem dX11_lampsOf_0 : decode cX11_lampsOf 0 = .ok (.iconst 0, 1) := by decide +kernel
theorem dX11_lampsOf_1 : decode cX11_lampsOf 1 = .ok (.istore_n 2, 1) := by decide +kernel
theorem dX11_lampsOf_2 : decode cX11_lampsOf 2 = .ok (.iconst 0, 1) := by decide +kernel
theorem dX11_lampsOf_3 : decode cX11_lampsOf 3 = .ok (.istore_n 3, 1) := by decide +kernel
theorem dX11_lampsOf_4 : decode cX11_lampsOf 4 = .ok (.iload_n 3, 1) := by decide +kernel
theorem dX11_lampsOf_5 : decode cX11_lampsOf 5 = .ok (.aload_n 0, 1) := by decide +kernel
theorem dX11_lampsOf_6 : decode cX11_lampsOf 6 = .ok (.getfield 38, 3) := by decide +kernel
theorem dX11_lampsOf_9 : decode cX11_lampsOf 9 = .ok (.iconst 1, 1) := by decide +kernel
theorem dX11_lampsOf_10 : decode cX11_lampsOf 10 = .ok (.iaload, 1) := by decide +kernel
theorem dX11_lampsOf_11 : decode cX11_lampsOf 11 = .ok (.if_icmp .ge 29, 3) := by decide +kernel
theorem dX11_lampsOf_14 : decode cX11_lampsOf 14 = .ok (.iload_n 2, 1) := by decide +kernel
theorem dX11_lampsOf_15 : decode cX11_lampsOf 15 = .ok (.aload_n 0, 1) := by decide +kernel
theorem dX11_lampsOf_16 : decode cX11_lampsOf 16 = .ok (.getfield 74, 3) := by decide +kernel
theorem dX11_lampsOf_19 : decode cX11_lampsOf 19 = .ok (.iload_n 3, 1) := by decide +kernel
theorem dX11_lampsOf_20 : decode cX11_lampsOf 20 = .ok (.iaload, 1) := by decide +kernel
theorem dX11_lampsOf_21 : decode cX11_lampsOf 21 = .ok (.iload_n 1, 1) := by decide +kernel
theorem dX11_lampsOf_22 : decode cX11_lampsOf 22 = .ok (.if_icmp .ne 9, 3) := by decide +kernel
theorem dX11_lampsOf_25 : decode cX11_lampsOf 25 = .ok (.iconst 1, 1) := by decide +kernel
theorem dX11_lampsOf_26 : decode cX11_lampsOf 26 = .ok (.iload_n 3, 1) := by decide +kernel
theorem dX11_lampsOf_27 : decode cX11_lampsOf 27 = .ok (.ishl, 1) := by decide +kernel
theorem dX11_lampsOf_28 : decode cX11_lampsOf 28 = .ok (.goto 4, 3) := by decide +kernel
theorem dX11_lampsOf_31 : decode cX11_lampsOf 31 = .ok (.iconst 0, 1) := by decide +kernel
theorem dX11_lampsOf_32 : decode cX11_lampsOf 32 = .ok (.ior, 1) := by decide +kernel
theorem dX11_lampsOf_33 : decode cX11_lampsOf 33 = .ok (.istore_n 2, 1) := by decide +kernel
theorem dX11_lampsOf_34 : decode cX11_lampsOf 34 = .ok (.iinc 3 1, 3) := by decide +kernel
theorem dX11_lampsOf_37 : decode cX11_lampsOf 37 = .ok (.goto (-33), 3) := by decide +kernel
theorem dX11_lampsOf_40 : decode cX11_lampsOf 40 = .ok (.iload_n 2, 1) := by decide +kernel
theorem dX11_lampsOf_41 : decode cX11_lampsOf 41 = .ok (.ireturn, 1) := by decide +kernel
theorem dX11_byCustom_0 : decode cX11_byCustom 0 = .ok (.aload_n 0, 1) := by decide +kernel
theorem dX11_byCustom_1 : decode cX11_byCustom 1 = .ok (.getfield 42, 3) := by decide +kernel
theorem dX11_byCustom_4 : decode cX11_byCustom 4 = .ok (.iload_n 1, 1) := by decide +kernel
theorem dX11_byCustom_5 : decode cX11_byCustom 5 = .ok (.iaload, 1) := by decide +kernel
theorem dX11_byCustom_6 : decode cX11_byCustom 6 = .ok (.iconst 2, 1) := by decide +kernel
theorem dX11_byCustom_7 : decode cX11_byCustom 7 = .ok (.if_icmp .ne 5, 3) := by decide +kernel
theorem dX11_byCustom_10 : decode cX11_byCustom 10 = .ok (.iconst 0, 1) := by decide +kernel
theorem dX11_byCustom_11 : decode cX11_byCustom 11 = .ok (.ireturn, 1) := by decide +kernel
theorem dX11_byCustom_12 : decode cX11_byCustom 12 = .ok (.iload_n 2, 1) := by decide +kernel
theorem dX11_byCustom_13 : decode cX11_byCustom 13 = .ok (.bipush 18, 2) := by decide +kernel
theorem dX11_byCustom_15 : decode cX11_byCustom 15 = .ok (.if_icmp .ge 24, 3) := by decide +kernel
theorem dX11_byCustom_18 : decode cX11_byCustom 18 = .ok (.iload_n 2, 1) := by decide +kernel
theorem dX11_byCustom_19 : decode cX11_byCustom 19 = .ok (.aload_n 0, 1) := by decide +kernel
theorem dX11_byCustom_20 : decode cX11_byCustom 20 = .ok (.getfield 42, 3) := by decide +kernel
theorem dX11_byCustom_23 : decode cX11_byCustom 23 = .ok (.iload_n 1, 1) := by decide +kernel
theorem dX11_byCustom_24 : decode cX11_byCustom 24 = .ok (.iaload, 1) := by decide +kernel
theorem dX11_byCustom_25 : decode cX11_byCustom 25 = .ok (.iconst 3, 1) := by decide +kernel
theorem dX11_byCustom_26 : decode cX11_byCustom 26 = .ok (.if_icmp .ne 8, 3) := by decide +kernel
theorem dX11_byCustom_29 : decode cX11_byCustom 29 = .ok (.bipush 9, 2) := by decide +kernel
theorem dX11_byCustom_31 : decode cX11_byCustom 31 = .ok (.goto 5, 3) := by decide +kernel
theorem dX11_byCustom_34 : decode cX11_byCustom 34 = .ok (.bipush 6, 2) := by decide +kernel
theorem dX11_byCustom_36 : decode cX11_byCustom 36 = .ok (.if_icmp .ge 7, 3) := by decide +kernel
theorem dX11_byCustom_39 : decode cX11_byCustom 39 = .ok (.iconst 1, 1) := by decide +kernel
theorem dX11_byCustom_40 : decode cX11_byCustom 40 = .ok (.goto 4, 3) := by decide +kernel
theorem dX11_byCustom_43 : decode cX11_byCustom 43 = .ok (.iconst 0, 1) := by decide +kernel
theorem dX11_byCustom_44 : decode cX11_byCustom 44 = .ok (.istore_n 3, 1) := by decide +kernel
theorem dX11_byCustom_45 : decode cX11_byCustom 45 = .ok (.iload_n 3, 1) := by decide +kernel
theorem dX11_byCustom_46 : decode cX11_byCustom 46 = .ok (.ifCond .eq 26, 3) := by decide +kernel
theorem dX11_byCustom_49 : decode cX11_byCustom 49 = .ok (.aload_n 0, 1) := by decide +kernel
theorem dX11_byCustom_50 : decode cX11_byCustom 50 = .ok (.getfield 42, 3) := by decide +kernel
theorem dX11_byCustom_53 : decode cX11_byCustom 53 = .ok (.iload_n 1, 1) := by decide +kernel
theorem dX11_byCustom_54 : decode cX11_byCustom 54 = .ok (.iaload, 1) := by decide +kernel
theorem dX11_byCustom_55 : decode cX11_byCustom 55 = .ok (.iconst 1, 1) := by decide +kernel
theorem dX11_byCustom_56 : decode cX11_byCustom 56 = .ok (.if_icmp .eq 12, 3) := by decide +kernel
theorem dX11_byCustom_59 : decode cX11_byCustom 59 = .ok (.aload_n 0, 1) := by decide +kernel
theorem dX11_byCustom_60 : decode cX11_byCustom 60 = .ok (.iload_n 1, 1) := by decide +kernel
theorem dX11_byCustom_61 : decode cX11_byCustom 61 = .ok (.iload_n 2, 1) := by decide +kernel
theorem dX11_byCustom_62 : decode cX11_byCustom 62 = .ok (.invokevirtual 316, 3) := by decide +kernel
theorem dX11_byCustom_65 : decode cX11_byCustom 65 = .ok (.ifCond .eq 7, 3) := by decide +kernel
theorem dX11_byCustom_68 : decode cX11_byCustom 68 = .ok (.iconst 1, 1) := by decide +kernel
theorem dX11_byCustom_69 : decode cX11_byCustom 69 = .ok (.goto 4, 3) := by decide +kernel
theorem dX11_byCustom_72 : decode cX11_byCustom 72 = .ok (.iconst 0, 1) := by decide +kernel
theorem dX11_byCustom_73 : decode cX11_byCustom 73 = .ok (.ireturn, 1) := by decide +kernel
theorem dX11_wants_0 : decode cX11_wants 0 = .ok (.aload_n 0, 1) := by decide +kernel
theorem dX11_wants_1 : decode cX11_wants 1 = .ok (.getfield 74, 3) := by decide +kernel
theorem dX11_wants_4 : decode cX11_wants 4 = .ok (.iload_n 1, 1) := by decide +kernel
theorem dX11_wants_5 : decode cX11_wants 5 = .ok (.iaload, 1) := by decide +kernel
theorem dX11_wants_6 : decode cX11_wants 6 = .ok (.istore_n 3, 1) := by decide +kernel
theorem dX11_wants_7 : decode cX11_wants 7 = .ok (.aload_n 0, 1) := by decide +kernel
theorem dX11_wants_8 : decode cX11_wants 8 = .ok (.getfield 38, 3) := by decide +kernel
theorem dX11_wants_11 : decode cX11_wants 11 = .ok (.iconst 3, 1) := by decide +kernel
theorem dX11_wants_12 : decode cX11_wants 12 = .ok (.iaload, 1) := by decide +kernel
theorem dX11_wants_13 : decode cX11_wants 13 = .ok (.ifCond .ne 10, 3) := by decide +kernel
theorem dX11_wants_16 : decode cX11_wants 16 = .ok (.aload_n 0, 1) := by decide +kernel
theorem dX11_wants_17 : decode cX11_wants 17 = .ok (.iload_n 3, 1) := by decide +kernel
theorem dX11_wants_18 : decode cX11_wants 18 = .ok (.iload_n 2, 1) := by decide +kernel
theorem dX11_wants_19 : decode cX11_wants 19 = .ok (.invokevirtual 319, 3) := by decide +kernel
theorem dX11_wants_22 : decode cX11_wants 22 = .ok (.ireturn, 1) := by decide +kernel
theorem dX11_wants_23 : decode cX11_wants 23 = .ok (.aload_n 0, 1) := by decide +kernel
theorem dX11_wants_24 : decode cX11_wants 24 = .ok (.getfield 85, 3) := by decide +kernel
theorem dX11_wants_27 : decode cX11_wants 27 = .ok (.iconst 0, 1) := by decide +kernel
theorem dX11_wants_28 : decode cX11_wants 28 = .ok (.iload_n 2, 1) := by decide +kernel
theorem dX11_wants_29 : decode cX11_wants 29 = .ok (.iastore, 1) := by decide +kernel
theorem dX11_wants_30 : decode cX11_wants 30 = .ok (.aload_n 0, 1) := by decide +kernel
theorem dX11_wants_31 : decode cX11_wants 31 = .ok (.getfield 85, 3) := by decide +kernel
theorem dX11_wants_34 : decode cX11_wants 34 = .ok (.iconst 1, 1) := by decide +kernel
theorem dX11_wants_35 : decode cX11_wants 35 = .ok (.aload_n 0, 1) := by decide +kernel
theorem dX11_wants_36 : decode cX11_wants 36 = .ok (.getfield 42, 3) := by decide +kernel
theorem dX11_wants_39 : decode cX11_wants 39 = .ok (.iload_n 3, 1) := by decide +kernel
theorem dX11_wants_40 : decode cX11_wants 40 = .ok (.iaload, 1) := by decide +kernel
theorem dX11_wants_41 : decode cX11_wants 41 = .ok (.iastore, 1) := by decide +kernel
theorem dX11_wants_42 : decode cX11_wants 42 = .ok (.aload_n 0, 1) := by decide +kernel
theorem dX11_wants_43 : decode cX11_wants 43 = .ok (.getfield 85, 3) := by decide +kernel
theorem dX11_wants_46 : decode cX11_wants 46 = .ok (.iconst 2, 1) := by decide +kernel
theorem dX11_wants_47 : decode cX11_wants 47 = .ok (.aload_n 0, 1) := by decide +kernel
theorem dX11_wants_48 : decode cX11_wants 48 = .ok (.getfield 72, 3) := by decide +kernel
theorem dX11_wants_51 : decode cX11_wants 51 = .ok (.iload_n 1, 1) := by decide +kernel
theorem dX11_wants_52 : decode cX11_wants 52 = .ok (.iaload, 1) := by decide +kernel
theorem dX11_wants_53 : decode cX11_wants 53 = .ok (.iastore, 1) := by decide +kernel
theorem dX11_wants_54 : decode cX11_wants 54 = .ok (.aload_n 0, 1) := by decide +kernel
theorem dX11_wants_55 : decode cX11_wants 55 = .ok (.getfield 85, 3) := by decide +kernel
theorem dX11_wants_58 : decode cX11_wants 58 = .ok (.iconst 3, 1) := by decide +kernel
theorem dX11_wants_59 : decode cX11_wants 59 = .ok (.iload_n 3, 1) := by decide +kernel
theorem dX11_wants_60 : decode cX11_wants 60 = .ok (.iastore, 1) := by decide +kernel
theorem dX11_wants_61 : decode cX11_wants 61 = .ok (.aload_n 0, 1) := by decide +kernel
theorem dX11_wants_62 : decode cX11_wants 62 = .ok (.getfield 85, 3) := by decide +kernel
theorem dX11_wants_65 : decode cX11_wants 65 = .ok (.iconst 4, 1) := by decide +kernel
theorem dX11_wants_66 : decode cX11_wants 66 = .ok (.aload_n 0, 1) := by decide +kernel
theorem dX11_wants_67 : decode cX11_wants 67 = .ok (.iload_n 3, 1) := by decide +kernel
theorem dX11_wants_68 : decode cX11_wants 68 = .ok (.invokevirtual 322, 3) := by decide +kernel
theorem dX11_wants_71 : decode cX11_wants 71 = .ok (.invokestatic 325, 3) := by decide +kernel
theorem dX11_wants_74 : decode cX11_wants 74 = .ok (.iastore, 1) := by decide +kernel
theorem dX11_wants_75 : decode cX11_wants 75 = .ok (.aload_n 0, 1) := by decide +kernel
theorem dX11_wants_76 : decode cX11_wants 76 = .ok (.getfield 85, 3) := by decide +kernel
theorem dX11_wants_79 : decode cX11_wants 79 = .ok (.iconst 5, 1) := by decide +kernel
theorem dX11_wants_80 : decode cX11_wants 80 = .ok (.aload_n 0, 1) := by decide +kernel
theorem dX11_wants_81 : decode cX11_wants 81 = .ok (.iload_n 3, 1) := by decide +kernel
theorem dX11_wants_82 : decode cX11_wants 82 = .ok (.iload_n 2, 1) := by decide +kernel
theorem dX11_wants_83 : decode cX11_wants 83 = .ok (.invokevirtual 316, 3) := by decide +kernel
theorem dX11_wants_86 : decode cX11_wants 86 = .ok (.ifCond .eq 7, 3) := by decide +kernel
theorem dX11_wants_89 : decode cX11_wants 89 = .ok (.iconst 1, 1) := by decide +kernel
theorem dX11_wants_90 : decode cX11_wants 90 = .ok (.goto 4, 3) := by decide +kernel
theorem dX11_wants_93 : decode cX11_wants 93 = .ok (.iconst 0, 1) := by decide +kernel
theorem dX11_wants_94 : decode cX11_wants 94 = .ok (.iastore, 1) := by decide +kernel
theorem dX11_wants_95 : decode cX11_wants 95 = .ok (.aload_n 0, 1) := by decide +kernel
theorem dX11_wants_96 : decode cX11_wants 96 = .ok (.invokevirtual 328, 3) := by decide +kernel
theorem dX11_wants_99 : decode cX11_wants 99 = .ok (.ifCond .le 7, 3) := by decide +kernel
theorem dX11_wants_102 : decode cX11_wants 102 = .ok (.iconst 1, 1) := by decide +kernel
theorem dX11_wants_103 : decode cX11_wants 103 = .ok (.goto 4, 3) := by decide +kernel
theorem dX11_wants_106 : decode cX11_wants 106 = .ok (.iconst 0, 1) := by decide +kernel
theorem dX11_wants_107 : decode cX11_wants 107 = .ok (.ireturn, 1) := by decide +kernel
theorem dX11_couple_0 : decode cX11_couple 0 = .ok (.aload_n 0, 1) := by decide +kernel
theorem dX11_couple_1 : decode cX11_couple 1 = .ok (.getfield 56, 3) := by decide +kernel
theorem dX11_couple_4 : decode cX11_couple 4 = .ok (.iload_n 1, 1) := by decide +kernel
theorem dX11_couple_5 : decode cX11_couple 5 = .ok (.iaload, 1) := by decide +kernel
theorem dX11_couple_6 : decode cX11_couple 6 = .ok (.iconst (-1), 1) := by decide +kernel
theorem dX11_couple_7 : decode cX11_couple 7 = .ok (.if_icmp .ne 9, 3) := by decide +kernel
theorem dX11_couple_10 : decode cX11_couple 10 = .ok (.iconst 1, 1) := by decide +kernel
theorem dX11_couple_11 : decode cX11_couple 11 = .ok (.iload_n 1, 1) := by decide +kernel
theorem dX11_couple_12 : decode cX11_couple 12 = .ok (.ishl, 1) := by decide +kernel
theorem dX11_couple_13 : decode cX11_couple 13 = .ok (.goto 15, 3) := by decide +kernel
theorem dX11_couple_16 : decode cX11_couple 16 = .ok (.iconst 1, 1) := by decide +kernel
theorem dX11_couple_17 : decode cX11_couple 17 = .ok (.iload_n 1, 1) := by decide +kernel
theorem dX11_couple_18 : decode cX11_couple 18 = .ok (.ishl, 1) := by decide +kernel
theorem dX11_couple_19 : decode cX11_couple 19 = .ok (.iconst 1, 1) := by decide +kernel
theorem dX11_couple_20 : decode cX11_couple 20 = .ok (.aload_n 0, 1) := by decide +kernel
theorem dX11_couple_21 : decode cX11_couple 21 = .ok (.getfield 56, 3) := by decide +kernel
theorem dX11_couple_24 : decode cX11_couple 24 = .ok (.iload_n 1, 1) := by decide +kernel
theorem dX11_couple_25 : decode cX11_couple 25 = .ok (.iaload, 1) := by decide +kernel
theorem dX11_couple_26 : decode cX11_couple 26 = .ok (.ishl, 1) := by decide +kernel
theorem dX11_couple_27 : decode cX11_couple 27 = .ok (.ior, 1) := by decide +kernel
theorem dX11_couple_28 : decode cX11_couple 28 = .ok (.ireturn, 1) := by decide +kernel
theorem dX11_canBurn_0 : decode cX11_canBurn 0 = .ok (.iconst 1, 1) := by decide +kernel
theorem dX11_canBurn_1 : decode cX11_canBurn 1 = .ok (.istore_n 2, 1) := by decide +kernel
theorem dX11_canBurn_2 : decode cX11_canBurn 2 = .ok (.iconst 0, 1) := by decide +kernel
theorem dX11_canBurn_3 : decode cX11_canBurn 3 = .ok (.istore_n 3, 1) := by decide +kernel
theorem dX11_canBurn_4 : decode cX11_canBurn 4 = .ok (.iload_n 3, 1) := by decide +kernel
theorem dX11_canBurn_5 : decode cX11_canBurn 5 = .ok (.aload_n 0, 1) := by decide +kernel
theorem dX11_canBurn_6 : decode cX11_canBurn 6 = .ok (.getfield 38, 3) := by decide +kernel
theorem dX11_canBurn_9 : decode cX11_canBurn 9 = .ok (.iconst 1, 1) := by decide +kernel
theorem dX11_canBurn_10 : decode cX11_canBurn 10 = .ok (.iaload, 1) := by decide +kernel
theorem dX11_canBurn_11 : decode cX11_canBurn 11 = .ok (.if_icmp .ge 51, 3) := by decide +kernel
theorem dX11_canBurn_14 : decode cX11_canBurn 14 = .ok (.aload_n 0, 1) := by decide +kernel
theorem dX11_canBurn_15 : decode cX11_canBurn 15 = .ok (.iload_n 1, 1) := by decide +kernel
theorem dX11_canBurn_16 : decode cX11_canBurn 16 = .ok (.invokevirtual 331, 3) := by decide +kernel
theorem dX11_canBurn_19 : decode cX11_canBurn 19 = .ok (.iload_n 3, 1) := by decide +kernel
theorem dX11_canBurn_20 : decode cX11_canBurn 20 = .ok (.invokestatic 334, 3) := by decide +kernel
theorem dX11_canBurn_23 : decode cX11_canBurn 23 = .ok (.ifCond .eq 33, 3) := by decide +kernel
theorem dX11_canBurn_26 : decode cX11_canBurn 26 = .ok (.iload_n 2, 1) := by decide +kernel
theorem dX11_canBurn_27 : decode cX11_canBurn 27 = .ok (.ifCond .eq 27, 3) := by decide +kernel
theorem dX11_canBurn_30 : decode cX11_canBurn 30 = .ok (.aload_n 0, 1) := by decide +kernel
theorem dX11_canBurn_31 : decode cX11_canBurn 31 = .ok (.getfield 72, 3) := by decide +kernel
theorem dX11_canBurn_34 : decode cX11_canBurn 34 = .ok (.iload_n 3, 1) := by decide +kernel
theorem dX11_canBurn_35 : decode cX11_canBurn 35 = .ok (.iaload, 1) := by decide +kernel
theorem dX11_canBurn_36 : decode cX11_canBurn 36 = .ok (.ifCond .le 18, 3) := by decide +kernel
theorem dX11_canBurn_39 : decode cX11_canBurn 39 = .ok (.aload_n 0, 1) := by decide +kernel
theorem dX11_canBurn_40 : decode cX11_canBurn 40 = .ok (.getfield 299, 3) := by decide +kernel
theorem dX11_canBurn_43 : decode cX11_canBurn 43 = .ok (.iload_n 3, 1) := by decide +kernel
theorem dX11_canBurn_44 : decode cX11_canBurn 44 = .ok (.invokestatic 334, 3) := by decide +kernel
theorem dX11_canBurn_47 : decode cX11_canBurn 47 = .ok (.ifCond .ne 7, 3) := by decide +kernel
theorem dX11_canBurn_50 : decode cX11_canBurn 50 = .ok (.iconst 1, 1) := by decide +kernel
theorem dX11_canBurn_51 : decode cX11_canBurn 51 = .ok (.goto 4, 3) := by decide +kernel
theorem dX11_canBurn_54 : decode cX11_canBurn 54 = .ok (.iconst 0, 1) := by decide +kernel
theorem dX11_canBurn_55 : decode cX11_canBurn 55 = .ok (.istore_n 2, 1) := by decide +kernel
theorem dX11_canBurn_56 : decode cX11_canBurn 56 = .ok (.iinc 3 1, 3) := by decide +kernel
theorem dX11_canBurn_59 : decode cX11_canBurn 59 = .ok (.goto (-55), 3) := by decide +kernel
theorem dX11_canBurn_62 : decode cX11_canBurn 62 = .ok (.iload_n 2, 1) := by decide +kernel
theorem dX11_canBurn_63 : decode cX11_canBurn 63 = .ok (.ireturn, 1) := by decide +kernel
theorem dX11_be_0 : decode cX11_be 0 = .ok (.aload_n 0, 1) := by decide +kernel
theorem dX11_be_1 : decode cX11_be 1 = .ok (.iload_n 2, 1) := by decide +kernel
theorem dX11_be_2 : decode cX11_be 2 = .ok (.ifCond .eq 16, 3) := by decide +kernel
theorem dX11_be_5 : decode cX11_be 5 = .ok (.aload_n 0, 1) := by decide +kernel
theorem dX11_be_6 : decode cX11_be 6 = .ok (.getfield 296, 3) := by decide +kernel
theorem dX11_be_9 : decode cX11_be 9 = .ok (.aload_n 0, 1) := by decide +kernel
theorem dX11_be_10 : decode cX11_be 10 = .ok (.iload_n 1, 1) := by decide +kernel
theorem dX11_be_11 : decode cX11_be 11 = .ok (.invokevirtual 331, 3) := by decide +kernel
theorem dX11_be_14 : decode cX11_be 14 = .ok (.ior, 1) := by decide +kernel
theorem dX11_be_15 : decode cX11_be 15 = .ok (.goto 15, 3) := by decide +kernel
theorem dX11_be_18 : decode cX11_be 18 = .ok (.aload_n 0, 1) := by decide +kernel
theorem dX11_be_19 : decode cX11_be 19 = .ok (.getfield 296, 3) := by decide +kernel
theorem dX11_be_22 : decode cX11_be 22 = .ok (.aload_n 0, 1) := by decide +kernel
theorem dX11_be_23 : decode cX11_be 23 = .ok (.iload_n 1, 1) := by decide +kernel
theorem dX11_be_24 : decode cX11_be 24 = .ok (.invokevirtual 331, 3) := by decide +kernel
theorem dX11_be_27 : decode cX11_be 27 = .ok (.iconst (-1), 1) := by decide +kernel
theorem dX11_be_28 : decode cX11_be 28 = .ok (.ixor, 1) := by decide +kernel
theorem dX11_be_29 : decode cX11_be 29 = .ok (.iand, 1) := by decide +kernel
theorem dX11_be_30 : decode cX11_be 30 = .ok (.putfield 296, 3) := by decide +kernel
theorem dX11_be_33 : decode cX11_be 33 = .ok (.return_, 1) := by decide +kernel
theorem dX11_flickAll_0 : decode cX11_flickAll 0 = .ok (.iconst 0, 1) := by decide +kernel
theorem dX11_flickAll_1 : decode cX11_flickAll 1 = .ok (.istore_n 2, 1) := by decide +kernel
theorem dX11_flickAll_2 : decode cX11_flickAll 2 = .ok (.aload_n 0, 1) := by decide +kernel
theorem dX11_flickAll_3 : decode cX11_flickAll 3 = .ok (.iconst 0, 1) := by decide +kernel
theorem dX11_flickAll_4 : decode cX11_flickAll 4 = .ok (.putfield 337, 3) := by decide +kernel
theorem dX11_flickAll_7 : decode cX11_flickAll 7 = .ok (.iconst 0, 1) := by decide +kernel
theorem dX11_flickAll_8 : decode cX11_flickAll 8 = .ok (.istore_n 3, 1) := by decide +kernel
theorem dX11_flickAll_9 : decode cX11_flickAll 9 = .ok (.iload_n 3, 1) := by decide +kernel
theorem dX11_flickAll_10 : decode cX11_flickAll 10 = .ok (.aload_n 0, 1) := by decide +kernel
theorem dX11_flickAll_11 : decode cX11_flickAll 11 = .ok (.getfield 38, 3) := by decide +kernel
theorem dX11_flickAll_14 : decode cX11_flickAll 14 = .ok (.iconst 1, 1) := by decide +kernel
theorem dX11_flickAll_15 : decode cX11_flickAll 15 = .ok (.iaload, 1) := by decide +kernel
theorem dX11_flickAll_16 : decode cX11_flickAll 16 = .ok (.if_icmp .ge 95, 3) := by decide +kernel
theorem dX11_flickAll_19 : decode cX11_flickAll 19 = .ok (.aload_n 0, 1) := by decide +kernel
theorem dX11_flickAll_20 : decode cX11_flickAll 20 = .ok (.iload_n 3, 1) := by decide +kernel
theorem dX11_flickAll_21 : decode cX11_flickAll 21 = .ok (.iload_n 1, 1) := by decide +kernel
theorem dX11_flickAll_22 : decode cX11_flickAll 22 = .ok (.invokevirtual 340, 3) := by decide +kernel
theorem dX11_flickAll_25 : decode cX11_flickAll 25 = .ok (.istore 4, 2) := by decide +kernel
theorem dX11_flickAll_27 : decode cX11_flickAll 27 = .ok (.aload_n 0, 1) := by decide +kernel
theorem dX11_flickAll_28 : decode cX11_flickAll 28 = .ok (.aload_n 0, 1) := by decide +kernel
theorem dX11_flickAll_29 : decode cX11_flickAll 29 = .ok (.getfield 74, 3) := by decide +kernel
theorem dX11_flickAll_32 : decode cX11_flickAll 32 = .ok (.iload_n 3, 1) := by decide +kernel
theorem dX11_flickAll_33 : decode cX11_flickAll 33 = .ok (.iaload, 1) := by decide +kernel
theorem dX11_flickAll_34 : decode cX11_flickAll 34 = .ok (.iload_n 1, 1) := by decide +kernel
theorem dX11_flickAll_35 : decode cX11_flickAll 35 = .ok (.invokevirtual 316, 3) := by decide +kernel
theorem dX11_flickAll_38 : decode cX11_flickAll 38 = .ok (.ifCond .eq 67, 3) := by decide +kernel
theorem dX11_flickAll_41 : decode cX11_flickAll 41 = .ok (.iload 4, 2) := by decide +kernel
theorem dX11_flickAll_43 : decode cX11_flickAll 43 = .ok (.aload_n 0, 1) := by decide +kernel
theorem dX11_flickAll_44 : decode cX11_flickAll 44 = .ok (.getfield 296, 3) := by decide +kernel
theorem dX11_flickAll_47 : decode cX11_flickAll 47 = .ok (.iload_n 3, 1) := by decide +kernel
theorem dX11_flickAll_48 : decode cX11_flickAll 48 = .ok (.invokestatic 334, 3) := by decide +kernel
theorem dX11_flickAll_51 : decode cX11_flickAll 51 = .ok (.if_icmp .eq 54, 3) := by decide +kernel
theorem dX11_flickAll_54 : decode cX11_flickAll 54 = .ok (.iload 4, 2) := by decide +kernel
theorem dX11_flickAll_56 : decode cX11_flickAll 56 = .ok (.ifCond .eq 14, 3) := by decide +kernel
theorem dX11_flickAll_59 : decode cX11_flickAll 59 = .ok (.aload_n 0, 1) := by decide +kernel
theorem dX11_flickAll_60 : decode cX11_flickAll 60 = .ok (.iload_n 3, 1) := by decide +kernel
theorem dX11_flickAll_61 : decode cX11_flickAll 61 = .ok (.invokevirtual 342, 3) := by decide +kernel
theorem dX11_flickAll_64 : decode cX11_flickAll 64 = .ok (.ifCond .ne 6, 3) := by decide +kernel
theorem dX11_flickAll_67 : decode cX11_flickAll 67 = .ok (.goto 38, 3) := by decide +kernel
theorem dX11_flickAll_70 : decode cX11_flickAll 70 = .ok (.aload_n 0, 1) := by decide +kernel
theorem dX11_flickAll_71 : decode cX11_flickAll 71 = .ok (.iload_n 3, 1) := by decide +kernel
theorem dX11_flickAll_72 : decode cX11_flickAll 72 = .ok (.iload 4, 2) := by decide +kernel
theorem dX11_flickAll_74 : decode cX11_flickAll 74 = .ok (.invokevirtual 345, 3) := by decide +kernel
theorem dX11_flickAll_77 : decode cX11_flickAll 77 = .ok (.iload_n 2, 1) := by decide +kernel
theorem dX11_flickAll_78 : decode cX11_flickAll 78 = .ok (.aload_n 0, 1) := by decide +kernel
theorem dX11_flickAll_79 : decode cX11_flickAll 79 = .ok (.iload_n 3, 1) := by decide +kernel
theorem dX11_flickAll_80 : decode cX11_flickAll 80 = .ok (.invokevirtual 331, 3) := by decide +kernel
theorem dX11_flickAll_83 : decode cX11_flickAll 83 = .ok (.iand, 1) := by decide +kernel
theorem dX11_flickAll_84 : decode cX11_flickAll 84 = .ok (.ifCond .eq 13, 3) := by decide +kernel
theorem dX11_flickAll_87 : decode cX11_flickAll 87 = .ok (.aload_n 0, 1) := by decide +kernel
theorem dX11_flickAll_88 : decode cX11_flickAll 88 = .ok (.dup, 1) := by decide +kernel
theorem dX11_flickAll_89 : decode cX11_flickAll 89 = .ok (.getfield 337, 3) := by decide +kernel
theorem dX11_flickAll_92 : decode cX11_flickAll 92 = .ok (.iconst 1, 1) := by decide +kernel
theorem dX11_flickAll_93 : decode cX11_flickAll 93 = .ok (.iadd, 1) := by decide +kernel
theorem dX11_flickAll_94 : decode cX11_flickAll 94 = .ok (.putfield 337, 3) := by decide +kernel
theorem dX11_flickAll_97 : decode cX11_flickAll 97 = .ok (.iload_n 2, 1) := by decide +kernel
theorem dX11_flickAll_98 : decode cX11_flickAll 98 = .ok (.aload_n 0, 1) := by decide +kernel
theorem dX11_flickAll_99 : decode cX11_flickAll 99 = .ok (.iload_n 3, 1) := by decide +kernel
theorem dX11_flickAll_100 : decode cX11_flickAll 100 = .ok (.invokevirtual 331, 3) := by decide +kernel
theorem dX11_flickAll_103 : decode cX11_flickAll 103 = .ok (.ior, 1) := by decide +kernel
theorem dX11_flickAll_104 : decode cX11_flickAll 104 = .ok (.istore_n 2, 1) := by decide +kernel
theorem dX11_flickAll_105 : decode cX11_flickAll 105 = .ok (.iinc 3 1, 3) := by decide +kernel
theorem dX11_flickAll_108 : decode cX11_flickAll 108 = .ok (.goto (-99), 3) := by decide +kernel
theorem dX11_flickAll_111 : decode cX11_flickAll 111 = .ok (.return_, 1) := by decide +kernel
theorem dX11_burn_0 : decode cX11_burn 0 = .ok (.aload_n 0, 1) := by decide +kernel
theorem dX11_burn_1 : decode cX11_burn 1 = .ok (.getfield 296, 3) := by decide +kernel
theorem dX11_burn_4 : decode cX11_burn 4 = .ok (.istore_n 1, 1) := by decide +kernel
theorem dX11_burn_5 : decode cX11_burn 5 = .ok (.iconst 0, 1) := by decide +kernel
theorem dX11_burn_6 : decode cX11_burn 6 = .ok (.istore_n 2, 1) := by decide +kernel
theorem dX11_burn_7 : decode cX11_burn 7 = .ok (.iload_n 2, 1) := by decide +kernel
theorem dX11_burn_8 : decode cX11_burn 8 = .ok (.aload_n 0, 1) := by decide +kernel
theorem dX11_burn_9 : decode cX11_burn 9 = .ok (.getfield 38, 3) := by decide +kernel
theorem dX11_burn_12 : decode cX11_burn 12 = .ok (.iconst 1, 1) := by decide +kernel
theorem dX11_burn_13 : decode cX11_burn 13 = .ok (.iaload, 1) := by decide +kernel
theorem dX11_burn_14 : decode cX11_burn 14 = .ok (.if_icmp .ge 31, 3) := by decide +kernel
theorem dX11_burn_17 : decode cX11_burn 17 = .ok (.aload_n 0, 1) := by decide +kernel
theorem dX11_burn_18 : decode cX11_burn 18 = .ok (.getfield 72, 3) := by decide +kernel
theorem dX11_burn_21 : decode cX11_burn 21 = .ok (.iload_n 2, 1) := by decide +kernel
theorem dX11_burn_22 : decode cX11_burn 22 = .ok (.dup2, 1) := by decide +kernel
theorem dX11_burn_23 : decode cX11_burn 23 = .ok (.iaload, 1) := by decide +kernel
theorem dX11_burn_24 : decode cX11_burn 24 = .ok (.iload_n 1, 1) := by decide +kernel
theorem dX11_burn_25 : decode cX11_burn 25 = .ok (.iload_n 2, 1) := by decide +kernel
theorem dX11_burn_26 : decode cX11_burn 26 = .ok (.invokestatic 334, 3) := by decide +kernel
theorem dX11_burn_29 : decode cX11_burn 29 = .ok (.ifCond .eq 7, 3) := by decide +kernel
theorem dX11_burn_32 : decode cX11_burn 32 = .ok (.iconst 1, 1) := by decide +kernel
theorem dX11_burn_33 : decode cX11_burn 33 = .ok (.goto 4, 3) := by decide +kernel
theorem dX11_burn_36 : decode cX11_burn 36 = .ok (.iconst 0, 1) := by decide +kernel
theorem dX11_burn_37 : decode cX11_burn 37 = .ok (.isub, 1) := by decide +kernel
theorem dX11_burn_38 : decode cX11_burn 38 = .ok (.iastore, 1) := by decide +kernel
theorem dX11_burn_39 : decode cX11_burn 39 = .ok (.iinc 2 1, 3) := by decide +kernel
theorem dX11_burn_42 : decode cX11_burn 42 = .ok (.goto (-35), 3) := by decide +kernel
theorem dX11_burn_45 : decode cX11_burn 45 = .ok (.iconst 0, 1) := by decide +kernel
theorem dX11_burn_46 : decode cX11_burn 46 = .ok (.istore_n 2, 1) := by decide +kernel
theorem dX11_burn_47 : decode cX11_burn 47 = .ok (.iload_n 2, 1) := by decide +kernel
theorem dX11_burn_48 : decode cX11_burn 48 = .ok (.aload_n 0, 1) := by decide +kernel
theorem dX11_burn_49 : decode cX11_burn 49 = .ok (.getfield 38, 3) := by decide +kernel
theorem dX11_burn_52 : decode cX11_burn 52 = .ok (.iconst 1, 1) := by decide +kernel
theorem dX11_burn_53 : decode cX11_burn 53 = .ok (.iaload, 1) := by decide +kernel
theorem dX11_burn_54 : decode cX11_burn 54 = .ok (.if_icmp .ge 32, 3) := by decide +kernel
theorem dX11_burn_57 : decode cX11_burn 57 = .ok (.iload_n 1, 1) := by decide +kernel
theorem dX11_burn_58 : decode cX11_burn 58 = .ok (.iload_n 2, 1) := by decide +kernel
theorem dX11_burn_59 : decode cX11_burn 59 = .ok (.invokestatic 334, 3) := by decide +kernel
theorem dX11_burn_62 : decode cX11_burn 62 = .ok (.ifCond .eq 18, 3) := by decide +kernel
theorem dX11_burn_65 : decode cX11_burn 65 = .ok (.aload_n 0, 1) := by decide +kernel
theorem dX11_burn_66 : decode cX11_burn 66 = .ok (.getfield 72, 3) := by decide +kernel
theorem dX11_burn_69 : decode cX11_burn 69 = .ok (.iload_n 2, 1) := by decide +kernel
theorem dX11_burn_70 : decode cX11_burn 70 = .ok (.iaload, 1) := by decide +kernel
theorem dX11_burn_71 : decode cX11_burn 71 = .ok (.ifCond .ne 9, 3) := by decide +kernel
theorem dX11_burn_74 : decode cX11_burn 74 = .ok (.aload_n 0, 1) := by decide +kernel
theorem dX11_burn_75 : decode cX11_burn 75 = .ok (.iload_n 2, 1) := by decide +kernel
theorem dX11_burn_76 : decode cX11_burn 76 = .ok (.iconst 0, 1) := by decide +kernel
theorem dX11_burn_77 : decode cX11_burn 77 = .ok (.invokevirtual 345, 3) := by decide +kernel
theorem dX11_burn_80 : decode cX11_burn 80 = .ok (.iinc 2 1, 3) := by decide +kernel
theorem dX11_burn_83 : decode cX11_burn 83 = .ok (.goto (-36), 3) := by decide +kernel
theorem dX11_burn_86 : decode cX11_burn 86 = .ok (.return_, 1) := by decide +kernel
theorem dX11_anHour_0 : decode cX11_anHour 0 = .ok (.aload_n 0, 1) := by decide +kernel
theorem dX11_anHour_1 : decode cX11_anHour 1 = .ok (.getfield 294, 3) := by decide +kernel
theorem dX11_anHour_4 : decode cX11_anHour 4 = .ok (.bipush 24, 2) := by decide +kernel
theorem dX11_anHour_6 : decode cX11_anHour 6 = .ok (.irem, 1) := by decide +kernel
theorem dX11_anHour_7 : decode cX11_anHour 7 = .ok (.istore_n 1, 1) := by decide +kernel
theorem dX11_anHour_8 : decode cX11_anHour 8 = .ok (.aload_n 0, 1) := by decide +kernel
theorem dX11_anHour_9 : decode cX11_anHour 9 = .ok (.iload_n 1, 1) := by decide +kernel
theorem dX11_anHour_10 : decode cX11_anHour 10 = .ok (.invokevirtual 349, 3) := by decide +kernel
theorem dX11_anHour_13 : decode cX11_anHour 13 = .ok (.aload_n 0, 1) := by decide +kernel
theorem dX11_anHour_14 : decode cX11_anHour 14 = .ok (.aload_n 0, 1) := by decide +kernel
theorem dX11_anHour_15 : decode cX11_anHour 15 = .ok (.getfield 296, 3) := by decide +kernel
theorem dX11_anHour_18 : decode cX11_anHour 18 = .ok (.putfield 352, 3) := by decide +kernel
theorem dX11_anHour_21 : decode cX11_anHour 21 = .ok (.iconst 0, 1) := by decide +kernel
theorem dX11_anHour_22 : decode cX11_anHour 22 = .ok (.istore_n 2, 1) := by decide +kernel
theorem dX11_anHour_23 : decode cX11_anHour 23 = .ok (.iload_n 2, 1) := by decide +kernel
theorem dX11_anHour_24 : decode cX11_anHour 24 = .ok (.aload_n 0, 1) := by decide +kernel
theorem dX11_anHour_25 : decode cX11_anHour 25 = .ok (.getfield 38, 3) := by decide +kernel
theorem dX11_anHour_28 : decode cX11_anHour 28 = .ok (.iconst 0, 1) := by decide +kernel
theorem dX11_anHour_29 : decode cX11_anHour 29 = .ok (.iaload, 1) := by decide +kernel
theorem dX11_anHour_30 : decode cX11_anHour 30 = .ok (.if_icmp .ge 16, 3) := by decide +kernel
theorem dX11_anHour_33 : decode cX11_anHour 33 = .ok (.aload_n 0, 1) := by decide +kernel
theorem dX11_anHour_34 : decode cX11_anHour 34 = .ok (.getfield 91, 3) := by decide +kernel
theorem dX11_anHour_37 : decode cX11_anHour 37 = .ok (.iload_n 2, 1) := by decide +kernel
theorem dX11_anHour_38 : decode cX11_anHour 38 = .ok (.iconst 0, 1) := by decide +kernel
theorem dX11_anHour_39 : decode cX11_anHour 39 = .ok (.iastore, 1) := by decide +kernel
theorem dX11_anHour_40 : decode cX11_anHour 40 = .ok (.iinc 2 1, 3) := by decide +kernel
theorem dX11_anHour_43 : decode cX11_anHour 43 = .ok (.goto (-20), 3) := by decide +kernel
theorem dX11_anHour_46 : decode cX11_anHour 46 = .ok (.iconst 0, 1) := by decide +kernel
theorem dX11_anHour_47 : decode cX11_anHour 47 = .ok (.istore_n 2, 1) := by decide +kernel
theorem dX11_anHour_48 : decode cX11_anHour 48 = .ok (.iload_n 2, 1) := by decide +kernel
theorem dX11_anHour_49 : decode cX11_anHour 49 = .ok (.aload_n 0, 1) := by decide +kernel
theorem dX11_anHour_50 : decode cX11_anHour 50 = .ok (.getfield 38, 3) := by decide +kernel
theorem dX11_anHour_53 : decode cX11_anHour 53 = .ok (.iconst 1, 1) := by decide +kernel
theorem dX11_anHour_54 : decode cX11_anHour 54 = .ok (.iaload, 1) := by decide +kernel
theorem dX11_anHour_55 : decode cX11_anHour 55 = .ok (.if_icmp .ge 59, 3) := by decide +kernel
theorem dX11_anHour_58 : decode cX11_anHour 58 = .ok (.aload_n 0, 1) := by decide +kernel
theorem dX11_anHour_59 : decode cX11_anHour 59 = .ok (.getfield 91, 3) := by decide +kernel
theorem dX11_anHour_62 : decode cX11_anHour 62 = .ok (.aload_n 0, 1) := by decide +kernel
theorem dX11_anHour_63 : decode cX11_anHour 63 = .ok (.getfield 74, 3) := by decide +kernel
theorem dX11_anHour_66 : decode cX11_anHour 66 = .ok (.iload_n 2, 1) := by decide +kernel
theorem dX11_anHour_67 : decode cX11_anHour 67 = .ok (.iaload, 1) := by decide +kernel
theorem dX11_anHour_68 : decode cX11_anHour 68 = .ok (.dup2, 1) := by decide +kernel
theorem dX11_anHour_69 : decode cX11_anHour 69 = .ok (.iaload, 1) := by decide +kernel
theorem dX11_anHour_70 : decode cX11_anHour 70 = .ok (.aload_n 0, 1) := by decide +kernel
theorem dX11_anHour_71 : decode cX11_anHour 71 = .ok (.aload_n 0, 1) := by decide +kernel
theorem dX11_anHour_72 : decode cX11_anHour 72 = .ok (.getfield 74, 3) := by decide +kernel
theorem dX11_anHour_75 : decode cX11_anHour 75 = .ok (.iload_n 2, 1) := by decide +kernel
theorem dX11_anHour_76 : decode cX11_anHour 76 = .ok (.iaload, 1) := by decide +kernel
theorem dX11_anHour_77 : decode cX11_anHour 77 = .ok (.iload_n 1, 1) := by decide +kernel
theorem dX11_anHour_78 : decode cX11_anHour 78 = .ok (.invokevirtual 316, 3) := by decide +kernel
theorem dX11_anHour_81 : decode cX11_anHour 81 = .ok (.ifCond .eq 24, 3) := by decide +kernel
theorem dX11_anHour_84 : decode cX11_anHour 84 = .ok (.aload_n 0, 1) := by decide +kernel
theorem dX11_anHour_85 : decode cX11_anHour 85 = .ok (.iload_n 2, 1) := by decide +kernel
theorem dX11_anHour_86 : decode cX11_anHour 86 = .ok (.iload_n 1, 1) := by decide +kernel
theorem dX11_anHour_87 : decode cX11_anHour 87 = .ok (.invokevirtual 340, 3) := by decide +kernel
theorem dX11_anHour_90 : decode cX11_anHour 90 = .ok (.aload_n 0, 1) := by decide +kernel
theorem dX11_anHour_91 : decode cX11_anHour 91 = .ok (.getfield 296, 3) := by decide +kernel
theorem dX11_anHour_94 : decode cX11_anHour 94 = .ok (.iload_n 2, 1) := by decide +kernel
theorem dX11_anHour_95 : decode cX11_anHour 95 = .ok (.invokestatic 334, 3) := by decide +kernel
theorem dX11_anHour_98 : decode cX11_anHour 98 = .ok (.if_icmp .eq 7, 3) := by decide +kernel
theorem dX11_anHour_101 : decode cX11_anHour 101 = .ok (.iconst 1, 1) := by decide +kernel
theorem dX11_anHour_102 : decode cX11_anHour 102 = .ok (.goto 4, 3) := by decide +kernel
theorem dX11_anHour_105 : decode cX11_anHour 105 = .ok (.iconst 0, 1) := by decide +kernel
theorem dX11_anHour_106 : decode cX11_anHour 106 = .ok (.iadd, 1) := by decide +kernel
theorem dX11_anHour_107 : decode cX11_anHour 107 = .ok (.iastore, 1) := by decide +kernel
theorem dX11_anHour_108 : decode cX11_anHour 108 = .ok (.iinc 2 1, 3) := by decide +kernel
theorem dX11_anHour_111 : decode cX11_anHour 111 = .ok (.goto (-63), 3) := by decide +kernel
theorem dX11_anHour_114 : decode cX11_anHour 114 = .ok (.aload_n 0, 1) := by decide +kernel
theorem dX11_anHour_115 : decode cX11_anHour 115 = .ok (.invokevirtual 355, 3) := by decide +kernel
theorem dX11_anHour_118 : decode cX11_anHour 118 = .ok (.aload_n 0, 1) := by decide +kernel
theorem dX11_anHour_119 : decode cX11_anHour 119 = .ok (.dup, 1) := by decide +kernel
theorem dX11_anHour_120 : decode cX11_anHour 120 = .ok (.getfield 294, 3) := by decide +kernel
theorem dX11_anHour_123 : decode cX11_anHour 123 = .ok (.iconst 1, 1) := by decide +kernel
theorem dX11_anHour_124 : decode cX11_anHour 124 = .ok (.iadd, 1) := by decide +kernel
theorem dX11_anHour_125 : decode cX11_anHour 125 = .ok (.putfield 294, 3) := by decide +kernel
theorem dX11_anHour_128 : decode cX11_anHour 128 = .ok (.return_, 1) := by decide +kernel
theorem dX11_allGrief_0 : decode cX11_allGrief 0 = .ok (.iconst 0, 1) := by decide +kernel
theorem dX11_allGrief_1 : decode cX11_allGrief 1 = .ok (.istore_n 1, 1) := by decide +kernel
theorem dX11_allGrief_2 : decode cX11_allGrief 2 = .ok (.iconst 0, 1) := by decide +kernel
theorem dX11_allGrief_3 : decode cX11_allGrief 3 = .ok (.istore_n 2, 1) := by decide +kernel
theorem dX11_allGrief_4 : decode cX11_allGrief 4 = .ok (.iload_n 2, 1) := by decide +kernel
theorem dX11_allGrief_5 : decode cX11_allGrief 5 = .ok (.aload_n 0, 1) := by decide +kernel
theorem dX11_allGrief_6 : decode cX11_allGrief 6 = .ok (.getfield 38, 3) := by decide +kernel
theorem dX11_allGrief_9 : decode cX11_allGrief 9 = .ok (.iconst 0, 1) := by decide +kernel
theorem dX11_allGrief_10 : decode cX11_allGrief 10 = .ok (.iaload, 1) := by decide +kernel
theorem dX11_allGrief_11 : decode cX11_allGrief 11 = .ok (.if_icmp .ge 18, 3) := by decide +kernel
theorem dX11_allGrief_14 : decode cX11_allGrief 14 = .ok (.iload_n 1, 1) := by decide +kernel
theorem dX11_allGrief_15 : decode cX11_allGrief 15 = .ok (.aload_n 0, 1) := by decide +kernel
theorem dX11_allGrief_16 : decode cX11_allGrief 16 = .ok (.getfield 91, 3) := by decide +kernel
theorem dX11_allGrief_19 : decode cX11_allGrief 19 = .ok (.iload_n 2, 1) := by decide +kernel
theorem dX11_allGrief_20 : decode cX11_allGrief 20 = .ok (.iaload, 1) := by decide +kernel
theorem dX11_allGrief_21 : decode cX11_allGrief 21 = .ok (.iadd, 1) := by decide +kernel
theorem dX11_allGrief_22 : decode cX11_allGrief 22 = .ok (.istore_n 1, 1) := by decide +kernel
theorem dX11_allGrief_23 : decode cX11_allGrief 23 = .ok (.iinc 2 1, 3) := by decide +kernel
theorem dX11_allGrief_26 : decode cX11_allGrief 26 = .ok (.goto (-22), 3) := by decide +kernel
theorem dX11_allGrief_29 : decode cX11_allGrief 29 = .ok (.iload_n 1, 1) := by decide +kernel
theorem dX11_allGrief_30 : decode cX11_allGrief 30 = .ok (.ireturn, 1) := by decide +kernel
theorem dX11_alone_0 : decode cX11_alone 0 = .ok (.iconst 0, 1) := by decide +kernel
theorem dX11_alone_1 : decode cX11_alone 1 = .ok (.istore_n 1, 1) := by decide +kernel
theorem dX11_alone_2 : decode cX11_alone 2 = .ok (.iconst 0, 1) := by decide +kernel
theorem dX11_alone_3 : decode cX11_alone 3 = .ok (.istore_n 2, 1) := by decide +kernel
theorem dX11_alone_4 : decode cX11_alone 4 = .ok (.iload_n 2, 1) := by decide +kernel
theorem dX11_alone_5 : decode cX11_alone 5 = .ok (.aload_n 0, 1) := by decide +kernel
theorem dX11_alone_6 : decode cX11_alone 6 = .ok (.getfield 38, 3) := by decide +kernel
theorem dX11_alone_9 : decode cX11_alone 9 = .ok (.iconst 1, 1) := by decide +kernel
theorem dX11_alone_10 : decode cX11_alone 10 = .ok (.iaload, 1) := by decide +kernel
theorem dX11_alone_11 : decode cX11_alone 11 = .ok (.if_icmp .ge 29, 3) := by decide +kernel
theorem dX11_alone_14 : decode cX11_alone 14 = .ok (.iload_n 1, 1) := by decide +kernel
theorem dX11_alone_15 : decode cX11_alone 15 = .ok (.aload_n 0, 1) := by decide +kernel
theorem dX11_alone_16 : decode cX11_alone 16 = .ok (.getfield 56, 3) := by decide +kernel
theorem dX11_alone_19 : decode cX11_alone 19 = .ok (.iload_n 2, 1) := by decide +kernel
theorem dX11_alone_20 : decode cX11_alone 20 = .ok (.iaload, 1) := by decide +kernel
theorem dX11_alone_21 : decode cX11_alone 21 = .ok (.iconst (-1), 1) := by decide +kernel
theorem dX11_alone_22 : decode cX11_alone 22 = .ok (.if_icmp .ne 9, 3) := by decide +kernel
theorem dX11_alone_25 : decode cX11_alone 25 = .ok (.iconst 1, 1) := by decide +kernel
theorem dX11_alone_26 : decode cX11_alone 26 = .ok (.iload_n 2, 1) := by decide +kernel
theorem dX11_alone_27 : decode cX11_alone 27 = .ok (.ishl, 1) := by decide +kernel
theorem dX11_alone_28 : decode cX11_alone 28 = .ok (.goto 4, 3) := by decide +kernel
theorem dX11_alone_31 : decode cX11_alone 31 = .ok (.iconst 0, 1) := by decide +kernel
theorem dX11_alone_32 : decode cX11_alone 32 = .ok (.ior, 1) := by decide +kernel
theorem dX11_alone_33 : decode cX11_alone 33 = .ok (.istore_n 1, 1) := by decide +kernel
theorem dX11_alone_34 : decode cX11_alone 34 = .ok (.iinc 2 1, 3) := by decide +kernel
theorem dX11_alone_37 : decode cX11_alone 37 = .ok (.goto (-33), 3) := by decide +kernel
theorem dX11_alone_40 : decode cX11_alone 40 = .ok (.iload_n 1, 1) := by decide +kernel
theorem dX11_alone_41 : decode cX11_alone 41 = .ok (.ireturn, 1) := by decide +kernel
theorem dX11_happy_0 : decode cX11_happy 0 = .ok (.iconst 0, 1) := by decide +kernel
theorem dX11_happy_1 : decode cX11_happy 1 = .ok (.istore_n 1, 1) := by decide +kernel
theorem dX11_happy_2 : decode cX11_happy 2 = .ok (.iconst 0, 1) := by decide +kernel
theorem dX11_happy_3 : decode cX11_happy 3 = .ok (.istore_n 2, 1) := by decide +kernel
theorem dX11_happy_4 : decode cX11_happy 4 = .ok (.iload_n 2, 1) := by decide +kernel
theorem dX11_happy_5 : decode cX11_happy 5 = .ok (.aload_n 0, 1) := by decide +kernel
theorem dX11_happy_6 : decode cX11_happy 6 = .ok (.getfield 38, 3) := by decide +kernel
theorem dX11_happy_9 : decode cX11_happy 9 = .ok (.iconst 1, 1) := by decide +kernel
theorem dX11_happy_10 : decode cX11_happy 10 = .ok (.iaload, 1) := by decide +kernel
theorem dX11_happy_11 : decode cX11_happy 11 = .ok (.if_icmp .ge 49, 3) := by decide +kernel
theorem dX11_happy_14 : decode cX11_happy 14 = .ok (.iload_n 1, 1) := by decide +kernel
theorem dX11_happy_15 : decode cX11_happy 15 = .ok (.aload_n 0, 1) := by decide +kernel
theorem dX11_happy_16 : decode cX11_happy 16 = .ok (.getfield 56, 3) := by decide +kernel
theorem dX11_happy_19 : decode cX11_happy 19 = .ok (.iload_n 2, 1) := by decide +kernel
theorem dX11_happy_20 : decode cX11_happy 20 = .ok (.iaload, 1) := by decide +kernel
theorem dX11_happy_21 : decode cX11_happy 21 = .ok (.iconst (-1), 1) := by decide +kernel
theorem dX11_happy_22 : decode cX11_happy 22 = .ok (.if_icmp .eq 29, 3) := by decide +kernel
theorem dX11_happy_25 : decode cX11_happy 25 = .ok (.aload_n 0, 1) := by decide +kernel
theorem dX11_happy_26 : decode cX11_happy 26 = .ok (.getfield 74, 3) := by decide +kernel
theorem dX11_happy_29 : decode cX11_happy 29 = .ok (.aload_n 0, 1) := by decide +kernel
theorem dX11_happy_30 : decode cX11_happy 30 = .ok (.getfield 56, 3) := by decide +kernel
theorem dX11_happy_33 : decode cX11_happy 33 = .ok (.iload_n 2, 1) := by decide +kernel
theorem dX11_happy_34 : decode cX11_happy 34 = .ok (.iaload, 1) := by decide +kernel
theorem dX11_happy_35 : decode cX11_happy 35 = .ok (.iaload, 1) := by decide +kernel
theorem dX11_happy_36 : decode cX11_happy 36 = .ok (.aload_n 0, 1) := by decide +kernel
theorem dX11_happy_37 : decode cX11_happy 37 = .ok (.getfield 74, 3) := by decide +kernel
theorem dX11_happy_40 : decode cX11_happy 40 = .ok (.iload_n 2, 1) := by decide +kernel
theorem dX11_happy_41 : decode cX11_happy 41 = .ok (.iaload, 1) := by decide +kernel
theorem dX11_happy_42 : decode cX11_happy 42 = .ok (.if_icmp .ne 9, 3) := by decide +kernel
theorem dX11_happy_45 : decode cX11_happy 45 = .ok (.iconst 1, 1) := by decide +kernel
theorem dX11_happy_46 : decode cX11_happy 46 = .ok (.iload_n 2, 1) := by decide +kernel
theorem dX11_happy_47 : decode cX11_happy 47 = .ok (.ishl, 1) := by decide +kernel
theorem dX11_happy_48 : decode cX11_happy 48 = .ok (.goto 4, 3) := by decide +kernel
theorem dX11_happy_51 : decode cX11_happy 51 = .ok (.iconst 0, 1) := by decide +kernel
theorem dX11_happy_52 : decode cX11_happy 52 = .ok (.ior, 1) := by decide +kernel
theorem dX11_happy_53 : decode cX11_happy 53 = .ok (.istore_n 1, 1) := by decide +kernel
theorem dX11_happy_54 : decode cX11_happy 54 = .ok (.iinc 2 1, 3) := by decide +kernel
theorem dX11_happy_57 : decode cX11_happy 57 = .ok (.goto (-53), 3) := by decide +kernel
theorem dX11_happy_60 : decode cX11_happy 60 = .ok (.iload_n 1, 1) := by decide +kernel
theorem dX11_happy_61 : decode cX11_happy 61 = .ok (.ireturn, 1) := by decide +kernel
theorem dX11_plunged_0 : decode cX11_plunged 0 = .ok (.iconst 0, 1) := by decide +kernel
theorem dX11_plunged_1 : decode cX11_plunged 1 = .ok (.istore_n 2, 1) := by decide +kernel
theorem dX11_plunged_2 : decode cX11_plunged 2 = .ok (.iconst 0, 1) := by decide +kernel
theorem dX11_plunged_3 : decode cX11_plunged 3 = .ok (.istore_n 3, 1) := by decide +kernel
theorem dX11_plunged_4 : decode cX11_plunged 4 = .ok (.iload_n 3, 1) := by decide +kernel
theorem dX11_plunged_5 : decode cX11_plunged 5 = .ok (.aload_n 0, 1) := by decide +kernel
theorem dX11_plunged_6 : decode cX11_plunged 6 = .ok (.getfield 38, 3) := by decide +kernel
theorem dX11_plunged_9 : decode cX11_plunged 9 = .ok (.iconst 1, 1) := by decide +kernel
theorem dX11_plunged_10 : decode cX11_plunged 10 = .ok (.iaload, 1) := by decide +kernel
theorem dX11_plunged_11 : decode cX11_plunged 11 = .ok (.if_icmp .ge 49, 3) := by decide +kernel
theorem dX11_plunged_14 : decode cX11_plunged 14 = .ok (.iload_n 2, 1) := by decide +kernel
theorem dX11_plunged_15 : decode cX11_plunged 15 = .ok (.aload_n 0, 1) := by decide +kernel
theorem dX11_plunged_16 : decode cX11_plunged 16 = .ok (.getfield 74, 3) := by decide +kernel
theorem dX11_plunged_19 : decode cX11_plunged 19 = .ok (.iload_n 3, 1) := by decide +kernel
theorem dX11_plunged_20 : decode cX11_plunged 20 = .ok (.iaload, 1) := by decide +kernel
theorem dX11_plunged_21 : decode cX11_plunged 21 = .ok (.iload_n 1, 1) := by decide +kernel
theorem dX11_plunged_22 : decode cX11_plunged 22 = .ok (.if_icmp .ne 29, 3) := by decide +kernel
theorem dX11_plunged_25 : decode cX11_plunged 25 = .ok (.aload_n 0, 1) := by decide +kernel
theorem dX11_plunged_26 : decode cX11_plunged 26 = .ok (.getfield 56, 3) := by decide +kernel
theorem dX11_plunged_29 : decode cX11_plunged 29 = .ok (.iload_n 3, 1) := by decide +kernel
theorem dX11_plunged_30 : decode cX11_plunged 30 = .ok (.iaload, 1) := by decide +kernel
theorem dX11_plunged_31 : decode cX11_plunged 31 = .ok (.iconst (-1), 1) := by decide +kernel
theorem dX11_plunged_32 : decode cX11_plunged 32 = .ok (.if_icmp .eq 19, 3) := by decide +kernel
theorem dX11_plunged_35 : decode cX11_plunged 35 = .ok (.iconst 1, 1) := by decide +kernel
theorem dX11_plunged_36 : decode cX11_plunged 36 = .ok (.aload_n 0, 1) := by decide +kernel
theorem dX11_plunged_37 : decode cX11_plunged 37 = .ok (.getfield 74, 3) := by decide +kernel
theorem dX11_plunged_40 : decode cX11_plunged 40 = .ok (.aload_n 0, 1) := by decide +kernel
theorem dX11_plunged_41 : decode cX11_plunged 41 = .ok (.getfield 56, 3) := by decide +kernel
theorem dX11_plunged_44 : decode cX11_plunged 44 = .ok (.iload_n 3, 1) := by decide +kernel
theorem dX11_plunged_45 : decode cX11_plunged 45 = .ok (.iaload, 1) := by decide +kernel
theorem dX11_plunged_46 : decode cX11_plunged 46 = .ok (.iaload, 1) := by decide +kernel
theorem dX11_plunged_47 : decode cX11_plunged 47 = .ok (.ishl, 1) := by decide +kernel
theorem dX11_plunged_48 : decode cX11_plunged 48 = .ok (.goto 4, 3) := by decide +kernel
theorem dX11_plunged_51 : decode cX11_plunged 51 = .ok (.iconst 0, 1) := by decide +kernel
theorem dX11_plunged_52 : decode cX11_plunged 52 = .ok (.ior, 1) := by decide +kernel
theorem dX11_plunged_53 : decode cX11_plunged 53 = .ok (.istore_n 2, 1) := by decide +kernel
theorem dX11_plunged_54 : decode cX11_plunged 54 = .ok (.iinc 3 1, 3) := by decide +kernel
theorem dX11_plunged_57 : decode cX11_plunged 57 = .ok (.goto (-53), 3) := by decide +kernel
theorem dX11_plunged_60 : decode cX11_plunged 60 = .ok (.iload_n 2, 1) := by decide +kernel
theorem dX11_plunged_61 : decode cX11_plunged 61 = .ok (.ireturn, 1) := by decide +kernel
theorem dX11_tellWays_0 : decode cX11_tellWays 0 = .ok (.iconst 0, 1) := by decide +kernel
theorem dX11_tellWays_1 : decode cX11_tellWays 1 = .ok (.istore_n 2, 1) := by decide +kernel
theorem dX11_tellWays_2 : decode cX11_tellWays 2 = .ok (.iload_n 2, 1) := by decide +kernel
theorem dX11_tellWays_3 : decode cX11_tellWays 3 = .ok (.bipush 8, 2) := by decide +kernel
theorem dX11_tellWays_5 : decode cX11_tellWays 5 = .ok (.if_icmp .ge 26, 3) := by decide +kernel
theorem dX11_tellWays_8 : decode cX11_tellWays 8 = .ok (.aload_n 0, 1) := by decide +kernel
theorem dX11_tellWays_9 : decode cX11_tellWays 9 = .ok (.getfield 94, 3) := by decide +kernel
theorem dX11_tellWays_12 : decode cX11_tellWays 12 = .ok (.iload_n 2, 1) := by decide +kernel
theorem dX11_tellWays_13 : decode cX11_tellWays 13 = .ok (.iload_n 2, 1) := by decide +kernel
theorem dX11_tellWays_14 : decode cX11_tellWays 14 = .ok (.iload_n 1, 1) := by decide +kernel
theorem dX11_tellWays_15 : decode cX11_tellWays 15 = .ok (.if_icmp .ne 7, 3) := by decide +kernel
theorem dX11_tellWays_18 : decode cX11_tellWays 18 = .ok (.iconst 0, 1) := by decide +kernel
theorem dX11_tellWays_19 : decode cX11_tellWays 19 = .ok (.goto 5, 3) := by decide +kernel
theorem dX11_tellWays_22 : decode cX11_tellWays 22 = .ok (.ldc 178, 2) := by decide +kernel
theorem dX11_tellWays_24 : decode cX11_tellWays 24 = .ok (.iastore, 1) := by decide +kernel
theorem dX11_tellWays_25 : decode cX11_tellWays 25 = .ok (.iinc 2 1, 3) := by decide +kernel
theorem dX11_tellWays_28 : decode cX11_tellWays 28 = .ok (.goto (-26), 3) := by decide +kernel
theorem dX11_tellWays_31 : decode cX11_tellWays 31 = .ok (.iconst 0, 1) := by decide +kernel
theorem dX11_tellWays_32 : decode cX11_tellWays 32 = .ok (.istore_n 2, 1) := by decide +kernel
theorem dX11_tellWays_33 : decode cX11_tellWays 33 = .ok (.iload_n 2, 1) := by decide +kernel
theorem dX11_tellWays_34 : decode cX11_tellWays 34 = .ok (.aload_n 0, 1) := by decide +kernel
theorem dX11_tellWays_35 : decode cX11_tellWays 35 = .ok (.getfield 38, 3) := by decide +kernel
theorem dX11_tellWays_38 : decode cX11_tellWays 38 = .ok (.iconst 0, 1) := by decide +kernel
theorem dX11_tellWays_39 : decode cX11_tellWays 39 = .ok (.iaload, 1) := by decide +kernel
theorem dX11_tellWays_40 : decode cX11_tellWays 40 = .ok (.if_icmp .ge 90, 3) := by decide +kernel
theorem dX11_tellWays_43 : decode cX11_tellWays 43 = .ok (.iconst 0, 1) := by decide +kernel
theorem dX11_tellWays_44 : decode cX11_tellWays 44 = .ok (.istore_n 3, 1) := by decide +kernel
theorem dX11_tellWays_45 : decode cX11_tellWays 45 = .ok (.iload_n 3, 1) := by decide +kernel
theorem dX11_tellWays_46 : decode cX11_tellWays 46 = .ok (.aload_n 0, 1) := by decide +kernel
theorem dX11_tellWays_47 : decode cX11_tellWays 47 = .ok (.getfield 38, 3) := by decide +kernel
theorem dX11_tellWays_50 : decode cX11_tellWays 50 = .ok (.iconst 0, 1) := by decide +kernel
theorem dX11_tellWays_51 : decode cX11_tellWays 51 = .ok (.iaload, 1) := by decide +kernel
theorem dX11_tellWays_52 : decode cX11_tellWays 52 = .ok (.if_icmp .ge 72, 3) := by decide +kernel
theorem dX11_tellWays_55 : decode cX11_tellWays 55 = .ok (.iconst 0, 1) := by decide +kernel
theorem dX11_tellWays_56 : decode cX11_tellWays 56 = .ok (.istore 4, 2) := by decide +kernel
theorem dX11_tellWays_58 : decode cX11_tellWays 58 = .ok (.iload 4, 2) := by decide +kernel
theorem dX11_tellWays_60 : decode cX11_tellWays 60 = .ok (.aload_n 0, 1) := by decide +kernel
theorem dX11_tellWays_61 : decode cX11_tellWays 61 = .ok (.getfield 38, 3) := by decide +kernel
theorem dX11_tellWays_64 : decode cX11_tellWays 64 = .ok (.iconst 0, 1) := by decide +kernel
theorem dX11_tellWays_65 : decode cX11_tellWays 65 = .ok (.iaload, 1) := by decide +kernel
theorem dX11_tellWays_66 : decode cX11_tellWays 66 = .ok (.if_icmp .ge 52, 3) := by decide +kernel
theorem dX11_tellWays_69 : decode cX11_tellWays 69 = .ok (.aload_n 0, 1) := by decide +kernel
theorem dX11_tellWays_70 : decode cX11_tellWays 70 = .ok (.getfield 94, 3) := by decide +kernel
theorem dX11_tellWays_73 : decode cX11_tellWays 73 = .ok (.iload_n 3, 1) := by decide +kernel
theorem dX11_tellWays_74 : decode cX11_tellWays 74 = .ok (.iaload, 1) := by decide +kernel
theorem dX11_tellWays_75 : decode cX11_tellWays 75 = .ok (.iload_n 2, 1) := by decide +kernel
theorem dX11_tellWays_76 : decode cX11_tellWays 76 = .ok (.if_icmp .ne 42, 3) := by decide +kernel
theorem dX11_tellWays_79 : decode cX11_tellWays 79 = .ok (.aload_n 0, 1) := by decide +kernel
theorem dX11_tellWays_80 : decode cX11_tellWays 80 = .ok (.iload_n 3, 1) := by decide +kernel
theorem dX11_tellWays_81 : decode cX11_tellWays 81 = .ok (.invokevirtual 358, 3) := by decide +kernel
theorem dX11_tellWays_84 : decode cX11_tellWays 84 = .ok (.iload 4, 2) := by decide +kernel
theorem dX11_tellWays_86 : decode cX11_tellWays 86 = .ok (.invokestatic 334, 3) := by decide +kernel
theorem dX11_tellWays_89 : decode cX11_tellWays 89 = .ok (.ifCond .eq 23, 3) := by decide +kernel
theorem dX11_tellWays_92 : decode cX11_tellWays 92 = .ok (.aload_n 0, 1) := by decide +kernel
theorem dX11_tellWays_93 : decode cX11_tellWays 93 = .ok (.getfield 94, 3) := by decide +kernel
theorem dX11_tellWays_96 : decode cX11_tellWays 96 = .ok (.iload 4, 2) := by decide +kernel
theorem dX11_tellWays_98 : decode cX11_tellWays 98 = .ok (.aload_n 0, 1) := by decide +kernel
theorem dX11_tellWays_99 : decode cX11_tellWays 99 = .ok (.getfield 94, 3) := by decide +kernel
theorem dX11_tellWays_102 : decode cX11_tellWays 102 = .ok (.iload 4, 2) := by decide +kernel
theorem dX11_tellWays_104 : decode cX11_tellWays 104 = .ok (.iaload, 1) := by decide +kernel
theorem dX11_tellWays_105 : decode cX11_tellWays 105 = .ok (.iload_n 2, 1) := by decide +kernel
theorem dX11_tellWays_106 : decode cX11_tellWays 106 = .ok (.iconst 1, 1) := by decide +kernel
theorem dX11_tellWays_107 : decode cX11_tellWays 107 = .ok (.iadd, 1) := by decide +kernel
theorem dX11_tellWays_108 : decode cX11_tellWays 108 = .ok (.invokestatic 179, 3) := by decide +kernel
theorem dX11_tellWays_111 : decode cX11_tellWays 111 = .ok (.iastore, 1) := by decide +kernel
theorem dX11_tellWays_112 : decode cX11_tellWays 112 = .ok (.iinc 4 1, 3) := by decide +kernel
theorem dX11_tellWays_115 : decode cX11_tellWays 115 = .ok (.goto (-57), 3) := by decide +kernel
theorem dX11_tellWays_118 : decode cX11_tellWays 118 = .ok (.iinc 3 1, 3) := by decide +kernel
theorem dX11_tellWays_121 : decode cX11_tellWays 121 = .ok (.goto (-76), 3) := by decide +kernel
theorem dX11_tellWays_124 : decode cX11_tellWays 124 = .ok (.iinc 2 1, 3) := by decide +kernel
theorem dX11_tellWays_127 : decode cX11_tellWays 127 = .ok (.goto (-94), 3) := by decide +kernel
theorem dX11_tellWays_130 : decode cX11_tellWays 130 = .ok (.return_, 1) := by decide +kernel
theorem dX11_groups_0 : decode cX11_groups 0 = .ok (.iconst 0, 1) := by decide +kernel
theorem dX11_groups_1 : decode cX11_groups 1 = .ok (.istore_n 1, 1) := by decide +kernel
theorem dX11_groups_2 : decode cX11_groups 2 = .ok (.iconst 0, 1) := by decide +kernel
theorem dX11_groups_3 : decode cX11_groups 3 = .ok (.istore_n 2, 1) := by decide +kernel
theorem dX11_groups_4 : decode cX11_groups 4 = .ok (.iload_n 2, 1) := by decide +kernel
theorem dX11_groups_5 : decode cX11_groups 5 = .ok (.aload_n 0, 1) := by decide +kernel
theorem dX11_groups_6 : decode cX11_groups 6 = .ok (.getfield 38, 3) := by decide +kernel
theorem dX11_groups_9 : decode cX11_groups 9 = .ok (.iconst 0, 1) := by decide +kernel
theorem dX11_groups_10 : decode cX11_groups 10 = .ok (.iaload, 1) := by decide +kernel
theorem dX11_groups_11 : decode cX11_groups 11 = .ok (.if_icmp .ge 65, 3) := by decide +kernel
theorem dX11_groups_14 : decode cX11_groups 14 = .ok (.aload_n 0, 1) := by decide +kernel
theorem dX11_groups_15 : decode cX11_groups 15 = .ok (.iload_n 2, 1) := by decide +kernel
theorem dX11_groups_16 : decode cX11_groups 16 = .ok (.invokevirtual 361, 3) := by decide +kernel
theorem dX11_groups_19 : decode cX11_groups 19 = .ok (.iconst 1, 1) := by decide +kernel
theorem dX11_groups_20 : decode cX11_groups 20 = .ok (.istore_n 3, 1) := by decide +kernel
theorem dX11_groups_21 : decode cX11_groups 21 = .ok (.iconst 0, 1) := by decide +kernel
theorem dX11_groups_22 : decode cX11_groups 22 = .ok (.istore 4, 2) := by decide +kernel
theorem dX11_groups_24 : decode cX11_groups 24 = .ok (.iload 4, 2) := by decide +kernel
theorem dX11_groups_26 : decode cX11_groups 26 = .ok (.iload_n 2, 1) := by decide +kernel
theorem dX11_groups_27 : decode cX11_groups 27 = .ok (.if_icmp .ge 31, 3) := by decide +kernel
theorem dX11_groups_30 : decode cX11_groups 30 = .ok (.iload_n 3, 1) := by decide +kernel
theorem dX11_groups_31 : decode cX11_groups 31 = .ok (.ifCond .eq 19, 3) := by decide +kernel
theorem dX11_groups_34 : decode cX11_groups 34 = .ok (.aload_n 0, 1) := by decide +kernel
theorem dX11_groups_35 : decode cX11_groups 35 = .ok (.getfield 94, 3) := by decide +kernel
theorem dX11_groups_38 : decode cX11_groups 38 = .ok (.iload 4, 2) := by decide +kernel
theorem dX11_groups_40 : decode cX11_groups 40 = .ok (.iaload, 1) := by decide +kernel
theorem dX11_groups_41 : decode cX11_groups 41 = .ok (.ldc 178, 2) := by decide +kernel
theorem dX11_groups_43 : decode cX11_groups 43 = .ok (.if_icmp .ne 7, 3) := by decide +kernel
theorem dX11_groups_46 : decode cX11_groups 46 = .ok (.iconst 1, 1) := by decide +kernel
theorem dX11_groups_47 : decode cX11_groups 47 = .ok (.goto 4, 3) := by decide +kernel
theorem dX11_groups_50 : decode cX11_groups 50 = .ok (.iconst 0, 1) := by decide +kernel
theorem dX11_groups_51 : decode cX11_groups 51 = .ok (.istore_n 3, 1) := by decide +kernel
theorem dX11_groups_52 : decode cX11_groups 52 = .ok (.iinc 4 1, 3) := by decide +kernel
theorem dX11_groups_55 : decode cX11_groups 55 = .ok (.goto (-31), 3) := by decide +kernel
theorem dX11_groups_58 : decode cX11_groups 58 = .ok (.iload_n 1, 1) := by decide +kernel
theorem dX11_groups_59 : decode cX11_groups 59 = .ok (.iload_n 3, 1) := by decide +kernel
theorem dX11_groups_60 : decode cX11_groups 60 = .ok (.ifCond .eq 7, 3) := by decide +kernel
theorem dX11_groups_63 : decode cX11_groups 63 = .ok (.iconst 1, 1) := by decide +kernel
theorem dX11_groups_64 : decode cX11_groups 64 = .ok (.goto 4, 3) := by decide +kernel
theorem dX11_groups_67 : decode cX11_groups 67 = .ok (.iconst 0, 1) := by decide +kernel
theorem dX11_groups_68 : decode cX11_groups 68 = .ok (.iadd, 1) := by decide +kernel
theorem dX11_groups_69 : decode cX11_groups 69 = .ok (.istore_n 1, 1) := by decide +kernel
theorem dX11_groups_70 : decode cX11_groups 70 = .ok (.iinc 2 1, 3) := by decide +kernel
theorem dX11_groups_73 : decode cX11_groups 73 = .ok (.goto (-69), 3) := by decide +kernel
theorem dX11_groups_76 : decode cX11_groups 76 = .ok (.iload_n 1, 1) := by decide +kernel
theorem dX11_groups_77 : decode cX11_groups 77 = .ok (.ireturn, 1) := by decide +kernel
theorem dX11_awakeNow_0 : decode cX11_awakeNow 0 = .ok (.iconst 0, 1) := by decide +kernel
theorem dX11_awakeNow_1 : decode cX11_awakeNow 1 = .ok (.istore_n 1, 1) := by decide +kernel
theorem dX11_awakeNow_2 : decode cX11_awakeNow 2 = .ok (.iconst 0, 1) := by decide +kernel
theorem dX11_awakeNow_3 : decode cX11_awakeNow 3 = .ok (.istore_n 2, 1) := by decide +kernel
theorem dX11_awakeNow_4 : decode cX11_awakeNow 4 = .ok (.iload_n 2, 1) := by decide +kernel
theorem dX11_awakeNow_5 : decode cX11_awakeNow 5 = .ok (.aload_n 0, 1) := by decide +kernel
theorem dX11_awakeNow_6 : decode cX11_awakeNow 6 = .ok (.getfield 38, 3) := by decide +kernel
theorem dX11_awakeNow_9 : decode cX11_awakeNow 9 = .ok (.iconst 0, 1) := by decide +kernel
theorem dX11_awakeNow_10 : decode cX11_awakeNow 10 = .ok (.iaload, 1) := by decide +kernel
theorem dX11_awakeNow_11 : decode cX11_awakeNow 11 = .ok (.if_icmp .ge 34, 3) := by decide +kernel
theorem dX11_awakeNow_14 : decode cX11_awakeNow 14 = .ok (.iload_n 1, 1) := by decide +kernel
theorem dX11_awakeNow_15 : decode cX11_awakeNow 15 = .ok (.aload_n 0, 1) := by decide +kernel
theorem dX11_awakeNow_16 : decode cX11_awakeNow 16 = .ok (.iload_n 2, 1) := by decide +kernel
theorem dX11_awakeNow_17 : decode cX11_awakeNow 17 = .ok (.aload_n 0, 1) := by decide +kernel
theorem dX11_awakeNow_18 : decode cX11_awakeNow 18 = .ok (.getfield 294, 3) := by decide +kernel
theorem dX11_awakeNow_21 : decode cX11_awakeNow 21 = .ok (.bipush 24, 2) := by decide +kernel
theorem dX11_awakeNow_23 : decode cX11_awakeNow 23 = .ok (.irem, 1) := by decide +kernel
theorem dX11_awakeNow_24 : decode cX11_awakeNow 24 = .ok (.invokevirtual 316, 3) := by decide +kernel
theorem dX11_awakeNow_27 : decode cX11_awakeNow 27 = .ok (.ifCond .eq 9, 3) := by decide +kernel
theorem dX11_awakeNow_30 : decode cX11_awakeNow 30 = .ok (.iconst 1, 1) := by decide +kernel
theorem dX11_awakeNow_31 : decode cX11_awakeNow 31 = .ok (.iload_n 2, 1) := by decide +kernel
theorem dX11_awakeNow_32 : decode cX11_awakeNow 32 = .ok (.ishl, 1) := by decide +kernel
theorem dX11_awakeNow_33 : decode cX11_awakeNow 33 = .ok (.goto 4, 3) := by decide +kernel
theorem dX11_awakeNow_36 : decode cX11_awakeNow 36 = .ok (.iconst 0, 1) := by decide +kernel
theorem dX11_awakeNow_37 : decode cX11_awakeNow 37 = .ok (.ior, 1) := by decide +kernel
theorem dX11_awakeNow_38 : decode cX11_awakeNow 38 = .ok (.istore_n 1, 1) := by decide +kernel
theorem dX11_awakeNow_39 : decode cX11_awakeNow 39 = .ok (.iinc 2 1, 3) := by decide +kernel
theorem dX11_awakeNow_42 : decode cX11_awakeNow 42 = .ok (.goto (-38), 3) := by decide +kernel
theorem dX11_awakeNow_45 : decode cX11_awakeNow 45 = .ok (.iload_n 1, 1) := by decide +kernel
theorem dX11_awakeNow_46 : decode cX11_awakeNow 46 = .ok (.ireturn, 1) := by decide +kernel
theorem dX11_allOil_0 : decode cX11_allOil 0 = .ok (.iconst 0, 1) := by decide +kernel
theorem dX11_allOil_1 : decode cX11_allOil 1 = .ok (.istore_n 1, 1) := by decide +kernel
theorem dX11_allOil_2 : decode cX11_allOil 2 = .ok (.iconst 0, 1) := by decide +kernel
theorem dX11_allOil_3 : decode cX11_allOil 3 = .ok (.istore_n 2, 1) := by decide +kernel
theorem dX11_allOil_4 : decode cX11_allOil 4 = .ok (.iload_n 2, 1) := by decide +kernel
theorem dX11_allOil_5 : decode cX11_allOil 5 = .ok (.aload_n 0, 1) := by decide +kernel
theorem dX11_allOil_6 : decode cX11_allOil 6 = .ok (.getfield 38, 3) := by decide +kernel
theorem dX11_allOil_9 : decode cX11_allOil 9 = .ok (.iconst 1, 1) := by decide +kernel
theorem dX11_allOil_10 : decode cX11_allOil 10 = .ok (.iaload, 1) := by decide +kernel
theorem dX11_allOil_11 : decode cX11_allOil 11 = .ok (.if_icmp .ge 18, 3) := by decide +kernel
theorem dX11_allOil_14 : decode cX11_allOil 14 = .ok (.iload_n 1, 1) := by decide +kernel
theorem dX11_allOil_15 : decode cX11_allOil 15 = .ok (.aload_n 0, 1) := by decide +kernel
theorem dX11_allOil_16 : decode cX11_allOil 16 = .ok (.getfield 72, 3) := by decide +kernel
theorem dX11_allOil_19 : decode cX11_allOil 19 = .ok (.iload_n 2, 1) := by decide +kernel
theorem dX11_allOil_20 : decode cX11_allOil 20 = .ok (.iaload, 1) := by decide +kernel
theorem dX11_allOil_21 : decode cX11_allOil 21 = .ok (.iadd, 1) := by decide +kernel
theorem dX11_allOil_22 : decode cX11_allOil 22 = .ok (.istore_n 1, 1) := by decide +kernel
theorem dX11_allOil_23 : decode cX11_allOil 23 = .ok (.iinc 2 1, 3) := by decide +kernel
theorem dX11_allOil_26 : decode cX11_allOil 26 = .ok (.goto (-22), 3) := by decide +kernel
theorem dX11_allOil_29 : decode cX11_allOil 29 = .ok (.iload_n 1, 1) := by decide +kernel
theorem dX11_allOil_30 : decode cX11_allOil 30 = .ok (.ireturn, 1) := by decide +kernel
theorem dX11_count_0 : decode cX11_count 0 = .ok (.aload_n 0, 1) := by decide +kernel
theorem dX11_count_1 : decode cX11_count 1 = .ok (.iconst 0, 1) := by decide +kernel
theorem dX11_count_2 : decode cX11_count 2 = .ok (.putfield 142, 3) := by decide +kernel
theorem dX11_count_5 : decode cX11_count 5 = .ok (.iload_n 1, 1) := by decide +kernel
theorem dX11_count_6 : decode cX11_count 6 = .ok (.tableswitch 154 0 16 #[82, 82, 82, 89, 94, 99, 104, 109, 114, 119, 124, 129, 134, 139, 144, 144, 144], 82) := by decide +kernel
theorem dX11_count_88 : decode cX11_count 88 = .ok (.aload_n 0, 1) := by decide +kernel
theorem dX11_count_89 : decode cX11_count 89 = .ok (.getfield 38, 3) := by decide +kernel
theorem dX11_count_92 : decode cX11_count 92 = .ok (.iload_n 1, 1) := by decide +kernel
theorem dX11_count_93 : decode cX11_count 93 = .ok (.iaload, 1) := by decide +kernel
theorem dX11_count_94 : decode cX11_count 94 = .ok (.ireturn, 1) := by decide +kernel
theorem dX11_count_95 : decode cX11_count 95 = .ok (.aload_n 0, 1) := by decide +kernel
theorem dX11_count_96 : decode cX11_count 96 = .ok (.getfield 294, 3) := by decide +kernel
theorem dX11_count_99 : decode cX11_count 99 = .ok (.ireturn, 1) := by decide +kernel
theorem dX11_count_100 : decode cX11_count 100 = .ok (.aload_n 0, 1) := by decide +kernel
theorem dX11_count_101 : decode cX11_count 101 = .ok (.getfield 296, 3) := by decide +kernel
theorem dX11_count_104 : decode cX11_count 104 = .ok (.ireturn, 1) := by decide +kernel
theorem dX11_count_105 : decode cX11_count 105 = .ok (.aload_n 0, 1) := by decide +kernel
theorem dX11_count_106 : decode cX11_count 106 = .ok (.getfield 299, 3) := by decide +kernel
theorem dX11_count_109 : decode cX11_count 109 = .ok (.ireturn, 1) := by decide +kernel
theorem dX11_count_110 : decode cX11_count 110 = .ok (.aload_n 0, 1) := by decide +kernel
theorem dX11_count_111 : decode cX11_count 111 = .ok (.invokevirtual 364, 3) := by decide +kernel
theorem dX11_count_114 : decode cX11_count 114 = .ok (.ireturn, 1) := by decide +kernel
theorem dX11_count_115 : decode cX11_count 115 = .ok (.aload_n 0, 1) := by decide +kernel
theorem dX11_count_116 : decode cX11_count 116 = .ok (.invokevirtual 367, 3) := by decide +kernel
theorem dX11_count_119 : decode cX11_count 119 = .ok (.ireturn, 1) := by decide +kernel
theorem dX11_count_120 : decode cX11_count 120 = .ok (.aload_n 0, 1) := by decide +kernel
theorem dX11_count_121 : decode cX11_count 121 = .ok (.invokevirtual 370, 3) := by decide +kernel
theorem dX11_count_124 : decode cX11_count 124 = .ok (.ireturn, 1) := by decide +kernel
theorem dX11_count_125 : decode cX11_count 125 = .ok (.aload_n 0, 1) := by decide +kernel
theorem dX11_count_126 : decode cX11_count 126 = .ok (.invokevirtual 373, 3) := by decide +kernel
theorem dX11_count_129 : decode cX11_count 129 = .ok (.ireturn, 1) := by decide +kernel
theorem dX11_count_130 : decode cX11_count 130 = .ok (.aload_n 0, 1) := by decide +kernel
theorem dX11_count_131 : decode cX11_count 131 = .ok (.invokevirtual 376, 3) := by decide +kernel
theorem dX11_count_134 : decode cX11_count 134 = .ok (.ireturn, 1) := by decide +kernel
theorem dX11_count_135 : decode cX11_count 135 = .ok (.aload_n 0, 1) := by decide +kernel
theorem dX11_count_136 : decode cX11_count 136 = .ok (.getfield 302, 3) := by decide +kernel
theorem dX11_count_139 : decode cX11_count 139 = .ok (.ireturn, 1) := by decide +kernel
theorem dX11_count_140 : decode cX11_count 140 = .ok (.aload_n 0, 1) := by decide +kernel
theorem dX11_count_141 : decode cX11_count 141 = .ok (.getfield 305, 3) := by decide +kernel
theorem dX11_count_144 : decode cX11_count 144 = .ok (.ireturn, 1) := by decide +kernel
theorem dX11_count_145 : decode cX11_count 145 = .ok (.aload_n 0, 1) := by decide +kernel
theorem dX11_count_146 : decode cX11_count 146 = .ok (.getfield 149, 3) := by decide +kernel
theorem dX11_count_149 : decode cX11_count 149 = .ok (.ireturn, 1) := by decide +kernel
theorem dX11_count_150 : decode cX11_count 150 = .ok (.aload_n 0, 1) := by decide +kernel
theorem dX11_count_151 : decode cX11_count 151 = .ok (.getfield 62, 3) := by decide +kernel
theorem dX11_count_154 : decode cX11_count 154 = .ok (.iload_n 1, 1) := by decide +kernel
theorem dX11_count_155 : decode cX11_count 155 = .ok (.bipush 14, 2) := by decide +kernel
theorem dX11_count_157 : decode cX11_count 157 = .ok (.isub, 1) := by decide +kernel
theorem dX11_count_158 : decode cX11_count 158 = .ok (.iaload, 1) := by decide +kernel
theorem dX11_count_159 : decode cX11_count 159 = .ok (.ireturn, 1) := by decide +kernel
theorem dX11_count_160 : decode cX11_count 160 = .ok (.aload_n 0, 1) := by decide +kernel
theorem dX11_count_161 : decode cX11_count 161 = .ok (.iconst 1, 1) := by decide +kernel
theorem dX11_count_162 : decode cX11_count 162 = .ok (.invokevirtual 281, 3) := by decide +kernel
theorem dX11_count_165 : decode cX11_count 165 = .ok (.ireturn, 1) := by decide +kernel
theorem dX11_house_0 : decode cX11_house 0 = .ok (.aload_n 0, 1) := by decide +kernel
theorem dX11_house_1 : decode cX11_house 1 = .ok (.iconst 0, 1) := by decide +kernel
theorem dX11_house_2 : decode cX11_house 2 = .ok (.putfield 142, 3) := by decide +kernel
theorem dX11_house_5 : decode cX11_house 5 = .ok (.aload_n 0, 1) := by decide +kernel
theorem dX11_house_6 : decode cX11_house 6 = .ok (.iload_n 1, 1) := by decide +kernel
theorem dX11_house_7 : decode cX11_house 7 = .ok (.invokevirtual 379, 3) := by decide +kernel
theorem dX11_house_10 : decode cX11_house 10 = .ok (.ifCond .eq 15, 3) := by decide +kernel
theorem dX11_house_13 : decode cX11_house 13 = .ok (.iload_n 2, 1) := by decide +kernel
theorem dX11_house_14 : decode cX11_house 14 = .ok (.i2l, 1) := by decide +kernel
theorem dX11_house_15 : decode cX11_house 15 = .ok (.lconst 0, 1) := by decide +kernel
theorem dX11_house_16 : decode cX11_house 16 = .ok (.ldc2_w 382, 3) := by decide +kernel
theorem dX11_house_19 : decode cX11_house 19 = .ok (.invokestatic 145, 3) := by decide +kernel
theorem dX11_house_22 : decode cX11_house 22 = .ok (.ifCond .ne 9, 3) := by decide +kernel
theorem dX11_house_25 : decode cX11_house 25 = .ok (.aload_n 0, 1) := by decide +kernel
theorem dX11_house_26 : decode cX11_house 26 = .ok (.iconst 1, 1) := by decide +kernel
theorem dX11_house_27 : decode cX11_house 27 = .ok (.invokevirtual 281, 3) := by decide +kernel
theorem dX11_house_30 : decode cX11_house 30 = .ok (.ireturn, 1) := by decide +kernel
theorem dX11_house_31 : decode cX11_house 31 = .ok (.iload_n 2, 1) := by decide +kernel
theorem dX11_house_32 : decode cX11_house 32 = .ok (.ifCond .ne 12, 3) := by decide +kernel
theorem dX11_house_35 : decode cX11_house 35 = .ok (.aload_n 0, 1) := by decide +kernel
theorem dX11_house_36 : decode cX11_house 36 = .ok (.getfield 42, 3) := by decide +kernel
theorem dX11_house_39 : decode cX11_house 39 = .ok (.iload_n 1, 1) := by decide +kernel
theorem dX11_house_40 : decode cX11_house 40 = .ok (.iaload, 1) := by decide +kernel
theorem dX11_house_41 : decode cX11_house 41 = .ok (.goto 49, 3) := by decide +kernel
theorem dX11_house_44 : decode cX11_house 44 = .ok (.iload_n 2, 1) := by decide +kernel
theorem dX11_house_45 : decode cX11_house 45 = .ok (.iconst 1, 1) := by decide +kernel
theorem dX11_house_46 : decode cX11_house 46 = .ok (.if_icmp .ne 12, 3) := by decide +kernel
theorem dX11_house_49 : decode cX11_house 49 = .ok (.aload_n 0, 1) := by decide +kernel
theorem dX11_house_50 : decode cX11_house 50 = .ok (.getfield 76, 3) := by decide +kernel
theorem dX11_house_53 : decode cX11_house 53 = .ok (.iload_n 1, 1) := by decide +kernel
theorem dX11_house_54 : decode cX11_house 54 = .ok (.iaload, 1) := by decide +kernel
theorem dX11_house_55 : decode cX11_house 55 = .ok (.goto 35, 3) := by decide +kernel
theorem dX11_house_58 : decode cX11_house 58 = .ok (.iload_n 2, 1) := by decide +kernel
theorem dX11_house_59 : decode cX11_house 59 = .ok (.iconst 2, 1) := by decide +kernel
theorem dX11_house_60 : decode cX11_house 60 = .ok (.if_icmp .ne 12, 3) := by decide +kernel
theorem dX11_house_63 : decode cX11_house 63 = .ok (.aload_n 0, 1) := by decide +kernel
theorem dX11_house_64 : decode cX11_house 64 = .ok (.getfield 79, 3) := by decide +kernel
theorem dX11_house_67 : decode cX11_house 67 = .ok (.iload_n 1, 1) := by decide +kernel
theorem dX11_house_68 : decode cX11_house 68 = .ok (.iaload, 1) := by decide +kernel
theorem dX11_house_69 : decode cX11_house 69 = .ok (.goto 21, 3) := by decide +kernel
theorem dX11_house_72 : decode cX11_house 72 = .ok (.iload_n 2, 1) := by decide +kernel
theorem dX11_house_73 : decode cX11_house 73 = .ok (.iconst 3, 1) := by decide +kernel
theorem dX11_house_74 : decode cX11_house 74 = .ok (.if_icmp .ne 11, 3) := by decide +kernel
theorem dX11_house_77 : decode cX11_house 77 = .ok (.aload_n 0, 1) := by decide +kernel
theorem dX11_house_78 : decode cX11_house 78 = .ok (.iload_n 1, 1) := by decide +kernel
theorem dX11_house_79 : decode cX11_house 79 = .ok (.invokevirtual 322, 3) := by decide +kernel
theorem dX11_house_82 : decode cX11_house 82 = .ok (.goto 8, 3) := by decide +kernel
theorem dX11_house_85 : decode cX11_house 85 = .ok (.aload_n 0, 1) := by decide +kernel
theorem dX11_house_86 : decode cX11_house 86 = .ok (.iload_n 1, 1) := by decide +kernel
theorem dX11_house_87 : decode cX11_house 87 = .ok (.invokevirtual 358, 3) := by decide +kernel
theorem dX11_house_90 : decode cX11_house 90 = .ok (.ireturn, 1) := by decide +kernel
theorem dX11_hoursOf_0 : decode cX11_hoursOf 0 = .ok (.iconst 0, 1) := by decide +kernel
theorem dX11_hoursOf_1 : decode cX11_hoursOf 1 = .ok (.istore_n 2, 1) := by decide +kernel
theorem dX11_hoursOf_2 : decode cX11_hoursOf 2 = .ok (.iconst 0, 1) := by decide +kernel
theorem dX11_hoursOf_3 : decode cX11_hoursOf 3 = .ok (.istore_n 3, 1) := by decide +kernel
theorem dX11_hoursOf_4 : decode cX11_hoursOf 4 = .ok (.iload_n 3, 1) := by decide +kernel
theorem dX11_hoursOf_5 : decode cX11_hoursOf 5 = .ok (.bipush 24, 2) := by decide +kernel
theorem dX11_hoursOf_7 : decode cX11_hoursOf 7 = .ok (.if_icmp .ge 28, 3) := by decide +kernel
theorem dX11_hoursOf_10 : decode cX11_hoursOf 10 = .ok (.iload_n 2, 1) := by decide +kernel
theorem dX11_hoursOf_11 : decode cX11_hoursOf 11 = .ok (.aload_n 0, 1) := by decide +kernel
theorem dX11_hoursOf_12 : decode cX11_hoursOf 12 = .ok (.iload_n 1, 1) := by decide +kernel
theorem dX11_hoursOf_13 : decode cX11_hoursOf 13 = .ok (.iload_n 3, 1) := by decide +kernel
theorem dX11_hoursOf_14 : decode cX11_hoursOf 14 = .ok (.invokevirtual 340, 3) := by decide +kernel
theorem dX11_hoursOf_17 : decode cX11_hoursOf 17 = .ok (.ifCond .eq 9, 3) := by decide +kernel
theorem dX11_hoursOf_20 : decode cX11_hoursOf 20 = .ok (.iconst 1, 1) := by decide +kernel
theorem dX11_hoursOf_21 : decode cX11_hoursOf 21 = .ok (.iload_n 3, 1) := by decide +kernel
theorem dX11_hoursOf_22 : decode cX11_hoursOf 22 = .ok (.ishl, 1) := by decide +kernel
theorem dX11_hoursOf_23 : decode cX11_hoursOf 23 = .ok (.goto 4, 3) := by decide +kernel
theorem dX11_hoursOf_26 : decode cX11_hoursOf 26 = .ok (.iconst 0, 1) := by decide +kernel
theorem dX11_hoursOf_27 : decode cX11_hoursOf 27 = .ok (.ior, 1) := by decide +kernel
theorem dX11_hoursOf_28 : decode cX11_hoursOf 28 = .ok (.istore_n 2, 1) := by decide +kernel
theorem dX11_hoursOf_29 : decode cX11_hoursOf 29 = .ok (.iinc 3 1, 3) := by decide +kernel
theorem dX11_hoursOf_32 : decode cX11_hoursOf 32 = .ok (.goto (-28), 3) := by decide +kernel
theorem dX11_hoursOf_35 : decode cX11_hoursOf 35 = .ok (.iload_n 2, 1) := by decide +kernel
theorem dX11_hoursOf_36 : decode cX11_hoursOf 36 = .ok (.ireturn, 1) := by decide +kernel
theorem dX11_lamp_0 : decode cX11_lamp 0 = .ok (.aload_n 0, 1) := by decide +kernel
theorem dX11_lamp_1 : decode cX11_lamp 1 = .ok (.iconst 0, 1) := by decide +kernel
theorem dX11_lamp_2 : decode cX11_lamp 2 = .ok (.putfield 142, 3) := by decide +kernel
theorem dX11_lamp_5 : decode cX11_lamp 5 = .ok (.aload_n 0, 1) := by decide +kernel
theorem dX11_lamp_6 : decode cX11_lamp 6 = .ok (.iload_n 1, 1) := by decide +kernel
theorem dX11_lamp_7 : decode cX11_lamp 7 = .ok (.invokevirtual 384, 3) := by decide +kernel
theorem dX11_lamp_10 : decode cX11_lamp 10 = .ok (.ifCond .ne 9, 3) := by decide +kernel
theorem dX11_lamp_13 : decode cX11_lamp 13 = .ok (.aload_n 0, 1) := by decide +kernel
theorem dX11_lamp_14 : decode cX11_lamp 14 = .ok (.iconst 1, 1) := by decide +kernel
theorem dX11_lamp_15 : decode cX11_lamp 15 = .ok (.invokevirtual 281, 3) := by decide +kernel
theorem dX11_lamp_18 : decode cX11_lamp 18 = .ok (.ireturn, 1) := by decide +kernel
theorem dX11_lamp_19 : decode cX11_lamp 19 = .ok (.iload_n 2, 1) := by decide +kernel
theorem dX11_lamp_20 : decode cX11_lamp 20 = .ok (.tableswitch 110 0 6 #[44, 51, 58, 65, 74, 83, 104], 44) := by decide +kernel
theorem dX11_lamp_64 : decode cX11_lamp 64 = .ok (.aload_n 0, 1) := by decide +kernel
theorem dX11_lamp_65 : decode cX11_lamp 65 = .ok (.getfield 74, 3) := by decide +kernel
theorem dX11_lamp_68 : decode cX11_lamp 68 = .ok (.iload_n 1, 1) := by decide +kernel
theorem dX11_lamp_69 : decode cX11_lamp 69 = .ok (.iaload, 1) := by decide +kernel
theorem dX11_lamp_70 : decode cX11_lamp 70 = .ok (.ireturn, 1) := by decide +kernel
theorem dX11_lamp_71 : decode cX11_lamp 71 = .ok (.aload_n 0, 1) := by decide +kernel
theorem dX11_lamp_72 : decode cX11_lamp 72 = .ok (.getfield 72, 3) := by decide +kernel
theorem dX11_lamp_75 : decode cX11_lamp 75 = .ok (.iload_n 1, 1) := by decide +kernel
theorem dX11_lamp_76 : decode cX11_lamp 76 = .ok (.iaload, 1) := by decide +kernel
theorem dX11_lamp_77 : decode cX11_lamp 77 = .ok (.ireturn, 1) := by decide +kernel
theorem dX11_lamp_78 : decode cX11_lamp 78 = .ok (.aload_n 0, 1) := by decide +kernel
theorem dX11_lamp_79 : decode cX11_lamp 79 = .ok (.getfield 56, 3) := by decide +kernel
theorem dX11_lamp_82 : decode cX11_lamp 82 = .ok (.iload_n 1, 1) := by decide +kernel
theorem dX11_lamp_83 : decode cX11_lamp 83 = .ok (.iaload, 1) := by decide +kernel
theorem dX11_lamp_84 : decode cX11_lamp 84 = .ok (.ireturn, 1) := by decide +kernel
theorem dX11_lamp_85 : decode cX11_lamp 85 = .ok (.aload_n 0, 1) := by decide +kernel
theorem dX11_lamp_86 : decode cX11_lamp 86 = .ok (.getfield 296, 3) := by decide +kernel
theorem dX11_lamp_89 : decode cX11_lamp 89 = .ok (.iload_n 1, 1) := by decide +kernel
theorem dX11_lamp_90 : decode cX11_lamp 90 = .ok (.ishr, 1) := by decide +kernel
theorem dX11_lamp_91 : decode cX11_lamp 91 = .ok (.iconst 1, 1) := by decide +kernel
theorem dX11_lamp_92 : decode cX11_lamp 92 = .ok (.iand, 1) := by decide +kernel
theorem dX11_lamp_93 : decode cX11_lamp 93 = .ok (.ireturn, 1) := by decide +kernel
theorem dX11_lamp_94 : decode cX11_lamp 94 = .ok (.aload_n 0, 1) := by decide +kernel
theorem dX11_lamp_95 : decode cX11_lamp 95 = .ok (.getfield 299, 3) := by decide +kernel
theorem dX11_lamp_98 : decode cX11_lamp 98 = .ok (.iload_n 1, 1) := by decide +kernel
theorem dX11_lamp_99 : decode cX11_lamp 99 = .ok (.ishr, 1) := by decide +kernel
theorem dX11_lamp_100 : decode cX11_lamp 100 = .ok (.iconst 1, 1) := by decide +kernel
theorem dX11_lamp_101 : decode cX11_lamp 101 = .ok (.iand, 1) := by decide +kernel
theorem dX11_lamp_102 : decode cX11_lamp 102 = .ok (.ireturn, 1) := by decide +kernel
theorem dX11_lamp_103 : decode cX11_lamp 103 = .ok (.aload_n 0, 1) := by decide +kernel
theorem dX11_lamp_104 : decode cX11_lamp 104 = .ok (.iload_n 1, 1) := by decide +kernel
theorem dX11_lamp_105 : decode cX11_lamp 105 = .ok (.aload_n 0, 1) := by decide +kernel
theorem dX11_lamp_106 : decode cX11_lamp 106 = .ok (.getfield 294, 3) := by decide +kernel
theorem dX11_lamp_109 : decode cX11_lamp 109 = .ok (.bipush 24, 2) := by decide +kernel
theorem dX11_lamp_111 : decode cX11_lamp 111 = .ok (.irem, 1) := by decide +kernel
theorem dX11_lamp_112 : decode cX11_lamp 112 = .ok (.invokevirtual 340, 3) := by decide +kernel
theorem dX11_lamp_115 : decode cX11_lamp 115 = .ok (.ifCond .eq 7, 3) := by decide +kernel
theorem dX11_lamp_118 : decode cX11_lamp 118 = .ok (.iconst 1, 1) := by decide +kernel
theorem dX11_lamp_119 : decode cX11_lamp 119 = .ok (.goto 4, 3) := by decide +kernel
theorem dX11_lamp_122 : decode cX11_lamp 122 = .ok (.iconst 0, 1) := by decide +kernel
theorem dX11_lamp_123 : decode cX11_lamp 123 = .ok (.ireturn, 1) := by decide +kernel
theorem dX11_lamp_124 : decode cX11_lamp 124 = .ok (.aload_n 0, 1) := by decide +kernel
theorem dX11_lamp_125 : decode cX11_lamp 125 = .ok (.iload_n 1, 1) := by decide +kernel
theorem dX11_lamp_126 : decode cX11_lamp 126 = .ok (.invokevirtual 387, 3) := by decide +kernel
theorem dX11_lamp_129 : decode cX11_lamp 129 = .ok (.ireturn, 1) := by decide +kernel
theorem dX11_lamp_130 : decode cX11_lamp 130 = .ok (.aload_n 0, 1) := by decide +kernel
theorem dX11_lamp_131 : decode cX11_lamp 131 = .ok (.iconst 1, 1) := by decide +kernel
theorem dX11_lamp_132 : decode cX11_lamp 132 = .ok (.invokevirtual 281, 3) := by decide +kernel
theorem dX11_lamp_135 : decode cX11_lamp 135 = .ok (.ireturn, 1) := by decide +kernel
theorem dX11_refuse_0 : decode cX11_refuse 0 = .ok (.aload_n 0, 1) := by decide +kernel
theorem dX11_refuse_1 : decode cX11_refuse 1 = .ok (.getfield 62, 3) := by decide +kernel
theorem dX11_refuse_4 : decode cX11_refuse 4 = .ok (.iload_n 1, 1) := by decide +kernel
theorem dX11_refuse_5 : decode cX11_refuse 5 = .ok (.dup2, 1) := by decide +kernel
theorem dX11_refuse_6 : decode cX11_refuse 6 = .ok (.iaload, 1) := by decide +kernel
theorem dX11_refuse_7 : decode cX11_refuse 7 = .ok (.iconst 1, 1) := by decide +kernel
theorem dX11_refuse_8 : decode cX11_refuse 8 = .ok (.iadd, 1) := by decide +kernel
theorem dX11_refuse_9 : decode cX11_refuse 9 = .ok (.iastore, 1) := by decide +kernel
theorem dX11_refuse_10 : decode cX11_refuse 10 = .ok (.iconst (-1), 1) := by decide +kernel
theorem dX11_refuse_11 : decode cX11_refuse 11 = .ok (.ireturn, 1) := by decide +kernel
theorem dX11_keep_0 : decode cX11_keep 0 = .ok (.aload_n 0, 1) := by decide +kernel
theorem dX11_keep_1 : decode cX11_keep 1 = .ok (.getfield 302, 3) := by decide +kernel
theorem dX11_keep_4 : decode cX11_keep 4 = .ok (.bipush 40, 2) := by decide +kernel
theorem dX11_keep_6 : decode cX11_keep 6 = .ok (.if_icmp .ne 46, 3) := by decide +kernel
theorem dX11_keep_9 : decode cX11_keep 9 = .ok (.bipush 43, 2) := by decide +kernel
theorem dX11_keep_11 : decode cX11_keep 11 = .ok (.istore_n 1, 1) := by decide +kernel
theorem dX11_keep_12 : decode cX11_keep 12 = .ok (.iload_n 1, 1) := by decide +kernel
theorem dX11_keep_13 : decode cX11_keep 13 = .ok (.aload_n 0, 1) := by decide +kernel
theorem dX11_keep_14 : decode cX11_keep 14 = .ok (.getfield 82, 3) := by decide +kernel
theorem dX11_keep_17 : decode cX11_keep 17 = .ok (.arraylength, 1) := by decide +kernel
theorem dX11_keep_18 : decode cX11_keep 18 = .ok (.if_icmp .ge 24, 3) := by decide +kernel
theorem dX11_keep_21 : decode cX11_keep 21 = .ok (.aload_n 0, 1) := by decide +kernel
theorem dX11_keep_22 : decode cX11_keep 22 = .ok (.getfield 82, 3) := by decide +kernel
theorem dX11_keep_25 : decode cX11_keep 25 = .ok (.iload_n 1, 1) := by decide +kernel
theorem dX11_keep_26 : decode cX11_keep 26 = .ok (.bipush 43, 2) := by decide +kernel
theorem dX11_keep_28 : decode cX11_keep 28 = .ok (.isub, 1) := by decide +kernel
theorem dX11_keep_29 : decode cX11_keep 29 = .ok (.aload_n 0, 1) := by decide +kernel
theorem dX11_keep_30 : decode cX11_keep 30 = .ok (.getfield 82, 3) := by decide +kernel
theorem dX11_keep_33 : decode cX11_keep 33 = .ok (.iload_n 1, 1) := by decide +kernel
theorem dX11_keep_34 : decode cX11_keep 34 = .ok (.iaload, 1) := by decide +kernel
theorem dX11_keep_35 : decode cX11_keep 35 = .ok (.iastore, 1) := by decide +kernel
theorem dX11_keep_36 : decode cX11_keep 36 = .ok (.iinc 1 1, 3) := by decide +kernel
theorem dX11_keep_39 : decode cX11_keep 39 = .ok (.goto (-27), 3) := by decide +kernel
theorem dX11_keep_42 : decode cX11_keep 42 = .ok (.aload_n 0, 1) := by decide +kernel
theorem dX11_keep_43 : decode cX11_keep 43 = .ok (.dup, 1) := by decide +kernel
theorem dX11_keep_44 : decode cX11_keep 44 = .ok (.getfield 302, 3) := by decide +kernel
theorem dX11_keep_47 : decode cX11_keep 47 = .ok (.iconst 1, 1) := by decide +kernel
theorem dX11_keep_48 : decode cX11_keep 48 = .ok (.isub, 1) := by decide +kernel
theorem dX11_keep_49 : decode cX11_keep 49 = .ok (.putfield 302, 3) := by decide +kernel
theorem dX11_keep_52 : decode cX11_keep 52 = .ok (.aload_n 0, 1) := by decide +kernel
theorem dX11_keep_53 : decode cX11_keep 53 = .ok (.aload_n 0, 1) := by decide +kernel
theorem dX11_keep_54 : decode cX11_keep 54 = .ok (.getfield 82, 3) := by decide +kernel
theorem dX11_keep_57 : decode cX11_keep 57 = .ok (.bipush 43, 2) := by decide +kernel
theorem dX11_keep_59 : decode cX11_keep 59 = .ok (.aload_n 0, 1) := by decide +kernel
theorem dX11_keep_60 : decode cX11_keep 60 = .ok (.getfield 302, 3) := by decide +kernel
theorem dX11_keep_63 : decode cX11_keep 63 = .ok (.imul, 1) := by decide +kernel
theorem dX11_keep_64 : decode cX11_keep 64 = .ok (.invokevirtual 390, 3) := by decide +kernel
theorem dX11_keep_67 : decode cX11_keep 67 = .ok (.aload_n 0, 1) := by decide +kernel
theorem dX11_keep_68 : decode cX11_keep 68 = .ok (.dup, 1) := by decide +kernel
theorem dX11_keep_69 : decode cX11_keep 69 = .ok (.getfield 302, 3) := by decide +kernel
theorem dX11_keep_72 : decode cX11_keep 72 = .ok (.iconst 1, 1) := by decide +kernel
theorem dX11_keep_73 : decode cX11_keep 73 = .ok (.iadd, 1) := by decide +kernel
theorem dX11_keep_74 : decode cX11_keep 74 = .ok (.putfield 302, 3) := by decide +kernel
theorem dX11_keep_77 : decode cX11_keep 77 = .ok (.return_, 1) := by decide +kernel
theorem dX11_hours_0 : decode cX11_hours 0 = .ok (.aload_n 0, 1) := by decide +kernel
theorem dX11_hours_1 : decode cX11_hours 1 = .ok (.iconst 0, 1) := by decide +kernel
theorem dX11_hours_2 : decode cX11_hours 2 = .ok (.putfield 142, 3) := by decide +kernel
theorem dX11_hours_5 : decode cX11_hours 5 = .ok (.iload_n 1, 1) := by decide +kernel
theorem dX11_hours_6 : decode cX11_hours 6 = .ok (.i2l, 1) := by decide +kernel
theorem dX11_hours_7 : decode cX11_hours 7 = .ok (.lconst 1, 1) := by decide +kernel
theorem dX11_hours_8 : decode cX11_hours 8 = .ok (.ldc2_w 394, 3) := by decide +kernel
theorem dX11_hours_11 : decode cX11_hours 11 = .ok (.invokestatic 145, 3) := by decide +kernel
theorem dX11_hours_14 : decode cX11_hours 14 = .ok (.ifCond .eq 15, 3) := by decide +kernel
theorem dX11_hours_17 : decode cX11_hours 17 = .ok (.aload_n 0, 1) := by decide +kernel
theorem dX11_hours_18 : decode cX11_hours 18 = .ok (.getfield 294, 3) := by decide +kernel
theorem dX11_hours_21 : decode cX11_hours 21 = .ok (.iload_n 1, 1) := by decide +kernel
theorem dX11_hours_22 : decode cX11_hours 22 = .ok (.iadd, 1) := by decide +kernel
theorem dX11_hours_23 : decode cX11_hours 23 = .ok (.sipush 9999, 3) := by decide +kernel
theorem dX11_hours_26 : decode cX11_hours 26 = .ok (.if_icmp .le 9, 3) := by decide +kernel
theorem dX11_hours_29 : decode cX11_hours 29 = .ok (.aload_n 0, 1) := by decide +kernel
theorem dX11_hours_30 : decode cX11_hours 30 = .ok (.iconst 1, 1) := by decide +kernel
theorem dX11_hours_31 : decode cX11_hours 31 = .ok (.invokevirtual 396, 3) := by decide +kernel
theorem dX11_hours_34 : decode cX11_hours 34 = .ok (.ireturn, 1) := by decide +kernel
theorem dX11_hours_35 : decode cX11_hours 35 = .ok (.aload_n 0, 1) := by decide +kernel
theorem dX11_hours_36 : decode cX11_hours 36 = .ok (.invokevirtual 399, 3) := by decide +kernel
theorem dX11_hours_39 : decode cX11_hours 39 = .ok (.iconst 0, 1) := by decide +kernel
theorem dX11_hours_40 : decode cX11_hours 40 = .ok (.istore_n 2, 1) := by decide +kernel
theorem dX11_hours_41 : decode cX11_hours 41 = .ok (.iload_n 2, 1) := by decide +kernel
theorem dX11_hours_42 : decode cX11_hours 42 = .ok (.iload_n 1, 1) := by decide +kernel
theorem dX11_hours_43 : decode cX11_hours 43 = .ok (.if_icmp .ge 13, 3) := by decide +kernel
theorem dX11_hours_46 : decode cX11_hours 46 = .ok (.aload_n 0, 1) := by decide +kernel
theorem dX11_hours_47 : decode cX11_hours 47 = .ok (.invokevirtual 402, 3) := by decide +kernel
theorem dX11_hours_50 : decode cX11_hours 50 = .ok (.iinc 2 1, 3) := by decide +kernel
theorem dX11_hours_53 : decode cX11_hours 53 = .ok (.goto (-12), 3) := by decide +kernel
theorem dX11_hours_56 : decode cX11_hours 56 = .ok (.aload_n 0, 1) := by decide +kernel
theorem dX11_hours_57 : decode cX11_hours 57 = .ok (.getfield 294, 3) := by decide +kernel
theorem dX11_hours_60 : decode cX11_hours 60 = .ok (.ireturn, 1) := by decide +kernel
theorem dX11_flick_0 : decode cX11_flick 0 = .ok (.aload_n 0, 1) := by decide +kernel
theorem dX11_flick_1 : decode cX11_flick 1 = .ok (.iconst 0, 1) := by decide +kernel
theorem dX11_flick_2 : decode cX11_flick 2 = .ok (.putfield 142, 3) := by decide +kernel
theorem dX11_flick_5 : decode cX11_flick 5 = .ok (.aload_n 0, 1) := by decide +kernel
theorem dX11_flick_6 : decode cX11_flick 6 = .ok (.iload_n 1, 1) := by decide +kernel
theorem dX11_flick_7 : decode cX11_flick 7 = .ok (.invokevirtual 384, 3) := by decide +kernel
theorem dX11_flick_10 : decode cX11_flick 10 = .ok (.ifCond .ne 9, 3) := by decide +kernel
theorem dX11_flick_13 : decode cX11_flick 13 = .ok (.aload_n 0, 1) := by decide +kernel
theorem dX11_flick_14 : decode cX11_flick 14 = .ok (.iconst 1, 1) := by decide +kernel
theorem dX11_flick_15 : decode cX11_flick 15 = .ok (.invokevirtual 281, 3) := by decide +kernel
theorem dX11_flick_18 : decode cX11_flick 18 = .ok (.ireturn, 1) := by decide +kernel
theorem dX11_flick_19 : decode cX11_flick 19 = .ok (.aload_n 0, 1) := by decide +kernel
theorem dX11_flick_20 : decode cX11_flick 20 = .ok (.getfield 296, 3) := by decide +kernel
theorem dX11_flick_23 : decode cX11_flick 23 = .ok (.iload_n 1, 1) := by decide +kernel
theorem dX11_flick_24 : decode cX11_flick 24 = .ok (.invokestatic 334, 3) := by decide +kernel
theorem dX11_flick_27 : decode cX11_flick 27 = .ok (.istore_n 2, 1) := by decide +kernel
theorem dX11_flick_28 : decode cX11_flick 28 = .ok (.iload_n 2, 1) := by decide +kernel
theorem dX11_flick_29 : decode cX11_flick 29 = .ok (.ifCond .ne 17, 3) := by decide +kernel
theorem dX11_flick_32 : decode cX11_flick 32 = .ok (.aload_n 0, 1) := by decide +kernel
theorem dX11_flick_33 : decode cX11_flick 33 = .ok (.iload_n 1, 1) := by decide +kernel
theorem dX11_flick_34 : decode cX11_flick 34 = .ok (.invokevirtual 342, 3) := by decide +kernel
theorem dX11_flick_37 : decode cX11_flick 37 = .ok (.ifCond .ne 9, 3) := by decide +kernel
theorem dX11_flick_40 : decode cX11_flick 40 = .ok (.aload_n 0, 1) := by decide +kernel
theorem dX11_flick_41 : decode cX11_flick 41 = .ok (.iconst 1, 1) := by decide +kernel
theorem dX11_flick_42 : decode cX11_flick 42 = .ok (.invokevirtual 396, 3) := by decide +kernel
theorem dX11_flick_45 : decode cX11_flick 45 = .ok (.ireturn, 1) := by decide +kernel
theorem dX11_flick_46 : decode cX11_flick 46 = .ok (.aload_n 0, 1) := by decide +kernel
theorem dX11_flick_47 : decode cX11_flick 47 = .ok (.invokevirtual 399, 3) := by decide +kernel
theorem dX11_flick_50 : decode cX11_flick 50 = .ok (.aload_n 0, 1) := by decide +kernel
theorem dX11_flick_51 : decode cX11_flick 51 = .ok (.iload_n 1, 1) := by decide +kernel
theorem dX11_flick_52 : decode cX11_flick 52 = .ok (.iload_n 2, 1) := by decide +kernel
theorem dX11_flick_53 : decode cX11_flick 53 = .ok (.ifCond .ne 7, 3) := by decide +kernel
theorem dX11_flick_56 : decode cX11_flick 56 = .ok (.iconst 1, 1) := by decide +kernel
theorem dX11_flick_57 : decode cX11_flick 57 = .ok (.goto 4, 3) := by decide +kernel
theorem dX11_flick_60 : decode cX11_flick 60 = .ok (.iconst 0, 1) := by decide +kernel
theorem dX11_flick_61 : decode cX11_flick 61 = .ok (.invokevirtual 345, 3) := by decide +kernel
theorem dX11_flick_64 : decode cX11_flick 64 = .ok (.iload_n 2, 1) := by decide +kernel
theorem dX11_flick_65 : decode cX11_flick 65 = .ok (.ifCond .eq 7, 3) := by decide +kernel
theorem dX11_flick_68 : decode cX11_flick 68 = .ok (.iconst 0, 1) := by decide +kernel
theorem dX11_flick_69 : decode cX11_flick 69 = .ok (.goto 4, 3) := by decide +kernel
theorem dX11_flick_72 : decode cX11_flick 72 = .ok (.iconst 1, 1) := by decide +kernel
theorem dX11_flick_73 : decode cX11_flick 73 = .ok (.ireturn, 1) := by decide +kernel
theorem dX11_trim_0 : decode cX11_trim 0 = .ok (.aload_n 0, 1) := by decide +kernel
theorem dX11_trim_1 : decode cX11_trim 1 = .ok (.iconst 0, 1) := by decide +kernel
theorem dX11_trim_2 : decode cX11_trim 2 = .ok (.putfield 142, 3) := by decide +kernel
theorem dX11_trim_5 : decode cX11_trim 5 = .ok (.aload_n 0, 1) := by decide +kernel
theorem dX11_trim_6 : decode cX11_trim 6 = .ok (.iload_n 1, 1) := by decide +kernel
theorem dX11_trim_7 : decode cX11_trim 7 = .ok (.invokevirtual 384, 3) := by decide +kernel
theorem dX11_trim_10 : decode cX11_trim 10 = .ok (.ifCond .ne 9, 3) := by decide +kernel
theorem dX11_trim_13 : decode cX11_trim 13 = .ok (.aload_n 0, 1) := by decide +kernel
theorem dX11_trim_14 : decode cX11_trim 14 = .ok (.iconst 1, 1) := by decide +kernel
theorem dX11_trim_15 : decode cX11_trim 15 = .ok (.invokevirtual 281, 3) := by decide +kernel
theorem dX11_trim_18 : decode cX11_trim 18 = .ok (.ireturn, 1) := by decide +kernel
theorem dX11_trim_19 : decode cX11_trim 19 = .ok (.iload_n 2, 1) := by decide +kernel
theorem dX11_trim_20 : decode cX11_trim 20 = .ok (.i2l, 1) := by decide +kernel
theorem dX11_trim_21 : decode cX11_trim 21 = .ok (.lconst 0, 1) := by decide +kernel
theorem dX11_trim_22 : decode cX11_trim 22 = .ok (.ldc2_w 405, 3) := by decide +kernel
theorem dX11_trim_25 : decode cX11_trim 25 = .ok (.invokestatic 145, 3) := by decide +kernel
theorem dX11_trim_28 : decode cX11_trim 28 = .ok (.ifCond .ne 9, 3) := by decide +kernel
theorem dX11_trim_31 : decode cX11_trim 31 = .ok (.aload_n 0, 1) := by decide +kernel
theorem dX11_trim_32 : decode cX11_trim 32 = .ok (.iconst 1, 1) := by decide +kernel
theorem dX11_trim_33 : decode cX11_trim 33 = .ok (.invokevirtual 396, 3) := by decide +kernel
theorem dX11_trim_36 : decode cX11_trim 36 = .ok (.ireturn, 1) := by decide +kernel
theorem dX11_trim_37 : decode cX11_trim 37 = .ok (.aload_n 0, 1) := by decide +kernel
theorem dX11_trim_38 : decode cX11_trim 38 = .ok (.invokevirtual 399, 3) := by decide +kernel
theorem dX11_trim_41 : decode cX11_trim 41 = .ok (.aload_n 0, 1) := by decide +kernel
theorem dX11_trim_42 : decode cX11_trim 42 = .ok (.getfield 72, 3) := by decide +kernel
theorem dX11_trim_45 : decode cX11_trim 45 = .ok (.iload_n 1, 1) := by decide +kernel
theorem dX11_trim_46 : decode cX11_trim 46 = .ok (.iaload, 1) := by decide +kernel
theorem dX11_trim_47 : decode cX11_trim 47 = .ok (.istore_n 3, 1) := by decide +kernel
theorem dX11_trim_48 : decode cX11_trim 48 = .ok (.aload_n 0, 1) := by decide +kernel
theorem dX11_trim_49 : decode cX11_trim 49 = .ok (.getfield 72, 3) := by decide +kernel
theorem dX11_trim_52 : decode cX11_trim 52 = .ok (.iload_n 1, 1) := by decide +kernel
theorem dX11_trim_53 : decode cX11_trim 53 = .ok (.iload_n 2, 1) := by decide +kernel
theorem dX11_trim_54 : decode cX11_trim 54 = .ok (.iastore, 1) := by decide +kernel
theorem dX11_trim_55 : decode cX11_trim 55 = .ok (.iload_n 2, 1) := by decide +kernel
theorem dX11_trim_56 : decode cX11_trim 56 = .ok (.ifCond .ne 9, 3) := by decide +kernel
theorem dX11_trim_59 : decode cX11_trim 59 = .ok (.aload_n 0, 1) := by decide +kernel
theorem dX11_trim_60 : decode cX11_trim 60 = .ok (.iload_n 1, 1) := by decide +kernel
theorem dX11_trim_61 : decode cX11_trim 61 = .ok (.iconst 0, 1) := by decide +kernel
theorem dX11_trim_62 : decode cX11_trim 62 = .ok (.invokevirtual 345, 3) := by decide +kernel
theorem dX11_trim_65 : decode cX11_trim 65 = .ok (.iload_n 3, 1) := by decide +kernel
theorem dX11_trim_66 : decode cX11_trim 66 = .ok (.ireturn, 1) := by decide +kernel
theorem dX11_smash_0 : decode cX11_smash 0 = .ok (.aload_n 0, 1) := by decide +kernel
theorem dX11_smash_1 : decode cX11_smash 1 = .ok (.dup, 1) := by decide +kernel
theorem dX11_smash_2 : decode cX11_smash 2 = .ok (.getfield 299, 3) := by decide +kernel
theorem dX11_smash_5 : decode cX11_smash 5 = .ok (.iconst 1, 1) := by decide +kernel
theorem dX11_smash_6 : decode cX11_smash 6 = .ok (.iload_n 1, 1) := by decide +kernel
theorem dX11_smash_7 : decode cX11_smash 7 = .ok (.ishl, 1) := by decide +kernel
theorem dX11_smash_8 : decode cX11_smash 8 = .ok (.ior, 1) := by decide +kernel
theorem dX11_smash_9 : decode cX11_smash 9 = .ok (.putfield 299, 3) := by decide +kernel
theorem dX11_smash_12 : decode cX11_smash 12 = .ok (.aload_n 0, 1) := by decide +kernel
theorem dX11_smash_13 : decode cX11_smash 13 = .ok (.iload_n 1, 1) := by decide +kernel
theorem dX11_smash_14 : decode cX11_smash 14 = .ok (.iconst 0, 1) := by decide +kernel
theorem dX11_smash_15 : decode cX11_smash 15 = .ok (.invokevirtual 345, 3) := by decide +kernel
theorem dX11_smash_18 : decode cX11_smash 18 = .ok (.return_, 1) := by decide +kernel
theorem dX11_breaks_0 : decode cX11_breaks 0 = .ok (.aload_n 0, 1) := by decide +kernel
theorem dX11_breaks_1 : decode cX11_breaks 1 = .ok (.iconst 0, 1) := by decide +kernel
theorem dX11_breaks_2 : decode cX11_breaks 2 = .ok (.putfield 142, 3) := by decide +kernel
theorem dX11_breaks_5 : decode cX11_breaks 5 = .ok (.aload_n 0, 1) := by decide +kernel
theorem dX11_breaks_6 : decode cX11_breaks 6 = .ok (.iload_n 1, 1) := by decide +kernel
theorem dX11_breaks_7 : decode cX11_breaks 7 = .ok (.invokevirtual 384, 3) := by decide +kernel
theorem dX11_breaks_10 : decode cX11_breaks 10 = .ok (.ifCond .ne 9, 3) := by decide +kernel
theorem dX11_breaks_13 : decode cX11_breaks 13 = .ok (.aload_n 0, 1) := by decide +kernel
theorem dX11_breaks_14 : decode cX11_breaks 14 = .ok (.iconst 1, 1) := by decide +kernel
theorem dX11_breaks_15 : decode cX11_breaks 15 = .ok (.invokevirtual 407, 3) := by decide +kernel
theorem dX11_breaks_18 : decode cX11_breaks 18 = .ok (.ireturn, 1) := by decide +kernel
theorem dX11_breaks_19 : decode cX11_breaks 19 = .ok (.aload_n 0, 1) := by decide +kernel
theorem dX11_breaks_20 : decode cX11_breaks 20 = .ok (.getfield 299, 3) := by decide +kernel
theorem dX11_breaks_23 : decode cX11_breaks 23 = .ok (.iload_n 1, 1) := by decide +kernel
theorem dX11_breaks_24 : decode cX11_breaks 24 = .ok (.invokestatic 334, 3) := by decide +kernel
theorem dX11_breaks_27 : decode cX11_breaks 27 = .ok (.ifCond .eq 15, 3) := by decide +kernel
theorem dX11_breaks_30 : decode cX11_breaks 30 = .ok (.aload_n 0, 1) := by decide +kernel
theorem dX11_breaks_31 : decode cX11_breaks 31 = .ok (.getfield 62, 3) := by decide +kernel
theorem dX11_breaks_34 : decode cX11_breaks 34 = .ok (.iconst 1, 1) := by decide +kernel
theorem dX11_breaks_35 : decode cX11_breaks 35 = .ok (.dup2, 1) := by decide +kernel
theorem dX11_breaks_36 : decode cX11_breaks 36 = .ok (.iaload, 1) := by decide +kernel
theorem dX11_breaks_37 : decode cX11_breaks 37 = .ok (.iconst 1, 1) := by decide +kernel
theorem dX11_breaks_38 : decode cX11_breaks 38 = .ok (.iadd, 1) := by decide +kernel
theorem dX11_breaks_39 : decode cX11_breaks 39 = .ok (.iastore, 1) := by decide +kernel
theorem dX11_breaks_40 : decode cX11_breaks 40 = .ok (.iconst 0, 1) := by decide +kernel
theorem dX11_breaks_41 : decode cX11_breaks 41 = .ok (.ireturn, 1) := by decide +kernel
theorem dX11_breaks_42 : decode cX11_breaks 42 = .ok (.aload_n 0, 1) := by decide +kernel
theorem dX11_breaks_43 : decode cX11_breaks 43 = .ok (.invokevirtual 399, 3) := by decide +kernel
theorem dX11_breaks_46 : decode cX11_breaks 46 = .ok (.aload_n 0, 1) := by decide +kernel
theorem dX11_breaks_47 : decode cX11_breaks 47 = .ok (.iload_n 1, 1) := by decide +kernel
theorem dX11_breaks_48 : decode cX11_breaks 48 = .ok (.invokevirtual 410, 3) := by decide +kernel
theorem dX11_breaks_51 : decode cX11_breaks 51 = .ok (.iconst 1, 1) := by decide +kernel
theorem dX11_breaks_52 : decode cX11_breaks 52 = .ok (.ireturn, 1) := by decide +kernel
theorem dX11_give_0 : decode cX11_give 0 = .ok (.aload_n 0, 1) := by decide +kernel
theorem dX11_give_1 : decode cX11_give 1 = .ok (.iconst 0, 1) := by decide +kernel
theorem dX11_give_2 : decode cX11_give 2 = .ok (.putfield 142, 3) := by decide +kernel
theorem dX11_give_5 : decode cX11_give 5 = .ok (.aload_n 0, 1) := by decide +kernel
theorem dX11_give_6 : decode cX11_give 6 = .ok (.iload_n 1, 1) := by decide +kernel
theorem dX11_give_7 : decode cX11_give 7 = .ok (.invokevirtual 384, 3) := by decide +kernel
theorem dX11_give_10 : decode cX11_give 10 = .ok (.ifCond .eq 11, 3) := by decide +kernel
theorem dX11_give_13 : decode cX11_give 13 = .ok (.aload_n 0, 1) := by decide +kernel
theorem dX11_give_14 : decode cX11_give 14 = .ok (.iload_n 2, 1) := by decide +kernel
theorem dX11_give_15 : decode cX11_give 15 = .ok (.invokevirtual 379, 3) := by decide +kernel
theorem dX11_give_18 : decode cX11_give 18 = .ok (.ifCond .ne 9, 3) := by decide +kernel
theorem dX11_give_21 : decode cX11_give 21 = .ok (.aload_n 0, 1) := by decide +kernel
theorem dX11_give_22 : decode cX11_give 22 = .ok (.iconst 1, 1) := by decide +kernel
theorem dX11_give_23 : decode cX11_give 23 = .ok (.invokevirtual 281, 3) := by decide +kernel
theorem dX11_give_26 : decode cX11_give 26 = .ok (.ireturn, 1) := by decide +kernel
theorem dX11_give_27 : decode cX11_give 27 = .ok (.aload_n 0, 1) := by decide +kernel
theorem dX11_give_28 : decode cX11_give 28 = .ok (.getfield 74, 3) := by decide +kernel
theorem dX11_give_31 : decode cX11_give 31 = .ok (.iload_n 1, 1) := by decide +kernel
theorem dX11_give_32 : decode cX11_give 32 = .ok (.iaload, 1) := by decide +kernel
theorem dX11_give_33 : decode cX11_give 33 = .ok (.iload_n 2, 1) := by decide +kernel
theorem dX11_give_34 : decode cX11_give 34 = .ok (.if_icmp .ne 9, 3) := by decide +kernel
theorem dX11_give_37 : decode cX11_give 37 = .ok (.aload_n 0, 1) := by decide +kernel
theorem dX11_give_38 : decode cX11_give 38 = .ok (.iconst 1, 1) := by decide +kernel
theorem dX11_give_39 : decode cX11_give 39 = .ok (.invokevirtual 396, 3) := by decide +kernel
theorem dX11_give_42 : decode cX11_give 42 = .ok (.ireturn, 1) := by decide +kernel
theorem dX11_give_43 : decode cX11_give 43 = .ok (.aload_n 0, 1) := by decide +kernel
theorem dX11_give_44 : decode cX11_give 44 = .ok (.invokevirtual 399, 3) := by decide +kernel
theorem dX11_give_47 : decode cX11_give 47 = .ok (.aload_n 0, 1) := by decide +kernel
theorem dX11_give_48 : decode cX11_give 48 = .ok (.getfield 74, 3) := by decide +kernel
theorem dX11_give_51 : decode cX11_give 51 = .ok (.iload_n 1, 1) := by decide +kernel
theorem dX11_give_52 : decode cX11_give 52 = .ok (.iaload, 1) := by decide +kernel
theorem dX11_give_53 : decode cX11_give 53 = .ok (.istore_n 3, 1) := by decide +kernel
theorem dX11_give_54 : decode cX11_give 54 = .ok (.aload_n 0, 1) := by decide +kernel
theorem dX11_give_55 : decode cX11_give 55 = .ok (.getfield 74, 3) := by decide +kernel
theorem dX11_give_58 : decode cX11_give 58 = .ok (.iload_n 1, 1) := by decide +kernel
theorem dX11_give_59 : decode cX11_give 59 = .ok (.iload_n 2, 1) := by decide +kernel
theorem dX11_give_60 : decode cX11_give 60 = .ok (.iastore, 1) := by decide +kernel
theorem dX11_give_61 : decode cX11_give 61 = .ok (.iload_n 3, 1) := by decide +kernel
theorem dX11_give_62 : decode cX11_give 62 = .ok (.ireturn, 1) := by decide +kernel
theorem dX11_sleep_0 : decode cX11_sleep 0 = .ok (.aload_n 0, 1) := by decide +kernel
theorem dX11_sleep_1 : decode cX11_sleep 1 = .ok (.iconst 0, 1) := by decide +kernel
theorem dX11_sleep_2 : decode cX11_sleep 2 = .ok (.putfield 142, 3) := by decide +kernel
theorem dX11_sleep_5 : decode cX11_sleep 5 = .ok (.aload_n 0, 1) := by decide +kernel
theorem dX11_sleep_6 : decode cX11_sleep 6 = .ok (.iload_n 1, 1) := by decide +kernel
theorem dX11_sleep_7 : decode cX11_sleep 7 = .ok (.invokevirtual 379, 3) := by decide +kernel
theorem dX11_sleep_10 : decode cX11_sleep 10 = .ok (.ifCond .ne 9, 3) := by decide +kernel
theorem dX11_sleep_13 : decode cX11_sleep 13 = .ok (.aload_n 0, 1) := by decide +kernel
theorem dX11_sleep_14 : decode cX11_sleep 14 = .ok (.iconst 1, 1) := by decide +kernel
theorem dX11_sleep_15 : decode cX11_sleep 15 = .ok (.invokevirtual 281, 3) := by decide +kernel
theorem dX11_sleep_18 : decode cX11_sleep 18 = .ok (.ireturn, 1) := by decide +kernel
theorem dX11_sleep_19 : decode cX11_sleep 19 = .ok (.iload_n 2, 1) := by decide +kernel
theorem dX11_sleep_20 : decode cX11_sleep 20 = .ok (.i2l, 1) := by decide +kernel
theorem dX11_sleep_21 : decode cX11_sleep 21 = .ok (.lconst 0, 1) := by decide +kernel
theorem dX11_sleep_22 : decode cX11_sleep 22 = .ok (.ldc2_w 413, 3) := by decide +kernel
theorem dX11_sleep_25 : decode cX11_sleep 25 = .ok (.invokestatic 145, 3) := by decide +kernel
theorem dX11_sleep_28 : decode cX11_sleep 28 = .ok (.ifCond .eq 15, 3) := by decide +kernel
theorem dX11_sleep_31 : decode cX11_sleep 31 = .ok (.iload_n 3, 1) := by decide +kernel
theorem dX11_sleep_32 : decode cX11_sleep 32 = .ok (.i2l, 1) := by decide +kernel
theorem dX11_sleep_33 : decode cX11_sleep 33 = .ok (.lconst 0, 1) := by decide +kernel
theorem dX11_sleep_34 : decode cX11_sleep 34 = .ok (.ldc2_w 413, 3) := by decide +kernel
theorem dX11_sleep_37 : decode cX11_sleep 37 = .ok (.invokestatic 145, 3) := by decide +kernel
theorem dX11_sleep_40 : decode cX11_sleep 40 = .ok (.ifCond .ne 9, 3) := by decide +kernel
theorem dX11_sleep_43 : decode cX11_sleep 43 = .ok (.aload_n 0, 1) := by decide +kernel
theorem dX11_sleep_44 : decode cX11_sleep 44 = .ok (.iconst 1, 1) := by decide +kernel
theorem dX11_sleep_45 : decode cX11_sleep 45 = .ok (.invokevirtual 396, 3) := by decide +kernel
theorem dX11_sleep_48 : decode cX11_sleep 48 = .ok (.ireturn, 1) := by decide +kernel
theorem dX11_sleep_49 : decode cX11_sleep 49 = .ok (.aload_n 0, 1) := by decide +kernel
theorem dX11_sleep_50 : decode cX11_sleep 50 = .ok (.invokevirtual 399, 3) := by decide +kernel
theorem dX11_sleep_53 : decode cX11_sleep 53 = .ok (.bipush 24, 2) := by decide +kernel
theorem dX11_sleep_55 : decode cX11_sleep 55 = .ok (.aload_n 0, 1) := by decide +kernel
theorem dX11_sleep_56 : decode cX11_sleep 56 = .ok (.getfield 76, 3) := by decide +kernel
theorem dX11_sleep_59 : decode cX11_sleep 59 = .ok (.iload_n 1, 1) := by decide +kernel
theorem dX11_sleep_60 : decode cX11_sleep 60 = .ok (.iaload, 1) := by decide +kernel
theorem dX11_sleep_61 : decode cX11_sleep 61 = .ok (.imul, 1) := by decide +kernel
theorem dX11_sleep_62 : decode cX11_sleep 62 = .ok (.aload_n 0, 1) := by decide +kernel
theorem dX11_sleep_63 : decode cX11_sleep 63 = .ok (.getfield 79, 3) := by decide +kernel
theorem dX11_sleep_66 : decode cX11_sleep 66 = .ok (.iload_n 1, 1) := by decide +kernel
theorem dX11_sleep_67 : decode cX11_sleep 67 = .ok (.iaload, 1) := by decide +kernel
theorem dX11_sleep_68 : decode cX11_sleep 68 = .ok (.iadd, 1) := by decide +kernel
theorem dX11_sleep_69 : decode cX11_sleep 69 = .ok (.istore 4, 2) := by decide +kernel
theorem dX11_sleep_71 : decode cX11_sleep 71 = .ok (.aload_n 0, 1) := by decide +kernel
theorem dX11_sleep_72 : decode cX11_sleep 72 = .ok (.getfield 76, 3) := by decide +kernel
theorem dX11_sleep_75 : decode cX11_sleep 75 = .ok (.iload_n 1, 1) := by decide +kernel
theorem dX11_sleep_76 : decode cX11_sleep 76 = .ok (.iload_n 2, 1) := by decide +kernel
theorem dX11_sleep_77 : decode cX11_sleep 77 = .ok (.iastore, 1) := by decide +kernel
theorem dX11_sleep_78 : decode cX11_sleep 78 = .ok (.aload_n 0, 1) := by decide +kernel
theorem dX11_sleep_79 : decode cX11_sleep 79 = .ok (.getfield 79, 3) := by decide +kernel
theorem dX11_sleep_82 : decode cX11_sleep 82 = .ok (.iload_n 1, 1) := by decide +kernel
theorem dX11_sleep_83 : decode cX11_sleep 83 = .ok (.iload_n 3, 1) := by decide +kernel
theorem dX11_sleep_84 : decode cX11_sleep 84 = .ok (.iastore, 1) := by decide +kernel
theorem dX11_sleep_85 : decode cX11_sleep 85 = .ok (.iload 4, 2) := by decide +kernel
theorem dX11_sleep_87 : decode cX11_sleep 87 = .ok (.ireturn, 1) := by decide +kernel
theorem dX11_undo_0 : decode cX11_undo 0 = .ok (.aload_n 0, 1) := by decide +kernel
theorem dX11_undo_1 : decode cX11_undo 1 = .ok (.iconst 0, 1) := by decide +kernel
theorem dX11_undo_2 : decode cX11_undo 2 = .ok (.putfield 142, 3) := by decide +kernel
theorem dX11_undo_5 : decode cX11_undo 5 = .ok (.aload_n 0, 1) := by decide +kernel
theorem dX11_undo_6 : decode cX11_undo 6 = .ok (.getfield 302, 3) := by decide +kernel
theorem dX11_undo_9 : decode cX11_undo 9 = .ok (.ifCond .ne 5, 3) := by decide +kernel
theorem dX11_undo_12 : decode cX11_undo 12 = .ok (.iconst (-1), 1) := by decide +kernel
theorem dX11_undo_13 : decode cX11_undo 13 = .ok (.ireturn, 1) := by decide +kernel
theorem dX11_undo_14 : decode cX11_undo 14 = .ok (.aload_n 0, 1) := by decide +kernel
theorem dX11_undo_15 : decode cX11_undo 15 = .ok (.dup, 1) := by decide +kernel
theorem dX11_undo_16 : decode cX11_undo 16 = .ok (.getfield 302, 3) := by decide +kernel
theorem dX11_undo_19 : decode cX11_undo 19 = .ok (.iconst 1, 1) := by decide +kernel
theorem dX11_undo_20 : decode cX11_undo 20 = .ok (.isub, 1) := by decide +kernel
theorem dX11_undo_21 : decode cX11_undo 21 = .ok (.putfield 302, 3) := by decide +kernel
theorem dX11_undo_24 : decode cX11_undo 24 = .ok (.aload_n 0, 1) := by decide +kernel
theorem dX11_undo_25 : decode cX11_undo 25 = .ok (.aload_n 0, 1) := by decide +kernel
theorem dX11_undo_26 : decode cX11_undo 26 = .ok (.getfield 82, 3) := by decide +kernel
theorem dX11_undo_29 : decode cX11_undo 29 = .ok (.bipush 43, 2) := by decide +kernel
theorem dX11_undo_31 : decode cX11_undo 31 = .ok (.aload_n 0, 1) := by decide +kernel
theorem dX11_undo_32 : decode cX11_undo 32 = .ok (.getfield 302, 3) := by decide +kernel
theorem dX11_undo_35 : decode cX11_undo 35 = .ok (.imul, 1) := by decide +kernel
theorem dX11_undo_36 : decode cX11_undo 36 = .ok (.invokevirtual 415, 3) := by decide +kernel
theorem dX11_undo_39 : decode cX11_undo 39 = .ok (.aload_n 0, 1) := by decide +kernel
theorem dX11_undo_40 : decode cX11_undo 40 = .ok (.getfield 302, 3) := by decide +kernel
theorem dX11_undo_43 : decode cX11_undo 43 = .ok (.ireturn, 1) := by decide +kernel
theorem dX11_then_0 : decode cX11_then 0 = .ok (.aload_n 0, 1) := by decide +kernel
theorem dX11_then_1 : decode cX11_then 1 = .ok (.iconst 0, 1) := by decide +kernel
theorem dX11_then_2 : decode cX11_then 2 = .ok (.putfield 142, 3) := by decide +kernel
theorem dX11_then_5 : decode cX11_then 5 = .ok (.iload_n 1, 1) := by decide +kernel
theorem dX11_then_6 : decode cX11_then 6 = .ok (.i2l, 1) := by decide +kernel
theorem dX11_then_7 : decode cX11_then 7 = .ok (.lconst 1, 1) := by decide +kernel
theorem dX11_then_8 : decode cX11_then 8 = .ok (.ldc2_w 418, 3) := by decide +kernel
theorem dX11_then_11 : decode cX11_then 11 = .ok (.invokestatic 145, 3) := by decide +kernel
theorem dX11_then_14 : decode cX11_then 14 = .ok (.ifCond .ne 9, 3) := by decide +kernel
theorem dX11_then_17 : decode cX11_then 17 = .ok (.aload_n 0, 1) := by decide +kernel
theorem dX11_then_18 : decode cX11_then 18 = .ok (.iconst 1, 1) := by decide +kernel
theorem dX11_then_19 : decode cX11_then 19 = .ok (.invokevirtual 281, 3) := by decide +kernel
theorem dX11_then_22 : decode cX11_then 22 = .ok (.ireturn, 1) := by decide +kernel
theorem dX11_then_23 : decode cX11_then 23 = .ok (.aload_n 0, 1) := by decide +kernel
theorem dX11_then_24 : decode cX11_then 24 = .ok (.aload_n 0, 1) := by decide +kernel
theorem dX11_then_25 : decode cX11_then 25 = .ok (.getfield 97, 3) := by decide +kernel
theorem dX11_then_28 : decode cX11_then 28 = .ok (.iconst 0, 1) := by decide +kernel
theorem dX11_then_29 : decode cX11_then 29 = .ok (.invokevirtual 390, 3) := by decide +kernel
theorem dX11_then_32 : decode cX11_then 32 = .ok (.iconst 0, 1) := by decide +kernel
theorem dX11_then_33 : decode cX11_then 33 = .ok (.istore_n 2, 1) := by decide +kernel
theorem dX11_then_34 : decode cX11_then 34 = .ok (.iload_n 2, 1) := by decide +kernel
theorem dX11_then_35 : decode cX11_then 35 = .ok (.iload_n 1, 1) := by decide +kernel
theorem dX11_then_36 : decode cX11_then 36 = .ok (.if_icmp .ge 13, 3) := by decide +kernel
theorem dX11_then_39 : decode cX11_then 39 = .ok (.aload_n 0, 1) := by decide +kernel
theorem dX11_then_40 : decode cX11_then 40 = .ok (.invokevirtual 402, 3) := by decide +kernel
theorem dX11_then_43 : decode cX11_then 43 = .ok (.iinc 2 1, 3) := by decide +kernel
theorem dX11_then_46 : decode cX11_then 46 = .ok (.goto (-12), 3) := by decide +kernel
theorem dX11_then_49 : decode cX11_then 49 = .ok (.aload_n 0, 1) := by decide +kernel
theorem dX11_then_50 : decode cX11_then 50 = .ok (.aload_n 0, 1) := by decide +kernel
theorem dX11_then_51 : decode cX11_then 51 = .ok (.getfield 97, 3) := by decide +kernel
theorem dX11_then_54 : decode cX11_then 54 = .ok (.iconst 0, 1) := by decide +kernel
theorem dX11_then_55 : decode cX11_then 55 = .ok (.invokevirtual 415, 3) := by decide +kernel
theorem dX11_then_58 : decode cX11_then 58 = .ok (.aload_n 0, 1) := by decide +kernel
theorem dX11_then_59 : decode cX11_then 59 = .ok (.getfield 352, 3) := by decide +kernel
theorem dX11_then_62 : decode cX11_then 62 = .ok (.ireturn, 1) := by decide +kernel
theorem dX11_burnt_0 : decode cX11_burnt 0 = .ok (.aload_n 0, 1) := by decide +kernel
theorem dX11_burnt_1 : decode cX11_burnt 1 = .ok (.iconst 0, 1) := by decide +kernel
theorem dX11_burnt_2 : decode cX11_burnt 2 = .ok (.putfield 142, 3) := by decide +kernel
theorem dX11_burnt_5 : decode cX11_burnt 5 = .ok (.aload_n 0, 1) := by decide +kernel
theorem dX11_burnt_6 : decode cX11_burnt 6 = .ok (.iload_n 1, 1) := by decide +kernel
theorem dX11_burnt_7 : decode cX11_burnt 7 = .ok (.invokevirtual 384, 3) := by decide +kernel
theorem dX11_burnt_10 : decode cX11_burnt 10 = .ok (.ifCond .ne 9, 3) := by decide +kernel
theorem dX11_burnt_13 : decode cX11_burnt 13 = .ok (.aload_n 0, 1) := by decide +kernel
theorem dX11_burnt_14 : decode cX11_burnt 14 = .ok (.iconst 1, 1) := by decide +kernel
theorem dX11_burnt_15 : decode cX11_burnt 15 = .ok (.invokevirtual 281, 3) := by decide +kernel
theorem dX11_burnt_18 : decode cX11_burnt 18 = .ok (.ireturn, 1) := by decide +kernel
theorem dX11_burnt_19 : decode cX11_burnt 19 = .ok (.iload_n 2, 1) := by decide +kernel
theorem dX11_burnt_20 : decode cX11_burnt 20 = .ok (.i2l, 1) := by decide +kernel
theorem dX11_burnt_21 : decode cX11_burnt 21 = .ok (.lconst 0, 1) := by decide +kernel
theorem dX11_burnt_22 : decode cX11_burnt 22 = .ok (.ldc2_w 418, 3) := by decide +kernel
theorem dX11_burnt_25 : decode cX11_burnt 25 = .ok (.invokestatic 145, 3) := by decide +kernel
theorem dX11_burnt_28 : decode cX11_burnt 28 = .ok (.ifCond .ne 9, 3) := by decide +kernel
theorem dX11_burnt_31 : decode cX11_burnt 31 = .ok (.aload_n 0, 1) := by decide +kernel
theorem dX11_burnt_32 : decode cX11_burnt 32 = .ok (.iconst 2, 1) := by decide +kernel
theorem dX11_burnt_33 : decode cX11_burnt 33 = .ok (.invokevirtual 281, 3) := by decide +kernel
theorem dX11_burnt_36 : decode cX11_burnt 36 = .ok (.ireturn, 1) := by decide +kernel
theorem dX11_burnt_37 : decode cX11_burnt 37 = .ok (.aload_n 0, 1) := by decide +kernel
theorem dX11_burnt_38 : decode cX11_burnt 38 = .ok (.aload_n 0, 1) := by decide +kernel
theorem dX11_burnt_39 : decode cX11_burnt 39 = .ok (.getfield 97, 3) := by decide +kernel
theorem dX11_burnt_42 : decode cX11_burnt 42 = .ok (.iconst 0, 1) := by decide +kernel
theorem dX11_burnt_43 : decode cX11_burnt 43 = .ok (.invokevirtual 390, 3) := by decide +kernel
theorem dX11_burnt_46 : decode cX11_burnt 46 = .ok (.aload_n 0, 1) := by decide +kernel
theorem dX11_burnt_47 : decode cX11_burnt 47 = .ok (.getfield 72, 3) := by decide +kernel
theorem dX11_burnt_50 : decode cX11_burnt 50 = .ok (.iload_n 1, 1) := by decide +kernel
theorem dX11_burnt_51 : decode cX11_burnt 51 = .ok (.iaload, 1) := by decide +kernel
theorem dX11_burnt_52 : decode cX11_burnt 52 = .ok (.istore_n 3, 1) := by decide +kernel
theorem dX11_burnt_53 : decode cX11_burnt 53 = .ok (.iconst 0, 1) := by decide +kernel
theorem dX11_burnt_54 : decode cX11_burnt 54 = .ok (.istore 4, 2) := by decide +kernel
theorem dX11_burnt_56 : decode cX11_burnt 56 = .ok (.iload 4, 2) := by decide +kernel
theorem dX11_burnt_58 : decode cX11_burnt 58 = .ok (.iload_n 2, 1) := by decide +kernel
theorem dX11_burnt_59 : decode cX11_burnt 59 = .ok (.if_icmp .ge 13, 3) := by decide +kernel
theorem dX11_burnt_62 : decode cX11_burnt 62 = .ok (.aload_n 0, 1) := by decide +kernel
theorem dX11_burnt_63 : decode cX11_burnt 63 = .ok (.invokevirtual 402, 3) := by decide +kernel
theorem dX11_burnt_66 : decode cX11_burnt 66 = .ok (.iinc 4 1, 3) := by decide +kernel
theorem dX11_burnt_69 : decode cX11_burnt 69 = .ok (.goto (-13), 3) := by decide +kernel
theorem dX11_burnt_72 : decode cX11_burnt 72 = .ok (.iload_n 3, 1) := by decide +kernel
theorem dX11_burnt_73 : decode cX11_burnt 73 = .ok (.aload_n 0, 1) := by decide +kernel
theorem dX11_burnt_74 : decode cX11_burnt 74 = .ok (.getfield 72, 3) := by decide +kernel
theorem dX11_burnt_77 : decode cX11_burnt 77 = .ok (.iload_n 1, 1) := by decide +kernel
theorem dX11_burnt_78 : decode cX11_burnt 78 = .ok (.iaload, 1) := by decide +kernel
theorem dX11_burnt_79 : decode cX11_burnt 79 = .ok (.isub, 1) := by decide +kernel
theorem dX11_burnt_80 : decode cX11_burnt 80 = .ok (.istore 4, 2) := by decide +kernel
theorem dX11_burnt_82 : decode cX11_burnt 82 = .ok (.aload_n 0, 1) := by decide +kernel
theorem dX11_burnt_83 : decode cX11_burnt 83 = .ok (.aload_n 0, 1) := by decide +kernel
theorem dX11_burnt_84 : decode cX11_burnt 84 = .ok (.getfield 97, 3) := by decide +kernel
theorem dX11_burnt_87 : decode cX11_burnt 87 = .ok (.iconst 0, 1) := by decide +kernel
theorem dX11_burnt_88 : decode cX11_burnt 88 = .ok (.invokevirtual 415, 3) := by decide +kernel
theorem dX11_burnt_91 : decode cX11_burnt 91 = .ok (.iload 4, 2) := by decide +kernel
theorem dX11_burnt_93 : decode cX11_burnt 93 = .ok (.ireturn, 1) := by decide +kernel
theorem dX11_shining_0 : decode cX11_shining 0 = .ok (.aload_n 0, 1) := by decide +kernel
theorem dX11_shining_1 : decode cX11_shining 1 = .ok (.iconst 0, 1) := by decide +kernel
theorem dX11_shining_2 : decode cX11_shining 2 = .ok (.putfield 142, 3) := by decide +kernel
theorem dX11_shining_5 : decode cX11_shining 5 = .ok (.aload_n 0, 1) := by decide +kernel
theorem dX11_shining_6 : decode cX11_shining 6 = .ok (.iload_n 1, 1) := by decide +kernel
theorem dX11_shining_7 : decode cX11_shining 7 = .ok (.invokevirtual 384, 3) := by decide +kernel
theorem dX11_shining_10 : decode cX11_shining 10 = .ok (.ifCond .ne 9, 3) := by decide +kernel
theorem dX11_shining_13 : decode cX11_shining 13 = .ok (.aload_n 0, 1) := by decide +kernel
theorem dX11_shining_14 : decode cX11_shining 14 = .ok (.iconst 1, 1) := by decide +kernel
theorem dX11_shining_15 : decode cX11_shining 15 = .ok (.invokevirtual 281, 3) := by decide +kernel
theorem dX11_shining_18 : decode cX11_shining 18 = .ok (.ireturn, 1) := by decide +kernel
theorem dX11_shining_19 : decode cX11_shining 19 = .ok (.iload_n 2, 1) := by decide +kernel
theorem dX11_shining_20 : decode cX11_shining 20 = .ok (.i2l, 1) := by decide +kernel
theorem dX11_shining_21 : decode cX11_shining 21 = .ok (.lconst 0, 1) := by decide +kernel
theorem dX11_shining_22 : decode cX11_shining 22 = .ok (.ldc2_w 418, 3) := by decide +kernel
theorem dX11_shining_25 : decode cX11_shining 25 = .ok (.invokestatic 145, 3) := by decide +kernel
theorem dX11_shining_28 : decode cX11_shining 28 = .ok (.ifCond .ne 9, 3) := by decide +kernel
theorem dX11_shining_31 : decode cX11_shining 31 = .ok (.aload_n 0, 1) := by decide +kernel
theorem dX11_shining_32 : decode cX11_shining 32 = .ok (.iconst 2, 1) := by decide +kernel
theorem dX11_shining_33 : decode cX11_shining 33 = .ok (.invokevirtual 281, 3) := by decide +kernel
theorem dX11_shining_36 : decode cX11_shining 36 = .ok (.ireturn, 1) := by decide +kernel
theorem dX11_shining_37 : decode cX11_shining 37 = .ok (.aload_n 0, 1) := by decide +kernel
theorem dX11_shining_38 : decode cX11_shining 38 = .ok (.aload_n 0, 1) := by decide +kernel
theorem dX11_shining_39 : decode cX11_shining 39 = .ok (.getfield 97, 3) := by decide +kernel
theorem dX11_shining_42 : decode cX11_shining 42 = .ok (.iconst 0, 1) := by decide +kernel
theorem dX11_shining_43 : decode cX11_shining 43 = .ok (.invokevirtual 390, 3) := by decide +kernel
theorem dX11_shining_46 : decode cX11_shining 46 = .ok (.iconst 0, 1) := by decide +kernel
theorem dX11_shining_47 : decode cX11_shining 47 = .ok (.istore_n 3, 1) := by decide +kernel
theorem dX11_shining_48 : decode cX11_shining 48 = .ok (.iconst 0, 1) := by decide +kernel
theorem dX11_shining_49 : decode cX11_shining 49 = .ok (.istore 4, 2) := by decide +kernel
theorem dX11_shining_51 : decode cX11_shining 51 = .ok (.iload 4, 2) := by decide +kernel
theorem dX11_shining_53 : decode cX11_shining 53 = .ok (.iload_n 2, 1) := by decide +kernel
theorem dX11_shining_54 : decode cX11_shining 54 = .ok (.if_icmp .ge 24, 3) := by decide +kernel
theorem dX11_shining_57 : decode cX11_shining 57 = .ok (.aload_n 0, 1) := by decide +kernel
theorem dX11_shining_58 : decode cX11_shining 58 = .ok (.invokevirtual 402, 3) := by decide +kernel
theorem dX11_shining_61 : decode cX11_shining 61 = .ok (.iload_n 3, 1) := by decide +kernel
theorem dX11_shining_62 : decode cX11_shining 62 = .ok (.aload_n 0, 1) := by decide +kernel
theorem dX11_shining_63 : decode cX11_shining 63 = .ok (.getfield 352, 3) := by decide +kernel
theorem dX11_shining_66 : decode cX11_shining 66 = .ok (.iload_n 1, 1) := by decide +kernel
theorem dX11_shining_67 : decode cX11_shining 67 = .ok (.ishr, 1) := by decide +kernel
theorem dX11_shining_68 : decode cX11_shining 68 = .ok (.iconst 1, 1) := by decide +kernel
theorem dX11_shining_69 : decode cX11_shining 69 = .ok (.iand, 1) := by decide +kernel
theorem dX11_shining_70 : decode cX11_shining 70 = .ok (.iadd, 1) := by decide +kernel
theorem dX11_shining_71 : decode cX11_shining 71 = .ok (.istore_n 3, 1) := by decide +kernel
theorem dX11_shining_72 : decode cX11_shining 72 = .ok (.iinc 4 1, 3) := by decide +kernel
theorem dX11_shining_75 : decode cX11_shining 75 = .ok (.goto (-24), 3) := by decide +kernel
theorem dX11_shining_78 : decode cX11_shining 78 = .ok (.aload_n 0, 1) := by decide +kernel
theorem dX11_shining_79 : decode cX11_shining 79 = .ok (.aload_n 0, 1) := by decide +kernel
theorem dX11_shining_80 : decode cX11_shining 80 = .ok (.getfield 97, 3) := by decide +kernel
theorem dX11_shining_83 : decode cX11_shining 83 = .ok (.iconst 0, 1) := by decide +kernel
theorem dX11_shining_84 : decode cX11_shining 84 = .ok (.invokevirtual 415, 3) := by decide +kernel
theorem dX11_shining_87 : decode cX11_shining 87 = .ok (.iload_n 3, 1) := by decide +kernel
theorem dX11_shining_88 : decode cX11_shining 88 = .ok (.ireturn, 1) := by decide +kernel
theorem dX11_soonest_0 : decode cX11_soonest 0 = .ok (.aload_n 0, 1) := by decide +kernel
theorem dX11_soonest_1 : decode cX11_soonest 1 = .ok (.iconst 0, 1) := by decide +kernel
theorem dX11_soonest_2 : decode cX11_soonest 2 = .ok (.putfield 142, 3) := by decide +kernel
theorem dX11_soonest_5 : decode cX11_soonest 5 = .ok (.aload_n 0, 1) := by decide +kernel
theorem dX11_soonest_6 : decode cX11_soonest 6 = .ok (.iload_n 1, 1) := by decide +kernel
theorem dX11_soonest_7 : decode cX11_soonest 7 = .ok (.invokevirtual 384, 3) := by decide +kernel
theorem dX11_soonest_10 : decode cX11_soonest 10 = .ok (.ifCond .ne 9, 3) := by decide +kernel
theorem dX11_soonest_13 : decode cX11_soonest 13 = .ok (.aload_n 0, 1) := by decide +kernel
theorem dX11_soonest_14 : decode cX11_soonest 14 = .ok (.iconst 1, 1) := by decide +kernel
theorem dX11_soonest_15 : decode cX11_soonest 15 = .ok (.invokevirtual 281, 3) := by decide +kernel
theorem dX11_soonest_18 : decode cX11_soonest 18 = .ok (.ireturn, 1) := by decide +kernel
theorem dX11_soonest_19 : decode cX11_soonest 19 = .ok (.aload_n 0, 1) := by decide +kernel
theorem dX11_soonest_20 : decode cX11_soonest 20 = .ok (.aload_n 0, 1) := by decide +kernel
theorem dX11_soonest_21 : decode cX11_soonest 21 = .ok (.getfield 97, 3) := by decide +kernel
theorem dX11_soonest_24 : decode cX11_soonest 24 = .ok (.iconst 0, 1) := by decide +kernel
theorem dX11_soonest_25 : decode cX11_soonest 25 = .ok (.invokevirtual 390, 3) := by decide +kernel
theorem dX11_soonest_28 : decode cX11_soonest 28 = .ok (.iconst (-1), 1) := by decide +kernel
theorem dX11_soonest_29 : decode cX11_soonest 29 = .ok (.istore_n 2, 1) := by decide +kernel
theorem dX11_soonest_30 : decode cX11_soonest 30 = .ok (.iconst 1, 1) := by decide +kernel
theorem dX11_soonest_31 : decode cX11_soonest 31 = .ok (.istore_n 3, 1) := by decide +kernel
theorem dX11_soonest_32 : decode cX11_soonest 32 = .ok (.iload_n 3, 1) := by decide +kernel
theorem dX11_soonest_33 : decode cX11_soonest 33 = .ok (.bipush 96, 2) := by decide +kernel
theorem dX11_soonest_35 : decode cX11_soonest 35 = .ok (.if_icmp .gt 31, 3) := by decide +kernel
theorem dX11_soonest_38 : decode cX11_soonest 38 = .ok (.iload_n 2, 1) := by decide +kernel
theorem dX11_soonest_39 : decode cX11_soonest 39 = .ok (.iconst (-1), 1) := by decide +kernel
theorem dX11_soonest_40 : decode cX11_soonest 40 = .ok (.if_icmp .ne 26, 3) := by decide +kernel
theorem dX11_soonest_43 : decode cX11_soonest 43 = .ok (.aload_n 0, 1) := by decide +kernel
theorem dX11_soonest_44 : decode cX11_soonest 44 = .ok (.invokevirtual 402, 3) := by decide +kernel
theorem dX11_soonest_47 : decode cX11_soonest 47 = .ok (.aload_n 0, 1) := by decide +kernel
theorem dX11_soonest_48 : decode cX11_soonest 48 = .ok (.getfield 352, 3) := by decide +kernel
theorem dX11_soonest_51 : decode cX11_soonest 51 = .ok (.iload_n 1, 1) := by decide +kernel
theorem dX11_soonest_52 : decode cX11_soonest 52 = .ok (.invokestatic 334, 3) := by decide +kernel
theorem dX11_soonest_55 : decode cX11_soonest 55 = .ok (.ifCond .eq 5, 3) := by decide +kernel
theorem dX11_soonest_58 : decode cX11_soonest 58 = .ok (.iload_n 3, 1) := by decide +kernel
theorem dX11_soonest_59 : decode cX11_soonest 59 = .ok (.istore_n 2, 1) := by decide +kernel
theorem dX11_soonest_60 : decode cX11_soonest 60 = .ok (.iinc 3 1, 3) := by decide +kernel
theorem dX11_soonest_63 : decode cX11_soonest 63 = .ok (.goto (-31), 3) := by decide +kernel
theorem dX11_soonest_66 : decode cX11_soonest 66 = .ok (.aload_n 0, 1) := by decide +kernel
theorem dX11_soonest_67 : decode cX11_soonest 67 = .ok (.aload_n 0, 1) := by decide +kernel
theorem dX11_soonest_68 : decode cX11_soonest 68 = .ok (.getfield 97, 3) := by decide +kernel
theorem dX11_soonest_71 : decode cX11_soonest 71 = .ok (.iconst 0, 1) := by decide +kernel
theorem dX11_soonest_72 : decode cX11_soonest 72 = .ok (.invokevirtual 415, 3) := by decide +kernel
theorem dX11_soonest_75 : decode cX11_soonest 75 = .ok (.iload_n 2, 1) := by decide +kernel
theorem dX11_soonest_76 : decode cX11_soonest 76 = .ok (.ireturn, 1) := by decide +kernel
theorem dX11_busiest_0 : decode cX11_busiest 0 = .ok (.aload_n 0, 1) := by decide +kernel
theorem dX11_busiest_1 : decode cX11_busiest 1 = .ok (.iconst 0, 1) := by decide +kernel
theorem dX11_busiest_2 : decode cX11_busiest 2 = .ok (.putfield 142, 3) := by decide +kernel
theorem dX11_busiest_5 : decode cX11_busiest 5 = .ok (.iload_n 1, 1) := by decide +kernel
theorem dX11_busiest_6 : decode cX11_busiest 6 = .ok (.ifCond .lt 8, 3) := by decide +kernel
theorem dX11_busiest_9 : decode cX11_busiest 9 = .ok (.iload_n 1, 1) := by decide +kernel
theorem dX11_busiest_10 : decode cX11_busiest 10 = .ok (.iconst 1, 1) := by decide +kernel
theorem dX11_busiest_11 : decode cX11_busiest 11 = .ok (.if_icmp .le 9, 3) := by decide +kernel
theorem dX11_busiest_14 : decode cX11_busiest 14 = .ok (.aload_n 0, 1) := by decide +kernel
theorem dX11_busiest_15 : decode cX11_busiest 15 = .ok (.iconst 1, 1) := by decide +kernel
theorem dX11_busiest_16 : decode cX11_busiest 16 = .ok (.invokevirtual 281, 3) := by decide +kernel
theorem dX11_busiest_19 : decode cX11_busiest 19 = .ok (.ireturn, 1) := by decide +kernel
theorem dX11_busiest_20 : decode cX11_busiest 20 = .ok (.iconst (-1), 1) := by decide +kernel
theorem dX11_busiest_21 : decode cX11_busiest 21 = .ok (.istore_n 2, 1) := by decide +kernel
theorem dX11_busiest_22 : decode cX11_busiest 22 = .ok (.iconst 0, 1) := by decide +kernel
theorem dX11_busiest_23 : decode cX11_busiest 23 = .ok (.istore_n 3, 1) := by decide +kernel
theorem dX11_busiest_24 : decode cX11_busiest 24 = .ok (.iconst 0, 1) := by decide +kernel
theorem dX11_busiest_25 : decode cX11_busiest 25 = .ok (.istore 4, 2) := by decide +kernel
theorem dX11_busiest_27 : decode cX11_busiest 27 = .ok (.iload 4, 2) := by decide +kernel
theorem dX11_busiest_29 : decode cX11_busiest 29 = .ok (.bipush 24, 2) := by decide +kernel
theorem dX11_busiest_31 : decode cX11_busiest 31 = .ok (.if_icmp .ge 84, 3) := by decide +kernel
theorem dX11_busiest_34 : decode cX11_busiest 34 = .ok (.iconst 0, 1) := by decide +kernel
theorem dX11_busiest_35 : decode cX11_busiest 35 = .ok (.istore 5, 2) := by decide +kernel
theorem dX11_busiest_37 : decode cX11_busiest 37 = .ok (.iconst 0, 1) := by decide +kernel
theorem dX11_busiest_38 : decode cX11_busiest 38 = .ok (.istore 6, 2) := by decide +kernel
theorem dX11_busiest_40 : decode cX11_busiest 40 = .ok (.iload 6, 2) := by decide +kernel
theorem dX11_busiest_42 : decode cX11_busiest 42 = .ok (.aload_n 0, 1) := by decide +kernel
theorem dX11_busiest_43 : decode cX11_busiest 43 = .ok (.getfield 38, 3) := by decide +kernel
theorem dX11_busiest_46 : decode cX11_busiest 46 = .ok (.iconst 1, 1) := by decide +kernel
theorem dX11_busiest_47 : decode cX11_busiest 47 = .ok (.iaload, 1) := by decide +kernel
theorem dX11_busiest_48 : decode cX11_busiest 48 = .ok (.if_icmp .ge 46, 3) := by decide +kernel
theorem dX11_busiest_51 : decode cX11_busiest 51 = .ok (.iload 5, 2) := by decide +kernel
theorem dX11_busiest_53 : decode cX11_busiest 53 = .ok (.aload_n 0, 1) := by decide +kernel
theorem dX11_busiest_54 : decode cX11_busiest 54 = .ok (.aload_n 0, 1) := by decide +kernel
theorem dX11_busiest_55 : decode cX11_busiest 55 = .ok (.getfield 74, 3) := by decide +kernel
theorem dX11_busiest_58 : decode cX11_busiest 58 = .ok (.iload 6, 2) := by decide +kernel
theorem dX11_busiest_60 : decode cX11_busiest 60 = .ok (.iaload, 1) := by decide +kernel
theorem dX11_busiest_61 : decode cX11_busiest 61 = .ok (.iload 4, 2) := by decide +kernel
theorem dX11_busiest_63 : decode cX11_busiest 63 = .ok (.invokevirtual 316, 3) := by decide +kernel
theorem dX11_busiest_66 : decode cX11_busiest 66 = .ok (.ifCond .eq 18, 3) := by decide +kernel
theorem dX11_busiest_69 : decode cX11_busiest 69 = .ok (.aload_n 0, 1) := by decide +kernel
theorem dX11_busiest_70 : decode cX11_busiest 70 = .ok (.iload 6, 2) := by decide +kernel
theorem dX11_busiest_72 : decode cX11_busiest 72 = .ok (.iload 4, 2) := by decide +kernel
theorem dX11_busiest_74 : decode cX11_busiest 74 = .ok (.invokevirtual 340, 3) := by decide +kernel
theorem dX11_busiest_77 : decode cX11_busiest 77 = .ok (.ifCond .eq 7, 3) := by decide +kernel
theorem dX11_busiest_80 : decode cX11_busiest 80 = .ok (.iconst 1, 1) := by decide +kernel
theorem dX11_busiest_81 : decode cX11_busiest 81 = .ok (.goto 4, 3) := by decide +kernel
theorem dX11_busiest_84 : decode cX11_busiest 84 = .ok (.iconst 0, 1) := by decide +kernel
theorem dX11_busiest_85 : decode cX11_busiest 85 = .ok (.iadd, 1) := by decide +kernel
theorem dX11_busiest_86 : decode cX11_busiest 86 = .ok (.istore 5, 2) := by decide +kernel
theorem dX11_busiest_88 : decode cX11_busiest 88 = .ok (.iinc 6 1, 3) := by decide +kernel
theorem dX11_busiest_91 : decode cX11_busiest 91 = .ok (.goto (-51), 3) := by decide +kernel
theorem dX11_busiest_94 : decode cX11_busiest 94 = .ok (.iload 5, 2) := by decide +kernel
theorem dX11_busiest_96 : decode cX11_busiest 96 = .ok (.iload_n 3, 1) := by decide +kernel
theorem dX11_busiest_97 : decode cX11_busiest 97 = .ok (.if_icmp .gt 6, 3) := by decide +kernel
theorem dX11_busiest_100 : decode cX11_busiest 100 = .ok (.goto 9, 3) := by decide +kernel
theorem dX11_busiest_103 : decode cX11_busiest 103 = .ok (.iload 4, 2) := by decide +kernel
theorem dX11_busiest_105 : decode cX11_busiest 105 = .ok (.istore_n 2, 1) := by decide +kernel
theorem dX11_busiest_106 : decode cX11_busiest 106 = .ok (.iload 5, 2) := by decide +kernel
theorem dX11_busiest_108 : decode cX11_busiest 108 = .ok (.istore_n 3, 1) := by decide +kernel
theorem dX11_busiest_109 : decode cX11_busiest 109 = .ok (.iinc 4 1, 3) := by decide +kernel
theorem dX11_busiest_112 : decode cX11_busiest 112 = .ok (.goto (-85), 3) := by decide +kernel
theorem dX11_busiest_115 : decode cX11_busiest 115 = .ok (.iload_n 1, 1) := by decide +kernel
theorem dX11_busiest_116 : decode cX11_busiest 116 = .ok (.ifCond .ne 7, 3) := by decide +kernel
theorem dX11_busiest_119 : decode cX11_busiest 119 = .ok (.iload_n 2, 1) := by decide +kernel
theorem dX11_busiest_120 : decode cX11_busiest 120 = .ok (.goto 4, 3) := by decide +kernel
theorem dX11_busiest_123 : decode cX11_busiest 123 = .ok (.iload_n 3, 1) := by decide +kernel
theorem dX11_busiest_124 : decode cX11_busiest 124 = .ok (.ireturn, 1) := by decide +kernel
theorem dX11_lasts_0 : decode cX11_lasts 0 = .ok (.aload_n 0, 1) := by decide +kernel
theorem dX11_lasts_1 : decode cX11_lasts 1 = .ok (.iconst 0, 1) := by decide +kernel
theorem dX11_lasts_2 : decode cX11_lasts 2 = .ok (.putfield 142, 3) := by decide +kernel
theorem dX11_lasts_5 : decode cX11_lasts 5 = .ok (.aload_n 0, 1) := by decide +kernel
theorem dX11_lasts_6 : decode cX11_lasts 6 = .ok (.iload_n 1, 1) := by decide +kernel
theorem dX11_lasts_7 : decode cX11_lasts 7 = .ok (.invokevirtual 384, 3) := by decide +kernel
theorem dX11_lasts_10 : decode cX11_lasts 10 = .ok (.ifCond .ne 9, 3) := by decide +kernel
theorem dX11_lasts_13 : decode cX11_lasts 13 = .ok (.aload_n 0, 1) := by decide +kernel
theorem dX11_lasts_14 : decode cX11_lasts 14 = .ok (.iconst 1, 1) := by decide +kernel
theorem dX11_lasts_15 : decode cX11_lasts 15 = .ok (.invokevirtual 281, 3) := by decide +kernel
theorem dX11_lasts_18 : decode cX11_lasts 18 = .ok (.ireturn, 1) := by decide +kernel
theorem dX11_lasts_19 : decode cX11_lasts 19 = .ok (.aload_n 0, 1) := by decide +kernel
theorem dX11_lasts_20 : decode cX11_lasts 20 = .ok (.aload_n 0, 1) := by decide +kernel
theorem dX11_lasts_21 : decode cX11_lasts 21 = .ok (.getfield 97, 3) := by decide +kernel
theorem dX11_lasts_24 : decode cX11_lasts 24 = .ok (.iconst 0, 1) := by decide +kernel
theorem dX11_lasts_25 : decode cX11_lasts 25 = .ok (.invokevirtual 390, 3) := by decide +kernel
theorem dX11_lasts_28 : decode cX11_lasts 28 = .ok (.iconst (-1), 1) := by decide +kernel
theorem dX11_lasts_29 : decode cX11_lasts 29 = .ok (.istore_n 2, 1) := by decide +kernel
theorem dX11_lasts_30 : decode cX11_lasts 30 = .ok (.iconst 0, 1) := by decide +kernel
theorem dX11_lasts_31 : decode cX11_lasts 31 = .ok (.istore_n 3, 1) := by decide +kernel
theorem dX11_lasts_32 : decode cX11_lasts 32 = .ok (.iload_n 3, 1) := by decide +kernel
theorem dX11_lasts_33 : decode cX11_lasts 33 = .ok (.bipush 96, 2) := by decide +kernel
theorem dX11_lasts_35 : decode cX11_lasts 35 = .ok (.if_icmp .gt 29, 3) := by decide +kernel
theorem dX11_lasts_38 : decode cX11_lasts 38 = .ok (.iload_n 2, 1) := by decide +kernel
theorem dX11_lasts_39 : decode cX11_lasts 39 = .ok (.iconst (-1), 1) := by decide +kernel
theorem dX11_lasts_40 : decode cX11_lasts 40 = .ok (.if_icmp .ne 24, 3) := by decide +kernel
theorem dX11_lasts_43 : decode cX11_lasts 43 = .ok (.aload_n 0, 1) := by decide +kernel
theorem dX11_lasts_44 : decode cX11_lasts 44 = .ok (.getfield 72, 3) := by decide +kernel
theorem dX11_lasts_47 : decode cX11_lasts 47 = .ok (.iload_n 1, 1) := by decide +kernel
theorem dX11_lasts_48 : decode cX11_lasts 48 = .ok (.iaload, 1) := by decide +kernel
theorem dX11_lasts_49 : decode cX11_lasts 49 = .ok (.ifCond .ne 5, 3) := by decide +kernel
theorem dX11_lasts_52 : decode cX11_lasts 52 = .ok (.iload_n 3, 1) := by decide +kernel
theorem dX11_lasts_53 : decode cX11_lasts 53 = .ok (.istore_n 2, 1) := by decide +kernel
theorem dX11_lasts_54 : decode cX11_lasts 54 = .ok (.aload_n 0, 1) := by decide +kernel
theorem dX11_lasts_55 : decode cX11_lasts 55 = .ok (.invokevirtual 402, 3) := by decide +kernel
theorem dX11_lasts_58 : decode cX11_lasts 58 = .ok (.iinc 3 1, 3) := by decide +kernel
theorem dX11_lasts_61 : decode cX11_lasts 61 = .ok (.goto (-29), 3) := by decide +kernel
theorem dX11_lasts_64 : decode cX11_lasts 64 = .ok (.aload_n 0, 1) := by decide +kernel
theorem dX11_lasts_65 : decode cX11_lasts 65 = .ok (.aload_n 0, 1) := by decide +kernel
theorem dX11_lasts_66 : decode cX11_lasts 66 = .ok (.getfield 97, 3) := by decide +kernel
theorem dX11_lasts_69 : decode cX11_lasts 69 = .ok (.iconst 0, 1) := by decide +kernel
theorem dX11_lasts_70 : decode cX11_lasts 70 = .ok (.invokevirtual 415, 3) := by decide +kernel
theorem dX11_lasts_73 : decode cX11_lasts 73 = .ok (.iload_n 2, 1) := by decide +kernel
theorem dX11_lasts_74 : decode cX11_lasts 74 = .ok (.ireturn, 1) := by decide +kernel
theorem dX11_grief_0 : decode cX11_grief 0 = .ok (.aload_n 0, 1) := by decide +kernel
theorem dX11_grief_1 : decode cX11_grief 1 = .ok (.iconst 0, 1) := by decide +kernel
theorem dX11_grief_2 : decode cX11_grief 2 = .ok (.putfield 142, 3) := by decide +kernel
theorem dX11_grief_5 : decode cX11_grief 5 = .ok (.aload_n 0, 1) := by decide +kernel
theorem dX11_grief_6 : decode cX11_grief 6 = .ok (.iload_n 1, 1) := by decide +kernel
theorem dX11_grief_7 : decode cX11_grief 7 = .ok (.invokevirtual 379, 3) := by decide +kernel
theorem dX11_grief_10 : decode cX11_grief 10 = .ok (.ifCond .ne 9, 3) := by decide +kernel
theorem dX11_grief_13 : decode cX11_grief 13 = .ok (.aload_n 0, 1) := by decide +kernel
theorem dX11_grief_14 : decode cX11_grief 14 = .ok (.iconst 1, 1) := by decide +kernel
theorem dX11_grief_15 : decode cX11_grief 15 = .ok (.invokevirtual 281, 3) := by decide +kernel
theorem dX11_grief_18 : decode cX11_grief 18 = .ok (.ireturn, 1) := by decide +kernel
theorem dX11_grief_19 : decode cX11_grief 19 = .ok (.iload_n 2, 1) := by decide +kernel
theorem dX11_grief_20 : decode cX11_grief 20 = .ok (.i2l, 1) := by decide +kernel
theorem dX11_grief_21 : decode cX11_grief 21 = .ok (.lconst 0, 1) := by decide +kernel
theorem dX11_grief_22 : decode cX11_grief 22 = .ok (.ldc2_w 418, 3) := by decide +kernel
theorem dX11_grief_25 : decode cX11_grief 25 = .ok (.invokestatic 145, 3) := by decide +kernel
theorem dX11_grief_28 : decode cX11_grief 28 = .ok (.ifCond .ne 9, 3) := by decide +kernel
theorem dX11_grief_31 : decode cX11_grief 31 = .ok (.aload_n 0, 1) := by decide +kernel
theorem dX11_grief_32 : decode cX11_grief 32 = .ok (.iconst 2, 1) := by decide +kernel
theorem dX11_grief_33 : decode cX11_grief 33 = .ok (.invokevirtual 281, 3) := by decide +kernel
theorem dX11_grief_36 : decode cX11_grief 36 = .ok (.ireturn, 1) := by decide +kernel
theorem dX11_grief_37 : decode cX11_grief 37 = .ok (.aload_n 0, 1) := by decide +kernel
theorem dX11_grief_38 : decode cX11_grief 38 = .ok (.aload_n 0, 1) := by decide +kernel
theorem dX11_grief_39 : decode cX11_grief 39 = .ok (.getfield 97, 3) := by decide +kernel
theorem dX11_grief_42 : decode cX11_grief 42 = .ok (.iconst 0, 1) := by decide +kernel
theorem dX11_grief_43 : decode cX11_grief 43 = .ok (.invokevirtual 390, 3) := by decide +kernel
theorem dX11_grief_46 : decode cX11_grief 46 = .ok (.iconst 0, 1) := by decide +kernel
theorem dX11_grief_47 : decode cX11_grief 47 = .ok (.istore_n 3, 1) := by decide +kernel
theorem dX11_grief_48 : decode cX11_grief 48 = .ok (.iconst 0, 1) := by decide +kernel
theorem dX11_grief_49 : decode cX11_grief 49 = .ok (.istore 4, 2) := by decide +kernel
theorem dX11_grief_51 : decode cX11_grief 51 = .ok (.iload 4, 2) := by decide +kernel
theorem dX11_grief_53 : decode cX11_grief 53 = .ok (.iload_n 2, 1) := by decide +kernel
theorem dX11_grief_54 : decode cX11_grief 54 = .ok (.if_icmp .ge 22, 3) := by decide +kernel
theorem dX11_grief_57 : decode cX11_grief 57 = .ok (.aload_n 0, 1) := by decide +kernel
theorem dX11_grief_58 : decode cX11_grief 58 = .ok (.invokevirtual 402, 3) := by decide +kernel
theorem dX11_grief_61 : decode cX11_grief 61 = .ok (.iload_n 3, 1) := by decide +kernel
theorem dX11_grief_62 : decode cX11_grief 62 = .ok (.aload_n 0, 1) := by decide +kernel
theorem dX11_grief_63 : decode cX11_grief 63 = .ok (.getfield 91, 3) := by decide +kernel
theorem dX11_grief_66 : decode cX11_grief 66 = .ok (.iload_n 1, 1) := by decide +kernel
theorem dX11_grief_67 : decode cX11_grief 67 = .ok (.iaload, 1) := by decide +kernel
theorem dX11_grief_68 : decode cX11_grief 68 = .ok (.iadd, 1) := by decide +kernel
theorem dX11_grief_69 : decode cX11_grief 69 = .ok (.istore_n 3, 1) := by decide +kernel
theorem dX11_grief_70 : decode cX11_grief 70 = .ok (.iinc 4 1, 3) := by decide +kernel
theorem dX11_grief_73 : decode cX11_grief 73 = .ok (.goto (-22), 3) := by decide +kernel
theorem dX11_grief_76 : decode cX11_grief 76 = .ok (.aload_n 0, 1) := by decide +kernel
theorem dX11_grief_77 : decode cX11_grief 77 = .ok (.aload_n 0, 1) := by decide +kernel
theorem dX11_grief_78 : decode cX11_grief 78 = .ok (.getfield 97, 3) := by decide +kernel
theorem dX11_grief_81 : decode cX11_grief 81 = .ok (.iconst 0, 1) := by decide +kernel
theorem dX11_grief_82 : decode cX11_grief 82 = .ok (.invokevirtual 415, 3) := by decide +kernel
theorem dX11_grief_85 : decode cX11_grief 85 = .ok (.iload_n 3, 1) := by decide +kernel
theorem dX11_grief_86 : decode cX11_grief 86 = .ok (.ireturn, 1) := by decide +kernel
theorem dX11_quarrels_0 : decode cX11_quarrels 0 = .ok (.aload_n 0, 1) := by decide +kernel
theorem dX11_quarrels_1 : decode cX11_quarrels 1 = .ok (.iconst 0, 1) := by decide +kernel
theorem dX11_quarrels_2 : decode cX11_quarrels 2 = .ok (.putfield 142, 3) := by decide +kernel
theorem dX11_quarrels_5 : decode cX11_quarrels 5 = .ok (.iload_n 1, 1) := by decide +kernel
theorem dX11_quarrels_6 : decode cX11_quarrels 6 = .ok (.i2l, 1) := by decide +kernel
theorem dX11_quarrels_7 : decode cX11_quarrels 7 = .ok (.lconst 0, 1) := by decide +kernel
theorem dX11_quarrels_8 : decode cX11_quarrels 8 = .ok (.ldc2_w 418, 3) := by decide +kernel
theorem dX11_quarrels_11 : decode cX11_quarrels 11 = .ok (.invokestatic 145, 3) := by decide +kernel
theorem dX11_quarrels_14 : decode cX11_quarrels 14 = .ok (.ifCond .ne 9, 3) := by decide +kernel
theorem dX11_quarrels_17 : decode cX11_quarrels 17 = .ok (.aload_n 0, 1) := by decide +kernel
theorem dX11_quarrels_18 : decode cX11_quarrels 18 = .ok (.iconst 1, 1) := by decide +kernel
theorem dX11_quarrels_19 : decode cX11_quarrels 19 = .ok (.invokevirtual 281, 3) := by decide +kernel
theorem dX11_quarrels_22 : decode cX11_quarrels 22 = .ok (.ireturn, 1) := by decide +kernel
theorem dX11_quarrels_23 : decode cX11_quarrels 23 = .ok (.aload_n 0, 1) := by decide +kernel
theorem dX11_quarrels_24 : decode cX11_quarrels 24 = .ok (.aload_n 0, 1) := by decide +kernel
theorem dX11_quarrels_25 : decode cX11_quarrels 25 = .ok (.getfield 97, 3) := by decide +kernel
theorem dX11_quarrels_28 : decode cX11_quarrels 28 = .ok (.iconst 0, 1) := by decide +kernel
theorem dX11_quarrels_29 : decode cX11_quarrels 29 = .ok (.invokevirtual 390, 3) := by decide +kernel
theorem dX11_quarrels_32 : decode cX11_quarrels 32 = .ok (.iconst 0, 1) := by decide +kernel
theorem dX11_quarrels_33 : decode cX11_quarrels 33 = .ok (.istore_n 2, 1) := by decide +kernel
theorem dX11_quarrels_34 : decode cX11_quarrels 34 = .ok (.iconst 0, 1) := by decide +kernel
theorem dX11_quarrels_35 : decode cX11_quarrels 35 = .ok (.istore_n 3, 1) := by decide +kernel
theorem dX11_quarrels_36 : decode cX11_quarrels 36 = .ok (.iload_n 3, 1) := by decide +kernel
theorem dX11_quarrels_37 : decode cX11_quarrels 37 = .ok (.iload_n 1, 1) := by decide +kernel
theorem dX11_quarrels_38 : decode cX11_quarrels 38 = .ok (.if_icmp .ge 20, 3) := by decide +kernel
theorem dX11_quarrels_41 : decode cX11_quarrels 41 = .ok (.aload_n 0, 1) := by decide +kernel
theorem dX11_quarrels_42 : decode cX11_quarrels 42 = .ok (.invokevirtual 402, 3) := by decide +kernel
theorem dX11_quarrels_45 : decode cX11_quarrels 45 = .ok (.iload_n 2, 1) := by decide +kernel
theorem dX11_quarrels_46 : decode cX11_quarrels 46 = .ok (.aload_n 0, 1) := by decide +kernel
theorem dX11_quarrels_47 : decode cX11_quarrels 47 = .ok (.getfield 337, 3) := by decide +kernel
theorem dX11_quarrels_50 : decode cX11_quarrels 50 = .ok (.iadd, 1) := by decide +kernel
theorem dX11_quarrels_51 : decode cX11_quarrels 51 = .ok (.istore_n 2, 1) := by decide +kernel
theorem dX11_quarrels_52 : decode cX11_quarrels 52 = .ok (.iinc 3 1, 3) := by decide +kernel
theorem dX11_quarrels_55 : decode cX11_quarrels 55 = .ok (.goto (-19), 3) := by decide +kernel
theorem dX11_quarrels_58 : decode cX11_quarrels 58 = .ok (.aload_n 0, 1) := by decide +kernel
theorem dX11_quarrels_59 : decode cX11_quarrels 59 = .ok (.aload_n 0, 1) := by decide +kernel
theorem dX11_quarrels_60 : decode cX11_quarrels 60 = .ok (.getfield 97, 3) := by decide +kernel
theorem dX11_quarrels_63 : decode cX11_quarrels 63 = .ok (.iconst 0, 1) := by decide +kernel
theorem dX11_quarrels_64 : decode cX11_quarrels 64 = .ok (.invokevirtual 415, 3) := by decide +kernel
theorem dX11_quarrels_67 : decode cX11_quarrels 67 = .ok (.iload_n 2, 1) := by decide +kernel
theorem dX11_quarrels_68 : decode cX11_quarrels 68 = .ok (.ireturn, 1) := by decide +kernel
theorem dX11_joined_0 : decode cX11_joined 0 = .ok (.aload_n 0, 1) := by decide +kernel
theorem dX11_joined_1 : decode cX11_joined 1 = .ok (.iconst 0, 1) := by decide +kernel
theorem dX11_joined_2 : decode cX11_joined 2 = .ok (.putfield 142, 3) := by decide +kernel
theorem dX11_joined_5 : decode cX11_joined 5 = .ok (.aload_n 0, 1) := by decide +kernel
theorem dX11_joined_6 : decode cX11_joined 6 = .ok (.iload_n 1, 1) := by decide +kernel
theorem dX11_joined_7 : decode cX11_joined 7 = .ok (.invokevirtual 379, 3) := by decide +kernel
theorem dX11_joined_10 : decode cX11_joined 10 = .ok (.ifCond .eq 11, 3) := by decide +kernel
theorem dX11_joined_13 : decode cX11_joined 13 = .ok (.aload_n 0, 1) := by decide +kernel
theorem dX11_joined_14 : decode cX11_joined 14 = .ok (.iload_n 2, 1) := by decide +kernel
theorem dX11_joined_15 : decode cX11_joined 15 = .ok (.invokevirtual 379, 3) := by decide +kernel
theorem dX11_joined_18 : decode cX11_joined 18 = .ok (.ifCond .ne 9, 3) := by decide +kernel
theorem dX11_joined_21 : decode cX11_joined 21 = .ok (.aload_n 0, 1) := by decide +kernel
theorem dX11_joined_22 : decode cX11_joined 22 = .ok (.iconst 1, 1) := by decide +kernel
theorem dX11_joined_23 : decode cX11_joined 23 = .ok (.invokevirtual 281, 3) := by decide +kernel
theorem dX11_joined_26 : decode cX11_joined 26 = .ok (.ireturn, 1) := by decide +kernel
theorem dX11_joined_27 : decode cX11_joined 27 = .ok (.aload_n 0, 1) := by decide +kernel
theorem dX11_joined_28 : decode cX11_joined 28 = .ok (.iload_n 1, 1) := by decide +kernel
theorem dX11_joined_29 : decode cX11_joined 29 = .ok (.invokevirtual 361, 3) := by decide +kernel
theorem dX11_joined_32 : decode cX11_joined 32 = .ok (.aload_n 0, 1) := by decide +kernel
theorem dX11_joined_33 : decode cX11_joined 33 = .ok (.getfield 94, 3) := by decide +kernel
theorem dX11_joined_36 : decode cX11_joined 36 = .ok (.iload_n 2, 1) := by decide +kernel
theorem dX11_joined_37 : decode cX11_joined 37 = .ok (.iaload, 1) := by decide +kernel
theorem dX11_joined_38 : decode cX11_joined 38 = .ok (.ldc 178, 2) := by decide +kernel
theorem dX11_joined_40 : decode cX11_joined 40 = .ok (.if_icmp .ne 7, 3) := by decide +kernel
theorem dX11_joined_43 : decode cX11_joined 43 = .ok (.iconst (-1), 1) := by decide +kernel
theorem dX11_joined_44 : decode cX11_joined 44 = .ok (.goto 9, 3) := by decide +kernel
theorem dX11_joined_47 : decode cX11_joined 47 = .ok (.aload_n 0, 1) := by decide +kernel
theorem dX11_joined_48 : decode cX11_joined 48 = .ok (.getfield 94, 3) := by decide +kernel
theorem dX11_joined_51 : decode cX11_joined 51 = .ok (.iload_n 2, 1) := by decide +kernel
theorem dX11_joined_52 : decode cX11_joined 52 = .ok (.iaload, 1) := by decide +kernel
theorem dX11_joined_53 : decode cX11_joined 53 = .ok (.ireturn, 1) := by decide +kernel
theorem dX11_strifeOf_0 : decode cX11_strifeOf 0 = .ok (.iconst 0, 1) := by decide +kernel
theorem dX11_strifeOf_1 : decode cX11_strifeOf 1 = .ok (.istore_n 3, 1) := by decide +kernel
theorem dX11_strifeOf_2 : decode cX11_strifeOf 2 = .ok (.iconst 0, 1) := by decide +kernel
theorem dX11_strifeOf_3 : decode cX11_strifeOf 3 = .ok (.istore 4, 2) := by decide +kernel
theorem dX11_strifeOf_5 : decode cX11_strifeOf 5 = .ok (.iload 4, 2) := by decide +kernel
theorem dX11_strifeOf_7 : decode cX11_strifeOf 7 = .ok (.bipush 24, 2) := by decide +kernel
theorem dX11_strifeOf_9 : decode cX11_strifeOf 9 = .ok (.if_icmp .ge 127, 3) := by decide +kernel
theorem dX11_strifeOf_12 : decode cX11_strifeOf 12 = .ok (.iload_n 1, 1) := by decide +kernel
theorem dX11_strifeOf_13 : decode cX11_strifeOf 13 = .ok (.iload_n 2, 1) := by decide +kernel
theorem dX11_strifeOf_14 : decode cX11_strifeOf 14 = .ok (.if_icmp .eq 122, 3) := by decide +kernel
theorem dX11_strifeOf_17 : decode cX11_strifeOf 17 = .ok (.aload_n 0, 1) := by decide +kernel
theorem dX11_strifeOf_18 : decode cX11_strifeOf 18 = .ok (.aload_n 0, 1) := by decide +kernel
theorem dX11_strifeOf_19 : decode cX11_strifeOf 19 = .ok (.getfield 74, 3) := by decide +kernel
theorem dX11_strifeOf_22 : decode cX11_strifeOf 22 = .ok (.iload_n 1, 1) := by decide +kernel
theorem dX11_strifeOf_23 : decode cX11_strifeOf 23 = .ok (.iaload, 1) := by decide +kernel
theorem dX11_strifeOf_24 : decode cX11_strifeOf 24 = .ok (.iload 4, 2) := by decide +kernel
theorem dX11_strifeOf_26 : decode cX11_strifeOf 26 = .ok (.invokevirtual 316, 3) := by decide +kernel
theorem dX11_strifeOf_29 : decode cX11_strifeOf 29 = .ok (.istore 5, 2) := by decide +kernel
theorem dX11_strifeOf_31 : decode cX11_strifeOf 31 = .ok (.aload_n 0, 1) := by decide +kernel
theorem dX11_strifeOf_32 : decode cX11_strifeOf 32 = .ok (.aload_n 0, 1) := by decide +kernel
theorem dX11_strifeOf_33 : decode cX11_strifeOf 33 = .ok (.getfield 74, 3) := by decide +kernel
theorem dX11_strifeOf_36 : decode cX11_strifeOf 36 = .ok (.iload_n 2, 1) := by decide +kernel
theorem dX11_strifeOf_37 : decode cX11_strifeOf 37 = .ok (.iaload, 1) := by decide +kernel
theorem dX11_strifeOf_38 : decode cX11_strifeOf 38 = .ok (.iload 4, 2) := by decide +kernel
theorem dX11_strifeOf_40 : decode cX11_strifeOf 40 = .ok (.invokevirtual 316, 3) := by decide +kernel
theorem dX11_strifeOf_43 : decode cX11_strifeOf 43 = .ok (.istore 6, 2) := by decide +kernel
theorem dX11_strifeOf_45 : decode cX11_strifeOf 45 = .ok (.iload 5, 2) := by decide +kernel
theorem dX11_strifeOf_47 : decode cX11_strifeOf 47 = .ok (.ifCond .eq 33, 3) := by decide +kernel
theorem dX11_strifeOf_50 : decode cX11_strifeOf 50 = .ok (.iload 6, 2) := by decide +kernel
theorem dX11_strifeOf_52 : decode cX11_strifeOf 52 = .ok (.ifCond .eq 28, 3) := by decide +kernel
theorem dX11_strifeOf_55 : decode cX11_strifeOf 55 = .ok (.aload_n 0, 1) := by decide +kernel
theorem dX11_strifeOf_56 : decode cX11_strifeOf 56 = .ok (.iload_n 1, 1) := by decide +kernel
theorem dX11_strifeOf_57 : decode cX11_strifeOf 57 = .ok (.iload 4, 2) := by decide +kernel
theorem dX11_strifeOf_59 : decode cX11_strifeOf 59 = .ok (.invokevirtual 340, 3) := by decide +kernel
theorem dX11_strifeOf_62 : decode cX11_strifeOf 62 = .ok (.aload_n 0, 1) := by decide +kernel
theorem dX11_strifeOf_63 : decode cX11_strifeOf 63 = .ok (.iload_n 2, 1) := by decide +kernel
theorem dX11_strifeOf_64 : decode cX11_strifeOf 64 = .ok (.iload 4, 2) := by decide +kernel
theorem dX11_strifeOf_66 : decode cX11_strifeOf 66 = .ok (.invokevirtual 340, 3) := by decide +kernel
theorem dX11_strifeOf_69 : decode cX11_strifeOf 69 = .ok (.if_icmp .eq 7, 3) := by decide +kernel
theorem dX11_strifeOf_72 : decode cX11_strifeOf 72 = .ok (.iconst 1, 1) := by decide +kernel
theorem dX11_strifeOf_73 : decode cX11_strifeOf 73 = .ok (.goto 42, 3) := by decide +kernel
theorem dX11_strifeOf_76 : decode cX11_strifeOf 76 = .ok (.iconst 0, 1) := by decide +kernel
theorem dX11_strifeOf_77 : decode cX11_strifeOf 77 = .ok (.goto 38, 3) := by decide +kernel
theorem dX11_strifeOf_80 : decode cX11_strifeOf 80 = .ok (.iload 5, 2) := by decide +kernel
theorem dX11_strifeOf_82 : decode cX11_strifeOf 82 = .ok (.ifCond .eq 13, 3) := by decide +kernel
theorem dX11_strifeOf_85 : decode cX11_strifeOf 85 = .ok (.aload_n 0, 1) := by decide +kernel
theorem dX11_strifeOf_86 : decode cX11_strifeOf 86 = .ok (.iload_n 1, 1) := by decide +kernel
theorem dX11_strifeOf_87 : decode cX11_strifeOf 87 = .ok (.iload 4, 2) := by decide +kernel
theorem dX11_strifeOf_89 : decode cX11_strifeOf 89 = .ok (.invokevirtual 340, 3) := by decide +kernel
theorem dX11_strifeOf_92 : decode cX11_strifeOf 92 = .ok (.ifCond .ne 18, 3) := by decide +kernel
theorem dX11_strifeOf_95 : decode cX11_strifeOf 95 = .ok (.iload 6, 2) := by decide +kernel
theorem dX11_strifeOf_97 : decode cX11_strifeOf 97 = .ok (.ifCond .eq 17, 3) := by decide +kernel
theorem dX11_strifeOf_100 : decode cX11_strifeOf 100 = .ok (.aload_n 0, 1) := by decide +kernel
theorem dX11_strifeOf_101 : decode cX11_strifeOf 101 = .ok (.iload_n 2, 1) := by decide +kernel
theorem dX11_strifeOf_102 : decode cX11_strifeOf 102 = .ok (.iload 4, 2) := by decide +kernel
theorem dX11_strifeOf_104 : decode cX11_strifeOf 104 = .ok (.invokevirtual 340, 3) := by decide +kernel
theorem dX11_strifeOf_107 : decode cX11_strifeOf 107 = .ok (.ifCond .eq 7, 3) := by decide +kernel
theorem dX11_strifeOf_110 : decode cX11_strifeOf 110 = .ok (.iconst 1, 1) := by decide +kernel
theorem dX11_strifeOf_111 : decode cX11_strifeOf 111 = .ok (.goto 4, 3) := by decide +kernel
theorem dX11_strifeOf_114 : decode cX11_strifeOf 114 = .ok (.iconst 0, 1) := by decide +kernel
theorem dX11_strifeOf_115 : decode cX11_strifeOf 115 = .ok (.istore 7, 2) := by decide +kernel
theorem dX11_strifeOf_117 : decode cX11_strifeOf 117 = .ok (.iload_n 3, 1) := by decide +kernel
theorem dX11_strifeOf_118 : decode cX11_strifeOf 118 = .ok (.iload 7, 2) := by decide +kernel
theorem dX11_strifeOf_120 : decode cX11_strifeOf 120 = .ok (.ifCond .eq 7, 3) := by decide +kernel
theorem dX11_strifeOf_123 : decode cX11_strifeOf 123 = .ok (.iconst 1, 1) := by decide +kernel
theorem dX11_strifeOf_124 : decode cX11_strifeOf 124 = .ok (.goto 4, 3) := by decide +kernel
theorem dX11_strifeOf_127 : decode cX11_strifeOf 127 = .ok (.iconst 0, 1) := by decide +kernel
theorem dX11_strifeOf_128 : decode cX11_strifeOf 128 = .ok (.iadd, 1) := by decide +kernel
theorem dX11_strifeOf_129 : decode cX11_strifeOf 129 = .ok (.istore_n 3, 1) := by decide +kernel
theorem dX11_strifeOf_130 : decode cX11_strifeOf 130 = .ok (.iinc 4 1, 3) := by decide +kernel
theorem dX11_strifeOf_133 : decode cX11_strifeOf 133 = .ok (.goto (-128), 3) := by decide +kernel
theorem dX11_strifeOf_136 : decode cX11_strifeOf 136 = .ok (.iload_n 3, 1) := by decide +kernel
theorem dX11_strifeOf_137 : decode cX11_strifeOf 137 = .ok (.ireturn, 1) := by decide +kernel
theorem dX11_strife_0 : decode cX11_strife 0 = .ok (.aload_n 0, 1) := by decide +kernel
theorem dX11_strife_1 : decode cX11_strife 1 = .ok (.iconst 0, 1) := by decide +kernel
theorem dX11_strife_2 : decode cX11_strife 2 = .ok (.putfield 142, 3) := by decide +kernel
theorem dX11_strife_5 : decode cX11_strife 5 = .ok (.aload_n 0, 1) := by decide +kernel
theorem dX11_strife_6 : decode cX11_strife 6 = .ok (.iload_n 1, 1) := by decide +kernel
theorem dX11_strife_7 : decode cX11_strife 7 = .ok (.invokevirtual 384, 3) := by decide +kernel
theorem dX11_strife_10 : decode cX11_strife 10 = .ok (.ifCond .eq 20, 3) := by decide +kernel
theorem dX11_strife_13 : decode cX11_strife 13 = .ok (.aload_n 0, 1) := by decide +kernel
theorem dX11_strife_14 : decode cX11_strife 14 = .ok (.iload_n 2, 1) := by decide +kernel
theorem dX11_strife_15 : decode cX11_strife 15 = .ok (.invokevirtual 384, 3) := by decide +kernel
theorem dX11_strife_18 : decode cX11_strife 18 = .ok (.ifCond .eq 12, 3) := by decide +kernel
theorem dX11_strife_21 : decode cX11_strife 21 = .ok (.aload_n 0, 1) := by decide +kernel
theorem dX11_strife_22 : decode cX11_strife 22 = .ok (.iload_n 1, 1) := by decide +kernel
theorem dX11_strife_23 : decode cX11_strife 23 = .ok (.iload_n 2, 1) := by decide +kernel
theorem dX11_strife_24 : decode cX11_strife 24 = .ok (.invokevirtual 420, 3) := by decide +kernel
theorem dX11_strife_27 : decode cX11_strife 27 = .ok (.goto 8, 3) := by decide +kernel
theorem dX11_strife_30 : decode cX11_strife 30 = .ok (.aload_n 0, 1) := by decide +kernel
theorem dX11_strife_31 : decode cX11_strife 31 = .ok (.iconst 1, 1) := by decide +kernel
theorem dX11_strife_32 : decode cX11_strife 32 = .ok (.invokevirtual 281, 3) := by decide +kernel
theorem dX11_strife_35 : decode cX11_strife 35 = .ok (.ireturn, 1) := by decide +kernel
theorem dX11_lowest_0 : decode cX11_lowest 0 = .ok (.iconst 0, 1) := by decide +kernel
theorem dX11_lowest_1 : decode cX11_lowest 1 = .ok (.istore_n 1, 1) := by decide +kernel
theorem dX11_lowest_2 : decode cX11_lowest 2 = .ok (.iload_n 0, 1) := by decide +kernel
theorem dX11_lowest_3 : decode cX11_lowest 3 = .ok (.iload_n 1, 1) := by decide +kernel
theorem dX11_lowest_4 : decode cX11_lowest 4 = .ok (.invokestatic 334, 3) := by decide +kernel
theorem dX11_lowest_7 : decode cX11_lowest 7 = .ok (.ifCond .ne 9, 3) := by decide +kernel
theorem dX11_lowest_10 : decode cX11_lowest 10 = .ok (.iinc 1 1, 3) := by decide +kernel
theorem dX11_lowest_13 : decode cX11_lowest 13 = .ok (.goto (-11), 3) := by decide +kernel
theorem dX11_lowest_16 : decode cX11_lowest 16 = .ok (.iload_n 1, 1) := by decide +kernel
theorem dX11_lowest_17 : decode cX11_lowest 17 = .ok (.ireturn, 1) := by decide +kernel
theorem dX11_castAnew_0 : decode cX11_castAnew 0 = .ok (.iconst 0, 1) := by decide +kernel
theorem dX11_castAnew_1 : decode cX11_castAnew 1 = .ok (.istore_n 1, 1) := by decide +kernel
theorem dX11_castAnew_2 : decode cX11_castAnew 2 = .ok (.iconst 0, 1) := by decide +kernel
theorem dX11_castAnew_3 : decode cX11_castAnew 3 = .ok (.istore_n 2, 1) := by decide +kernel
theorem dX11_castAnew_4 : decode cX11_castAnew 4 = .ok (.iload_n 2, 1) := by decide +kernel
theorem dX11_castAnew_5 : decode cX11_castAnew 5 = .ok (.aload_n 0, 1) := by decide +kernel
theorem dX11_castAnew_6 : decode cX11_castAnew 6 = .ok (.getfield 38, 3) := by decide +kernel
theorem dX11_castAnew_9 : decode cX11_castAnew 9 = .ok (.iconst 1, 1) := by decide +kernel
theorem dX11_castAnew_10 : decode cX11_castAnew 10 = .ok (.iaload, 1) := by decide +kernel
theorem dX11_castAnew_11 : decode cX11_castAnew 11 = .ok (.if_icmp .ge 84, 3) := by decide +kernel
theorem dX11_castAnew_14 : decode cX11_castAnew 14 = .ok (.aload_n 0, 1) := by decide +kernel
theorem dX11_castAnew_15 : decode cX11_castAnew 15 = .ok (.getfield 106, 3) := by decide +kernel
theorem dX11_castAnew_18 : decode cX11_castAnew 18 = .ok (.iload_n 2, 1) := by decide +kernel
theorem dX11_castAnew_19 : decode cX11_castAnew 19 = .ok (.iconst (-1), 1) := by decide +kernel
theorem dX11_castAnew_20 : decode cX11_castAnew 20 = .ok (.iastore, 1) := by decide +kernel
theorem dX11_castAnew_21 : decode cX11_castAnew 21 = .ok (.iload_n 1, 1) := by decide +kernel
theorem dX11_castAnew_22 : decode cX11_castAnew 22 = .ok (.aload_n 0, 1) := by decide +kernel
theorem dX11_castAnew_23 : decode cX11_castAnew 23 = .ok (.getfield 56, 3) := by decide +kernel
theorem dX11_castAnew_26 : decode cX11_castAnew 26 = .ok (.iload_n 2, 1) := by decide +kernel
theorem dX11_castAnew_27 : decode cX11_castAnew 27 = .ok (.iaload, 1) := by decide +kernel
theorem dX11_castAnew_28 : decode cX11_castAnew 28 = .ok (.iconst (-1), 1) := by decide +kernel
theorem dX11_castAnew_29 : decode cX11_castAnew 29 = .ok (.if_icmp .eq 22, 3) := by decide +kernel
theorem dX11_castAnew_32 : decode cX11_castAnew 32 = .ok (.aload_n 0, 1) := by decide +kernel
theorem dX11_castAnew_33 : decode cX11_castAnew 33 = .ok (.getfield 299, 3) := by decide +kernel
theorem dX11_castAnew_36 : decode cX11_castAnew 36 = .ok (.aload_n 0, 1) := by decide +kernel
theorem dX11_castAnew_37 : decode cX11_castAnew 37 = .ok (.iload_n 2, 1) := by decide +kernel
theorem dX11_castAnew_38 : decode cX11_castAnew 38 = .ok (.invokevirtual 331, 3) := by decide +kernel
theorem dX11_castAnew_41 : decode cX11_castAnew 41 = .ok (.iand, 1) := by decide +kernel
theorem dX11_castAnew_42 : decode cX11_castAnew 42 = .ok (.ifCond .ne 9, 3) := by decide +kernel
theorem dX11_castAnew_45 : decode cX11_castAnew 45 = .ok (.iconst 1, 1) := by decide +kernel
theorem dX11_castAnew_46 : decode cX11_castAnew 46 = .ok (.iload_n 2, 1) := by decide +kernel
theorem dX11_castAnew_47 : decode cX11_castAnew 47 = .ok (.ishl, 1) := by decide +kernel
theorem dX11_castAnew_48 : decode cX11_castAnew 48 = .ok (.goto 4, 3) := by decide +kernel
theorem dX11_castAnew_51 : decode cX11_castAnew 51 = .ok (.iconst 0, 1) := by decide +kernel
theorem dX11_castAnew_52 : decode cX11_castAnew 52 = .ok (.ior, 1) := by decide +kernel
theorem dX11_castAnew_53 : decode cX11_castAnew 53 = .ok (.istore_n 1, 1) := by decide +kernel
theorem dX11_castAnew_54 : decode cX11_castAnew 54 = .ok (.iconst 0, 1) := by decide +kernel
theorem dX11_castAnew_55 : decode cX11_castAnew 55 = .ok (.istore_n 3, 1) := by decide +kernel
theorem dX11_castAnew_56 : decode cX11_castAnew 56 = .ok (.iload_n 3, 1) := by decide +kernel
theorem dX11_castAnew_57 : decode cX11_castAnew 57 = .ok (.aload_n 0, 1) := by decide +kernel
theorem dX11_castAnew_58 : decode cX11_castAnew 58 = .ok (.getfield 38, 3) := by decide +kernel
theorem dX11_castAnew_61 : decode cX11_castAnew 61 = .ok (.iconst 1, 1) := by decide +kernel
theorem dX11_castAnew_62 : decode cX11_castAnew 62 = .ok (.iaload, 1) := by decide +kernel
theorem dX11_castAnew_63 : decode cX11_castAnew 63 = .ok (.if_icmp .ge 26, 3) := by decide +kernel
theorem dX11_castAnew_66 : decode cX11_castAnew 66 = .ok (.aload_n 0, 1) := by decide +kernel
theorem dX11_castAnew_67 : decode cX11_castAnew 67 = .ok (.getfield 100, 3) := by decide +kernel
theorem dX11_castAnew_70 : decode cX11_castAnew 70 = .ok (.bipush 12, 2) := by decide +kernel
theorem dX11_castAnew_72 : decode cX11_castAnew 72 = .ok (.iload_n 2, 1) := by decide +kernel
theorem dX11_castAnew_73 : decode cX11_castAnew 73 = .ok (.imul, 1) := by decide +kernel
theorem dX11_castAnew_74 : decode cX11_castAnew 74 = .ok (.iload_n 3, 1) := by decide +kernel
theorem dX11_castAnew_75 : decode cX11_castAnew 75 = .ok (.iadd, 1) := by decide +kernel
theorem dX11_castAnew_76 : decode cX11_castAnew 76 = .ok (.aload_n 0, 1) := by decide +kernel
theorem dX11_castAnew_77 : decode cX11_castAnew 77 = .ok (.iload_n 2, 1) := by decide +kernel
theorem dX11_castAnew_78 : decode cX11_castAnew 78 = .ok (.iload_n 3, 1) := by decide +kernel
theorem dX11_castAnew_79 : decode cX11_castAnew 79 = .ok (.invokevirtual 420, 3) := by decide +kernel
theorem dX11_castAnew_82 : decode cX11_castAnew 82 = .ok (.iastore, 1) := by decide +kernel
theorem dX11_castAnew_83 : decode cX11_castAnew 83 = .ok (.iinc 3 1, 3) := by decide +kernel
theorem dX11_castAnew_86 : decode cX11_castAnew 86 = .ok (.goto (-30), 3) := by decide +kernel
theorem dX11_castAnew_89 : decode cX11_castAnew 89 = .ok (.iinc 2 1, 3) := by decide +kernel
theorem dX11_castAnew_92 : decode cX11_castAnew 92 = .ok (.goto (-88), 3) := by decide +kernel
theorem dX11_castAnew_95 : decode cX11_castAnew 95 = .ok (.aload_n 0, 1) := by decide +kernel
theorem dX11_castAnew_96 : decode cX11_castAnew 96 = .ok (.getfield 103, 3) := by decide +kernel
theorem dX11_castAnew_99 : decode cX11_castAnew 99 = .ok (.iconst 0, 1) := by decide +kernel
theorem dX11_castAnew_100 : decode cX11_castAnew 100 = .ok (.iconst 0, 1) := by decide +kernel
theorem dX11_castAnew_101 : decode cX11_castAnew 101 = .ok (.iastore, 1) := by decide +kernel
theorem dX11_castAnew_102 : decode cX11_castAnew 102 = .ok (.iconst 1, 1) := by decide +kernel
theorem dX11_castAnew_103 : decode cX11_castAnew 103 = .ok (.istore_n 2, 1) := by decide +kernel
theorem dX11_castAnew_104 : decode cX11_castAnew 104 = .ok (.iload_n 2, 1) := by decide +kernel
theorem dX11_castAnew_105 : decode cX11_castAnew 105 = .ok (.iload_n 1, 1) := by decide +kernel
theorem dX11_castAnew_106 : decode cX11_castAnew 106 = .ok (.if_icmp .gt 98, 3) := by decide +kernel
theorem dX11_castAnew_109 : decode cX11_castAnew 109 = .ok (.aload_n 0, 1) := by decide +kernel
theorem dX11_castAnew_110 : decode cX11_castAnew 110 = .ok (.getfield 103, 3) := by decide +kernel
theorem dX11_castAnew_113 : decode cX11_castAnew 113 = .ok (.iload_n 2, 1) := by decide +kernel
theorem dX11_castAnew_114 : decode cX11_castAnew 114 = .ok (.ldc 178, 2) := by decide +kernel
theorem dX11_castAnew_116 : decode cX11_castAnew 116 = .ok (.iastore, 1) := by decide +kernel
theorem dX11_castAnew_117 : decode cX11_castAnew 117 = .ok (.iload_n 2, 1) := by decide +kernel
theorem dX11_castAnew_118 : decode cX11_castAnew 118 = .ok (.invokestatic 423, 3) := by decide +kernel
theorem dX11_castAnew_121 : decode cX11_castAnew 121 = .ok (.istore_n 3, 1) := by decide +kernel
theorem dX11_castAnew_122 : decode cX11_castAnew 122 = .ok (.iload_n 3, 1) := by decide +kernel
theorem dX11_castAnew_123 : decode cX11_castAnew 123 = .ok (.iconst 1, 1) := by decide +kernel
theorem dX11_castAnew_124 : decode cX11_castAnew 124 = .ok (.iadd, 1) := by decide +kernel
theorem dX11_castAnew_125 : decode cX11_castAnew 125 = .ok (.istore 4, 2) := by decide +kernel
theorem dX11_castAnew_127 : decode cX11_castAnew 127 = .ok (.iload 4, 2) := by decide +kernel
theorem dX11_castAnew_129 : decode cX11_castAnew 129 = .ok (.aload_n 0, 1) := by decide +kernel
theorem dX11_castAnew_130 : decode cX11_castAnew 130 = .ok (.getfield 38, 3) := by decide +kernel
theorem dX11_castAnew_133 : decode cX11_castAnew 133 = .ok (.iconst 1, 1) := by decide +kernel
theorem dX11_castAnew_134 : decode cX11_castAnew 134 = .ok (.iaload, 1) := by decide +kernel
theorem dX11_castAnew_135 : decode cX11_castAnew 135 = .ok (.if_icmp .ge 63, 3) := by decide +kernel
theorem dX11_castAnew_138 : decode cX11_castAnew 138 = .ok (.iload_n 2, 1) := by decide +kernel
theorem dX11_castAnew_139 : decode cX11_castAnew 139 = .ok (.iload 4, 2) := by decide +kernel
theorem dX11_castAnew_141 : decode cX11_castAnew 141 = .ok (.invokestatic 334, 3) := by decide +kernel
theorem dX11_castAnew_144 : decode cX11_castAnew 144 = .ok (.ifCond .eq 48, 3) := by decide +kernel
theorem dX11_castAnew_147 : decode cX11_castAnew 147 = .ok (.aload_n 0, 1) := by decide +kernel
theorem dX11_castAnew_148 : decode cX11_castAnew 148 = .ok (.getfield 103, 3) := by decide +kernel
theorem dX11_castAnew_151 : decode cX11_castAnew 151 = .ok (.iload_n 2, 1) := by decide +kernel
theorem dX11_castAnew_152 : decode cX11_castAnew 152 = .ok (.aload_n 0, 1) := by decide +kernel
theorem dX11_castAnew_153 : decode cX11_castAnew 153 = .ok (.getfield 103, 3) := by decide +kernel
theorem dX11_castAnew_156 : decode cX11_castAnew 156 = .ok (.iload_n 2, 1) := by decide +kernel
theorem dX11_castAnew_157 : decode cX11_castAnew 157 = .ok (.iaload, 1) := by decide +kernel
theorem dX11_castAnew_158 : decode cX11_castAnew 158 = .ok (.aload_n 0, 1) := by decide +kernel
theorem dX11_castAnew_159 : decode cX11_castAnew 159 = .ok (.getfield 100, 3) := by decide +kernel
theorem dX11_castAnew_162 : decode cX11_castAnew 162 = .ok (.bipush 12, 2) := by decide +kernel
theorem dX11_castAnew_164 : decode cX11_castAnew 164 = .ok (.iload_n 3, 1) := by decide +kernel
theorem dX11_castAnew_165 : decode cX11_castAnew 165 = .ok (.imul, 1) := by decide +kernel
theorem dX11_castAnew_166 : decode cX11_castAnew 166 = .ok (.iload 4, 2) := by decide +kernel
theorem dX11_castAnew_168 : decode cX11_castAnew 168 = .ok (.iadd, 1) := by decide +kernel
theorem dX11_castAnew_169 : decode cX11_castAnew 169 = .ok (.iaload, 1) := by decide +kernel
theorem dX11_castAnew_170 : decode cX11_castAnew 170 = .ok (.aload_n 0, 1) := by decide +kernel
theorem dX11_castAnew_171 : decode cX11_castAnew 171 = .ok (.getfield 103, 3) := by decide +kernel
theorem dX11_castAnew_174 : decode cX11_castAnew 174 = .ok (.iload_n 2, 1) := by decide +kernel
theorem dX11_castAnew_175 : decode cX11_castAnew 175 = .ok (.iconst 1, 1) := by decide +kernel
theorem dX11_castAnew_176 : decode cX11_castAnew 176 = .ok (.iload_n 3, 1) := by decide +kernel
theorem dX11_castAnew_177 : decode cX11_castAnew 177 = .ok (.ishl, 1) := by decide +kernel
theorem dX11_castAnew_178 : decode cX11_castAnew 178 = .ok (.iconst 1, 1) := by decide +kernel
theorem dX11_castAnew_179 : decode cX11_castAnew 179 = .ok (.iload 4, 2) := by decide +kernel
theorem dX11_castAnew_181 : decode cX11_castAnew 181 = .ok (.ishl, 1) := by decide +kernel
theorem dX11_castAnew_182 : decode cX11_castAnew 182 = .ok (.ior, 1) := by decide +kernel
theorem dX11_castAnew_183 : decode cX11_castAnew 183 = .ok (.iconst (-1), 1) := by decide +kernel
theorem dX11_castAnew_184 : decode cX11_castAnew 184 = .ok (.ixor, 1) := by decide +kernel
theorem dX11_castAnew_185 : decode cX11_castAnew 185 = .ok (.iand, 1) := by decide +kernel
theorem dX11_castAnew_186 : decode cX11_castAnew 186 = .ok (.iaload, 1) := by decide +kernel
theorem dX11_castAnew_187 : decode cX11_castAnew 187 = .ok (.iadd, 1) := by decide +kernel
theorem dX11_castAnew_188 : decode cX11_castAnew 188 = .ok (.invokestatic 179, 3) := by decide +kernel
theorem dX11_castAnew_191 : decode cX11_castAnew 191 = .ok (.iastore, 1) := by decide +kernel
theorem dX11_castAnew_192 : decode cX11_castAnew 192 = .ok (.iinc 4 1, 3) := by decide +kernel
theorem dX11_castAnew_195 : decode cX11_castAnew 195 = .ok (.goto (-68), 3) := by decide +kernel
theorem dX11_castAnew_198 : decode cX11_castAnew 198 = .ok (.iinc 2 1, 3) := by decide +kernel
theorem dX11_castAnew_201 : decode cX11_castAnew 201 = .ok (.goto (-97), 3) := by decide +kernel
theorem dX11_castAnew_204 : decode cX11_castAnew 204 = .ok (.iload_n 1, 1) := by decide +kernel
theorem dX11_castAnew_205 : decode cX11_castAnew 205 = .ok (.istore_n 2, 1) := by decide +kernel
theorem dX11_castAnew_206 : decode cX11_castAnew 206 = .ok (.iload_n 2, 1) := by decide +kernel
theorem dX11_castAnew_207 : decode cX11_castAnew 207 = .ok (.ifCond .eq 99, 3) := by decide +kernel
theorem dX11_castAnew_210 : decode cX11_castAnew 210 = .ok (.iload_n 2, 1) := by decide +kernel
theorem dX11_castAnew_211 : decode cX11_castAnew 211 = .ok (.invokestatic 423, 3) := by decide +kernel
theorem dX11_castAnew_214 : decode cX11_castAnew 214 = .ok (.istore_n 3, 1) := by decide +kernel
theorem dX11_castAnew_215 : decode cX11_castAnew 215 = .ok (.iload_n 3, 1) := by decide +kernel
theorem dX11_castAnew_216 : decode cX11_castAnew 216 = .ok (.iconst 1, 1) := by decide +kernel
theorem dX11_castAnew_217 : decode cX11_castAnew 217 = .ok (.iadd, 1) := by decide +kernel
theorem dX11_castAnew_218 : decode cX11_castAnew 218 = .ok (.istore 4, 2) := by decide +kernel
theorem dX11_castAnew_220 : decode cX11_castAnew 220 = .ok (.iload_n 2, 1) := by decide +kernel
theorem dX11_castAnew_221 : decode cX11_castAnew 221 = .ok (.iload 4, 2) := by decide +kernel
theorem dX11_castAnew_223 : decode cX11_castAnew 223 = .ok (.invokestatic 334, 3) := by decide +kernel
theorem dX11_castAnew_226 : decode cX11_castAnew 226 = .ok (.ifCond .eq 42, 3) := by decide +kernel
theorem dX11_castAnew_229 : decode cX11_castAnew 229 = .ok (.aload_n 0, 1) := by decide +kernel
theorem dX11_castAnew_230 : decode cX11_castAnew 230 = .ok (.getfield 100, 3) := by decide +kernel
theorem dX11_castAnew_233 : decode cX11_castAnew 233 = .ok (.bipush 12, 2) := by decide +kernel
theorem dX11_castAnew_235 : decode cX11_castAnew 235 = .ok (.iload_n 3, 1) := by decide +kernel
theorem dX11_castAnew_236 : decode cX11_castAnew 236 = .ok (.imul, 1) := by decide +kernel
theorem dX11_castAnew_237 : decode cX11_castAnew 237 = .ok (.iload 4, 2) := by decide +kernel
theorem dX11_castAnew_239 : decode cX11_castAnew 239 = .ok (.iadd, 1) := by decide +kernel
theorem dX11_castAnew_240 : decode cX11_castAnew 240 = .ok (.iaload, 1) := by decide +kernel
theorem dX11_castAnew_241 : decode cX11_castAnew 241 = .ok (.aload_n 0, 1) := by decide +kernel
theorem dX11_castAnew_242 : decode cX11_castAnew 242 = .ok (.getfield 103, 3) := by decide +kernel
theorem dX11_castAnew_245 : decode cX11_castAnew 245 = .ok (.iload_n 2, 1) := by decide +kernel
theorem dX11_castAnew_246 : decode cX11_castAnew 246 = .ok (.iconst 1, 1) := by decide +kernel
theorem dX11_castAnew_247 : decode cX11_castAnew 247 = .ok (.iload_n 3, 1) := by decide +kernel
theorem dX11_castAnew_248 : decode cX11_castAnew 248 = .ok (.ishl, 1) := by decide +kernel
theorem dX11_castAnew_249 : decode cX11_castAnew 249 = .ok (.iconst 1, 1) := by decide +kernel
theorem dX11_castAnew_250 : decode cX11_castAnew 250 = .ok (.iload 4, 2) := by decide +kernel
theorem dX11_castAnew_252 : decode cX11_castAnew 252 = .ok (.ishl, 1) := by decide +kernel
theorem dX11_castAnew_253 : decode cX11_castAnew 253 = .ok (.ior, 1) := by decide +kernel
theorem dX11_castAnew_254 : decode cX11_castAnew 254 = .ok (.iconst (-1), 1) := by decide +kernel
theorem dX11_castAnew_255 : decode cX11_castAnew 255 = .ok (.ixor, 1) := by decide +kernel
theorem dX11_castAnew_256 : decode cX11_castAnew 256 = .ok (.iand, 1) := by decide +kernel
theorem dX11_castAnew_257 : decode cX11_castAnew 257 = .ok (.iaload, 1) := by decide +kernel
theorem dX11_castAnew_258 : decode cX11_castAnew 258 = .ok (.iadd, 1) := by decide +kernel
theorem dX11_castAnew_259 : decode cX11_castAnew 259 = .ok (.aload_n 0, 1) := by decide +kernel
theorem dX11_castAnew_260 : decode cX11_castAnew 260 = .ok (.getfield 103, 3) := by decide +kernel
theorem dX11_castAnew_263 : decode cX11_castAnew 263 = .ok (.iload_n 2, 1) := by decide +kernel
theorem dX11_castAnew_264 : decode cX11_castAnew 264 = .ok (.iaload, 1) := by decide +kernel
theorem dX11_castAnew_265 : decode cX11_castAnew 265 = .ok (.if_icmp .eq 9, 3) := by decide +kernel
theorem dX11_castAnew_268 : decode cX11_castAnew 268 = .ok (.iinc 4 1, 3) := by decide +kernel
theorem dX11_castAnew_271 : decode cX11_castAnew 271 = .ok (.goto (-51), 3) := by decide +kernel
theorem dX11_castAnew_274 : decode cX11_castAnew 274 = .ok (.aload_n 0, 1) := by decide +kernel
theorem dX11_castAnew_275 : decode cX11_castAnew 275 = .ok (.getfield 106, 3) := by decide +kernel
theorem dX11_castAnew_278 : decode cX11_castAnew 278 = .ok (.iload_n 3, 1) := by decide +kernel
theorem dX11_castAnew_279 : decode cX11_castAnew 279 = .ok (.iload 4, 2) := by decide +kernel
theorem dX11_castAnew_281 : decode cX11_castAnew 281 = .ok (.iastore, 1) := by decide +kernel
theorem dX11_castAnew_282 : decode cX11_castAnew 282 = .ok (.aload_n 0, 1) := by decide +kernel
theorem dX11_castAnew_283 : decode cX11_castAnew 283 = .ok (.getfield 106, 3) := by decide +kernel
theorem dX11_castAnew_286 : decode cX11_castAnew 286 = .ok (.iload 4, 2) := by decide +kernel
theorem dX11_castAnew_288 : decode cX11_castAnew 288 = .ok (.iload_n 3, 1) := by decide +kernel
theorem dX11_castAnew_289 : decode cX11_castAnew 289 = .ok (.iastore, 1) := by decide +kernel
theorem dX11_castAnew_290 : decode cX11_castAnew 290 = .ok (.iload_n 2, 1) := by decide +kernel
theorem dX11_castAnew_291 : decode cX11_castAnew 291 = .ok (.iconst 1, 1) := by decide +kernel
theorem dX11_castAnew_292 : decode cX11_castAnew 292 = .ok (.iload_n 3, 1) := by decide +kernel
theorem dX11_castAnew_293 : decode cX11_castAnew 293 = .ok (.ishl, 1) := by decide +kernel
theorem dX11_castAnew_294 : decode cX11_castAnew 294 = .ok (.iconst 1, 1) := by decide +kernel
theorem dX11_castAnew_295 : decode cX11_castAnew 295 = .ok (.iload 4, 2) := by decide +kernel
theorem dX11_castAnew_297 : decode cX11_castAnew 297 = .ok (.ishl, 1) := by decide +kernel
theorem dX11_castAnew_298 : decode cX11_castAnew 298 = .ok (.ior, 1) := by decide +kernel
theorem dX11_castAnew_299 : decode cX11_castAnew 299 = .ok (.iconst (-1), 1) := by decide +kernel
theorem dX11_castAnew_300 : decode cX11_castAnew 300 = .ok (.ixor, 1) := by decide +kernel
theorem dX11_castAnew_301 : decode cX11_castAnew 301 = .ok (.iand, 1) := by decide +kernel
theorem dX11_castAnew_302 : decode cX11_castAnew 302 = .ok (.istore_n 2, 1) := by decide +kernel
theorem dX11_castAnew_303 : decode cX11_castAnew 303 = .ok (.goto (-97), 3) := by decide +kernel
theorem dX11_castAnew_306 : decode cX11_castAnew 306 = .ok (.aload_n 0, 1) := by decide +kernel
theorem dX11_castAnew_307 : decode cX11_castAnew 307 = .ok (.getfield 103, 3) := by decide +kernel
theorem dX11_castAnew_310 : decode cX11_castAnew 310 = .ok (.iload_n 1, 1) := by decide +kernel
theorem dX11_castAnew_311 : decode cX11_castAnew 311 = .ok (.iaload, 1) := by decide +kernel
theorem dX11_castAnew_312 : decode cX11_castAnew 312 = .ok (.ireturn, 1) := by decide +kernel
theorem dX11_better_0 : decode cX11_better 0 = .ok (.aload_n 0, 1) := by decide +kernel
theorem dX11_better_1 : decode cX11_better 1 = .ok (.iconst 0, 1) := by decide +kernel
theorem dX11_better_2 : decode cX11_better 2 = .ok (.putfield 142, 3) := by decide +kernel
theorem dX11_better_5 : decode cX11_better 5 = .ok (.iload_n 1, 1) := by decide +kernel
theorem dX11_better_6 : decode cX11_better 6 = .ok (.i2l, 1) := by decide +kernel
theorem dX11_better_7 : decode cX11_better 7 = .ok (.ldc2_w 426, 3) := by decide +kernel
theorem dX11_better_10 : decode cX11_better 10 = .ok (.aload_n 0, 1) := by decide +kernel
theorem dX11_better_11 : decode cX11_better 11 = .ok (.getfield 38, 3) := by decide +kernel
theorem dX11_better_14 : decode cX11_better 14 = .ok (.iconst 1, 1) := by decide +kernel
theorem dX11_better_15 : decode cX11_better 15 = .ok (.iaload, 1) := by decide +kernel
theorem dX11_better_16 : decode cX11_better 16 = .ok (.iconst 1, 1) := by decide +kernel
theorem dX11_better_17 : decode cX11_better 17 = .ok (.isub, 1) := by decide +kernel
theorem dX11_better_18 : decode cX11_better 18 = .ok (.i2l, 1) := by decide +kernel
theorem dX11_better_19 : decode cX11_better 19 = .ok (.invokestatic 145, 3) := by decide +kernel
theorem dX11_better_22 : decode cX11_better 22 = .ok (.ifCond .ne 9, 3) := by decide +kernel
theorem dX11_better_25 : decode cX11_better 25 = .ok (.aload_n 0, 1) := by decide +kernel
theorem dX11_better_26 : decode cX11_better 26 = .ok (.iconst 1, 1) := by decide +kernel
theorem dX11_better_27 : decode cX11_better 27 = .ok (.invokevirtual 281, 3) := by decide +kernel
theorem dX11_better_30 : decode cX11_better 30 = .ok (.ireturn, 1) := by decide +kernel
theorem dX11_better_31 : decode cX11_better 31 = .ok (.aload_n 0, 1) := by decide +kernel
theorem dX11_better_32 : decode cX11_better 32 = .ok (.invokevirtual 428, 3) := by decide +kernel
theorem dX11_better_35 : decode cX11_better 35 = .ok (.istore_n 2, 1) := by decide +kernel
theorem dX11_better_36 : decode cX11_better 36 = .ok (.iload_n 1, 1) := by decide +kernel
theorem dX11_better_37 : decode cX11_better 37 = .ok (.iconst (-1), 1) := by decide +kernel
theorem dX11_better_38 : decode cX11_better 38 = .ok (.if_icmp .ne 7, 3) := by decide +kernel
theorem dX11_better_41 : decode cX11_better 41 = .ok (.iload_n 2, 1) := by decide +kernel
theorem dX11_better_42 : decode cX11_better 42 = .ok (.goto 9, 3) := by decide +kernel
theorem dX11_better_45 : decode cX11_better 45 = .ok (.aload_n 0, 1) := by decide +kernel
theorem dX11_better_46 : decode cX11_better 46 = .ok (.getfield 106, 3) := by decide +kernel
theorem dX11_better_49 : decode cX11_better 49 = .ok (.iload_n 1, 1) := by decide +kernel
theorem dX11_better_50 : decode cX11_better 50 = .ok (.iaload, 1) := by decide +kernel
theorem dX11_better_51 : decode cX11_better 51 = .ok (.ireturn, 1) := by decide +kernel
theorem dX11_griefIn_0 : decode cX11_griefIn 0 = .ok (.aload_n 0, 1) := by decide +kernel
theorem dX11_griefIn_1 : decode cX11_griefIn 1 = .ok (.aload_n 0, 1) := by decide +kernel
theorem dX11_griefIn_2 : decode cX11_griefIn 2 = .ok (.getfield 97, 3) := by decide +kernel
theorem dX11_griefIn_5 : decode cX11_griefIn 5 = .ok (.iconst 0, 1) := by decide +kernel
theorem dX11_griefIn_6 : decode cX11_griefIn 6 = .ok (.invokevirtual 390, 3) := by decide +kernel
theorem dX11_griefIn_9 : decode cX11_griefIn 9 = .ok (.iconst 0, 1) := by decide +kernel
theorem dX11_griefIn_10 : decode cX11_griefIn 10 = .ok (.istore_n 2, 1) := by decide +kernel
theorem dX11_griefIn_11 : decode cX11_griefIn 11 = .ok (.iconst 0, 1) := by decide +kernel
theorem dX11_griefIn_12 : decode cX11_griefIn 12 = .ok (.istore_n 3, 1) := by decide +kernel
theorem dX11_griefIn_13 : decode cX11_griefIn 13 = .ok (.iload_n 3, 1) := by decide +kernel
theorem dX11_griefIn_14 : decode cX11_griefIn 14 = .ok (.iload_n 1, 1) := by decide +kernel
theorem dX11_griefIn_15 : decode cX11_griefIn 15 = .ok (.if_icmp .ge 20, 3) := by decide +kernel
theorem dX11_griefIn_18 : decode cX11_griefIn 18 = .ok (.aload_n 0, 1) := by decide +kernel
theorem dX11_griefIn_19 : decode cX11_griefIn 19 = .ok (.invokevirtual 402, 3) := by decide +kernel
theorem dX11_griefIn_22 : decode cX11_griefIn 22 = .ok (.iload_n 2, 1) := by decide +kernel
theorem dX11_griefIn_23 : decode cX11_griefIn 23 = .ok (.aload_n 0, 1) := by decide +kernel
theorem dX11_griefIn_24 : decode cX11_griefIn 24 = .ok (.invokevirtual 431, 3) := by decide +kernel
theorem dX11_griefIn_27 : decode cX11_griefIn 27 = .ok (.iadd, 1) := by decide +kernel
theorem dX11_griefIn_28 : decode cX11_griefIn 28 = .ok (.istore_n 2, 1) := by decide +kernel
theorem dX11_griefIn_29 : decode cX11_griefIn 29 = .ok (.iinc 3 1, 3) := by decide +kernel
theorem dX11_griefIn_32 : decode cX11_griefIn 32 = .ok (.goto (-19), 3) := by decide +kernel
theorem dX11_griefIn_35 : decode cX11_griefIn 35 = .ok (.aload_n 0, 1) := by decide +kernel
theorem dX11_griefIn_36 : decode cX11_griefIn 36 = .ok (.aload_n 0, 1) := by decide +kernel
theorem dX11_griefIn_37 : decode cX11_griefIn 37 = .ok (.getfield 97, 3) := by decide +kernel
theorem dX11_griefIn_40 : decode cX11_griefIn 40 = .ok (.iconst 0, 1) := by decide +kernel
theorem dX11_griefIn_41 : decode cX11_griefIn 41 = .ok (.invokevirtual 415, 3) := by decide +kernel
theorem dX11_griefIn_44 : decode cX11_griefIn 44 = .ok (.iload_n 2, 1) := by decide +kernel
theorem dX11_griefIn_45 : decode cX11_griefIn 45 = .ok (.ireturn, 1) := by decide +kernel
theorem dX11_treaty_0 : decode cX11_treaty 0 = .ok (.aload_n 0, 1) := by decide +kernel
theorem dX11_treaty_1 : decode cX11_treaty 1 = .ok (.iconst 0, 1) := by decide +kernel
theorem dX11_treaty_2 : decode cX11_treaty 2 = .ok (.putfield 142, 3) := by decide +kernel
theorem dX11_treaty_5 : decode cX11_treaty 5 = .ok (.aload_n 0, 1) := by decide +kernel
theorem dX11_treaty_6 : decode cX11_treaty 6 = .ok (.iload_n 1, 1) := by decide +kernel
theorem dX11_treaty_7 : decode cX11_treaty 7 = .ok (.invokevirtual 379, 3) := by decide +kernel
theorem dX11_treaty_10 : decode cX11_treaty 10 = .ok (.ifCond .ne 9, 3) := by decide +kernel
theorem dX11_treaty_13 : decode cX11_treaty 13 = .ok (.aload_n 0, 1) := by decide +kernel
theorem dX11_treaty_14 : decode cX11_treaty 14 = .ok (.iconst 1, 1) := by decide +kernel
theorem dX11_treaty_15 : decode cX11_treaty 15 = .ok (.invokevirtual 281, 3) := by decide +kernel
theorem dX11_treaty_18 : decode cX11_treaty 18 = .ok (.ireturn, 1) := by decide +kernel
theorem dX11_treaty_19 : decode cX11_treaty 19 = .ok (.aload_n 0, 1) := by decide +kernel
theorem dX11_treaty_20 : decode cX11_treaty 20 = .ok (.getfield 79, 3) := by decide +kernel
theorem dX11_treaty_23 : decode cX11_treaty 23 = .ok (.iload_n 1, 1) := by decide +kernel
theorem dX11_treaty_24 : decode cX11_treaty 24 = .ok (.iaload, 1) := by decide +kernel
theorem dX11_treaty_25 : decode cX11_treaty 25 = .ok (.istore_n 2, 1) := by decide +kernel
theorem dX11_treaty_26 : decode cX11_treaty 26 = .ok (.aload_n 0, 1) := by decide +kernel
theorem dX11_treaty_27 : decode cX11_treaty 27 = .ok (.bipush 24, 2) := by decide +kernel
theorem dX11_treaty_29 : decode cX11_treaty 29 = .ok (.invokevirtual 434, 3) := by decide +kernel
theorem dX11_treaty_32 : decode cX11_treaty 32 = .ok (.istore_n 3, 1) := by decide +kernel
theorem dX11_treaty_33 : decode cX11_treaty 33 = .ok (.iconst (-1), 1) := by decide +kernel
theorem dX11_treaty_34 : decode cX11_treaty 34 = .ok (.istore 4, 2) := by decide +kernel
theorem dX11_treaty_36 : decode cX11_treaty 36 = .ok (.iconst 0, 1) := by decide +kernel
theorem dX11_treaty_37 : decode cX11_treaty 37 = .ok (.istore 5, 2) := by decide +kernel
theorem dX11_treaty_39 : decode cX11_treaty 39 = .ok (.iload 5, 2) := by decide +kernel
theorem dX11_treaty_41 : decode cX11_treaty 41 = .ok (.bipush 24, 2) := by decide +kernel
theorem dX11_treaty_43 : decode cX11_treaty 43 = .ok (.if_icmp .ge 41, 3) := by decide +kernel
theorem dX11_treaty_46 : decode cX11_treaty 46 = .ok (.aload_n 0, 1) := by decide +kernel
theorem dX11_treaty_47 : decode cX11_treaty 47 = .ok (.getfield 79, 3) := by decide +kernel
theorem dX11_treaty_50 : decode cX11_treaty 50 = .ok (.iload_n 1, 1) := by decide +kernel
theorem dX11_treaty_51 : decode cX11_treaty 51 = .ok (.iload 5, 2) := by decide +kernel
theorem dX11_treaty_53 : decode cX11_treaty 53 = .ok (.iastore, 1) := by decide +kernel
theorem dX11_treaty_54 : decode cX11_treaty 54 = .ok (.aload_n 0, 1) := by decide +kernel
theorem dX11_treaty_55 : decode cX11_treaty 55 = .ok (.bipush 24, 2) := by decide +kernel
theorem dX11_treaty_57 : decode cX11_treaty 57 = .ok (.invokevirtual 434, 3) := by decide +kernel
theorem dX11_treaty_60 : decode cX11_treaty 60 = .ok (.istore 6, 2) := by decide +kernel
theorem dX11_treaty_62 : decode cX11_treaty 62 = .ok (.iload 6, 2) := by decide +kernel
theorem dX11_treaty_64 : decode cX11_treaty 64 = .ok (.iload_n 3, 1) := by decide +kernel
theorem dX11_treaty_65 : decode cX11_treaty 65 = .ok (.if_icmp .lt 6, 3) := by decide +kernel
theorem dX11_treaty_68 : decode cX11_treaty 68 = .ok (.goto 10, 3) := by decide +kernel
theorem dX11_treaty_71 : decode cX11_treaty 71 = .ok (.iload 5, 2) := by decide +kernel
theorem dX11_treaty_73 : decode cX11_treaty 73 = .ok (.istore 4, 2) := by decide +kernel
theorem dX11_treaty_75 : decode cX11_treaty 75 = .ok (.iload 6, 2) := by decide +kernel
theorem dX11_treaty_77 : decode cX11_treaty 77 = .ok (.istore_n 3, 1) := by decide +kernel
theorem dX11_treaty_78 : decode cX11_treaty 78 = .ok (.iinc 5 1, 3) := by decide +kernel
theorem dX11_treaty_81 : decode cX11_treaty 81 = .ok (.goto (-42), 3) := by decide +kernel
theorem dX11_treaty_84 : decode cX11_treaty 84 = .ok (.aload_n 0, 1) := by decide +kernel
theorem dX11_treaty_85 : decode cX11_treaty 85 = .ok (.getfield 79, 3) := by decide +kernel
theorem dX11_treaty_88 : decode cX11_treaty 88 = .ok (.iload_n 1, 1) := by decide +kernel
theorem dX11_treaty_89 : decode cX11_treaty 89 = .ok (.iload_n 2, 1) := by decide +kernel
theorem dX11_treaty_90 : decode cX11_treaty 90 = .ok (.iastore, 1) := by decide +kernel
theorem dX11_treaty_91 : decode cX11_treaty 91 = .ok (.iload 4, 2) := by decide +kernel
theorem dX11_treaty_93 : decode cX11_treaty 93 = .ok (.ireturn, 1) := by decide +kernel
theorem dX11_bright_0 : decode cX11_bright 0 = .ok (.iconst 0, 1) := by decide +kernel
theorem dX11_bright_1 : decode cX11_bright 1 = .ok (.istore_n 1, 1) := by decide +kernel
theorem dX11_bright_2 : decode cX11_bright 2 = .ok (.iconst 0, 1) := by decide +kernel
theorem dX11_bright_3 : decode cX11_bright 3 = .ok (.istore_n 2, 1) := by decide +kernel
theorem dX11_bright_4 : decode cX11_bright 4 = .ok (.iload_n 2, 1) := by decide +kernel
theorem dX11_bright_5 : decode cX11_bright 5 = .ok (.aload_n 0, 1) := by decide +kernel
theorem dX11_bright_6 : decode cX11_bright 6 = .ok (.getfield 38, 3) := by decide +kernel
theorem dX11_bright_9 : decode cX11_bright 9 = .ok (.iconst 1, 1) := by decide +kernel
theorem dX11_bright_10 : decode cX11_bright 10 = .ok (.iaload, 1) := by decide +kernel
theorem dX11_bright_11 : decode cX11_bright 11 = .ok (.if_icmp .ge 37, 3) := by decide +kernel
theorem dX11_bright_14 : decode cX11_bright 14 = .ok (.iload_n 1, 1) := by decide +kernel
theorem dX11_bright_15 : decode cX11_bright 15 = .ok (.aload_n 0, 1) := by decide +kernel
theorem dX11_bright_16 : decode cX11_bright 16 = .ok (.getfield 299, 3) := by decide +kernel
theorem dX11_bright_19 : decode cX11_bright 19 = .ok (.aload_n 0, 1) := by decide +kernel
theorem dX11_bright_20 : decode cX11_bright 20 = .ok (.iload_n 2, 1) := by decide +kernel
theorem dX11_bright_21 : decode cX11_bright 21 = .ok (.invokevirtual 331, 3) := by decide +kernel
theorem dX11_bright_24 : decode cX11_bright 24 = .ok (.iand, 1) := by decide +kernel
theorem dX11_bright_25 : decode cX11_bright 25 = .ok (.ifCond .ne 14, 3) := by decide +kernel
theorem dX11_bright_28 : decode cX11_bright 28 = .ok (.iconst 1, 1) := by decide +kernel
theorem dX11_bright_29 : decode cX11_bright 29 = .ok (.aload_n 0, 1) := by decide +kernel
theorem dX11_bright_30 : decode cX11_bright 30 = .ok (.getfield 74, 3) := by decide +kernel
theorem dX11_bright_33 : decode cX11_bright 33 = .ok (.iload_n 2, 1) := by decide +kernel
theorem dX11_bright_34 : decode cX11_bright 34 = .ok (.iaload, 1) := by decide +kernel
theorem dX11_bright_35 : decode cX11_bright 35 = .ok (.ishl, 1) := by decide +kernel
theorem dX11_bright_36 : decode cX11_bright 36 = .ok (.goto 4, 3) := by decide +kernel
theorem dX11_bright_39 : decode cX11_bright 39 = .ok (.iconst 0, 1) := by decide +kernel
theorem dX11_bright_40 : decode cX11_bright 40 = .ok (.ior, 1) := by decide +kernel
theorem dX11_bright_41 : decode cX11_bright 41 = .ok (.istore_n 1, 1) := by decide +kernel
theorem dX11_bright_42 : decode cX11_bright 42 = .ok (.iinc 2 1, 3) := by decide +kernel
theorem dX11_bright_45 : decode cX11_bright 45 = .ok (.goto (-41), 3) := by decide +kernel
theorem dX11_bright_48 : decode cX11_bright 48 = .ok (.iload_n 1, 1) := by decide +kernel
