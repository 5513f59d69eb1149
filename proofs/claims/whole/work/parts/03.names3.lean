theorem dX10_grief_46 : decode cX10_grief 46 = .ok (.getfield 19, 3) := by decide +kernel
theorem dX10_grief_49 : decode cX10_grief 49 = .ok (.aload_n 0, 1) := by decide +kernel
theorem dX10_grief_50 : decode cX10_grief 50 = .ok (.getfield 66, 3) := by decide +kernel
theorem dX10_grief_53 : decode cX10_grief 53 = .ok (.invokevirtual 235, 3) := by decide +kernel
theorem dX10_grief_56 : decode cX10_grief 56 = .ok (.iload 4, 2) := by decide +kernel
theorem dX10_grief_58 : decode cX10_grief 58 = .ok (.aload_n 0, 1) := by decide +kernel
theorem dX10_grief_59 : decode cX10_grief 59 = .ok (.getfield 62, 3) := by decide +kernel
theorem dX10_grief_62 : decode cX10_grief 62 = .ok (.getfield 271, 3) := by decide +kernel
theorem dX10_grief_65 : decode cX10_grief 65 = .ok (.iload_n 3, 1) := by decide +kernel
theorem dX10_grief_66 : decode cX10_grief 66 = .ok (.iand, 1) := by decide +kernel
theorem dX10_grief_67 : decode cX10_grief 67 = .ok (.invokestatic 145, 3) := by decide +kernel
theorem dX10_grief_70 : decode cX10_grief 70 = .ok (.iadd, 1) := by decide +kernel
theorem dX10_grief_71 : decode cX10_grief 71 = .ok (.istore 4, 2) := by decide +kernel
theorem dX10_grief_73 : decode cX10_grief 73 = .ok (.iinc 5 1, 3) := by decide +kernel
theorem dX10_grief_76 : decode cX10_grief 76 = .ok (.goto (-41), 3) := by decide +kernel
theorem dX10_grief_79 : decode cX10_grief 79 = .ok (.iload 4, 2) := by decide +kernel
theorem dX10_grief_81 : decode cX10_grief 81 = .ok (.ireturn, 1) := by decide +kernel
set_option maxRecDepth 20000 in
theorem ggX10_quarrels_X10_needAhead : GoodIn wsX10_quarrels wsX10_needAhead := goodIn_ca (goodIn_r _ [9, 10, 11] (by decide +kernel) (by decide +kernel)) (goodIn_sub (fun _ h => List.mem_cons_of_mem _ (List.mem_append_right _ h)) (by decide +kernel))
set_option maxRecDepth 20000 in
theorem gX10_quarrels_X10_needAhead : GoodIn wsX10_quarrels (va_wsS RX10 262 yX10_needAhead wsX10_needAhead) := goodIn_app (goodIn_of _ (by decide +kernel)) ggX10_quarrels_X10_needAhead
set_option maxRecDepth 20000 in
theorem ggX10_quarrels_X9_copyFrom : GoodIn wsX10_quarrels wsX9_copyFrom := goodIn_r _ [16, 17, 18, 19, 20, 21, 22, 23, 24, 25, 26, 27, 28, 29, 30, 31, 143, 144, 145, 146, 147, 148, 149, 150, 151, 152, 153] (by decide +kernel) (by decide +kernel)
set_option maxRecDepth 20000 in
theorem gX10_quarrels_X9_copyFrom : GoodIn wsX10_quarrels (wsV RX10 119 RX9 yX9_copyFrom wsX9_copyFrom) := goodIn_app (goodIn_of _ (by decide +kernel)) ggX10_quarrels_X9_copyFrom
set_option maxRecDepth 20000 in
theorem ggX10_quarrels_X2_passHour : GoodIn wsX10_quarrels wsX2_passHour := goodIn_r _ [36, 37, 38, 39, 40, 41, 42, 43, 44, 45, 46, 15, 47, 18, 29, 19, 48, 49, 50, 51, 27, 28, 52, 53, 54, 55, 56, 57, 58, 59, 60, 61, 62, 63, 64, 65, 66, 67, 68, 69, 70, 71, 72, 73, 74, 75, 76, 77, 78, 79, 80, 81, 82, 83, 84, 85, 86, 87, 88, 89, 90, 91, 92, 93, 94, 95, 96, 35, 97, 98, 99, 100, 101, 102, 20, 103, 104, 105, 106, 31, 30, 21, 107, 108, 109, 110, 111, 112, 113, 114, 115, 116, 117, 118, 119, 120, 121, 122, 123, 138, 139, 140, 141, 142, 143, 144, 145, 146, 147, 148, 149, 150, 151, 152, 153, 154, 155, 156, 157] (by decide +kernel) (by decide +kernel)
set_option maxRecDepth 20000 in
theorem gX10_quarrels_X2_passHour : GoodIn wsX10_quarrels (wsV RX10 235 RX2 yX2_passHour wsX2_passHour) := goodIn_app (goodIn_of _ (by decide +kernel)) ggX10_quarrels_X2_passHour
theorem dX10_quarrels_0 : decode cX10_quarrels 0 = .ok (.iload_n 1, 1) := by decide +kernel
theorem dX10_quarrels_1 : decode cX10_quarrels 1 = .ok (.invokestatic 262, 3) := by decide +kernel
theorem dX10_quarrels_4 : decode cX10_quarrels 4 = .ok (.aload_n 0, 1) := by decide +kernel
theorem dX10_quarrels_5 : decode cX10_quarrels 5 = .ok (.getfield 66, 3) := by decide +kernel
theorem dX10_quarrels_8 : decode cX10_quarrels 8 = .ok (.aload_n 0, 1) := by decide +kernel
theorem dX10_quarrels_9 : decode cX10_quarrels 9 = .ok (.getfield 26, 3) := by decide +kernel
theorem dX10_quarrels_12 : decode cX10_quarrels 12 = .ok (.invokevirtual 119, 3) := by decide +kernel
theorem dX10_quarrels_15 : decode cX10_quarrels 15 = .ok (.iconst 0, 1) := by decide +kernel
theorem dX10_quarrels_16 : decode cX10_quarrels 16 = .ok (.istore_n 2, 1) := by decide +kernel
theorem dX10_quarrels_17 : decode cX10_quarrels 17 = .ok (.iconst 0, 1) := by decide +kernel
theorem dX10_quarrels_18 : decode cX10_quarrels 18 = .ok (.istore_n 3, 1) := by decide +kernel
theorem dX10_quarrels_19 : decode cX10_quarrels 19 = .ok (.iload_n 3, 1) := by decide +kernel
theorem dX10_quarrels_20 : decode cX10_quarrels 20 = .ok (.iload_n 1, 1) := by decide +kernel
theorem dX10_quarrels_21 : decode cX10_quarrels 21 = .ok (.if_icmp .ge 34, 3) := by decide +kernel
theorem dX10_quarrels_24 : decode cX10_quarrels 24 = .ok (.aload_n 0, 1) := by decide +kernel
theorem dX10_quarrels_25 : decode cX10_quarrels 25 = .ok (.getfield 62, 3) := by decide +kernel
theorem dX10_quarrels_28 : decode cX10_quarrels 28 = .ok (.aload_n 0, 1) := by decide +kernel
theorem dX10_quarrels_29 : decode cX10_quarrels 29 = .ok (.getfield 19, 3) := by decide +kernel
theorem dX10_quarrels_32 : decode cX10_quarrels 32 = .ok (.aload_n 0, 1) := by decide +kernel
theorem dX10_quarrels_33 : decode cX10_quarrels 33 = .ok (.getfield 66, 3) := by decide +kernel
theorem dX10_quarrels_36 : decode cX10_quarrels 36 = .ok (.invokevirtual 235, 3) := by decide +kernel
theorem dX10_quarrels_39 : decode cX10_quarrels 39 = .ok (.iload_n 2, 1) := by decide +kernel
theorem dX10_quarrels_40 : decode cX10_quarrels 40 = .ok (.aload_n 0, 1) := by decide +kernel
theorem dX10_quarrels_41 : decode cX10_quarrels 41 = .ok (.getfield 62, 3) := by decide +kernel
theorem dX10_quarrels_44 : decode cX10_quarrels 44 = .ok (.getfield 274, 3) := by decide +kernel
theorem dX10_quarrels_47 : decode cX10_quarrels 47 = .ok (.iadd, 1) := by decide +kernel
theorem dX10_quarrels_48 : decode cX10_quarrels 48 = .ok (.istore_n 2, 1) := by decide +kernel
theorem dX10_quarrels_49 : decode cX10_quarrels 49 = .ok (.iinc 3 1, 3) := by decide +kernel
theorem dX10_quarrels_52 : decode cX10_quarrels 52 = .ok (.goto (-33), 3) := by decide +kernel
theorem dX10_quarrels_55 : decode cX10_quarrels 55 = .ok (.iload_n 2, 1) := by decide +kernel
theorem dX10_quarrels_56 : decode cX10_quarrels 56 = .ok (.ireturn, 1) := by decide +kernel
set_option maxRecDepth 20000 in
theorem ggX10_joined_X10_needHouse : GoodIn wsX10_joined wsX10_needHouse := goodIn_ca (goodIn_r _ [6, 7, 8, 1, 9, 27, 28, 29, 30, 31, 32, 33, 34, 35, 36, 37, 38, 39, 40, 41, 42, 43, 44, 45, 46, 47, 48, 49, 50, 51] (by decide +kernel) (by decide +kernel)) (goodIn_sub (fun _ h => List.mem_cons_of_mem _ (List.mem_append_right _ h)) (by decide +kernel))
set_option maxRecDepth 20000 in
theorem gX10_joined_X10_needHouse : GoodIn wsX10_joined (wsV RX10 180 RX10 yX10_needHouse wsX10_needHouse) := goodIn_app (goodIn_of _ (by decide +kernel)) ggX10_joined_X10_needHouse
set_option maxRecDepth 20000 in
theorem ggX10_joined_X9_fewestTwins : GoodIn wsX10_joined wsX9_fewestTwins := goodIn_r _ [14, 15, 16, 17, 13, 18, 19, 20, 21, 22, 23, 24, 25, 26, 41, 42, 43, 44, 45, 46, 47, 48, 49, 50, 51] (by decide +kernel) (by decide +kernel)
set_option maxRecDepth 20000 in
theorem gX10_joined_X9_fewestTwins : GoodIn wsX10_joined (wsV RX10 277 RX9 yX9_fewestTwins wsX9_fewestTwins) := goodIn_app (goodIn_of _ (by decide +kernel)) ggX10_joined_X9_fewestTwins
theorem dX10_joined_0 : decode cX10_joined 0 = .ok (.aload_n 0, 1) := by decide +kernel
theorem dX10_joined_1 : decode cX10_joined 1 = .ok (.iload_n 1, 1) := by decide +kernel
theorem dX10_joined_2 : decode cX10_joined 2 = .ok (.invokevirtual 180, 3) := by decide +kernel
theorem dX10_joined_5 : decode cX10_joined 5 = .ok (.aload_n 0, 1) := by decide +kernel
theorem dX10_joined_6 : decode cX10_joined 6 = .ok (.iload_n 2, 1) := by decide +kernel
theorem dX10_joined_7 : decode cX10_joined 7 = .ok (.invokevirtual 180, 3) := by decide +kernel
theorem dX10_joined_10 : decode cX10_joined 10 = .ok (.aload_n 0, 1) := by decide +kernel
theorem dX10_joined_11 : decode cX10_joined 11 = .ok (.getfield 26, 3) := by decide +kernel
theorem dX10_joined_14 : decode cX10_joined 14 = .ok (.iload_n 1, 1) := by decide +kernel
theorem dX10_joined_15 : decode cX10_joined 15 = .ok (.iload_n 2, 1) := by decide +kernel
theorem dX10_joined_16 : decode cX10_joined 16 = .ok (.invokevirtual 277, 3) := by decide +kernel
theorem dX10_joined_19 : decode cX10_joined 19 = .ok (.ireturn, 1) := by decide +kernel
set_option maxRecDepth 20000 in
theorem ggX10_strife_X10_needLamp : GoodIn wsX10_strife wsX10_needLamp := goodIn_ca (goodIn_r _ [9, 10, 11, 2, 12, 84, 85, 86, 87, 88, 89, 90, 91, 92, 93, 94, 95, 96, 97, 98, 99, 100, 101, 102, 103, 104, 105, 106, 107, 108] (by decide +kernel) (by decide +kernel)) (goodIn_sub (fun _ h => List.mem_cons_of_mem _ (List.mem_append_right _ h)) (by decide +kernel))
set_option maxRecDepth 20000 in
theorem gX10_strife_X10_needLamp : GoodIn wsX10_strife (wsV RX10 200 RX10 yX10_needLamp wsX10_needLamp) := goodIn_app (goodIn_of _ (by decide +kernel)) ggX10_strife_X10_needLamp
set_option maxRecDepth 20000 in
theorem ggX10_strife_X9_hoursAwake : GoodIn wsX10_strife wsX9_hoursAwake := goodIn_r _ [17, 18, 19, 20, 16, 21, 22, 23, 98, 99, 100, 101, 102, 103, 104, 105, 106, 107, 108] (by decide +kernel) (by decide +kernel)
set_option maxRecDepth 20000 in
theorem gX10_strife_X9_hoursAwake : GoodIn wsX10_strife (wsV RX10 281 RX9 yX9_hoursAwake wsX9_hoursAwake) := goodIn_app (goodIn_of _ (by decide +kernel)) ggX10_strife_X9_hoursAwake
set_option maxRecDepth 20000 in
theorem ggX10_strife_X7_hoursWanted : GoodIn wsX10_strife wsX7_hoursWanted := goodIn_r _ [28, 29, 30, 31, 27, 32, 33, 34, 35, 36, 37, 38, 39, 40, 41, 42, 19, 20, 16, 21, 22, 23, 43, 44, 45, 46, 47, 48, 49, 50, 51, 52, 53, 54, 55, 56, 57, 58, 59, 60, 61, 62, 63, 64, 65, 66, 67, 68, 69, 70, 71, 98, 99, 100, 101, 102, 103, 104, 105, 106, 107, 108, 109, 110, 111, 112] (by decide +kernel) (by decide +kernel)
set_option maxRecDepth 20000 in
theorem gX10_strife_X7_hoursWanted : GoodIn wsX10_strife (wsV RX10 223 RX7 yX7_hoursWanted wsX7_hoursWanted) := goodIn_app (goodIn_of _ (by decide +kernel)) ggX10_strife_X7_hoursWanted
set_option maxRecDepth 20000 in
theorem ggX10_strife_X4_setHours : GoodIn wsX10_strife wsX4_setHours := goodIn_r _ [76, 77, 78, 113, 114, 115, 116] (by decide +kernel) (by decide +kernel)
set_option maxRecDepth 20000 in
theorem gX10_strife_X4_setHours : GoodIn wsX10_strife (wsV RX10 284 RX4 yX4_setHours wsX4_setHours) := goodIn_app (goodIn_of _ (by decide +kernel)) ggX10_strife_X4_setHours
set_option maxRecDepth 20000 in
theorem ggX10_strife_X4_hoursAtOdds : GoodIn wsX10_strife wsX4_hoursAtOdds := goodIn_r _ [82, 77, 78, 83, 53, 54, 55, 56, 57, 58, 113, 114, 115, 116] (by decide +kernel) (by decide +kernel)
set_option maxRecDepth 20000 in
theorem gX10_strife_X4_hoursAtOdds : GoodIn wsX10_strife (wsV RX10 288 RX4 yX4_hoursAtOdds wsX4_hoursAtOdds) := goodIn_app (goodIn_of _ (by decide +kernel)) ggX10_strife_X4_hoursAtOdds
theorem dX10_strife_0 : decode cX10_strife 0 = .ok (.aload_n 0, 1) := by decide +kernel
theorem dX10_strife_1 : decode cX10_strife 1 = .ok (.iload_n 1, 1) := by decide +kernel
theorem dX10_strife_2 : decode cX10_strife 2 = .ok (.invokevirtual 200, 3) := by decide +kernel
theorem dX10_strife_5 : decode cX10_strife 5 = .ok (.aload_n 0, 1) := by decide +kernel
theorem dX10_strife_6 : decode cX10_strife 6 = .ok (.iload_n 2, 1) := by decide +kernel
theorem dX10_strife_7 : decode cX10_strife 7 = .ok (.invokevirtual 200, 3) := by decide +kernel
theorem dX10_strife_10 : decode cX10_strife 10 = .ok (.aload_n 0, 1) := by decide +kernel
theorem dX10_strife_11 : decode cX10_strife 11 = .ok (.getfield 72, 3) := by decide +kernel
theorem dX10_strife_14 : decode cX10_strife 14 = .ok (.iload_n 1, 1) := by decide +kernel
theorem dX10_strife_15 : decode cX10_strife 15 = .ok (.aload_n 0, 1) := by decide +kernel
theorem dX10_strife_16 : decode cX10_strife 16 = .ok (.getfield 26, 3) := by decide +kernel
theorem dX10_strife_19 : decode cX10_strife 19 = .ok (.aload_n 0, 1) := by decide +kernel
theorem dX10_strife_20 : decode cX10_strife 20 = .ok (.getfield 26, 3) := by decide +kernel
theorem dX10_strife_23 : decode cX10_strife 23 = .ok (.getfield 203, 3) := by decide +kernel
theorem dX10_strife_26 : decode cX10_strife 26 = .ok (.iload_n 1, 1) := by decide +kernel
theorem dX10_strife_27 : decode cX10_strife 27 = .ok (.iaload, 1) := by decide +kernel
theorem dX10_strife_28 : decode cX10_strife 28 = .ok (.invokevirtual 281, 3) := by decide +kernel
theorem dX10_strife_31 : decode cX10_strife 31 = .ok (.aload_n 0, 1) := by decide +kernel
theorem dX10_strife_32 : decode cX10_strife 32 = .ok (.getfield 19, 3) := by decide +kernel
theorem dX10_strife_35 : decode cX10_strife 35 = .ok (.aload_n 0, 1) := by decide +kernel
theorem dX10_strife_36 : decode cX10_strife 36 = .ok (.getfield 26, 3) := by decide +kernel
theorem dX10_strife_39 : decode cX10_strife 39 = .ok (.iload_n 1, 1) := by decide +kernel
theorem dX10_strife_40 : decode cX10_strife 40 = .ok (.invokevirtual 223, 3) := by decide +kernel
theorem dX10_strife_43 : decode cX10_strife 43 = .ok (.invokevirtual 284, 3) := by decide +kernel
theorem dX10_strife_46 : decode cX10_strife 46 = .ok (.aload_n 0, 1) := by decide +kernel
theorem dX10_strife_47 : decode cX10_strife 47 = .ok (.getfield 72, 3) := by decide +kernel
theorem dX10_strife_50 : decode cX10_strife 50 = .ok (.iload_n 2, 1) := by decide +kernel
theorem dX10_strife_51 : decode cX10_strife 51 = .ok (.aload_n 0, 1) := by decide +kernel
theorem dX10_strife_52 : decode cX10_strife 52 = .ok (.getfield 26, 3) := by decide +kernel
theorem dX10_strife_55 : decode cX10_strife 55 = .ok (.aload_n 0, 1) := by decide +kernel
theorem dX10_strife_56 : decode cX10_strife 56 = .ok (.getfield 26, 3) := by decide +kernel
theorem dX10_strife_59 : decode cX10_strife 59 = .ok (.getfield 203, 3) := by decide +kernel
theorem dX10_strife_62 : decode cX10_strife 62 = .ok (.iload_n 2, 1) := by decide +kernel
theorem dX10_strife_63 : decode cX10_strife 63 = .ok (.iaload, 1) := by decide +kernel
theorem dX10_strife_64 : decode cX10_strife 64 = .ok (.invokevirtual 281, 3) := by decide +kernel
theorem dX10_strife_67 : decode cX10_strife 67 = .ok (.aload_n 0, 1) := by decide +kernel
theorem dX10_strife_68 : decode cX10_strife 68 = .ok (.getfield 19, 3) := by decide +kernel
theorem dX10_strife_71 : decode cX10_strife 71 = .ok (.aload_n 0, 1) := by decide +kernel
theorem dX10_strife_72 : decode cX10_strife 72 = .ok (.getfield 26, 3) := by decide +kernel
theorem dX10_strife_75 : decode cX10_strife 75 = .ok (.iload_n 2, 1) := by decide +kernel
theorem dX10_strife_76 : decode cX10_strife 76 = .ok (.invokevirtual 223, 3) := by decide +kernel
theorem dX10_strife_79 : decode cX10_strife 79 = .ok (.invokevirtual 284, 3) := by decide +kernel
theorem dX10_strife_82 : decode cX10_strife 82 = .ok (.aload_n 0, 1) := by decide +kernel
theorem dX10_strife_83 : decode cX10_strife 83 = .ok (.getfield 72, 3) := by decide +kernel
theorem dX10_strife_86 : decode cX10_strife 86 = .ok (.iload_n 1, 1) := by decide +kernel
theorem dX10_strife_87 : decode cX10_strife 87 = .ok (.iload_n 2, 1) := by decide +kernel
theorem dX10_strife_88 : decode cX10_strife 88 = .ok (.invokevirtual 288, 3) := by decide +kernel
theorem dX10_strife_91 : decode cX10_strife 91 = .ok (.ireturn, 1) := by decide +kernel
set_option maxRecDepth 20000 in
theorem ggX10_better_X10_needLamp : GoodIn wsX10_better wsX10_needLamp := goodIn_ca (goodIn_r _ [10, 11, 12, 1, 2, 129, 130, 131, 132, 133, 134, 135, 136, 137, 138, 139, 140, 141, 142, 143, 144, 145, 146, 147, 148, 149, 150, 151, 152, 153] (by decide +kernel) (by decide +kernel)) (goodIn_sub (fun _ h => List.mem_cons_of_mem _ (List.mem_append_right _ h)) (by decide +kernel))
set_option maxRecDepth 20000 in
theorem gX10_better_X10_needLamp : GoodIn wsX10_better (wsV RX10 200 RX10 yX10_needLamp wsX10_needLamp) := goodIn_app (goodIn_of _ (by decide +kernel)) ggX10_better_X10_needLamp
set_option maxRecDepth 20000 in
theorem ggX10_better_X9_soundTwins : GoodIn wsX10_better wsX9_soundTwins := goodIn_r _ [17, 18, 19, 20, 21, 22, 23, 16, 24, 143, 144, 145, 146, 147, 148, 149, 150, 151, 152, 153] (by decide +kernel) (by decide +kernel)
set_option maxRecDepth 20000 in
theorem gX10_better_X9_soundTwins : GoodIn wsX10_better (wsV RX10 291 RX9 yX9_soundTwins wsX9_soundTwins) := goodIn_app (goodIn_of _ (by decide +kernel)) ggX10_better_X9_soundTwins
set_option maxRecDepth 20000 in
theorem ggX10_better_X9_hoursAwake : GoodIn wsX10_better wsX9_hoursAwake := goodIn_r _ [28, 29, 30, 31, 16, 32, 33, 34, 143, 144, 145, 146, 147, 148, 149, 150, 151, 152, 153] (by decide +kernel) (by decide +kernel)
set_option maxRecDepth 20000 in
theorem gX10_better_X9_hoursAwake : GoodIn wsX10_better (wsV RX10 281 RX9 yX9_hoursAwake wsX9_hoursAwake) := goodIn_app (goodIn_of _ (by decide +kernel)) ggX10_better_X9_hoursAwake
set_option maxRecDepth 20000 in
theorem ggX10_better_X7_hoursWanted : GoodIn wsX10_better wsX7_hoursWanted := goodIn_r _ [39, 40, 41, 42, 38, 43, 44, 45, 46, 47, 48, 49, 50, 51, 52, 53, 30, 31, 16, 32, 33, 34, 54, 55, 56, 57, 58, 59, 60, 18, 61, 62, 63, 64, 65, 66, 67, 68, 69, 70, 71, 72, 73, 74, 75, 76, 77, 78, 79, 80, 81, 143, 144, 145, 146, 147, 148, 149, 150, 151, 152, 153, 154, 155, 156, 157] (by decide +kernel) (by decide +kernel)
set_option maxRecDepth 20000 in
theorem gX10_better_X7_hoursWanted : GoodIn wsX10_better (wsV RX10 223 RX7 yX7_hoursWanted wsX7_hoursWanted) := goodIn_app (goodIn_of _ (by decide +kernel)) ggX10_better_X7_hoursWanted
set_option maxRecDepth 20000 in
theorem ggX10_better_X4_setHours : GoodIn wsX10_better wsX4_setHours := goodIn_r _ [86, 87, 88, 158, 159, 160, 161] (by decide +kernel) (by decide +kernel)
set_option maxRecDepth 20000 in
theorem gX10_better_X4_setHours : GoodIn wsX10_better (wsV RX10 284 RX4 yX4_setHours wsX4_setHours) := goodIn_app (goodIn_of _ (by decide +kernel)) ggX10_better_X4_setHours
set_option maxRecDepth 20000 in
theorem ggX10_better_X4_weigh : GoodIn wsX10_better wsX4_weigh := goodIn_r _ [92, 93, 94, 95, 96, 97, 98, 99, 100, 101, 85, 102, 103, 104, 105, 106, 107, 87, 88, 108, 63, 64, 65, 66, 67, 68, 109, 110, 111, 112, 113, 114, 115, 116, 158, 159, 160, 161] (by decide +kernel) (by decide +kernel)
set_option maxRecDepth 20000 in
theorem gX10_better_X4_weigh : GoodIn wsX10_better (wsV RX10 294 RX4 yX4_weigh wsX4_weigh) := goodIn_app (goodIn_of _ (by decide +kernel)) ggX10_better_X4_weigh
set_option maxRecDepth 20000 in
theorem ggX10_better_X4_leastCost : GoodIn wsX10_better wsX4_leastCost := goodIn_r _ [120, 93, 158, 159, 160, 161] (by decide +kernel) (by decide +kernel)
set_option maxRecDepth 20000 in
theorem gX10_better_X4_leastCost : GoodIn wsX10_better (wsV RX10 297 RX4 yX4_leastCost wsX4_leastCost) := goodIn_app (goodIn_of _ (by decide +kernel)) ggX10_better_X4_leastCost
set_option maxRecDepth 20000 in
theorem ggX10_better_X4_partner : GoodIn wsX10_better wsX4_partner := goodIn_r _ [124, 93, 109, 110, 64, 111, 112, 125, 126, 127, 85, 128, 113, 114, 115, 116, 103, 158, 159, 160, 161] (by decide +kernel) (by decide +kernel)
set_option maxRecDepth 20000 in
theorem gX10_better_X4_partner : GoodIn wsX10_better (wsV RX10 300 RX4 yX4_partner wsX4_partner) := goodIn_app (goodIn_of _ (by decide +kernel)) ggX10_better_X4_partner
theorem dX10_better_0 : decode cX10_better 0 = .ok (.iload_n 1, 1) := by decide +kernel
theorem dX10_better_1 : decode cX10_better 1 = .ok (.iconst (-1), 1) := by decide +kernel
theorem dX10_better_2 : decode cX10_better 2 = .ok (.if_icmp .eq 8, 3) := by decide +kernel
theorem dX10_better_5 : decode cX10_better 5 = .ok (.aload_n 0, 1) := by decide +kernel
theorem dX10_better_6 : decode cX10_better 6 = .ok (.iload_n 1, 1) := by decide +kernel
theorem dX10_better_7 : decode cX10_better 7 = .ok (.invokevirtual 200, 3) := by decide +kernel
theorem dX10_better_10 : decode cX10_better 10 = .ok (.aload_n 0, 1) := by decide +kernel
theorem dX10_better_11 : decode cX10_better 11 = .ok (.getfield 26, 3) := by decide +kernel
theorem dX10_better_14 : decode cX10_better 14 = .ok (.invokevirtual 291, 3) := by decide +kernel
theorem dX10_better_17 : decode cX10_better 17 = .ok (.istore_n 2, 1) := by decide +kernel
theorem dX10_better_18 : decode cX10_better 18 = .ok (.iload_n 1, 1) := by decide +kernel
theorem dX10_better_19 : decode cX10_better 19 = .ok (.iconst (-1), 1) := by decide +kernel
theorem dX10_better_20 : decode cX10_better 20 = .ok (.if_icmp .eq 13, 3) := by decide +kernel
theorem dX10_better_23 : decode cX10_better 23 = .ok (.iload_n 2, 1) := by decide +kernel
theorem dX10_better_24 : decode cX10_better 24 = .ok (.iload_n 1, 1) := by decide +kernel
theorem dX10_better_25 : decode cX10_better 25 = .ok (.ishr, 1) := by decide +kernel
theorem dX10_better_26 : decode cX10_better 26 = .ok (.iconst 1, 1) := by decide +kernel
theorem dX10_better_27 : decode cX10_better 27 = .ok (.iand, 1) := by decide +kernel
theorem dX10_better_28 : decode cX10_better 28 = .ok (.ifCond .ne 5, 3) := by decide +kernel
theorem dX10_better_31 : decode cX10_better 31 = .ok (.iconst (-1), 1) := by decide +kernel
theorem dX10_better_32 : decode cX10_better 32 = .ok (.ireturn, 1) := by decide +kernel
theorem dX10_better_33 : decode cX10_better 33 = .ok (.iconst 0, 1) := by decide +kernel
theorem dX10_better_34 : decode cX10_better 34 = .ok (.istore_n 3, 1) := by decide +kernel
theorem dX10_better_35 : decode cX10_better 35 = .ok (.iload_n 3, 1) := by decide +kernel
theorem dX10_better_36 : decode cX10_better 36 = .ok (.aload_n 0, 1) := by decide +kernel
theorem dX10_better_37 : decode cX10_better 37 = .ok (.getfield 26, 3) := by decide +kernel
theorem dX10_better_40 : decode cX10_better 40 = .ok (.getfield 138, 3) := by decide +kernel
theorem dX10_better_43 : decode cX10_better 43 = .ok (.if_icmp .ge 45, 3) := by decide +kernel
theorem dX10_better_46 : decode cX10_better 46 = .ok (.aload_n 0, 1) := by decide +kernel
theorem dX10_better_47 : decode cX10_better 47 = .ok (.getfield 72, 3) := by decide +kernel
theorem dX10_better_50 : decode cX10_better 50 = .ok (.iload_n 3, 1) := by decide +kernel
theorem dX10_better_51 : decode cX10_better 51 = .ok (.aload_n 0, 1) := by decide +kernel
theorem dX10_better_52 : decode cX10_better 52 = .ok (.getfield 26, 3) := by decide +kernel
theorem dX10_better_55 : decode cX10_better 55 = .ok (.aload_n 0, 1) := by decide +kernel
theorem dX10_better_56 : decode cX10_better 56 = .ok (.getfield 26, 3) := by decide +kernel
theorem dX10_better_59 : decode cX10_better 59 = .ok (.getfield 203, 3) := by decide +kernel
theorem dX10_better_62 : decode cX10_better 62 = .ok (.iload_n 3, 1) := by decide +kernel
theorem dX10_better_63 : decode cX10_better 63 = .ok (.iaload, 1) := by decide +kernel
theorem dX10_better_64 : decode cX10_better 64 = .ok (.invokevirtual 281, 3) := by decide +kernel
theorem dX10_better_67 : decode cX10_better 67 = .ok (.aload_n 0, 1) := by decide +kernel
theorem dX10_better_68 : decode cX10_better 68 = .ok (.getfield 19, 3) := by decide +kernel
theorem dX10_better_71 : decode cX10_better 71 = .ok (.aload_n 0, 1) := by decide +kernel
theorem dX10_better_72 : decode cX10_better 72 = .ok (.getfield 26, 3) := by decide +kernel
theorem dX10_better_75 : decode cX10_better 75 = .ok (.iload_n 3, 1) := by decide +kernel
theorem dX10_better_76 : decode cX10_better 76 = .ok (.invokevirtual 223, 3) := by decide +kernel
theorem dX10_better_79 : decode cX10_better 79 = .ok (.invokevirtual 284, 3) := by decide +kernel
theorem dX10_better_82 : decode cX10_better 82 = .ok (.iinc 3 1, 3) := by decide +kernel
theorem dX10_better_85 : decode cX10_better 85 = .ok (.goto (-50), 3) := by decide +kernel
theorem dX10_better_88 : decode cX10_better 88 = .ok (.aload_n 0, 1) := by decide +kernel
theorem dX10_better_89 : decode cX10_better 89 = .ok (.getfield 72, 3) := by decide +kernel
theorem dX10_better_92 : decode cX10_better 92 = .ok (.iload_n 2, 1) := by decide +kernel
theorem dX10_better_93 : decode cX10_better 93 = .ok (.invokevirtual 294, 3) := by decide +kernel
theorem dX10_better_96 : decode cX10_better 96 = .ok (.iload_n 1, 1) := by decide +kernel
theorem dX10_better_97 : decode cX10_better 97 = .ok (.iconst (-1), 1) := by decide +kernel
theorem dX10_better_98 : decode cX10_better 98 = .ok (.if_icmp .ne 14, 3) := by decide +kernel
theorem dX10_better_101 : decode cX10_better 101 = .ok (.aload_n 0, 1) := by decide +kernel
theorem dX10_better_102 : decode cX10_better 102 = .ok (.getfield 72, 3) := by decide +kernel
theorem dX10_better_105 : decode cX10_better 105 = .ok (.iload_n 2, 1) := by decide +kernel
theorem dX10_better_106 : decode cX10_better 106 = .ok (.invokevirtual 297, 3) := by decide +kernel
theorem dX10_better_109 : decode cX10_better 109 = .ok (.goto 12, 3) := by decide +kernel
theorem dX10_better_112 : decode cX10_better 112 = .ok (.aload_n 0, 1) := by decide +kernel
theorem dX10_better_113 : decode cX10_better 113 = .ok (.getfield 72, 3) := by decide +kernel
theorem dX10_better_116 : decode cX10_better 116 = .ok (.iload_n 2, 1) := by decide +kernel
theorem dX10_better_117 : decode cX10_better 117 = .ok (.iload_n 1, 1) := by decide +kernel
theorem dX10_better_118 : decode cX10_better 118 = .ok (.invokevirtual 300, 3) := by decide +kernel
theorem dX10_better_121 : decode cX10_better 121 = .ok (.ireturn, 1) := by decide +kernel
set_option maxRecDepth 20000 in
theorem ggX10_treaty_X10_needHouse : GoodIn wsX10_treaty wsX10_needHouse := goodIn_ca (goodIn_r _ [7, 8, 9, 1, 10, 132, 133, 134, 135, 136, 137, 138, 139, 140, 141, 142, 143, 144, 145, 146, 147, 148, 149, 150, 151, 152, 153, 154, 155, 156] (by decide +kernel) (by decide +kernel)) (goodIn_sub (fun _ h => List.mem_cons_of_mem _ (List.mem_append_right _ h)) (by decide +kernel))
set_option maxRecDepth 20000 in
theorem gX10_treaty_X10_needHouse : GoodIn wsX10_treaty (wsV RX10 180 RX10 yX10_needHouse wsX10_needHouse) := goodIn_app (goodIn_of _ (by decide +kernel)) ggX10_treaty_X10_needHouse
set_option maxRecDepth 20000 in
theorem ggX10_treaty_X10_complaintsOfADay : GoodIn wsX10_treaty wsX10_complaintsOfADay := goodIn_r _ [14, 15, 1, 2, 16, 17, 18, 19, 20, 21, 22, 23, 24, 25, 26, 27, 28, 29, 30, 31, 32, 33, 34, 35, 36, 37, 38, 39, 40, 41, 42, 43, 44, 45, 46, 47, 48, 49, 50, 51, 52, 53, 54, 55, 56, 57, 58, 59, 60, 61, 62, 63, 64, 65, 66, 67, 68, 69, 70, 71, 72, 73, 74, 75, 76, 77, 78, 79, 80, 81, 82, 83, 84, 85, 86, 87, 88, 89, 90, 91, 92, 93, 94, 95, 96, 97, 98, 99, 100, 101, 102, 103, 104, 105, 106, 107, 108, 109, 110, 111, 112, 113, 114, 115, 116, 117, 118, 119, 120, 121, 122, 123, 124, 125, 126, 127, 128, 129, 130, 131, 132, 133, 134, 135, 136, 137, 138, 139, 140, 141, 142, 143, 144, 145, 146, 147, 148, 149, 150, 151, 152, 153, 154, 155, 156, 157, 158, 159, 160, 161, 162, 163, 164, 165] (by decide +kernel) (by decide +kernel)
set_option maxRecDepth 20000 in
theorem gX10_treaty_X10_complaintsOfADay : GoodIn wsX10_treaty (wsV RX10 303 RX10 yX10_complaintsOfADay wsX10_complaintsOfADay) := goodIn_app (goodIn_of _ (by decide +kernel)) ggX10_treaty_X10_complaintsOfADay
theorem dX10_treaty_0 : decode cX10_treaty 0 = .ok (.aload_n 0, 1) := by decide +kernel
theorem dX10_treaty_1 : decode cX10_treaty 1 = .ok (.iload_n 1, 1) := by decide +kernel
theorem dX10_treaty_2 : decode cX10_treaty 2 = .ok (.invokevirtual 180, 3) := by decide +kernel
theorem dX10_treaty_5 : decode cX10_treaty 5 = .ok (.aload_n 0, 1) := by decide +kernel
theorem dX10_treaty_6 : decode cX10_treaty 6 = .ok (.iload_n 1, 1) := by decide +kernel
theorem dX10_treaty_7 : decode cX10_treaty 7 = .ok (.aload_n 0, 1) := by decide +kernel
theorem dX10_treaty_8 : decode cX10_treaty 8 = .ok (.getfield 26, 3) := by decide +kernel
theorem dX10_treaty_11 : decode cX10_treaty 11 = .ok (.getfield 189, 3) := by decide +kernel
theorem dX10_treaty_14 : decode cX10_treaty 14 = .ok (.iload_n 1, 1) := by decide +kernel
theorem dX10_treaty_15 : decode cX10_treaty 15 = .ok (.iaload, 1) := by decide +kernel
theorem dX10_treaty_16 : decode cX10_treaty 16 = .ok (.invokevirtual 303, 3) := by decide +kernel
theorem dX10_treaty_19 : decode cX10_treaty 19 = .ok (.istore_n 2, 1) := by decide +kernel
theorem dX10_treaty_20 : decode cX10_treaty 20 = .ok (.iconst (-1), 1) := by decide +kernel
theorem dX10_treaty_21 : decode cX10_treaty 21 = .ok (.istore_n 3, 1) := by decide +kernel
theorem dX10_treaty_22 : decode cX10_treaty 22 = .ok (.iconst 0, 1) := by decide +kernel
theorem dX10_treaty_23 : decode cX10_treaty 23 = .ok (.istore 4, 2) := by decide +kernel
theorem dX10_treaty_25 : decode cX10_treaty 25 = .ok (.iload 4, 2) := by decide +kernel
theorem dX10_treaty_27 : decode cX10_treaty 27 = .ok (.bipush 24, 2) := by decide +kernel
theorem dX10_treaty_29 : decode cX10_treaty 29 = .ok (.if_icmp .ge 30, 3) := by decide +kernel
theorem dX10_treaty_32 : decode cX10_treaty 32 = .ok (.aload_n 0, 1) := by decide +kernel
theorem dX10_treaty_33 : decode cX10_treaty 33 = .ok (.iload_n 1, 1) := by decide +kernel
theorem dX10_treaty_34 : decode cX10_treaty 34 = .ok (.iload 4, 2) := by decide +kernel
theorem dX10_treaty_36 : decode cX10_treaty 36 = .ok (.invokevirtual 303, 3) := by decide +kernel
theorem dX10_treaty_39 : decode cX10_treaty 39 = .ok (.istore 5, 2) := by decide +kernel
theorem dX10_treaty_41 : decode cX10_treaty 41 = .ok (.iload 5, 2) := by decide +kernel
theorem dX10_treaty_43 : decode cX10_treaty 43 = .ok (.iload_n 2, 1) := by decide +kernel
theorem dX10_treaty_44 : decode cX10_treaty 44 = .ok (.if_icmp .ge 9, 3) := by decide +kernel
theorem dX10_treaty_47 : decode cX10_treaty 47 = .ok (.iload 5, 2) := by decide +kernel
theorem dX10_treaty_49 : decode cX10_treaty 49 = .ok (.istore_n 2, 1) := by decide +kernel
theorem dX10_treaty_50 : decode cX10_treaty 50 = .ok (.iload 4, 2) := by decide +kernel
theorem dX10_treaty_52 : decode cX10_treaty 52 = .ok (.istore_n 3, 1) := by decide +kernel
theorem dX10_treaty_53 : decode cX10_treaty 53 = .ok (.iinc 4 1, 3) := by decide +kernel
theorem dX10_treaty_56 : decode cX10_treaty 56 = .ok (.goto (-31), 3) := by decide +kernel
theorem dX10_treaty_59 : decode cX10_treaty 59 = .ok (.iload_n 3, 1) := by decide +kernel
theorem dX10_treaty_60 : decode cX10_treaty 60 = .ok (.ireturn, 1) := by decide +kernel
set_option maxRecDepth 20000 in
theorem ggX10_fund_X10_needLamp : GoodIn wsX10_fund wsX10_needLamp := goodIn_ca (goodIn_r _ [8, 9, 10, 2, 11, 48, 49, 50, 51, 52, 53, 54, 55, 56, 57, 58, 59, 60, 61, 62, 63, 64, 65, 66, 67, 68, 69, 70, 71, 72] (by decide +kernel) (by decide +kernel)) (goodIn_sub (fun _ h => List.mem_cons_of_mem _ (List.mem_append_right _ h)) (by decide +kernel))
set_option maxRecDepth 20000 in
theorem gX10_fund_X10_needLamp : GoodIn wsX10_fund (wsV RX10 200 RX10 yX10_needLamp wsX10_needLamp) := goodIn_app (goodIn_of _ (by decide +kernel)) ggX10_fund_X10_needLamp
set_option maxRecDepth 20000 in
theorem ggX10_fund_X9_copyFrom : GoodIn wsX10_fund wsX9_copyFrom := goodIn_r _ [16, 17, 18, 19, 20, 21, 22, 23, 24, 25, 26, 27, 28, 29, 30, 31, 62, 63, 64, 65, 66, 67, 68, 69, 70, 71, 72] (by decide +kernel) (by decide +kernel)
set_option maxRecDepth 20000 in
theorem gX10_fund_X9_copyFrom : GoodIn wsX10_fund (wsV RX10 119 RX9 yX9_copyFrom wsX9_copyFrom) := goodIn_app (goodIn_of _ (by decide +kernel)) ggX10_fund_X9_copyFrom
set_option maxRecDepth 20000 in
theorem ggX10_fund_X9_shatter : GoodIn wsX10_fund wsX9_shatter := goodIn_r _ [35, 21, 36, 37, 38, 15, 39, 20, 40, 41, 42, 43, 31, 62, 63, 64, 65, 66, 67, 68, 69, 70, 71, 72] (by decide +kernel) (by decide +kernel)
set_option maxRecDepth 20000 in
theorem gX10_fund_X9_shatter : GoodIn wsX10_fund (wsV RX10 248 RX9 yX9_shatter wsX9_shatter) := goodIn_app (goodIn_of _ (by decide +kernel)) ggX10_fund_X9_shatter
set_option maxRecDepth 20000 in
theorem ggX10_fund_X9_hasSoundLamp : GoodIn wsX10_fund wsX9_hasSoundLamp := goodIn_r _ [47, 18, 29, 21, 40, 41, 42, 15, 43, 31, 62, 63, 64, 65, 66, 67, 68, 69, 70, 71, 72] (by decide +kernel) (by decide +kernel)
set_option maxRecDepth 20000 in
theorem gX10_fund_X9_hasSoundLamp : GoodIn wsX10_fund (wsV RX10 306 RX9 yX9_hasSoundLamp wsX9_hasSoundLamp) := goodIn_app (goodIn_of _ (by decide +kernel)) ggX10_fund_X9_hasSoundLamp
theorem dX10_fund_0 : decode cX10_fund 0 = .ok (.aload_n 0, 1) := by decide +kernel
theorem dX10_fund_1 : decode cX10_fund 1 = .ok (.iload_n 1, 1) := by decide +kernel
theorem dX10_fund_2 : decode cX10_fund 2 = .ok (.invokevirtual 200, 3) := by decide +kernel
theorem dX10_fund_5 : decode cX10_fund 5 = .ok (.aload_n 0, 1) := by decide +kernel
theorem dX10_fund_6 : decode cX10_fund 6 = .ok (.getfield 66, 3) := by decide +kernel
theorem dX10_fund_9 : decode cX10_fund 9 = .ok (.aload_n 0, 1) := by decide +kernel
theorem dX10_fund_10 : decode cX10_fund 10 = .ok (.getfield 26, 3) := by decide +kernel
theorem dX10_fund_13 : decode cX10_fund 13 = .ok (.invokevirtual 119, 3) := by decide +kernel
theorem dX10_fund_16 : decode cX10_fund 16 = .ok (.aload_n 0, 1) := by decide +kernel
theorem dX10_fund_17 : decode cX10_fund 17 = .ok (.getfield 66, 3) := by decide +kernel
theorem dX10_fund_20 : decode cX10_fund 20 = .ok (.iload_n 1, 1) := by decide +kernel
theorem dX10_fund_21 : decode cX10_fund 21 = .ok (.invokevirtual 248, 3) := by decide +kernel
theorem dX10_fund_24 : decode cX10_fund 24 = .ok (.iconst 0, 1) := by decide +kernel
theorem dX10_fund_25 : decode cX10_fund 25 = .ok (.istore_n 2, 1) := by decide +kernel
theorem dX10_fund_26 : decode cX10_fund 26 = .ok (.iconst 0, 1) := by decide +kernel
theorem dX10_fund_27 : decode cX10_fund 27 = .ok (.istore_n 3, 1) := by decide +kernel
theorem dX10_fund_28 : decode cX10_fund 28 = .ok (.iload_n 3, 1) := by decide +kernel
theorem dX10_fund_29 : decode cX10_fund 29 = .ok (.aload_n 0, 1) := by decide +kernel
theorem dX10_fund_30 : decode cX10_fund 30 = .ok (.getfield 26, 3) := by decide +kernel
theorem dX10_fund_33 : decode cX10_fund 33 = .ok (.getfield 135, 3) := by decide +kernel
theorem dX10_fund_36 : decode cX10_fund 36 = .ok (.if_icmp .ge 37, 3) := by decide +kernel
theorem dX10_fund_39 : decode cX10_fund 39 = .ok (.aload_n 0, 1) := by decide +kernel
theorem dX10_fund_40 : decode cX10_fund 40 = .ok (.getfield 26, 3) := by decide +kernel
theorem dX10_fund_43 : decode cX10_fund 43 = .ok (.iload_n 3, 1) := by decide +kernel
theorem dX10_fund_44 : decode cX10_fund 44 = .ok (.invokevirtual 306, 3) := by decide +kernel
theorem dX10_fund_47 : decode cX10_fund 47 = .ok (.ifCond .eq 20, 3) := by decide +kernel
theorem dX10_fund_50 : decode cX10_fund 50 = .ok (.aload_n 0, 1) := by decide +kernel
theorem dX10_fund_51 : decode cX10_fund 51 = .ok (.getfield 66, 3) := by decide +kernel
theorem dX10_fund_54 : decode cX10_fund 54 = .ok (.iload_n 3, 1) := by decide +kernel
theorem dX10_fund_55 : decode cX10_fund 55 = .ok (.invokevirtual 306, 3) := by decide +kernel
theorem dX10_fund_58 : decode cX10_fund 58 = .ok (.ifCond .ne 9, 3) := by decide +kernel
theorem dX10_fund_61 : decode cX10_fund 61 = .ok (.iload_n 2, 1) := by decide +kernel
theorem dX10_fund_62 : decode cX10_fund 62 = .ok (.iconst 1, 1) := by decide +kernel
theorem dX10_fund_63 : decode cX10_fund 63 = .ok (.iload_n 3, 1) := by decide +kernel
theorem dX10_fund_64 : decode cX10_fund 64 = .ok (.ishl, 1) := by decide +kernel
theorem dX10_fund_65 : decode cX10_fund 65 = .ok (.ior, 1) := by decide +kernel
theorem dX10_fund_66 : decode cX10_fund 66 = .ok (.istore_n 2, 1) := by decide +kernel
theorem dX10_fund_67 : decode cX10_fund 67 = .ok (.iinc 3 1, 3) := by decide +kernel
theorem dX10_fund_70 : decode cX10_fund 70 = .ok (.goto (-42), 3) := by decide +kernel
theorem dX10_fund_73 : decode cX10_fund 73 = .ok (.iload_n 2, 1) := by decide +kernel
theorem dX10_fund_74 : decode cX10_fund 74 = .ok (.ireturn, 1) := by decide +kernel
set_option maxRecDepth 20000 in
theorem ggX10_signals_X9_allLamps : GoodIn wsX10_signals wsX9_allLamps := goodIn_r _ [8, 9, 31, 32, 33, 34, 35, 36, 37, 38, 39, 40, 41] (by decide +kernel) (by decide +kernel)
set_option maxRecDepth 20000 in
theorem gX10_signals_X9_allLamps : GoodIn wsX10_signals (wsV RX10 309 RX9 yX9_allLamps wsX9_allLamps) := goodIn_app (goodIn_of _ (by decide +kernel)) ggX10_signals_X9_allLamps
set_option maxRecDepth 20000 in
theorem ggX10_signals_J6_bitCount_0f7a4 : GoodIn wsX10_signals wsJ6_bitCount_0f7a4 := goodIn_r _ [13, 14, 15, 16] (by decide +kernel) (by decide +kernel)
set_option maxRecDepth 20000 in
theorem gX10_signals_J6_bitCount_0f7a4 : GoodIn wsX10_signals (va_wsS RX10 145 yJ6_bitCount_0f7a4 wsJ6_bitCount_0f7a4) := goodIn_app (goodIn_of _ (by decide +kernel)) ggX10_signals_J6_bitCount_0f7a4
theorem dX10_signals_0 : decode cX10_signals 0 = .ok (.iload_n 1, 1) := by decide +kernel
theorem dX10_signals_1 : decode cX10_signals 1 = .ok (.aload_n 0, 1) := by decide +kernel
theorem dX10_signals_2 : decode cX10_signals 2 = .ok (.getfield 26, 3) := by decide +kernel
theorem dX10_signals_5 : decode cX10_signals 5 = .ok (.invokevirtual 309, 3) := by decide +kernel
theorem dX10_signals_8 : decode cX10_signals 8 = .ok (.iconst (-1), 1) := by decide +kernel
theorem dX10_signals_9 : decode cX10_signals 9 = .ok (.ixor, 1) := by decide +kernel
theorem dX10_signals_10 : decode cX10_signals 10 = .ok (.iand, 1) := by decide +kernel
theorem dX10_signals_11 : decode cX10_signals 11 = .ok (.ifCond .eq 14, 3) := by decide +kernel
theorem dX10_signals_14 : decode cX10_signals 14 = .ok (.new 102, 3) := by decide +kernel
theorem dX10_signals_17 : decode cX10_signals 17 = .ok (.dup, 1) := by decide +kernel
theorem dX10_signals_18 : decode cX10_signals 18 = .ok (.ldc_w 312, 3) := by decide +kernel
theorem dX10_signals_21 : decode cX10_signals 21 = .ok (.invokespecial 106, 3) := by decide +kernel
theorem dX10_signals_24 : decode cX10_signals 24 = .ok (.athrow, 1) := by decide +kernel
theorem dX10_signals_25 : decode cX10_signals 25 = .ok (.iload_n 1, 1) := by decide +kernel
theorem dX10_signals_26 : decode cX10_signals 26 = .ok (.invokestatic 145, 3) := by decide +kernel
theorem dX10_signals_29 : decode cX10_signals 29 = .ok (.istore_n 2, 1) := by decide +kernel
theorem dX10_signals_30 : decode cX10_signals 30 = .ok (.iconst 0, 1) := by decide +kernel
theorem dX10_signals_31 : decode cX10_signals 31 = .ok (.istore_n 3, 1) := by decide +kernel
theorem dX10_signals_32 : decode cX10_signals 32 = .ok (.iconst 1, 1) := by decide +kernel
theorem dX10_signals_33 : decode cX10_signals 33 = .ok (.istore 4, 2) := by decide +kernel
theorem dX10_signals_35 : decode cX10_signals 35 = .ok (.iload 4, 2) := by decide +kernel
theorem dX10_signals_37 : decode cX10_signals 37 = .ok (.iload_n 2, 1) := by decide +kernel
theorem dX10_signals_38 : decode cX10_signals 38 = .ok (.if_icmp .ge 15, 3) := by decide +kernel
theorem dX10_signals_41 : decode cX10_signals 41 = .ok (.iinc 3 1, 3) := by decide +kernel
theorem dX10_signals_44 : decode cX10_signals 44 = .ok (.iload 4, 2) := by decide +kernel
theorem dX10_signals_46 : decode cX10_signals 46 = .ok (.iconst 2, 1) := by decide +kernel
theorem dX10_signals_47 : decode cX10_signals 47 = .ok (.imul, 1) := by decide +kernel
theorem dX10_signals_48 : decode cX10_signals 48 = .ok (.istore 4, 2) := by decide +kernel
theorem dX10_signals_50 : decode cX10_signals 50 = .ok (.goto (-15), 3) := by decide +kernel
theorem dX10_signals_53 : decode cX10_signals 53 = .ok (.iload_n 3, 1) := by decide +kernel
theorem dX10_signals_54 : decode cX10_signals 54 = .ok (.ireturn, 1) := by decide +kernel
set_option maxRecDepth 20000 in
theorem ggX10_see_X10_needLamp : GoodIn wsX10_see wsX10_needLamp := goodIn_ca (goodIn_r _ [7, 8, 9, 10, 11, 26, 27, 28, 29, 30, 31, 32, 33, 34, 35, 36, 37, 38, 39, 44, 45, 46, 47, 48, 49, 50, 51, 52, 53, 54] (by decide +kernel) (by decide +kernel)) (goodIn_sub (fun _ h => List.mem_cons_of_mem _ (List.mem_append_right _ h)) (by decide +kernel))
set_option maxRecDepth 20000 in
theorem gX10_see_X10_needLamp : GoodIn wsX10_see (wsV RX10 200 RX10 yX10_needLamp wsX10_needLamp) := goodIn_app (goodIn_of _ (by decide +kernel)) ggX10_see_X10_needLamp
set_option maxRecDepth 20000 in
theorem ggX10_see_X10_refuse : GoodIn wsX10_see wsX10_refuse := goodIn_r _ [15, 16, 26, 27, 28, 29, 30, 31, 32, 33, 34, 35, 36, 37, 38, 39] (by decide +kernel) (by decide +kernel)
set_option maxRecDepth 20000 in
theorem gX10_see_X10_refuse : GoodIn wsX10_see (wsV RX10 229 RX10 yX10_refuse wsX10_refuse) := goodIn_app (goodIn_of _ (by decide +kernel)) ggX10_see_X10_refuse
set_option maxRecDepth 20000 in
theorem ggX10_see_X8_add : GoodIn wsX10_see wsX8_add := goodIn_r _ [21, 22, 23, 24, 25, 40, 41, 42, 43] (by decide +kernel) (by decide +kernel)
set_option maxRecDepth 20000 in
theorem gX10_see_X8_add : GoodIn wsX10_see (wsV RX10 314 RX8 yX8_add wsX8_add) := goodIn_app (goodIn_of _ (by decide +kernel)) ggX10_see_X8_add
theorem dX10_see_0 : decode cX10_see 0 = .ok (.aload_n 0, 1) := by decide +kernel
theorem dX10_see_1 : decode cX10_see 1 = .ok (.iload_n 1, 1) := by decide +kernel
theorem dX10_see_2 : decode cX10_see 2 = .ok (.invokevirtual 200, 3) := by decide +kernel
theorem dX10_see_5 : decode cX10_see 5 = .ok (.iload_n 2, 1) := by decide +kernel
theorem dX10_see_6 : decode cX10_see 6 = .ok (.iconst 1, 1) := by decide +kernel
theorem dX10_see_7 : decode cX10_see 7 = .ok (.if_icmp .lt 21, 3) := by decide +kernel
theorem dX10_see_10 : decode cX10_see 10 = .ok (.iload_n 2, 1) := by decide +kernel
theorem dX10_see_11 : decode cX10_see 11 = .ok (.bipush 48, 2) := by decide +kernel
theorem dX10_see_13 : decode cX10_see 13 = .ok (.if_icmp .gt 15, 3) := by decide +kernel
theorem dX10_see_16 : decode cX10_see 16 = .ok (.aload_n 0, 1) := by decide +kernel
theorem dX10_see_17 : decode cX10_see 17 = .ok (.getfield 40, 3) := by decide +kernel
theorem dX10_see_20 : decode cX10_see 20 = .ok (.getfield 174, 3) := by decide +kernel
theorem dX10_see_23 : decode cX10_see 23 = .ok (.bipush 8, 2) := by decide +kernel
theorem dX10_see_25 : decode cX10_see 25 = .ok (.if_icmp .lt 9, 3) := by decide +kernel
theorem dX10_see_28 : decode cX10_see 28 = .ok (.aload_n 0, 1) := by decide +kernel
theorem dX10_see_29 : decode cX10_see 29 = .ok (.iconst 2, 1) := by decide +kernel
theorem dX10_see_30 : decode cX10_see 30 = .ok (.invokevirtual 229, 3) := by decide +kernel
theorem dX10_see_33 : decode cX10_see 33 = .ok (.ireturn, 1) := by decide +kernel
theorem dX10_see_34 : decode cX10_see 34 = .ok (.aload_n 0, 1) := by decide +kernel
theorem dX10_see_35 : decode cX10_see 35 = .ok (.getfield 40, 3) := by decide +kernel
theorem dX10_see_38 : decode cX10_see 38 = .ok (.iload_n 1, 1) := by decide +kernel
theorem dX10_see_39 : decode cX10_see 39 = .ok (.iload_n 2, 1) := by decide +kernel
theorem dX10_see_40 : decode cX10_see 40 = .ok (.iload_n 3, 1) := by decide +kernel
theorem dX10_see_41 : decode cX10_see 41 = .ok (.invokevirtual 314, 3) := by decide +kernel
theorem dX10_see_44 : decode cX10_see 44 = .ok (.aload_n 0, 1) := by decide +kernel
theorem dX10_see_45 : decode cX10_see 45 = .ok (.getfield 40, 3) := by decide +kernel
theorem dX10_see_48 : decode cX10_see 48 = .ok (.getfield 174, 3) := by decide +kernel
theorem dX10_see_51 : decode cX10_see 51 = .ok (.ireturn, 1) := by decide +kernel
set_option maxRecDepth 20000 in
theorem ggX10_whose_X10_needLamp : GoodIn wsX10_whose wsX10_needLamp := goodIn_ca (goodIn_r _ [7, 8, 9, 2, 10, 160, 161, 162, 163, 164, 165, 166, 167, 168, 169, 170, 171, 172, 173, 174, 175, 176, 177, 178, 179, 180, 181, 182, 183, 184] (by decide +kernel) (by decide +kernel)) (goodIn_sub (fun _ h => List.mem_cons_of_mem _ (List.mem_append_right _ h)) (by decide +kernel))
set_option maxRecDepth 20000 in
theorem gX10_whose_X10_needLamp : GoodIn wsX10_whose (wsV RX10 200 RX10 yX10_needLamp wsX10_needLamp) := goodIn_app (goodIn_of _ (by decide +kernel)) ggX10_whose_X10_needLamp
set_option maxRecDepth 20000 in
theorem ggX10_whose_X9_copyFrom : GoodIn wsX10_whose wsX9_copyFrom := goodIn_r _ [15, 16, 17, 18, 19, 20, 21, 22, 23, 24, 25, 26, 27, 28, 29, 30, 174, 175, 176, 177, 178, 179, 180, 181, 182, 183, 184] (by decide +kernel) (by decide +kernel)
set_option maxRecDepth 20000 in
theorem gX10_whose_X9_copyFrom : GoodIn wsX10_whose (wsV RX10 119 RX9 yX9_copyFrom wsX9_copyFrom) := goodIn_app (goodIn_of _ (by decide +kernel)) ggX10_whose_X9_copyFrom
set_option maxRecDepth 20000 in
theorem ggX10_whose_X10_isAllSeenSo : GoodIn wsX10_whose wsX10_isAllSeenSo := goodIn_r _ [34, 35, 36, 37, 1, 38, 39, 40, 41, 42, 43, 44, 45, 46, 47, 48, 49, 50, 51, 52, 53, 54, 55, 56, 57, 58, 59, 60, 61, 62, 63, 64, 14, 65, 17, 28, 18, 66, 67, 68, 69, 26, 27, 70, 71, 72, 73, 74, 75, 76, 77, 78, 79, 80, 81, 82, 83, 84, 85, 86, 87, 88, 89, 90, 91, 92, 93, 94, 95, 96, 97, 98, 99, 100, 101, 102, 103, 104, 105, 106, 107, 108, 109, 110, 111, 112, 113, 114, 115, 116, 117, 118, 119, 120, 19, 121, 122, 123, 124, 30, 29, 20, 125, 126, 127, 128, 129, 130, 131, 132, 133, 134, 135, 136, 137, 138, 139, 140, 141, 142, 143, 144, 145, 146, 147, 160, 161, 162, 163, 164, 165, 166, 167, 168, 169, 170, 171, 172, 173, 185, 186, 187, 188, 189, 190, 191, 192, 193, 174, 175, 176, 177, 178, 179, 180, 181, 182, 183, 184, 194, 195, 196, 197] (by decide +kernel) (by decide +kernel)
set_option maxRecDepth 20000 in
theorem gX10_whose_X10_isAllSeenSo : GoodIn wsX10_whose (wsV RX10 318 RX10 yX10_isAllSeenSo wsX10_isAllSeenSo) := goodIn_app (goodIn_of _ (by decide +kernel)) ggX10_whose_X10_isAllSeenSo
set_option maxRecDepth 20000 in
theorem ggX10_whose_X10_changesThatFit : GoodIn wsX10_whose wsX10_changesThatFit := goodIn_r _ [151, 2, 10, 1, 152, 153, 154, 14, 155, 30, 11, 12, 13, 15, 16, 17, 18, 19, 20, 21, 22, 23, 24, 25, 26, 27, 28, 29, 156, 157, 158, 159, 31, 32, 33, 6, 34, 35, 36, 37, 38, 39, 40, 41, 42, 43, 44, 45, 46, 47, 48, 49, 50, 51, 52, 53, 54, 55, 56, 57, 58, 59, 60, 61, 62, 63, 64, 65, 66, 67, 68, 69, 70, 71, 72, 73, 74, 75, 76, 77, 78, 79, 80, 81, 82, 83, 84, 85, 86, 87, 88, 89, 90, 91, 92, 93, 94, 95, 96, 97, 98, 99, 100, 101, 102, 103, 104, 105, 106, 107, 108, 109, 110, 111, 112, 113, 114, 115, 116, 117, 118, 119, 120, 121, 122, 123, 124, 125, 126, 127, 128, 129, 130, 131, 132, 133, 134, 135, 136, 137, 138, 139, 140, 141, 142, 143, 144, 145, 146, 147, 160, 161, 162, 163, 164, 165, 166, 167, 168, 169, 170, 171, 172, 173, 174, 175, 176, 177, 178, 179, 180, 181, 182, 183, 184, 185, 186, 187, 188, 189, 190, 191, 192, 193, 194, 195, 196, 197] (by decide +kernel) (by decide +kernel)
set_option maxRecDepth 20000 in
theorem gX10_whose_X10_changesThatFit : GoodIn wsX10_whose (wsV RX10 322 RX10 yX10_changesThatFit wsX10_changesThatFit) := goodIn_app (goodIn_of _ (by decide +kernel)) ggX10_whose_X10_changesThatFit
theorem dX10_whose_0 : decode cX10_whose 0 = .ok (.aload_n 0, 1) := by decide +kernel
theorem dX10_whose_1 : decode cX10_whose 1 = .ok (.iload_n 1, 1) := by decide +kernel
theorem dX10_whose_2 : decode cX10_whose 2 = .ok (.invokevirtual 200, 3) := by decide +kernel
theorem dX10_whose_5 : decode cX10_whose 5 = .ok (.aload_n 0, 1) := by decide +kernel
theorem dX10_whose_6 : decode cX10_whose 6 = .ok (.getfield 66, 3) := by decide +kernel
theorem dX10_whose_9 : decode cX10_whose 9 = .ok (.aload_n 0, 1) := by decide +kernel
theorem dX10_whose_10 : decode cX10_whose 10 = .ok (.getfield 26, 3) := by decide +kernel
theorem dX10_whose_13 : decode cX10_whose 13 = .ok (.invokevirtual 119, 3) := by decide +kernel
theorem dX10_whose_16 : decode cX10_whose 16 = .ok (.aload_n 0, 1) := by decide +kernel
theorem dX10_whose_17 : decode cX10_whose 17 = .ok (.invokevirtual 318, 3) := by decide +kernel
theorem dX10_whose_20 : decode cX10_whose 20 = .ok (.ifCond .eq 9, 3) := by decide +kernel
theorem dX10_whose_23 : decode cX10_whose 23 = .ok (.sipush 4096, 3) := by decide +kernel
theorem dX10_whose_26 : decode cX10_whose 26 = .ok (.goto 4, 3) := by decide +kernel
theorem dX10_whose_29 : decode cX10_whose 29 = .ok (.iconst 0, 1) := by decide +kernel
theorem dX10_whose_30 : decode cX10_whose 30 = .ok (.istore_n 2, 1) := by decide +kernel
theorem dX10_whose_31 : decode cX10_whose 31 = .ok (.iload_n 2, 1) := by decide +kernel
theorem dX10_whose_32 : decode cX10_whose 32 = .ok (.aload_n 0, 1) := by decide +kernel
theorem dX10_whose_33 : decode cX10_whose 33 = .ok (.iload_n 1, 1) := by decide +kernel
theorem dX10_whose_34 : decode cX10_whose 34 = .ok (.invokevirtual 322, 3) := by decide +kernel
theorem dX10_whose_37 : decode cX10_whose 37 = .ok (.ior, 1) := by decide +kernel
theorem dX10_whose_38 : decode cX10_whose 38 = .ok (.ireturn, 1) := by decide +kernel
set_option maxRecDepth 20000 in
theorem ggX10_look_X10_needLamp : GoodIn wsX10_look wsX10_needLamp := goodIn_ca (goodIn_r _ [5, 6, 7, 8, 9, 172, 173, 174, 175, 176, 177, 178, 179, 180, 181, 182, 183, 184, 185, 186, 187, 188, 189, 190, 191, 192, 193, 194, 195, 196] (by decide +kernel) (by decide +kernel)) (goodIn_sub (fun _ h => List.mem_cons_of_mem _ (List.mem_append_right _ h)) (by decide +kernel))
set_option maxRecDepth 20000 in
theorem gX10_look_X10_needLamp : GoodIn wsX10_look (wsV RX10 200 RX10 yX10_needLamp wsX10_needLamp) := goodIn_app (goodIn_of _ (by decide +kernel)) ggX10_look_X10_needLamp
set_option maxRecDepth 20000 in
theorem ggX10_look_X10_needHourOrMany : GoodIn wsX10_look wsX10_needHourOrMany := goodIn_ca (goodIn_r _ [12, 6, 7] (by decide +kernel) (by decide +kernel)) (goodIn_sub (fun _ h => List.mem_cons_of_mem _ (List.mem_append_right _ h)) (by decide +kernel))
set_option maxRecDepth 20000 in
theorem gX10_look_X10_needHourOrMany : GoodIn wsX10_look (va_wsS RX10 265 yX10_needHourOrMany wsX10_needHourOrMany) := goodIn_app (goodIn_of _ (by decide +kernel)) ggX10_look_X10_needHourOrMany
set_option maxRecDepth 20000 in
theorem ggX10_look_X10_changesThatFit : GoodIn wsX10_look wsX10_changesThatFit := goodIn_r _ [16, 8, 9, 17, 18, 19, 20, 21, 22, 23, 24, 25, 26, 27, 28, 29, 30, 31, 32, 33, 34, 35, 36, 37, 38, 39, 40, 41, 42, 43, 44, 45, 46, 47, 48, 4, 49, 50, 51, 52, 53, 54, 55, 56, 57, 58, 59, 60, 61, 62, 63, 64, 65, 66, 67, 68, 69, 70, 71, 72, 73, 74, 75, 76, 77, 78, 79, 80, 81, 82, 83, 84, 85, 86, 87, 88, 89, 90, 91, 92, 93, 94, 95, 96, 97, 98, 99, 100, 101, 102, 103, 104, 105, 106, 107, 108, 109, 110, 111, 112, 113, 114, 115, 116, 117, 118, 119, 120, 121, 122, 123, 124, 125, 126, 127, 128, 129, 130, 131, 132, 133, 134, 135, 136, 137, 138, 139, 140, 141, 142, 143, 144, 145, 146, 147, 148, 149, 150, 151, 152, 153, 154, 155, 156, 157, 158, 159, 160, 161, 162, 172, 173, 174, 175, 176, 177, 178, 179, 180, 181, 182, 183, 184, 185, 186, 187, 188, 189, 190, 191, 192, 193, 194, 195, 196, 197, 198, 199, 200, 201, 202, 203, 204, 205, 206, 207, 208, 209] (by decide +kernel) (by decide +kernel)
set_option maxRecDepth 20000 in
theorem gX10_look_X10_changesThatFit : GoodIn wsX10_look (wsV RX10 322 RX10 yX10_changesThatFit wsX10_changesThatFit) := goodIn_app (goodIn_of _ (by decide +kernel)) ggX10_look_X10_changesThatFit
set_option maxRecDepth 20000 in
theorem ggX10_look_X10_foreseeChanges : GoodIn wsX10_look wsX10_foreseeChanges := goodIn_r _ [166, 8, 9, 17, 51, 52, 167, 53, 24, 25, 26, 21, 27, 28, 29, 30, 31, 32, 33, 34, 35, 36, 37, 38, 39, 40, 41, 23, 42, 43, 44, 45, 65, 66, 67, 68, 69, 70, 71, 72, 73, 74, 75, 76, 77, 78, 79, 80, 81, 82, 83, 84, 85, 86, 87, 88, 89, 90, 91, 92, 93, 94, 95, 96, 97, 98, 99, 100, 101, 102, 103, 104, 105, 106, 107, 108, 109, 110, 111, 112, 113, 114, 115, 116, 117, 118, 119, 120, 121, 122, 123, 124, 125, 126, 127, 128, 129, 130, 131, 132, 133, 134, 135, 136, 137, 138, 139, 140, 141, 142, 143, 144, 145, 146, 147, 148, 149, 150, 151, 152, 153, 154, 155, 156, 172, 173, 174, 175, 176, 177, 178, 179, 180, 181, 182, 183, 184, 185, 186, 187, 188, 189, 190, 191, 192, 193, 194, 195, 196, 197, 198, 199, 200, 201, 206, 207, 208, 209] (by decide +kernel) (by decide +kernel)
set_option maxRecDepth 20000 in
theorem gX10_look_X10_foreseeChanges : GoodIn wsX10_look (wsV RX10 325 RX10 yX10_foreseeChanges wsX10_foreseeChanges) := goodIn_app (goodIn_of _ (by decide +kernel)) ggX10_look_X10_foreseeChanges
set_option maxRecDepth 20000 in
theorem ggX10_look_X10_unlikeSets : GoodIn wsX10_look wsX10_unlikeSets := goodIn_r _ [171, 167, 172, 173, 174, 175, 176, 177, 178, 179, 180, 181, 182, 183, 184, 185] (by decide +kernel) (by decide +kernel)
set_option maxRecDepth 20000 in
theorem gX10_look_X10_unlikeSets : GoodIn wsX10_look (wsV RX10 328 RX10 yX10_unlikeSets wsX10_unlikeSets) := goodIn_app (goodIn_of _ (by decide +kernel)) ggX10_look_X10_unlikeSets
theorem dX10_look_0 : decode cX10_look 0 = .ok (.aload_n 0, 1) := by decide +kernel
theorem dX10_look_1 : decode cX10_look 1 = .ok (.iload_n 1, 1) := by decide +kernel
theorem dX10_look_2 : decode cX10_look 2 = .ok (.invokevirtual 200, 3) := by decide +kernel
theorem dX10_look_5 : decode cX10_look 5 = .ok (.iload_n 2, 1) := by decide +kernel
theorem dX10_look_6 : decode cX10_look 6 = .ok (.invokestatic 265, 3) := by decide +kernel
theorem dX10_look_9 : decode cX10_look 9 = .ok (.aload_n 0, 1) := by decide +kernel
theorem dX10_look_10 : decode cX10_look 10 = .ok (.iload_n 1, 1) := by decide +kernel
theorem dX10_look_11 : decode cX10_look 11 = .ok (.aload_n 0, 1) := by decide +kernel
theorem dX10_look_12 : decode cX10_look 12 = .ok (.iload_n 1, 1) := by decide +kernel
theorem dX10_look_13 : decode cX10_look 13 = .ok (.invokevirtual 322, 3) := by decide +kernel
theorem dX10_look_16 : decode cX10_look 16 = .ok (.invokevirtual 325, 3) := by decide +kernel
theorem dX10_look_19 : decode cX10_look 19 = .ok (.istore_n 3, 1) := by decide +kernel
theorem dX10_look_20 : decode cX10_look 20 = .ok (.iconst (-1), 1) := by decide +kernel
theorem dX10_look_21 : decode cX10_look 21 = .ok (.istore 4, 2) := by decide +kernel
theorem dX10_look_23 : decode cX10_look 23 = .ok (.iconst 0, 1) := by decide +kernel
theorem dX10_look_24 : decode cX10_look 24 = .ok (.istore 5, 2) := by decide +kernel
theorem dX10_look_26 : decode cX10_look 26 = .ok (.iconst 0, 1) := by decide +kernel
theorem dX10_look_27 : decode cX10_look 27 = .ok (.istore 6, 2) := by decide +kernel
theorem dX10_look_29 : decode cX10_look 29 = .ok (.iload 6, 2) := by decide +kernel
theorem dX10_look_31 : decode cX10_look 31 = .ok (.bipush 48, 2) := by decide +kernel
theorem dX10_look_33 : decode cX10_look 33 = .ok (.if_icmp .ge 35, 3) := by decide +kernel
theorem dX10_look_36 : decode cX10_look 36 = .ok (.aload_n 0, 1) := by decide +kernel
theorem dX10_look_37 : decode cX10_look 37 = .ok (.iload_n 3, 1) := by decide +kernel
theorem dX10_look_38 : decode cX10_look 38 = .ok (.iload 6, 2) := by decide +kernel
theorem dX10_look_40 : decode cX10_look 40 = .ok (.invokevirtual 328, 3) := by decide +kernel
theorem dX10_look_43 : decode cX10_look 43 = .ok (.istore 7, 2) := by decide +kernel
theorem dX10_look_45 : decode cX10_look 45 = .ok (.iload 7, 2) := by decide +kernel
theorem dX10_look_47 : decode cX10_look 47 = .ok (.iload 5, 2) := by decide +kernel
theorem dX10_look_49 : decode cX10_look 49 = .ok (.if_icmp .le 13, 3) := by decide +kernel
theorem dX10_look_52 : decode cX10_look 52 = .ok (.iload 7, 2) := by decide +kernel
theorem dX10_look_54 : decode cX10_look 54 = .ok (.istore 5, 2) := by decide +kernel
theorem dX10_look_56 : decode cX10_look 56 = .ok (.iload 6, 2) := by decide +kernel
theorem dX10_look_58 : decode cX10_look 58 = .ok (.iconst 1, 1) := by decide +kernel
theorem dX10_look_59 : decode cX10_look 59 = .ok (.iadd, 1) := by decide +kernel
theorem dX10_look_60 : decode cX10_look 60 = .ok (.istore 4, 2) := by decide +kernel
theorem dX10_look_62 : decode cX10_look 62 = .ok (.iinc 6 1, 3) := by decide +kernel
theorem dX10_look_65 : decode cX10_look 65 = .ok (.goto (-36), 3) := by decide +kernel
theorem dX10_look_68 : decode cX10_look 68 = .ok (.iload_n 2, 1) := by decide +kernel
theorem dX10_look_69 : decode cX10_look 69 = .ok (.ifCond .ne 8, 3) := by decide +kernel
theorem dX10_look_72 : decode cX10_look 72 = .ok (.iload 4, 2) := by decide +kernel
theorem dX10_look_74 : decode cX10_look 74 = .ok (.goto 5, 3) := by decide +kernel
theorem dX10_look_77 : decode cX10_look 77 = .ok (.iload 5, 2) := by decide +kernel
theorem dX10_look_79 : decode cX10_look 79 = .ok (.ireturn, 1) := by decide +kernel
set_option maxRecDepth 20000 in
theorem ggX10_forget_X8_clear : GoodIn wsX10_forget wsX8_clear := goodIn_r _ [6, 7, 8, 23, 24, 25, 26] (by decide +kernel) (by decide +kernel)
set_option maxRecDepth 20000 in
theorem gX10_forget_X8_clear : GoodIn wsX10_forget (wsV RX10 130 RX8 yX8_clear wsX8_clear) := goodIn_app (goodIn_of _ (by decide +kernel)) ggX10_forget_X8_clear
theorem dX10_forget_0 : decode cX10_forget 0 = .ok (.aload_n 0, 1) := by decide +kernel
theorem dX10_forget_1 : decode cX10_forget 1 = .ok (.getfield 40, 3) := by decide +kernel
theorem dX10_forget_4 : decode cX10_forget 4 = .ok (.invokevirtual 130, 3) := by decide +kernel
theorem dX10_forget_7 : decode cX10_forget 7 = .ok (.return_, 1) := by decide +kernel
set_option maxRecDepth 20000 in
theorem ggX10_game_X10_needLamp : GoodIn wsX10_game wsX10_needLamp := goodIn_ca (goodIn_r _ [16, 17, 18, 3, 19, 112, 113, 114, 115, 116, 117, 118, 119, 120, 121, 122, 123, 124, 125, 126, 127, 128, 129, 130, 131, 132, 133, 134, 135, 136] (by decide +kernel) (by decide +kernel)) (goodIn_sub (fun _ h => List.mem_cons_of_mem _ (List.mem_append_right _ h)) (by decide +kernel))
set_option maxRecDepth 20000 in
theorem gX10_game_X10_needLamp : GoodIn wsX10_game (wsV RX10 200 RX10 yX10_needLamp wsX10_needLamp) := goodIn_app (goodIn_of _ (by decide +kernel)) ggX10_game_X10_needLamp
set_option maxRecDepth 20000 in
theorem ggX10_game_X10_needHourOrMany : GoodIn wsX10_game wsX10_needHourOrMany := goodIn_ca (goodIn_r _ [22, 17, 18] (by decide +kernel) (by decide +kernel)) (goodIn_sub (fun _ h => List.mem_cons_of_mem _ (List.mem_append_right _ h)) (by decide +kernel))
set_option maxRecDepth 20000 in
theorem gX10_game_X10_needHourOrMany : GoodIn wsX10_game (va_wsS RX10 265 yX10_needHourOrMany wsX10_needHourOrMany) := goodIn_app (goodIn_of _ (by decide +kernel)) ggX10_game_X10_needHourOrMany
set_option maxRecDepth 20000 in
theorem ggX10_game_X9_canBeLit : GoodIn wsX10_game wsX9_canBeLit := goodIn_r _ [27, 28, 29, 30, 31, 32, 33, 34, 26, 35, 126, 127, 128, 129, 130, 131, 132, 133, 134, 135, 136] (by decide +kernel) (by decide +kernel)
set_option maxRecDepth 20000 in
theorem gX10_game_X9_canBeLit : GoodIn wsX10_game (wsV RX10 239 RX9 yX9_canBeLit wsX9_canBeLit) := goodIn_app (goodIn_of _ (by decide +kernel)) ggX10_game_X9_canBeLit
set_option maxRecDepth 20000 in
theorem ggX10_game_X9_isLit : GoodIn wsX10_game wsX9_isLit := goodIn_r _ [39, 40, 126, 127, 128, 129, 130, 131, 132, 133, 134, 135, 136] (by decide +kernel) (by decide +kernel)
set_option maxRecDepth 20000 in
theorem gX10_game_X9_isLit : GoodIn wsX10_game (wsV RX10 212 RX9 yX9_isLit wsX9_isLit) := goodIn_app (goodIn_of _ (by decide +kernel)) ggX10_game_X9_isLit
set_option maxRecDepth 20000 in
theorem ggX10_game_X7_wantsLit : GoodIn wsX10_game wsX7_wantsLit := goodIn_r _ [45, 46, 47, 48, 49, 50, 51, 52, 44, 53, 54, 55, 56, 57, 26, 58, 59, 60, 61, 62, 63, 64, 65, 66, 67, 29, 68, 69, 70, 71, 72, 73, 74, 75, 76, 77, 78, 79, 80, 81, 82, 83, 84, 85, 86, 87, 88, 126, 127, 128, 129, 130, 131, 132, 133, 134, 135, 136, 143, 144, 145, 146] (by decide +kernel) (by decide +kernel)
set_option maxRecDepth 20000 in
theorem gX10_game_X7_wantsLit : GoodIn wsX10_game (wsV RX10 219 RX7 yX7_wantsLit wsX7_wantsLit) := goodIn_app (goodIn_of _ (by decide +kernel)) ggX10_game_X7_wantsLit
set_option maxRecDepth 20000 in
theorem ggX10_game_X1_restingCouples : GoodIn wsX10_game wsX1_restingCouples := goodIn_r _ [93, 94, 95, 96, 92, 97, 98, 99, 100, 101, 102, 103, 104, 105, 106, 107, 137, 138, 139, 140, 141, 142] (by decide +kernel) (by decide +kernel)
set_option maxRecDepth 20000 in
theorem gX10_game_X1_restingCouples : GoodIn wsX10_game (wsV RX10 344 RX1 yX1_restingCouples wsX1_restingCouples) := goodIn_app (goodIn_of _ (by decide +kernel)) ggX10_game_X1_restingCouples
set_option maxRecDepth 20000 in
theorem ggX10_game_X1_firstRestingCouple : GoodIn wsX10_game wsX1_firstRestingCouple := goodIn_r _ [111, 94, 95, 96, 92, 97, 98, 99, 100, 101, 102, 103, 104, 105, 106, 107, 137, 138, 139, 140, 141, 142] (by decide +kernel) (by decide +kernel)
set_option maxRecDepth 20000 in
theorem gX10_game_X1_firstRestingCouple : GoodIn wsX10_game (wsV RX10 347 RX1 yX1_firstRestingCouple wsX1_firstRestingCouple) := goodIn_app (goodIn_of _ (by decide +kernel)) ggX10_game_X1_firstRestingCouple
theorem dX10_game_0 : decode cX10_game 0 = .ok (.aload_n 0, 1) := by decide +kernel
theorem dX10_game_1 : decode cX10_game 1 = .ok (.iload_n 1, 1) := by decide +kernel
theorem dX10_game_2 : decode cX10_game 2 = .ok (.invokevirtual 200, 3) := by decide +kernel
theorem dX10_game_5 : decode cX10_game 5 = .ok (.aload_n 0, 1) := by decide +kernel
theorem dX10_game_6 : decode cX10_game 6 = .ok (.iload_n 2, 1) := by decide +kernel
theorem dX10_game_7 : decode cX10_game 7 = .ok (.invokevirtual 200, 3) := by decide +kernel
theorem dX10_game_10 : decode cX10_game 10 = .ok (.iload_n 3, 1) := by decide +kernel
theorem dX10_game_11 : decode cX10_game 11 = .ok (.invokestatic 265, 3) := by decide +kernel
theorem dX10_game_14 : decode cX10_game 14 = .ok (.aload_n 0, 1) := by decide +kernel
theorem dX10_game_15 : decode cX10_game 15 = .ok (.getfield 26, 3) := by decide +kernel
theorem dX10_game_18 : decode cX10_game 18 = .ok (.getfield 209, 3) := by decide +kernel
theorem dX10_game_21 : decode cX10_game 21 = .ok (.iload_n 1, 1) := by decide +kernel
theorem dX10_game_22 : decode cX10_game 22 = .ok (.iaload, 1) := by decide +kernel
theorem dX10_game_23 : decode cX10_game 23 = .ok (.iload_n 2, 1) := by decide +kernel
theorem dX10_game_24 : decode cX10_game 24 = .ok (.if_icmp .ne 14, 3) := by decide +kernel
theorem dX10_game_27 : decode cX10_game 27 = .ok (.aload_n 0, 1) := by decide +kernel
theorem dX10_game_28 : decode cX10_game 28 = .ok (.getfield 26, 3) := by decide +kernel
theorem dX10_game_31 : decode cX10_game 31 = .ok (.iload_n 1, 1) := by decide +kernel
theorem dX10_game_32 : decode cX10_game 32 = .ok (.invokevirtual 239, 3) := by decide +kernel
theorem dX10_game_35 : decode cX10_game 35 = .ok (.ifCond .ne 14, 3) := by decide +kernel
theorem dX10_game_38 : decode cX10_game 38 = .ok (.new 102, 3) := by decide +kernel
theorem dX10_game_41 : decode cX10_game 41 = .ok (.dup, 1) := by decide +kernel
theorem dX10_game_42 : decode cX10_game 42 = .ok (.ldc_w 331, 3) := by decide +kernel
theorem dX10_game_45 : decode cX10_game 45 = .ok (.invokespecial 106, 3) := by decide +kernel
theorem dX10_game_48 : decode cX10_game 48 = .ok (.athrow, 1) := by decide +kernel
theorem dX10_game_49 : decode cX10_game 49 = .ok (.aload_n 0, 1) := by decide +kernel
theorem dX10_game_50 : decode cX10_game 50 = .ok (.getfield 26, 3) := by decide +kernel
theorem dX10_game_53 : decode cX10_game 53 = .ok (.getfield 150, 3) := by decide +kernel
theorem dX10_game_56 : decode cX10_game 56 = .ok (.bipush 24, 2) := by decide +kernel
theorem dX10_game_58 : decode cX10_game 58 = .ok (.irem, 1) := by decide +kernel
theorem dX10_game_59 : decode cX10_game 59 = .ok (.istore 4, 2) := by decide +kernel
theorem dX10_game_61 : decode cX10_game 61 = .ok (.aload_n 0, 1) := by decide +kernel
theorem dX10_game_62 : decode cX10_game 62 = .ok (.getfield 86, 3) := by decide +kernel
theorem dX10_game_65 : decode cX10_game 65 = .ok (.aload_n 0, 1) := by decide +kernel
theorem dX10_game_66 : decode cX10_game 66 = .ok (.getfield 26, 3) := by decide +kernel
theorem dX10_game_69 : decode cX10_game 69 = .ok (.iload_n 1, 1) := by decide +kernel
theorem dX10_game_70 : decode cX10_game 70 = .ok (.invokevirtual 212, 3) := by decide +kernel
theorem dX10_game_73 : decode cX10_game 73 = .ok (.putfield 333, 3) := by decide +kernel
theorem dX10_game_76 : decode cX10_game 76 = .ok (.aload_n 0, 1) := by decide +kernel
theorem dX10_game_77 : decode cX10_game 77 = .ok (.getfield 86, 3) := by decide +kernel
theorem dX10_game_80 : decode cX10_game 80 = .ok (.iload_n 1, 1) := by decide +kernel
theorem dX10_game_81 : decode cX10_game 81 = .ok (.iload_n 2, 1) := by decide +kernel
theorem dX10_game_82 : decode cX10_game 82 = .ok (.if_icmp .ge 7, 3) := by decide +kernel
theorem dX10_game_85 : decode cX10_game 85 = .ok (.iconst 1, 1) := by decide +kernel
theorem dX10_game_86 : decode cX10_game 86 = .ok (.goto 4, 3) := by decide +kernel
theorem dX10_game_89 : decode cX10_game 89 = .ok (.iconst 0, 1) := by decide +kernel
theorem dX10_game_90 : decode cX10_game 90 = .ok (.putfield 335, 3) := by decide +kernel
theorem dX10_game_93 : decode cX10_game 93 = .ok (.aload_n 0, 1) := by decide +kernel
theorem dX10_game_94 : decode cX10_game 94 = .ok (.getfield 86, 3) := by decide +kernel
theorem dX10_game_97 : decode cX10_game 97 = .ok (.aload_n 0, 1) := by decide +kernel
theorem dX10_game_98 : decode cX10_game 98 = .ok (.getfield 19, 3) := by decide +kernel
theorem dX10_game_101 : decode cX10_game 101 = .ok (.aload_n 0, 1) := by decide +kernel
theorem dX10_game_102 : decode cX10_game 102 = .ok (.getfield 26, 3) := by decide +kernel
theorem dX10_game_105 : decode cX10_game 105 = .ok (.iload_n 1, 1) := by decide +kernel
theorem dX10_game_106 : decode cX10_game 106 = .ok (.iload 4, 2) := by decide +kernel
theorem dX10_game_108 : decode cX10_game 108 = .ok (.invokevirtual 219, 3) := by decide +kernel
theorem dX10_game_111 : decode cX10_game 111 = .ok (.putfield 338, 3) := by decide +kernel
theorem dX10_game_114 : decode cX10_game 114 = .ok (.aload_n 0, 1) := by decide +kernel
theorem dX10_game_115 : decode cX10_game 115 = .ok (.getfield 86, 3) := by decide +kernel
theorem dX10_game_118 : decode cX10_game 118 = .ok (.aload_n 0, 1) := by decide +kernel
theorem dX10_game_119 : decode cX10_game 119 = .ok (.getfield 19, 3) := by decide +kernel
theorem dX10_game_122 : decode cX10_game 122 = .ok (.aload_n 0, 1) := by decide +kernel
theorem dX10_game_123 : decode cX10_game 123 = .ok (.getfield 26, 3) := by decide +kernel
theorem dX10_game_126 : decode cX10_game 126 = .ok (.iload_n 2, 1) := by decide +kernel
theorem dX10_game_127 : decode cX10_game 127 = .ok (.iload 4, 2) := by decide +kernel
theorem dX10_game_129 : decode cX10_game 129 = .ok (.invokevirtual 219, 3) := by decide +kernel
theorem dX10_game_132 : decode cX10_game 132 = .ok (.putfield 341, 3) := by decide +kernel
theorem dX10_game_135 : decode cX10_game 135 = .ok (.iload_n 3, 1) := by decide +kernel
theorem dX10_game_136 : decode cX10_game 136 = .ok (.ifCond .ne 13, 3) := by decide +kernel
theorem dX10_game_139 : decode cX10_game 139 = .ok (.aload_n 0, 1) := by decide +kernel
theorem dX10_game_140 : decode cX10_game 140 = .ok (.getfield 86, 3) := by decide +kernel
theorem dX10_game_143 : decode cX10_game 143 = .ok (.invokevirtual 344, 3) := by decide +kernel
theorem dX10_game_146 : decode cX10_game 146 = .ok (.goto 10, 3) := by decide +kernel
theorem dX10_game_149 : decode cX10_game 149 = .ok (.aload_n 0, 1) := by decide +kernel
theorem dX10_game_150 : decode cX10_game 150 = .ok (.getfield 86, 3) := by decide +kernel
theorem dX10_game_153 : decode cX10_game 153 = .ok (.invokevirtual 347, 3) := by decide +kernel
theorem dX10_game_156 : decode cX10_game 156 = .ok (.ireturn, 1) := by decide +kernel
set_option maxRecDepth 20000 in
theorem ggX10_winter_X10_needAhead : GoodIn wsX10_winter wsX10_needAhead := goodIn_ca (goodIn_r _ [15, 16, 17] (by decide +kernel) (by decide +kernel)) (goodIn_sub (fun _ h => List.mem_cons_of_mem _ (List.mem_append_right _ h)) (by decide +kernel))
set_option maxRecDepth 20000 in
theorem gX10_winter_X10_needAhead : GoodIn wsX10_winter (va_wsS RX10 262 yX10_needAhead wsX10_needAhead) := goodIn_app (goodIn_of _ (by decide +kernel)) ggX10_winter_X10_needAhead
set_option maxRecDepth 20000 in
theorem ggX10_winter_X9_copyFrom : GoodIn wsX10_winter wsX9_copyFrom := goodIn_r _ [22, 23, 24, 25, 26, 27, 28, 29, 30, 31, 32, 33, 34, 35, 36, 37, 180, 181, 182, 183, 184, 185, 186, 187, 188, 189, 190] (by decide +kernel) (by decide +kernel)
set_option maxRecDepth 20000 in
theorem gX10_winter_X9_copyFrom : GoodIn wsX10_winter (wsV RX10 119 RX9 yX9_copyFrom wsX9_copyFrom) := goodIn_app (goodIn_of _ (by decide +kernel)) ggX10_winter_X9_copyFrom
set_option maxRecDepth 20000 in
theorem ggX10_winter_X0_befall : GoodIn wsX10_winter wsX0_befall := goodIn_r _ [42, 43, 44, 45, 46, 47, 48, 49, 50, 51, 41, 52, 53, 54, 55, 56, 57, 21, 58, 59, 60, 61, 62, 26, 63, 64, 65, 66, 67, 68, 69, 70, 37, 71, 72, 73, 74, 24, 36, 27, 75, 76, 77, 78, 79, 80, 81, 82, 180, 181, 182, 183, 184, 185, 186, 187, 188, 189, 190, 174] (by decide +kernel) (by decide +kernel)
set_option maxRecDepth 20000 in
theorem gX10_winter_X0_befall : GoodIn wsX10_winter (wsV RX10 355 RX0 yX0_befall wsX0_befall) := goodIn_app (goodIn_of _ (by decide +kernel)) ggX10_winter_X0_befall
set_option maxRecDepth 20000 in
theorem ggX10_winter_X2_passHour : GoodIn wsX10_winter wsX2_passHour := goodIn_r _ [87, 88, 89, 90, 91, 92, 93, 94, 95, 96, 97, 21, 98, 24, 35, 25, 99, 100, 101, 102, 33, 34, 103, 104, 105, 106, 107, 108, 109, 110, 111, 112, 113, 114, 115, 116, 117, 118, 119, 120, 121, 122, 123, 124, 125, 126, 127, 128, 129, 130, 131, 132, 133, 134, 135, 136, 137, 138, 139, 140, 141, 142, 143, 144, 145, 146, 147, 86, 148, 149, 150, 60, 61, 62, 26, 151, 72, 73, 74, 37, 36, 27, 67, 68, 69, 70, 152, 76, 77, 78, 153, 64, 65, 66, 154, 155, 156, 157, 158, 175, 176, 177, 178, 179, 180, 181, 182, 183, 184, 185, 186, 187, 188, 189, 190, 191, 192, 193, 194] (by decide +kernel) (by decide +kernel)
set_option maxRecDepth 20000 in
theorem gX10_winter_X2_passHour : GoodIn wsX10_winter (wsV RX10 235 RX2 yX2_passHour wsX2_passHour) := goodIn_app (goodIn_of _ (by decide +kernel)) ggX10_winter_X2_passHour
set_option maxRecDepth 20000 in
theorem ggX10_winter_J6_bitCount_0f7a4 : GoodIn wsX10_winter wsJ6_bitCount_0f7a4 := goodIn_r _ [128, 129, 130, 131] (by decide +kernel) (by decide +kernel)
set_option maxRecDepth 20000 in
theorem gX10_winter_J6_bitCount_0f7a4 : GoodIn wsX10_winter (va_wsS RX10 145 yJ6_bitCount_0f7a4 wsJ6_bitCount_0f7a4) := goodIn_app (goodIn_of _ (by decide +kernel)) ggX10_winter_J6_bitCount_0f7a4
theorem dX10_winter_0 : decode cX10_winter 0 = .ok (.iload_n 3, 1) := by decide +kernel
theorem dX10_winter_1 : decode cX10_winter 1 = .ok (.ifCond .lt 8, 3) := by decide +kernel
theorem dX10_winter_4 : decode cX10_winter 4 = .ok (.iload_n 3, 1) := by decide +kernel
theorem dX10_winter_5 : decode cX10_winter 5 = .ok (.iconst 2, 1) := by decide +kernel
theorem dX10_winter_6 : decode cX10_winter 6 = .ok (.if_icmp .le 14, 3) := by decide +kernel
theorem dX10_winter_9 : decode cX10_winter 9 = .ok (.new 175, 3) := by decide +kernel
theorem dX10_winter_12 : decode cX10_winter 12 = .ok (.dup, 1) := by decide +kernel
theorem dX10_winter_13 : decode cX10_winter 13 = .ok (.ldc_w 350, 3) := by decide +kernel
theorem dX10_winter_16 : decode cX10_winter 16 = .ok (.invokespecial 179, 3) := by decide +kernel
theorem dX10_winter_19 : decode cX10_winter 19 = .ok (.athrow, 1) := by decide +kernel
theorem dX10_winter_20 : decode cX10_winter 20 = .ok (.iload_n 2, 1) := by decide +kernel
theorem dX10_winter_21 : decode cX10_winter 21 = .ok (.invokestatic 262, 3) := by decide +kernel
theorem dX10_winter_24 : decode cX10_winter 24 = .ok (.aload_n 0, 1) := by decide +kernel
theorem dX10_winter_25 : decode cX10_winter 25 = .ok (.getfield 66, 3) := by decide +kernel
theorem dX10_winter_28 : decode cX10_winter 28 = .ok (.aload_n 0, 1) := by decide +kernel
theorem dX10_winter_29 : decode cX10_winter 29 = .ok (.getfield 26, 3) := by decide +kernel
theorem dX10_winter_32 : decode cX10_winter 32 = .ok (.invokevirtual 119, 3) := by decide +kernel
theorem dX10_winter_35 : decode cX10_winter 35 = .ok (.aload_n 0, 1) := by decide +kernel
theorem dX10_winter_36 : decode cX10_winter 36 = .ok (.getfield 79, 3) := by decide +kernel
theorem dX10_winter_39 : decode cX10_winter 39 = .ok (.iload_n 1, 1) := by decide +kernel
theorem dX10_winter_40 : decode cX10_winter 40 = .ok (.putfield 352, 3) := by decide +kernel
theorem dX10_winter_43 : decode cX10_winter 43 = .ok (.iconst 0, 1) := by decide +kernel
theorem dX10_winter_44 : decode cX10_winter 44 = .ok (.istore 4, 2) := by decide +kernel
theorem dX10_winter_46 : decode cX10_winter 46 = .ok (.iconst 0, 1) := by decide +kernel
theorem dX10_winter_47 : decode cX10_winter 47 = .ok (.istore 5, 2) := by decide +kernel
theorem dX10_winter_49 : decode cX10_winter 49 = .ok (.iload 5, 2) := by decide +kernel
theorem dX10_winter_51 : decode cX10_winter 51 = .ok (.iload_n 2, 1) := by decide +kernel
theorem dX10_winter_52 : decode cX10_winter 52 = .ok (.if_icmp .ge 50, 3) := by decide +kernel
theorem dX10_winter_55 : decode cX10_winter 55 = .ok (.aload_n 0, 1) := by decide +kernel
theorem dX10_winter_56 : decode cX10_winter 56 = .ok (.getfield 79, 3) := by decide +kernel
theorem dX10_winter_59 : decode cX10_winter 59 = .ok (.aload_n 0, 1) := by decide +kernel
theorem dX10_winter_60 : decode cX10_winter 60 = .ok (.getfield 66, 3) := by decide +kernel
theorem dX10_winter_63 : decode cX10_winter 63 = .ok (.invokevirtual 355, 3) := by decide +kernel
theorem dX10_winter_66 : decode cX10_winter 66 = .ok (.aload_n 0, 1) := by decide +kernel
theorem dX10_winter_67 : decode cX10_winter 67 = .ok (.getfield 62, 3) := by decide +kernel
theorem dX10_winter_70 : decode cX10_winter 70 = .ok (.aload_n 0, 1) := by decide +kernel
theorem dX10_winter_71 : decode cX10_winter 71 = .ok (.getfield 19, 3) := by decide +kernel
theorem dX10_winter_74 : decode cX10_winter 74 = .ok (.aload_n 0, 1) := by decide +kernel
theorem dX10_winter_75 : decode cX10_winter 75 = .ok (.getfield 66, 3) := by decide +kernel
theorem dX10_winter_78 : decode cX10_winter 78 = .ok (.invokevirtual 235, 3) := by decide +kernel
theorem dX10_winter_81 : decode cX10_winter 81 = .ok (.iload 4, 2) := by decide +kernel
theorem dX10_winter_83 : decode cX10_winter 83 = .ok (.aload_n 0, 1) := by decide +kernel
theorem dX10_winter_84 : decode cX10_winter 84 = .ok (.getfield 62, 3) := by decide +kernel
theorem dX10_winter_87 : decode cX10_winter 87 = .ok (.getfield 271, 3) := by decide +kernel
theorem dX10_winter_90 : decode cX10_winter 90 = .ok (.invokestatic 145, 3) := by decide +kernel
theorem dX10_winter_93 : decode cX10_winter 93 = .ok (.iadd, 1) := by decide +kernel
theorem dX10_winter_94 : decode cX10_winter 94 = .ok (.istore 4, 2) := by decide +kernel
theorem dX10_winter_96 : decode cX10_winter 96 = .ok (.iinc 5 1, 3) := by decide +kernel
theorem dX10_winter_99 : decode cX10_winter 99 = .ok (.goto (-50), 3) := by decide +kernel
theorem dX10_winter_102 : decode cX10_winter 102 = .ok (.iload_n 3, 1) := by decide +kernel
theorem dX10_winter_103 : decode cX10_winter 103 = .ok (.ifCond .ne 6, 3) := by decide +kernel
theorem dX10_winter_106 : decode cX10_winter 106 = .ok (.iload 4, 2) := by decide +kernel
theorem dX10_winter_108 : decode cX10_winter 108 = .ok (.ireturn, 1) := by decide +kernel
theorem dX10_winter_109 : decode cX10_winter 109 = .ok (.iload_n 3, 1) := by decide +kernel
theorem dX10_winter_110 : decode cX10_winter 110 = .ok (.iconst 1, 1) := by decide +kernel
theorem dX10_winter_111 : decode cX10_winter 111 = .ok (.if_icmp .ne 13, 3) := by decide +kernel
theorem dX10_winter_114 : decode cX10_winter 114 = .ok (.aload_n 0, 1) := by decide +kernel
theorem dX10_winter_115 : decode cX10_winter 115 = .ok (.getfield 66, 3) := by decide +kernel
theorem dX10_winter_118 : decode cX10_winter 118 = .ok (.getfield 153, 3) := by decide +kernel
theorem dX10_winter_121 : decode cX10_winter 121 = .ok (.goto 10, 3) := by decide +kernel
theorem dX10_winter_124 : decode cX10_winter 124 = .ok (.aload_n 0, 1) := by decide +kernel
theorem dX10_winter_125 : decode cX10_winter 125 = .ok (.getfield 66, 3) := by decide +kernel
theorem dX10_winter_128 : decode cX10_winter 128 = .ok (.getfield 156, 3) := by decide +kernel
theorem dX10_winter_131 : decode cX10_winter 131 = .ok (.invokestatic 145, 3) := by decide +kernel
theorem dX10_winter_134 : decode cX10_winter 134 = .ok (.ireturn, 1) := by decide +kernel
set_option maxRecDepth 20000 in
theorem ggX10_image_X9_copyFrom : GoodIn wsX10_image wsX9_copyFrom := goodIn_r _ [19, 20, 21, 22, 23, 24, 25, 26, 12, 13, 14, 27, 28, 29, 30, 31, 69, 70, 71, 72, 73, 74, 75, 76, 77, 78, 79] (by decide +kernel) (by decide +kernel)
set_option maxRecDepth 20000 in
theorem gX10_image_X9_copyFrom : GoodIn wsX10_image (wsV RX10 119 RX9 yX9_copyFrom wsX9_copyFrom) := goodIn_app (goodIn_of _ (by decide +kernel)) ggX10_image_X9_copyFrom
set_option maxRecDepth 20000 in
theorem ggX10_image_X3_copyFrom : GoodIn wsX10_image wsX3_copyFrom := goodIn_r _ [36, 37, 38, 39, 16, 17, 18, 19, 20, 21, 22, 23, 24, 25, 26, 12, 13, 14, 27, 28, 29, 30, 31, 80, 81, 69, 70, 71, 72, 73, 74, 75, 76, 77, 78, 79] (by decide +kernel) (by decide +kernel)
set_option maxRecDepth 20000 in
theorem gX10_image_X3_copyFrom : GoodIn wsX10_image (wsV RX10 360 RX3 yX3_copyFrom wsX3_copyFrom) := goodIn_app (goodIn_of _ (by decide +kernel)) ggX10_image_X3_copyFrom
set_option maxRecDepth 20000 in
theorem ggX10_image_X8_copyFrom : GoodIn wsX10_image wsX8_copyFrom := goodIn_r _ [44, 45, 46, 47, 48, 12, 13, 14, 49, 82, 83, 84, 85] (by decide +kernel) (by decide +kernel)
set_option maxRecDepth 20000 in
theorem gX10_image_X8_copyFrom : GoodIn wsX10_image (wsV RX10 364 RX8 yX8_copyFrom wsX8_copyFrom) := goodIn_app (goodIn_of _ (by decide +kernel)) ggX10_image_X8_copyFrom
theorem dX10_image_0 : decode cX10_image 0 = .ok (.aload_n 0, 1) := by decide +kernel
theorem dX10_image_1 : decode cX10_image 1 = .ok (.getfield 51, 3) := by decide +kernel
theorem dX10_image_4 : decode cX10_image 4 = .ok (.iconst 1, 1) := by decide +kernel
theorem dX10_image_5 : decode cX10_image 5 = .ok (.putfield 131, 3) := by decide +kernel
theorem dX10_image_8 : decode cX10_image 8 = .ok (.aload_n 0, 1) := by decide +kernel
theorem dX10_image_9 : decode cX10_image 9 = .ok (.getfield 51, 3) := by decide +kernel
theorem dX10_image_12 : decode cX10_image 12 = .ok (.getfield 358, 3) := by decide +kernel
theorem dX10_image_15 : decode cX10_image 15 = .ok (.aload_n 0, 1) := by decide +kernel
theorem dX10_image_16 : decode cX10_image 16 = .ok (.getfield 26, 3) := by decide +kernel
theorem dX10_image_19 : decode cX10_image 19 = .ok (.invokevirtual 119, 3) := by decide +kernel
theorem dX10_image_22 : decode cX10_image 22 = .ok (.aload_n 0, 1) := by decide +kernel
theorem dX10_image_23 : decode cX10_image 23 = .ok (.getfield 51, 3) := by decide +kernel
theorem dX10_image_26 : decode cX10_image 26 = .ok (.getfield 359, 3) := by decide +kernel
theorem dX10_image_29 : decode cX10_image 29 = .ok (.aload_n 0, 1) := by decide +kernel
theorem dX10_image_30 : decode cX10_image 30 = .ok (.getfield 33, 3) := by decide +kernel
theorem dX10_image_33 : decode cX10_image 33 = .ok (.invokevirtual 360, 3) := by decide +kernel
theorem dX10_image_36 : decode cX10_image 36 = .ok (.aload_n 0, 1) := by decide +kernel
theorem dX10_image_37 : decode cX10_image 37 = .ok (.getfield 51, 3) := by decide +kernel
theorem dX10_image_40 : decode cX10_image 40 = .ok (.getfield 363, 3) := by decide +kernel
theorem dX10_image_43 : decode cX10_image 43 = .ok (.aload_n 0, 1) := by decide +kernel
theorem dX10_image_44 : decode cX10_image 44 = .ok (.getfield 40, 3) := by decide +kernel
theorem dX10_image_47 : decode cX10_image 47 = .ok (.invokevirtual 364, 3) := by decide +kernel
theorem dX10_image_50 : decode cX10_image 50 = .ok (.aload_n 0, 1) := by decide +kernel
theorem dX10_image_51 : decode cX10_image 51 = .ok (.getfield 44, 3) := by decide +kernel
theorem dX10_image_54 : decode cX10_image 54 = .ok (.iconst 0, 1) := by decide +kernel
theorem dX10_image_55 : decode cX10_image 55 = .ok (.aload_n 0, 1) := by decide +kernel
theorem dX10_image_56 : decode cX10_image 56 = .ok (.getfield 51, 3) := by decide +kernel
theorem dX10_image_59 : decode cX10_image 59 = .ok (.getfield 367, 3) := by decide +kernel
theorem dX10_image_62 : decode cX10_image 62 = .ok (.iconst 0, 1) := by decide +kernel
theorem dX10_image_63 : decode cX10_image 63 = .ok (.iconst 3, 1) := by decide +kernel
theorem dX10_image_64 : decode cX10_image 64 = .ok (.invokestatic 368, 3) := by decide +kernel
theorem dX10_image_67 : decode cX10_image 67 = .ok (.return_, 1) := by decide +kernel
set_option maxRecDepth 20000 in
theorem ggX10_restore_X9_copyFrom : GoodIn wsX10_restore wsX9_copyFrom := goodIn_r _ [19, 20, 21, 22, 23, 24, 25, 26, 12, 13, 14, 27, 28, 29, 30, 31, 69, 70, 71, 72, 73, 74, 75, 76, 77, 78, 79] (by decide +kernel) (by decide +kernel)
set_option maxRecDepth 20000 in
theorem gX10_restore_X9_copyFrom : GoodIn wsX10_restore (wsV RX10 119 RX9 yX9_copyFrom wsX9_copyFrom) := goodIn_app (goodIn_of _ (by decide +kernel)) ggX10_restore_X9_copyFrom
set_option maxRecDepth 20000 in
theorem ggX10_restore_X3_copyFrom : GoodIn wsX10_restore wsX3_copyFrom := goodIn_r _ [36, 37, 38, 39, 16, 17, 18, 19, 20, 21, 22, 23, 24, 25, 26, 12, 13, 14, 27, 28, 29, 30, 31, 80, 81, 69, 70, 71, 72, 73, 74, 75, 76, 77, 78, 79] (by decide +kernel) (by decide +kernel)
set_option maxRecDepth 20000 in
theorem gX10_restore_X3_copyFrom : GoodIn wsX10_restore (wsV RX10 360 RX3 yX3_copyFrom wsX3_copyFrom) := goodIn_app (goodIn_of _ (by decide +kernel)) ggX10_restore_X3_copyFrom
set_option maxRecDepth 20000 in
theorem ggX10_restore_X8_copyFrom : GoodIn wsX10_restore wsX8_copyFrom := goodIn_r _ [44, 45, 46, 47, 48, 12, 13, 14, 49, 82, 83, 84, 85] (by decide +kernel) (by decide +kernel)
set_option maxRecDepth 20000 in
theorem gX10_restore_X8_copyFrom : GoodIn wsX10_restore (wsV RX10 364 RX8 yX8_copyFrom wsX8_copyFrom) := goodIn_app (goodIn_of _ (by decide +kernel)) ggX10_restore_X8_copyFrom
theorem dX10_restore_0 : decode cX10_restore 0 = .ok (.aload_n 0, 1) := by decide +kernel
theorem dX10_restore_1 : decode cX10_restore 1 = .ok (.getfield 51, 3) := by decide +kernel
theorem dX10_restore_4 : decode cX10_restore 4 = .ok (.getfield 131, 3) := by decide +kernel
theorem dX10_restore_7 : decode cX10_restore 7 = .ok (.ifCond .ne 5, 3) := by decide +kernel
theorem dX10_restore_10 : decode cX10_restore 10 = .ok (.iconst 0, 1) := by decide +kernel
theorem dX10_restore_11 : decode cX10_restore 11 = .ok (.ireturn, 1) := by decide +kernel
theorem dX10_restore_12 : decode cX10_restore 12 = .ok (.aload_n 0, 1) := by decide +kernel
theorem dX10_restore_13 : decode cX10_restore 13 = .ok (.getfield 26, 3) := by decide +kernel
theorem dX10_restore_16 : decode cX10_restore 16 = .ok (.aload_n 0, 1) := by decide +kernel
theorem dX10_restore_17 : decode cX10_restore 17 = .ok (.getfield 51, 3) := by decide +kernel
theorem dX10_restore_20 : decode cX10_restore 20 = .ok (.getfield 358, 3) := by decide +kernel
theorem dX10_restore_23 : decode cX10_restore 23 = .ok (.invokevirtual 119, 3) := by decide +kernel
theorem dX10_restore_26 : decode cX10_restore 26 = .ok (.aload_n 0, 1) := by decide +kernel
theorem dX10_restore_27 : decode cX10_restore 27 = .ok (.getfield 33, 3) := by decide +kernel
theorem dX10_restore_30 : decode cX10_restore 30 = .ok (.aload_n 0, 1) := by decide +kernel
theorem dX10_restore_31 : decode cX10_restore 31 = .ok (.getfield 51, 3) := by decide +kernel
theorem dX10_restore_34 : decode cX10_restore 34 = .ok (.getfield 359, 3) := by decide +kernel
theorem dX10_restore_37 : decode cX10_restore 37 = .ok (.invokevirtual 360, 3) := by decide +kernel
theorem dX10_restore_40 : decode cX10_restore 40 = .ok (.aload_n 0, 1) := by decide +kernel
theorem dX10_restore_41 : decode cX10_restore 41 = .ok (.getfield 40, 3) := by decide +kernel
theorem dX10_restore_44 : decode cX10_restore 44 = .ok (.aload_n 0, 1) := by decide +kernel
theorem dX10_restore_45 : decode cX10_restore 45 = .ok (.getfield 51, 3) := by decide +kernel
theorem dX10_restore_48 : decode cX10_restore 48 = .ok (.getfield 363, 3) := by decide +kernel
theorem dX10_restore_51 : decode cX10_restore 51 = .ok (.invokevirtual 364, 3) := by decide +kernel
theorem dX10_restore_54 : decode cX10_restore 54 = .ok (.aload_n 0, 1) := by decide +kernel
theorem dX10_restore_55 : decode cX10_restore 55 = .ok (.getfield 51, 3) := by decide +kernel
theorem dX10_restore_58 : decode cX10_restore 58 = .ok (.getfield 367, 3) := by decide +kernel
theorem dX10_restore_61 : decode cX10_restore 61 = .ok (.iconst 0, 1) := by decide +kernel
theorem dX10_restore_62 : decode cX10_restore 62 = .ok (.aload_n 0, 1) := by decide +kernel
theorem dX10_restore_63 : decode cX10_restore 63 = .ok (.getfield 44, 3) := by decide +kernel
theorem dX10_restore_66 : decode cX10_restore 66 = .ok (.iconst 0, 1) := by decide +kernel
theorem dX10_restore_67 : decode cX10_restore 67 = .ok (.iconst 3, 1) := by decide +kernel
theorem dX10_restore_68 : decode cX10_restore 68 = .ok (.invokestatic 368, 3) := by decide +kernel
theorem dX10_restore_71 : decode cX10_restore 71 = .ok (.iconst 1, 1) := by decide +kernel
theorem dX10_restore_72 : decode cX10_restore 72 = .ok (.ireturn, 1) := by decide +kernel
theorem dX10_needHouse_0 : decode cX10_needHouse 0 = .ok (.iload_n 1, 1) := by decide +kernel
theorem dX10_needHouse_1 : decode cX10_needHouse 1 = .ok (.ifCond .lt 14, 3) := by decide +kernel
theorem dX10_needHouse_4 : decode cX10_needHouse 4 = .ok (.iload_n 1, 1) := by decide +kernel
theorem dX10_needHouse_5 : decode cX10_needHouse 5 = .ok (.aload_n 0, 1) := by decide +kernel
theorem dX10_needHouse_6 : decode cX10_needHouse 6 = .ok (.getfield 26, 3) := by decide +kernel
theorem dX10_needHouse_9 : decode cX10_needHouse 9 = .ok (.getfield 135, 3) := by decide +kernel
theorem dX10_needHouse_12 : decode cX10_needHouse 12 = .ok (.if_icmp .lt 14, 3) := by decide +kernel
theorem dX10_needHouse_15 : decode cX10_needHouse 15 = .ok (.new 175, 3) := by decide +kernel
theorem dX10_needHouse_18 : decode cX10_needHouse 18 = .ok (.dup, 1) := by decide +kernel
theorem dX10_needHouse_19 : decode cX10_needHouse 19 = .ok (.ldc_w 374, 3) := by decide +kernel
theorem dX10_needHouse_22 : decode cX10_needHouse 22 = .ok (.invokespecial 179, 3) := by decide +kernel
theorem dX10_needHouse_25 : decode cX10_needHouse 25 = .ok (.athrow, 1) := by decide +kernel
theorem dX10_needHouse_26 : decode cX10_needHouse 26 = .ok (.return_, 1) := by decide +kernel
theorem dX10_needLamp_0 : decode cX10_needLamp 0 = .ok (.iload_n 1, 1) := by decide +kernel
theorem dX10_needLamp_1 : decode cX10_needLamp 1 = .ok (.ifCond .lt 14, 3) := by decide +kernel
theorem dX10_needLamp_4 : decode cX10_needLamp 4 = .ok (.iload_n 1, 1) := by decide +kernel
theorem dX10_needLamp_5 : decode cX10_needLamp 5 = .ok (.aload_n 0, 1) := by decide +kernel
theorem dX10_needLamp_6 : decode cX10_needLamp 6 = .ok (.getfield 26, 3) := by decide +kernel
theorem dX10_needLamp_9 : decode cX10_needLamp 9 = .ok (.getfield 138, 3) := by decide +kernel
theorem dX10_needLamp_12 : decode cX10_needLamp 12 = .ok (.if_icmp .lt 14, 3) := by decide +kernel
theorem dX10_needLamp_15 : decode cX10_needLamp 15 = .ok (.new 175, 3) := by decide +kernel
theorem dX10_needLamp_18 : decode cX10_needLamp 18 = .ok (.dup, 1) := by decide +kernel
theorem dX10_needLamp_19 : decode cX10_needLamp 19 = .ok (.ldc_w 376, 3) := by decide +kernel
theorem dX10_needLamp_22 : decode cX10_needLamp 22 = .ok (.invokespecial 179, 3) := by decide +kernel
theorem dX10_needLamp_25 : decode cX10_needLamp 25 = .ok (.athrow, 1) := by decide +kernel
theorem dX10_needLamp_26 : decode cX10_needLamp 26 = .ok (.return_, 1) := by decide +kernel
theorem dX10_needHourOrMany_0 : decode cX10_needHourOrMany 0 = .ok (.iload_n 0, 1) := by decide +kernel
theorem dX10_needHourOrMany_1 : decode cX10_needHourOrMany 1 = .ok (.ifCond .eq 19, 3) := by decide +kernel
theorem dX10_needHourOrMany_4 : decode cX10_needHourOrMany 4 = .ok (.iload_n 0, 1) := by decide +kernel
theorem dX10_needHourOrMany_5 : decode cX10_needHourOrMany 5 = .ok (.iconst 1, 1) := by decide +kernel
theorem dX10_needHourOrMany_6 : decode cX10_needHourOrMany 6 = .ok (.if_icmp .eq 14, 3) := by decide +kernel
theorem dX10_needHourOrMany_9 : decode cX10_needHourOrMany 9 = .ok (.new 175, 3) := by decide +kernel
theorem dX10_needHourOrMany_12 : decode cX10_needHourOrMany 12 = .ok (.dup, 1) := by decide +kernel
theorem dX10_needHourOrMany_13 : decode cX10_needHourOrMany 13 = .ok (.ldc_w 378, 3) := by decide +kernel
theorem dX10_needHourOrMany_16 : decode cX10_needHourOrMany 16 = .ok (.invokespecial 179, 3) := by decide +kernel
theorem dX10_needHourOrMany_19 : decode cX10_needHourOrMany 19 = .ok (.athrow, 1) := by decide +kernel
theorem dX10_needHourOrMany_20 : decode cX10_needHourOrMany 20 = .ok (.return_, 1) := by decide +kernel
theorem dX10_needAhead_0 : decode cX10_needAhead 0 = .ok (.iload_n 0, 1) := by decide +kernel
theorem dX10_needAhead_1 : decode cX10_needAhead 1 = .ok (.ifCond .lt 9, 3) := by decide +kernel
theorem dX10_needAhead_4 : decode cX10_needAhead 4 = .ok (.iload_n 0, 1) := by decide +kernel
theorem dX10_needAhead_5 : decode cX10_needAhead 5 = .ok (.bipush 96, 2) := by decide +kernel
theorem dX10_needAhead_7 : decode cX10_needAhead 7 = .ok (.if_icmp .le 14, 3) := by decide +kernel
theorem dX10_needAhead_10 : decode cX10_needAhead 10 = .ok (.new 102, 3) := by decide +kernel
theorem dX10_needAhead_13 : decode cX10_needAhead 13 = .ok (.dup, 1) := by decide +kernel
theorem dX10_needAhead_14 : decode cX10_needAhead 14 = .ok (.ldc_w 380, 3) := by decide +kernel
theorem dX10_needAhead_17 : decode cX10_needAhead 17 = .ok (.invokespecial 106, 3) := by decide +kernel
theorem dX10_needAhead_20 : decode cX10_needAhead 20 = .ok (.athrow, 1) := by decide +kernel
theorem dX10_needAhead_21 : decode cX10_needAhead 21 = .ok (.return_, 1) := by decide +kernel
theorem dX10_isHourOfDay_0 : decode cX10_isHourOfDay 0 = .ok (.iload_n 0, 1) := by decide +kernel
theorem dX10_isHourOfDay_1 : decode cX10_isHourOfDay 1 = .ok (.ifCond .lt 13, 3) := by decide +kernel
theorem dX10_isHourOfDay_4 : decode cX10_isHourOfDay 4 = .ok (.iload_n 0, 1) := by decide +kernel
theorem dX10_isHourOfDay_5 : decode cX10_isHourOfDay 5 = .ok (.bipush 24, 2) := by decide +kernel
theorem dX10_isHourOfDay_7 : decode cX10_isHourOfDay 7 = .ok (.if_icmp .ge 7, 3) := by decide +kernel
theorem dX10_isHourOfDay_10 : decode cX10_isHourOfDay 10 = .ok (.iconst 1, 1) := by decide +kernel
theorem dX10_isHourOfDay_11 : decode cX10_isHourOfDay 11 = .ok (.goto 4, 3) := by decide +kernel
theorem dX10_isHourOfDay_14 : decode cX10_isHourOfDay 14 = .ok (.iconst 0, 1) := by decide +kernel
theorem dX10_isHourOfDay_15 : decode cX10_isHourOfDay 15 = .ok (.ireturn, 1) := by decide +kernel
theorem dX10_refuse_0 : decode cX10_refuse 0 = .ok (.aload_n 0, 1) := by decide +kernel
theorem dX10_refuse_1 : decode cX10_refuse 1 = .ok (.getfield 44, 3) := by decide +kernel
theorem dX10_refuse_4 : decode cX10_refuse 4 = .ok (.iload_n 1, 1) := by decide +kernel
theorem dX10_refuse_5 : decode cX10_refuse 5 = .ok (.dup2, 1) := by decide +kernel
theorem dX10_refuse_6 : decode cX10_refuse 6 = .ok (.iaload, 1) := by decide +kernel
theorem dX10_refuse_7 : decode cX10_refuse 7 = .ok (.iconst 1, 1) := by decide +kernel
theorem dX10_refuse_8 : decode cX10_refuse 8 = .ok (.iadd, 1) := by decide +kernel
theorem dX10_refuse_9 : decode cX10_refuse 9 = .ok (.iastore, 1) := by decide +kernel
theorem dX10_refuse_10 : decode cX10_refuse 10 = .ok (.iconst (-1), 1) := by decide +kernel
theorem dX10_refuse_11 : decode cX10_refuse 11 = .ok (.ireturn, 1) := by decide +kernel
set_option maxRecDepth 20000 in
theorem ggX10_wantedByAwake_X9_isAwake : GoodIn wsX10_wantedByAwake wsX9_isAwake := goodIn_r _ [9, 10, 11, 70, 71, 72, 73, 74, 75, 76, 77, 78, 79, 80] (by decide +kernel) (by decide +kernel)
set_option maxRecDepth 20000 in
theorem gX10_wantedByAwake_X9_isAwake : GoodIn wsX10_wantedByAwake (wsV RX10 382 RX9 yX9_isAwake wsX9_isAwake) := goodIn_app (goodIn_of _ (by decide +kernel)) ggX10_wantedByAwake_X9_isAwake
set_option maxRecDepth 20000 in
theorem ggX10_wantedByAwake_X7_wantsLit : GoodIn wsX10_wantedByAwake wsX7_wantsLit := goodIn_r _ [16, 17, 18, 19, 20, 21, 22, 23, 15, 24, 25, 26, 6, 7, 8, 9, 10, 11, 27, 28, 29, 30, 31, 32, 33, 34, 35, 36, 37, 38, 39, 40, 41, 42, 43, 44, 45, 46, 47, 48, 49, 50, 51, 52, 53, 54, 55, 70, 71, 72, 73, 74, 75, 76, 77, 78, 79, 80, 81, 82, 83, 84] (by decide +kernel) (by decide +kernel)
set_option maxRecDepth 20000 in
theorem gX10_wantedByAwake_X7_wantsLit : GoodIn wsX10_wantedByAwake (wsV RX10 219 RX7 yX7_wantsLit wsX7_wantsLit) := goodIn_app (goodIn_of _ (by decide +kernel)) ggX10_wantedByAwake_X7_wantsLit
theorem dX10_wantedByAwake_0 : decode cX10_wantedByAwake 0 = .ok (.iconst 0, 1) := by decide +kernel
theorem dX10_wantedByAwake_1 : decode cX10_wantedByAwake 1 = .ok (.istore_n 2, 1) := by decide +kernel
theorem dX10_wantedByAwake_2 : decode cX10_wantedByAwake 2 = .ok (.iconst 0, 1) := by decide +kernel
theorem dX10_wantedByAwake_3 : decode cX10_wantedByAwake 3 = .ok (.istore_n 3, 1) := by decide +kernel
theorem dX10_wantedByAwake_4 : decode cX10_wantedByAwake 4 = .ok (.iload_n 3, 1) := by decide +kernel
theorem dX10_wantedByAwake_5 : decode cX10_wantedByAwake 5 = .ok (.aload_n 0, 1) := by decide +kernel
theorem dX10_wantedByAwake_6 : decode cX10_wantedByAwake 6 = .ok (.getfield 26, 3) := by decide +kernel
theorem dX10_wantedByAwake_9 : decode cX10_wantedByAwake 9 = .ok (.getfield 138, 3) := by decide +kernel
theorem dX10_wantedByAwake_12 : decode cX10_wantedByAwake 12 = .ok (.if_icmp .ge 48, 3) := by decide +kernel
theorem dX10_wantedByAwake_15 : decode cX10_wantedByAwake 15 = .ok (.aload_n 0, 1) := by decide +kernel
theorem dX10_wantedByAwake_16 : decode cX10_wantedByAwake 16 = .ok (.getfield 26, 3) := by decide +kernel
theorem dX10_wantedByAwake_19 : decode cX10_wantedByAwake 19 = .ok (.aload_n 0, 1) := by decide +kernel
theorem dX10_wantedByAwake_20 : decode cX10_wantedByAwake 20 = .ok (.getfield 26, 3) := by decide +kernel
theorem dX10_wantedByAwake_23 : decode cX10_wantedByAwake 23 = .ok (.getfield 203, 3) := by decide +kernel
theorem dX10_wantedByAwake_26 : decode cX10_wantedByAwake 26 = .ok (.iload_n 3, 1) := by decide +kernel
theorem dX10_wantedByAwake_27 : decode cX10_wantedByAwake 27 = .ok (.iaload, 1) := by decide +kernel
theorem dX10_wantedByAwake_28 : decode cX10_wantedByAwake 28 = .ok (.iload_n 1, 1) := by decide +kernel
theorem dX10_wantedByAwake_29 : decode cX10_wantedByAwake 29 = .ok (.invokevirtual 382, 3) := by decide +kernel
theorem dX10_wantedByAwake_32 : decode cX10_wantedByAwake 32 = .ok (.ifCond .eq 22, 3) := by decide +kernel
theorem dX10_wantedByAwake_35 : decode cX10_wantedByAwake 35 = .ok (.aload_n 0, 1) := by decide +kernel
theorem dX10_wantedByAwake_36 : decode cX10_wantedByAwake 36 = .ok (.getfield 19, 3) := by decide +kernel
theorem dX10_wantedByAwake_39 : decode cX10_wantedByAwake 39 = .ok (.aload_n 0, 1) := by decide +kernel
theorem dX10_wantedByAwake_40 : decode cX10_wantedByAwake 40 = .ok (.getfield 26, 3) := by decide +kernel
theorem dX10_wantedByAwake_43 : decode cX10_wantedByAwake 43 = .ok (.iload_n 3, 1) := by decide +kernel
theorem dX10_wantedByAwake_44 : decode cX10_wantedByAwake 44 = .ok (.iload_n 1, 1) := by decide +kernel
theorem dX10_wantedByAwake_45 : decode cX10_wantedByAwake 45 = .ok (.invokevirtual 219, 3) := by decide +kernel
theorem dX10_wantedByAwake_48 : decode cX10_wantedByAwake 48 = .ok (.ifCond .eq 6, 3) := by decide +kernel
theorem dX10_wantedByAwake_51 : decode cX10_wantedByAwake 51 = .ok (.iinc 2 1, 3) := by decide +kernel
theorem dX10_wantedByAwake_54 : decode cX10_wantedByAwake 54 = .ok (.iinc 3 1, 3) := by decide +kernel
theorem dX10_wantedByAwake_57 : decode cX10_wantedByAwake 57 = .ok (.goto (-53), 3) := by decide +kernel
theorem dX10_wantedByAwake_60 : decode cX10_wantedByAwake 60 = .ok (.iload_n 2, 1) := by decide +kernel
theorem dX10_wantedByAwake_61 : decode cX10_wantedByAwake 61 = .ok (.ireturn, 1) := by decide +kernel
set_option maxRecDepth 20000 in
theorem ggX10_complaintsOfADay_X9_copyFrom : GoodIn wsX10_complaintsOfADay wsX9_copyFrom := goodIn_r _ [11, 12, 13, 14, 15, 16, 17, 18, 19, 20, 21, 22, 23, 24, 25, 26, 134, 135, 136, 137, 138, 139, 140, 141, 142, 143, 144] (by decide +kernel) (by decide +kernel)
set_option maxRecDepth 20000 in
theorem gX10_complaintsOfADay_X9_copyFrom : GoodIn wsX10_complaintsOfADay (wsV RX10 119 RX9 yX9_copyFrom wsX9_copyFrom) := goodIn_app (goodIn_of _ (by decide +kernel)) ggX10_complaintsOfADay_X9_copyFrom
set_option maxRecDepth 20000 in
theorem ggX10_complaintsOfADay_X2_passHour : GoodIn wsX10_complaintsOfADay wsX2_passHour := goodIn_r _ [31, 32, 33, 34, 35, 36, 37, 38, 39, 40, 41, 10, 42, 13, 24, 14, 43, 44, 45, 46, 22, 23, 47, 48, 49, 50, 51, 52, 53, 54, 55, 56, 57, 58, 59, 60, 61, 62, 63, 64, 65, 66, 67, 68, 69, 70, 71, 72, 73, 74, 75, 76, 77, 78, 79, 80, 81, 82, 83, 84, 85, 86, 87, 88, 89, 90, 91, 30, 92, 93, 94, 95, 96, 97, 15, 98, 99, 100, 101, 26, 25, 16, 102, 103, 104, 105, 106, 107, 108, 109, 110, 111, 112, 113, 114, 115, 116, 117, 118, 145, 146, 147, 148, 149, 134, 135, 136, 137, 138, 139, 140, 141, 142, 143, 144, 150, 151, 152, 153] (by decide +kernel) (by decide +kernel)
set_option maxRecDepth 20000 in
theorem gX10_complaintsOfADay_X2_passHour : GoodIn wsX10_complaintsOfADay (wsV RX10 235 RX2 yX2_passHour wsX2_passHour) := goodIn_app (goodIn_of _ (by decide +kernel)) ggX10_complaintsOfADay_X2_passHour
set_option maxRecDepth 20000 in
theorem ggX10_complaintsOfADay_J6_bitCount_0f7a4 : GoodIn wsX10_complaintsOfADay wsJ6_bitCount_0f7a4 := goodIn_r _ [72, 73, 74, 75] (by decide +kernel) (by decide +kernel)
set_option maxRecDepth 20000 in
theorem gX10_complaintsOfADay_J6_bitCount_0f7a4 : GoodIn wsX10_complaintsOfADay (va_wsS RX10 145 yJ6_bitCount_0f7a4 wsJ6_bitCount_0f7a4) := goodIn_app (goodIn_of _ (by decide +kernel)) ggX10_complaintsOfADay_J6_bitCount_0f7a4
theorem dX10_complaintsOfADay_0 : decode cX10_complaintsOfADay 0 = .ok (.aload_n 0, 1) := by decide +kernel
theorem dX10_complaintsOfADay_1 : decode cX10_complaintsOfADay 1 = .ok (.getfield 66, 3) := by decide +kernel
theorem dX10_complaintsOfADay_4 : decode cX10_complaintsOfADay 4 = .ok (.aload_n 0, 1) := by decide +kernel
theorem dX10_complaintsOfADay_5 : decode cX10_complaintsOfADay 5 = .ok (.getfield 26, 3) := by decide +kernel
theorem dX10_complaintsOfADay_8 : decode cX10_complaintsOfADay 8 = .ok (.invokevirtual 119, 3) := by decide +kernel
theorem dX10_complaintsOfADay_11 : decode cX10_complaintsOfADay 11 = .ok (.aload_n 0, 1) := by decide +kernel
theorem dX10_complaintsOfADay_12 : decode cX10_complaintsOfADay 12 = .ok (.getfield 66, 3) := by decide +kernel
theorem dX10_complaintsOfADay_15 : decode cX10_complaintsOfADay 15 = .ok (.getfield 189, 3) := by decide +kernel
theorem dX10_complaintsOfADay_18 : decode cX10_complaintsOfADay 18 = .ok (.iload_n 1, 1) := by decide +kernel
theorem dX10_complaintsOfADay_19 : decode cX10_complaintsOfADay 19 = .ok (.iload_n 2, 1) := by decide +kernel
theorem dX10_complaintsOfADay_20 : decode cX10_complaintsOfADay 20 = .ok (.iastore, 1) := by decide +kernel
theorem dX10_complaintsOfADay_21 : decode cX10_complaintsOfADay 21 = .ok (.iconst 0, 1) := by decide +kernel
theorem dX10_complaintsOfADay_22 : decode cX10_complaintsOfADay 22 = .ok (.istore_n 3, 1) := by decide +kernel
theorem dX10_complaintsOfADay_23 : decode cX10_complaintsOfADay 23 = .ok (.iconst 0, 1) := by decide +kernel
theorem dX10_complaintsOfADay_24 : decode cX10_complaintsOfADay 24 = .ok (.istore 4, 2) := by decide +kernel
theorem dX10_complaintsOfADay_26 : decode cX10_complaintsOfADay 26 = .ok (.iload 4, 2) := by decide +kernel
theorem dX10_complaintsOfADay_28 : decode cX10_complaintsOfADay 28 = .ok (.bipush 24, 2) := by decide +kernel
theorem dX10_complaintsOfADay_30 : decode cX10_complaintsOfADay 30 = .ok (.if_icmp .ge 37, 3) := by decide +kernel
theorem dX10_complaintsOfADay_33 : decode cX10_complaintsOfADay 33 = .ok (.aload_n 0, 1) := by decide +kernel
theorem dX10_complaintsOfADay_34 : decode cX10_complaintsOfADay 34 = .ok (.getfield 62, 3) := by decide +kernel
theorem dX10_complaintsOfADay_37 : decode cX10_complaintsOfADay 37 = .ok (.aload_n 0, 1) := by decide +kernel
theorem dX10_complaintsOfADay_38 : decode cX10_complaintsOfADay 38 = .ok (.getfield 19, 3) := by decide +kernel
theorem dX10_complaintsOfADay_41 : decode cX10_complaintsOfADay 41 = .ok (.aload_n 0, 1) := by decide +kernel
theorem dX10_complaintsOfADay_42 : decode cX10_complaintsOfADay 42 = .ok (.getfield 66, 3) := by decide +kernel
theorem dX10_complaintsOfADay_45 : decode cX10_complaintsOfADay 45 = .ok (.invokevirtual 235, 3) := by decide +kernel
theorem dX10_complaintsOfADay_48 : decode cX10_complaintsOfADay 48 = .ok (.iload_n 3, 1) := by decide +kernel
theorem dX10_complaintsOfADay_49 : decode cX10_complaintsOfADay 49 = .ok (.aload_n 0, 1) := by decide +kernel
theorem dX10_complaintsOfADay_50 : decode cX10_complaintsOfADay 50 = .ok (.getfield 62, 3) := by decide +kernel
theorem dX10_complaintsOfADay_53 : decode cX10_complaintsOfADay 53 = .ok (.getfield 271, 3) := by decide +kernel
theorem dX10_complaintsOfADay_56 : decode cX10_complaintsOfADay 56 = .ok (.invokestatic 145, 3) := by decide +kernel
theorem dX10_complaintsOfADay_59 : decode cX10_complaintsOfADay 59 = .ok (.iadd, 1) := by decide +kernel
theorem dX10_complaintsOfADay_60 : decode cX10_complaintsOfADay 60 = .ok (.istore_n 3, 1) := by decide +kernel
theorem dX10_complaintsOfADay_61 : decode cX10_complaintsOfADay 61 = .ok (.iinc 4 1, 3) := by decide +kernel
theorem dX10_complaintsOfADay_64 : decode cX10_complaintsOfADay 64 = .ok (.goto (-38), 3) := by decide +kernel
theorem dX10_complaintsOfADay_67 : decode cX10_complaintsOfADay 67 = .ok (.iload_n 3, 1) := by decide +kernel
theorem dX10_complaintsOfADay_68 : decode cX10_complaintsOfADay 68 = .ok (.ireturn, 1) := by decide +kernel
set_option maxRecDepth 20000 in
theorem ggX10_isAllSeenSo_X8_lastHour : GoodIn wsX10_isAllSeenSo wsX8_lastHour := goodIn_r _ [10, 11, 12, 13, 14, 15, 16, 144, 145, 146, 147] (by decide +kernel) (by decide +kernel)
set_option maxRecDepth 20000 in
theorem gX10_isAllSeenSo_X8_lastHour : GoodIn wsX10_isAllSeenSo (wsV RX10 386 RX8 yX8_lastHour wsX8_lastHour) := goodIn_app (goodIn_of _ (by decide +kernel)) ggX10_isAllSeenSo_X8_lastHour
set_option maxRecDepth 20000 in
theorem ggX10_isAllSeenSo_X2_passHour : GoodIn wsX10_isAllSeenSo wsX2_passHour := goodIn_r _ [21, 22, 23, 24, 25, 26, 27, 28, 29, 30, 31, 32, 33, 34, 35, 36, 37, 38, 39, 40, 41, 42, 43, 44, 45, 46, 47, 48, 49, 50, 51, 52, 53, 54, 55, 56, 57, 58, 59, 60, 61, 62, 63, 64, 65, 66, 67, 68, 69, 70, 71, 72, 73, 74, 75, 76, 77, 78, 79, 80, 81, 82, 83, 84, 85, 86, 87, 20, 88, 89, 90, 91, 92, 93, 94, 95, 96, 97, 98, 99, 100, 101, 102, 103, 104, 105, 106, 107, 108, 109, 110, 111, 112, 113, 114, 115, 116, 117, 118, 139, 140, 141, 142, 143, 148, 149, 150, 151, 152, 153, 154, 155, 156, 157, 158, 159, 160, 161, 162] (by decide +kernel) (by decide +kernel)
set_option maxRecDepth 20000 in
theorem gX10_isAllSeenSo_X2_passHour : GoodIn wsX10_isAllSeenSo (wsV RX10 235 RX2 yX2_passHour wsX2_passHour) := goodIn_app (goodIn_of _ (by decide +kernel)) ggX10_isAllSeenSo_X2_passHour
set_option maxRecDepth 20000 in
theorem ggX10_isAllSeenSo_X8_agree : GoodIn wsX10_isAllSeenSo wsX8_agree := goodIn_r _ [122, 11, 12, 123, 124, 144, 145, 146, 147] (by decide +kernel) (by decide +kernel)
set_option maxRecDepth 20000 in
theorem gX10_isAllSeenSo_X8_agree : GoodIn wsX10_isAllSeenSo (wsV RX10 389 RX8 yX8_agree wsX8_agree) := goodIn_app (goodIn_of _ (by decide +kernel)) ggX10_isAllSeenSo_X8_agree
theorem dX10_isAllSeenSo_0 : decode cX10_isAllSeenSo 0 = .ok (.aload_n 0, 1) := by decide +kernel
theorem dX10_isAllSeenSo_1 : decode cX10_isAllSeenSo 1 = .ok (.getfield 40, 3) := by decide +kernel
theorem dX10_isAllSeenSo_4 : decode cX10_isAllSeenSo 4 = .ok (.invokevirtual 386, 3) := by decide +kernel
theorem dX10_isAllSeenSo_7 : decode cX10_isAllSeenSo 7 = .ok (.istore_n 1, 1) := by decide +kernel
theorem dX10_isAllSeenSo_8 : decode cX10_isAllSeenSo 8 = .ok (.iconst 1, 1) := by decide +kernel
theorem dX10_isAllSeenSo_9 : decode cX10_isAllSeenSo 9 = .ok (.istore_n 2, 1) := by decide +kernel
theorem dX10_isAllSeenSo_10 : decode cX10_isAllSeenSo 10 = .ok (.iload_n 2, 1) := by decide +kernel
theorem dX10_isAllSeenSo_11 : decode cX10_isAllSeenSo 11 = .ok (.iload_n 1, 1) := by decide +kernel
theorem dX10_isAllSeenSo_12 : decode cX10_isAllSeenSo 12 = .ok (.if_icmp .gt 44, 3) := by decide +kernel
theorem dX10_isAllSeenSo_15 : decode cX10_isAllSeenSo 15 = .ok (.aload_n 0, 1) := by decide +kernel
theorem dX10_isAllSeenSo_16 : decode cX10_isAllSeenSo 16 = .ok (.getfield 62, 3) := by decide +kernel
theorem dX10_isAllSeenSo_19 : decode cX10_isAllSeenSo 19 = .ok (.aload_n 0, 1) := by decide +kernel
theorem dX10_isAllSeenSo_20 : decode cX10_isAllSeenSo 20 = .ok (.getfield 19, 3) := by decide +kernel
theorem dX10_isAllSeenSo_23 : decode cX10_isAllSeenSo 23 = .ok (.aload_n 0, 1) := by decide +kernel
theorem dX10_isAllSeenSo_24 : decode cX10_isAllSeenSo 24 = .ok (.getfield 66, 3) := by decide +kernel
theorem dX10_isAllSeenSo_27 : decode cX10_isAllSeenSo 27 = .ok (.invokevirtual 235, 3) := by decide +kernel
theorem dX10_isAllSeenSo_30 : decode cX10_isAllSeenSo 30 = .ok (.aload_n 0, 1) := by decide +kernel
theorem dX10_isAllSeenSo_31 : decode cX10_isAllSeenSo 31 = .ok (.getfield 40, 3) := by decide +kernel
theorem dX10_isAllSeenSo_34 : decode cX10_isAllSeenSo 34 = .ok (.iload_n 2, 1) := by decide +kernel
theorem dX10_isAllSeenSo_35 : decode cX10_isAllSeenSo 35 = .ok (.aload_n 0, 1) := by decide +kernel
theorem dX10_isAllSeenSo_36 : decode cX10_isAllSeenSo 36 = .ok (.getfield 62, 3) := by decide +kernel
theorem dX10_isAllSeenSo_39 : decode cX10_isAllSeenSo 39 = .ok (.getfield 259, 3) := by decide +kernel
theorem dX10_isAllSeenSo_42 : decode cX10_isAllSeenSo 42 = .ok (.invokevirtual 389, 3) := by decide +kernel
theorem dX10_isAllSeenSo_45 : decode cX10_isAllSeenSo 45 = .ok (.ifCond .ne 5, 3) := by decide +kernel
theorem dX10_isAllSeenSo_48 : decode cX10_isAllSeenSo 48 = .ok (.iconst 0, 1) := by decide +kernel
theorem dX10_isAllSeenSo_49 : decode cX10_isAllSeenSo 49 = .ok (.ireturn, 1) := by decide +kernel
theorem dX10_isAllSeenSo_50 : decode cX10_isAllSeenSo 50 = .ok (.iinc 2 1, 3) := by decide +kernel
theorem dX10_isAllSeenSo_53 : decode cX10_isAllSeenSo 53 = .ok (.goto (-43), 3) := by decide +kernel
theorem dX10_isAllSeenSo_56 : decode cX10_isAllSeenSo 56 = .ok (.iconst 1, 1) := by decide +kernel
theorem dX10_isAllSeenSo_57 : decode cX10_isAllSeenSo 57 = .ok (.ireturn, 1) := by decide +kernel
set_option maxRecDepth 20000 in
theorem ggX10_changesThatFit_X9_canChangeTwins : GoodIn wsX10_changesThatFit wsX9_canChangeTwins := goodIn_r _ [8, 9, 164, 165, 166, 167, 168, 169, 170, 171, 172, 173, 174] (by decide +kernel) (by decide +kernel)
set_option maxRecDepth 20000 in
theorem gX10_changesThatFit_X9_canChangeTwins : GoodIn wsX10_changesThatFit (wsV RX10 392 RX9 yX9_canChangeTwins wsX9_canChangeTwins) := goodIn_app (goodIn_of _ (by decide +kernel)) ggX10_changesThatFit_X9_canChangeTwins
set_option maxRecDepth 20000 in
theorem ggX10_changesThatFit_X9_copyFrom : GoodIn wsX10_changesThatFit wsX9_copyFrom := goodIn_r _ [13, 14, 15, 16, 17, 18, 19, 20, 21, 22, 23, 24, 25, 26, 27, 9, 164, 165, 166, 167, 168, 169, 170, 171, 172, 173, 174] (by decide +kernel) (by decide +kernel)
set_option maxRecDepth 20000 in
theorem gX10_changesThatFit_X9_copyFrom : GoodIn wsX10_changesThatFit (wsV RX10 119 RX9 yX9_copyFrom wsX9_copyFrom) := goodIn_app (goodIn_of _ (by decide +kernel)) ggX10_changesThatFit_X9_copyFrom
set_option maxRecDepth 20000 in
theorem ggX10_changesThatFit_X9_changeTwins : GoodIn wsX10_changesThatFit wsX9_changeTwins := goodIn_r _ [31, 9, 15, 164, 165, 166, 167, 168, 169, 170, 171, 172, 173, 174] (by decide +kernel) (by decide +kernel)
set_option maxRecDepth 20000 in
theorem gX10_changesThatFit_X9_changeTwins : GoodIn wsX10_changesThatFit (wsV RX10 395 RX9 yX9_changeTwins wsX9_changeTwins) := goodIn_app (goodIn_of _ (by decide +kernel)) ggX10_changesThatFit_X9_changeTwins
set_option maxRecDepth 20000 in
theorem ggX10_changesThatFit_X10_isAllSeenSo : GoodIn wsX10_changesThatFit wsX10_isAllSeenSo := goodIn_r _ [36, 37, 38, 39, 3, 40, 41, 42, 43, 44, 45, 46, 47, 48, 49, 50, 51, 52, 53, 54, 55, 56, 57, 58, 59, 60, 61, 62, 63, 64, 65, 66, 7, 67, 15, 26, 16, 68, 69, 70, 71, 24, 25, 72, 73, 74, 75, 76, 77, 78, 79, 80, 81, 82, 83, 84, 85, 86, 87, 88, 89, 90, 91, 92, 93, 94, 95, 96, 97, 98, 99, 100, 101, 102, 103, 104, 105, 106, 107, 108, 109, 110, 111, 112, 113, 114, 115, 116, 117, 118, 119, 120, 121, 122, 17, 123, 124, 125, 126, 9, 27, 18, 127, 128, 129, 130, 131, 132, 133, 134, 135, 136, 137, 138, 139, 140, 141, 142, 143, 144, 145, 146, 147, 148, 149, 150, 151, 152, 153, 154, 155, 156, 157, 158, 159, 160, 161, 162, 163, 175, 176, 177, 178, 179, 180, 181, 182, 183, 164, 165, 166, 167, 168, 169, 170, 171, 172, 173, 174, 184, 185, 186, 187] (by decide +kernel) (by decide +kernel)
set_option maxRecDepth 20000 in
theorem gX10_changesThatFit_X10_isAllSeenSo : GoodIn wsX10_changesThatFit (wsV RX10 318 RX10 yX10_isAllSeenSo wsX10_isAllSeenSo) := goodIn_app (goodIn_of _ (by decide +kernel)) ggX10_changesThatFit_X10_isAllSeenSo
theorem dX10_changesThatFit_0 : decode cX10_changesThatFit 0 = .ok (.iconst 0, 1) := by decide +kernel
theorem dX10_changesThatFit_1 : decode cX10_changesThatFit 1 = .ok (.istore_n 2, 1) := by decide +kernel
theorem dX10_changesThatFit_2 : decode cX10_changesThatFit 2 = .ok (.iconst 0, 1) := by decide +kernel
theorem dX10_changesThatFit_3 : decode cX10_changesThatFit 3 = .ok (.istore_n 3, 1) := by decide +kernel
theorem dX10_changesThatFit_4 : decode cX10_changesThatFit 4 = .ok (.iload_n 3, 1) := by decide +kernel
theorem dX10_changesThatFit_5 : decode cX10_changesThatFit 5 = .ok (.aload_n 0, 1) := by decide +kernel
theorem dX10_changesThatFit_6 : decode cX10_changesThatFit 6 = .ok (.getfield 26, 3) := by decide +kernel
theorem dX10_changesThatFit_9 : decode cX10_changesThatFit 9 = .ok (.getfield 138, 3) := by decide +kernel
theorem dX10_changesThatFit_12 : decode cX10_changesThatFit 12 = .ok (.if_icmp .ge 54, 3) := by decide +kernel
theorem dX10_changesThatFit_15 : decode cX10_changesThatFit 15 = .ok (.aload_n 0, 1) := by decide +kernel
theorem dX10_changesThatFit_16 : decode cX10_changesThatFit 16 = .ok (.getfield 26, 3) := by decide +kernel
theorem dX10_changesThatFit_19 : decode cX10_changesThatFit 19 = .ok (.iload_n 1, 1) := by decide +kernel
theorem dX10_changesThatFit_20 : decode cX10_changesThatFit 20 = .ok (.iload_n 3, 1) := by decide +kernel
theorem dX10_changesThatFit_21 : decode cX10_changesThatFit 21 = .ok (.invokevirtual 392, 3) := by decide +kernel
theorem dX10_changesThatFit_24 : decode cX10_changesThatFit 24 = .ok (.ifCond .eq 36, 3) := by decide +kernel
theorem dX10_changesThatFit_27 : decode cX10_changesThatFit 27 = .ok (.aload_n 0, 1) := by decide +kernel
theorem dX10_changesThatFit_28 : decode cX10_changesThatFit 28 = .ok (.getfield 66, 3) := by decide +kernel
theorem dX10_changesThatFit_31 : decode cX10_changesThatFit 31 = .ok (.aload_n 0, 1) := by decide +kernel
theorem dX10_changesThatFit_32 : decode cX10_changesThatFit 32 = .ok (.getfield 26, 3) := by decide +kernel
theorem dX10_changesThatFit_35 : decode cX10_changesThatFit 35 = .ok (.invokevirtual 119, 3) := by decide +kernel
theorem dX10_changesThatFit_38 : decode cX10_changesThatFit 38 = .ok (.aload_n 0, 1) := by decide +kernel
theorem dX10_changesThatFit_39 : decode cX10_changesThatFit 39 = .ok (.getfield 66, 3) := by decide +kernel
theorem dX10_changesThatFit_42 : decode cX10_changesThatFit 42 = .ok (.iload_n 1, 1) := by decide +kernel
theorem dX10_changesThatFit_43 : decode cX10_changesThatFit 43 = .ok (.iload_n 3, 1) := by decide +kernel
theorem dX10_changesThatFit_44 : decode cX10_changesThatFit 44 = .ok (.invokevirtual 395, 3) := by decide +kernel
theorem dX10_changesThatFit_47 : decode cX10_changesThatFit 47 = .ok (.aload_n 0, 1) := by decide +kernel
theorem dX10_changesThatFit_48 : decode cX10_changesThatFit 48 = .ok (.invokevirtual 318, 3) := by decide +kernel
theorem dX10_changesThatFit_51 : decode cX10_changesThatFit 51 = .ok (.ifCond .eq 9, 3) := by decide +kernel
theorem dX10_changesThatFit_54 : decode cX10_changesThatFit 54 = .ok (.iload_n 2, 1) := by decide +kernel
theorem dX10_changesThatFit_55 : decode cX10_changesThatFit 55 = .ok (.iconst 1, 1) := by decide +kernel
theorem dX10_changesThatFit_56 : decode cX10_changesThatFit 56 = .ok (.iload_n 3, 1) := by decide +kernel
theorem dX10_changesThatFit_57 : decode cX10_changesThatFit 57 = .ok (.ishl, 1) := by decide +kernel
theorem dX10_changesThatFit_58 : decode cX10_changesThatFit 58 = .ok (.ior, 1) := by decide +kernel
theorem dX10_changesThatFit_59 : decode cX10_changesThatFit 59 = .ok (.istore_n 2, 1) := by decide +kernel
theorem dX10_changesThatFit_60 : decode cX10_changesThatFit 60 = .ok (.iinc 3 1, 3) := by decide +kernel
theorem dX10_changesThatFit_63 : decode cX10_changesThatFit 63 = .ok (.goto (-59), 3) := by decide +kernel
theorem dX10_changesThatFit_66 : decode cX10_changesThatFit 66 = .ok (.iload_n 2, 1) := by decide +kernel
theorem dX10_changesThatFit_67 : decode cX10_changesThatFit 67 = .ok (.ireturn, 1) := by decide +kernel
set_option maxRecDepth 20000 in
theorem ggX10_foreseeChanges_X9_copyFrom : GoodIn wsX10_foreseeChanges wsX9_copyFrom := goodIn_r _ [12, 13, 14, 15, 16, 17, 18, 19, 20, 21, 22, 23, 24, 25, 26, 27, 138, 139, 140, 141, 142, 143, 144, 145, 146, 147, 148] (by decide +kernel) (by decide +kernel)
set_option maxRecDepth 20000 in
theorem gX10_foreseeChanges_X9_copyFrom : GoodIn wsX10_foreseeChanges (wsV RX10 119 RX9 yX9_copyFrom wsX9_copyFrom) := goodIn_app (goodIn_of _ (by decide +kernel)) ggX10_foreseeChanges_X9_copyFrom
set_option maxRecDepth 20000 in
theorem ggX10_foreseeChanges_X9_changeTwins : GoodIn wsX10_foreseeChanges wsX9_changeTwins := goodIn_r _ [31, 27, 14, 138, 139, 140, 141, 142, 143, 144, 145, 146, 147, 148] (by decide +kernel) (by decide +kernel)
set_option maxRecDepth 20000 in
theorem gX10_foreseeChanges_X9_changeTwins : GoodIn wsX10_foreseeChanges (wsV RX10 395 RX9 yX9_changeTwins wsX9_changeTwins) := goodIn_app (goodIn_of _ (by decide +kernel)) ggX10_foreseeChanges_X9_changeTwins
set_option maxRecDepth 20000 in
theorem ggX10_foreseeChanges_X2_passHour : GoodIn wsX10_foreseeChanges wsX2_passHour := goodIn_r _ [36, 37, 38, 39, 40, 41, 42, 43, 44, 45, 46, 11, 47, 14, 25, 15, 48, 49, 50, 51, 23, 24, 52, 53, 54, 55, 56, 57, 58, 59, 60, 61, 62, 63, 64, 65, 66, 67, 68, 69, 70, 71, 72, 73, 74, 75, 76, 77, 78, 79, 80, 81, 82, 83, 84, 85, 86, 87, 88, 89, 90, 91, 92, 93, 94, 95, 96, 35, 97, 98, 99, 100, 101, 102, 16, 103, 104, 105, 106, 27, 26, 17, 107, 108, 109, 110, 111, 112, 113, 114, 115, 116, 117, 118, 119, 120, 121, 122, 123, 149, 150, 151, 152, 153, 138, 139, 140, 141, 142, 143, 144, 145, 146, 147, 148, 154, 155, 156, 157] (by decide +kernel) (by decide +kernel)
set_option maxRecDepth 20000 in
theorem gX10_foreseeChanges_X2_passHour : GoodIn wsX10_foreseeChanges (wsV RX10 235 RX2 yX2_passHour wsX2_passHour) := goodIn_app (goodIn_of _ (by decide +kernel)) ggX10_foreseeChanges_X2_passHour
theorem dX10_foreseeChanges_0 : decode cX10_foreseeChanges 0 = .ok (.iconst 0, 1) := by decide +kernel
theorem dX10_foreseeChanges_1 : decode cX10_foreseeChanges 1 = .ok (.istore_n 3, 1) := by decide +kernel
theorem dX10_foreseeChanges_2 : decode cX10_foreseeChanges 2 = .ok (.iconst 0, 1) := by decide +kernel
theorem dX10_foreseeChanges_3 : decode cX10_foreseeChanges 3 = .ok (.istore 4, 2) := by decide +kernel
theorem dX10_foreseeChanges_5 : decode cX10_foreseeChanges 5 = .ok (.iload 4, 2) := by decide +kernel
theorem dX10_foreseeChanges_7 : decode cX10_foreseeChanges 7 = .ok (.aload_n 0, 1) := by decide +kernel
theorem dX10_foreseeChanges_8 : decode cX10_foreseeChanges 8 = .ok (.getfield 26, 3) := by decide +kernel
theorem dX10_foreseeChanges_11 : decode cX10_foreseeChanges 11 = .ok (.getfield 138, 3) := by decide +kernel
theorem dX10_foreseeChanges_14 : decode cX10_foreseeChanges 14 = .ok (.if_icmp .ge 90, 3) := by decide +kernel
theorem dX10_foreseeChanges_17 : decode cX10_foreseeChanges 17 = .ok (.iload_n 2, 1) := by decide +kernel
theorem dX10_foreseeChanges_18 : decode cX10_foreseeChanges 18 = .ok (.iload 4, 2) := by decide +kernel
theorem dX10_foreseeChanges_20 : decode cX10_foreseeChanges 20 = .ok (.ishr, 1) := by decide +kernel
theorem dX10_foreseeChanges_21 : decode cX10_foreseeChanges 21 = .ok (.iconst 1, 1) := by decide +kernel
theorem dX10_foreseeChanges_22 : decode cX10_foreseeChanges 22 = .ok (.iand, 1) := by decide +kernel
theorem dX10_foreseeChanges_23 : decode cX10_foreseeChanges 23 = .ok (.iconst 1, 1) := by decide +kernel
theorem dX10_foreseeChanges_24 : decode cX10_foreseeChanges 24 = .ok (.if_icmp .ne 74, 3) := by decide +kernel
theorem dX10_foreseeChanges_27 : decode cX10_foreseeChanges 27 = .ok (.aload_n 0, 1) := by decide +kernel
theorem dX10_foreseeChanges_28 : decode cX10_foreseeChanges 28 = .ok (.getfield 66, 3) := by decide +kernel
theorem dX10_foreseeChanges_31 : decode cX10_foreseeChanges 31 = .ok (.aload_n 0, 1) := by decide +kernel
theorem dX10_foreseeChanges_32 : decode cX10_foreseeChanges 32 = .ok (.getfield 26, 3) := by decide +kernel
theorem dX10_foreseeChanges_35 : decode cX10_foreseeChanges 35 = .ok (.invokevirtual 119, 3) := by decide +kernel
theorem dX10_foreseeChanges_38 : decode cX10_foreseeChanges 38 = .ok (.aload_n 0, 1) := by decide +kernel
theorem dX10_foreseeChanges_39 : decode cX10_foreseeChanges 39 = .ok (.getfield 66, 3) := by decide +kernel
theorem dX10_foreseeChanges_42 : decode cX10_foreseeChanges 42 = .ok (.iload_n 1, 1) := by decide +kernel
theorem dX10_foreseeChanges_43 : decode cX10_foreseeChanges 43 = .ok (.iload 4, 2) := by decide +kernel
theorem dX10_foreseeChanges_45 : decode cX10_foreseeChanges 45 = .ok (.invokevirtual 395, 3) := by decide +kernel
theorem dX10_foreseeChanges_48 : decode cX10_foreseeChanges 48 = .ok (.iconst 0, 1) := by decide +kernel
theorem dX10_foreseeChanges_49 : decode cX10_foreseeChanges 49 = .ok (.istore 5, 2) := by decide +kernel
theorem dX10_foreseeChanges_51 : decode cX10_foreseeChanges 51 = .ok (.iload 5, 2) := by decide +kernel
theorem dX10_foreseeChanges_53 : decode cX10_foreseeChanges 53 = .ok (.bipush 48, 2) := by decide +kernel
theorem dX10_foreseeChanges_55 : decode cX10_foreseeChanges 55 = .ok (.if_icmp .ge 40, 3) := by decide +kernel
theorem dX10_foreseeChanges_58 : decode cX10_foreseeChanges 58 = .ok (.aload_n 0, 1) := by decide +kernel
theorem dX10_foreseeChanges_59 : decode cX10_foreseeChanges 59 = .ok (.getfield 62, 3) := by decide +kernel
theorem dX10_foreseeChanges_62 : decode cX10_foreseeChanges 62 = .ok (.aload_n 0, 1) := by decide +kernel
theorem dX10_foreseeChanges_63 : decode cX10_foreseeChanges 63 = .ok (.getfield 19, 3) := by decide +kernel
theorem dX10_foreseeChanges_66 : decode cX10_foreseeChanges 66 = .ok (.aload_n 0, 1) := by decide +kernel
theorem dX10_foreseeChanges_67 : decode cX10_foreseeChanges 67 = .ok (.getfield 66, 3) := by decide +kernel
theorem dX10_foreseeChanges_70 : decode cX10_foreseeChanges 70 = .ok (.invokevirtual 235, 3) := by decide +kernel
theorem dX10_foreseeChanges_73 : decode cX10_foreseeChanges 73 = .ok (.aload_n 0, 1) := by decide +kernel
theorem dX10_foreseeChanges_74 : decode cX10_foreseeChanges 74 = .ok (.getfield 92, 3) := by decide +kernel
theorem dX10_foreseeChanges_77 : decode cX10_foreseeChanges 77 = .ok (.iload_n 3, 1) := by decide +kernel
theorem dX10_foreseeChanges_78 : decode cX10_foreseeChanges 78 = .ok (.aaload, 1) := by decide +kernel
theorem dX10_foreseeChanges_79 : decode cX10_foreseeChanges 79 = .ok (.iload 5, 2) := by decide +kernel
theorem dX10_foreseeChanges_81 : decode cX10_foreseeChanges 81 = .ok (.aload_n 0, 1) := by decide +kernel
theorem dX10_foreseeChanges_82 : decode cX10_foreseeChanges 82 = .ok (.getfield 62, 3) := by decide +kernel
theorem dX10_foreseeChanges_85 : decode cX10_foreseeChanges 85 = .ok (.getfield 259, 3) := by decide +kernel
theorem dX10_foreseeChanges_88 : decode cX10_foreseeChanges 88 = .ok (.iastore, 1) := by decide +kernel
theorem dX10_foreseeChanges_89 : decode cX10_foreseeChanges 89 = .ok (.iinc 5 1, 3) := by decide +kernel
theorem dX10_foreseeChanges_92 : decode cX10_foreseeChanges 92 = .ok (.goto (-41), 3) := by decide +kernel
theorem dX10_foreseeChanges_95 : decode cX10_foreseeChanges 95 = .ok (.iinc 3 1, 3) := by decide +kernel
theorem dX10_foreseeChanges_98 : decode cX10_foreseeChanges 98 = .ok (.iinc 4 1, 3) := by decide +kernel
theorem dX10_foreseeChanges_101 : decode cX10_foreseeChanges 101 = .ok (.goto (-96), 3) := by decide +kernel
theorem dX10_foreseeChanges_104 : decode cX10_foreseeChanges 104 = .ok (.iload_n 3, 1) := by decide +kernel
theorem dX10_foreseeChanges_105 : decode cX10_foreseeChanges 105 = .ok (.ireturn, 1) := by decide +kernel
theorem dX10_unlikeSets_0 : decode cX10_unlikeSets 0 = .ok (.iconst 0, 1) := by decide +kernel
theorem dX10_unlikeSets_1 : decode cX10_unlikeSets 1 = .ok (.istore_n 3, 1) := by decide +kernel
theorem dX10_unlikeSets_2 : decode cX10_unlikeSets 2 = .ok (.iconst 0, 1) := by decide +kernel
theorem dX10_unlikeSets_3 : decode cX10_unlikeSets 3 = .ok (.istore 4, 2) := by decide +kernel
theorem dX10_unlikeSets_5 : decode cX10_unlikeSets 5 = .ok (.iload 4, 2) := by decide +kernel
theorem dX10_unlikeSets_7 : decode cX10_unlikeSets 7 = .ok (.iload_n 1, 1) := by decide +kernel
theorem dX10_unlikeSets_8 : decode cX10_unlikeSets 8 = .ok (.if_icmp .ge 60, 3) := by decide +kernel
theorem dX10_unlikeSets_11 : decode cX10_unlikeSets 11 = .ok (.iconst 0, 1) := by decide +kernel
theorem dX10_unlikeSets_12 : decode cX10_unlikeSets 12 = .ok (.istore 5, 2) := by decide +kernel
theorem dX10_unlikeSets_14 : decode cX10_unlikeSets 14 = .ok (.iconst 0, 1) := by decide +kernel
theorem dX10_unlikeSets_15 : decode cX10_unlikeSets 15 = .ok (.istore 6, 2) := by decide +kernel
theorem dX10_unlikeSets_17 : decode cX10_unlikeSets 17 = .ok (.iload 6, 2) := by decide +kernel
theorem dX10_unlikeSets_19 : decode cX10_unlikeSets 19 = .ok (.iload 4, 2) := by decide +kernel
theorem dX10_unlikeSets_21 : decode cX10_unlikeSets 21 = .ok (.if_icmp .ge 33, 3) := by decide +kernel
theorem dX10_unlikeSets_24 : decode cX10_unlikeSets 24 = .ok (.aload_n 0, 1) := by decide +kernel
theorem dX10_unlikeSets_25 : decode cX10_unlikeSets 25 = .ok (.getfield 92, 3) := by decide +kernel
theorem dX10_unlikeSets_28 : decode cX10_unlikeSets 28 = .ok (.iload 6, 2) := by decide +kernel
theorem dX10_unlikeSets_30 : decode cX10_unlikeSets 30 = .ok (.aaload, 1) := by decide +kernel
theorem dX10_unlikeSets_31 : decode cX10_unlikeSets 31 = .ok (.iload_n 2, 1) := by decide +kernel
theorem dX10_unlikeSets_32 : decode cX10_unlikeSets 32 = .ok (.iaload, 1) := by decide +kernel
theorem dX10_unlikeSets_33 : decode cX10_unlikeSets 33 = .ok (.aload_n 0, 1) := by decide +kernel
theorem dX10_unlikeSets_34 : decode cX10_unlikeSets 34 = .ok (.getfield 92, 3) := by decide +kernel
theorem dX10_unlikeSets_37 : decode cX10_unlikeSets 37 = .ok (.iload 4, 2) := by decide +kernel
theorem dX10_unlikeSets_39 : decode cX10_unlikeSets 39 = .ok (.aaload, 1) := by decide +kernel
theorem dX10_unlikeSets_40 : decode cX10_unlikeSets 40 = .ok (.iload_n 2, 1) := by decide +kernel
theorem dX10_unlikeSets_41 : decode cX10_unlikeSets 41 = .ok (.iaload, 1) := by decide +kernel
theorem dX10_unlikeSets_42 : decode cX10_unlikeSets 42 = .ok (.if_icmp .ne 6, 3) := by decide +kernel
theorem dX10_unlikeSets_45 : decode cX10_unlikeSets 45 = .ok (.iinc 5 1, 3) := by decide +kernel
theorem dX10_unlikeSets_48 : decode cX10_unlikeSets 48 = .ok (.iinc 6 1, 3) := by decide +kernel
theorem dX10_unlikeSets_51 : decode cX10_unlikeSets 51 = .ok (.goto (-34), 3) := by decide +kernel
theorem dX10_unlikeSets_54 : decode cX10_unlikeSets 54 = .ok (.iload 5, 2) := by decide +kernel
theorem dX10_unlikeSets_56 : decode cX10_unlikeSets 56 = .ok (.ifCond .ne 6, 3) := by decide +kernel
theorem dX10_unlikeSets_59 : decode cX10_unlikeSets 59 = .ok (.iinc 3 1, 3) := by decide +kernel
theorem dX10_unlikeSets_62 : decode cX10_unlikeSets 62 = .ok (.iinc 4 1, 3) := by decide +kernel
theorem dX10_unlikeSets_65 : decode cX10_unlikeSets 65 = .ok (.goto (-60), 3) := by decide +kernel
theorem dX10_unlikeSets_68 : decode cX10_unlikeSets 68 = .ok (.iload_n 3, 1) := by decide +kernel
theorem dX10_unlikeSets_69 : decode cX10_unlikeSets 69 = .ok (.ireturn, 1) := by decide +kernel
theorem dX11_init_0 : decode cX11_init 0 = .ok (.aload_n 0, 1) := by decide +kernel
theorem dX11_init_1 : decode cX11_init 1 = .ok (.invokespecial 3, 3) := by decide +kernel
theorem dX11_init_4 : decode cX11_init 4 = .ok (.aload_n 0, 1) := by decide +kernel
theorem dX11_init_5 : decode cX11_init 5 = .ok (.iconst 4, 1) := by decide +kernel
theorem dX11_init_6 : decode cX11_init 6 = .ok (.anewarray 9, 3) := by decide +kernel
theorem dX11_init_9 : decode cX11_init 9 = .ok (.dup, 1) := by decide +kernel
theorem dX11_init_10 : decode cX11_init 10 = .ok (.iconst 0, 1) := by decide +kernel
theorem dX11_init_11 : decode cX11_init 11 = .ok (.ldc 11, 2) := by decide +kernel
theorem dX11_init_13 : decode cX11_init 13 = .ok (.aastore, 1) := by decide +kernel
theorem dX11_init_14 : decode cX11_init 14 = .ok (.dup, 1) := by decide +kernel
theorem dX11_init_15 : decode cX11_init 15 = .ok (.iconst 1, 1) := by decide +kernel
theorem dX11_init_16 : decode cX11_init 16 = .ok (.ldc 13, 2) := by decide +kernel
theorem dX11_init_18 : decode cX11_init 18 = .ok (.aastore, 1) := by decide +kernel
theorem dX11_init_19 : decode cX11_init 19 = .ok (.dup, 1) := by decide +kernel
theorem dX11_init_20 : decode cX11_init 20 = .ok (.iconst 2, 1) := by decide +kernel
theorem dX11_init_21 : decode cX11_init 21 = .ok (.ldc 15, 2) := by decide +kernel
theorem dX11_init_23 : decode cX11_init 23 = .ok (.aastore, 1) := by decide +kernel
theorem dX11_init_24 : decode cX11_init 24 = .ok (.dup, 1) := by decide +kernel
theorem dX11_init_25 : decode cX11_init 25 = .ok (.iconst 3, 1) := by decide +kernel
theorem dX11_init_26 : decode cX11_init 26 = .ok (.ldc 17, 2) := by decide +kernel
theorem dX11_init_28 : decode cX11_init 28 = .ok (.aastore, 1) := by decide +kernel
theorem dX11_init_29 : decode cX11_init 29 = .ok (.putfield 19, 3) := by decide +kernel
theorem dX11_init_32 : decode cX11_init 32 = .ok (.aload_n 0, 1) := by decide +kernel
theorem dX11_init_33 : decode cX11_init 33 = .ok (.bipush 6, 2) := by decide +kernel
theorem dX11_init_35 : decode cX11_init 35 = .ok (.anewarray 9, 3) := by decide +kernel
theorem dX11_init_38 : decode cX11_init 38 = .ok (.dup, 1) := by decide +kernel
theorem dX11_init_39 : decode cX11_init 39 = .ok (.iconst 0, 1) := by decide +kernel
theorem dX11_init_40 : decode cX11_init 40 = .ok (.ldc 23, 2) := by decide +kernel
theorem dX11_init_42 : decode cX11_init 42 = .ok (.aastore, 1) := by decide +kernel
theorem dX11_init_43 : decode cX11_init 43 = .ok (.dup, 1) := by decide +kernel
theorem dX11_init_44 : decode cX11_init 44 = .ok (.iconst 1, 1) := by decide +kernel
theorem dX11_init_45 : decode cX11_init 45 = .ok (.ldc 25, 2) := by decide +kernel
theorem dX11_init_47 : decode cX11_init 47 = .ok (.aastore, 1) := by decide +kernel
theorem dX11_init_48 : decode cX11_init 48 = .ok (.dup, 1) := by decide +kernel
theorem dX11_init_49 : decode cX11_init 49 = .ok (.iconst 2, 1) := by decide +kernel
theorem dX11_init_50 : decode cX11_init 50 = .ok (.ldc 27, 2) := by decide +kernel
theorem dX11_init_52 : decode cX11_init 52 = .ok (.aastore, 1) := by decide +kernel
theorem dX11_init_53 : decode cX11_init 53 = .ok (.dup, 1) := by decide +kernel
theorem dX11_init_54 : decode cX11_init 54 = .ok (.iconst 3, 1) := by decide +kernel
theorem dX11_init_55 : decode cX11_init 55 = .ok (.ldc 29, 2) := by decide +kernel
theorem dX11_init_57 : decode cX11_init 57 = .ok (.aastore, 1) := by decide +kernel
theorem dX11_init_58 : decode cX11_init 58 = .ok (.dup, 1) := by decide +kernel
theorem dX11_init_59 : decode cX11_init 59 = .ok (.iconst 4, 1) := by decide +kernel
theorem dX11_init_60 : decode cX11_init 60 = .ok (.ldc 31, 2) := by decide +kernel
theorem dX11_init_62 : decode cX11_init 62 = .ok (.aastore, 1) := by decide +kernel
theorem dX11_init_63 : decode cX11_init 63 = .ok (.dup, 1) := by decide +kernel
theorem dX11_init_64 : decode cX11_init 64 = .ok (.iconst 5, 1) := by decide +kernel
theorem dX11_init_65 : decode cX11_init 65 = .ok (.ldc 33, 2) := by decide +kernel
theorem dX11_init_67 : decode cX11_init 67 = .ok (.aastore, 1) := by decide +kernel
theorem dX11_init_68 : decode cX11_init 68 = .ok (.putfield 35, 3) := by decide +kernel
theorem dX11_init_71 : decode cX11_init 71 = .ok (.aload_n 0, 1) := by decide +kernel
theorem dX11_init_72 : decode cX11_init 72 = .ok (.bipush 8, 2) := by decide +kernel
theorem dX11_init_74 : decode cX11_init 74 = .ok (.newarray .int, 2) := by decide +kernel
theorem dX11_init_76 : decode cX11_init 76 = .ok (.putfield 38, 3) := by decide +kernel
theorem dX11_init_79 : decode cX11_init 79 = .ok (.aload_n 0, 1) := by decide +kernel
theorem dX11_init_80 : decode cX11_init 80 = .ok (.bipush 16, 2) := by decide +kernel
theorem dX11_init_82 : decode cX11_init 82 = .ok (.newarray .int, 2) := by decide +kernel
theorem dX11_init_84 : decode cX11_init 84 = .ok (.putfield 42, 3) := by decide +kernel
theorem dX11_init_87 : decode cX11_init 87 = .ok (.aload_n 0, 1) := by decide +kernel
theorem dX11_init_88 : decode cX11_init 88 = .ok (.bipush 16, 2) := by decide +kernel
theorem dX11_init_90 : decode cX11_init 90 = .ok (.newarray .int, 2) := by decide +kernel
theorem dX11_init_92 : decode cX11_init 92 = .ok (.putfield 44, 3) := by decide +kernel
theorem dX11_init_95 : decode cX11_init 95 = .ok (.aload_n 0, 1) := by decide +kernel
theorem dX11_init_96 : decode cX11_init 96 = .ok (.bipush 16, 2) := by decide +kernel
theorem dX11_init_98 : decode cX11_init 98 = .ok (.newarray .int, 2) := by decide +kernel
theorem dX11_init_100 : decode cX11_init 100 = .ok (.putfield 47, 3) := by decide +kernel
theorem dX11_init_103 : decode cX11_init 103 = .ok (.aload_n 0, 1) := by decide +kernel
theorem dX11_init_104 : decode cX11_init 104 = .ok (.bipush 24, 2) := by decide +kernel
theorem dX11_init_106 : decode cX11_init 106 = .ok (.newarray .int, 2) := by decide +kernel
theorem dX11_init_108 : decode cX11_init 108 = .ok (.putfield 50, 3) := by decide +kernel
theorem dX11_init_111 : decode cX11_init 111 = .ok (.aload_n 0, 1) := by decide +kernel
theorem dX11_init_112 : decode cX11_init 112 = .ok (.bipush 24, 2) := by decide +kernel
theorem dX11_init_114 : decode cX11_init 114 = .ok (.newarray .int, 2) := by decide +kernel
theorem dX11_init_116 : decode cX11_init 116 = .ok (.putfield 53, 3) := by decide +kernel
theorem dX11_init_119 : decode cX11_init 119 = .ok (.aload_n 0, 1) := by decide +kernel
theorem dX11_init_120 : decode cX11_init 120 = .ok (.bipush 24, 2) := by decide +kernel
theorem dX11_init_122 : decode cX11_init 122 = .ok (.newarray .int, 2) := by decide +kernel
theorem dX11_init_124 : decode cX11_init 124 = .ok (.putfield 56, 3) := by decide +kernel
theorem dX11_init_127 : decode cX11_init 127 = .ok (.aload_n 0, 1) := by decide +kernel
theorem dX11_init_128 : decode cX11_init 128 = .ok (.sipush 1200, 3) := by decide +kernel
theorem dX11_init_131 : decode cX11_init 131 = .ok (.newarray .int, 2) := by decide +kernel
theorem dX11_init_133 : decode cX11_init 133 = .ok (.putfield 59, 3) := by decide +kernel
theorem dX11_init_136 : decode cX11_init 136 = .ok (.aload_n 0, 1) := by decide +kernel
theorem dX11_init_137 : decode cX11_init 137 = .ok (.iconst 3, 1) := by decide +kernel
theorem dX11_init_138 : decode cX11_init 138 = .ok (.newarray .int, 2) := by decide +kernel
theorem dX11_init_140 : decode cX11_init 140 = .ok (.putfield 62, 3) := by decide +kernel
theorem dX11_init_143 : decode cX11_init 143 = .ok (.aload_n 0, 1) := by decide +kernel
theorem dX11_init_144 : decode cX11_init 144 = .ok (.sipush 600, 3) := by decide +kernel
theorem dX11_init_147 : decode cX11_init 147 = .ok (.newarray .int, 2) := by decide +kernel
theorem dX11_init_149 : decode cX11_init 149 = .ok (.putfield 65, 3) := by decide +kernel
theorem dX11_init_152 : decode cX11_init 152 = .ok (.aload_n 0, 1) := by decide +kernel
theorem dX11_init_153 : decode cX11_init 153 = .ok (.iconst (-1), 1) := by decide +kernel
theorem dX11_init_154 : decode cX11_init 154 = .ok (.putfield 68, 3) := by decide +kernel
theorem dX11_init_157 : decode cX11_init 157 = .ok (.aload_n 0, 1) := by decide +kernel
theorem dX11_init_158 : decode cX11_init 158 = .ok (.bipush 12, 2) := by decide +kernel
theorem dX11_init_160 : decode cX11_init 160 = .ok (.newarray .int, 2) := by decide +kernel
theorem dX11_init_162 : decode cX11_init 162 = .ok (.putfield 72, 3) := by decide +kernel
theorem dX11_init_165 : decode cX11_init 165 = .ok (.aload_n 0, 1) := by decide +kernel
theorem dX11_init_166 : decode cX11_init 166 = .ok (.bipush 12, 2) := by decide +kernel
theorem dX11_init_168 : decode cX11_init 168 = .ok (.newarray .int, 2) := by decide +kernel
theorem dX11_init_170 : decode cX11_init 170 = .ok (.putfield 74, 3) := by decide +kernel
theorem dX11_init_173 : decode cX11_init 173 = .ok (.aload_n 0, 1) := by decide +kernel
theorem dX11_init_174 : decode cX11_init 174 = .ok (.bipush 8, 2) := by decide +kernel
theorem dX11_init_176 : decode cX11_init 176 = .ok (.newarray .int, 2) := by decide +kernel
theorem dX11_init_178 : decode cX11_init 178 = .ok (.putfield 76, 3) := by decide +kernel
theorem dX11_init_181 : decode cX11_init 181 = .ok (.aload_n 0, 1) := by decide +kernel
theorem dX11_init_182 : decode cX11_init 182 = .ok (.bipush 8, 2) := by decide +kernel
theorem dX11_init_184 : decode cX11_init 184 = .ok (.newarray .int, 2) := by decide +kernel
theorem dX11_init_186 : decode cX11_init 186 = .ok (.putfield 79, 3) := by decide +kernel
theorem dX11_init_189 : decode cX11_init 189 = .ok (.aload_n 0, 1) := by decide +kernel
theorem dX11_init_190 : decode cX11_init 190 = .ok (.sipush 1720, 3) := by decide +kernel
theorem dX11_init_193 : decode cX11_init 193 = .ok (.newarray .int, 2) := by decide +kernel
theorem dX11_init_195 : decode cX11_init 195 = .ok (.putfield 82, 3) := by decide +kernel
theorem dX11_init_198 : decode cX11_init 198 = .ok (.aload_n 0, 1) := by decide +kernel
theorem dX11_init_199 : decode cX11_init 199 = .ok (.bipush 6, 2) := by decide +kernel
theorem dX11_init_201 : decode cX11_init 201 = .ok (.newarray .int, 2) := by decide +kernel
theorem dX11_init_203 : decode cX11_init 203 = .ok (.putfield 85, 3) := by decide +kernel
theorem dX11_init_206 : decode cX11_init 206 = .ok (.aload_n 0, 1) := by decide +kernel
theorem dX11_init_207 : decode cX11_init 207 = .ok (.bipush 64, 2) := by decide +kernel
theorem dX11_init_209 : decode cX11_init 209 = .ok (.newarray .int, 2) := by decide +kernel
theorem dX11_init_211 : decode cX11_init 211 = .ok (.putfield 88, 3) := by decide +kernel
theorem dX11_init_214 : decode cX11_init 214 = .ok (.aload_n 0, 1) := by decide +kernel
theorem dX11_init_215 : decode cX11_init 215 = .ok (.bipush 8, 2) := by decide +kernel
theorem dX11_init_217 : decode cX11_init 217 = .ok (.newarray .int, 2) := by decide +kernel
theorem dX11_init_219 : decode cX11_init 219 = .ok (.putfield 91, 3) := by decide +kernel
theorem dX11_init_222 : decode cX11_init 222 = .ok (.aload_n 0, 1) := by decide +kernel
theorem dX11_init_223 : decode cX11_init 223 = .ok (.bipush 8, 2) := by decide +kernel
theorem dX11_init_225 : decode cX11_init 225 = .ok (.newarray .int, 2) := by decide +kernel
theorem dX11_init_227 : decode cX11_init 227 = .ok (.putfield 94, 3) := by decide +kernel
theorem dX11_init_230 : decode cX11_init 230 = .ok (.aload_n 0, 1) := by decide +kernel
theorem dX11_init_231 : decode cX11_init 231 = .ok (.bipush 43, 2) := by decide +kernel
theorem dX11_init_233 : decode cX11_init 233 = .ok (.newarray .int, 2) := by decide +kernel
theorem dX11_init_235 : decode cX11_init 235 = .ok (.putfield 97, 3) := by decide +kernel
theorem dX11_init_238 : decode cX11_init 238 = .ok (.aload_n 0, 1) := by decide +kernel
theorem dX11_init_239 : decode cX11_init 239 = .ok (.sipush 144, 3) := by decide +kernel
theorem dX11_init_242 : decode cX11_init 242 = .ok (.newarray .int, 2) := by decide +kernel
theorem dX11_init_244 : decode cX11_init 244 = .ok (.putfield 100, 3) := by decide +kernel
theorem dX11_init_247 : decode cX11_init 247 = .ok (.aload_n 0, 1) := by decide +kernel
theorem dX11_init_248 : decode cX11_init 248 = .ok (.sipush 4096, 3) := by decide +kernel
theorem dX11_init_251 : decode cX11_init 251 = .ok (.newarray .int, 2) := by decide +kernel
theorem dX11_init_253 : decode cX11_init 253 = .ok (.putfield 103, 3) := by decide +kernel
theorem dX11_init_256 : decode cX11_init 256 = .ok (.aload_n 0, 1) := by decide +kernel
theorem dX11_init_257 : decode cX11_init 257 = .ok (.bipush 12, 2) := by decide +kernel
theorem dX11_init_259 : decode cX11_init 259 = .ok (.newarray .int, 2) := by decide +kernel
theorem dX11_init_261 : decode cX11_init 261 = .ok (.putfield 106, 3) := by decide +kernel
theorem dX11_init_264 : decode cX11_init 264 = .ok (.aload_n 0, 1) := by decide +kernel
theorem dX11_init_265 : decode cX11_init 265 = .ok (.bipush 8, 2) := by decide +kernel
theorem dX11_init_267 : decode cX11_init 267 = .ok (.newarray .int, 2) := by decide +kernel
theorem dX11_init_269 : decode cX11_init 269 = .ok (.putfield 109, 3) := by decide +kernel
theorem dX11_init_272 : decode cX11_init 272 = .ok (.aload_n 0, 1) := by decide +kernel
theorem dX11_init_273 : decode cX11_init 273 = .ok (.bipush 8, 2) := by decide +kernel
theorem dX11_init_275 : decode cX11_init 275 = .ok (.newarray .int, 2) := by decide +kernel
theorem dX11_init_277 : decode cX11_init 277 = .ok (.putfield 112, 3) := by decide +kernel
theorem dX11_init_280 : decode cX11_init 280 = .ok (.aload_n 0, 1) := by decide +kernel
theorem dX11_init_281 : decode cX11_init 281 = .ok (.bipush 8, 2) := by decide +kernel
theorem dX11_init_283 : decode cX11_init 283 = .ok (.newarray .int, 2) := by decide +kernel
theorem dX11_init_285 : decode cX11_init 285 = .ok (.putfield 115, 3) := by decide +kernel
theorem dX11_init_288 : decode cX11_init 288 = .ok (.aload_n 0, 1) := by decide +kernel
theorem dX11_init_289 : decode cX11_init 289 = .ok (.bipush 43, 2) := by decide +kernel
theorem dX11_init_291 : decode cX11_init 291 = .ok (.newarray .int, 2) := by decide +kernel
theorem dX11_init_293 : decode cX11_init 293 = .ok (.putfield 118, 3) := by decide +kernel
theorem dX11_init_296 : decode cX11_init 296 = .ok (.aload_n 0, 1) := by decide +kernel
theorem dX11_init_297 : decode cX11_init 297 = .ok (.sipush 576, 3) := by decide +kernel
theorem dX11_init_300 : decode cX11_init 300 = .ok (.newarray .int, 2) := by decide +kernel
theorem dX11_init_302 : decode cX11_init 302 = .ok (.putfield 121, 3) := by decide +kernel
theorem dX11_init_305 : decode cX11_init 305 = .ok (.aload_n 0, 1) := by decide +kernel
theorem dX11_init_306 : decode cX11_init 306 = .ok (.bipush 43, 2) := by decide +kernel
theorem dX11_init_308 : decode cX11_init 308 = .ok (.newarray .int, 2) := by decide +kernel
theorem dX11_init_310 : decode cX11_init 310 = .ok (.putfield 124, 3) := by decide +kernel
theorem dX11_init_313 : decode cX11_init 313 = .ok (.aload_n 0, 1) := by decide +kernel
theorem dX11_init_314 : decode cX11_init 314 = .ok (.sipush 1720, 3) := by decide +kernel
theorem dX11_init_317 : decode cX11_init 317 = .ok (.newarray .int, 2) := by decide +kernel
theorem dX11_init_319 : decode cX11_init 319 = .ok (.putfield 127, 3) := by decide +kernel
theorem dX11_init_322 : decode cX11_init 322 = .ok (.aload_n 0, 1) := by decide +kernel
theorem dX11_init_323 : decode cX11_init 323 = .ok (.bipush 8, 2) := by decide +kernel
theorem dX11_init_325 : decode cX11_init 325 = .ok (.newarray .int, 2) := by decide +kernel
theorem dX11_init_327 : decode cX11_init 327 = .ok (.putfield 130, 3) := by decide +kernel
theorem dX11_init_330 : decode cX11_init 330 = .ok (.aload_n 0, 1) := by decide +kernel
theorem dX11_init_331 : decode cX11_init 331 = .ok (.bipush 8, 2) := by decide +kernel
theorem dX11_init_333 : decode cX11_init 333 = .ok (.newarray .int, 2) := by decide +kernel
theorem dX11_init_335 : decode cX11_init 335 = .ok (.putfield 133, 3) := by decide +kernel
theorem dX11_init_338 : decode cX11_init 338 = .ok (.aload_n 0, 1) := by decide +kernel
theorem dX11_init_339 : decode cX11_init 339 = .ok (.bipush 8, 2) := by decide +kernel
theorem dX11_init_341 : decode cX11_init 341 = .ok (.newarray .int, 2) := by decide +kernel
theorem dX11_init_343 : decode cX11_init 343 = .ok (.putfield 136, 3) := by decide +kernel
theorem dX11_init_346 : decode cX11_init 346 = .ok (.aload_n 0, 1) := by decide +kernel
theorem dX11_init_347 : decode cX11_init 347 = .ok (.iconst 3, 1) := by decide +kernel
theorem dX11_init_348 : decode cX11_init 348 = .ok (.newarray .int, 2) := by decide +kernel
theorem dX11_init_350 : decode cX11_init 350 = .ok (.putfield 139, 3) := by decide +kernel
theorem dX11_init_353 : decode cX11_init 353 = .ok (.return_, 1) := by decide +kernel
theorem dX11_thrown_0 : decode cX11_thrown 0 = .ok (.aload_n 0, 1) := by decide +kernel
theorem dX11_thrown_1 : decode cX11_thrown 1 = .ok (.getfield 142, 3) := by decide +kernel
theorem dX11_thrown_4 : decode cX11_thrown 4 = .ok (.ireturn, 1) := by decide +kernel
theorem dX11_fail_0 : decode cX11_fail 0 = .ok (.aload_n 0, 1) := by decide +kernel
theorem dX11_fail_1 : decode cX11_fail 1 = .ok (.iload_n 1, 1) := by decide +kernel
theorem dX11_fail_2 : decode cX11_fail 2 = .ok (.putfield 142, 3) := by decide +kernel
theorem dX11_fail_5 : decode cX11_fail 5 = .ok (.iconst 0, 1) := by decide +kernel
theorem dX11_fail_6 : decode cX11_fail 6 = .ok (.ireturn, 1) := by decide +kernel
theorem dX11_failing_0 : decode cX11_failing 0 = .ok (.aload_n 0, 1) := by decide +kernel
theorem dX11_failing_1 : decode cX11_failing 1 = .ok (.iload_n 1, 1) := by decide +kernel
theorem dX11_failing_2 : decode cX11_failing 2 = .ok (.putfield 142, 3) := by decide +kernel
theorem dX11_failing_5 : decode cX11_failing 5 = .ok (.iconst 0, 1) := by decide +kernel
theorem dX11_failing_6 : decode cX11_failing 6 = .ok (.ireturn, 1) := by decide +kernel
theorem dX11_isIn_0 : decode cX11_isIn 0 = .ok (.lload_n 0, 1) := by decide +kernel
theorem dX11_isIn_1 : decode cX11_isIn 1 = .ok (.lload_n 2, 1) := by decide +kernel
theorem dX11_isIn_2 : decode cX11_isIn 2 = .ok (.lcmp, 1) := by decide +kernel
theorem dX11_isIn_3 : decode cX11_isIn 3 = .ok (.ifCond .lt 14, 3) := by decide +kernel
theorem dX11_isIn_6 : decode cX11_isIn 6 = .ok (.lload_n 0, 1) := by decide +kernel
theorem dX11_isIn_7 : decode cX11_isIn 7 = .ok (.lload 4, 2) := by decide +kernel
theorem dX11_isIn_9 : decode cX11_isIn 9 = .ok (.lcmp, 1) := by decide +kernel
theorem dX11_isIn_10 : decode cX11_isIn 10 = .ok (.ifCond .gt 7, 3) := by decide +kernel
theorem dX11_isIn_13 : decode cX11_isIn 13 = .ok (.iconst 1, 1) := by decide +kernel
theorem dX11_isIn_14 : decode cX11_isIn 14 = .ok (.goto 4, 3) := by decide +kernel
theorem dX11_isIn_17 : decode cX11_isIn 17 = .ok (.iconst 0, 1) := by decide +kernel
theorem dX11_isIn_18 : decode cX11_isIn 18 = .ok (.ireturn, 1) := by decide +kernel
theorem dX11_isOf_0 : decode cX11_isOf 0 = .ok (.iload_n 0, 1) := by decide +kernel
theorem dX11_isOf_1 : decode cX11_isOf 1 = .ok (.iload_n 1, 1) := by decide +kernel
theorem dX11_isOf_2 : decode cX11_isOf 2 = .ok (.ishr, 1) := by decide +kernel
theorem dX11_isOf_3 : decode cX11_isOf 3 = .ok (.iconst 1, 1) := by decide +kernel
theorem dX11_isOf_4 : decode cX11_isOf 4 = .ok (.iand, 1) := by decide +kernel
theorem dX11_isOf_5 : decode cX11_isOf 5 = .ok (.iconst 1, 1) := by decide +kernel
theorem dX11_isOf_6 : decode cX11_isOf 6 = .ok (.if_icmp .ne 7, 3) := by decide +kernel
theorem dX11_isOf_9 : decode cX11_isOf 9 = .ok (.iconst 1, 1) := by decide +kernel
theorem dX11_isOf_10 : decode cX11_isOf 10 = .ok (.goto 4, 3) := by decide +kernel
theorem dX11_isOf_13 : decode cX11_isOf 13 = .ok (.iconst 0, 1) := by decide +kernel
theorem dX11_isOf_14 : decode cX11_isOf 14 = .ok (.ireturn, 1) := by decide +kernel
theorem dX11_bitsOf_0 : decode cX11_bitsOf 0 = .ok (.iconst 0, 1) := by decide +kernel
theorem dX11_bitsOf_1 : decode cX11_bitsOf 1 = .ok (.istore_n 1, 1) := by decide +kernel
theorem dX11_bitsOf_2 : decode cX11_bitsOf 2 = .ok (.iload_n 0, 1) := by decide +kernel
theorem dX11_bitsOf_3 : decode cX11_bitsOf 3 = .ok (.istore_n 2, 1) := by decide +kernel
theorem dX11_bitsOf_4 : decode cX11_bitsOf 4 = .ok (.iload_n 2, 1) := by decide +kernel
theorem dX11_bitsOf_5 : decode cX11_bitsOf 5 = .ok (.ifCond .eq 15, 3) := by decide +kernel
theorem dX11_bitsOf_8 : decode cX11_bitsOf 8 = .ok (.iinc 1 1, 3) := by decide +kernel
theorem dX11_bitsOf_11 : decode cX11_bitsOf 11 = .ok (.iload_n 2, 1) := by decide +kernel
theorem dX11_bitsOf_12 : decode cX11_bitsOf 12 = .ok (.iload_n 2, 1) := by decide +kernel
theorem dX11_bitsOf_13 : decode cX11_bitsOf 13 = .ok (.iconst 1, 1) := by decide +kernel
theorem dX11_bitsOf_14 : decode cX11_bitsOf 14 = .ok (.isub, 1) := by decide +kernel
theorem dX11_bitsOf_15 : decode cX11_bitsOf 15 = .ok (.iand, 1) := by decide +kernel
theorem dX11_bitsOf_16 : decode cX11_bitsOf 16 = .ok (.istore_n 2, 1) := by decide +kernel
theorem dX11_bitsOf_17 : decode cX11_bitsOf 17 = .ok (.goto (-13), 3) := by decide +kernel
theorem dX11_bitsOf_20 : decode cX11_bitsOf 20 = .ok (.iload_n 1, 1) := by decide +kernel
theorem dX11_bitsOf_21 : decode cX11_bitsOf 21 = .ok (.ireturn, 1) := by decide +kernel
set_option maxRecDepth 20000 in
theorem ggX11_isHouse_X11_isIn : GoodIn wsX11_isHouse wsX11_isIn := goodIn_r _ [5] (by decide +kernel) (by decide +kernel)
set_option maxRecDepth 20000 in
theorem gX11_isHouse_X11_isIn : GoodIn wsX11_isHouse (va_wsS RX11 145 yX11_isIn wsX11_isIn) := goodIn_app (goodIn_of _ (by decide +kernel)) ggX11_isHouse_X11_isIn
theorem dX11_isHouse_0 : decode cX11_isHouse 0 = .ok (.iload_n 1, 1) := by decide +kernel
theorem dX11_isHouse_1 : decode cX11_isHouse 1 = .ok (.i2l, 1) := by decide +kernel
theorem dX11_isHouse_2 : decode cX11_isHouse 2 = .ok (.lconst 0, 1) := by decide +kernel
theorem dX11_isHouse_3 : decode cX11_isHouse 3 = .ok (.aload_n 0, 1) := by decide +kernel
theorem dX11_isHouse_4 : decode cX11_isHouse 4 = .ok (.getfield 38, 3) := by decide +kernel
theorem dX11_isHouse_7 : decode cX11_isHouse 7 = .ok (.iconst 0, 1) := by decide +kernel
theorem dX11_isHouse_8 : decode cX11_isHouse 8 = .ok (.iaload, 1) := by decide +kernel
theorem dX11_isHouse_9 : decode cX11_isHouse 9 = .ok (.iconst 1, 1) := by decide +kernel
theorem dX11_isHouse_10 : decode cX11_isHouse 10 = .ok (.isub, 1) := by decide +kernel
theorem dX11_isHouse_11 : decode cX11_isHouse 11 = .ok (.i2l, 1) := by decide +kernel
theorem dX11_isHouse_12 : decode cX11_isHouse 12 = .ok (.invokestatic 145, 3) := by decide +kernel
theorem dX11_isHouse_15 : decode cX11_isHouse 15 = .ok (.ireturn, 1) := by decide +kernel
set_option maxRecDepth 20000 in
theorem ggX11_isLamp_X11_isIn : GoodIn wsX11_isLamp wsX11_isIn := goodIn_r _ [5] (by decide +kernel) (by decide +kernel)
set_option maxRecDepth 20000 in
theorem gX11_isLamp_X11_isIn : GoodIn wsX11_isLamp (va_wsS RX11 145 yX11_isIn wsX11_isIn) := goodIn_app (goodIn_of _ (by decide +kernel)) ggX11_isLamp_X11_isIn
theorem dX11_isLamp_0 : decode cX11_isLamp 0 = .ok (.iload_n 1, 1) := by decide +kernel
theorem dX11_isLamp_1 : decode cX11_isLamp 1 = .ok (.i2l, 1) := by decide +kernel
theorem dX11_isLamp_2 : decode cX11_isLamp 2 = .ok (.lconst 0, 1) := by decide +kernel
theorem dX11_isLamp_3 : decode cX11_isLamp 3 = .ok (.aload_n 0, 1) := by decide +kernel
theorem dX11_isLamp_4 : decode cX11_isLamp 4 = .ok (.getfield 38, 3) := by decide +kernel
theorem dX11_isLamp_7 : decode cX11_isLamp 7 = .ok (.iconst 1, 1) := by decide +kernel
theorem dX11_isLamp_8 : decode cX11_isLamp 8 = .ok (.iaload, 1) := by decide +kernel
theorem dX11_isLamp_9 : decode cX11_isLamp 9 = .ok (.iconst 1, 1) := by decide +kernel
theorem dX11_isLamp_10 : decode cX11_isLamp 10 = .ok (.isub, 1) := by decide +kernel
theorem dX11_isLamp_11 : decode cX11_isLamp 11 = .ok (.i2l, 1) := by decide +kernel
theorem dX11_isLamp_12 : decode cX11_isLamp 12 = .ok (.invokestatic 145, 3) := by decide +kernel
theorem dX11_isLamp_15 : decode cX11_isLamp 15 = .ok (.ireturn, 1) := by decide +kernel
theorem dX11_feed_0 : decode cX11_feed 0 = .ok (.aload_n 0, 1) := by decide +kernel
theorem dX11_feed_1 : decode cX11_feed 1 = .ok (.iconst 0, 1) := by decide +kernel
theorem dX11_feed_2 : decode cX11_feed 2 = .ok (.putfield 142, 3) := by decide +kernel
theorem dX11_feed_5 : decode cX11_feed 5 = .ok (.aload_n 0, 1) := by decide +kernel
theorem dX11_feed_6 : decode cX11_feed 6 = .ok (.getfield 149, 3) := by decide +kernel
theorem dX11_feed_9 : decode cX11_feed 9 = .ok (.bipush 20, 2) := by decide +kernel
theorem dX11_feed_11 : decode cX11_feed 11 = .ok (.iadd, 1) := by decide +kernel
theorem dX11_feed_12 : decode cX11_feed 12 = .ok (.sipush 600, 3) := by decide +kernel
theorem dX11_feed_15 : decode cX11_feed 15 = .ok (.if_icmp .le 5, 3) := by decide +kernel
theorem dX11_feed_18 : decode cX11_feed 18 = .ok (.iconst (-1), 1) := by decide +kernel
theorem dX11_feed_19 : decode cX11_feed 19 = .ok (.ireturn, 1) := by decide +kernel
theorem dX11_feed_20 : decode cX11_feed 20 = .ok (.iconst 0, 1) := by decide +kernel
theorem dX11_feed_21 : decode cX11_feed 21 = .ok (.istore 6, 2) := by decide +kernel
theorem dX11_feed_23 : decode cX11_feed 23 = .ok (.iload 6, 2) := by decide +kernel
theorem dX11_feed_25 : decode cX11_feed 25 = .ok (.bipush 20, 2) := by decide +kernel
theorem dX11_feed_27 : decode cX11_feed 27 = .ok (.if_icmp .ge 93, 3) := by decide +kernel
theorem dX11_feed_30 : decode cX11_feed 30 = .ok (.iload 6, 2) := by decide +kernel
theorem dX11_feed_32 : decode cX11_feed 32 = .ok (.iconst 4, 1) := by decide +kernel
theorem dX11_feed_33 : decode cX11_feed 33 = .ok (.if_icmp .ge 7, 3) := by decide +kernel
theorem dX11_feed_36 : decode cX11_feed 36 = .ok (.iload_n 1, 1) := by decide +kernel
theorem dX11_feed_37 : decode cX11_feed 37 = .ok (.goto 39, 3) := by decide +kernel
theorem dX11_feed_40 : decode cX11_feed 40 = .ok (.iload 6, 2) := by decide +kernel
theorem dX11_feed_42 : decode cX11_feed 42 = .ok (.bipush 8, 2) := by decide +kernel
theorem dX11_feed_44 : decode cX11_feed 44 = .ok (.if_icmp .ge 7, 3) := by decide +kernel
theorem dX11_feed_47 : decode cX11_feed 47 = .ok (.iload_n 2, 1) := by decide +kernel
theorem dX11_feed_48 : decode cX11_feed 48 = .ok (.goto 28, 3) := by decide +kernel
theorem dX11_feed_51 : decode cX11_feed 51 = .ok (.iload 6, 2) := by decide +kernel
theorem dX11_feed_53 : decode cX11_feed 53 = .ok (.bipush 12, 2) := by decide +kernel
theorem dX11_feed_55 : decode cX11_feed 55 = .ok (.if_icmp .ge 7, 3) := by decide +kernel
theorem dX11_feed_58 : decode cX11_feed 58 = .ok (.iload_n 3, 1) := by decide +kernel
theorem dX11_feed_59 : decode cX11_feed 59 = .ok (.goto 17, 3) := by decide +kernel
theorem dX11_feed_62 : decode cX11_feed 62 = .ok (.iload 6, 2) := by decide +kernel
theorem dX11_feed_64 : decode cX11_feed 64 = .ok (.bipush 16, 2) := by decide +kernel
theorem dX11_feed_66 : decode cX11_feed 66 = .ok (.if_icmp .ge 8, 3) := by decide +kernel
theorem dX11_feed_69 : decode cX11_feed 69 = .ok (.iload 4, 2) := by decide +kernel
theorem dX11_feed_71 : decode cX11_feed 71 = .ok (.goto 5, 3) := by decide +kernel
theorem dX11_feed_74 : decode cX11_feed 74 = .ok (.iload 5, 2) := by decide +kernel
theorem dX11_feed_76 : decode cX11_feed 76 = .ok (.istore 7, 2) := by decide +kernel
theorem dX11_feed_78 : decode cX11_feed 78 = .ok (.aload_n 0, 1) := by decide +kernel
theorem dX11_feed_79 : decode cX11_feed 79 = .ok (.getfield 65, 3) := by decide +kernel
theorem dX11_feed_82 : decode cX11_feed 82 = .ok (.aload_n 0, 1) := by decide +kernel
theorem dX11_feed_83 : decode cX11_feed 83 = .ok (.getfield 149, 3) := by decide +kernel
theorem dX11_feed_86 : decode cX11_feed 86 = .ok (.iload 7, 2) := by decide +kernel
theorem dX11_feed_88 : decode cX11_feed 88 = .ok (.bipush 24, 2) := by decide +kernel
theorem dX11_feed_90 : decode cX11_feed 90 = .ok (.bipush 8, 2) := by decide +kernel
theorem dX11_feed_92 : decode cX11_feed 92 = .ok (.iload 6, 2) := by decide +kernel
theorem dX11_feed_94 : decode cX11_feed 94 = .ok (.iconst 4, 1) := by decide +kernel
theorem dX11_feed_95 : decode cX11_feed 95 = .ok (.irem, 1) := by decide +kernel
theorem dX11_feed_96 : decode cX11_feed 96 = .ok (.imul, 1) := by decide +kernel
theorem dX11_feed_97 : decode cX11_feed 97 = .ok (.isub, 1) := by decide +kernel
theorem dX11_feed_98 : decode cX11_feed 98 = .ok (.ishr, 1) := by decide +kernel
theorem dX11_feed_99 : decode cX11_feed 99 = .ok (.sipush 255, 3) := by decide +kernel
theorem dX11_feed_102 : decode cX11_feed 102 = .ok (.iand, 1) := by decide +kernel
theorem dX11_feed_103 : decode cX11_feed 103 = .ok (.iastore, 1) := by decide +kernel
theorem dX11_feed_104 : decode cX11_feed 104 = .ok (.aload_n 0, 1) := by decide +kernel
theorem dX11_feed_105 : decode cX11_feed 105 = .ok (.dup, 1) := by decide +kernel
theorem dX11_feed_106 : decode cX11_feed 106 = .ok (.getfield 149, 3) := by decide +kernel
theorem dX11_feed_109 : decode cX11_feed 109 = .ok (.iconst 1, 1) := by decide +kernel
theorem dX11_feed_110 : decode cX11_feed 110 = .ok (.iadd, 1) := by decide +kernel
theorem dX11_feed_111 : decode cX11_feed 111 = .ok (.putfield 149, 3) := by decide +kernel
theorem dX11_feed_114 : decode cX11_feed 114 = .ok (.iinc 6 1, 3) := by decide +kernel
theorem dX11_feed_117 : decode cX11_feed 117 = .ok (.goto (-94), 3) := by decide +kernel
theorem dX11_feed_120 : decode cX11_feed 120 = .ok (.aload_n 0, 1) := by decide +kernel
theorem dX11_feed_121 : decode cX11_feed 121 = .ok (.getfield 149, 3) := by decide +kernel
theorem dX11_feed_124 : decode cX11_feed 124 = .ok (.ireturn, 1) := by decide +kernel
theorem dX11_byteAt_0 : decode cX11_byteAt 0 = .ok (.iload_n 1, 1) := by decide +kernel
theorem dX11_byteAt_1 : decode cX11_byteAt 1 = .ok (.aload_n 0, 1) := by decide +kernel
theorem dX11_byteAt_2 : decode cX11_byteAt 2 = .ok (.getfield 152, 3) := by decide +kernel
theorem dX11_byteAt_5 : decode cX11_byteAt 5 = .ok (.if_icmp .ge 12, 3) := by decide +kernel
theorem dX11_byteAt_8 : decode cX11_byteAt 8 = .ok (.aload_n 0, 1) := by decide +kernel
theorem dX11_byteAt_9 : decode cX11_byteAt 9 = .ok (.getfield 65, 3) := by decide +kernel
theorem dX11_byteAt_12 : decode cX11_byteAt 12 = .ok (.iload_n 1, 1) := by decide +kernel
theorem dX11_byteAt_13 : decode cX11_byteAt 13 = .ok (.iaload, 1) := by decide +kernel
theorem dX11_byteAt_14 : decode cX11_byteAt 14 = .ok (.goto 4, 3) := by decide +kernel
theorem dX11_byteAt_17 : decode cX11_byteAt 17 = .ok (.iconst (-1), 1) := by decide +kernel
theorem dX11_byteAt_18 : decode cX11_byteAt 18 = .ok (.ireturn, 1) := by decide +kernel
theorem dX11_isLetter_0 : decode cX11_isLetter 0 = .ok (.iload_n 0, 1) := by decide +kernel
theorem dX11_isLetter_1 : decode cX11_isLetter 1 = .ok (.bipush 97, 2) := by decide +kernel
theorem dX11_isLetter_3 : decode cX11_isLetter 3 = .ok (.if_icmp .lt 13, 3) := by decide +kernel
theorem dX11_isLetter_6 : decode cX11_isLetter 6 = .ok (.iload_n 0, 1) := by decide +kernel
theorem dX11_isLetter_7 : decode cX11_isLetter 7 = .ok (.bipush 122, 2) := by decide +kernel
theorem dX11_isLetter_9 : decode cX11_isLetter 9 = .ok (.if_icmp .gt 7, 3) := by decide +kernel
theorem dX11_isLetter_12 : decode cX11_isLetter 12 = .ok (.iconst 1, 1) := by decide +kernel
theorem dX11_isLetter_13 : decode cX11_isLetter 13 = .ok (.goto 4, 3) := by decide +kernel
theorem dX11_isLetter_16 : decode cX11_isLetter 16 = .ok (.iconst 0, 1) := by decide +kernel
theorem dX11_isLetter_17 : decode cX11_isLetter 17 = .ok (.ireturn, 1) := by decide +kernel
theorem dX11_isDigit_0 : decode cX11_isDigit 0 = .ok (.iload_n 0, 1) := by decide +kernel
theorem dX11_isDigit_1 : decode cX11_isDigit 1 = .ok (.bipush 48, 2) := by decide +kernel
theorem dX11_isDigit_3 : decode cX11_isDigit 3 = .ok (.if_icmp .lt 13, 3) := by decide +kernel
theorem dX11_isDigit_6 : decode cX11_isDigit 6 = .ok (.iload_n 0, 1) := by decide +kernel
theorem dX11_isDigit_7 : decode cX11_isDigit 7 = .ok (.bipush 57, 2) := by decide +kernel
theorem dX11_isDigit_9 : decode cX11_isDigit 9 = .ok (.if_icmp .gt 7, 3) := by decide +kernel
theorem dX11_isDigit_12 : decode cX11_isDigit 12 = .ok (.iconst 1, 1) := by decide +kernel
theorem dX11_isDigit_13 : decode cX11_isDigit 13 = .ok (.goto 4, 3) := by decide +kernel
theorem dX11_isDigit_16 : decode cX11_isDigit 16 = .ok (.iconst 0, 1) := by decide +kernel
theorem dX11_isDigit_17 : decode cX11_isDigit 17 = .ok (.ireturn, 1) := by decide +kernel
theorem dX11_isMark_0 : decode cX11_isMark 0 = .ok (.iload_n 0, 1) := by decide +kernel
theorem dX11_isMark_1 : decode cX11_isMark 1 = .ok (.bipush 59, 2) := by decide +kernel
theorem dX11_isMark_3 : decode cX11_isMark 3 = .ok (.if_icmp .eq 51, 3) := by decide +kernel
theorem dX11_isMark_6 : decode cX11_isMark 6 = .ok (.iload_n 0, 1) := by decide +kernel
theorem dX11_isMark_7 : decode cX11_isMark 7 = .ok (.bipush 40, 2) := by decide +kernel
theorem dX11_isMark_9 : decode cX11_isMark 9 = .ok (.if_icmp .eq 45, 3) := by decide +kernel
theorem dX11_isMark_12 : decode cX11_isMark 12 = .ok (.iload_n 0, 1) := by decide +kernel
theorem dX11_isMark_13 : decode cX11_isMark 13 = .ok (.bipush 41, 2) := by decide +kernel
theorem dX11_isMark_15 : decode cX11_isMark 15 = .ok (.if_icmp .eq 39, 3) := by decide +kernel
theorem dX11_isMark_18 : decode cX11_isMark 18 = .ok (.iload_n 0, 1) := by decide +kernel
theorem dX11_isMark_19 : decode cX11_isMark 19 = .ok (.bipush 43, 2) := by decide +kernel
theorem dX11_isMark_21 : decode cX11_isMark 21 = .ok (.if_icmp .eq 33, 3) := by decide +kernel
theorem dX11_isMark_24 : decode cX11_isMark 24 = .ok (.iload_n 0, 1) := by decide +kernel
theorem dX11_isMark_25 : decode cX11_isMark 25 = .ok (.bipush 45, 2) := by decide +kernel
theorem dX11_isMark_27 : decode cX11_isMark 27 = .ok (.if_icmp .eq 27, 3) := by decide +kernel
theorem dX11_isMark_30 : decode cX11_isMark 30 = .ok (.iload_n 0, 1) := by decide +kernel
theorem dX11_isMark_31 : decode cX11_isMark 31 = .ok (.bipush 42, 2) := by decide +kernel
theorem dX11_isMark_33 : decode cX11_isMark 33 = .ok (.if_icmp .eq 21, 3) := by decide +kernel
theorem dX11_isMark_36 : decode cX11_isMark 36 = .ok (.iload_n 0, 1) := by decide +kernel
theorem dX11_isMark_37 : decode cX11_isMark 37 = .ok (.bipush 47, 2) := by decide +kernel
theorem dX11_isMark_39 : decode cX11_isMark 39 = .ok (.if_icmp .eq 15, 3) := by decide +kernel
theorem dX11_isMark_42 : decode cX11_isMark 42 = .ok (.iload_n 0, 1) := by decide +kernel
theorem dX11_isMark_43 : decode cX11_isMark 43 = .ok (.bipush 60, 2) := by decide +kernel
theorem dX11_isMark_45 : decode cX11_isMark 45 = .ok (.if_icmp .eq 9, 3) := by decide +kernel
theorem dX11_isMark_48 : decode cX11_isMark 48 = .ok (.iload_n 0, 1) := by decide +kernel
theorem dX11_isMark_49 : decode cX11_isMark 49 = .ok (.bipush 61, 2) := by decide +kernel
theorem dX11_isMark_51 : decode cX11_isMark 51 = .ok (.if_icmp .ne 7, 3) := by decide +kernel
theorem dX11_isMark_54 : decode cX11_isMark 54 = .ok (.iconst 1, 1) := by decide +kernel
theorem dX11_isMark_55 : decode cX11_isMark 55 = .ok (.goto 4, 3) := by decide +kernel
theorem dX11_isMark_58 : decode cX11_isMark 58 = .ok (.iconst 0, 1) := by decide +kernel
theorem dX11_isMark_59 : decode cX11_isMark 59 = .ok (.ireturn, 1) := by decide +kernel
set_option maxRecDepth 20000 in
theorem ggX11_stepOn_X11_byteAt : GoodIn wsX11_stepOn wsX11_byteAt := goodIn_r _ [15, 16, 17, 27, 28, 29, 30, 31, 32, 33, 34, 35, 36, 37, 38, 39, 40, 41, 42, 43, 44, 45, 46, 47, 48, 49, 50, 51, 52, 53, 54, 55, 56, 57, 58, 59, 60, 61, 62, 63, 64, 65, 66, 67, 68, 69, 70, 71, 72, 73, 74, 75, 76, 77, 78, 79, 80, 81, 82, 83, 84] (by decide +kernel) (by decide +kernel)
set_option maxRecDepth 20000 in
theorem gX11_stepOn_X11_byteAt : GoodIn wsX11_stepOn (wsV RX11 158 RX11 yX11_byteAt wsX11_byteAt) := goodIn_app (goodIn_of _ (by decide +kernel)) ggX11_stepOn_X11_byteAt
set_option maxRecDepth 20000 in
theorem ggX11_stepOn_X11_isLetter : GoodIn wsX11_stepOn wsX11_isLetter := goodIn_r _ [20] (by decide +kernel) (by decide +kernel)
set_option maxRecDepth 20000 in
theorem gX11_stepOn_X11_isLetter : GoodIn wsX11_stepOn (va_wsS RX11 168 yX11_isLetter wsX11_isLetter) := goodIn_app (goodIn_of _ (by decide +kernel)) ggX11_stepOn_X11_isLetter
set_option maxRecDepth 20000 in
theorem ggX11_stepOn_X11_isDigit : GoodIn wsX11_stepOn wsX11_isDigit := goodIn_r _ [23] (by decide +kernel) (by decide +kernel)
set_option maxRecDepth 20000 in
theorem gX11_stepOn_X11_isDigit : GoodIn wsX11_stepOn (va_wsS RX11 172 yX11_isDigit wsX11_isDigit) := goodIn_app (goodIn_of _ (by decide +kernel)) ggX11_stepOn_X11_isDigit
set_option maxRecDepth 20000 in
theorem ggX11_stepOn_X11_isMark : GoodIn wsX11_stepOn wsX11_isMark := goodIn_r _ [26] (by decide +kernel) (by decide +kernel)
set_option maxRecDepth 20000 in
theorem gX11_stepOn_X11_isMark : GoodIn wsX11_stepOn (va_wsS RX11 185 yX11_isMark wsX11_isMark) := goodIn_app (goodIn_of _ (by decide +kernel)) ggX11_stepOn_X11_isMark
theorem dX11_stepOn_0 : decode cX11_stepOn 0 = .ok (.aload_n 0, 1) := by decide +kernel
theorem dX11_stepOn_1 : decode cX11_stepOn 1 = .ok (.aload_n 0, 1) := by decide +kernel
theorem dX11_stepOn_2 : decode cX11_stepOn 2 = .ok (.getfield 155, 3) := by decide +kernel
theorem dX11_stepOn_5 : decode cX11_stepOn 5 = .ok (.invokevirtual 158, 3) := by decide +kernel
theorem dX11_stepOn_8 : decode cX11_stepOn 8 = .ok (.bipush 32, 2) := by decide +kernel
theorem dX11_stepOn_10 : decode cX11_stepOn 10 = .ok (.if_icmp .eq 16, 3) := by decide +kernel
theorem dX11_stepOn_13 : decode cX11_stepOn 13 = .ok (.aload_n 0, 1) := by decide +kernel
theorem dX11_stepOn_14 : decode cX11_stepOn 14 = .ok (.aload_n 0, 1) := by decide +kernel
theorem dX11_stepOn_15 : decode cX11_stepOn 15 = .ok (.getfield 155, 3) := by decide +kernel
theorem dX11_stepOn_18 : decode cX11_stepOn 18 = .ok (.invokevirtual 158, 3) := by decide +kernel
theorem dX11_stepOn_21 : decode cX11_stepOn 21 = .ok (.bipush 10, 2) := by decide +kernel
theorem dX11_stepOn_23 : decode cX11_stepOn 23 = .ok (.if_icmp .ne 16, 3) := by decide +kernel
theorem dX11_stepOn_26 : decode cX11_stepOn 26 = .ok (.aload_n 0, 1) := by decide +kernel
theorem dX11_stepOn_27 : decode cX11_stepOn 27 = .ok (.dup, 1) := by decide +kernel
theorem dX11_stepOn_28 : decode cX11_stepOn 28 = .ok (.getfield 155, 3) := by decide +kernel
theorem dX11_stepOn_31 : decode cX11_stepOn 31 = .ok (.iconst 1, 1) := by decide +kernel
theorem dX11_stepOn_32 : decode cX11_stepOn 32 = .ok (.iadd, 1) := by decide +kernel
theorem dX11_stepOn_33 : decode cX11_stepOn 33 = .ok (.putfield 155, 3) := by decide +kernel
theorem dX11_stepOn_36 : decode cX11_stepOn 36 = .ok (.goto (-36), 3) := by decide +kernel
theorem dX11_stepOn_39 : decode cX11_stepOn 39 = .ok (.aload_n 0, 1) := by decide +kernel
theorem dX11_stepOn_40 : decode cX11_stepOn 40 = .ok (.aload_n 0, 1) := by decide +kernel
theorem dX11_stepOn_41 : decode cX11_stepOn 41 = .ok (.getfield 155, 3) := by decide +kernel
theorem dX11_stepOn_44 : decode cX11_stepOn 44 = .ok (.putfield 162, 3) := by decide +kernel
theorem dX11_stepOn_47 : decode cX11_stepOn 47 = .ok (.aload_n 0, 1) := by decide +kernel
theorem dX11_stepOn_48 : decode cX11_stepOn 48 = .ok (.aload_n 0, 1) := by decide +kernel
theorem dX11_stepOn_49 : decode cX11_stepOn 49 = .ok (.getfield 155, 3) := by decide +kernel
theorem dX11_stepOn_52 : decode cX11_stepOn 52 = .ok (.invokevirtual 158, 3) := by decide +kernel
theorem dX11_stepOn_55 : decode cX11_stepOn 55 = .ok (.istore_n 1, 1) := by decide +kernel
theorem dX11_stepOn_56 : decode cX11_stepOn 56 = .ok (.iload_n 1, 1) := by decide +kernel
theorem dX11_stepOn_57 : decode cX11_stepOn 57 = .ok (.iconst (-1), 1) := by decide +kernel
theorem dX11_stepOn_58 : decode cX11_stepOn 58 = .ok (.if_icmp .ne 11, 3) := by decide +kernel
theorem dX11_stepOn_61 : decode cX11_stepOn 61 = .ok (.aload_n 0, 1) := by decide +kernel
theorem dX11_stepOn_62 : decode cX11_stepOn 62 = .ok (.iconst 0, 1) := by decide +kernel
theorem dX11_stepOn_63 : decode cX11_stepOn 63 = .ok (.putfield 165, 3) := by decide +kernel
theorem dX11_stepOn_66 : decode cX11_stepOn 66 = .ok (.goto 146, 3) := by decide +kernel
theorem dX11_stepOn_69 : decode cX11_stepOn 69 = .ok (.iload_n 1, 1) := by decide +kernel
theorem dX11_stepOn_70 : decode cX11_stepOn 70 = .ok (.invokestatic 168, 3) := by decide +kernel
theorem dX11_stepOn_73 : decode cX11_stepOn 73 = .ok (.ifCond .eq 38, 3) := by decide +kernel
theorem dX11_stepOn_76 : decode cX11_stepOn 76 = .ok (.aload_n 0, 1) := by decide +kernel
theorem dX11_stepOn_77 : decode cX11_stepOn 77 = .ok (.aload_n 0, 1) := by decide +kernel
theorem dX11_stepOn_78 : decode cX11_stepOn 78 = .ok (.getfield 155, 3) := by decide +kernel
theorem dX11_stepOn_81 : decode cX11_stepOn 81 = .ok (.invokevirtual 158, 3) := by decide +kernel
theorem dX11_stepOn_84 : decode cX11_stepOn 84 = .ok (.invokestatic 168, 3) := by decide +kernel
theorem dX11_stepOn_87 : decode cX11_stepOn 87 = .ok (.ifCond .eq 16, 3) := by decide +kernel
theorem dX11_stepOn_90 : decode cX11_stepOn 90 = .ok (.aload_n 0, 1) := by decide +kernel
theorem dX11_stepOn_91 : decode cX11_stepOn 91 = .ok (.dup, 1) := by decide +kernel
theorem dX11_stepOn_92 : decode cX11_stepOn 92 = .ok (.getfield 155, 3) := by decide +kernel
theorem dX11_stepOn_95 : decode cX11_stepOn 95 = .ok (.iconst 1, 1) := by decide +kernel
theorem dX11_stepOn_96 : decode cX11_stepOn 96 = .ok (.iadd, 1) := by decide +kernel
theorem dX11_stepOn_97 : decode cX11_stepOn 97 = .ok (.putfield 155, 3) := by decide +kernel
theorem dX11_stepOn_100 : decode cX11_stepOn 100 = .ok (.goto (-24), 3) := by decide +kernel
theorem dX11_stepOn_103 : decode cX11_stepOn 103 = .ok (.aload_n 0, 1) := by decide +kernel
theorem dX11_stepOn_104 : decode cX11_stepOn 104 = .ok (.iconst 1, 1) := by decide +kernel
theorem dX11_stepOn_105 : decode cX11_stepOn 105 = .ok (.putfield 165, 3) := by decide +kernel
theorem dX11_stepOn_108 : decode cX11_stepOn 108 = .ok (.goto 104, 3) := by decide +kernel
theorem dX11_stepOn_111 : decode cX11_stepOn 111 = .ok (.iload_n 1, 1) := by decide +kernel
theorem dX11_stepOn_112 : decode cX11_stepOn 112 = .ok (.invokestatic 172, 3) := by decide +kernel
theorem dX11_stepOn_115 : decode cX11_stepOn 115 = .ok (.ifCond .eq 71, 3) := by decide +kernel
theorem dX11_stepOn_118 : decode cX11_stepOn 118 = .ok (.aload_n 0, 1) := by decide +kernel
theorem dX11_stepOn_119 : decode cX11_stepOn 119 = .ok (.iconst 0, 1) := by decide +kernel
theorem dX11_stepOn_120 : decode cX11_stepOn 120 = .ok (.putfield 175, 3) := by decide +kernel
theorem dX11_stepOn_123 : decode cX11_stepOn 123 = .ok (.aload_n 0, 1) := by decide +kernel
theorem dX11_stepOn_124 : decode cX11_stepOn 124 = .ok (.aload_n 0, 1) := by decide +kernel
theorem dX11_stepOn_125 : decode cX11_stepOn 125 = .ok (.getfield 155, 3) := by decide +kernel
theorem dX11_stepOn_128 : decode cX11_stepOn 128 = .ok (.invokevirtual 158, 3) := by decide +kernel
theorem dX11_stepOn_131 : decode cX11_stepOn 131 = .ok (.invokestatic 172, 3) := by decide +kernel
theorem dX11_stepOn_134 : decode cX11_stepOn 134 = .ok (.ifCond .eq 44, 3) := by decide +kernel
theorem dX11_stepOn_137 : decode cX11_stepOn 137 = .ok (.aload_n 0, 1) := by decide +kernel
theorem dX11_stepOn_138 : decode cX11_stepOn 138 = .ok (.ldc 178, 2) := by decide +kernel
theorem dX11_stepOn_140 : decode cX11_stepOn 140 = .ok (.bipush 10, 2) := by decide +kernel
theorem dX11_stepOn_142 : decode cX11_stepOn 142 = .ok (.aload_n 0, 1) := by decide +kernel
theorem dX11_stepOn_143 : decode cX11_stepOn 143 = .ok (.getfield 175, 3) := by decide +kernel
theorem dX11_stepOn_146 : decode cX11_stepOn 146 = .ok (.imul, 1) := by decide +kernel
theorem dX11_stepOn_147 : decode cX11_stepOn 147 = .ok (.aload_n 0, 1) := by decide +kernel
theorem dX11_stepOn_148 : decode cX11_stepOn 148 = .ok (.aload_n 0, 1) := by decide +kernel
theorem dX11_stepOn_149 : decode cX11_stepOn 149 = .ok (.getfield 155, 3) := by decide +kernel
theorem dX11_stepOn_152 : decode cX11_stepOn 152 = .ok (.invokevirtual 158, 3) := by decide +kernel
theorem dX11_stepOn_155 : decode cX11_stepOn 155 = .ok (.iadd, 1) := by decide +kernel
theorem dX11_stepOn_156 : decode cX11_stepOn 156 = .ok (.bipush 48, 2) := by decide +kernel
theorem dX11_stepOn_158 : decode cX11_stepOn 158 = .ok (.isub, 1) := by decide +kernel
theorem dX11_stepOn_159 : decode cX11_stepOn 159 = .ok (.invokestatic 179, 3) := by decide +kernel
theorem dX11_stepOn_162 : decode cX11_stepOn 162 = .ok (.putfield 175, 3) := by decide +kernel
theorem dX11_stepOn_165 : decode cX11_stepOn 165 = .ok (.aload_n 0, 1) := by decide +kernel
theorem dX11_stepOn_166 : decode cX11_stepOn 166 = .ok (.dup, 1) := by decide +kernel
theorem dX11_stepOn_167 : decode cX11_stepOn 167 = .ok (.getfield 155, 3) := by decide +kernel
theorem dX11_stepOn_170 : decode cX11_stepOn 170 = .ok (.iconst 1, 1) := by decide +kernel
theorem dX11_stepOn_171 : decode cX11_stepOn 171 = .ok (.iadd, 1) := by decide +kernel
theorem dX11_stepOn_172 : decode cX11_stepOn 172 = .ok (.putfield 155, 3) := by decide +kernel
theorem dX11_stepOn_175 : decode cX11_stepOn 175 = .ok (.goto (-52), 3) := by decide +kernel
theorem dX11_stepOn_178 : decode cX11_stepOn 178 = .ok (.aload_n 0, 1) := by decide +kernel
theorem dX11_stepOn_179 : decode cX11_stepOn 179 = .ok (.iconst 2, 1) := by decide +kernel
theorem dX11_stepOn_180 : decode cX11_stepOn 180 = .ok (.putfield 165, 3) := by decide +kernel
theorem dX11_stepOn_183 : decode cX11_stepOn 183 = .ok (.goto 29, 3) := by decide +kernel
theorem dX11_stepOn_186 : decode cX11_stepOn 186 = .ok (.aload_n 0, 1) := by decide +kernel
theorem dX11_stepOn_187 : decode cX11_stepOn 187 = .ok (.dup, 1) := by decide +kernel
theorem dX11_stepOn_188 : decode cX11_stepOn 188 = .ok (.getfield 155, 3) := by decide +kernel
theorem dX11_stepOn_191 : decode cX11_stepOn 191 = .ok (.iconst 1, 1) := by decide +kernel
theorem dX11_stepOn_192 : decode cX11_stepOn 192 = .ok (.iadd, 1) := by decide +kernel
theorem dX11_stepOn_193 : decode cX11_stepOn 193 = .ok (.putfield 155, 3) := by decide +kernel
theorem dX11_stepOn_196 : decode cX11_stepOn 196 = .ok (.aload_n 0, 1) := by decide +kernel
theorem dX11_stepOn_197 : decode cX11_stepOn 197 = .ok (.iload_n 1, 1) := by decide +kernel
theorem dX11_stepOn_198 : decode cX11_stepOn 198 = .ok (.invokestatic 185, 3) := by decide +kernel
theorem dX11_stepOn_201 : decode cX11_stepOn 201 = .ok (.ifCond .eq 7, 3) := by decide +kernel
theorem dX11_stepOn_204 : decode cX11_stepOn 204 = .ok (.iconst 3, 1) := by decide +kernel
theorem dX11_stepOn_205 : decode cX11_stepOn 205 = .ok (.goto 4, 3) := by decide +kernel
theorem dX11_stepOn_208 : decode cX11_stepOn 208 = .ok (.iconst 4, 1) := by decide +kernel
theorem dX11_stepOn_209 : decode cX11_stepOn 209 = .ok (.putfield 165, 3) := by decide +kernel
theorem dX11_stepOn_212 : decode cX11_stepOn 212 = .ok (.aload_n 0, 1) := by decide +kernel
theorem dX11_stepOn_213 : decode cX11_stepOn 213 = .ok (.aload_n 0, 1) := by decide +kernel
theorem dX11_stepOn_214 : decode cX11_stepOn 214 = .ok (.getfield 155, 3) := by decide +kernel
theorem dX11_stepOn_217 : decode cX11_stepOn 217 = .ok (.putfield 188, 3) := by decide +kernel
theorem dX11_stepOn_220 : decode cX11_stepOn 220 = .ok (.return_, 1) := by decide +kernel
theorem dX11_wrong_0 : decode cX11_wrong 0 = .ok (.aload_n 0, 1) := by decide +kernel
theorem dX11_wrong_1 : decode cX11_wrong 1 = .ok (.getfield 191, 3) := by decide +kernel
theorem dX11_wrong_4 : decode cX11_wrong 4 = .ok (.ifCond .eq 4, 3) := by decide +kernel
theorem dX11_wrong_7 : decode cX11_wrong 7 = .ok (.return_, 1) := by decide +kernel
theorem dX11_wrong_8 : decode cX11_wrong 8 = .ok (.aload_n 0, 1) := by decide +kernel
theorem dX11_wrong_9 : decode cX11_wrong 9 = .ok (.iload_n 1, 1) := by decide +kernel
theorem dX11_wrong_10 : decode cX11_wrong 10 = .ok (.putfield 191, 3) := by decide +kernel
theorem dX11_wrong_13 : decode cX11_wrong 13 = .ok (.aload_n 0, 1) := by decide +kernel
theorem dX11_wrong_14 : decode cX11_wrong 14 = .ok (.aload_n 0, 1) := by decide +kernel
theorem dX11_wrong_15 : decode cX11_wrong 15 = .ok (.getfield 162, 3) := by decide +kernel
theorem dX11_wrong_18 : decode cX11_wrong 18 = .ok (.putfield 194, 3) := by decide +kernel
theorem dX11_wrong_21 : decode cX11_wrong 21 = .ok (.return_, 1) := by decide +kernel
set_option maxRecDepth 20000 in
theorem ggX11_is_J0_length_8abf5 : GoodIn wsX11_is wsJ0_length_8abf5 := goodIn_r _ [10, 11, 12, 13, 14, 9, 15, 16, 17] (by decide +kernel) (by decide +kernel)
set_option maxRecDepth 20000 in
theorem gX11_is_J0_length_8abf5 : GoodIn wsX11_is (wsV RX11 197 RJ0 yJ0_length_8abf5 wsJ0_length_8abf5) := goodIn_app (goodIn_of _ (by decide +kernel)) ggX11_is_J0_length_8abf5
set_option maxRecDepth 20000 in
theorem ggX11_is_J0_charAt_5068e : GoodIn wsX11_is wsJ0_charAt_5068e := goodIn_r _ [21, 11, 22, 23, 24, 9, 25, 16, 17, 26, 27, 28, 29, 30, 31, 32, 33, 34, 35, 36, 37, 38, 39, 40, 41, 42, 43, 44, 45, 46, 47, 48, 49, 50, 51, 52, 53, 54] (by decide +kernel) (by decide +kernel)
set_option maxRecDepth 20000 in
theorem gX11_is_J0_charAt_5068e : GoodIn wsX11_is (wsV RX11 201 RJ0 yJ0_charAt_5068e wsJ0_charAt_5068e) := goodIn_app (goodIn_of _ (by decide +kernel)) ggX11_is_J0_charAt_5068e
theorem dX11_is_0 : decode cX11_is 0 = .ok (.aload_n 0, 1) := by decide +kernel
theorem dX11_is_1 : decode cX11_is 1 = .ok (.getfield 191, 3) := by decide +kernel
theorem dX11_is_4 : decode cX11_is 4 = .ok (.ifCond .ne 31, 3) := by decide +kernel
theorem dX11_is_7 : decode cX11_is 7 = .ok (.aload_n 0, 1) := by decide +kernel
theorem dX11_is_8 : decode cX11_is 8 = .ok (.getfield 165, 3) := by decide +kernel
theorem dX11_is_11 : decode cX11_is 11 = .ok (.iconst 1, 1) := by decide +kernel
theorem dX11_is_12 : decode cX11_is 12 = .ok (.if_icmp .ne 23, 3) := by decide +kernel
theorem dX11_is_15 : decode cX11_is 15 = .ok (.aload_n 1, 1) := by decide +kernel
theorem dX11_is_16 : decode cX11_is 16 = .ok (.invokevirtual 197, 3) := by decide +kernel
theorem dX11_is_19 : decode cX11_is 19 = .ok (.aload_n 0, 1) := by decide +kernel
theorem dX11_is_20 : decode cX11_is 20 = .ok (.getfield 188, 3) := by decide +kernel
theorem dX11_is_23 : decode cX11_is 23 = .ok (.aload_n 0, 1) := by decide +kernel
theorem dX11_is_24 : decode cX11_is 24 = .ok (.getfield 162, 3) := by decide +kernel
theorem dX11_is_27 : decode cX11_is 27 = .ok (.isub, 1) := by decide +kernel
theorem dX11_is_28 : decode cX11_is 28 = .ok (.if_icmp .ne 7, 3) := by decide +kernel
theorem dX11_is_31 : decode cX11_is 31 = .ok (.iconst 1, 1) := by decide +kernel
theorem dX11_is_32 : decode cX11_is 32 = .ok (.goto 4, 3) := by decide +kernel
theorem dX11_is_35 : decode cX11_is 35 = .ok (.iconst 0, 1) := by decide +kernel
theorem dX11_is_36 : decode cX11_is 36 = .ok (.istore_n 2, 1) := by decide +kernel
theorem dX11_is_37 : decode cX11_is 37 = .ok (.iconst 0, 1) := by decide +kernel
theorem dX11_is_38 : decode cX11_is 38 = .ok (.istore_n 3, 1) := by decide +kernel
theorem dX11_is_39 : decode cX11_is 39 = .ok (.iload_n 2, 1) := by decide +kernel
theorem dX11_is_40 : decode cX11_is 40 = .ok (.ifCond .eq 42, 3) := by decide +kernel
theorem dX11_is_43 : decode cX11_is 43 = .ok (.iload_n 3, 1) := by decide +kernel
theorem dX11_is_44 : decode cX11_is 44 = .ok (.aload_n 1, 1) := by decide +kernel
theorem dX11_is_45 : decode cX11_is 45 = .ok (.invokevirtual 197, 3) := by decide +kernel
theorem dX11_is_48 : decode cX11_is 48 = .ok (.if_icmp .ge 34, 3) := by decide +kernel
theorem dX11_is_51 : decode cX11_is 51 = .ok (.aload_n 1, 1) := by decide +kernel
theorem dX11_is_52 : decode cX11_is 52 = .ok (.iload_n 3, 1) := by decide +kernel
theorem dX11_is_53 : decode cX11_is 53 = .ok (.invokevirtual 201, 3) := by decide +kernel
theorem dX11_is_56 : decode cX11_is 56 = .ok (.aload_n 0, 1) := by decide +kernel
theorem dX11_is_57 : decode cX11_is 57 = .ok (.getfield 65, 3) := by decide +kernel
theorem dX11_is_60 : decode cX11_is 60 = .ok (.aload_n 0, 1) := by decide +kernel
theorem dX11_is_61 : decode cX11_is 61 = .ok (.getfield 162, 3) := by decide +kernel
theorem dX11_is_64 : decode cX11_is 64 = .ok (.iload_n 3, 1) := by decide +kernel
theorem dX11_is_65 : decode cX11_is 65 = .ok (.iadd, 1) := by decide +kernel
theorem dX11_is_66 : decode cX11_is 66 = .ok (.iaload, 1) := by decide +kernel
theorem dX11_is_67 : decode cX11_is 67 = .ok (.if_icmp .ne 7, 3) := by decide +kernel
theorem dX11_is_70 : decode cX11_is 70 = .ok (.iconst 1, 1) := by decide +kernel
theorem dX11_is_71 : decode cX11_is 71 = .ok (.goto 4, 3) := by decide +kernel
theorem dX11_is_74 : decode cX11_is 74 = .ok (.iconst 0, 1) := by decide +kernel
theorem dX11_is_75 : decode cX11_is 75 = .ok (.istore_n 2, 1) := by decide +kernel
theorem dX11_is_76 : decode cX11_is 76 = .ok (.iinc 3 1, 3) := by decide +kernel
theorem dX11_is_79 : decode cX11_is 79 = .ok (.goto (-40), 3) := by decide +kernel
theorem dX11_is_82 : decode cX11_is 82 = .ok (.iload_n 2, 1) := by decide +kernel
theorem dX11_is_83 : decode cX11_is 83 = .ok (.ireturn, 1) := by decide +kernel
set_option maxRecDepth 20000 in
theorem ggX11_which_X11_is : GoodIn wsX11_which wsX11_is := goodIn_r _ [5, 6, 7, 8, 9, 10, 11, 12, 13, 14, 15, 16, 17, 18, 19, 20, 21, 22, 23, 24, 25, 26, 27, 28, 29, 30, 31, 32, 33, 34, 35, 36, 37, 38, 39, 40, 41, 42, 43, 44, 45, 46, 47, 48, 49, 50, 51, 52, 53, 54, 55, 56, 57, 58, 59, 60, 61, 62, 63, 64, 65, 66, 67, 68, 69, 70, 71, 72, 73, 74, 75, 76, 77, 78, 79, 80, 81, 82, 83, 84, 85, 86, 87, 88, 89, 90, 91, 92, 93, 94, 95, 96, 97, 98, 99, 100, 101, 102, 103, 104, 105, 106, 107, 108, 109, 110, 111, 112, 113, 114, 115, 116, 117] (by decide +kernel) (by decide +kernel)
set_option maxRecDepth 20000 in
theorem gX11_which_X11_is : GoodIn wsX11_which (wsV RX11 205 RX11 yX11_is wsX11_is) := goodIn_app (goodIn_of _ (by decide +kernel)) ggX11_which_X11_is
theorem dX11_which_0 : decode cX11_which 0 = .ok (.iconst 0, 1) := by decide +kernel
theorem dX11_which_1 : decode cX11_which 1 = .ok (.istore_n 2, 1) := by decide +kernel
theorem dX11_which_2 : decode cX11_which 2 = .ok (.iload_n 2, 1) := by decide +kernel
theorem dX11_which_3 : decode cX11_which 3 = .ok (.aload_n 1, 1) := by decide +kernel
theorem dX11_which_4 : decode cX11_which 4 = .ok (.arraylength, 1) := by decide +kernel
theorem dX11_which_5 : decode cX11_which 5 = .ok (.if_icmp .ge 21, 3) := by decide +kernel
theorem dX11_which_8 : decode cX11_which 8 = .ok (.aload_n 0, 1) := by decide +kernel
theorem dX11_which_9 : decode cX11_which 9 = .ok (.aload_n 1, 1) := by decide +kernel
theorem dX11_which_10 : decode cX11_which 10 = .ok (.iload_n 2, 1) := by decide +kernel
theorem dX11_which_11 : decode cX11_which 11 = .ok (.aaload, 1) := by decide +kernel
theorem dX11_which_12 : decode cX11_which 12 = .ok (.invokevirtual 205, 3) := by decide +kernel
theorem dX11_which_15 : decode cX11_which 15 = .ok (.ifCond .eq 5, 3) := by decide +kernel
theorem dX11_which_18 : decode cX11_which 18 = .ok (.iload_n 2, 1) := by decide +kernel
theorem dX11_which_19 : decode cX11_which 19 = .ok (.ireturn, 1) := by decide +kernel
theorem dX11_which_20 : decode cX11_which 20 = .ok (.iinc 2 1, 3) := by decide +kernel
theorem dX11_which_23 : decode cX11_which 23 = .ok (.goto (-21), 3) := by decide +kernel
theorem dX11_which_26 : decode cX11_which 26 = .ok (.iconst (-1), 1) := by decide +kernel
theorem dX11_which_27 : decode cX11_which 27 = .ok (.ireturn, 1) := by decide +kernel
theorem dX11_isMarked_0 : decode cX11_isMarked 0 = .ok (.aload_n 0, 1) := by decide +kernel
theorem dX11_isMarked_1 : decode cX11_isMarked 1 = .ok (.getfield 191, 3) := by decide +kernel
theorem dX11_isMarked_4 : decode cX11_isMarked 4 = .ok (.ifCond .ne 28, 3) := by decide +kernel
theorem dX11_isMarked_7 : decode cX11_isMarked 7 = .ok (.aload_n 0, 1) := by decide +kernel
theorem dX11_isMarked_8 : decode cX11_isMarked 8 = .ok (.getfield 165, 3) := by decide +kernel
theorem dX11_isMarked_11 : decode cX11_isMarked 11 = .ok (.iconst 3, 1) := by decide +kernel
theorem dX11_isMarked_12 : decode cX11_isMarked 12 = .ok (.if_icmp .ne 20, 3) := by decide +kernel
theorem dX11_isMarked_15 : decode cX11_isMarked 15 = .ok (.aload_n 0, 1) := by decide +kernel
theorem dX11_isMarked_16 : decode cX11_isMarked 16 = .ok (.getfield 65, 3) := by decide +kernel
theorem dX11_isMarked_19 : decode cX11_isMarked 19 = .ok (.aload_n 0, 1) := by decide +kernel
theorem dX11_isMarked_20 : decode cX11_isMarked 20 = .ok (.getfield 162, 3) := by decide +kernel
theorem dX11_isMarked_23 : decode cX11_isMarked 23 = .ok (.iaload, 1) := by decide +kernel
theorem dX11_isMarked_24 : decode cX11_isMarked 24 = .ok (.iload_n 1, 1) := by decide +kernel
theorem dX11_isMarked_25 : decode cX11_isMarked 25 = .ok (.if_icmp .ne 7, 3) := by decide +kernel
theorem dX11_isMarked_28 : decode cX11_isMarked 28 = .ok (.iconst 1, 1) := by decide +kernel
theorem dX11_isMarked_29 : decode cX11_isMarked 29 = .ok (.goto 4, 3) := by decide +kernel
theorem dX11_isMarked_32 : decode cX11_isMarked 32 = .ok (.iconst 0, 1) := by decide +kernel
theorem dX11_isMarked_33 : decode cX11_isMarked 33 = .ok (.ireturn, 1) := by decide +kernel
set_option maxRecDepth 20000 in
theorem ggX11_mark_X11_isMarked : GoodIn wsX11_mark wsX11_isMarked := goodIn_r _ [6, 1, 7, 8, 9, 41, 42, 43, 44, 45, 46, 47, 48, 49, 50, 51, 52, 53, 54, 55, 56, 57, 58, 59, 60, 61, 62, 63, 64, 65, 66, 67, 68, 69, 70, 71, 72, 73, 74, 75, 76, 77, 78, 79, 80, 81, 82, 83, 84, 85, 86, 87, 88, 89, 90, 91, 92, 93, 94, 95, 96, 97, 98] (by decide +kernel) (by decide +kernel)
set_option maxRecDepth 20000 in
theorem gX11_mark_X11_isMarked : GoodIn wsX11_mark (wsV RX11 209 RX11 yX11_isMarked wsX11_isMarked) := goodIn_app (goodIn_of _ (by decide +kernel)) ggX11_mark_X11_isMarked
set_option maxRecDepth 20000 in
theorem ggX11_mark_X11_wrong : GoodIn wsX11_mark wsX11_wrong := goodIn_r _ [13, 1, 9, 14, 41, 42, 43, 44, 45, 46, 47, 48, 49, 50, 51, 52, 53, 54, 55, 56, 57, 58, 59, 60, 61, 62, 63, 64, 65, 66, 67, 68, 69, 70, 71, 72, 73, 74, 75, 76, 77, 78, 79, 80, 81, 82, 83, 84, 85, 86, 87, 88, 89, 90, 91, 92, 93, 94, 95, 96, 97, 98] (by decide +kernel) (by decide +kernel)
set_option maxRecDepth 20000 in
theorem gX11_mark_X11_wrong : GoodIn wsX11_mark (wsV RX11 212 RX11 yX11_wrong wsX11_wrong) := goodIn_app (goodIn_of _ (by decide +kernel)) ggX11_mark_X11_wrong
set_option maxRecDepth 20000 in
theorem ggX11_mark_X11_stepOn : GoodIn wsX11_mark wsX11_stepOn := goodIn_r _ [18, 19, 9, 7, 20, 21, 22, 23, 24, 25, 26, 27, 28, 29, 5, 30, 31, 8, 32, 33, 34, 35, 36, 37, 38, 39, 40, 41, 42, 43, 44, 45, 46, 47, 48, 49, 50, 51, 52, 53, 54, 55, 56, 57, 58, 59, 60, 61, 62, 63, 64, 65, 66, 67, 68, 69, 70, 71, 72, 73, 74, 75, 76, 77, 78, 79, 80, 81, 82, 83, 84, 85, 86, 87, 88, 89, 90, 91, 92, 93, 94, 95, 96, 97, 98] (by decide +kernel) (by decide +kernel)
set_option maxRecDepth 20000 in
theorem gX11_mark_X11_stepOn : GoodIn wsX11_mark (wsV RX11 216 RX11 yX11_stepOn wsX11_stepOn) := goodIn_app (goodIn_of _ (by decide +kernel)) ggX11_mark_X11_stepOn
theorem dX11_mark_0 : decode cX11_mark 0 = .ok (.aload_n 0, 1) := by decide +kernel
theorem dX11_mark_1 : decode cX11_mark 1 = .ok (.getfield 191, 3) := by decide +kernel
theorem dX11_mark_4 : decode cX11_mark 4 = .ok (.ifCond .ne 16, 3) := by decide +kernel
theorem dX11_mark_7 : decode cX11_mark 7 = .ok (.aload_n 0, 1) := by decide +kernel
theorem dX11_mark_8 : decode cX11_mark 8 = .ok (.iload_n 1, 1) := by decide +kernel
theorem dX11_mark_9 : decode cX11_mark 9 = .ok (.invokevirtual 209, 3) := by decide +kernel
theorem dX11_mark_12 : decode cX11_mark 12 = .ok (.ifCond .ne 8, 3) := by decide +kernel
theorem dX11_mark_15 : decode cX11_mark 15 = .ok (.aload_n 0, 1) := by decide +kernel
theorem dX11_mark_16 : decode cX11_mark 16 = .ok (.iconst 1, 1) := by decide +kernel
theorem dX11_mark_17 : decode cX11_mark 17 = .ok (.invokevirtual 212, 3) := by decide +kernel
theorem dX11_mark_20 : decode cX11_mark 20 = .ok (.aload_n 0, 1) := by decide +kernel
theorem dX11_mark_21 : decode cX11_mark 21 = .ok (.getfield 191, 3) := by decide +kernel
theorem dX11_mark_24 : decode cX11_mark 24 = .ok (.ifCond .ne 7, 3) := by decide +kernel
theorem dX11_mark_27 : decode cX11_mark 27 = .ok (.aload_n 0, 1) := by decide +kernel
theorem dX11_mark_28 : decode cX11_mark 28 = .ok (.invokevirtual 216, 3) := by decide +kernel
theorem dX11_mark_31 : decode cX11_mark 31 = .ok (.return_, 1) := by decide +kernel
set_option maxRecDepth 20000 in
theorem ggX11_numberNow_X11_wrong : GoodIn wsX11_numberNow wsX11_wrong := goodIn_r _ [10, 1, 4, 11, 12, 13, 14, 15, 16, 17, 18, 19, 20, 21, 22, 23, 24, 25, 26, 27, 28, 29, 30, 31, 32, 33, 34, 35, 36, 37, 38, 39, 40, 41, 42, 43, 44, 45, 46, 47, 48, 49, 50, 51, 52, 53, 54, 55, 56, 57, 58, 59, 60, 61, 62, 63, 64, 65, 66, 67, 68, 69] (by decide +kernel) (by decide +kernel)
set_option maxRecDepth 20000 in
theorem gX11_numberNow_X11_wrong : GoodIn wsX11_numberNow (wsV RX11 212 RX11 yX11_wrong wsX11_wrong) := goodIn_app (goodIn_of _ (by decide +kernel)) ggX11_numberNow_X11_wrong
theorem dX11_numberNow_0 : decode cX11_numberNow 0 = .ok (.aload_n 0, 1) := by decide +kernel
theorem dX11_numberNow_1 : decode cX11_numberNow 1 = .ok (.getfield 191, 3) := by decide +kernel
theorem dX11_numberNow_4 : decode cX11_numberNow 4 = .ok (.ifCond .eq 5, 3) := by decide +kernel
theorem dX11_numberNow_7 : decode cX11_numberNow 7 = .ok (.iconst 0, 1) := by decide +kernel
theorem dX11_numberNow_8 : decode cX11_numberNow 8 = .ok (.ireturn, 1) := by decide +kernel
theorem dX11_numberNow_9 : decode cX11_numberNow 9 = .ok (.aload_n 0, 1) := by decide +kernel
theorem dX11_numberNow_10 : decode cX11_numberNow 10 = .ok (.getfield 165, 3) := by decide +kernel
theorem dX11_numberNow_13 : decode cX11_numberNow 13 = .ok (.iconst 2, 1) := by decide +kernel
theorem dX11_numberNow_14 : decode cX11_numberNow 14 = .ok (.if_icmp .eq 11, 3) := by decide +kernel
theorem dX11_numberNow_17 : decode cX11_numberNow 17 = .ok (.aload_n 0, 1) := by decide +kernel
theorem dX11_numberNow_18 : decode cX11_numberNow 18 = .ok (.iconst 1, 1) := by decide +kernel
theorem dX11_numberNow_19 : decode cX11_numberNow 19 = .ok (.invokevirtual 212, 3) := by decide +kernel
theorem dX11_numberNow_22 : decode cX11_numberNow 22 = .ok (.goto 37, 3) := by decide +kernel
theorem dX11_numberNow_25 : decode cX11_numberNow 25 = .ok (.aload_n 0, 1) := by decide +kernel
theorem dX11_numberNow_26 : decode cX11_numberNow 26 = .ok (.getfield 188, 3) := by decide +kernel
theorem dX11_numberNow_29 : decode cX11_numberNow 29 = .ok (.aload_n 0, 1) := by decide +kernel
theorem dX11_numberNow_30 : decode cX11_numberNow 30 = .ok (.getfield 162, 3) := by decide +kernel
theorem dX11_numberNow_33 : decode cX11_numberNow 33 = .ok (.isub, 1) := by decide +kernel
theorem dX11_numberNow_34 : decode cX11_numberNow 34 = .ok (.iconst 4, 1) := by decide +kernel
theorem dX11_numberNow_35 : decode cX11_numberNow 35 = .ok (.if_icmp .gt 19, 3) := by decide +kernel
theorem dX11_numberNow_38 : decode cX11_numberNow 38 = .ok (.aload_n 0, 1) := by decide +kernel
theorem dX11_numberNow_39 : decode cX11_numberNow 39 = .ok (.getfield 175, 3) := by decide +kernel
theorem dX11_numberNow_42 : decode cX11_numberNow 42 = .ok (.iload_n 1, 1) := by decide +kernel
theorem dX11_numberNow_43 : decode cX11_numberNow 43 = .ok (.if_icmp .lt 11, 3) := by decide +kernel
theorem dX11_numberNow_46 : decode cX11_numberNow 46 = .ok (.aload_n 0, 1) := by decide +kernel
theorem dX11_numberNow_47 : decode cX11_numberNow 47 = .ok (.getfield 175, 3) := by decide +kernel
theorem dX11_numberNow_50 : decode cX11_numberNow 50 = .ok (.iload_n 2, 1) := by decide +kernel
theorem dX11_numberNow_51 : decode cX11_numberNow 51 = .ok (.if_icmp .le 8, 3) := by decide +kernel
theorem dX11_numberNow_54 : decode cX11_numberNow 54 = .ok (.aload_n 0, 1) := by decide +kernel
theorem dX11_numberNow_55 : decode cX11_numberNow 55 = .ok (.iconst 2, 1) := by decide +kernel
theorem dX11_numberNow_56 : decode cX11_numberNow 56 = .ok (.invokevirtual 212, 3) := by decide +kernel
theorem dX11_numberNow_59 : decode cX11_numberNow 59 = .ok (.aload_n 0, 1) := by decide +kernel
theorem dX11_numberNow_60 : decode cX11_numberNow 60 = .ok (.getfield 191, 3) := by decide +kernel
theorem dX11_numberNow_63 : decode cX11_numberNow 63 = .ok (.ifCond .ne 10, 3) := by decide +kernel
theorem dX11_numberNow_66 : decode cX11_numberNow 66 = .ok (.aload_n 0, 1) := by decide +kernel
theorem dX11_numberNow_67 : decode cX11_numberNow 67 = .ok (.getfield 175, 3) := by decide +kernel
theorem dX11_numberNow_70 : decode cX11_numberNow 70 = .ok (.goto 4, 3) := by decide +kernel
theorem dX11_numberNow_73 : decode cX11_numberNow 73 = .ok (.iconst 0, 1) := by decide +kernel
theorem dX11_numberNow_74 : decode cX11_numberNow 74 = .ok (.ireturn, 1) := by decide +kernel
set_option maxRecDepth 20000 in
theorem ggX11_readNumber_X11_numberNow : GoodIn wsX11_readNumber wsX11_numberNow := goodIn_r _ [6, 1, 7, 8, 9, 10, 11, 12, 13, 5, 14, 15, 41, 42, 43, 44, 45, 46, 47, 48, 49, 50, 51, 52, 53, 54, 55, 56, 57, 58, 59, 60, 61, 62, 63, 64, 65, 66, 67, 68, 69, 70, 71, 72, 73, 74, 75, 76, 77, 78, 79, 80, 81, 82, 83, 84, 85, 86, 87, 88, 89, 90, 91, 92, 93, 94, 95, 96, 97, 98] (by decide +kernel) (by decide +kernel)
set_option maxRecDepth 20000 in
theorem gX11_readNumber_X11_numberNow : GoodIn wsX11_readNumber (wsV RX11 219 RX11 yX11_numberNow wsX11_numberNow) := goodIn_app (goodIn_of _ (by decide +kernel)) ggX11_readNumber_X11_numberNow
set_option maxRecDepth 20000 in
theorem ggX11_readNumber_X11_stepOn : GoodIn wsX11_readNumber wsX11_stepOn := goodIn_r _ [19, 20, 9, 7, 10, 21, 22, 23, 24, 25, 8, 26, 27, 28, 5, 29, 30, 31, 32, 33, 34, 35, 36, 37, 38, 39, 40, 41, 42, 43, 44, 45, 46, 47, 48, 49, 50, 51, 52, 53, 54, 55, 56, 57, 58, 59, 60, 61, 62, 63, 64, 65, 66, 67, 68, 69, 70, 71, 72, 73, 74, 75, 76, 77, 78, 79, 80, 81, 82, 83, 84, 85, 86, 87, 88, 89, 90, 91, 92, 93, 94, 95, 96, 97, 98] (by decide +kernel) (by decide +kernel)
set_option maxRecDepth 20000 in
theorem gX11_readNumber_X11_stepOn : GoodIn wsX11_readNumber (wsV RX11 216 RX11 yX11_stepOn wsX11_stepOn) := goodIn_app (goodIn_of _ (by decide +kernel)) ggX11_readNumber_X11_stepOn
theorem dX11_readNumber_0 : decode cX11_readNumber 0 = .ok (.aload_n 0, 1) := by decide +kernel
theorem dX11_readNumber_1 : decode cX11_readNumber 1 = .ok (.iload_n 1, 1) := by decide +kernel
theorem dX11_readNumber_2 : decode cX11_readNumber 2 = .ok (.iload_n 2, 1) := by decide +kernel
theorem dX11_readNumber_3 : decode cX11_readNumber 3 = .ok (.invokevirtual 219, 3) := by decide +kernel
theorem dX11_readNumber_6 : decode cX11_readNumber 6 = .ok (.istore_n 3, 1) := by decide +kernel
theorem dX11_readNumber_7 : decode cX11_readNumber 7 = .ok (.aload_n 0, 1) := by decide +kernel
theorem dX11_readNumber_8 : decode cX11_readNumber 8 = .ok (.getfield 191, 3) := by decide +kernel
theorem dX11_readNumber_11 : decode cX11_readNumber 11 = .ok (.ifCond .ne 7, 3) := by decide +kernel
theorem dX11_readNumber_14 : decode cX11_readNumber 14 = .ok (.aload_n 0, 1) := by decide +kernel
theorem dX11_readNumber_15 : decode cX11_readNumber 15 = .ok (.invokevirtual 216, 3) := by decide +kernel
theorem dX11_readNumber_18 : decode cX11_readNumber 18 = .ok (.iload_n 3, 1) := by decide +kernel
theorem dX11_readNumber_19 : decode cX11_readNumber 19 = .ok (.ireturn, 1) := by decide +kernel
set_option maxRecDepth 20000 in
theorem ggX11_oneNow_X11_numberNow : GoodIn wsX11_oneNow wsX11_numberNow := goodIn_r _ [7, 1, 8, 9, 10, 11, 12, 13, 14, 6, 15, 16, 17, 18, 19, 20, 21, 22, 23, 24, 25, 26, 27, 28, 29, 30, 31, 32, 33, 34, 35, 36, 37, 38, 39, 40, 41, 42, 43, 44, 45, 46, 47, 48, 49, 50, 51, 52, 53, 54, 55, 56, 57, 58, 59, 60, 61, 62, 63, 64, 65, 66, 67, 68, 69, 70, 71, 72, 73, 74] (by decide +kernel) (by decide +kernel)
set_option maxRecDepth 20000 in
theorem gX11_oneNow_X11_numberNow : GoodIn wsX11_oneNow (wsV RX11 219 RX11 yX11_numberNow wsX11_numberNow) := goodIn_app (goodIn_of _ (by decide +kernel)) ggX11_oneNow_X11_numberNow
set_option maxRecDepth 20000 in
theorem ggX11_oneNow_X11_wrong : GoodIn wsX11_oneNow wsX11_wrong := goodIn_r _ [15, 1, 10, 16, 17, 18, 19, 20, 21, 22, 23, 24, 25, 26, 27, 28, 29, 30, 31, 32, 33, 34, 35, 36, 37, 38, 39, 40, 41, 42, 43, 44, 45, 46, 47, 48, 49, 50, 51, 52, 53, 54, 55, 56, 57, 58, 59, 60, 61, 62, 63, 64, 65, 66, 67, 68, 69, 70, 71, 72, 73, 74] (by decide +kernel) (by decide +kernel)
set_option maxRecDepth 20000 in
theorem gX11_oneNow_X11_wrong : GoodIn wsX11_oneNow (wsV RX11 212 RX11 yX11_wrong wsX11_wrong) := goodIn_app (goodIn_of _ (by decide +kernel)) ggX11_oneNow_X11_wrong
theorem dX11_oneNow_0 : decode cX11_oneNow 0 = .ok (.aload_n 0, 1) := by decide +kernel
theorem dX11_oneNow_1 : decode cX11_oneNow 1 = .ok (.iconst 0, 1) := by decide +kernel
theorem dX11_oneNow_2 : decode cX11_oneNow 2 = .ok (.sipush 9999, 3) := by decide +kernel
theorem dX11_oneNow_5 : decode cX11_oneNow 5 = .ok (.invokevirtual 219, 3) := by decide +kernel
theorem dX11_oneNow_8 : decode cX11_oneNow 8 = .ok (.istore_n 2, 1) := by decide +kernel
theorem dX11_oneNow_9 : decode cX11_oneNow 9 = .ok (.aload_n 0, 1) := by decide +kernel
theorem dX11_oneNow_10 : decode cX11_oneNow 10 = .ok (.getfield 191, 3) := by decide +kernel
theorem dX11_oneNow_13 : decode cX11_oneNow 13 = .ok (.ifCond .ne 20, 3) := by decide +kernel
theorem dX11_oneNow_16 : decode cX11_oneNow 16 = .ok (.iload_n 2, 1) := by decide +kernel
theorem dX11_oneNow_17 : decode cX11_oneNow 17 = .ok (.aload_n 0, 1) := by decide +kernel
theorem dX11_oneNow_18 : decode cX11_oneNow 18 = .ok (.getfield 38, 3) := by decide +kernel
theorem dX11_oneNow_21 : decode cX11_oneNow 21 = .ok (.iconst 4, 1) := by decide +kernel
theorem dX11_oneNow_22 : decode cX11_oneNow 22 = .ok (.iload_n 1, 1) := by decide +kernel
theorem dX11_oneNow_23 : decode cX11_oneNow 23 = .ok (.iadd, 1) := by decide +kernel
theorem dX11_oneNow_24 : decode cX11_oneNow 24 = .ok (.iaload, 1) := by decide +kernel
theorem dX11_oneNow_25 : decode cX11_oneNow 25 = .ok (.if_icmp .lt 8, 3) := by decide +kernel
theorem dX11_oneNow_28 : decode cX11_oneNow 28 = .ok (.aload_n 0, 1) := by decide +kernel
theorem dX11_oneNow_29 : decode cX11_oneNow 29 = .ok (.iconst 3, 1) := by decide +kernel
theorem dX11_oneNow_30 : decode cX11_oneNow 30 = .ok (.invokevirtual 212, 3) := by decide +kernel
theorem dX11_oneNow_33 : decode cX11_oneNow 33 = .ok (.aload_n 0, 1) := by decide +kernel
theorem dX11_oneNow_34 : decode cX11_oneNow 34 = .ok (.getfield 191, 3) := by decide +kernel
theorem dX11_oneNow_37 : decode cX11_oneNow 37 = .ok (.ifCond .ne 7, 3) := by decide +kernel
theorem dX11_oneNow_40 : decode cX11_oneNow 40 = .ok (.iload_n 2, 1) := by decide +kernel
theorem dX11_oneNow_41 : decode cX11_oneNow 41 = .ok (.goto 4, 3) := by decide +kernel
theorem dX11_oneNow_44 : decode cX11_oneNow 44 = .ok (.iconst 0, 1) := by decide +kernel
theorem dX11_oneNow_45 : decode cX11_oneNow 45 = .ok (.ireturn, 1) := by decide +kernel
theorem dX11_lay_0 : decode cX11_lay 0 = .ok (.aload_n 0, 1) := by decide +kernel
theorem dX11_lay_1 : decode cX11_lay 1 = .ok (.getfield 191, 3) := by decide +kernel
theorem dX11_lay_4 : decode cX11_lay 4 = .ok (.ifCond .eq 4, 3) := by decide +kernel
theorem dX11_lay_7 : decode cX11_lay 7 = .ok (.return_, 1) := by decide +kernel
theorem dX11_lay_8 : decode cX11_lay 8 = .ok (.aload_n 0, 1) := by decide +kernel
theorem dX11_lay_9 : decode cX11_lay 9 = .ok (.getfield 59, 3) := by decide +kernel
theorem dX11_lay_12 : decode cX11_lay 12 = .ok (.sipush 600, 3) := by decide +kernel
theorem dX11_lay_15 : decode cX11_lay 15 = .ok (.aload_n 0, 1) := by decide +kernel
theorem dX11_lay_16 : decode cX11_lay 16 = .ok (.getfield 38, 3) := by decide +kernel
theorem dX11_lay_19 : decode cX11_lay 19 = .ok (.bipush 7, 2) := by decide +kernel
theorem dX11_lay_21 : decode cX11_lay 21 = .ok (.iaload, 1) := by decide +kernel
theorem dX11_lay_22 : decode cX11_lay 22 = .ok (.iadd, 1) := by decide +kernel
theorem dX11_lay_23 : decode cX11_lay 23 = .ok (.iload_n 1, 1) := by decide +kernel
theorem dX11_lay_24 : decode cX11_lay 24 = .ok (.iastore, 1) := by decide +kernel
theorem dX11_lay_25 : decode cX11_lay 25 = .ok (.aload_n 0, 1) := by decide +kernel
theorem dX11_lay_26 : decode cX11_lay 26 = .ok (.getfield 38, 3) := by decide +kernel
theorem dX11_lay_29 : decode cX11_lay 29 = .ok (.bipush 7, 2) := by decide +kernel
theorem dX11_lay_31 : decode cX11_lay 31 = .ok (.dup2, 1) := by decide +kernel
theorem dX11_lay_32 : decode cX11_lay 32 = .ok (.iaload, 1) := by decide +kernel
theorem dX11_lay_33 : decode cX11_lay 33 = .ok (.iconst 1, 1) := by decide +kernel
theorem dX11_lay_34 : decode cX11_lay 34 = .ok (.iadd, 1) := by decide +kernel
theorem dX11_lay_35 : decode cX11_lay 35 = .ok (.iastore, 1) := by decide +kernel
theorem dX11_lay_36 : decode cX11_lay 36 = .ok (.return_, 1) := by decide +kernel
set_option maxRecDepth 20000 in
theorem ggX11_readPart_X11_readNumber : GoodIn wsX11_readPart wsX11_readNumber := goodIn_r _ [8, 1, 9, 10, 11, 7, 12, 2, 13, 14, 15, 16, 17, 18, 19, 20, 21, 22, 23, 24, 25, 26, 27, 28, 29, 30, 31, 32, 33, 34, 35, 36, 37, 38, 39, 40, 41, 42, 43, 44, 45, 140, 141, 142, 143, 144, 145, 146, 147, 148, 149, 150, 151, 152, 153, 154, 155, 156, 157, 158, 159, 160, 161, 162, 163, 164, 165, 166, 167, 168, 169, 170, 171, 172, 173, 174, 175, 176, 177, 178, 179, 180, 181, 182, 183, 184, 185, 186, 187, 188, 189, 190, 191, 192, 193, 194, 195, 196, 197] (by decide +kernel) (by decide +kernel)
set_option maxRecDepth 20000 in
theorem gX11_readPart_X11_readNumber : GoodIn wsX11_readPart (wsV RX11 222 RX11 yX11_readNumber wsX11_readNumber) := goodIn_app (goodIn_of _ (by decide +kernel)) ggX11_readPart_X11_readNumber
set_option maxRecDepth 20000 in
theorem ggX11_readPart_X11_lay : GoodIn wsX11_readPart wsX11_lay := goodIn_r _ [49, 1, 50, 51, 140, 141, 142, 143, 144, 145, 146, 147, 148, 149, 150, 151, 152, 153, 154, 155, 156, 157, 158, 159, 160, 161, 162, 163, 164, 165, 166, 167, 168, 169, 170, 171, 172, 173, 174, 175, 176, 177, 178, 179, 180, 181, 182, 183, 184, 185, 186, 187, 188, 189, 190, 191, 192, 193, 194, 195, 196, 197] (by decide +kernel) (by decide +kernel)
set_option maxRecDepth 20000 in
theorem gX11_readPart_X11_lay : GoodIn wsX11_readPart (wsV RX11 225 RX11 yX11_lay wsX11_lay) := goodIn_app (goodIn_of _ (by decide +kernel)) ggX11_readPart_X11_lay
set_option maxRecDepth 20000 in
theorem ggX11_readPart_X11_which : GoodIn wsX11_readPart wsX11_which := goodIn_r _ [55, 56, 57, 58, 7, 59, 1, 2, 13, 14, 36, 60, 61, 62, 63, 64, 65, 66, 67, 68, 69, 70, 71, 72, 73, 74, 75, 76, 77, 78, 79, 80, 81, 82, 83, 84, 85, 86, 87, 88, 89, 90, 91, 92, 93, 94, 95, 96, 97, 98, 99, 100, 101, 102, 103, 104, 105, 106, 107, 108, 140, 141, 142, 143, 144, 145, 146, 147, 148, 149, 150, 151, 152, 153, 154, 155, 156, 157, 158, 159, 160, 161, 162, 163, 164, 165, 166, 167, 168, 169, 170, 171, 172, 173, 174, 175, 176, 177, 178, 179, 180, 181, 182, 183, 184, 185, 186, 187, 188, 189, 190, 191, 192, 193, 194, 195, 196, 197] (by decide +kernel) (by decide +kernel)
set_option maxRecDepth 20000 in
theorem gX11_readPart_X11_which : GoodIn wsX11_readPart (wsV RX11 228 RX11 yX11_which wsX11_which) := goodIn_app (goodIn_of _ (by decide +kernel)) ggX11_readPart_X11_which
set_option maxRecDepth 20000 in
theorem ggX11_readPart_X11_wrong : GoodIn wsX11_readPart wsX11_wrong := goodIn_r _ [19, 1, 14, 20, 140, 141, 142, 143, 144, 145, 146, 147, 148, 149, 150, 151, 152, 153, 154, 155, 156, 157, 158, 159, 160, 161, 162, 163, 164, 165, 166, 167, 168, 169, 170, 171, 172, 173, 174, 175, 176, 177, 178, 179, 180, 181, 182, 183, 184, 185, 186, 187, 188, 189, 190, 191, 192, 193, 194, 195, 196, 197] (by decide +kernel) (by decide +kernel)
set_option maxRecDepth 20000 in
theorem gX11_readPart_X11_wrong : GoodIn wsX11_readPart (wsV RX11 212 RX11 yX11_wrong wsX11_wrong) := goodIn_app (goodIn_of _ (by decide +kernel)) ggX11_readPart_X11_wrong
set_option maxRecDepth 20000 in
theorem ggX11_readPart_X11_stepOn : GoodIn wsX11_readPart wsX11_stepOn := goodIn_r _ [24, 25, 14, 2, 15, 26, 27, 28, 29, 30, 13, 31, 32, 33, 7, 34, 35, 36, 37, 38, 39, 40, 41, 42, 43, 44, 45, 140, 141, 142, 143, 144, 145, 146, 147, 148, 149, 150, 151, 152, 153, 154, 155, 156, 157, 158, 159, 160, 161, 162, 163, 164, 165, 166, 167, 168, 169, 170, 171, 172, 173, 174, 175, 176, 177, 178, 179, 180, 181, 182, 183, 184, 185, 186, 187, 188, 189, 190, 191, 192, 193, 194, 195, 196, 197] (by decide +kernel) (by decide +kernel)
set_option maxRecDepth 20000 in
theorem gX11_readPart_X11_stepOn : GoodIn wsX11_readPart (wsV RX11 216 RX11 yX11_stepOn wsX11_stepOn) := goodIn_app (goodIn_of _ (by decide +kernel)) ggX11_readPart_X11_stepOn
set_option maxRecDepth 20000 in
theorem ggX11_readPart_X11_mark : GoodIn wsX11_readPart wsX11_mark := goodIn_r _ [112, 1, 113, 114, 115, 7, 116, 2, 36, 14, 16, 17, 18, 19, 20, 21, 22, 23, 24, 25, 15, 26, 27, 28, 29, 30, 13, 31, 32, 33, 34, 35, 37, 38, 39, 40, 41, 42, 43, 44, 45, 140, 141, 142, 143, 144, 145, 146, 147, 148, 149, 150, 151, 152, 153, 154, 155, 156, 157, 158, 159, 160, 161, 162, 163, 164, 165, 166, 167, 168, 169, 170, 171, 172, 173, 174, 175, 176, 177, 178, 179, 180, 181, 182, 183, 184, 185, 186, 187, 188, 189, 190, 191, 192, 193, 194, 195, 196, 197] (by decide +kernel) (by decide +kernel)
set_option maxRecDepth 20000 in
theorem gX11_readPart_X11_mark : GoodIn wsX11_readPart (wsV RX11 232 RX11 yX11_mark wsX11_mark) := goodIn_app (goodIn_of _ (by decide +kernel)) ggX11_readPart_X11_mark
set_option maxRecDepth 20000 in
theorem ggX11_readPart_X11_readExpression : GoodIn wsX11_readPart wsX11_readExpression := goodIn_r _ [124, 1, 2, 113, 114, 115, 7, 116, 36, 14, 16, 17, 18, 19, 20, 125, 126, 127, 56, 57, 58, 59, 13, 60, 61, 62, 63, 64, 65, 66, 67, 68, 69, 70, 71, 72, 73, 74, 75, 76, 77, 78, 79, 80, 81, 82, 83, 84, 85, 86, 87, 88, 89, 90, 91, 92, 93, 94, 95, 96, 97, 98, 99, 100, 101, 102, 103, 104, 105, 106, 107, 108, 21, 22, 23, 24, 25, 15, 26, 27, 28, 29, 30, 31, 32, 33, 34, 35, 37, 38, 39, 40, 41, 42, 43, 44, 45, 46, 47, 48, 49, 50, 51, 120, 121, 122, 123, 128, 129, 130, 131, 0, 3, 4, 5, 6, 8, 9, 10, 11, 12, 52, 53, 54, 55, 109, 110, 111, 112, 117, 118, 119, 132, 133, 134, 135, 136, 137, 138, 139, 140, 141, 142, 143, 144, 145, 146, 147, 148, 149, 150, 151, 152, 153, 154, 155, 156, 157, 158, 159, 160, 161, 162, 163, 164, 165, 166, 167, 168, 169, 170, 171, 172, 173, 174, 175, 176, 177, 178, 179, 180, 181, 182, 183, 184, 185, 186, 187, 188, 189, 190, 191, 192, 193, 194, 195, 196, 197] (by decide +kernel) (by decide +kernel)
set_option maxRecDepth 20000 in
theorem gX11_readPart_X11_readExpression : GoodIn wsX11_readPart (wsV RX11 235 RX11 yX11_readExpression wsX11_readExpression) := goodIn_app (goodIn_of _ (by decide +kernel)) ggX11_readPart_X11_readExpression
theorem dX11_readPart_0 : decode cX11_readPart 0 = .ok (.aload_n 0, 1) := by decide +kernel
theorem dX11_readPart_1 : decode cX11_readPart 1 = .ok (.getfield 191, 3) := by decide +kernel
theorem dX11_readPart_4 : decode cX11_readPart 4 = .ok (.ifCond .eq 4, 3) := by decide +kernel
theorem dX11_readPart_7 : decode cX11_readPart 7 = .ok (.return_, 1) := by decide +kernel
theorem dX11_readPart_8 : decode cX11_readPart 8 = .ok (.aload_n 0, 1) := by decide +kernel
theorem dX11_readPart_9 : decode cX11_readPart 9 = .ok (.getfield 165, 3) := by decide +kernel
theorem dX11_readPart_12 : decode cX11_readPart 12 = .ok (.iconst 2, 1) := by decide +kernel
theorem dX11_readPart_13 : decode cX11_readPart 13 = .ok (.if_icmp .ne 16, 3) := by decide +kernel
theorem dX11_readPart_16 : decode cX11_readPart 16 = .ok (.aload_n 0, 1) := by decide +kernel
theorem dX11_readPart_17 : decode cX11_readPart 17 = .ok (.aload_n 0, 1) := by decide +kernel
theorem dX11_readPart_18 : decode cX11_readPart 18 = .ok (.iconst 0, 1) := by decide +kernel
theorem dX11_readPart_19 : decode cX11_readPart 19 = .ok (.sipush 9999, 3) := by decide +kernel
theorem dX11_readPart_22 : decode cX11_readPart 22 = .ok (.invokevirtual 222, 3) := by decide +kernel
theorem dX11_readPart_25 : decode cX11_readPart 25 = .ok (.invokevirtual 225, 3) := by decide +kernel
theorem dX11_readPart_28 : decode cX11_readPart 28 = .ok (.return_, 1) := by decide +kernel
theorem dX11_readPart_29 : decode cX11_readPart 29 = .ok (.aload_n 0, 1) := by decide +kernel
theorem dX11_readPart_30 : decode cX11_readPart 30 = .ok (.getfield 165, 3) := by decide +kernel
theorem dX11_readPart_33 : decode cX11_readPart 33 = .ok (.iconst 1, 1) := by decide +kernel
theorem dX11_readPart_34 : decode cX11_readPart 34 = .ok (.if_icmp .ne 41, 3) := by decide +kernel
theorem dX11_readPart_37 : decode cX11_readPart 37 = .ok (.aload_n 0, 1) := by decide +kernel
theorem dX11_readPart_38 : decode cX11_readPart 38 = .ok (.aload_n 0, 1) := by decide +kernel
theorem dX11_readPart_39 : decode cX11_readPart 39 = .ok (.getfield 35, 3) := by decide +kernel
theorem dX11_readPart_42 : decode cX11_readPart 42 = .ok (.invokevirtual 228, 3) := by decide +kernel
theorem dX11_readPart_45 : decode cX11_readPart 45 = .ok (.istore_n 2, 1) := by decide +kernel
theorem dX11_readPart_46 : decode cX11_readPart 46 = .ok (.iload_n 2, 1) := by decide +kernel
theorem dX11_readPart_47 : decode cX11_readPart 47 = .ok (.iconst (-1), 1) := by decide +kernel
theorem dX11_readPart_48 : decode cX11_readPart 48 = .ok (.if_icmp .ne 8, 3) := by decide +kernel
theorem dX11_readPart_51 : decode cX11_readPart 51 = .ok (.aload_n 0, 1) := by decide +kernel
theorem dX11_readPart_52 : decode cX11_readPart 52 = .ok (.iconst 3, 1) := by decide +kernel
theorem dX11_readPart_53 : decode cX11_readPart 53 = .ok (.invokevirtual 212, 3) := by decide +kernel
theorem dX11_readPart_56 : decode cX11_readPart 56 = .ok (.aload_n 0, 1) := by decide +kernel
theorem dX11_readPart_57 : decode cX11_readPart 57 = .ok (.iconst (-1), 1) := by decide +kernel
theorem dX11_readPart_58 : decode cX11_readPart 58 = .ok (.iload_n 2, 1) := by decide +kernel
theorem dX11_readPart_59 : decode cX11_readPart 59 = .ok (.isub, 1) := by decide +kernel
theorem dX11_readPart_60 : decode cX11_readPart 60 = .ok (.invokevirtual 225, 3) := by decide +kernel
theorem dX11_readPart_63 : decode cX11_readPart 63 = .ok (.aload_n 0, 1) := by decide +kernel
theorem dX11_readPart_64 : decode cX11_readPart 64 = .ok (.getfield 191, 3) := by decide +kernel
theorem dX11_readPart_67 : decode cX11_readPart 67 = .ok (.ifCond .ne 7, 3) := by decide +kernel
theorem dX11_readPart_70 : decode cX11_readPart 70 = .ok (.aload_n 0, 1) := by decide +kernel
theorem dX11_readPart_71 : decode cX11_readPart 71 = .ok (.invokevirtual 216, 3) := by decide +kernel
theorem dX11_readPart_74 : decode cX11_readPart 74 = .ok (.return_, 1) := by decide +kernel
theorem dX11_readPart_75 : decode cX11_readPart 75 = .ok (.aload_n 0, 1) := by decide +kernel
theorem dX11_readPart_76 : decode cX11_readPart 76 = .ok (.bipush 40, 2) := by decide +kernel
theorem dX11_readPart_78 : decode cX11_readPart 78 = .ok (.invokevirtual 232, 3) := by decide +kernel
theorem dX11_readPart_81 : decode cX11_readPart 81 = .ok (.aload_n 0, 1) := by decide +kernel
theorem dX11_readPart_82 : decode cX11_readPart 82 = .ok (.iload_n 1, 1) := by decide +kernel
theorem dX11_readPart_83 : decode cX11_readPart 83 = .ok (.iconst 1, 1) := by decide +kernel
theorem dX11_readPart_84 : decode cX11_readPart 84 = .ok (.iadd, 1) := by decide +kernel
theorem dX11_readPart_85 : decode cX11_readPart 85 = .ok (.invokevirtual 235, 3) := by decide +kernel
theorem dX11_readPart_88 : decode cX11_readPart 88 = .ok (.aload_n 0, 1) := by decide +kernel
theorem dX11_readPart_89 : decode cX11_readPart 89 = .ok (.bipush 41, 2) := by decide +kernel
theorem dX11_readPart_91 : decode cX11_readPart 91 = .ok (.invokevirtual 232, 3) := by decide +kernel
theorem dX11_readPart_94 : decode cX11_readPart 94 = .ok (.return_, 1) := by decide +kernel
set_option maxRecDepth 20000 in
theorem ggX11_readProduct_X11_readPart : GoodIn wsX11_readProduct wsX11_readPart := goodIn_r _ [115, 9, 10, 116, 117, 118, 119, 4, 120, 121, 122, 123, 124, 24, 12, 18, 103, 104, 105, 106, 107, 13, 14, 15, 16, 17, 19, 20, 21, 22, 23, 25, 26, 27, 28, 29, 11, 30, 31, 32, 33, 34, 35, 36, 37, 38, 39, 40, 41, 42, 43, 44, 125, 126, 127, 128, 49, 50, 51, 52, 53, 54, 55, 56, 57, 58, 59, 60, 61, 62, 63, 64, 65, 66, 67, 68, 69, 70, 71, 72, 73, 74, 75, 76, 77, 78, 79, 80, 81, 82, 83, 84, 85, 86, 87, 88, 89, 90, 91, 92, 93, 94, 95, 96, 97, 98, 99, 100, 101, 129, 130, 131, 132, 5, 6, 7, 8, 133, 134, 135, 45, 46, 47, 48, 102, 108, 109, 110, 111, 112, 113, 114, 0, 1, 2, 3, 136, 137, 138, 139, 140, 141, 142, 143, 144, 145, 146, 147, 148, 149, 150, 151, 152, 153, 154, 155, 156, 157, 158, 159, 160, 161, 162, 163, 164, 165, 166, 167, 168, 169, 170, 171, 172, 173, 174, 175, 176, 177, 178, 179, 180, 181, 182, 183, 184, 185, 186, 187, 188, 189, 190, 191, 192, 193, 194, 195, 196, 197] (by decide +kernel) (by decide +kernel)
set_option maxRecDepth 20000 in
theorem gX11_readProduct_X11_readPart : GoodIn wsX11_readProduct (wsV RX11 238 RX11 yX11_readPart wsX11_readPart) := goodIn_app (goodIn_of _ (by decide +kernel)) ggX11_readProduct_X11_readPart
set_option maxRecDepth 20000 in
theorem ggX11_readProduct_X11_isMarked : GoodIn wsX11_readProduct wsX11_isMarked := goodIn_r _ [8, 9, 10, 11, 12, 140, 141, 142, 143, 144, 145, 146, 147, 148, 149, 150, 151, 152, 153, 154, 155, 156, 157, 158, 159, 160, 161, 162, 163, 164, 165, 166, 167, 168, 169, 170, 171, 172, 173, 174, 175, 176, 177, 178, 179, 180, 181, 182, 183, 184, 185, 186, 187, 188, 189, 190, 191, 192, 193, 194, 195, 196, 197] (by decide +kernel) (by decide +kernel)
set_option maxRecDepth 20000 in
theorem gX11_readProduct_X11_isMarked : GoodIn wsX11_readProduct (wsV RX11 209 RX11 yX11_isMarked wsX11_isMarked) := goodIn_app (goodIn_of _ (by decide +kernel)) ggX11_readProduct_X11_isMarked
set_option maxRecDepth 20000 in
theorem ggX11_readProduct_X11_stepOn : GoodIn wsX11_readProduct wsX11_stepOn := goodIn_r _ [16, 17, 12, 10, 18, 19, 20, 21, 22, 23, 24, 25, 26, 27, 4, 28, 29, 11, 30, 31, 32, 33, 34, 35, 36, 37, 38, 140, 141, 142, 143, 144, 145, 146, 147, 148, 149, 150, 151, 152, 153, 154, 155, 156, 157, 158, 159, 160, 161, 162, 163, 164, 165, 166, 167, 168, 169, 170, 171, 172, 173, 174, 175, 176, 177, 178, 179, 180, 181, 182, 183, 184, 185, 186, 187, 188, 189, 190, 191, 192, 193, 194, 195, 196, 197] (by decide +kernel) (by decide +kernel)
set_option maxRecDepth 20000 in
theorem gX11_readProduct_X11_stepOn : GoodIn wsX11_readProduct (wsV RX11 216 RX11 yX11_stepOn wsX11_stepOn) := goodIn_app (goodIn_of _ (by decide +kernel)) ggX11_readProduct_X11_stepOn
set_option maxRecDepth 20000 in
theorem ggX11_readProduct_X11_lay : GoodIn wsX11_readProduct wsX11_lay := goodIn_r _ [42, 9, 43, 44, 140, 141, 142, 143, 144, 145, 146, 147, 148, 149, 150, 151, 152, 153, 154, 155, 156, 157, 158, 159, 160, 161, 162, 163, 164, 165, 166, 167, 168, 169, 170, 171, 172, 173, 174, 175, 176, 177, 178, 179, 180, 181, 182, 183, 184, 185, 186, 187, 188, 189, 190, 191, 192, 193, 194, 195, 196, 197] (by decide +kernel) (by decide +kernel)
set_option maxRecDepth 20000 in
theorem gX11_readProduct_X11_lay : GoodIn wsX11_readProduct (wsV RX11 225 RX11 yX11_lay wsX11_lay) := goodIn_app (goodIn_of _ (by decide +kernel)) ggX11_readProduct_X11_lay
theorem dX11_readProduct_0 : decode cX11_readProduct 0 = .ok (.aload_n 0, 1) := by decide +kernel
theorem dX11_readProduct_1 : decode cX11_readProduct 1 = .ok (.iload_n 1, 1) := by decide +kernel
theorem dX11_readProduct_2 : decode cX11_readProduct 2 = .ok (.invokevirtual 238, 3) := by decide +kernel
theorem dX11_readProduct_5 : decode cX11_readProduct 5 = .ok (.aload_n 0, 1) := by decide +kernel
theorem dX11_readProduct_6 : decode cX11_readProduct 6 = .ok (.bipush 42, 2) := by decide +kernel
theorem dX11_readProduct_8 : decode cX11_readProduct 8 = .ok (.invokevirtual 209, 3) := by decide +kernel
theorem dX11_readProduct_11 : decode cX11_readProduct 11 = .ok (.ifCond .ne 12, 3) := by decide +kernel
theorem dX11_readProduct_14 : decode cX11_readProduct 14 = .ok (.aload_n 0, 1) := by decide +kernel
theorem dX11_readProduct_15 : decode cX11_readProduct 15 = .ok (.bipush 47, 2) := by decide +kernel
theorem dX11_readProduct_17 : decode cX11_readProduct 17 = .ok (.invokevirtual 209, 3) := by decide +kernel
theorem dX11_readProduct_20 : decode cX11_readProduct 20 = .ok (.ifCond .eq 37, 3) := by decide +kernel
theorem dX11_readProduct_23 : decode cX11_readProduct 23 = .ok (.aload_n 0, 1) := by decide +kernel
theorem dX11_readProduct_24 : decode cX11_readProduct 24 = .ok (.bipush 42, 2) := by decide +kernel
theorem dX11_readProduct_26 : decode cX11_readProduct 26 = .ok (.invokevirtual 209, 3) := by decide +kernel
theorem dX11_readProduct_29 : decode cX11_readProduct 29 = .ok (.ifCond .eq 8, 3) := by decide +kernel
theorem dX11_readProduct_32 : decode cX11_readProduct 32 = .ok (.bipush (-22), 2) := by decide +kernel
theorem dX11_readProduct_34 : decode cX11_readProduct 34 = .ok (.goto 5, 3) := by decide +kernel
theorem dX11_readProduct_37 : decode cX11_readProduct 37 = .ok (.bipush (-23), 2) := by decide +kernel
theorem dX11_readProduct_39 : decode cX11_readProduct 39 = .ok (.istore_n 2, 1) := by decide +kernel
theorem dX11_readProduct_40 : decode cX11_readProduct 40 = .ok (.aload_n 0, 1) := by decide +kernel
theorem dX11_readProduct_41 : decode cX11_readProduct 41 = .ok (.invokevirtual 216, 3) := by decide +kernel
theorem dX11_readProduct_44 : decode cX11_readProduct 44 = .ok (.aload_n 0, 1) := by decide +kernel
theorem dX11_readProduct_45 : decode cX11_readProduct 45 = .ok (.iload_n 1, 1) := by decide +kernel
theorem dX11_readProduct_46 : decode cX11_readProduct 46 = .ok (.invokevirtual 238, 3) := by decide +kernel
theorem dX11_readProduct_49 : decode cX11_readProduct 49 = .ok (.aload_n 0, 1) := by decide +kernel
theorem dX11_readProduct_50 : decode cX11_readProduct 50 = .ok (.iload_n 2, 1) := by decide +kernel
theorem dX11_readProduct_51 : decode cX11_readProduct 51 = .ok (.invokevirtual 225, 3) := by decide +kernel
theorem dX11_readProduct_54 : decode cX11_readProduct 54 = .ok (.goto (-49), 3) := by decide +kernel
theorem dX11_readProduct_57 : decode cX11_readProduct 57 = .ok (.return_, 1) := by decide +kernel
set_option maxRecDepth 20000 in
theorem ggX11_readSum_X11_readProduct : GoodIn wsX11_readSum wsX11_readProduct := goodIn_r _ [136, 137, 138, 139, 4, 5, 6, 7, 8, 9, 10, 11, 12, 13, 14, 15, 16, 17, 18, 19, 20, 21, 22, 23, 24, 25, 26, 27, 28, 29, 30, 31, 32, 33, 34, 35, 36, 37, 38, 39, 40, 41, 42, 43, 44, 45, 46, 47, 48, 49, 50, 51, 52, 53, 54, 55, 56, 57, 58, 59, 60, 61, 62, 63, 64, 65, 66, 67, 68, 69, 70, 71, 72, 73, 74, 75, 76, 77, 78, 79, 80, 81, 82, 83, 84, 85, 86, 87, 88, 89, 90, 91, 92, 93, 94, 95, 96, 97, 98, 99, 100, 101, 102, 103, 104, 105, 106, 107, 108, 109, 110, 111, 112, 113, 114, 115, 116, 117, 118, 119, 120, 121, 122, 123, 124, 125, 126, 127, 128, 129, 130, 131, 132, 133, 134, 135, 0, 1, 2, 3, 140, 141, 142, 143, 144, 145, 146, 147, 148, 149, 150, 151, 152, 153, 154, 155, 156, 157, 158, 159, 160, 161, 162, 163, 164, 165, 166, 167, 168, 169, 170, 171, 172, 173, 174, 175, 176, 177, 178, 179, 180, 181, 182, 183, 184, 185, 186, 187, 188, 189, 190, 191, 192, 193, 194, 195, 196, 197] (by decide +kernel) (by decide +kernel)
set_option maxRecDepth 20000 in
theorem gX11_readSum_X11_readProduct : GoodIn wsX11_readSum (wsV RX11 241 RX11 yX11_readProduct wsX11_readProduct) := goodIn_app (goodIn_of _ (by decide +kernel)) ggX11_readSum_X11_readProduct
set_option maxRecDepth 20000 in
theorem ggX11_readSum_X11_isMarked : GoodIn wsX11_readSum wsX11_isMarked := goodIn_r _ [8, 9, 10, 11, 12, 140, 141, 142, 143, 144, 145, 146, 147, 148, 149, 150, 151, 152, 153, 154, 155, 156, 157, 158, 159, 160, 161, 162, 163, 164, 165, 166, 167, 168, 169, 170, 171, 172, 173, 174, 175, 176, 177, 178, 179, 180, 181, 182, 183, 184, 185, 186, 187, 188, 189, 190, 191, 192, 193, 194, 195, 196, 197] (by decide +kernel) (by decide +kernel)
set_option maxRecDepth 20000 in
theorem gX11_readSum_X11_isMarked : GoodIn wsX11_readSum (wsV RX11 209 RX11 yX11_isMarked wsX11_isMarked) := goodIn_app (goodIn_of _ (by decide +kernel)) ggX11_readSum_X11_isMarked
set_option maxRecDepth 20000 in
theorem ggX11_readSum_X11_stepOn : GoodIn wsX11_readSum wsX11_stepOn := goodIn_r _ [16, 17, 12, 10, 18, 19, 20, 21, 22, 23, 24, 25, 26, 27, 4, 28, 29, 11, 30, 31, 32, 33, 34, 35, 36, 37, 38, 140, 141, 142, 143, 144, 145, 146, 147, 148, 149, 150, 151, 152, 153, 154, 155, 156, 157, 158, 159, 160, 161, 162, 163, 164, 165, 166, 167, 168, 169, 170, 171, 172, 173, 174, 175, 176, 177, 178, 179, 180, 181, 182, 183, 184, 185, 186, 187, 188, 189, 190, 191, 192, 193, 194, 195, 196, 197] (by decide +kernel) (by decide +kernel)
set_option maxRecDepth 20000 in
theorem gX11_readSum_X11_stepOn : GoodIn wsX11_readSum (wsV RX11 216 RX11 yX11_stepOn wsX11_stepOn) := goodIn_app (goodIn_of _ (by decide +kernel)) ggX11_readSum_X11_stepOn
set_option maxRecDepth 20000 in
theorem ggX11_readSum_X11_lay : GoodIn wsX11_readSum wsX11_lay := goodIn_r _ [42, 9, 43, 44, 140, 141, 142, 143, 144, 145, 146, 147, 148, 149, 150, 151, 152, 153, 154, 155, 156, 157, 158, 159, 160, 161, 162, 163, 164, 165, 166, 167, 168, 169, 170, 171, 172, 173, 174, 175, 176, 177, 178, 179, 180, 181, 182, 183, 184, 185, 186, 187, 188, 189, 190, 191, 192, 193, 194, 195, 196, 197] (by decide +kernel) (by decide +kernel)
set_option maxRecDepth 20000 in
theorem gX11_readSum_X11_lay : GoodIn wsX11_readSum (wsV RX11 225 RX11 yX11_lay wsX11_lay) := goodIn_app (goodIn_of _ (by decide +kernel)) ggX11_readSum_X11_lay
theorem dX11_readSum_0 : decode cX11_readSum 0 = .ok (.aload_n 0, 1) := by decide +kernel
theorem dX11_readSum_1 : decode cX11_readSum 1 = .ok (.iload_n 1, 1) := by decide +kernel
theorem dX11_readSum_2 : decode cX11_readSum 2 = .ok (.invokevirtual 241, 3) := by decide +kernel
theorem dX11_readSum_5 : decode cX11_readSum 5 = .ok (.aload_n 0, 1) := by decide +kernel
theorem dX11_readSum_6 : decode cX11_readSum 6 = .ok (.bipush 43, 2) := by decide +kernel
theorem dX11_readSum_8 : decode cX11_readSum 8 = .ok (.invokevirtual 209, 3) := by decide +kernel
theorem dX11_readSum_11 : decode cX11_readSum 11 = .ok (.ifCond .ne 12, 3) := by decide +kernel
theorem dX11_readSum_14 : decode cX11_readSum 14 = .ok (.aload_n 0, 1) := by decide +kernel
theorem dX11_readSum_15 : decode cX11_readSum 15 = .ok (.bipush 45, 2) := by decide +kernel
theorem dX11_readSum_17 : decode cX11_readSum 17 = .ok (.invokevirtual 209, 3) := by decide +kernel
theorem dX11_readSum_20 : decode cX11_readSum 20 = .ok (.ifCond .eq 37, 3) := by decide +kernel
theorem dX11_readSum_23 : decode cX11_readSum 23 = .ok (.aload_n 0, 1) := by decide +kernel
theorem dX11_readSum_24 : decode cX11_readSum 24 = .ok (.bipush 43, 2) := by decide +kernel
theorem dX11_readSum_26 : decode cX11_readSum 26 = .ok (.invokevirtual 209, 3) := by decide +kernel
theorem dX11_readSum_29 : decode cX11_readSum 29 = .ok (.ifCond .eq 8, 3) := by decide +kernel
theorem dX11_readSum_32 : decode cX11_readSum 32 = .ok (.bipush (-20), 2) := by decide +kernel
theorem dX11_readSum_34 : decode cX11_readSum 34 = .ok (.goto 5, 3) := by decide +kernel
theorem dX11_readSum_37 : decode cX11_readSum 37 = .ok (.bipush (-21), 2) := by decide +kernel
theorem dX11_readSum_39 : decode cX11_readSum 39 = .ok (.istore_n 2, 1) := by decide +kernel
theorem dX11_readSum_40 : decode cX11_readSum 40 = .ok (.aload_n 0, 1) := by decide +kernel
theorem dX11_readSum_41 : decode cX11_readSum 41 = .ok (.invokevirtual 216, 3) := by decide +kernel
theorem dX11_readSum_44 : decode cX11_readSum 44 = .ok (.aload_n 0, 1) := by decide +kernel
theorem dX11_readSum_45 : decode cX11_readSum 45 = .ok (.iload_n 1, 1) := by decide +kernel
theorem dX11_readSum_46 : decode cX11_readSum 46 = .ok (.invokevirtual 241, 3) := by decide +kernel
theorem dX11_readSum_49 : decode cX11_readSum 49 = .ok (.aload_n 0, 1) := by decide +kernel
theorem dX11_readSum_50 : decode cX11_readSum 50 = .ok (.iload_n 2, 1) := by decide +kernel
theorem dX11_readSum_51 : decode cX11_readSum 51 = .ok (.invokevirtual 225, 3) := by decide +kernel
theorem dX11_readSum_54 : decode cX11_readSum 54 = .ok (.goto (-49), 3) := by decide +kernel
theorem dX11_readSum_57 : decode cX11_readSum 57 = .ok (.return_, 1) := by decide +kernel
set_option maxRecDepth 20000 in
theorem ggX11_readNot_X11_is : GoodIn wsX11_readNot wsX11_is := goodIn_r _ [6, 1, 7, 8, 9, 10, 11, 12, 13, 14, 15, 16, 17, 18, 19, 20, 21, 22, 23, 24, 25, 26, 27, 28, 29, 30, 31, 32, 33, 34, 35, 36, 37, 38, 39, 40, 41, 42, 43, 44, 45, 46, 47, 48, 49, 50, 51, 52, 53, 54, 55, 56, 57, 58, 59, 140, 141, 142, 143, 144, 145, 146, 147, 148, 149, 150, 151, 152, 153, 154, 155, 156, 157, 158, 159, 160, 161, 162, 163, 164, 165, 166, 167, 168, 169, 170, 171, 172, 173, 174, 175, 176, 177, 178, 179, 180, 181, 182, 183, 184, 185, 186, 187, 188, 189, 190, 191, 192, 193, 194, 195, 196, 197] (by decide +kernel) (by decide +kernel)
set_option maxRecDepth 20000 in
theorem gX11_readNot_X11_is : GoodIn wsX11_readNot (wsV RX11 205 RX11 yX11_is wsX11_is) := goodIn_app (goodIn_of _ (by decide +kernel)) ggX11_readNot_X11_is
set_option maxRecDepth 20000 in
theorem ggX11_readNot_X11_wrong : GoodIn wsX11_readNot wsX11_wrong := goodIn_r _ [63, 1, 9, 64, 140, 141, 142, 143, 144, 145, 146, 147, 148, 149, 150, 151, 152, 153, 154, 155, 156, 157, 158, 159, 160, 161, 162, 163, 164, 165, 166, 167, 168, 169, 170, 171, 172, 173, 174, 175, 176, 177, 178, 179, 180, 181, 182, 183, 184, 185, 186, 187, 188, 189, 190, 191, 192, 193, 194, 195, 196, 197] (by decide +kernel) (by decide +kernel)
set_option maxRecDepth 20000 in
theorem gX11_readNot_X11_wrong : GoodIn wsX11_readNot (wsV RX11 212 RX11 yX11_wrong wsX11_wrong) := goodIn_app (goodIn_of _ (by decide +kernel)) ggX11_readNot_X11_wrong
set_option maxRecDepth 20000 in
theorem ggX11_readNot_X11_stepOn : GoodIn wsX11_readNot wsX11_stepOn := goodIn_r _ [68, 69, 9, 7, 70, 71, 72, 73, 74, 75, 8, 76, 77, 78, 5, 79, 80, 10, 81, 82, 83, 84, 85, 86, 87, 88, 89, 140, 141, 142, 143, 144, 145, 146, 147, 148, 149, 150, 151, 152, 153, 154, 155, 156, 157, 158, 159, 160, 161, 162, 163, 164, 165, 166, 167, 168, 169, 170, 171, 172, 173, 174, 175, 176, 177, 178, 179, 180, 181, 182, 183, 184, 185, 186, 187, 188, 189, 190, 191, 192, 193, 194, 195, 196, 197] (by decide +kernel) (by decide +kernel)
set_option maxRecDepth 20000 in
theorem gX11_readNot_X11_stepOn : GoodIn wsX11_readNot (wsV RX11 216 RX11 yX11_stepOn wsX11_stepOn) := goodIn_app (goodIn_of _ (by decide +kernel)) ggX11_readNot_X11_stepOn
set_option maxRecDepth 20000 in
theorem ggX11_readNot_X11_readSum : GoodIn wsX11_readNot wsX11_readSum := goodIn_r _ [136, 137, 138, 139, 5, 93, 94, 95, 96, 1, 7, 10, 9, 65, 66, 67, 68, 69, 70, 71, 72, 73, 74, 75, 8, 76, 77, 78, 79, 80, 81, 82, 83, 84, 85, 86, 87, 88, 89, 97, 98, 99, 100, 101, 102, 103, 104, 105, 106, 2, 3, 4, 6, 11, 12, 13, 14, 15, 16, 17, 18, 19, 20, 21, 22, 23, 24, 25, 26, 27, 28, 29, 30, 31, 32, 33, 34, 35, 36, 37, 38, 39, 40, 41, 42, 43, 44, 45, 46, 47, 48, 49, 50, 51, 52, 53, 54, 55, 56, 57, 58, 59, 107, 60, 61, 62, 63, 64, 108, 109, 110, 0, 90, 91, 92, 111, 112, 113, 114, 115, 116, 117, 118, 119, 120, 121, 122, 123, 124, 125, 126, 127, 128, 129, 130, 131, 132, 133, 134, 135, 140, 141, 142, 143, 144, 145, 146, 147, 148, 149, 150, 151, 152, 153, 154, 155, 156, 157, 158, 159, 160, 161, 162, 163, 164, 165, 166, 167, 168, 169, 170, 171, 172, 173, 174, 175, 176, 177, 178, 179, 180, 181, 182, 183, 184, 185, 186, 187, 188, 189, 190, 191, 192, 193, 194, 195, 196, 197] (by decide +kernel) (by decide +kernel)
set_option maxRecDepth 20000 in
theorem gX11_readNot_X11_readSum : GoodIn wsX11_readNot (wsV RX11 246 RX11 yX11_readSum wsX11_readSum) := goodIn_app (goodIn_of _ (by decide +kernel)) ggX11_readNot_X11_readSum
set_option maxRecDepth 20000 in
theorem ggX11_readNot_X11_isMarked : GoodIn wsX11_readNot wsX11_isMarked := goodIn_r _ [96, 1, 7, 10, 9, 140, 141, 142, 143, 144, 145, 146, 147, 148, 149, 150, 151, 152, 153, 154, 155, 156, 157, 158, 159, 160, 161, 162, 163, 164, 165, 166, 167, 168, 169, 170, 171, 172, 173, 174, 175, 176, 177, 178, 179, 180, 181, 182, 183, 184, 185, 186, 187, 188, 189, 190, 191, 192, 193, 194, 195, 196, 197] (by decide +kernel) (by decide +kernel)
set_option maxRecDepth 20000 in
theorem gX11_readNot_X11_isMarked : GoodIn wsX11_readNot (wsV RX11 209 RX11 yX11_isMarked wsX11_isMarked) := goodIn_app (goodIn_of _ (by decide +kernel)) ggX11_readNot_X11_isMarked
set_option maxRecDepth 20000 in
theorem ggX11_readNot_X11_lay : GoodIn wsX11_readNot wsX11_lay := goodIn_r _ [100, 1, 101, 102, 140, 141, 142, 143, 144, 145, 146, 147, 148, 149, 150, 151, 152, 153, 154, 155, 156, 157, 158, 159, 160, 161, 162, 163, 164, 165, 166, 167, 168, 169, 170, 171, 172, 173, 174, 175, 176, 177, 178, 179, 180, 181, 182, 183, 184, 185, 186, 187, 188, 189, 190, 191, 192, 193, 194, 195, 196, 197] (by decide +kernel) (by decide +kernel)
set_option maxRecDepth 20000 in
theorem gX11_readNot_X11_lay : GoodIn wsX11_readNot (wsV RX11 225 RX11 yX11_lay wsX11_lay) := goodIn_app (goodIn_of _ (by decide +kernel)) ggX11_readNot_X11_lay
theorem dX11_readNot_0 : decode cX11_readNot 0 = .ok (.iconst 0, 1) := by decide +kernel
theorem dX11_readNot_1 : decode cX11_readNot 1 = .ok (.istore_n 2, 1) := by decide +kernel
theorem dX11_readNot_2 : decode cX11_readNot 2 = .ok (.aload_n 0, 1) := by decide +kernel
theorem dX11_readNot_3 : decode cX11_readNot 3 = .ok (.ldc 244, 2) := by decide +kernel
theorem dX11_readNot_5 : decode cX11_readNot 5 = .ok (.invokevirtual 205, 3) := by decide +kernel
theorem dX11_readNot_8 : decode cX11_readNot 8 = .ok (.ifCond .eq 31, 3) := by decide +kernel
theorem dX11_readNot_11 : decode cX11_readNot 11 = .ok (.iload_n 2, 1) := by decide +kernel
theorem dX11_readNot_12 : decode cX11_readNot 12 = .ok (.bipush 6, 2) := by decide +kernel
theorem dX11_readNot_14 : decode cX11_readNot 14 = .ok (.if_icmp .ne 8, 3) := by decide +kernel
theorem dX11_readNot_17 : decode cX11_readNot 17 = .ok (.aload_n 0, 1) := by decide +kernel
theorem dX11_readNot_18 : decode cX11_readNot 18 = .ok (.iconst 2, 1) := by decide +kernel
theorem dX11_readNot_19 : decode cX11_readNot 19 = .ok (.invokevirtual 212, 3) := by decide +kernel
theorem dX11_readNot_22 : decode cX11_readNot 22 = .ok (.iinc 2 1, 3) := by decide +kernel
theorem dX11_readNot_25 : decode cX11_readNot 25 = .ok (.aload_n 0, 1) := by decide +kernel
theorem dX11_readNot_26 : decode cX11_readNot 26 = .ok (.getfield 191, 3) := by decide +kernel
theorem dX11_readNot_29 : decode cX11_readNot 29 = .ok (.ifCond .ne (-27), 3) := by decide +kernel
theorem dX11_readNot_32 : decode cX11_readNot 32 = .ok (.aload_n 0, 1) := by decide +kernel
theorem dX11_readNot_33 : decode cX11_readNot 33 = .ok (.invokevirtual 216, 3) := by decide +kernel
theorem dX11_readNot_36 : decode cX11_readNot 36 = .ok (.goto (-34), 3) := by decide +kernel
theorem dX11_readNot_39 : decode cX11_readNot 39 = .ok (.aload_n 0, 1) := by decide +kernel
theorem dX11_readNot_40 : decode cX11_readNot 40 = .ok (.iload_n 1, 1) := by decide +kernel
theorem dX11_readNot_41 : decode cX11_readNot 41 = .ok (.invokevirtual 246, 3) := by decide +kernel
theorem dX11_readNot_44 : decode cX11_readNot 44 = .ok (.aload_n 0, 1) := by decide +kernel
theorem dX11_readNot_45 : decode cX11_readNot 45 = .ok (.bipush 60, 2) := by decide +kernel
theorem dX11_readNot_47 : decode cX11_readNot 47 = .ok (.invokevirtual 209, 3) := by decide +kernel
theorem dX11_readNot_50 : decode cX11_readNot 50 = .ok (.ifCond .ne 12, 3) := by decide +kernel
theorem dX11_readNot_53 : decode cX11_readNot 53 = .ok (.aload_n 0, 1) := by decide +kernel
theorem dX11_readNot_54 : decode cX11_readNot 54 = .ok (.bipush 61, 2) := by decide +kernel
theorem dX11_readNot_56 : decode cX11_readNot 56 = .ok (.invokevirtual 209, 3) := by decide +kernel
theorem dX11_readNot_59 : decode cX11_readNot 59 = .ok (.ifCond .eq 34, 3) := by decide +kernel
theorem dX11_readNot_62 : decode cX11_readNot 62 = .ok (.aload_n 0, 1) := by decide +kernel
theorem dX11_readNot_63 : decode cX11_readNot 63 = .ok (.bipush 60, 2) := by decide +kernel
theorem dX11_readNot_65 : decode cX11_readNot 65 = .ok (.invokevirtual 209, 3) := by decide +kernel
theorem dX11_readNot_68 : decode cX11_readNot 68 = .ok (.ifCond .eq 8, 3) := by decide +kernel
theorem dX11_readNot_71 : decode cX11_readNot 71 = .ok (.bipush (-24), 2) := by decide +kernel
theorem dX11_readNot_73 : decode cX11_readNot 73 = .ok (.goto 5, 3) := by decide +kernel
theorem dX11_readNot_76 : decode cX11_readNot 76 = .ok (.bipush (-25), 2) := by decide +kernel
theorem dX11_readNot_78 : decode cX11_readNot 78 = .ok (.istore_n 3, 1) := by decide +kernel
theorem dX11_readNot_79 : decode cX11_readNot 79 = .ok (.aload_n 0, 1) := by decide +kernel
theorem dX11_readNot_80 : decode cX11_readNot 80 = .ok (.invokevirtual 216, 3) := by decide +kernel
theorem dX11_readNot_83 : decode cX11_readNot 83 = .ok (.aload_n 0, 1) := by decide +kernel
theorem dX11_readNot_84 : decode cX11_readNot 84 = .ok (.iload_n 1, 1) := by decide +kernel
theorem dX11_readNot_85 : decode cX11_readNot 85 = .ok (.invokevirtual 246, 3) := by decide +kernel
theorem dX11_readNot_88 : decode cX11_readNot 88 = .ok (.aload_n 0, 1) := by decide +kernel
theorem dX11_readNot_89 : decode cX11_readNot 89 = .ok (.iload_n 3, 1) := by decide +kernel
theorem dX11_readNot_90 : decode cX11_readNot 90 = .ok (.invokevirtual 225, 3) := by decide +kernel
theorem dX11_readNot_93 : decode cX11_readNot 93 = .ok (.iconst 0, 1) := by decide +kernel
theorem dX11_readNot_94 : decode cX11_readNot 94 = .ok (.istore_n 3, 1) := by decide +kernel
theorem dX11_readNot_95 : decode cX11_readNot 95 = .ok (.iload_n 3, 1) := by decide +kernel
theorem dX11_readNot_96 : decode cX11_readNot 96 = .ok (.iload_n 2, 1) := by decide +kernel
theorem dX11_readNot_97 : decode cX11_readNot 97 = .ok (.if_icmp .ge 15, 3) := by decide +kernel
theorem dX11_readNot_100 : decode cX11_readNot 100 = .ok (.aload_n 0, 1) := by decide +kernel
theorem dX11_readNot_101 : decode cX11_readNot 101 = .ok (.bipush (-28), 2) := by decide +kernel
theorem dX11_readNot_103 : decode cX11_readNot 103 = .ok (.invokevirtual 225, 3) := by decide +kernel
theorem dX11_readNot_106 : decode cX11_readNot 106 = .ok (.iinc 3 1, 3) := by decide +kernel
theorem dX11_readNot_109 : decode cX11_readNot 109 = .ok (.goto (-14), 3) := by decide +kernel
theorem dX11_readNot_112 : decode cX11_readNot 112 = .ok (.return_, 1) := by decide +kernel
set_option maxRecDepth 20000 in
theorem ggX11_readAnd_X11_readNot : GoodIn wsX11_readAnd wsX11_readNot := goodIn_r _ [107, 9, 5, 6, 7, 4, 8, 10, 11, 12, 13, 14, 15, 16, 17, 18, 19, 20, 21, 22, 23, 24, 25, 26, 27, 28, 29, 30, 31, 32, 33, 34, 35, 36, 37, 38, 39, 40, 41, 42, 43, 44, 45, 46, 47, 48, 49, 50, 51, 52, 53, 54, 55, 56, 57, 58, 59, 60, 61, 62, 99, 100, 101, 102, 103, 63, 64, 65, 66, 67, 68, 69, 70, 71, 72, 73, 74, 75, 76, 77, 78, 79, 80, 81, 82, 83, 84, 85, 86, 87, 108, 109, 110, 95, 96, 97, 98, 88, 89, 90, 91, 92, 93, 0, 1, 2, 3, 94, 104, 105, 106, 111, 112, 113, 114, 115, 116, 117, 118, 119, 120, 121, 122, 123, 124, 125, 126, 127, 128, 129, 130, 131, 132, 133, 134, 135, 136, 137, 138, 139, 140, 141, 142, 143, 144, 145, 146, 147, 148, 149, 150, 151, 152, 153, 154, 155, 156, 157, 158, 159, 160, 161, 162, 163, 164, 165, 166, 167, 168, 169, 170, 171, 172, 173, 174, 175, 176, 177, 178, 179, 180, 181, 182, 183, 184, 185, 186, 187, 188, 189, 190, 191, 192, 193, 194, 195, 196, 197] (by decide +kernel) (by decide +kernel)
set_option maxRecDepth 20000 in
theorem gX11_readAnd_X11_readNot : GoodIn wsX11_readAnd (wsV RX11 249 RX11 yX11_readNot wsX11_readNot) := goodIn_app (goodIn_of _ (by decide +kernel)) ggX11_readAnd_X11_readNot
set_option maxRecDepth 20000 in
theorem ggX11_readAnd_X11_is : GoodIn wsX11_readAnd wsX11_is := goodIn_r _ [8, 9, 10, 11, 12, 13, 14, 15, 16, 17, 18, 19, 20, 21, 22, 23, 24, 25, 26, 27, 28, 29, 30, 31, 32, 33, 34, 35, 36, 37, 38, 39, 40, 41, 42, 43, 44, 45, 46, 47, 48, 49, 50, 51, 52, 53, 54, 55, 56, 57, 58, 59, 60, 61, 62, 140, 141, 142, 143, 144, 145, 146, 147, 148, 149, 150, 151, 152, 153, 154, 155, 156, 157, 158, 159, 160, 161, 162, 163, 164, 165, 166, 167, 168, 169, 170, 171, 172, 173, 174, 175, 176, 177, 178, 179, 180, 181, 182, 183, 184, 185, 186, 187, 188, 189, 190, 191, 192, 193, 194, 195, 196, 197] (by decide +kernel) (by decide +kernel)
set_option maxRecDepth 20000 in
theorem gX11_readAnd_X11_is : GoodIn wsX11_readAnd (wsV RX11 205 RX11 yX11_is wsX11_is) := goodIn_app (goodIn_of _ (by decide +kernel)) ggX11_readAnd_X11_is
set_option maxRecDepth 20000 in
theorem ggX11_readAnd_X11_stepOn : GoodIn wsX11_readAnd wsX11_stepOn := goodIn_r _ [66, 67, 12, 10, 68, 69, 70, 71, 72, 73, 11, 74, 75, 76, 4, 77, 78, 13, 79, 80, 81, 82, 83, 84, 85, 86, 87, 140, 141, 142, 143, 144, 145, 146, 147, 148, 149, 150, 151, 152, 153, 154, 155, 156, 157, 158, 159, 160, 161, 162, 163, 164, 165, 166, 167, 168, 169, 170, 171, 172, 173, 174, 175, 176, 177, 178, 179, 180, 181, 182, 183, 184, 185, 186, 187, 188, 189, 190, 191, 192, 193, 194, 195, 196, 197] (by decide +kernel) (by decide +kernel)
set_option maxRecDepth 20000 in
theorem gX11_readAnd_X11_stepOn : GoodIn wsX11_readAnd (wsV RX11 216 RX11 yX11_stepOn wsX11_stepOn) := goodIn_app (goodIn_of _ (by decide +kernel)) ggX11_readAnd_X11_stepOn
set_option maxRecDepth 20000 in
theorem ggX11_readAnd_X11_lay : GoodIn wsX11_readAnd wsX11_lay := goodIn_r _ [91, 9, 92, 93, 140, 141, 142, 143, 144, 145, 146, 147, 148, 149, 150, 151, 152, 153, 154, 155, 156, 157, 158, 159, 160, 161, 162, 163, 164, 165, 166, 167, 168, 169, 170, 171, 172, 173, 174, 175, 176, 177, 178, 179, 180, 181, 182, 183, 184, 185, 186, 187, 188, 189, 190, 191, 192, 193, 194, 195, 196, 197] (by decide +kernel) (by decide +kernel)
set_option maxRecDepth 20000 in
theorem gX11_readAnd_X11_lay : GoodIn wsX11_readAnd (wsV RX11 225 RX11 yX11_lay wsX11_lay) := goodIn_app (goodIn_of _ (by decide +kernel)) ggX11_readAnd_X11_lay
theorem dX11_readAnd_0 : decode cX11_readAnd 0 = .ok (.aload_n 0, 1) := by decide +kernel
theorem dX11_readAnd_1 : decode cX11_readAnd 1 = .ok (.iload_n 1, 1) := by decide +kernel
theorem dX11_readAnd_2 : decode cX11_readAnd 2 = .ok (.invokevirtual 249, 3) := by decide +kernel
theorem dX11_readAnd_5 : decode cX11_readAnd 5 = .ok (.aload_n 0, 1) := by decide +kernel
theorem dX11_readAnd_6 : decode cX11_readAnd 6 = .ok (.ldc 252, 2) := by decide +kernel
theorem dX11_readAnd_8 : decode cX11_readAnd 8 = .ok (.invokevirtual 205, 3) := by decide +kernel
theorem dX11_readAnd_11 : decode cX11_readAnd 11 = .ok (.ifCond .eq 21, 3) := by decide +kernel
theorem dX11_readAnd_14 : decode cX11_readAnd 14 = .ok (.aload_n 0, 1) := by decide +kernel
theorem dX11_readAnd_15 : decode cX11_readAnd 15 = .ok (.invokevirtual 216, 3) := by decide +kernel
theorem dX11_readAnd_18 : decode cX11_readAnd 18 = .ok (.aload_n 0, 1) := by decide +kernel
theorem dX11_readAnd_19 : decode cX11_readAnd 19 = .ok (.iload_n 1, 1) := by decide +kernel
theorem dX11_readAnd_20 : decode cX11_readAnd 20 = .ok (.invokevirtual 249, 3) := by decide +kernel
theorem dX11_readAnd_23 : decode cX11_readAnd 23 = .ok (.aload_n 0, 1) := by decide +kernel
theorem dX11_readAnd_24 : decode cX11_readAnd 24 = .ok (.bipush (-26), 2) := by decide +kernel
theorem dX11_readAnd_26 : decode cX11_readAnd 26 = .ok (.invokevirtual 225, 3) := by decide +kernel
theorem dX11_readAnd_29 : decode cX11_readAnd 29 = .ok (.goto (-24), 3) := by decide +kernel
theorem dX11_readAnd_32 : decode cX11_readAnd 32 = .ok (.return_, 1) := by decide +kernel
set_option maxRecDepth 20000 in
theorem ggX11_readExpression_X11_isMarked : GoodIn wsX11_readExpression wsX11_isMarked := goodIn_r _ [7, 1, 2, 8, 9, 140, 141, 142, 143, 144, 145, 146, 147, 148, 149, 150, 151, 152, 153, 154, 155, 156, 157, 158, 159, 160, 161, 162, 163, 164, 165, 166, 167, 168, 169, 170, 171, 172, 173, 174, 175, 176, 177, 178, 179, 180, 181, 182, 183, 184, 185, 186, 187, 188, 189, 190, 191, 192, 193, 194, 195, 196, 197] (by decide +kernel) (by decide +kernel)
set_option maxRecDepth 20000 in
theorem gX11_readExpression_X11_isMarked : GoodIn wsX11_readExpression (wsV RX11 209 RX11 yX11_isMarked wsX11_isMarked) := goodIn_app (goodIn_of _ (by decide +kernel)) ggX11_readExpression_X11_isMarked
set_option maxRecDepth 20000 in
theorem ggX11_readExpression_X11_wrong : GoodIn wsX11_readExpression wsX11_wrong := goodIn_r _ [13, 1, 9, 14, 140, 141, 142, 143, 144, 145, 146, 147, 148, 149, 150, 151, 152, 153, 154, 155, 156, 157, 158, 159, 160, 161, 162, 163, 164, 165, 166, 167, 168, 169, 170, 171, 172, 173, 174, 175, 176, 177, 178, 179, 180, 181, 182, 183, 184, 185, 186, 187, 188, 189, 190, 191, 192, 193, 194, 195, 196, 197] (by decide +kernel) (by decide +kernel)
set_option maxRecDepth 20000 in
theorem gX11_readExpression_X11_wrong : GoodIn wsX11_readExpression (wsV RX11 212 RX11 yX11_wrong wsX11_wrong) := goodIn_app (goodIn_of _ (by decide +kernel)) ggX11_readExpression_X11_wrong
set_option maxRecDepth 20000 in
theorem ggX11_readExpression_X11_readAnd : GoodIn wsX11_readExpression wsX11_readAnd := goodIn_r _ [103, 104, 105, 106, 6, 18, 19, 20, 21, 1, 2, 22, 9, 8, 23, 24, 25, 26, 27, 28, 29, 30, 31, 32, 33, 34, 35, 36, 37, 38, 39, 40, 41, 42, 43, 44, 45, 46, 47, 48, 49, 50, 51, 52, 53, 54, 55, 56, 57, 58, 59, 60, 61, 62, 63, 64, 65, 66, 67, 68, 69, 70, 71, 72, 73, 74, 75, 76, 77, 78, 79, 80, 81, 82, 83, 84, 85, 86, 87, 88, 89, 90, 91, 92, 93, 94, 95, 96, 97, 98, 99, 100, 101, 102, 0, 3, 4, 5, 7, 10, 11, 12, 13, 14, 15, 16, 17, 107, 108, 109, 110, 111, 112, 113, 114, 115, 116, 117, 118, 119, 120, 121, 122, 123, 124, 125, 126, 127, 128, 129, 130, 131, 132, 133, 134, 135, 136, 137, 138, 139, 140, 141, 142, 143, 144, 145, 146, 147, 148, 149, 150, 151, 152, 153, 154, 155, 156, 157, 158, 159, 160, 161, 162, 163, 164, 165, 166, 167, 168, 169, 170, 171, 172, 173, 174, 175, 176, 177, 178, 179, 180, 181, 182, 183, 184, 185, 186, 187, 188, 189, 190, 191, 192, 193, 194, 195, 196, 197] (by decide +kernel) (by decide +kernel)
set_option maxRecDepth 20000 in
theorem gX11_readExpression_X11_readAnd : GoodIn wsX11_readExpression (wsV RX11 254 RX11 yX11_readAnd wsX11_readAnd) := goodIn_app (goodIn_of _ (by decide +kernel)) ggX11_readExpression_X11_readAnd
set_option maxRecDepth 20000 in
theorem ggX11_readExpression_X11_is : GoodIn wsX11_readExpression wsX11_is := goodIn_r _ [21, 1, 2, 22, 9, 8, 23, 24, 25, 26, 27, 28, 29, 30, 31, 32, 33, 34, 35, 36, 37, 38, 39, 40, 41, 42, 43, 44, 45, 46, 47, 48, 49, 50, 51, 52, 53, 54, 55, 56, 57, 58, 59, 60, 61, 62, 63, 64, 65, 66, 67, 68, 69, 70, 71, 140, 141, 142, 143, 144, 145, 146, 147, 148, 149, 150, 151, 152, 153, 154, 155, 156, 157, 158, 159, 160, 161, 162, 163, 164, 165, 166, 167, 168, 169, 170, 171, 172, 173, 174, 175, 176, 177, 178, 179, 180, 181, 182, 183, 184, 185, 186, 187, 188, 189, 190, 191, 192, 193, 194, 195, 196, 197] (by decide +kernel) (by decide +kernel)
set_option maxRecDepth 20000 in
theorem gX11_readExpression_X11_is : GoodIn wsX11_readExpression (wsV RX11 205 RX11 yX11_is wsX11_is) := goodIn_app (goodIn_of _ (by decide +kernel)) ggX11_readExpression_X11_is
set_option maxRecDepth 20000 in
theorem ggX11_readExpression_X11_stepOn : GoodIn wsX11_readExpression wsX11_stepOn := goodIn_r _ [75, 76, 9, 2, 77, 78, 79, 80, 81, 82, 22, 83, 84, 85, 6, 86, 87, 8, 88, 89, 90, 91, 92, 93, 94, 95, 96, 140, 141, 142, 143, 144, 145, 146, 147, 148, 149, 150, 151, 152, 153, 154, 155, 156, 157, 158, 159, 160, 161, 162, 163, 164, 165, 166, 167, 168, 169, 170, 171, 172, 173, 174, 175, 176, 177, 178, 179, 180, 181, 182, 183, 184, 185, 186, 187, 188, 189, 190, 191, 192, 193, 194, 195, 196, 197] (by decide +kernel) (by decide +kernel)
set_option maxRecDepth 20000 in
theorem gX11_readExpression_X11_stepOn : GoodIn wsX11_readExpression (wsV RX11 216 RX11 yX11_stepOn wsX11_stepOn) := goodIn_app (goodIn_of _ (by decide +kernel)) ggX11_readExpression_X11_stepOn
set_option maxRecDepth 20000 in
theorem ggX11_readExpression_X11_lay : GoodIn wsX11_readExpression wsX11_lay := goodIn_r _ [100, 1, 101, 102, 140, 141, 142, 143, 144, 145, 146, 147, 148, 149, 150, 151, 152, 153, 154, 155, 156, 157, 158, 159, 160, 161, 162, 163, 164, 165, 166, 167, 168, 169, 170, 171, 172, 173, 174, 175, 176, 177, 178, 179, 180, 181, 182, 183, 184, 185, 186, 187, 188, 189, 190, 191, 192, 193, 194, 195, 196, 197] (by decide +kernel) (by decide +kernel)
set_option maxRecDepth 20000 in
theorem gX11_readExpression_X11_lay : GoodIn wsX11_readExpression (wsV RX11 225 RX11 yX11_lay wsX11_lay) := goodIn_app (goodIn_of _ (by decide +kernel)) ggX11_readExpression_X11_lay
theorem dX11_readExpression_0 : decode cX11_readExpression 0 = .ok (.aload_n 0, 1) := by decide +kernel
theorem dX11_readExpression_1 : decode cX11_readExpression 1 = .ok (.getfield 191, 3) := by decide +kernel
theorem dX11_readExpression_4 : decode cX11_readExpression 4 = .ok (.ifCond .eq 4, 3) := by decide +kernel
theorem dX11_readExpression_7 : decode cX11_readExpression 7 = .ok (.return_, 1) := by decide +kernel
theorem dX11_readExpression_8 : decode cX11_readExpression 8 = .ok (.aload_n 0, 1) := by decide +kernel
theorem dX11_readExpression_9 : decode cX11_readExpression 9 = .ok (.getfield 165, 3) := by decide +kernel
theorem dX11_readExpression_12 : decode cX11_readExpression 12 = .ok (.iconst 2, 1) := by decide +kernel
theorem dX11_readExpression_13 : decode cX11_readExpression 13 = .ok (.if_icmp .eq 20, 3) := by decide +kernel
theorem dX11_readExpression_16 : decode cX11_readExpression 16 = .ok (.aload_n 0, 1) := by decide +kernel
theorem dX11_readExpression_17 : decode cX11_readExpression 17 = .ok (.getfield 165, 3) := by decide +kernel
theorem dX11_readExpression_20 : decode cX11_readExpression 20 = .ok (.iconst 1, 1) := by decide +kernel
theorem dX11_readExpression_21 : decode cX11_readExpression 21 = .ok (.if_icmp .eq 12, 3) := by decide +kernel
theorem dX11_readExpression_24 : decode cX11_readExpression 24 = .ok (.aload_n 0, 1) := by decide +kernel
theorem dX11_readExpression_25 : decode cX11_readExpression 25 = .ok (.bipush 40, 2) := by decide +kernel
theorem dX11_readExpression_27 : decode cX11_readExpression 27 = .ok (.invokevirtual 209, 3) := by decide +kernel
theorem dX11_readExpression_30 : decode cX11_readExpression 30 = .ok (.ifCond .eq 7, 3) := by decide +kernel
theorem dX11_readExpression_33 : decode cX11_readExpression 33 = .ok (.iconst 1, 1) := by decide +kernel
theorem dX11_readExpression_34 : decode cX11_readExpression 34 = .ok (.goto 4, 3) := by decide +kernel
theorem dX11_readExpression_37 : decode cX11_readExpression 37 = .ok (.iconst 0, 1) := by decide +kernel
theorem dX11_readExpression_38 : decode cX11_readExpression 38 = .ok (.istore_n 2, 1) := by decide +kernel
theorem dX11_readExpression_39 : decode cX11_readExpression 39 = .ok (.iload_n 2, 1) := by decide +kernel
theorem dX11_readExpression_40 : decode cX11_readExpression 40 = .ok (.ifCond .ne 11, 3) := by decide +kernel
theorem dX11_readExpression_43 : decode cX11_readExpression 43 = .ok (.aload_n 0, 1) := by decide +kernel
theorem dX11_readExpression_44 : decode cX11_readExpression 44 = .ok (.iconst 1, 1) := by decide +kernel
theorem dX11_readExpression_45 : decode cX11_readExpression 45 = .ok (.invokevirtual 212, 3) := by decide +kernel
theorem dX11_readExpression_48 : decode cX11_readExpression 48 = .ok (.goto 14, 3) := by decide +kernel
theorem dX11_readExpression_51 : decode cX11_readExpression 51 = .ok (.iload_n 1, 1) := by decide +kernel
theorem dX11_readExpression_52 : decode cX11_readExpression 52 = .ok (.bipush 6, 2) := by decide +kernel
theorem dX11_readExpression_54 : decode cX11_readExpression 54 = .ok (.if_icmp .ne 8, 3) := by decide +kernel
theorem dX11_readExpression_57 : decode cX11_readExpression 57 = .ok (.aload_n 0, 1) := by decide +kernel
theorem dX11_readExpression_58 : decode cX11_readExpression 58 = .ok (.iconst 2, 1) := by decide +kernel
theorem dX11_readExpression_59 : decode cX11_readExpression 59 = .ok (.invokevirtual 212, 3) := by decide +kernel
theorem dX11_readExpression_62 : decode cX11_readExpression 62 = .ok (.aload_n 0, 1) := by decide +kernel
theorem dX11_readExpression_63 : decode cX11_readExpression 63 = .ok (.iload_n 1, 1) := by decide +kernel
theorem dX11_readExpression_64 : decode cX11_readExpression 64 = .ok (.invokevirtual 254, 3) := by decide +kernel
theorem dX11_readExpression_67 : decode cX11_readExpression 67 = .ok (.aload_n 0, 1) := by decide +kernel
theorem dX11_readExpression_68 : decode cX11_readExpression 68 = .ok (.ldc_w 257, 3) := by decide +kernel
theorem dX11_readExpression_71 : decode cX11_readExpression 71 = .ok (.invokevirtual 205, 3) := by decide +kernel
theorem dX11_readExpression_74 : decode cX11_readExpression 74 = .ok (.ifCond .eq 21, 3) := by decide +kernel
theorem dX11_readExpression_77 : decode cX11_readExpression 77 = .ok (.aload_n 0, 1) := by decide +kernel
theorem dX11_readExpression_78 : decode cX11_readExpression 78 = .ok (.invokevirtual 216, 3) := by decide +kernel
theorem dX11_readExpression_81 : decode cX11_readExpression 81 = .ok (.aload_n 0, 1) := by decide +kernel
theorem dX11_readExpression_82 : decode cX11_readExpression 82 = .ok (.iload_n 1, 1) := by decide +kernel
theorem dX11_readExpression_83 : decode cX11_readExpression 83 = .ok (.invokevirtual 254, 3) := by decide +kernel
theorem dX11_readExpression_86 : decode cX11_readExpression 86 = .ok (.aload_n 0, 1) := by decide +kernel
theorem dX11_readExpression_87 : decode cX11_readExpression 87 = .ok (.bipush (-27), 2) := by decide +kernel
theorem dX11_readExpression_89 : decode cX11_readExpression 89 = .ok (.invokevirtual 225, 3) := by decide +kernel
theorem dX11_readExpression_92 : decode cX11_readExpression 92 = .ok (.goto (-25), 3) := by decide +kernel
theorem dX11_readExpression_95 : decode cX11_readExpression 95 = .ok (.return_, 1) := by decide +kernel
set_option maxRecDepth 20000 in
theorem ggX11_another_X11_wrong : GoodIn wsX11_another wsX11_wrong := goodIn_r _ [7, 2, 8, 9, 38, 39, 40, 41, 42, 43, 44, 45, 46, 47, 48, 49, 50, 51, 52, 53, 54, 55, 56, 57, 58, 59, 60, 61, 62, 63, 64, 65, 66, 67, 68, 69, 70, 71, 72, 73, 74, 75, 76, 77, 78, 79, 80, 81, 82, 83, 84, 85, 86, 87, 88, 89, 90, 91, 92, 93, 94, 95] (by decide +kernel) (by decide +kernel)
set_option maxRecDepth 20000 in
theorem gX11_another_X11_wrong : GoodIn wsX11_another (wsV RX11 212 RX11 yX11_wrong wsX11_wrong) := goodIn_app (goodIn_of _ (by decide +kernel)) ggX11_another_X11_wrong
set_option maxRecDepth 20000 in
theorem ggX11_another_X11_stepOn : GoodIn wsX11_another wsX11_stepOn := goodIn_r _ [13, 14, 8, 15, 16, 17, 18, 19, 20, 21, 22, 23, 24, 25, 6, 26, 27, 28, 29, 30, 31, 32, 33, 34, 35, 36, 37, 38, 39, 40, 41, 42, 43, 44, 45, 46, 47, 48, 49, 50, 51, 52, 53, 54, 55, 56, 57, 58, 59, 60, 61, 62, 63, 64, 65, 66, 67, 68, 69, 70, 71, 72, 73, 74, 75, 76, 77, 78, 79, 80, 81, 82, 83, 84, 85, 86, 87, 88, 89, 90, 91, 92, 93, 94, 95] (by decide +kernel) (by decide +kernel)
set_option maxRecDepth 20000 in
theorem gX11_another_X11_stepOn : GoodIn wsX11_another (wsV RX11 216 RX11 yX11_stepOn wsX11_stepOn) := goodIn_app (goodIn_of _ (by decide +kernel)) ggX11_another_X11_stepOn
theorem dX11_another_0 : decode cX11_another 0 = .ok (.aload_n 0, 1) := by decide +kernel
theorem dX11_another_1 : decode cX11_another 1 = .ok (.getfield 38, 3) := by decide +kernel
theorem dX11_another_4 : decode cX11_another 4 = .ok (.iconst 4, 1) := by decide +kernel
theorem dX11_another_5 : decode cX11_another 5 = .ok (.iload_n 1, 1) := by decide +kernel
theorem dX11_another_6 : decode cX11_another 6 = .ok (.iadd, 1) := by decide +kernel
theorem dX11_another_7 : decode cX11_another 7 = .ok (.iaload, 1) := by decide +kernel
theorem dX11_another_8 : decode cX11_another 8 = .ok (.iload_n 2, 1) := by decide +kernel
theorem dX11_another_9 : decode cX11_another 9 = .ok (.if_icmp .ne 8, 3) := by decide +kernel
theorem dX11_another_12 : decode cX11_another 12 = .ok (.aload_n 0, 1) := by decide +kernel
theorem dX11_another_13 : decode cX11_another 13 = .ok (.iconst 2, 1) := by decide +kernel
theorem dX11_another_14 : decode cX11_another 14 = .ok (.invokevirtual 212, 3) := by decide +kernel
theorem dX11_another_17 : decode cX11_another 17 = .ok (.aload_n 0, 1) := by decide +kernel
theorem dX11_another_18 : decode cX11_another 18 = .ok (.getfield 191, 3) := by decide +kernel
theorem dX11_another_21 : decode cX11_another 21 = .ok (.ifCond .eq 5, 3) := by decide +kernel
theorem dX11_another_24 : decode cX11_another 24 = .ok (.iconst 0, 1) := by decide +kernel
theorem dX11_another_25 : decode cX11_another 25 = .ok (.ireturn, 1) := by decide +kernel
theorem dX11_another_26 : decode cX11_another 26 = .ok (.aload_n 0, 1) := by decide +kernel
theorem dX11_another_27 : decode cX11_another 27 = .ok (.invokevirtual 216, 3) := by decide +kernel
theorem dX11_another_30 : decode cX11_another 30 = .ok (.iconst 1, 1) := by decide +kernel
theorem dX11_another_31 : decode cX11_another 31 = .ok (.ireturn, 1) := by decide +kernel
set_option maxRecDepth 20000 in
theorem ggX11_sayHouse_X11_another : GoodIn wsX11_sayHouse wsX11_another := goodIn_r _ [9, 1, 10, 11, 12, 13, 8, 14, 15, 16, 17, 18, 19, 20, 21, 22, 23, 24, 25, 26, 27, 28, 29, 30, 31, 32, 33, 34, 35, 36, 37, 38, 39, 40, 41, 42, 43, 44, 53, 54, 55, 56, 57, 58, 59, 60, 61, 62, 63, 64, 65, 66, 67, 68, 69, 70, 71, 72, 73, 74, 75, 76, 77, 78, 79, 80, 81, 82, 83, 84, 85, 86, 87, 88, 89, 90, 91, 92, 93, 94, 95, 96, 97, 98, 99, 100, 101, 102, 103, 104, 105, 106, 107, 108, 109, 110] (by decide +kernel) (by decide +kernel)
set_option maxRecDepth 20000 in
theorem gX11_sayHouse_X11_another : GoodIn wsX11_sayHouse (wsV RX11 259 RX11 yX11_another wsX11_another) := goodIn_app (goodIn_of _ (by decide +kernel)) ggX11_sayHouse_X11_another
set_option maxRecDepth 20000 in
theorem ggX11_sayHouse_X11_readNumber : GoodIn wsX11_sayHouse wsX11_readNumber := goodIn_r _ [48, 10, 49, 50, 51, 8, 52, 22, 29, 15, 23, 11, 12, 13, 14, 16, 17, 18, 19, 20, 21, 24, 25, 26, 27, 28, 30, 31, 32, 33, 34, 35, 36, 37, 38, 39, 40, 41, 42, 43, 44, 53, 54, 55, 56, 57, 58, 59, 60, 61, 62, 63, 64, 65, 66, 67, 68, 69, 70, 71, 72, 73, 74, 75, 76, 77, 78, 79, 80, 81, 82, 83, 84, 85, 86, 87, 88, 89, 90, 91, 92, 93, 94, 95, 96, 97, 98, 99, 100, 101, 102, 103, 104, 105, 106, 107, 108, 109, 110] (by decide +kernel) (by decide +kernel)
set_option maxRecDepth 20000 in
theorem gX11_sayHouse_X11_readNumber : GoodIn wsX11_sayHouse (wsV RX11 222 RX11 yX11_readNumber wsX11_readNumber) := goodIn_app (goodIn_of _ (by decide +kernel)) ggX11_sayHouse_X11_readNumber
theorem dX11_sayHouse_0 : decode cX11_sayHouse 0 = .ok (.aload_n 0, 1) := by decide +kernel
theorem dX11_sayHouse_1 : decode cX11_sayHouse 1 = .ok (.iconst 0, 1) := by decide +kernel
theorem dX11_sayHouse_2 : decode cX11_sayHouse 2 = .ok (.bipush 8, 2) := by decide +kernel
theorem dX11_sayHouse_4 : decode cX11_sayHouse 4 = .ok (.invokevirtual 259, 3) := by decide +kernel
theorem dX11_sayHouse_7 : decode cX11_sayHouse 7 = .ok (.ifCond .ne 4, 3) := by decide +kernel
theorem dX11_sayHouse_10 : decode cX11_sayHouse 10 = .ok (.return_, 1) := by decide +kernel
theorem dX11_sayHouse_11 : decode cX11_sayHouse 11 = .ok (.bipush 8, 2) := by decide +kernel
theorem dX11_sayHouse_13 : decode cX11_sayHouse 13 = .ok (.aload_n 0, 1) := by decide +kernel
theorem dX11_sayHouse_14 : decode cX11_sayHouse 14 = .ok (.getfield 38, 3) := by decide +kernel
theorem dX11_sayHouse_17 : decode cX11_sayHouse 17 = .ok (.iconst 4, 1) := by decide +kernel
theorem dX11_sayHouse_18 : decode cX11_sayHouse 18 = .ok (.iaload, 1) := by decide +kernel
theorem dX11_sayHouse_19 : decode cX11_sayHouse 19 = .ok (.iadd, 1) := by decide +kernel
theorem dX11_sayHouse_20 : decode cX11_sayHouse 20 = .ok (.istore_n 2, 1) := by decide +kernel
theorem dX11_sayHouse_21 : decode cX11_sayHouse 21 = .ok (.aload_n 0, 1) := by decide +kernel
theorem dX11_sayHouse_22 : decode cX11_sayHouse 22 = .ok (.getfield 42, 3) := by decide +kernel
theorem dX11_sayHouse_25 : decode cX11_sayHouse 25 = .ok (.iload_n 2, 1) := by decide +kernel
theorem dX11_sayHouse_26 : decode cX11_sayHouse 26 = .ok (.iload_n 1, 1) := by decide +kernel
theorem dX11_sayHouse_27 : decode cX11_sayHouse 27 = .ok (.iastore, 1) := by decide +kernel
theorem dX11_sayHouse_28 : decode cX11_sayHouse 28 = .ok (.aload_n 0, 1) := by decide +kernel
theorem dX11_sayHouse_29 : decode cX11_sayHouse 29 = .ok (.getfield 44, 3) := by decide +kernel
theorem dX11_sayHouse_32 : decode cX11_sayHouse 32 = .ok (.iload_n 2, 1) := by decide +kernel
theorem dX11_sayHouse_33 : decode cX11_sayHouse 33 = .ok (.aload_n 0, 1) := by decide +kernel
theorem dX11_sayHouse_34 : decode cX11_sayHouse 34 = .ok (.iconst 0, 1) := by decide +kernel
theorem dX11_sayHouse_35 : decode cX11_sayHouse 35 = .ok (.bipush 23, 2) := by decide +kernel
theorem dX11_sayHouse_37 : decode cX11_sayHouse 37 = .ok (.invokevirtual 222, 3) := by decide +kernel
theorem dX11_sayHouse_40 : decode cX11_sayHouse 40 = .ok (.iastore, 1) := by decide +kernel
theorem dX11_sayHouse_41 : decode cX11_sayHouse 41 = .ok (.aload_n 0, 1) := by decide +kernel
theorem dX11_sayHouse_42 : decode cX11_sayHouse 42 = .ok (.getfield 47, 3) := by decide +kernel
theorem dX11_sayHouse_45 : decode cX11_sayHouse 45 = .ok (.iload_n 2, 1) := by decide +kernel
theorem dX11_sayHouse_46 : decode cX11_sayHouse 46 = .ok (.aload_n 0, 1) := by decide +kernel
theorem dX11_sayHouse_47 : decode cX11_sayHouse 47 = .ok (.iconst 0, 1) := by decide +kernel
theorem dX11_sayHouse_48 : decode cX11_sayHouse 48 = .ok (.bipush 23, 2) := by decide +kernel
theorem dX11_sayHouse_50 : decode cX11_sayHouse 50 = .ok (.invokevirtual 222, 3) := by decide +kernel
theorem dX11_sayHouse_53 : decode cX11_sayHouse 53 = .ok (.iastore, 1) := by decide +kernel
theorem dX11_sayHouse_54 : decode cX11_sayHouse 54 = .ok (.aload_n 0, 1) := by decide +kernel
theorem dX11_sayHouse_55 : decode cX11_sayHouse 55 = .ok (.getfield 38, 3) := by decide +kernel
theorem dX11_sayHouse_58 : decode cX11_sayHouse 58 = .ok (.iconst 4, 1) := by decide +kernel
theorem dX11_sayHouse_59 : decode cX11_sayHouse 59 = .ok (.dup2, 1) := by decide +kernel
theorem dX11_sayHouse_60 : decode cX11_sayHouse 60 = .ok (.iaload, 1) := by decide +kernel
theorem dX11_sayHouse_61 : decode cX11_sayHouse 61 = .ok (.iconst 1, 1) := by decide +kernel
theorem dX11_sayHouse_62 : decode cX11_sayHouse 62 = .ok (.iadd, 1) := by decide +kernel
theorem dX11_sayHouse_63 : decode cX11_sayHouse 63 = .ok (.iastore, 1) := by decide +kernel
theorem dX11_sayHouse_64 : decode cX11_sayHouse 64 = .ok (.return_, 1) := by decide +kernel
set_option maxRecDepth 20000 in
theorem ggX11_sayLamp_X11_another : GoodIn wsX11_sayLamp wsX11_another := goodIn_r _ [10, 1, 3, 11, 12, 13, 9, 14, 15, 16, 17, 18, 19, 20, 21, 22, 23, 24, 25, 26, 27, 28, 29, 30, 31, 32, 33, 34, 35, 36, 37, 38, 39, 40, 41, 42, 43, 44, 57, 58, 59, 60, 61, 62, 63, 64, 65, 66, 67, 68, 69, 70, 71, 72, 73, 74, 75, 76, 77, 78, 79, 80, 81, 82, 83, 84, 85, 86, 87, 88, 89, 90, 91, 92, 93, 94, 95, 96, 97, 98, 99, 100, 101, 102, 103, 104, 105, 106, 107, 108, 109, 110, 111, 112, 113, 114] (by decide +kernel) (by decide +kernel)
set_option maxRecDepth 20000 in
theorem gX11_sayLamp_X11_another : GoodIn wsX11_sayLamp (wsV RX11 259 RX11 yX11_another wsX11_another) := goodIn_app (goodIn_of _ (by decide +kernel)) ggX11_sayLamp_X11_another
set_option maxRecDepth 20000 in
theorem ggX11_sayLamp_X11_oneNow : GoodIn wsX11_sayLamp wsX11_oneNow := goodIn_r _ [48, 3, 1, 49, 50, 51, 9, 52, 22, 29, 15, 23, 11, 12, 13, 14, 16, 57, 58, 59, 60, 61, 62, 63, 64, 65, 66, 67, 68, 69, 70, 71, 72, 73, 74, 75, 76, 77, 78, 79, 80, 81, 82, 83, 84, 85, 86, 87, 88, 89, 90, 91, 92, 93, 94, 95, 96, 97, 98, 99, 100, 101, 102, 103, 104, 105, 106, 107, 108, 109, 110, 111, 112, 113, 114] (by decide +kernel) (by decide +kernel)
set_option maxRecDepth 20000 in
theorem gX11_sayLamp_X11_oneNow : GoodIn wsX11_sayLamp (wsV RX11 263 RX11 yX11_oneNow wsX11_oneNow) := goodIn_app (goodIn_of _ (by decide +kernel)) ggX11_sayLamp_X11_oneNow
set_option maxRecDepth 20000 in
theorem ggX11_sayLamp_X11_stepOn : GoodIn wsX11_sayLamp wsX11_stepOn := goodIn_r _ [20, 21, 15, 22, 23, 24, 25, 26, 27, 28, 29, 30, 31, 32, 9, 33, 34, 35, 36, 37, 38, 39, 40, 41, 42, 43, 44, 57, 58, 59, 60, 61, 62, 63, 64, 65, 66, 67, 68, 69, 70, 71, 72, 73, 74, 75, 76, 77, 78, 79, 80, 81, 82, 83, 84, 85, 86, 87, 88, 89, 90, 91, 92, 93, 94, 95, 96, 97, 98, 99, 100, 101, 102, 103, 104, 105, 106, 107, 108, 109, 110, 111, 112, 113, 114] (by decide +kernel) (by decide +kernel)
set_option maxRecDepth 20000 in
theorem gX11_sayLamp_X11_stepOn : GoodIn wsX11_sayLamp (wsV RX11 216 RX11 yX11_stepOn wsX11_stepOn) := goodIn_app (goodIn_of _ (by decide +kernel)) ggX11_sayLamp_X11_stepOn
set_option maxRecDepth 20000 in
theorem ggX11_sayLamp_X11_readNumber : GoodIn wsX11_sayLamp wsX11_readNumber := goodIn_r _ [56, 3, 49, 50, 51, 9, 52, 22, 29, 15, 23, 11, 12, 13, 14, 16, 17, 18, 19, 20, 21, 24, 25, 26, 27, 28, 30, 31, 32, 33, 34, 35, 36, 37, 38, 39, 40, 41, 42, 43, 44, 57, 58, 59, 60, 61, 62, 63, 64, 65, 66, 67, 68, 69, 70, 71, 72, 73, 74, 75, 76, 77, 78, 79, 80, 81, 82, 83, 84, 85, 86, 87, 88, 89, 90, 91, 92, 93, 94, 95, 96, 97, 98, 99, 100, 101, 102, 103, 104, 105, 106, 107, 108, 109, 110, 111, 112, 113, 114] (by decide +kernel) (by decide +kernel)
set_option maxRecDepth 20000 in
theorem gX11_sayLamp_X11_readNumber : GoodIn wsX11_sayLamp (wsV RX11 222 RX11 yX11_readNumber wsX11_readNumber) := goodIn_app (goodIn_of _ (by decide +kernel)) ggX11_sayLamp_X11_readNumber
theorem dX11_sayLamp_0 : decode cX11_sayLamp 0 = .ok (.aload_n 0, 1) := by decide +kernel
theorem dX11_sayLamp_1 : decode cX11_sayLamp 1 = .ok (.iconst 1, 1) := by decide +kernel
theorem dX11_sayLamp_2 : decode cX11_sayLamp 2 = .ok (.bipush 12, 2) := by decide +kernel
theorem dX11_sayLamp_4 : decode cX11_sayLamp 4 = .ok (.invokevirtual 259, 3) := by decide +kernel
theorem dX11_sayLamp_7 : decode cX11_sayLamp 7 = .ok (.ifCond .ne 4, 3) := by decide +kernel
theorem dX11_sayLamp_10 : decode cX11_sayLamp 10 = .ok (.return_, 1) := by decide +kernel
theorem dX11_sayLamp_11 : decode cX11_sayLamp 11 = .ok (.bipush 12, 2) := by decide +kernel
theorem dX11_sayLamp_13 : decode cX11_sayLamp 13 = .ok (.aload_n 0, 1) := by decide +kernel
theorem dX11_sayLamp_14 : decode cX11_sayLamp 14 = .ok (.getfield 38, 3) := by decide +kernel
theorem dX11_sayLamp_17 : decode cX11_sayLamp 17 = .ok (.iconst 5, 1) := by decide +kernel
theorem dX11_sayLamp_18 : decode cX11_sayLamp 18 = .ok (.iaload, 1) := by decide +kernel
theorem dX11_sayLamp_19 : decode cX11_sayLamp 19 = .ok (.iadd, 1) := by decide +kernel
theorem dX11_sayLamp_20 : decode cX11_sayLamp 20 = .ok (.istore_n 1, 1) := by decide +kernel
theorem dX11_sayLamp_21 : decode cX11_sayLamp 21 = .ok (.aload_n 0, 1) := by decide +kernel
theorem dX11_sayLamp_22 : decode cX11_sayLamp 22 = .ok (.getfield 50, 3) := by decide +kernel
theorem dX11_sayLamp_25 : decode cX11_sayLamp 25 = .ok (.iload_n 1, 1) := by decide +kernel
theorem dX11_sayLamp_26 : decode cX11_sayLamp 26 = .ok (.aload_n 0, 1) := by decide +kernel
theorem dX11_sayLamp_27 : decode cX11_sayLamp 27 = .ok (.iconst 0, 1) := by decide +kernel
theorem dX11_sayLamp_28 : decode cX11_sayLamp 28 = .ok (.invokevirtual 263, 3) := by decide +kernel
theorem dX11_sayLamp_31 : decode cX11_sayLamp 31 = .ok (.iastore, 1) := by decide +kernel
theorem dX11_sayLamp_32 : decode cX11_sayLamp 32 = .ok (.aload_n 0, 1) := by decide +kernel
theorem dX11_sayLamp_33 : decode cX11_sayLamp 33 = .ok (.getfield 191, 3) := by decide +kernel
theorem dX11_sayLamp_36 : decode cX11_sayLamp 36 = .ok (.ifCond .ne 7, 3) := by decide +kernel
theorem dX11_sayLamp_39 : decode cX11_sayLamp 39 = .ok (.aload_n 0, 1) := by decide +kernel
theorem dX11_sayLamp_40 : decode cX11_sayLamp 40 = .ok (.invokevirtual 216, 3) := by decide +kernel
theorem dX11_sayLamp_43 : decode cX11_sayLamp 43 = .ok (.aload_n 0, 1) := by decide +kernel
theorem dX11_sayLamp_44 : decode cX11_sayLamp 44 = .ok (.getfield 53, 3) := by decide +kernel
theorem dX11_sayLamp_47 : decode cX11_sayLamp 47 = .ok (.iload_n 1, 1) := by decide +kernel
theorem dX11_sayLamp_48 : decode cX11_sayLamp 48 = .ok (.aload_n 0, 1) := by decide +kernel
theorem dX11_sayLamp_49 : decode cX11_sayLamp 49 = .ok (.iconst 0, 1) := by decide +kernel
theorem dX11_sayLamp_50 : decode cX11_sayLamp 50 = .ok (.bipush 99, 2) := by decide +kernel
theorem dX11_sayLamp_52 : decode cX11_sayLamp 52 = .ok (.invokevirtual 222, 3) := by decide +kernel
theorem dX11_sayLamp_55 : decode cX11_sayLamp 55 = .ok (.iastore, 1) := by decide +kernel
theorem dX11_sayLamp_56 : decode cX11_sayLamp 56 = .ok (.aload_n 0, 1) := by decide +kernel
theorem dX11_sayLamp_57 : decode cX11_sayLamp 57 = .ok (.getfield 56, 3) := by decide +kernel
theorem dX11_sayLamp_60 : decode cX11_sayLamp 60 = .ok (.iload_n 1, 1) := by decide +kernel
theorem dX11_sayLamp_61 : decode cX11_sayLamp 61 = .ok (.iconst (-1), 1) := by decide +kernel
theorem dX11_sayLamp_62 : decode cX11_sayLamp 62 = .ok (.iastore, 1) := by decide +kernel
theorem dX11_sayLamp_63 : decode cX11_sayLamp 63 = .ok (.aload_n 0, 1) := by decide +kernel
theorem dX11_sayLamp_64 : decode cX11_sayLamp 64 = .ok (.getfield 38, 3) := by decide +kernel
theorem dX11_sayLamp_67 : decode cX11_sayLamp 67 = .ok (.iconst 5, 1) := by decide +kernel
theorem dX11_sayLamp_68 : decode cX11_sayLamp 68 = .ok (.dup2, 1) := by decide +kernel
theorem dX11_sayLamp_69 : decode cX11_sayLamp 69 = .ok (.iaload, 1) := by decide +kernel
theorem dX11_sayLamp_70 : decode cX11_sayLamp 70 = .ok (.iconst 1, 1) := by decide +kernel
theorem dX11_sayLamp_71 : decode cX11_sayLamp 71 = .ok (.iadd, 1) := by decide +kernel
theorem dX11_sayLamp_72 : decode cX11_sayLamp 72 = .ok (.iastore, 1) := by decide +kernel
theorem dX11_sayLamp_73 : decode cX11_sayLamp 73 = .ok (.return_, 1) := by decide +kernel
set_option maxRecDepth 20000 in
theorem ggX11_sayTwins_X11_stepOn : GoodIn wsX11_sayTwins wsX11_stepOn := goodIn_r _ [8, 9, 10, 11, 12, 13, 14, 15, 16, 17, 18, 19, 20, 21, 7, 22, 23, 24, 25, 26, 27, 28, 29, 30, 31, 32, 33, 47, 48, 49, 50, 51, 52, 53, 54, 55, 56, 57, 58, 59, 60, 61, 62, 63, 64, 65, 66, 67, 68, 69, 70, 71, 72, 73, 74, 75, 76, 77, 78, 79, 80, 81, 82, 83, 84, 85, 86, 87, 88, 89, 90, 91, 92, 93, 94, 95, 96, 97, 98, 99, 100, 101, 102, 103, 104] (by decide +kernel) (by decide +kernel)
set_option maxRecDepth 20000 in
theorem gX11_sayTwins_X11_stepOn : GoodIn wsX11_sayTwins (wsV RX11 216 RX11 yX11_stepOn wsX11_stepOn) := goodIn_app (goodIn_of _ (by decide +kernel)) ggX11_sayTwins_X11_stepOn
set_option maxRecDepth 20000 in
theorem ggX11_sayTwins_X11_oneNow : GoodIn wsX11_sayTwins wsX11_oneNow := goodIn_r _ [37, 1, 3, 38, 39, 40, 7, 41, 11, 18, 10, 12, 42, 43, 44, 45, 46, 47, 48, 49, 50, 51, 52, 53, 54, 55, 56, 57, 58, 59, 60, 61, 62, 63, 64, 65, 66, 67, 68, 69, 70, 71, 72, 73, 74, 75, 76, 77, 78, 79, 80, 81, 82, 83, 84, 85, 86, 87, 88, 89, 90, 91, 92, 93, 94, 95, 96, 97, 98, 99, 100, 101, 102, 103, 104] (by decide +kernel) (by decide +kernel)
set_option maxRecDepth 20000 in
theorem gX11_sayTwins_X11_oneNow : GoodIn wsX11_sayTwins (wsV RX11 263 RX11 yX11_oneNow wsX11_oneNow) := goodIn_app (goodIn_of _ (by decide +kernel)) ggX11_sayTwins_X11_oneNow
set_option maxRecDepth 20000 in
theorem ggX11_sayTwins_X11_wrong : GoodIn wsX11_sayTwins wsX11_wrong := goodIn_r _ [45, 1, 10, 46, 47, 48, 49, 50, 51, 52, 53, 54, 55, 56, 57, 58, 59, 60, 61, 62, 63, 64, 65, 66, 67, 68, 69, 70, 71, 72, 73, 74, 75, 76, 77, 78, 79, 80, 81, 82, 83, 84, 85, 86, 87, 88, 89, 90, 91, 92, 93, 94, 95, 96, 97, 98, 99, 100, 101, 102, 103, 104] (by decide +kernel) (by decide +kernel)
set_option maxRecDepth 20000 in
theorem gX11_sayTwins_X11_wrong : GoodIn wsX11_sayTwins (wsV RX11 212 RX11 yX11_wrong wsX11_wrong) := goodIn_app (goodIn_of _ (by decide +kernel)) ggX11_sayTwins_X11_wrong
theorem dX11_sayTwins_0 : decode cX11_sayTwins 0 = .ok (.aload_n 0, 1) := by decide +kernel
theorem dX11_sayTwins_1 : decode cX11_sayTwins 1 = .ok (.getfield 191, 3) := by decide +kernel
theorem dX11_sayTwins_4 : decode cX11_sayTwins 4 = .ok (.ifCond .eq 4, 3) := by decide +kernel
theorem dX11_sayTwins_7 : decode cX11_sayTwins 7 = .ok (.return_, 1) := by decide +kernel
theorem dX11_sayTwins_8 : decode cX11_sayTwins 8 = .ok (.aload_n 0, 1) := by decide +kernel
theorem dX11_sayTwins_9 : decode cX11_sayTwins 9 = .ok (.invokevirtual 216, 3) := by decide +kernel
theorem dX11_sayTwins_12 : decode cX11_sayTwins 12 = .ok (.aload_n 0, 1) := by decide +kernel
theorem dX11_sayTwins_13 : decode cX11_sayTwins 13 = .ok (.iconst 1, 1) := by decide +kernel
theorem dX11_sayTwins_14 : decode cX11_sayTwins 14 = .ok (.invokevirtual 263, 3) := by decide +kernel
theorem dX11_sayTwins_17 : decode cX11_sayTwins 17 = .ok (.istore_n 1, 1) := by decide +kernel
theorem dX11_sayTwins_18 : decode cX11_sayTwins 18 = .ok (.aload_n 0, 1) := by decide +kernel
theorem dX11_sayTwins_19 : decode cX11_sayTwins 19 = .ok (.getfield 191, 3) := by decide +kernel
theorem dX11_sayTwins_22 : decode cX11_sayTwins 22 = .ok (.ifCond .ne 21, 3) := by decide +kernel
theorem dX11_sayTwins_25 : decode cX11_sayTwins 25 = .ok (.aload_n 0, 1) := by decide +kernel
theorem dX11_sayTwins_26 : decode cX11_sayTwins 26 = .ok (.getfield 56, 3) := by decide +kernel
theorem dX11_sayTwins_29 : decode cX11_sayTwins 29 = .ok (.bipush 12, 2) := by decide +kernel
theorem dX11_sayTwins_31 : decode cX11_sayTwins 31 = .ok (.iload_n 1, 1) := by decide +kernel
theorem dX11_sayTwins_32 : decode cX11_sayTwins 32 = .ok (.iadd, 1) := by decide +kernel
theorem dX11_sayTwins_33 : decode cX11_sayTwins 33 = .ok (.iaload, 1) := by decide +kernel
theorem dX11_sayTwins_34 : decode cX11_sayTwins 34 = .ok (.iconst (-1), 1) := by decide +kernel
theorem dX11_sayTwins_35 : decode cX11_sayTwins 35 = .ok (.if_icmp .eq 8, 3) := by decide +kernel
theorem dX11_sayTwins_38 : decode cX11_sayTwins 38 = .ok (.aload_n 0, 1) := by decide +kernel
theorem dX11_sayTwins_39 : decode cX11_sayTwins 39 = .ok (.iconst 4, 1) := by decide +kernel
theorem dX11_sayTwins_40 : decode cX11_sayTwins 40 = .ok (.invokevirtual 212, 3) := by decide +kernel
theorem dX11_sayTwins_43 : decode cX11_sayTwins 43 = .ok (.aload_n 0, 1) := by decide +kernel
theorem dX11_sayTwins_44 : decode cX11_sayTwins 44 = .ok (.getfield 191, 3) := by decide +kernel
theorem dX11_sayTwins_47 : decode cX11_sayTwins 47 = .ok (.ifCond .ne 7, 3) := by decide +kernel
theorem dX11_sayTwins_50 : decode cX11_sayTwins 50 = .ok (.aload_n 0, 1) := by decide +kernel
theorem dX11_sayTwins_51 : decode cX11_sayTwins 51 = .ok (.invokevirtual 216, 3) := by decide +kernel
theorem dX11_sayTwins_54 : decode cX11_sayTwins 54 = .ok (.aload_n 0, 1) := by decide +kernel
theorem dX11_sayTwins_55 : decode cX11_sayTwins 55 = .ok (.iconst 1, 1) := by decide +kernel
theorem dX11_sayTwins_56 : decode cX11_sayTwins 56 = .ok (.invokevirtual 263, 3) := by decide +kernel
theorem dX11_sayTwins_59 : decode cX11_sayTwins 59 = .ok (.istore_n 2, 1) := by decide +kernel
theorem dX11_sayTwins_60 : decode cX11_sayTwins 60 = .ok (.aload_n 0, 1) := by decide +kernel
theorem dX11_sayTwins_61 : decode cX11_sayTwins 61 = .ok (.getfield 191, 3) := by decide +kernel
theorem dX11_sayTwins_64 : decode cX11_sayTwins 64 = .ok (.ifCond .ne 26, 3) := by decide +kernel
theorem dX11_sayTwins_67 : decode cX11_sayTwins 67 = .ok (.iload_n 1, 1) := by decide +kernel
theorem dX11_sayTwins_68 : decode cX11_sayTwins 68 = .ok (.iload_n 2, 1) := by decide +kernel
theorem dX11_sayTwins_69 : decode cX11_sayTwins 69 = .ok (.if_icmp .eq 16, 3) := by decide +kernel
theorem dX11_sayTwins_72 : decode cX11_sayTwins 72 = .ok (.aload_n 0, 1) := by decide +kernel
theorem dX11_sayTwins_73 : decode cX11_sayTwins 73 = .ok (.getfield 56, 3) := by decide +kernel
theorem dX11_sayTwins_76 : decode cX11_sayTwins 76 = .ok (.bipush 12, 2) := by decide +kernel
theorem dX11_sayTwins_78 : decode cX11_sayTwins 78 = .ok (.iload_n 2, 1) := by decide +kernel
theorem dX11_sayTwins_79 : decode cX11_sayTwins 79 = .ok (.iadd, 1) := by decide +kernel
theorem dX11_sayTwins_80 : decode cX11_sayTwins 80 = .ok (.iaload, 1) := by decide +kernel
theorem dX11_sayTwins_81 : decode cX11_sayTwins 81 = .ok (.iconst (-1), 1) := by decide +kernel
theorem dX11_sayTwins_82 : decode cX11_sayTwins 82 = .ok (.if_icmp .eq 8, 3) := by decide +kernel
theorem dX11_sayTwins_85 : decode cX11_sayTwins 85 = .ok (.aload_n 0, 1) := by decide +kernel
theorem dX11_sayTwins_86 : decode cX11_sayTwins 86 = .ok (.iconst 4, 1) := by decide +kernel
theorem dX11_sayTwins_87 : decode cX11_sayTwins 87 = .ok (.invokevirtual 212, 3) := by decide +kernel
theorem dX11_sayTwins_90 : decode cX11_sayTwins 90 = .ok (.aload_n 0, 1) := by decide +kernel
theorem dX11_sayTwins_91 : decode cX11_sayTwins 91 = .ok (.getfield 191, 3) := by decide +kernel
theorem dX11_sayTwins_94 : decode cX11_sayTwins 94 = .ok (.ifCond .eq 4, 3) := by decide +kernel
theorem dX11_sayTwins_97 : decode cX11_sayTwins 97 = .ok (.return_, 1) := by decide +kernel
theorem dX11_sayTwins_98 : decode cX11_sayTwins 98 = .ok (.aload_n 0, 1) := by decide +kernel
theorem dX11_sayTwins_99 : decode cX11_sayTwins 99 = .ok (.invokevirtual 216, 3) := by decide +kernel
theorem dX11_sayTwins_102 : decode cX11_sayTwins 102 = .ok (.aload_n 0, 1) := by decide +kernel
theorem dX11_sayTwins_103 : decode cX11_sayTwins 103 = .ok (.getfield 56, 3) := by decide +kernel
theorem dX11_sayTwins_106 : decode cX11_sayTwins 106 = .ok (.bipush 12, 2) := by decide +kernel
theorem dX11_sayTwins_108 : decode cX11_sayTwins 108 = .ok (.iload_n 1, 1) := by decide +kernel
theorem dX11_sayTwins_109 : decode cX11_sayTwins 109 = .ok (.iadd, 1) := by decide +kernel
theorem dX11_sayTwins_110 : decode cX11_sayTwins 110 = .ok (.iload_n 2, 1) := by decide +kernel
theorem dX11_sayTwins_111 : decode cX11_sayTwins 111 = .ok (.iastore, 1) := by decide +kernel
theorem dX11_sayTwins_112 : decode cX11_sayTwins 112 = .ok (.aload_n 0, 1) := by decide +kernel
theorem dX11_sayTwins_113 : decode cX11_sayTwins 113 = .ok (.getfield 56, 3) := by decide +kernel
theorem dX11_sayTwins_116 : decode cX11_sayTwins 116 = .ok (.bipush 12, 2) := by decide +kernel
theorem dX11_sayTwins_118 : decode cX11_sayTwins 118 = .ok (.iload_n 2, 1) := by decide +kernel
theorem dX11_sayTwins_119 : decode cX11_sayTwins 119 = .ok (.iadd, 1) := by decide +kernel
theorem dX11_sayTwins_120 : decode cX11_sayTwins 120 = .ok (.iload_n 1, 1) := by decide +kernel
theorem dX11_sayTwins_121 : decode cX11_sayTwins 121 = .ok (.iastore, 1) := by decide +kernel
theorem dX11_sayTwins_122 : decode cX11_sayTwins 122 = .ok (.aload_n 0, 1) := by decide +kernel
theorem dX11_sayTwins_123 : decode cX11_sayTwins 123 = .ok (.getfield 38, 3) := by decide +kernel
theorem dX11_sayTwins_126 : decode cX11_sayTwins 126 = .ok (.bipush 6, 2) := by decide +kernel
theorem dX11_sayTwins_128 : decode cX11_sayTwins 128 = .ok (.dup2, 1) := by decide +kernel
theorem dX11_sayTwins_129 : decode cX11_sayTwins 129 = .ok (.iaload, 1) := by decide +kernel
theorem dX11_sayTwins_130 : decode cX11_sayTwins 130 = .ok (.iconst 1, 1) := by decide +kernel
theorem dX11_sayTwins_131 : decode cX11_sayTwins 131 = .ok (.iadd, 1) := by decide +kernel
theorem dX11_sayTwins_132 : decode cX11_sayTwins 132 = .ok (.iastore, 1) := by decide +kernel
theorem dX11_sayTwins_133 : decode cX11_sayTwins 133 = .ok (.return_, 1) := by decide +kernel
set_option maxRecDepth 20000 in
theorem ggX11_readLine_X11_which : GoodIn wsX11_readLine wsX11_which := goodIn_r _ [7, 8, 9, 10, 6, 11, 2, 12, 13, 14, 15, 16, 17, 18, 19, 20, 21, 22, 23, 24, 25, 26, 27, 28, 29, 30, 31, 32, 33, 34, 35, 36, 37, 38, 39, 40, 41, 42, 43, 44, 45, 46, 47, 48, 49, 50, 51, 52, 53, 54, 55, 56, 57, 58, 59, 60, 61, 62, 63, 64, 168, 169, 170, 171, 172, 173, 174, 175, 176, 177, 178, 179, 180, 181, 182, 183, 184, 185, 186, 187, 188, 189, 190, 191, 192, 193, 194, 195, 196, 197, 198, 199, 200, 201, 202, 203, 204, 205, 206, 207, 208, 209, 210, 211, 212, 213, 214, 215, 216, 217, 218, 219, 220, 221, 222, 223, 224, 225] (by decide +kernel) (by decide +kernel)
set_option maxRecDepth 20000 in
theorem gX11_readLine_X11_which : GoodIn wsX11_readLine (wsV RX11 228 RX11 yX11_which wsX11_which) := goodIn_app (goodIn_of _ (by decide +kernel)) ggX11_readLine_X11_which
set_option maxRecDepth 20000 in
theorem ggX11_readLine_X11_is : GoodIn wsX11_readLine wsX11_is := goodIn_r _ [11, 2, 12, 13, 14, 15, 16, 17, 18, 19, 20, 21, 22, 23, 24, 25, 26, 27, 28, 29, 30, 31, 32, 33, 34, 35, 36, 37, 38, 39, 40, 41, 42, 43, 44, 45, 46, 47, 48, 49, 50, 51, 52, 53, 54, 55, 56, 57, 58, 59, 60, 61, 62, 63, 64, 168, 169, 170, 171, 172, 173, 174, 175, 176, 177, 178, 179, 180, 181, 182, 183, 184, 185, 186, 187, 188, 189, 190, 191, 192, 193, 194, 195, 196, 197, 198, 199, 200, 201, 202, 203, 204, 205, 206, 207, 208, 209, 210, 211, 212, 213, 214, 215, 216, 217, 218, 219, 220, 221, 222, 223, 224, 225] (by decide +kernel) (by decide +kernel)
set_option maxRecDepth 20000 in
theorem gX11_readLine_X11_is : GoodIn wsX11_readLine (wsV RX11 205 RX11 yX11_is wsX11_is) := goodIn_app (goodIn_of _ (by decide +kernel)) ggX11_readLine_X11_is
set_option maxRecDepth 20000 in
theorem ggX11_readLine_X11_wrong : GoodIn wsX11_readLine wsX11_wrong := goodIn_r _ [68, 2, 14, 69, 168, 169, 170, 171, 172, 173, 174, 175, 176, 177, 178, 179, 180, 181, 182, 183, 184, 185, 186, 187, 188, 189, 190, 191, 192, 193, 194, 195, 196, 197, 198, 199, 200, 201, 202, 203, 204, 205, 206, 207, 208, 209, 210, 211, 212, 213, 214, 215, 216, 217, 218, 219, 220, 221, 222, 223, 224, 225] (by decide +kernel) (by decide +kernel)
set_option maxRecDepth 20000 in
theorem gX11_readLine_X11_wrong : GoodIn wsX11_readLine (wsV RX11 212 RX11 yX11_wrong wsX11_wrong) := goodIn_app (goodIn_of _ (by decide +kernel)) ggX11_readLine_X11_wrong
set_option maxRecDepth 20000 in
theorem ggX11_readLine_X11_stepOn : GoodIn wsX11_readLine wsX11_stepOn := goodIn_r _ [73, 74, 14, 12, 75, 76, 77, 78, 79, 80, 13, 81, 82, 83, 6, 84, 85, 15, 86, 87, 88, 89, 90, 91, 92, 93, 94, 168, 169, 170, 171, 172, 173, 174, 175, 176, 177, 178, 179, 180, 181, 182, 183, 184, 185, 186, 187, 188, 189, 190, 191, 192, 193, 194, 195, 196, 197, 198, 199, 200, 201, 202, 203, 204, 205, 206, 207, 208, 209, 210, 211, 212, 213, 214, 215, 216, 217, 218, 219, 220, 221, 222, 223, 224, 225] (by decide +kernel) (by decide +kernel)
set_option maxRecDepth 20000 in
theorem gX11_readLine_X11_stepOn : GoodIn wsX11_readLine (wsV RX11 216 RX11 yX11_stepOn wsX11_stepOn) := goodIn_app (goodIn_of _ (by decide +kernel)) ggX11_readLine_X11_stepOn
set_option maxRecDepth 20000 in
theorem ggX11_readLine_X11_readExpression : GoodIn wsX11_readLine wsX11_readExpression := goodIn_r _ [98, 2, 12, 99, 100, 101, 6, 102, 15, 14, 65, 66, 67, 68, 69, 103, 104, 105, 8, 9, 10, 11, 13, 16, 17, 18, 19, 20, 21, 22, 23, 24, 25, 26, 27, 28, 29, 30, 31, 32, 33, 34, 35, 36, 37, 38, 39, 40, 41, 42, 43, 44, 45, 46, 47, 48, 49, 50, 51, 52, 53, 54, 55, 56, 57, 58, 59, 60, 61, 62, 63, 64, 70, 71, 72, 73, 74, 75, 76, 77, 78, 79, 80, 81, 82, 83, 84, 85, 86, 87, 88, 89, 90, 91, 92, 93, 94, 106, 107, 108, 109, 110, 111, 112, 113, 114, 115, 116, 117, 118, 119, 120, 121, 122, 123, 124, 125, 126, 127, 128, 129, 3, 4, 5, 7, 130, 131, 132, 133, 95, 96, 97, 134, 135, 136, 137, 138, 139, 140, 141, 168, 169, 170, 171, 172, 173, 174, 175, 176, 177, 178, 179, 180, 181, 182, 183, 184, 185, 186, 187, 188, 189, 190, 191, 192, 193, 194, 195, 196, 197, 198, 199, 200, 201, 202, 203, 204, 205, 206, 207, 208, 209, 210, 211, 212, 213, 214, 215, 216, 217, 218, 219, 220, 221, 222, 223, 224, 225] (by decide +kernel) (by decide +kernel)
set_option maxRecDepth 20000 in
theorem gX11_readLine_X11_readExpression : GoodIn wsX11_readLine (wsV RX11 235 RX11 yX11_readExpression wsX11_readExpression) := goodIn_app (goodIn_of _ (by decide +kernel)) ggX11_readLine_X11_readExpression
set_option maxRecDepth 20000 in
theorem ggX11_readLine_X11_mark : GoodIn wsX11_readLine wsX11_mark := goodIn_r _ [133, 2, 99, 100, 101, 6, 102, 12, 15, 14, 65, 66, 67, 68, 69, 70, 71, 72, 73, 74, 75, 76, 77, 78, 79, 80, 13, 81, 82, 83, 84, 85, 86, 87, 88, 89, 90, 91, 92, 93, 94, 168, 169, 170, 171, 172, 173, 174, 175, 176, 177, 178, 179, 180, 181, 182, 183, 184, 185, 186, 187, 188, 189, 190, 191, 192, 193, 194, 195, 196, 197, 198, 199, 200, 201, 202, 203, 204, 205, 206, 207, 208, 209, 210, 211, 212, 213, 214, 215, 216, 217, 218, 219, 220, 221, 222, 223, 224, 225] (by decide +kernel) (by decide +kernel)
set_option maxRecDepth 20000 in
theorem gX11_readLine_X11_mark : GoodIn wsX11_readLine (wsV RX11 232 RX11 yX11_mark wsX11_mark) := goodIn_app (goodIn_of _ (by decide +kernel)) ggX11_readLine_X11_mark
set_option maxRecDepth 20000 in
theorem ggX11_readLine_X11_sayHouse : GoodIn wsX11_readLine wsX11_sayHouse := goodIn_r _ [145, 111, 146, 147, 148, 149, 150, 151, 6, 152, 2, 65, 66, 67, 68, 14, 69, 70, 71, 72, 73, 74, 12, 75, 76, 77, 78, 79, 80, 13, 81, 82, 83, 84, 85, 15, 86, 87, 88, 89, 90, 91, 92, 93, 94, 122, 123, 124, 125, 126, 127, 128, 129, 168, 169, 170, 171, 172, 173, 174, 175, 176, 177, 178, 179, 180, 181, 182, 183, 184, 185, 186, 187, 188, 189, 190, 191, 192, 193, 194, 195, 196, 197, 198, 199, 200, 201, 202, 203, 204, 205, 206, 207, 208, 209, 210, 211, 212, 213, 214, 215, 216, 217, 218, 219, 220, 221, 222, 223, 224, 225] (by decide +kernel) (by decide +kernel)
set_option maxRecDepth 20000 in
theorem gX11_readLine_X11_sayHouse : GoodIn wsX11_readLine (wsV RX11 268 RX11 yX11_sayHouse wsX11_sayHouse) := goodIn_app (goodIn_of _ (by decide +kernel)) ggX11_readLine_X11_sayHouse
set_option maxRecDepth 20000 in
theorem ggX11_readLine_X11_sayLamp : GoodIn wsX11_readLine wsX11_sayLamp := goodIn_r _ [156, 111, 157, 2, 158, 159, 149, 150, 151, 6, 152, 65, 66, 67, 68, 14, 69, 70, 71, 72, 73, 74, 12, 75, 76, 77, 78, 79, 80, 13, 81, 82, 83, 84, 85, 15, 86, 87, 88, 89, 90, 91, 92, 93, 94, 160, 161, 162, 163, 126, 127, 128, 129, 122, 123, 124, 125, 168, 169, 170, 171, 172, 173, 174, 175, 176, 177, 178, 179, 180, 181, 182, 183, 184, 185, 186, 187, 188, 189, 190, 191, 192, 193, 194, 195, 196, 197, 198, 199, 200, 201, 202, 203, 204, 205, 206, 207, 208, 209, 210, 211, 212, 213, 214, 215, 216, 217, 218, 219, 220, 221, 222, 223, 224, 225] (by decide +kernel) (by decide +kernel)
set_option maxRecDepth 20000 in
theorem gX11_readLine_X11_sayLamp : GoodIn wsX11_readLine (wsV RX11 273 RX11 yX11_sayLamp wsX11_sayLamp) := goodIn_app (goodIn_of _ (by decide +kernel)) ggX11_readLine_X11_sayLamp
set_option maxRecDepth 20000 in
theorem ggX11_readLine_X11_sayTwins : GoodIn wsX11_readLine wsX11_sayTwins := goodIn_r _ [167, 2, 159, 111, 70, 71, 72, 6, 73, 74, 14, 12, 75, 76, 77, 78, 79, 80, 13, 81, 82, 83, 84, 85, 15, 86, 87, 88, 89, 90, 91, 92, 93, 94, 160, 161, 162, 163, 126, 127, 128, 129, 65, 66, 67, 68, 69, 168, 169, 170, 171, 172, 173, 174, 175, 176, 177, 178, 179, 180, 181, 182, 183, 184, 185, 186, 187, 188, 189, 190, 191, 192, 193, 194, 195, 196, 197, 198, 199, 200, 201, 202, 203, 204, 205, 206, 207, 208, 209, 210, 211, 212, 213, 214, 215, 216, 217, 218, 219, 220, 221, 222, 223, 224, 225] (by decide +kernel) (by decide +kernel)
set_option maxRecDepth 20000 in
theorem gX11_readLine_X11_sayTwins : GoodIn wsX11_readLine (wsV RX11 278 RX11 yX11_sayTwins wsX11_sayTwins) := goodIn_app (goodIn_of _ (by decide +kernel)) ggX11_readLine_X11_sayTwins
theorem dX11_readLine_0 : decode cX11_readLine 0 = .ok (.aload_n 0, 1) := by decide +kernel
theorem dX11_readLine_1 : decode cX11_readLine 1 = .ok (.aload_n 0, 1) := by decide +kernel
theorem dX11_readLine_2 : decode cX11_readLine 2 = .ok (.getfield 19, 3) := by decide +kernel
theorem dX11_readLine_5 : decode cX11_readLine 5 = .ok (.invokevirtual 228, 3) := by decide +kernel
theorem dX11_readLine_8 : decode cX11_readLine 8 = .ok (.istore_n 2, 1) := by decide +kernel
theorem dX11_readLine_9 : decode cX11_readLine 9 = .ok (.aload_n 0, 1) := by decide +kernel
theorem dX11_readLine_10 : decode cX11_readLine 10 = .ok (.ldc_w 266, 3) := by decide +kernel
theorem dX11_readLine_13 : decode cX11_readLine 13 = .ok (.invokevirtual 205, 3) := by decide +kernel
theorem dX11_readLine_16 : decode cX11_readLine 16 = .ok (.ifCond .eq 37, 3) := by decide +kernel
theorem dX11_readLine_19 : decode cX11_readLine 19 = .ok (.iload_n 1, 1) := by decide +kernel
theorem dX11_readLine_20 : decode cX11_readLine 20 = .ok (.iconst 1, 1) := by decide +kernel
theorem dX11_readLine_21 : decode cX11_readLine 21 = .ok (.if_icmp .ne 8, 3) := by decide +kernel
theorem dX11_readLine_24 : decode cX11_readLine 24 = .ok (.aload_n 0, 1) := by decide +kernel
theorem dX11_readLine_25 : decode cX11_readLine 25 = .ok (.iconst 5, 1) := by decide +kernel
theorem dX11_readLine_26 : decode cX11_readLine 26 = .ok (.invokevirtual 212, 3) := by decide +kernel
theorem dX11_readLine_29 : decode cX11_readLine 29 = .ok (.aload_n 0, 1) := by decide +kernel
theorem dX11_readLine_30 : decode cX11_readLine 30 = .ok (.getfield 191, 3) := by decide +kernel
theorem dX11_readLine_33 : decode cX11_readLine 33 = .ok (.ifCond .ne 7, 3) := by decide +kernel
theorem dX11_readLine_36 : decode cX11_readLine 36 = .ok (.aload_n 0, 1) := by decide +kernel
theorem dX11_readLine_37 : decode cX11_readLine 37 = .ok (.invokevirtual 216, 3) := by decide +kernel
theorem dX11_readLine_40 : decode cX11_readLine 40 = .ok (.aload_n 0, 1) := by decide +kernel
theorem dX11_readLine_41 : decode cX11_readLine 41 = .ok (.iconst 0, 1) := by decide +kernel
theorem dX11_readLine_42 : decode cX11_readLine 42 = .ok (.invokevirtual 235, 3) := by decide +kernel
theorem dX11_readLine_45 : decode cX11_readLine 45 = .ok (.aload_n 0, 1) := by decide +kernel
theorem dX11_readLine_46 : decode cX11_readLine 46 = .ok (.bipush 59, 2) := by decide +kernel
theorem dX11_readLine_48 : decode cX11_readLine 48 = .ok (.invokevirtual 232, 3) := by decide +kernel
theorem dX11_readLine_51 : decode cX11_readLine 51 = .ok (.iconst 1, 1) := by decide +kernel
theorem dX11_readLine_52 : decode cX11_readLine 52 = .ok (.ireturn, 1) := by decide +kernel
theorem dX11_readLine_53 : decode cX11_readLine 53 = .ok (.iload_n 2, 1) := by decide +kernel
theorem dX11_readLine_54 : decode cX11_readLine 54 = .ok (.iconst (-1), 1) := by decide +kernel
theorem dX11_readLine_55 : decode cX11_readLine 55 = .ok (.if_icmp .eq 11, 3) := by decide +kernel
theorem dX11_readLine_58 : decode cX11_readLine 58 = .ok (.aload_n 0, 1) := by decide +kernel
theorem dX11_readLine_59 : decode cX11_readLine 59 = .ok (.iload_n 2, 1) := by decide +kernel
theorem dX11_readLine_60 : decode cX11_readLine 60 = .ok (.invokevirtual 268, 3) := by decide +kernel
theorem dX11_readLine_63 : decode cX11_readLine 63 = .ok (.goto 42, 3) := by decide +kernel
theorem dX11_readLine_66 : decode cX11_readLine 66 = .ok (.aload_n 0, 1) := by decide +kernel
theorem dX11_readLine_67 : decode cX11_readLine 67 = .ok (.ldc_w 271, 3) := by decide +kernel
theorem dX11_readLine_70 : decode cX11_readLine 70 = .ok (.invokevirtual 205, 3) := by decide +kernel
theorem dX11_readLine_73 : decode cX11_readLine 73 = .ok (.ifCond .eq 10, 3) := by decide +kernel
theorem dX11_readLine_76 : decode cX11_readLine 76 = .ok (.aload_n 0, 1) := by decide +kernel
theorem dX11_readLine_77 : decode cX11_readLine 77 = .ok (.invokevirtual 273, 3) := by decide +kernel
theorem dX11_readLine_80 : decode cX11_readLine 80 = .ok (.goto 25, 3) := by decide +kernel
theorem dX11_readLine_83 : decode cX11_readLine 83 = .ok (.aload_n 0, 1) := by decide +kernel
theorem dX11_readLine_84 : decode cX11_readLine 84 = .ok (.ldc_w 276, 3) := by decide +kernel
theorem dX11_readLine_87 : decode cX11_readLine 87 = .ok (.invokevirtual 205, 3) := by decide +kernel
theorem dX11_readLine_90 : decode cX11_readLine 90 = .ok (.ifCond .eq 10, 3) := by decide +kernel
theorem dX11_readLine_93 : decode cX11_readLine 93 = .ok (.aload_n 0, 1) := by decide +kernel
theorem dX11_readLine_94 : decode cX11_readLine 94 = .ok (.invokevirtual 278, 3) := by decide +kernel
theorem dX11_readLine_97 : decode cX11_readLine 97 = .ok (.goto 8, 3) := by decide +kernel
theorem dX11_readLine_100 : decode cX11_readLine 100 = .ok (.aload_n 0, 1) := by decide +kernel
theorem dX11_readLine_101 : decode cX11_readLine 101 = .ok (.iconst 1, 1) := by decide +kernel
theorem dX11_readLine_102 : decode cX11_readLine 102 = .ok (.invokevirtual 212, 3) := by decide +kernel
theorem dX11_readLine_105 : decode cX11_readLine 105 = .ok (.aload_n 0, 1) := by decide +kernel
theorem dX11_readLine_106 : decode cX11_readLine 106 = .ok (.bipush 59, 2) := by decide +kernel
theorem dX11_readLine_108 : decode cX11_readLine 108 = .ok (.invokevirtual 232, 3) := by decide +kernel
theorem dX11_readLine_111 : decode cX11_readLine 111 = .ok (.iload_n 1, 1) := by decide +kernel
theorem dX11_readLine_112 : decode cX11_readLine 112 = .ok (.ireturn, 1) := by decide +kernel
set_option maxRecDepth 20000 in
theorem ggX11_street_X11_fail : GoodIn wsX11_street wsX11_fail := goodIn_r _ [15, 1, 197, 198, 199, 200, 201, 202, 203, 204, 205, 206, 207, 208, 209, 210, 211, 212, 213, 214, 215, 216, 217, 218, 219, 220, 221, 222, 223, 224, 225, 226, 227, 228, 229, 230, 231, 232, 233, 234, 235, 236, 237, 238, 239, 240, 241, 242, 243, 244, 245, 246, 247, 248, 249, 250, 251, 252, 253, 254] (by decide +kernel) (by decide +kernel)
set_option maxRecDepth 20000 in
theorem gX11_street_X11_fail : GoodIn wsX11_street (wsV RX11 281 RX11 yX11_fail wsX11_fail) := goodIn_app (goodIn_of _ (by decide +kernel)) ggX11_street_X11_fail
set_option maxRecDepth 20000 in
theorem ggX11_street_X11_stepOn : GoodIn wsX11_street wsX11_stepOn := goodIn_r _ [19, 4, 20, 8, 21, 22, 23, 24, 25, 26, 27, 28, 29, 30, 14, 31, 3, 32, 33, 34, 35, 36, 37, 38, 39, 40, 41, 197, 198, 199, 200, 201, 202, 203, 204, 205, 206, 207, 208, 209, 210, 211, 212, 213, 214, 215, 216, 217, 218, 219, 220, 221, 222, 223, 224, 225, 226, 227, 228, 229, 230, 231, 232, 233, 234, 235, 236, 237, 238, 239, 240, 241, 242, 243, 244, 245, 246, 247, 248, 249, 250, 251, 252, 253, 254] (by decide +kernel) (by decide +kernel)
set_option maxRecDepth 20000 in
theorem gX11_street_X11_stepOn : GoodIn wsX11_street (wsV RX11 216 RX11 yX11_stepOn wsX11_stepOn) := goodIn_app (goodIn_of _ (by decide +kernel)) ggX11_street_X11_stepOn
set_option maxRecDepth 20000 in
theorem ggX11_street_X11_readLine : GoodIn wsX11_street wsX11_readLine := goodIn_r _ [45, 46, 5, 47, 48, 49, 14, 50, 51, 52, 53, 54, 8, 27, 20, 32, 55, 56, 57, 58, 59, 60, 61, 62, 63, 64, 65, 66, 67, 68, 69, 70, 71, 72, 73, 74, 75, 76, 77, 78, 79, 80, 81, 82, 83, 84, 85, 86, 87, 88, 89, 90, 91, 92, 93, 94, 95, 96, 97, 98, 99, 100, 101, 102, 103, 104, 105, 106, 107, 9, 16, 17, 18, 19, 4, 21, 22, 23, 24, 25, 26, 28, 29, 30, 31, 3, 33, 34, 35, 36, 37, 38, 39, 40, 41, 108, 109, 110, 111, 112, 113, 114, 115, 116, 117, 118, 119, 120, 121, 122, 123, 7, 124, 125, 126, 127, 128, 129, 130, 131, 132, 133, 134, 135, 136, 137, 138, 139, 140, 141, 142, 143, 144, 145, 146, 147, 148, 149, 150, 151, 152, 153, 154, 155, 156, 157, 158, 159, 160, 161, 162, 163, 164, 165, 166, 167, 168, 169, 170, 171, 172, 173, 174, 175, 176, 177, 178, 179, 197, 198, 199, 200, 201, 202, 203, 204, 205, 206, 207, 208, 209, 210, 211, 212, 213, 214, 215, 216, 217, 218, 219, 220, 221, 222, 223, 224, 225, 226, 227, 228, 229, 230, 231, 232, 233, 234, 235, 236, 237, 238, 239, 240, 241, 242, 243, 244, 245, 246, 247, 248, 249, 250, 251, 252, 253, 254] (by decide +kernel) (by decide +kernel)
set_option maxRecDepth 20000 in
theorem gX11_street_X11_readLine : GoodIn wsX11_street (wsV RX11 284 RX11 yX11_readLine wsX11_readLine) := goodIn_app (goodIn_of _ (by decide +kernel)) ggX11_street_X11_readLine
set_option maxRecDepth 20000 in
theorem ggX11_street_X11_takeOver : GoodIn wsX11_street wsX11_takeOver := goodIn_r _ [183, 7, 158, 159, 160, 169, 170, 171, 123, 184, 185, 186, 187, 188, 189, 190, 191, 192, 193, 194, 195, 14, 196, 197, 198, 199, 200, 201, 202, 203, 204, 205, 206, 207, 208, 209, 210, 211, 212, 213, 214, 215, 216, 217, 218, 219, 220, 221, 222, 223, 224, 225, 226, 227, 228, 229, 230, 231, 232, 233, 234, 235, 236, 237, 238, 239, 240, 241, 242, 243, 244, 245, 246, 247, 248, 249, 250, 251, 252, 253, 254] (by decide +kernel) (by decide +kernel)
set_option maxRecDepth 20000 in
theorem gX11_street_X11_takeOver : GoodIn wsX11_street (wsV RX11 287 RX11 yX11_takeOver wsX11_takeOver) := goodIn_app (goodIn_of _ (by decide +kernel)) ggX11_street_X11_takeOver
theorem dX11_street_0 : decode cX11_street 0 = .ok (.aload_n 0, 1) := by decide +kernel
theorem dX11_street_1 : decode cX11_street 1 = .ok (.iconst 0, 1) := by decide +kernel
theorem dX11_street_2 : decode cX11_street 2 = .ok (.putfield 142, 3) := by decide +kernel
theorem dX11_street_5 : decode cX11_street 5 = .ok (.iload_n 1, 1) := by decide +kernel
theorem dX11_street_6 : decode cX11_street 6 = .ok (.ifCond .lt 11, 3) := by decide +kernel
theorem dX11_street_9 : decode cX11_street 9 = .ok (.iload_n 1, 1) := by decide +kernel
theorem dX11_street_10 : decode cX11_street 10 = .ok (.aload_n 0, 1) := by decide +kernel
theorem dX11_street_11 : decode cX11_street 11 = .ok (.getfield 149, 3) := by decide +kernel
theorem dX11_street_14 : decode cX11_street 14 = .ok (.if_icmp .le 9, 3) := by decide +kernel
theorem dX11_street_17 : decode cX11_street 17 = .ok (.aload_n 0, 1) := by decide +kernel
theorem dX11_street_18 : decode cX11_street 18 = .ok (.iconst 1, 1) := by decide +kernel
theorem dX11_street_19 : decode cX11_street 19 = .ok (.invokevirtual 281, 3) := by decide +kernel
theorem dX11_street_22 : decode cX11_street 22 = .ok (.ireturn, 1) := by decide +kernel
theorem dX11_street_23 : decode cX11_street 23 = .ok (.aload_n 0, 1) := by decide +kernel
theorem dX11_street_24 : decode cX11_street 24 = .ok (.iconst 0, 1) := by decide +kernel
theorem dX11_street_25 : decode cX11_street 25 = .ok (.putfield 149, 3) := by decide +kernel
theorem dX11_street_28 : decode cX11_street 28 = .ok (.aload_n 0, 1) := by decide +kernel
theorem dX11_street_29 : decode cX11_street 29 = .ok (.iload_n 1, 1) := by decide +kernel
theorem dX11_street_30 : decode cX11_street 30 = .ok (.putfield 152, 3) := by decide +kernel
theorem dX11_street_33 : decode cX11_street 33 = .ok (.aload_n 0, 1) := by decide +kernel
theorem dX11_street_34 : decode cX11_street 34 = .ok (.iconst 0, 1) := by decide +kernel
theorem dX11_street_35 : decode cX11_street 35 = .ok (.putfield 155, 3) := by decide +kernel
theorem dX11_street_38 : decode cX11_street 38 = .ok (.aload_n 0, 1) := by decide +kernel
theorem dX11_street_39 : decode cX11_street 39 = .ok (.iconst 0, 1) := by decide +kernel
theorem dX11_street_40 : decode cX11_street 40 = .ok (.putfield 191, 3) := by decide +kernel
theorem dX11_street_43 : decode cX11_street 43 = .ok (.aload_n 0, 1) := by decide +kernel
theorem dX11_street_44 : decode cX11_street 44 = .ok (.iconst (-1), 1) := by decide +kernel
theorem dX11_street_45 : decode cX11_street 45 = .ok (.putfield 68, 3) := by decide +kernel
theorem dX11_street_48 : decode cX11_street 48 = .ok (.iconst 0, 1) := by decide +kernel
theorem dX11_street_49 : decode cX11_street 49 = .ok (.istore_n 2, 1) := by decide +kernel
theorem dX11_street_50 : decode cX11_street 50 = .ok (.iload_n 2, 1) := by decide +kernel
theorem dX11_street_51 : decode cX11_street 51 = .ok (.iconst 4, 1) := by decide +kernel
theorem dX11_street_52 : decode cX11_street 52 = .ok (.if_icmp .ge 18, 3) := by decide +kernel
theorem dX11_street_55 : decode cX11_street 55 = .ok (.aload_n 0, 1) := by decide +kernel
theorem dX11_street_56 : decode cX11_street 56 = .ok (.getfield 38, 3) := by decide +kernel
theorem dX11_street_59 : decode cX11_street 59 = .ok (.iconst 4, 1) := by decide +kernel
theorem dX11_street_60 : decode cX11_street 60 = .ok (.iload_n 2, 1) := by decide +kernel
theorem dX11_street_61 : decode cX11_street 61 = .ok (.iadd, 1) := by decide +kernel
theorem dX11_street_62 : decode cX11_street 62 = .ok (.iconst 0, 1) := by decide +kernel
theorem dX11_street_63 : decode cX11_street 63 = .ok (.iastore, 1) := by decide +kernel
theorem dX11_street_64 : decode cX11_street 64 = .ok (.iinc 2 1, 3) := by decide +kernel
theorem dX11_street_67 : decode cX11_street 67 = .ok (.goto (-17), 3) := by decide +kernel
theorem dX11_street_70 : decode cX11_street 70 = .ok (.aload_n 0, 1) := by decide +kernel
theorem dX11_street_71 : decode cX11_street 71 = .ok (.invokevirtual 216, 3) := by decide +kernel
theorem dX11_street_74 : decode cX11_street 74 = .ok (.iconst 0, 1) := by decide +kernel
theorem dX11_street_75 : decode cX11_street 75 = .ok (.istore_n 2, 1) := by decide +kernel
theorem dX11_street_76 : decode cX11_street 76 = .ok (.aload_n 0, 1) := by decide +kernel
theorem dX11_street_77 : decode cX11_street 77 = .ok (.getfield 191, 3) := by decide +kernel
theorem dX11_street_80 : decode cX11_street 80 = .ok (.ifCond .ne 19, 3) := by decide +kernel
theorem dX11_street_83 : decode cX11_street 83 = .ok (.aload_n 0, 1) := by decide +kernel
theorem dX11_street_84 : decode cX11_street 84 = .ok (.getfield 165, 3) := by decide +kernel
theorem dX11_street_87 : decode cX11_street 87 = .ok (.ifCond .eq 12, 3) := by decide +kernel
theorem dX11_street_90 : decode cX11_street 90 = .ok (.aload_n 0, 1) := by decide +kernel
theorem dX11_street_91 : decode cX11_street 91 = .ok (.iload_n 2, 1) := by decide +kernel
theorem dX11_street_92 : decode cX11_street 92 = .ok (.invokevirtual 284, 3) := by decide +kernel
theorem dX11_street_95 : decode cX11_street 95 = .ok (.istore_n 2, 1) := by decide +kernel
theorem dX11_street_96 : decode cX11_street 96 = .ok (.goto (-20), 3) := by decide +kernel
theorem dX11_street_99 : decode cX11_street 99 = .ok (.aload_n 0, 1) := by decide +kernel
theorem dX11_street_100 : decode cX11_street 100 = .ok (.getfield 191, 3) := by decide +kernel
theorem dX11_street_103 : decode cX11_street 103 = .ok (.ifCond .eq 26, 3) := by decide +kernel
theorem dX11_street_106 : decode cX11_street 106 = .ok (.aload_n 0, 1) := by decide +kernel
theorem dX11_street_107 : decode cX11_street 107 = .ok (.aload_n 0, 1) := by decide +kernel
theorem dX11_street_108 : decode cX11_street 108 = .ok (.getfield 194, 3) := by decide +kernel
theorem dX11_street_111 : decode cX11_street 111 = .ok (.putfield 68, 3) := by decide +kernel
theorem dX11_street_114 : decode cX11_street 114 = .ok (.aload_n 0, 1) := by decide +kernel
theorem dX11_street_115 : decode cX11_street 115 = .ok (.getfield 62, 3) := by decide +kernel
theorem dX11_street_118 : decode cX11_street 118 = .ok (.iconst 0, 1) := by decide +kernel
theorem dX11_street_119 : decode cX11_street 119 = .ok (.dup2, 1) := by decide +kernel
theorem dX11_street_120 : decode cX11_street 120 = .ok (.iaload, 1) := by decide +kernel
theorem dX11_street_121 : decode cX11_street 121 = .ok (.iconst 1, 1) := by decide +kernel
theorem dX11_street_122 : decode cX11_street 122 = .ok (.iadd, 1) := by decide +kernel
theorem dX11_street_123 : decode cX11_street 123 = .ok (.iastore, 1) := by decide +kernel
theorem dX11_street_124 : decode cX11_street 124 = .ok (.aload_n 0, 1) := by decide +kernel
theorem dX11_street_125 : decode cX11_street 125 = .ok (.getfield 191, 3) := by decide +kernel
theorem dX11_street_128 : decode cX11_street 128 = .ok (.ireturn, 1) := by decide +kernel
theorem dX11_street_129 : decode cX11_street 129 = .ok (.aload_n 0, 1) := by decide +kernel
theorem dX11_street_130 : decode cX11_street 130 = .ok (.invokevirtual 287, 3) := by decide +kernel
theorem dX11_street_133 : decode cX11_street 133 = .ok (.iconst 0, 1) := by decide +kernel
theorem dX11_street_134 : decode cX11_street 134 = .ok (.ireturn, 1) := by decide +kernel
theorem dX11_takeHalf_0 : decode cX11_takeHalf 0 = .ok (.iconst 0, 1) := by decide +kernel
theorem dX11_takeHalf_1 : decode cX11_takeHalf 1 = .ok (.istore_n 1, 1) := by decide +kernel
theorem dX11_takeHalf_2 : decode cX11_takeHalf 2 = .ok (.iload_n 1, 1) := by decide +kernel
theorem dX11_takeHalf_3 : decode cX11_takeHalf 3 = .ok (.aload_n 0, 1) := by decide +kernel
theorem dX11_takeHalf_4 : decode cX11_takeHalf 4 = .ok (.arraylength, 1) := by decide +kernel
theorem dX11_takeHalf_5 : decode cX11_takeHalf 5 = .ok (.iconst 2, 1) := by decide +kernel
theorem dX11_takeHalf_6 : decode cX11_takeHalf 6 = .ok (.idiv, 1) := by decide +kernel
theorem dX11_takeHalf_7 : decode cX11_takeHalf 7 = .ok (.if_icmp .ge 20, 3) := by decide +kernel
theorem dX11_takeHalf_10 : decode cX11_takeHalf 10 = .ok (.aload_n 0, 1) := by decide +kernel
theorem dX11_takeHalf_11 : decode cX11_takeHalf 11 = .ok (.iload_n 1, 1) := by decide +kernel
theorem dX11_takeHalf_12 : decode cX11_takeHalf 12 = .ok (.aload_n 0, 1) := by decide +kernel
theorem dX11_takeHalf_13 : decode cX11_takeHalf 13 = .ok (.aload_n 0, 1) := by decide +kernel
theorem dX11_takeHalf_14 : decode cX11_takeHalf 14 = .ok (.arraylength, 1) := by decide +kernel
theorem dX11_takeHalf_15 : decode cX11_takeHalf 15 = .ok (.iconst 2, 1) := by decide +kernel
theorem dX11_takeHalf_16 : decode cX11_takeHalf 16 = .ok (.idiv, 1) := by decide +kernel
theorem dX11_takeHalf_17 : decode cX11_takeHalf 17 = .ok (.iload_n 1, 1) := by decide +kernel
theorem dX11_takeHalf_18 : decode cX11_takeHalf 18 = .ok (.iadd, 1) := by decide +kernel
theorem dX11_takeHalf_19 : decode cX11_takeHalf 19 = .ok (.iaload, 1) := by decide +kernel
theorem dX11_takeHalf_20 : decode cX11_takeHalf 20 = .ok (.iastore, 1) := by decide +kernel
theorem dX11_takeHalf_21 : decode cX11_takeHalf 21 = .ok (.iinc 1 1, 3) := by decide +kernel
theorem dX11_takeHalf_24 : decode cX11_takeHalf 24 = .ok (.goto (-22), 3) := by decide +kernel
theorem dX11_takeHalf_27 : decode cX11_takeHalf 27 = .ok (.return_, 1) := by decide +kernel
set_option maxRecDepth 20000 in
theorem ggX11_takeOver_X11_takeHalf : GoodIn wsX11_takeOver wsX11_takeHalf := goodIn_r _ [22] (by decide +kernel) (by decide +kernel)
set_option maxRecDepth 20000 in
theorem gX11_takeOver_X11_takeHalf : GoodIn wsX11_takeOver (va_wsS RX11 290 yX11_takeHalf wsX11_takeHalf) := goodIn_app (goodIn_of _ (by decide +kernel)) ggX11_takeOver_X11_takeHalf
theorem dX11_takeOver_0 : decode cX11_takeOver 0 = .ok (.aload_n 0, 1) := by decide +kernel
theorem dX11_takeOver_1 : decode cX11_takeOver 1 = .ok (.getfield 38, 3) := by decide +kernel
theorem dX11_takeOver_4 : decode cX11_takeOver 4 = .ok (.invokestatic 290, 3) := by decide +kernel
theorem dX11_takeOver_7 : decode cX11_takeOver 7 = .ok (.aload_n 0, 1) := by decide +kernel
theorem dX11_takeOver_8 : decode cX11_takeOver 8 = .ok (.getfield 42, 3) := by decide +kernel
theorem dX11_takeOver_11 : decode cX11_takeOver 11 = .ok (.invokestatic 290, 3) := by decide +kernel
theorem dX11_takeOver_14 : decode cX11_takeOver 14 = .ok (.aload_n 0, 1) := by decide +kernel
theorem dX11_takeOver_15 : decode cX11_takeOver 15 = .ok (.getfield 44, 3) := by decide +kernel
theorem dX11_takeOver_18 : decode cX11_takeOver 18 = .ok (.invokestatic 290, 3) := by decide +kernel
theorem dX11_takeOver_21 : decode cX11_takeOver 21 = .ok (.aload_n 0, 1) := by decide +kernel
theorem dX11_takeOver_22 : decode cX11_takeOver 22 = .ok (.getfield 47, 3) := by decide +kernel
theorem dX11_takeOver_25 : decode cX11_takeOver 25 = .ok (.invokestatic 290, 3) := by decide +kernel
theorem dX11_takeOver_28 : decode cX11_takeOver 28 = .ok (.aload_n 0, 1) := by decide +kernel
theorem dX11_takeOver_29 : decode cX11_takeOver 29 = .ok (.getfield 50, 3) := by decide +kernel
theorem dX11_takeOver_32 : decode cX11_takeOver 32 = .ok (.invokestatic 290, 3) := by decide +kernel
theorem dX11_takeOver_35 : decode cX11_takeOver 35 = .ok (.aload_n 0, 1) := by decide +kernel
theorem dX11_takeOver_36 : decode cX11_takeOver 36 = .ok (.getfield 53, 3) := by decide +kernel
theorem dX11_takeOver_39 : decode cX11_takeOver 39 = .ok (.invokestatic 290, 3) := by decide +kernel
theorem dX11_takeOver_42 : decode cX11_takeOver 42 = .ok (.aload_n 0, 1) := by decide +kernel
theorem dX11_takeOver_43 : decode cX11_takeOver 43 = .ok (.getfield 56, 3) := by decide +kernel
theorem dX11_takeOver_46 : decode cX11_takeOver 46 = .ok (.invokestatic 290, 3) := by decide +kernel
theorem dX11_takeOver_49 : decode cX11_takeOver 49 = .ok (.aload_n 0, 1) := by decide +kernel
theorem dX11_takeOver_50 : decode cX11_takeOver 50 = .ok (.getfield 59, 3) := by decide +kernel
theorem dX11_takeOver_53 : decode cX11_takeOver 53 = .ok (.invokestatic 290, 3) := by decide +kernel
theorem dX11_takeOver_56 : decode cX11_takeOver 56 = .ok (.aload_n 0, 1) := by decide +kernel
theorem dX11_takeOver_57 : decode cX11_takeOver 57 = .ok (.iconst 0, 1) := by decide +kernel
theorem dX11_takeOver_58 : decode cX11_takeOver 58 = .ok (.putfield 294, 3) := by decide +kernel
theorem dX11_takeOver_61 : decode cX11_takeOver 61 = .ok (.aload_n 0, 1) := by decide +kernel
theorem dX11_takeOver_62 : decode cX11_takeOver 62 = .ok (.iconst 0, 1) := by decide +kernel
theorem dX11_takeOver_63 : decode cX11_takeOver 63 = .ok (.putfield 296, 3) := by decide +kernel
theorem dX11_takeOver_66 : decode cX11_takeOver 66 = .ok (.aload_n 0, 1) := by decide +kernel
theorem dX11_takeOver_67 : decode cX11_takeOver 67 = .ok (.iconst 0, 1) := by decide +kernel
theorem dX11_takeOver_68 : decode cX11_takeOver 68 = .ok (.putfield 299, 3) := by decide +kernel
theorem dX11_takeOver_71 : decode cX11_takeOver 71 = .ok (.iconst 0, 1) := by decide +kernel
theorem dX11_takeOver_72 : decode cX11_takeOver 72 = .ok (.istore_n 1, 1) := by decide +kernel
theorem dX11_takeOver_73 : decode cX11_takeOver 73 = .ok (.iload_n 1, 1) := by decide +kernel
theorem dX11_takeOver_74 : decode cX11_takeOver 74 = .ok (.bipush 12, 2) := by decide +kernel
theorem dX11_takeOver_76 : decode cX11_takeOver 76 = .ok (.if_icmp .ge 61, 3) := by decide +kernel
theorem dX11_takeOver_79 : decode cX11_takeOver 79 = .ok (.aload_n 0, 1) := by decide +kernel
theorem dX11_takeOver_80 : decode cX11_takeOver 80 = .ok (.getfield 72, 3) := by decide +kernel
theorem dX11_takeOver_83 : decode cX11_takeOver 83 = .ok (.iload_n 1, 1) := by decide +kernel
theorem dX11_takeOver_84 : decode cX11_takeOver 84 = .ok (.iload_n 1, 1) := by decide +kernel
theorem dX11_takeOver_85 : decode cX11_takeOver 85 = .ok (.aload_n 0, 1) := by decide +kernel
theorem dX11_takeOver_86 : decode cX11_takeOver 86 = .ok (.getfield 38, 3) := by decide +kernel
theorem dX11_takeOver_89 : decode cX11_takeOver 89 = .ok (.iconst 1, 1) := by decide +kernel
theorem dX11_takeOver_90 : decode cX11_takeOver 90 = .ok (.iaload, 1) := by decide +kernel
theorem dX11_takeOver_91 : decode cX11_takeOver 91 = .ok (.if_icmp .ge 12, 3) := by decide +kernel
theorem dX11_takeOver_94 : decode cX11_takeOver 94 = .ok (.aload_n 0, 1) := by decide +kernel
theorem dX11_takeOver_95 : decode cX11_takeOver 95 = .ok (.getfield 53, 3) := by decide +kernel
theorem dX11_takeOver_98 : decode cX11_takeOver 98 = .ok (.iload_n 1, 1) := by decide +kernel
theorem dX11_takeOver_99 : decode cX11_takeOver 99 = .ok (.iaload, 1) := by decide +kernel
theorem dX11_takeOver_100 : decode cX11_takeOver 100 = .ok (.goto 4, 3) := by decide +kernel
theorem dX11_takeOver_103 : decode cX11_takeOver 103 = .ok (.iconst 0, 1) := by decide +kernel
theorem dX11_takeOver_104 : decode cX11_takeOver 104 = .ok (.iastore, 1) := by decide +kernel
theorem dX11_takeOver_105 : decode cX11_takeOver 105 = .ok (.aload_n 0, 1) := by decide +kernel
theorem dX11_takeOver_106 : decode cX11_takeOver 106 = .ok (.getfield 74, 3) := by decide +kernel
theorem dX11_takeOver_109 : decode cX11_takeOver 109 = .ok (.iload_n 1, 1) := by decide +kernel
theorem dX11_takeOver_110 : decode cX11_takeOver 110 = .ok (.iload_n 1, 1) := by decide +kernel
theorem dX11_takeOver_111 : decode cX11_takeOver 111 = .ok (.aload_n 0, 1) := by decide +kernel
theorem dX11_takeOver_112 : decode cX11_takeOver 112 = .ok (.getfield 38, 3) := by decide +kernel
theorem dX11_takeOver_115 : decode cX11_takeOver 115 = .ok (.iconst 1, 1) := by decide +kernel
theorem dX11_takeOver_116 : decode cX11_takeOver 116 = .ok (.iaload, 1) := by decide +kernel
theorem dX11_takeOver_117 : decode cX11_takeOver 117 = .ok (.if_icmp .ge 12, 3) := by decide +kernel
theorem dX11_takeOver_120 : decode cX11_takeOver 120 = .ok (.aload_n 0, 1) := by decide +kernel
theorem dX11_takeOver_121 : decode cX11_takeOver 121 = .ok (.getfield 50, 3) := by decide +kernel
theorem dX11_takeOver_124 : decode cX11_takeOver 124 = .ok (.iload_n 1, 1) := by decide +kernel
theorem dX11_takeOver_125 : decode cX11_takeOver 125 = .ok (.iaload, 1) := by decide +kernel
theorem dX11_takeOver_126 : decode cX11_takeOver 126 = .ok (.goto 4, 3) := by decide +kernel
theorem dX11_takeOver_129 : decode cX11_takeOver 129 = .ok (.iconst (-1), 1) := by decide +kernel
theorem dX11_takeOver_130 : decode cX11_takeOver 130 = .ok (.iastore, 1) := by decide +kernel
theorem dX11_takeOver_131 : decode cX11_takeOver 131 = .ok (.iinc 1 1, 3) := by decide +kernel
theorem dX11_takeOver_134 : decode cX11_takeOver 134 = .ok (.goto (-61), 3) := by decide +kernel
theorem dX11_takeOver_137 : decode cX11_takeOver 137 = .ok (.iconst 0, 1) := by decide +kernel
theorem dX11_takeOver_138 : decode cX11_takeOver 138 = .ok (.istore_n 1, 1) := by decide +kernel
theorem dX11_takeOver_139 : decode cX11_takeOver 139 = .ok (.iload_n 1, 1) := by decide +kernel
theorem dX11_takeOver_140 : decode cX11_takeOver 140 = .ok (.bipush 8, 2) := by decide +kernel
theorem dX11_takeOver_142 : decode cX11_takeOver 142 = .ok (.if_icmp .ge 33, 3) := by decide +kernel
theorem dX11_takeOver_145 : decode cX11_takeOver 145 = .ok (.aload_n 0, 1) := by decide +kernel
theorem dX11_takeOver_146 : decode cX11_takeOver 146 = .ok (.getfield 76, 3) := by decide +kernel
theorem dX11_takeOver_149 : decode cX11_takeOver 149 = .ok (.iload_n 1, 1) := by decide +kernel
theorem dX11_takeOver_150 : decode cX11_takeOver 150 = .ok (.aload_n 0, 1) := by decide +kernel
theorem dX11_takeOver_151 : decode cX11_takeOver 151 = .ok (.getfield 44, 3) := by decide +kernel
theorem dX11_takeOver_154 : decode cX11_takeOver 154 = .ok (.iload_n 1, 1) := by decide +kernel
theorem dX11_takeOver_155 : decode cX11_takeOver 155 = .ok (.iaload, 1) := by decide +kernel
theorem dX11_takeOver_156 : decode cX11_takeOver 156 = .ok (.iastore, 1) := by decide +kernel
theorem dX11_takeOver_157 : decode cX11_takeOver 157 = .ok (.aload_n 0, 1) := by decide +kernel
theorem dX11_takeOver_158 : decode cX11_takeOver 158 = .ok (.getfield 79, 3) := by decide +kernel
theorem dX11_takeOver_161 : decode cX11_takeOver 161 = .ok (.iload_n 1, 1) := by decide +kernel
theorem dX11_takeOver_162 : decode cX11_takeOver 162 = .ok (.aload_n 0, 1) := by decide +kernel
theorem dX11_takeOver_163 : decode cX11_takeOver 163 = .ok (.getfield 47, 3) := by decide +kernel
theorem dX11_takeOver_166 : decode cX11_takeOver 166 = .ok (.iload_n 1, 1) := by decide +kernel
theorem dX11_takeOver_167 : decode cX11_takeOver 167 = .ok (.iaload, 1) := by decide +kernel
theorem dX11_takeOver_168 : decode cX11_takeOver 168 = .ok (.iastore, 1) := by decide +kernel
theorem dX11_takeOver_169 : decode cX11_takeOver 169 = .ok (.iinc 1 1, 3) := by decide +kernel
theorem dX11_takeOver_172 : decode cX11_takeOver 172 = .ok (.goto (-33), 3) := by decide +kernel
theorem dX11_takeOver_175 : decode cX11_takeOver 175 = .ok (.aload_n 0, 1) := by decide +kernel
theorem dX11_takeOver_176 : decode cX11_takeOver 176 = .ok (.iconst 0, 1) := by decide +kernel
theorem dX11_takeOver_177 : decode cX11_takeOver 177 = .ok (.putfield 302, 3) := by decide +kernel
theorem dX11_takeOver_180 : decode cX11_takeOver 180 = .ok (.aload_n 0, 1) := by decide +kernel
theorem dX11_takeOver_181 : decode cX11_takeOver 181 = .ok (.iconst 0, 1) := by decide +kernel
theorem dX11_takeOver_182 : decode cX11_takeOver 182 = .ok (.putfield 305, 3) := by decide +kernel
theorem dX11_takeOver_185 : decode cX11_takeOver 185 = .ok (.aload_n 0, 1) := by decide +kernel
theorem dX11_takeOver_186 : decode cX11_takeOver 186 = .ok (.iconst 0, 1) := by decide +kernel
theorem dX11_takeOver_187 : decode cX11_takeOver 187 = .ok (.putfield 308, 3) := by decide +kernel
theorem dX11_takeOver_190 : decode cX11_takeOver 190 = .ok (.return_, 1) := by decide +kernel
theorem dX11_fault_0 : decode cX11_fault 0 = .ok (.aload_n 0, 1) := by decide +kernel
theorem dX11_fault_1 : decode cX11_fault 1 = .ok (.iconst 0, 1) := by decide +kernel
theorem dX11_fault_2 : decode cX11_fault 2 = .ok (.putfield 142, 3) := by decide +kernel
theorem dX11_fault_5 : decode cX11_fault 5 = .ok (.aload_n 0, 1) := by decide +kernel
theorem dX11_fault_6 : decode cX11_fault 6 = .ok (.getfield 68, 3) := by decide +kernel
theorem dX11_fault_9 : decode cX11_fault 9 = .ok (.ireturn, 1) := by decide +kernel
theorem dX11_pack_0 : decode cX11_pack 0 = .ok (.aload_n 1, 1) := by decide +kernel
theorem dX11_pack_1 : decode cX11_pack 1 = .ok (.iload_n 2, 1) := by decide +kernel
theorem dX11_pack_2 : decode cX11_pack 2 = .ok (.aload_n 0, 1) := by decide +kernel
theorem dX11_pack_3 : decode cX11_pack 3 = .ok (.getfield 294, 3) := by decide +kernel
theorem dX11_pack_6 : decode cX11_pack 6 = .ok (.iastore, 1) := by decide +kernel
theorem dX11_pack_7 : decode cX11_pack 7 = .ok (.aload_n 1, 1) := by decide +kernel
theorem dX11_pack_8 : decode cX11_pack 8 = .ok (.iload_n 2, 1) := by decide +kernel
theorem dX11_pack_9 : decode cX11_pack 9 = .ok (.iconst 1, 1) := by decide +kernel
theorem dX11_pack_10 : decode cX11_pack 10 = .ok (.iadd, 1) := by decide +kernel
theorem dX11_pack_11 : decode cX11_pack 11 = .ok (.aload_n 0, 1) := by decide +kernel
theorem dX11_pack_12 : decode cX11_pack 12 = .ok (.getfield 296, 3) := by decide +kernel
theorem dX11_pack_15 : decode cX11_pack 15 = .ok (.iastore, 1) := by decide +kernel
theorem dX11_pack_16 : decode cX11_pack 16 = .ok (.aload_n 1, 1) := by decide +kernel
theorem dX11_pack_17 : decode cX11_pack 17 = .ok (.iload_n 2, 1) := by decide +kernel
theorem dX11_pack_18 : decode cX11_pack 18 = .ok (.iconst 2, 1) := by decide +kernel
theorem dX11_pack_19 : decode cX11_pack 19 = .ok (.iadd, 1) := by decide +kernel
theorem dX11_pack_20 : decode cX11_pack 20 = .ok (.aload_n 0, 1) := by decide +kernel
theorem dX11_pack_21 : decode cX11_pack 21 = .ok (.getfield 299, 3) := by decide +kernel
theorem dX11_pack_24 : decode cX11_pack 24 = .ok (.iastore, 1) := by decide +kernel
theorem dX11_pack_25 : decode cX11_pack 25 = .ok (.iconst 0, 1) := by decide +kernel
theorem dX11_pack_26 : decode cX11_pack 26 = .ok (.istore_n 3, 1) := by decide +kernel
theorem dX11_pack_27 : decode cX11_pack 27 = .ok (.iload_n 3, 1) := by decide +kernel
theorem dX11_pack_28 : decode cX11_pack 28 = .ok (.bipush 12, 2) := by decide +kernel
theorem dX11_pack_30 : decode cX11_pack 30 = .ok (.if_icmp .ge 38, 3) := by decide +kernel
theorem dX11_pack_33 : decode cX11_pack 33 = .ok (.aload_n 1, 1) := by decide +kernel
theorem dX11_pack_34 : decode cX11_pack 34 = .ok (.iload_n 2, 1) := by decide +kernel
theorem dX11_pack_35 : decode cX11_pack 35 = .ok (.iconst 3, 1) := by decide +kernel
theorem dX11_pack_36 : decode cX11_pack 36 = .ok (.iadd, 1) := by decide +kernel
theorem dX11_pack_37 : decode cX11_pack 37 = .ok (.iload_n 3, 1) := by decide +kernel
theorem dX11_pack_38 : decode cX11_pack 38 = .ok (.iadd, 1) := by decide +kernel
theorem dX11_pack_39 : decode cX11_pack 39 = .ok (.aload_n 0, 1) := by decide +kernel
theorem dX11_pack_40 : decode cX11_pack 40 = .ok (.getfield 72, 3) := by decide +kernel
theorem dX11_pack_43 : decode cX11_pack 43 = .ok (.iload_n 3, 1) := by decide +kernel
theorem dX11_pack_44 : decode cX11_pack 44 = .ok (.iaload, 1) := by decide +kernel
theorem dX11_pack_45 : decode cX11_pack 45 = .ok (.iastore, 1) := by decide +kernel
theorem dX11_pack_46 : decode cX11_pack 46 = .ok (.aload_n 1, 1) := by decide +kernel
theorem dX11_pack_47 : decode cX11_pack 47 = .ok (.iload_n 2, 1) := by decide +kernel
theorem dX11_pack_48 : decode cX11_pack 48 = .ok (.iconst 3, 1) := by decide +kernel
theorem dX11_pack_49 : decode cX11_pack 49 = .ok (.iadd, 1) := by decide +kernel
theorem dX11_pack_50 : decode cX11_pack 50 = .ok (.bipush 12, 2) := by decide +kernel
theorem dX11_pack_52 : decode cX11_pack 52 = .ok (.iadd, 1) := by decide +kernel
theorem dX11_pack_53 : decode cX11_pack 53 = .ok (.iload_n 3, 1) := by decide +kernel
theorem dX11_pack_54 : decode cX11_pack 54 = .ok (.iadd, 1) := by decide +kernel
theorem dX11_pack_55 : decode cX11_pack 55 = .ok (.aload_n 0, 1) := by decide +kernel
theorem dX11_pack_56 : decode cX11_pack 56 = .ok (.getfield 74, 3) := by decide +kernel
theorem dX11_pack_59 : decode cX11_pack 59 = .ok (.iload_n 3, 1) := by decide +kernel
theorem dX11_pack_60 : decode cX11_pack 60 = .ok (.iaload, 1) := by decide +kernel
theorem dX11_pack_61 : decode cX11_pack 61 = .ok (.iastore, 1) := by decide +kernel
theorem dX11_pack_62 : decode cX11_pack 62 = .ok (.iinc 3 1, 3) := by decide +kernel
theorem dX11_pack_65 : decode cX11_pack 65 = .ok (.goto (-38), 3) := by decide +kernel
theorem dX11_pack_68 : decode cX11_pack 68 = .ok (.iconst 0, 1) := by decide +kernel
theorem dX11_pack_69 : decode cX11_pack 69 = .ok (.istore_n 3, 1) := by decide +kernel
theorem dX11_pack_70 : decode cX11_pack 70 = .ok (.iload_n 3, 1) := by decide +kernel
theorem dX11_pack_71 : decode cX11_pack 71 = .ok (.bipush 8, 2) := by decide +kernel
theorem dX11_pack_73 : decode cX11_pack 73 = .ok (.if_icmp .ge 44, 3) := by decide +kernel
theorem dX11_pack_76 : decode cX11_pack 76 = .ok (.aload_n 1, 1) := by decide +kernel
theorem dX11_pack_77 : decode cX11_pack 77 = .ok (.iload_n 2, 1) := by decide +kernel
theorem dX11_pack_78 : decode cX11_pack 78 = .ok (.iconst 3, 1) := by decide +kernel
theorem dX11_pack_79 : decode cX11_pack 79 = .ok (.iadd, 1) := by decide +kernel
theorem dX11_pack_80 : decode cX11_pack 80 = .ok (.bipush 24, 2) := by decide +kernel
theorem dX11_pack_82 : decode cX11_pack 82 = .ok (.iadd, 1) := by decide +kernel
theorem dX11_pack_83 : decode cX11_pack 83 = .ok (.iload_n 3, 1) := by decide +kernel
theorem dX11_pack_84 : decode cX11_pack 84 = .ok (.iadd, 1) := by decide +kernel
theorem dX11_pack_85 : decode cX11_pack 85 = .ok (.aload_n 0, 1) := by decide +kernel
theorem dX11_pack_86 : decode cX11_pack 86 = .ok (.getfield 76, 3) := by decide +kernel
theorem dX11_pack_89 : decode cX11_pack 89 = .ok (.iload_n 3, 1) := by decide +kernel
theorem dX11_pack_90 : decode cX11_pack 90 = .ok (.iaload, 1) := by decide +kernel
theorem dX11_pack_91 : decode cX11_pack 91 = .ok (.iastore, 1) := by decide +kernel
theorem dX11_pack_92 : decode cX11_pack 92 = .ok (.aload_n 1, 1) := by decide +kernel
theorem dX11_pack_93 : decode cX11_pack 93 = .ok (.iload_n 2, 1) := by decide +kernel
theorem dX11_pack_94 : decode cX11_pack 94 = .ok (.iconst 3, 1) := by decide +kernel
theorem dX11_pack_95 : decode cX11_pack 95 = .ok (.iadd, 1) := by decide +kernel
theorem dX11_pack_96 : decode cX11_pack 96 = .ok (.bipush 24, 2) := by decide +kernel
theorem dX11_pack_98 : decode cX11_pack 98 = .ok (.iadd, 1) := by decide +kernel
theorem dX11_pack_99 : decode cX11_pack 99 = .ok (.bipush 8, 2) := by decide +kernel
theorem dX11_pack_101 : decode cX11_pack 101 = .ok (.iadd, 1) := by decide +kernel
theorem dX11_pack_102 : decode cX11_pack 102 = .ok (.iload_n 3, 1) := by decide +kernel
theorem dX11_pack_103 : decode cX11_pack 103 = .ok (.iadd, 1) := by decide +kernel
theorem dX11_pack_104 : decode cX11_pack 104 = .ok (.aload_n 0, 1) := by decide +kernel
theorem dX11_pack_105 : decode cX11_pack 105 = .ok (.getfield 79, 3) := by decide +kernel
theorem dX11_pack_108 : decode cX11_pack 108 = .ok (.iload_n 3, 1) := by decide +kernel
theorem dX11_pack_109 : decode cX11_pack 109 = .ok (.iaload, 1) := by decide +kernel
theorem dX11_pack_110 : decode cX11_pack 110 = .ok (.iastore, 1) := by decide +kernel
theorem dX11_pack_111 : decode cX11_pack 111 = .ok (.iinc 3 1, 3) := by decide +kernel
theorem dX11_pack_114 : decode cX11_pack 114 = .ok (.goto (-44), 3) := by decide +kernel
theorem dX11_pack_117 : decode cX11_pack 117 = .ok (.return_, 1) := by decide +kernel
theorem dX11_unpack_0 : decode cX11_unpack 0 = .ok (.aload_n 0, 1) := by decide +kernel
theorem dX11_unpack_1 : decode cX11_unpack 1 = .ok (.aload_n 1, 1) := by decide +kernel
theorem dX11_unpack_2 : decode cX11_unpack 2 = .ok (.iload_n 2, 1) := by decide +kernel
theorem dX11_unpack_3 : decode cX11_unpack 3 = .ok (.iaload, 1) := by decide +kernel
theorem dX11_unpack_4 : decode cX11_unpack 4 = .ok (.putfield 294, 3) := by decide +kernel
theorem dX11_unpack_7 : decode cX11_unpack 7 = .ok (.aload_n 0, 1) := by decide +kernel
theorem dX11_unpack_8 : decode cX11_unpack 8 = .ok (.aload_n 1, 1) := by decide +kernel
theorem dX11_unpack_9 : decode cX11_unpack 9 = .ok (.iload_n 2, 1) := by decide +kernel
theorem dX11_unpack_10 : decode cX11_unpack 10 = .ok (.iconst 1, 1) := by decide +kernel
theorem dX11_unpack_11 : decode cX11_unpack 11 = .ok (.iadd, 1) := by decide +kernel
theorem dX11_unpack_12 : decode cX11_unpack 12 = .ok (.iaload, 1) := by decide +kernel
theorem dX11_unpack_13 : decode cX11_unpack 13 = .ok (.putfield 296, 3) := by decide +kernel
theorem dX11_unpack_16 : decode cX11_unpack 16 = .ok (.aload_n 0, 1) := by decide +kernel
theorem dX11_unpack_17 : decode cX11_unpack 17 = .ok (.aload_n 1, 1) := by decide +kernel
theorem dX11_unpack_18 : decode cX11_unpack 18 = .ok (.iload_n 2, 1) := by decide +kernel
theorem dX11_unpack_19 : decode cX11_unpack 19 = .ok (.iconst 2, 1) := by decide +kernel
theorem dX11_unpack_20 : decode cX11_unpack 20 = .ok (.iadd, 1) := by decide +kernel
theorem dX11_unpack_21 : decode cX11_unpack 21 = .ok (.iaload, 1) := by decide +kernel
theorem dX11_unpack_22 : decode cX11_unpack 22 = .ok (.putfield 299, 3) := by decide +kernel
theorem dX11_unpack_25 : decode cX11_unpack 25 = .ok (.iconst 0, 1) := by decide +kernel
theorem dX11_unpack_26 : decode cX11_unpack 26 = .ok (.istore_n 3, 1) := by decide +kernel
theorem dX11_unpack_27 : decode cX11_unpack 27 = .ok (.iload_n 3, 1) := by decide +kernel
theorem dX11_unpack_28 : decode cX11_unpack 28 = .ok (.bipush 12, 2) := by decide +kernel
theorem dX11_unpack_30 : decode cX11_unpack 30 = .ok (.if_icmp .ge 38, 3) := by decide +kernel
theorem dX11_unpack_33 : decode cX11_unpack 33 = .ok (.aload_n 0, 1) := by decide +kernel
theorem dX11_unpack_34 : decode cX11_unpack 34 = .ok (.getfield 72, 3) := by decide +kernel
theorem dX11_unpack_37 : decode cX11_unpack 37 = .ok (.iload_n 3, 1) := by decide +kernel
theorem dX11_unpack_38 : decode cX11_unpack 38 = .ok (.aload_n 1, 1) := by decide +kernel
theorem dX11_unpack_39 : decode cX11_unpack 39 = .ok (.iload_n 2, 1) := by decide +kernel
theorem dX11_unpack_40 : decode cX11_unpack 40 = .ok (.iconst 3, 1) := by decide +kernel
theorem dX11_unpack_41 : decode cX11_unpack 41 = .ok (.iadd, 1) := by decide +kernel
theorem dX11_unpack_42 : decode cX11_unpack 42 = .ok (.iload_n 3, 1) := by decide +kernel
theorem dX11_unpack_43 : decode cX11_unpack 43 = .ok (.iadd, 1) := by decide +kernel
theorem dX11_unpack_44 : decode cX11_unpack 44 = .ok (.iaload, 1) := by decide +kernel
theorem dX11_unpack_45 : decode cX11_unpack 45 = .ok (.iastore, 1) := by decide +kernel
theorem dX11_unpack_46 : decode cX11_unpack 46 = .ok (.aload_n 0, 1) := by decide +kernel
theorem dX11_unpack_47 : decode cX11_unpack 47 = .ok (.getfield 74, 3) := by decide +kernel
theorem dX11_unpack_50 : decode cX11_unpack 50 = .ok (.iload_n 3, 1) := by decide +kernel
theorem dX11_unpack_51 : decode cX11_unpack 51 = .ok (.aload_n 1, 1) := by decide +kernel
theorem dX11_unpack_52 : decode cX11_unpack 52 = .ok (.iload_n 2, 1) := by decide +kernel
theorem dX11_unpack_53 : decode cX11_unpack 53 = .ok (.iconst 3, 1) := by decide +kernel
theorem dX11_unpack_54 : decode cX11_unpack 54 = .ok (.iadd, 1) := by decide +kernel
theorem dX11_unpack_55 : decode cX11_unpack 55 = .ok (.bipush 12, 2) := by decide +kernel
theorem dX11_unpack_57 : decode cX11_unpack 57 = .ok (.iadd, 1) := by decide +kernel
theorem dX11_unpack_58 : decode cX11_unpack 58 = .ok (.iload_n 3, 1) := by decide +kernel
theorem dX11_unpack_59 : decode cX11_unpack 59 = .ok (.iadd, 1) := by decide +kernel
theorem dX11_unpack_60 : decode cX11_unpack 60 = .ok (.iaload, 1) := by decide +kernel
theorem dX11_unpack_61 : decode cX11_unpack 61 = .ok (.iastore, 1) := by decide +kernel
theorem dX11_unpack_62 : decode cX11_unpack 62 = .ok (.iinc 3 1, 3) := by decide +kernel
theorem dX11_unpack_65 : decode cX11_unpack 65 = .ok (.goto (-38), 3) := by decide +kernel
theorem dX11_unpack_68 : decode cX11_unpack 68 = .ok (.iconst 0, 1) := by decide +kernel
theorem dX11_unpack_69 : decode cX11_unpack 69 = .ok (.istore_n 3, 1) := by decide +kernel
theorem dX11_unpack_70 : decode cX11_unpack 70 = .ok (.iload_n 3, 1) := by decide +kernel
theorem dX11_unpack_71 : decode cX11_unpack 71 = .ok (.bipush 8, 2) := by decide +kernel
theorem dX11_unpack_73 : decode cX11_unpack 73 = .ok (.if_icmp .ge 44, 3) := by decide +kernel
theorem dX11_unpack_76 : decode cX11_unpack 76 = .ok (.aload_n 0, 1) := by decide +kernel
theorem dX11_unpack_77 : decode cX11_unpack 77 = .ok (.getfield 76, 3) := by decide +kernel
theorem dX11_unpack_80 : decode cX11_unpack 80 = .ok (.iload_n 3, 1) := by decide +kernel
theorem dX11_unpack_81 : decode cX11_unpack 81 = .ok (.aload_n 1, 1) := by decide +kernel
theorem dX11_unpack_82 : decode cX11_unpack 82 = .ok (.iload_n 2, 1) := by decide +kernel
theorem dX11_unpack_83 : decode cX11_unpack 83 = .ok (.iconst 3, 1) := by decide +kernel
theorem dX11_unpack_84 : decode cX11_unpack 84 = .ok (.iadd, 1) := by decide +kernel
theorem dX11_unpack_85 : decode cX11_unpack 85 = .ok (.bipush 24, 2) := by decide +kernel
theorem dX11_unpack_87 : decode cX11_unpack 87 = .ok (.iadd, 1) := by decide +kernel
theorem dX11_unpack_88 : decode cX11_unpack 88 = .ok (.iload_n 3, 1) := by decide +kernel
theorem dX11_unpack_89 : decode cX11_unpack 89 = .ok (.iadd, 1) := by decide +kernel
theorem dX11_unpack_90 : decode cX11_unpack 90 = .ok (.iaload, 1) := by decide +kernel
theorem dX11_unpack_91 : decode cX11_unpack 91 = .ok (.iastore, 1) := by decide +kernel
theorem dX11_unpack_92 : decode cX11_unpack 92 = .ok (.aload_n 0, 1) := by decide +kernel
theorem dX11_unpack_93 : decode cX11_unpack 93 = .ok (.getfield 79, 3) := by decide +kernel
theorem dX11_unpack_96 : decode cX11_unpack 96 = .ok (.iload_n 3, 1) := by decide +kernel
theorem dX11_unpack_97 : decode cX11_unpack 97 = .ok (.aload_n 1, 1) := by decide +kernel
theorem dX11_unpack_98 : decode cX11_unpack 98 = .ok (.iload_n 2, 1) := by decide +kernel
theorem dX11_unpack_99 : decode cX11_unpack 99 = .ok (.iconst 3, 1) := by decide +kernel
theorem dX11_unpack_100 : decode cX11_unpack 100 = .ok (.iadd, 1) := by decide +kernel
theorem dX11_unpack_101 : decode cX11_unpack 101 = .ok (.bipush 24, 2) := by decide +kernel
theorem dX11_unpack_103 : decode cX11_unpack 103 = .ok (.iadd, 1) := by decide +kernel
theorem dX11_unpack_104 : decode cX11_unpack 104 = .ok (.bipush 8, 2) := by decide +kernel
theorem dX11_unpack_106 : decode cX11_unpack 106 = .ok (.iadd, 1) := by decide +kernel
theorem dX11_unpack_107 : decode cX11_unpack 107 = .ok (.iload_n 3, 1) := by decide +kernel
theorem dX11_unpack_108 : decode cX11_unpack 108 = .ok (.iadd, 1) := by decide +kernel
theorem dX11_unpack_109 : decode cX11_unpack 109 = .ok (.iaload, 1) := by decide +kernel
theorem dX11_unpack_110 : decode cX11_unpack 110 = .ok (.iastore, 1) := by decide +kernel
theorem dX11_unpack_111 : decode cX11_unpack 111 = .ok (.iinc 3 1, 3) := by decide +kernel
theorem dX11_unpack_114 : decode cX11_unpack 114 = .ok (.goto (-44), 3) := by decide +kernel
theorem dX11_unpack_117 : decode cX11_unpack 117 = .ok (.return_, 1) := by decide +kernel
theorem dX11_reckon_0 : decode cX11_reckon 0 = .ok (.iload_n 0, 1) := by decide +kernel
theorem dX11_reckon_1 : decode cX11_reckon 1 = .ok (.tableswitch 103 (-26) (-20) #[89, 78, 67, 55, 51, 47, 43], 43) := by decide +kernel
theorem dX11_reckon_44 : decode cX11_reckon 44 = .ok (.iload_n 1, 1) := by decide +kernel
theorem dX11_reckon_45 : decode cX11_reckon 45 = .ok (.iload_n 2, 1) := by decide +kernel
theorem dX11_reckon_46 : decode cX11_reckon 46 = .ok (.iadd, 1) := by decide +kernel
theorem dX11_reckon_47 : decode cX11_reckon 47 = .ok (.ireturn, 1) := by decide +kernel
theorem dX11_reckon_48 : decode cX11_reckon 48 = .ok (.iload_n 1, 1) := by decide +kernel
theorem dX11_reckon_49 : decode cX11_reckon 49 = .ok (.iload_n 2, 1) := by decide +kernel
theorem dX11_reckon_50 : decode cX11_reckon 50 = .ok (.isub, 1) := by decide +kernel
theorem dX11_reckon_51 : decode cX11_reckon 51 = .ok (.ireturn, 1) := by decide +kernel
theorem dX11_reckon_52 : decode cX11_reckon 52 = .ok (.iload_n 1, 1) := by decide +kernel
theorem dX11_reckon_53 : decode cX11_reckon 53 = .ok (.iload_n 2, 1) := by decide +kernel
theorem dX11_reckon_54 : decode cX11_reckon 54 = .ok (.imul, 1) := by decide +kernel
theorem dX11_reckon_55 : decode cX11_reckon 55 = .ok (.ireturn, 1) := by decide +kernel
theorem dX11_reckon_56 : decode cX11_reckon 56 = .ok (.iload_n 2, 1) := by decide +kernel
theorem dX11_reckon_57 : decode cX11_reckon 57 = .ok (.ifCond .ne 7, 3) := by decide +kernel
theorem dX11_reckon_60 : decode cX11_reckon 60 = .ok (.iconst 0, 1) := by decide +kernel
theorem dX11_reckon_61 : decode cX11_reckon 61 = .ok (.goto 6, 3) := by decide +kernel
theorem dX11_reckon_64 : decode cX11_reckon 64 = .ok (.iload_n 1, 1) := by decide +kernel
theorem dX11_reckon_65 : decode cX11_reckon 65 = .ok (.iload_n 2, 1) := by decide +kernel
theorem dX11_reckon_66 : decode cX11_reckon 66 = .ok (.idiv, 1) := by decide +kernel
theorem dX11_reckon_67 : decode cX11_reckon 67 = .ok (.ireturn, 1) := by decide +kernel
theorem dX11_reckon_68 : decode cX11_reckon 68 = .ok (.iload_n 1, 1) := by decide +kernel
theorem dX11_reckon_69 : decode cX11_reckon 69 = .ok (.iload_n 2, 1) := by decide +kernel
theorem dX11_reckon_70 : decode cX11_reckon 70 = .ok (.if_icmp .ge 7, 3) := by decide +kernel
theorem dX11_reckon_73 : decode cX11_reckon 73 = .ok (.iconst 1, 1) := by decide +kernel
theorem dX11_reckon_74 : decode cX11_reckon 74 = .ok (.goto 4, 3) := by decide +kernel
theorem dX11_reckon_77 : decode cX11_reckon 77 = .ok (.iconst 0, 1) := by decide +kernel
theorem dX11_reckon_78 : decode cX11_reckon 78 = .ok (.ireturn, 1) := by decide +kernel
theorem dX11_reckon_79 : decode cX11_reckon 79 = .ok (.iload_n 1, 1) := by decide +kernel
theorem dX11_reckon_80 : decode cX11_reckon 80 = .ok (.iload_n 2, 1) := by decide +kernel
theorem dX11_reckon_81 : decode cX11_reckon 81 = .ok (.if_icmp .ne 7, 3) := by decide +kernel
theorem dX11_reckon_84 : decode cX11_reckon 84 = .ok (.iconst 1, 1) := by decide +kernel
theorem dX11_reckon_85 : decode cX11_reckon 85 = .ok (.goto 4, 3) := by decide +kernel
theorem dX11_reckon_88 : decode cX11_reckon 88 = .ok (.iconst 0, 1) := by decide +kernel
theorem dX11_reckon_89 : decode cX11_reckon 89 = .ok (.ireturn, 1) := by decide +kernel
theorem dX11_reckon_90 : decode cX11_reckon 90 = .ok (.iload_n 1, 1) := by decide +kernel
theorem dX11_reckon_91 : decode cX11_reckon 91 = .ok (.ifCond .eq 11, 3) := by decide +kernel
theorem dX11_reckon_94 : decode cX11_reckon 94 = .ok (.iload_n 2, 1) := by decide +kernel
theorem dX11_reckon_95 : decode cX11_reckon 95 = .ok (.ifCond .eq 7, 3) := by decide +kernel
theorem dX11_reckon_98 : decode cX11_reckon 98 = .ok (.iconst 1, 1) := by decide +kernel
theorem dX11_reckon_99 : decode cX11_reckon 99 = .ok (.goto 4, 3) := by decide +kernel
theorem dX11_reckon_102 : decode cX11_reckon 102 = .ok (.iconst 0, 1) := by decide +kernel
theorem dX11_reckon_103 : decode cX11_reckon 103 = .ok (.ireturn, 1) := by decide +kernel
theorem dX11_reckon_104 : decode cX11_reckon 104 = .ok (.iload_n 1, 1) := by decide +kernel
theorem dX11_reckon_105 : decode cX11_reckon 105 = .ok (.ifCond .ne 7, 3) := by decide +kernel
theorem dX11_reckon_108 : decode cX11_reckon 108 = .ok (.iload_n 2, 1) := by decide +kernel
theorem dX11_reckon_109 : decode cX11_reckon 109 = .ok (.ifCond .eq 7, 3) := by decide +kernel
theorem dX11_reckon_112 : decode cX11_reckon 112 = .ok (.iconst 1, 1) := by decide +kernel
theorem dX11_reckon_113 : decode cX11_reckon 113 = .ok (.goto 4, 3) := by decide +kernel
theorem dX11_reckon_116 : decode cX11_reckon 116 = .ok (.iconst 0, 1) := by decide +kernel
theorem dX11_reckon_117 : decode cX11_reckon 117 = .ok (.ireturn, 1) := by decide +kernel
set_option maxRecDepth 20000 in
theorem ggX11_valueNow_X11_reckon : GoodIn wsX11_valueNow wsX11_reckon := goodIn_r _ [8] (by decide +kernel) (by decide +kernel)
set_option maxRecDepth 20000 in
theorem gX11_valueNow_X11_reckon : GoodIn wsX11_valueNow (va_wsS RX11 312 yX11_reckon wsX11_reckon) := goodIn_app (goodIn_of _ (by decide +kernel)) ggX11_valueNow_X11_reckon
theorem dX11_valueNow_0 : decode cX11_valueNow 0 = .ok (.iconst 0, 1) := by decide +kernel
theorem dX11_valueNow_1 : decode cX11_valueNow 1 = .ok (.istore_n 1, 1) := by decide +kernel
theorem dX11_valueNow_2 : decode cX11_valueNow 2 = .ok (.iconst 0, 1) := by decide +kernel
theorem dX11_valueNow_3 : decode cX11_valueNow 3 = .ok (.istore_n 2, 1) := by decide +kernel
theorem dX11_valueNow_4 : decode cX11_valueNow 4 = .ok (.iload_n 2, 1) := by decide +kernel
theorem dX11_valueNow_5 : decode cX11_valueNow 5 = .ok (.aload_n 0, 1) := by decide +kernel
theorem dX11_valueNow_6 : decode cX11_valueNow 6 = .ok (.getfield 38, 3) := by decide +kernel
theorem dX11_valueNow_9 : decode cX11_valueNow 9 = .ok (.iconst 3, 1) := by decide +kernel
theorem dX11_valueNow_10 : decode cX11_valueNow 10 = .ok (.iaload, 1) := by decide +kernel
theorem dX11_valueNow_11 : decode cX11_valueNow 11 = .ok (.if_icmp .ge 112, 3) := by decide +kernel
theorem dX11_valueNow_14 : decode cX11_valueNow 14 = .ok (.aload_n 0, 1) := by decide +kernel
theorem dX11_valueNow_15 : decode cX11_valueNow 15 = .ok (.getfield 59, 3) := by decide +kernel
theorem dX11_valueNow_18 : decode cX11_valueNow 18 = .ok (.iload_n 2, 1) := by decide +kernel
theorem dX11_valueNow_19 : decode cX11_valueNow 19 = .ok (.iaload, 1) := by decide +kernel
theorem dX11_valueNow_20 : decode cX11_valueNow 20 = .ok (.istore_n 3, 1) := by decide +kernel
theorem dX11_valueNow_21 : decode cX11_valueNow 21 = .ok (.iload_n 3, 1) := by decide +kernel
theorem dX11_valueNow_22 : decode cX11_valueNow 22 = .ok (.bipush (-20), 2) := by decide +kernel
theorem dX11_valueNow_24 : decode cX11_valueNow 24 = .ok (.if_icmp .le 31, 3) := by decide +kernel
theorem dX11_valueNow_27 : decode cX11_valueNow 27 = .ok (.aload_n 0, 1) := by decide +kernel
theorem dX11_valueNow_28 : decode cX11_valueNow 28 = .ok (.getfield 88, 3) := by decide +kernel
theorem dX11_valueNow_31 : decode cX11_valueNow 31 = .ok (.iload_n 1, 1) := by decide +kernel
theorem dX11_valueNow_32 : decode cX11_valueNow 32 = .ok (.iload_n 3, 1) := by decide +kernel
theorem dX11_valueNow_33 : decode cX11_valueNow 33 = .ok (.ifCond .lt 7, 3) := by decide +kernel
theorem dX11_valueNow_36 : decode cX11_valueNow 36 = .ok (.iload_n 3, 1) := by decide +kernel
theorem dX11_valueNow_37 : decode cX11_valueNow 37 = .ok (.goto 11, 3) := by decide +kernel
theorem dX11_valueNow_40 : decode cX11_valueNow 40 = .ok (.aload_n 0, 1) := by decide +kernel
theorem dX11_valueNow_41 : decode cX11_valueNow 41 = .ok (.getfield 85, 3) := by decide +kernel
theorem dX11_valueNow_44 : decode cX11_valueNow 44 = .ok (.iconst (-1), 1) := by decide +kernel
theorem dX11_valueNow_45 : decode cX11_valueNow 45 = .ok (.iload_n 3, 1) := by decide +kernel
theorem dX11_valueNow_46 : decode cX11_valueNow 46 = .ok (.isub, 1) := by decide +kernel
theorem dX11_valueNow_47 : decode cX11_valueNow 47 = .ok (.iaload, 1) := by decide +kernel
theorem dX11_valueNow_48 : decode cX11_valueNow 48 = .ok (.iastore, 1) := by decide +kernel
theorem dX11_valueNow_49 : decode cX11_valueNow 49 = .ok (.iinc 1 1, 3) := by decide +kernel
theorem dX11_valueNow_52 : decode cX11_valueNow 52 = .ok (.goto 65, 3) := by decide +kernel
theorem dX11_valueNow_55 : decode cX11_valueNow 55 = .ok (.iload_n 3, 1) := by decide +kernel
theorem dX11_valueNow_56 : decode cX11_valueNow 56 = .ok (.bipush (-28), 2) := by decide +kernel
theorem dX11_valueNow_58 : decode cX11_valueNow 58 = .ok (.if_icmp .ne 30, 3) := by decide +kernel
theorem dX11_valueNow_61 : decode cX11_valueNow 61 = .ok (.aload_n 0, 1) := by decide +kernel
theorem dX11_valueNow_62 : decode cX11_valueNow 62 = .ok (.getfield 88, 3) := by decide +kernel
theorem dX11_valueNow_65 : decode cX11_valueNow 65 = .ok (.iload_n 1, 1) := by decide +kernel
theorem dX11_valueNow_66 : decode cX11_valueNow 66 = .ok (.iconst 1, 1) := by decide +kernel
theorem dX11_valueNow_67 : decode cX11_valueNow 67 = .ok (.isub, 1) := by decide +kernel
theorem dX11_valueNow_68 : decode cX11_valueNow 68 = .ok (.aload_n 0, 1) := by decide +kernel
theorem dX11_valueNow_69 : decode cX11_valueNow 69 = .ok (.getfield 88, 3) := by decide +kernel
theorem dX11_valueNow_72 : decode cX11_valueNow 72 = .ok (.iload_n 1, 1) := by decide +kernel
theorem dX11_valueNow_73 : decode cX11_valueNow 73 = .ok (.iconst 1, 1) := by decide +kernel
theorem dX11_valueNow_74 : decode cX11_valueNow 74 = .ok (.isub, 1) := by decide +kernel
theorem dX11_valueNow_75 : decode cX11_valueNow 75 = .ok (.iaload, 1) := by decide +kernel
theorem dX11_valueNow_76 : decode cX11_valueNow 76 = .ok (.ifCond .eq 7, 3) := by decide +kernel
theorem dX11_valueNow_79 : decode cX11_valueNow 79 = .ok (.iconst 0, 1) := by decide +kernel
theorem dX11_valueNow_80 : decode cX11_valueNow 80 = .ok (.goto 4, 3) := by decide +kernel
theorem dX11_valueNow_83 : decode cX11_valueNow 83 = .ok (.iconst 1, 1) := by decide +kernel
theorem dX11_valueNow_84 : decode cX11_valueNow 84 = .ok (.iastore, 1) := by decide +kernel
theorem dX11_valueNow_85 : decode cX11_valueNow 85 = .ok (.goto 32, 3) := by decide +kernel
theorem dX11_valueNow_88 : decode cX11_valueNow 88 = .ok (.iinc 1 (-1), 3) := by decide +kernel
theorem dX11_valueNow_91 : decode cX11_valueNow 91 = .ok (.aload_n 0, 1) := by decide +kernel
theorem dX11_valueNow_92 : decode cX11_valueNow 92 = .ok (.getfield 88, 3) := by decide +kernel
theorem dX11_valueNow_95 : decode cX11_valueNow 95 = .ok (.iload_n 1, 1) := by decide +kernel
theorem dX11_valueNow_96 : decode cX11_valueNow 96 = .ok (.iconst 1, 1) := by decide +kernel
theorem dX11_valueNow_97 : decode cX11_valueNow 97 = .ok (.isub, 1) := by decide +kernel
theorem dX11_valueNow_98 : decode cX11_valueNow 98 = .ok (.iload_n 3, 1) := by decide +kernel
theorem dX11_valueNow_99 : decode cX11_valueNow 99 = .ok (.aload_n 0, 1) := by decide +kernel
theorem dX11_valueNow_100 : decode cX11_valueNow 100 = .ok (.getfield 88, 3) := by decide +kernel
theorem dX11_valueNow_103 : decode cX11_valueNow 103 = .ok (.iload_n 1, 1) := by decide +kernel
theorem dX11_valueNow_104 : decode cX11_valueNow 104 = .ok (.iconst 1, 1) := by decide +kernel
theorem dX11_valueNow_105 : decode cX11_valueNow 105 = .ok (.isub, 1) := by decide +kernel
theorem dX11_valueNow_106 : decode cX11_valueNow 106 = .ok (.iaload, 1) := by decide +kernel
theorem dX11_valueNow_107 : decode cX11_valueNow 107 = .ok (.aload_n 0, 1) := by decide +kernel
theorem dX11_valueNow_108 : decode cX11_valueNow 108 = .ok (.getfield 88, 3) := by decide +kernel
theorem dX11_valueNow_111 : decode cX11_valueNow 111 = .ok (.iload_n 1, 1) := by decide +kernel
theorem dX11_valueNow_112 : decode cX11_valueNow 112 = .ok (.iaload, 1) := by decide +kernel
theorem dX11_valueNow_113 : decode cX11_valueNow 113 = .ok (.invokestatic 312, 3) := by decide +kernel
theorem dX11_valueNow_116 : decode cX11_valueNow 116 = .ok (.iastore, 1) := by decide +kernel
theorem dX11_valueNow_117 : decode cX11_valueNow 117 = .ok (.iinc 2 1, 3) := by decide +kernel
theorem dX11_valueNow_120 : decode cX11_valueNow 120 = .ok (.goto (-116), 3) := by decide +kernel
theorem dX11_valueNow_123 : decode cX11_valueNow 123 = .ok (.aload_n 0, 1) := by decide +kernel
theorem dX11_valueNow_124 : decode cX11_valueNow 124 = .ok (.getfield 88, 3) := by decide +kernel
theorem dX11_valueNow_127 : decode cX11_valueNow 127 = .ok (.iconst 0, 1) := by decide +kernel
theorem dX11_valueNow_128 : decode cX11_valueNow 128 = .ok (.iaload, 1) := by decide +kernel
theorem dX11_valueNow_129 : decode cX11_valueNow 129 = .ok (.ireturn, 1) := by decide +kernel
theorem dX11_isAwake_0 : decode cX11_isAwake 0 = .ok (.aload_n 0, 1) := by decide +kernel
theorem dX11_isAwake_1 : decode cX11_isAwake 1 = .ok (.getfield 76, 3) := by decide +kernel
theorem dX11_isAwake_4 : decode cX11_isAwake 4 = .ok (.iload_n 1, 1) := by decide +kernel
theorem dX11_isAwake_5 : decode cX11_isAwake 5 = .ok (.iaload, 1) := by decide +kernel
theorem dX11_isAwake_6 : decode cX11_isAwake 6 = .ok (.aload_n 0, 1) := by decide +kernel
theorem dX11_isAwake_7 : decode cX11_isAwake 7 = .ok (.getfield 79, 3) := by decide +kernel
theorem dX11_isAwake_10 : decode cX11_isAwake 10 = .ok (.iload_n 1, 1) := by decide +kernel
theorem dX11_isAwake_11 : decode cX11_isAwake 11 = .ok (.iaload, 1) := by decide +kernel
theorem dX11_isAwake_12 : decode cX11_isAwake 12 = .ok (.if_icmp .ne 5, 3) := by decide +kernel
theorem dX11_isAwake_15 : decode cX11_isAwake 15 = .ok (.iconst 1, 1) := by decide +kernel
theorem dX11_isAwake_16 : decode cX11_isAwake 16 = .ok (.ireturn, 1) := by decide +kernel
theorem dX11_isAwake_17 : decode cX11_isAwake 17 = .ok (.aload_n 0, 1) := by decide +kernel
theorem dX11_isAwake_18 : decode cX11_isAwake 18 = .ok (.getfield 76, 3) := by decide +kernel
theorem dX11_isAwake_21 : decode cX11_isAwake 21 = .ok (.iload_n 1, 1) := by decide +kernel
theorem dX11_isAwake_22 : decode cX11_isAwake 22 = .ok (.iaload, 1) := by decide +kernel
theorem dX11_isAwake_23 : decode cX11_isAwake 23 = .ok (.aload_n 0, 1) := by decide +kernel
theorem dX11_isAwake_24 : decode cX11_isAwake 24 = .ok (.getfield 79, 3) := by decide +kernel
theorem dX11_isAwake_27 : decode cX11_isAwake 27 = .ok (.iload_n 1, 1) := by decide +kernel
theorem dX11_isAwake_28 : decode cX11_isAwake 28 = .ok (.iaload, 1) := by decide +kernel
theorem dX11_isAwake_29 : decode cX11_isAwake 29 = .ok (.if_icmp .ge 31, 3) := by decide +kernel
theorem dX11_isAwake_32 : decode cX11_isAwake 32 = .ok (.iload_n 2, 1) := by decide +kernel
theorem dX11_isAwake_33 : decode cX11_isAwake 33 = .ok (.aload_n 0, 1) := by decide +kernel
theorem dX11_isAwake_34 : decode cX11_isAwake 34 = .ok (.getfield 76, 3) := by decide +kernel
theorem dX11_isAwake_37 : decode cX11_isAwake 37 = .ok (.iload_n 1, 1) := by decide +kernel
theorem dX11_isAwake_38 : decode cX11_isAwake 38 = .ok (.iaload, 1) := by decide +kernel
theorem dX11_isAwake_39 : decode cX11_isAwake 39 = .ok (.if_icmp .lt 17, 3) := by decide +kernel
theorem dX11_isAwake_42 : decode cX11_isAwake 42 = .ok (.iload_n 2, 1) := by decide +kernel
theorem dX11_isAwake_43 : decode cX11_isAwake 43 = .ok (.aload_n 0, 1) := by decide +kernel
theorem dX11_isAwake_44 : decode cX11_isAwake 44 = .ok (.getfield 79, 3) := by decide +kernel
theorem dX11_isAwake_47 : decode cX11_isAwake 47 = .ok (.iload_n 1, 1) := by decide +kernel
theorem dX11_isAwake_48 : decode cX11_isAwake 48 = .ok (.iaload, 1) := by decide +kernel
theorem dX11_isAwake_49 : decode cX11_isAwake 49 = .ok (.if_icmp .ge 7, 3) := by decide +kernel
theorem dX11_isAwake_52 : decode cX11_isAwake 52 = .ok (.iconst 1, 1) := by decide +kernel
theorem dX11_isAwake_53 : decode cX11_isAwake 53 = .ok (.goto 32, 3) := by decide +kernel
theorem dX11_isAwake_56 : decode cX11_isAwake 56 = .ok (.iconst 0, 1) := by decide +kernel
theorem dX11_isAwake_57 : decode cX11_isAwake 57 = .ok (.goto 28, 3) := by decide +kernel
theorem dX11_isAwake_60 : decode cX11_isAwake 60 = .ok (.iload_n 2, 1) := by decide +kernel
theorem dX11_isAwake_61 : decode cX11_isAwake 61 = .ok (.aload_n 0, 1) := by decide +kernel
theorem dX11_isAwake_62 : decode cX11_isAwake 62 = .ok (.getfield 76, 3) := by decide +kernel
theorem dX11_isAwake_65 : decode cX11_isAwake 65 = .ok (.iload_n 1, 1) := by decide +kernel
theorem dX11_isAwake_66 : decode cX11_isAwake 66 = .ok (.iaload, 1) := by decide +kernel
theorem dX11_isAwake_67 : decode cX11_isAwake 67 = .ok (.if_icmp .ge 13, 3) := by decide +kernel
theorem dX11_isAwake_70 : decode cX11_isAwake 70 = .ok (.iload_n 2, 1) := by decide +kernel
theorem dX11_isAwake_71 : decode cX11_isAwake 71 = .ok (.aload_n 0, 1) := by decide +kernel
theorem dX11_isAwake_72 : decode cX11_isAwake 72 = .ok (.getfield 79, 3) := by decide +kernel
theorem dX11_isAwake_75 : decode cX11_isAwake 75 = .ok (.iload_n 1, 1) := by decide +kernel
theorem dX11_isAwake_76 : decode cX11_isAwake 76 = .ok (.iaload, 1) := by decide +kernel
theorem dX11_isAwake_77 : decode cX11_isAwake 77 = .ok (.if_icmp .ge 7, 3) := by decide +kernel
theorem dX11_isAwake_80 : decode cX11_isAwake 80 = .ok (.iconst 1, 1) := by decide +kernel
theorem dX11_isAwake_81 : decode cX11_isAwake 81 = .ok (.goto 4, 3) := by decide +kernel
theorem dX11_isAwake_84 : decode cX11_isAwake 84 = .ok (.iconst 0, 1) := by decide +kernel
theorem dX11_isAwake_85 : decode cX11_isAwake 85 = .ok (.ireturn, 1) := by decide +kernel
theorem dX11_lampsOf_0 : decode cX11_lampsOf 0 = .ok (.iconst 0, 1) := by decide +kernel
theorem dX11_lampsOf_1 : decode cX11_lampsOf 1 = .ok (.istore_n 2, 1) := by decide +kernel
theorem dX11_lampsOf_2 : decode cX11_lampsOf 2 = .ok (.iconst 0, 1) := by decide +kernel
theorem dX11_lampsOf_3 : decode cX11_lampsOf 3 = .ok (.istore_n 3, 1) := by decide +kernel
theorem dX11_lampsOf_4 : decode cX11_lampsOf 4 = .ok (.iload_n 3, 1) := by decide +kernel
theorem dX11_lampsOf_5 : decode cX11_lampsOf 5 = .ok (.aload_n 0, 1) := by decide +kernel
theorem dX11_lampsOf_6 : decode cX11_lampsOf 6 = .ok (.getfield 38, 3) := by decide +kernel
theorem dX11_lampsOf_9 : decode cX11_lampsOf 9 = .ok (.iconst 1, 1) := by decide +kernel
theorem dX11_lampsOf_10 : decode cX11_lampsOf 10 = .ok (.iaload, 1) := by decide +kernel
theorem dX11_lampsOf_11 : decode cX11_lampsOf 11 = .ok (.if_icmp .ge 29, 3) := by decide +kernel
theorem dX11_lampsOf_14 : decode cX11_lampsOf 14 = .ok (.iload_n 2, 1) := by decide +kernel
theorem dX11_lampsOf_15 : decode cX11_lampsOf 15 = .ok (.aload_n 0, 1) := by decide +kernel
theorem dX11_lampsOf_16 : decode cX11_lampsOf 16 = .ok (.getfield 74, 3) := by decide +kernel
theorem dX11_lampsOf_19 : decode cX11_lampsOf 19 = .ok (.iload_n 3, 1) := by decide +kernel
theorem dX11_lampsOf_20 : decode cX11_lampsOf 20 = .ok (.iaload, 1) := by decide +kernel
theorem dX11_lampsOf_21 : decode cX11_lampsOf 21 = .ok (.iload_n 1, 1) := by decide +kernel
theorem dX11_lampsOf_22 : decode cX11_lampsOf 22 = .ok (.if_icmp .ne 9, 3) := by decide +kernel
theorem dX11_lampsOf_25 : decode cX11_lampsOf 25 = .ok (.iconst 1, 1) := by decide +kernel
theorem dX11_lampsOf_26 : decode cX11_lampsOf 26 = .ok (.iload_n 3, 1) := by decide +kernel
theorem dX11_lampsOf_27 : decode cX11_lampsOf 27 = .ok (.ishl, 1) := by decide +kernel
theorem dX11_lampsOf_28 : decode cX11_lampsOf 28 = .ok (.goto 4, 3) := by decide +kernel
theorem dX11_lampsOf_31 : decode cX11_lampsOf 31 = .ok (.iconst 0, 1) := by decide +kernel
theorem dX11_lampsOf_32 : decode cX11_lampsOf 32 = .ok (.ior, 1) := by decide +kernel
theorem dX11_lampsOf_33 : decode cX11_lampsOf 33 = .ok (.istore_n 2, 1) := by decide +kernel
theorem dX11_lampsOf_34 : decode cX11_lampsOf 34 = .ok (.iinc 3 1, 3) := by decide +kernel
theorem dX11_lampsOf_37 : decode cX11_lampsOf 37 = .ok (.goto (-33), 3) := by decide +kernel
theorem dX11_lampsOf_40 : decode cX11_lampsOf 40 = .ok (.iload_n 2, 1) := by decide +kernel
theorem dX11_lampsOf_41 : decode cX11_lampsOf 41 = .ok (.ireturn, 1) := by decide +kernel
set_option maxRecDepth 20000 in
theorem ggX11_byCustom_X11_isAwake : GoodIn wsX11_byCustom wsX11_isAwake := goodIn_r _ [6, 7, 8, 9, 10, 11, 12, 13, 14, 15, 16, 17, 18, 19, 20, 21, 22, 23, 24, 25, 26, 27, 28, 29, 30, 31, 32, 33, 34, 35, 36, 37, 38, 39, 40, 41, 42, 43, 44, 45, 46, 47, 48, 49, 50, 51, 52, 53, 54, 55, 56, 57, 58, 59, 60, 61, 62, 63, 64, 65, 66] (by decide +kernel) (by decide +kernel)
set_option maxRecDepth 20000 in
theorem gX11_byCustom_X11_isAwake : GoodIn wsX11_byCustom (wsV RX11 316 RX11 yX11_isAwake wsX11_isAwake) := goodIn_app (goodIn_of _ (by decide +kernel)) ggX11_byCustom_X11_isAwake
theorem dX11_byCustom_0 : decode cX11_byCustom 0 = .ok (.aload_n 0, 1) := by decide +kernel
theorem dX11_byCustom_1 : decode cX11_byCustom 1 = .ok (.getfield 42, 3) := by decide +kernel
theorem dX11_byCustom_4 : decode cX11_byCustom 4 = .ok (.iload_n 1, 1) := by decide +kernel
theorem dX11_byCustom_5 : decode cX11_byCustom 5 = .ok (.iaload, 1) := by decide +kernel
theorem dX11_byCustom_6 : decode cX11_byCustom 6 = .ok (.iconst 2, 1) := by decide +kernel
theorem dX11_byCustom_7 : decode cX11_byCustom 7 = .ok (.if_icmp .ne 5, 3) := by decide +kernel
theorem dX11_byCustom_10 : decode cX11_byCustom 10 = .ok (.iconst 0, 1) := by decide +kernel
theorem dX11_byCustom_11 : decode cX11_byCustom 11 = .ok (.ireturn, 1) := by decide +kernel
theorem dX11_byCustom_12 : decode cX11_byCustom 12 = .ok (.iload_n 2, 1) := by decide +kernel
theorem dX11_byCustom_13 : decode cX11_byCustom 13 = .ok (.bipush 18, 2) := by decide +kernel
theorem dX11_byCustom_15 : decode cX11_byCustom 15 = .ok (.if_icmp .ge 24, 3) := by decide +kernel
theorem dX11_byCustom_18 : decode cX11_byCustom 18 = .ok (.iload_n 2, 1) := by decide +kernel
theorem dX11_byCustom_19 : decode cX11_byCustom 19 = .ok (.aload_n 0, 1) := by decide +kernel
theorem dX11_byCustom_20 : decode cX11_byCustom 20 = .ok (.getfield 42, 3) := by decide +kernel
theorem dX11_byCustom_23 : decode cX11_byCustom 23 = .ok (.iload_n 1, 1) := by decide +kernel
theorem dX11_byCustom_24 : decode cX11_byCustom 24 = .ok (.iaload, 1) := by decide +kernel
theorem dX11_byCustom_25 : decode cX11_byCustom 25 = .ok (.iconst 3, 1) := by decide +kernel
theorem dX11_byCustom_26 : decode cX11_byCustom 26 = .ok (.if_icmp .ne 8, 3) := by decide +kernel
theorem dX11_byCustom_29 : decode cX11_byCustom 29 = .ok (.bipush 9, 2) := by decide +kernel
theorem dX11_byCustom_31 : decode cX11_byCustom 31 = .ok (.goto 5, 3) := by decide +kernel
theorem dX11_byCustom_34 : decode cX11_byCustom 34 = .ok (.bipush 6, 2) := by decide +kernel
theorem dX11_byCustom_36 : decode cX11_byCustom 36 = .ok (.if_icmp .ge 7, 3) := by decide +kernel
theorem dX11_byCustom_39 : decode cX11_byCustom 39 = .ok (.iconst 1, 1) := by decide +kernel
theorem dX11_byCustom_40 : decode cX11_byCustom 40 = .ok (.goto 4, 3) := by decide +kernel
theorem dX11_byCustom_43 : decode cX11_byCustom 43 = .ok (.iconst 0, 1) := by decide +kernel
theorem dX11_byCustom_44 : decode cX11_byCustom 44 = .ok (.istore_n 3, 1) := by decide +kernel
theorem dX11_byCustom_45 : decode cX11_byCustom 45 = .ok (.iload_n 3, 1) := by decide +kernel
theorem dX11_byCustom_46 : decode cX11_byCustom 46 = .ok (.ifCond .eq 26, 3) := by decide +kernel
theorem dX11_byCustom_49 : decode cX11_byCustom 49 = .ok (.aload_n 0, 1) := by decide +kernel
theorem dX11_byCustom_50 : decode cX11_byCustom 50 = .ok (.getfield 42, 3) := by decide +kernel
theorem dX11_byCustom_53 : decode cX11_byCustom 53 = .ok (.iload_n 1, 1) := by decide +kernel
theorem dX11_byCustom_54 : decode cX11_byCustom 54 = .ok (.iaload, 1) := by decide +kernel
theorem dX11_byCustom_55 : decode cX11_byCustom 55 = .ok (.iconst 1, 1) := by decide +kernel
theorem dX11_byCustom_56 : decode cX11_byCustom 56 = .ok (.if_icmp .eq 12, 3) := by decide +kernel
theorem dX11_byCustom_59 : decode cX11_byCustom 59 = .ok (.aload_n 0, 1) := by decide +kernel
theorem dX11_byCustom_60 : decode cX11_byCustom 60 = .ok (.iload_n 1, 1) := by decide +kernel
theorem dX11_byCustom_61 : decode cX11_byCustom 61 = .ok (.iload_n 2, 1) := by decide +kernel
theorem dX11_byCustom_62 : decode cX11_byCustom 62 = .ok (.invokevirtual 316, 3) := by decide +kernel
theorem dX11_byCustom_65 : decode cX11_byCustom 65 = .ok (.ifCond .eq 7, 3) := by decide +kernel
theorem dX11_byCustom_68 : decode cX11_byCustom 68 = .ok (.iconst 1, 1) := by decide +kernel
theorem dX11_byCustom_69 : decode cX11_byCustom 69 = .ok (.goto 4, 3) := by decide +kernel
theorem dX11_byCustom_72 : decode cX11_byCustom 72 = .ok (.iconst 0, 1) := by decide +kernel
theorem dX11_byCustom_73 : decode cX11_byCustom 73 = .ok (.ireturn, 1) := by decide +kernel
set_option maxRecDepth 20000 in
theorem ggX11_wants_X11_byCustom : GoodIn wsX11_wants wsX11_byCustom := goodIn_r _ [10, 4, 11, 12, 13, 9, 14, 15, 16, 33, 34, 35, 36, 37, 38, 39, 40, 41, 42, 43, 44, 45, 46, 47, 48, 49, 50, 51, 52, 53, 54, 55, 56, 57, 58, 59, 60, 61, 62, 63, 64, 65, 66, 67, 68, 69, 70, 71, 72, 73, 74, 75, 76, 77, 78, 79, 80, 81, 82, 83, 84, 85, 86, 87, 88, 89, 90] (by decide +kernel) (by decide +kernel)
set_option maxRecDepth 20000 in
theorem gX11_wants_X11_byCustom : GoodIn wsX11_wants (wsV RX11 319 RX11 yX11_byCustom wsX11_byCustom) := goodIn_app (goodIn_of _ (by decide +kernel)) ggX11_wants_X11_byCustom
set_option maxRecDepth 20000 in
theorem ggX11_wants_X11_lampsOf : GoodIn wsX11_wants wsX11_lampsOf := goodIn_r _ [20, 2, 1, 33, 34, 35, 36, 37, 38, 39, 40, 41, 42, 43, 44, 45, 46, 47, 48, 49, 50, 51, 52, 53, 54, 55, 56, 57, 58, 59, 60, 61, 62, 63, 64, 65, 66, 67, 68, 69, 70, 71, 72, 73, 74, 75, 76, 77, 78, 79, 80, 81, 82, 83, 84, 85, 86, 87, 88, 89, 90] (by decide +kernel) (by decide +kernel)
set_option maxRecDepth 20000 in
theorem gX11_wants_X11_lampsOf : GoodIn wsX11_wants (wsV RX11 322 RX11 yX11_lampsOf wsX11_lampsOf) := goodIn_app (goodIn_of _ (by decide +kernel)) ggX11_wants_X11_lampsOf
set_option maxRecDepth 20000 in
theorem ggX11_wants_X11_bitsOf : GoodIn wsX11_wants wsX11_bitsOf := goodIn_r _ [23] (by decide +kernel) (by decide +kernel)
set_option maxRecDepth 20000 in
theorem gX11_wants_X11_bitsOf : GoodIn wsX11_wants (va_wsS RX11 325 yX11_bitsOf wsX11_bitsOf) := goodIn_app (goodIn_of _ (by decide +kernel)) ggX11_wants_X11_bitsOf
set_option maxRecDepth 20000 in
theorem ggX11_wants_X11_isAwake : GoodIn wsX11_wants wsX11_isAwake := goodIn_r _ [14, 15, 16, 33, 34, 35, 36, 37, 38, 39, 40, 41, 42, 43, 44, 45, 46, 47, 48, 49, 50, 51, 52, 53, 54, 55, 56, 57, 58, 59, 60, 61, 62, 63, 64, 65, 66, 67, 68, 69, 70, 71, 72, 73, 74, 75, 76, 77, 78, 79, 80, 81, 82, 83, 84, 85, 86, 87, 88, 89, 90] (by decide +kernel) (by decide +kernel)
set_option maxRecDepth 20000 in
theorem gX11_wants_X11_isAwake : GoodIn wsX11_wants (wsV RX11 316 RX11 yX11_isAwake wsX11_isAwake) := goodIn_app (goodIn_of _ (by decide +kernel)) ggX11_wants_X11_isAwake
set_option maxRecDepth 20000 in
theorem ggX11_wants_X11_valueNow : GoodIn wsX11_wants wsX11_valueNow := goodIn_r _ [27, 2, 28, 29, 3, 30, 31, 9, 32, 33, 34, 35, 36, 37, 38, 39, 40, 41, 42, 43, 44, 45, 46, 47, 48, 49, 50, 51, 52, 53, 54, 55, 56, 57, 58, 59, 60, 61, 62, 63, 64, 65, 66, 67, 68, 69, 70, 71, 72, 73, 74, 75, 76, 77, 78, 79, 80, 81, 82, 83, 84, 85, 86, 87, 88, 89, 90] (by decide +kernel) (by decide +kernel)
set_option maxRecDepth 20000 in
theorem gX11_wants_X11_valueNow : GoodIn wsX11_wants (wsV RX11 328 RX11 yX11_valueNow wsX11_valueNow) := goodIn_app (goodIn_of _ (by decide +kernel)) ggX11_wants_X11_valueNow
theorem dX11_wants_0 : decode cX11_wants 0 = .ok (.aload_n 0, 1) := by decide +kernel
theorem dX11_wants_1 : decode cX11_wants 1 = .ok (.getfield 74, 3) := by decide +kernel
theorem dX11_wants_4 : decode cX11_wants 4 = .ok (.iload_n 1, 1) := by decide +kernel
theorem dX11_wants_5 : decode cX11_wants 5 = .ok (.iaload, 1) := by decide +kernel
theorem dX11_wants_6 : decode cX11_wants 6 = .ok (.istore_n 3, 1) := by decide +kernel
theorem dX11_wants_7 : decode cX11_wants 7 = .ok (.aload_n 0, 1) := by decide +kernel
theorem dX11_wants_8 : decode cX11_wants 8 = .ok (.getfield 38, 3) := by decide +kernel
theorem dX11_wants_11 : decode cX11_wants 11 = .ok (.iconst 3, 1) := by decide +kernel
theorem dX11_wants_12 : decode cX11_wants 12 = .ok (.iaload, 1) := by decide +kernel
theorem dX11_wants_13 : decode cX11_wants 13 = .ok (.ifCond .ne 10, 3) := by decide +kernel
theorem dX11_wants_16 : decode cX11_wants 16 = .ok (.aload_n 0, 1) := by decide +kernel
theorem dX11_wants_17 : decode cX11_wants 17 = .ok (.iload_n 3, 1) := by decide +kernel
theorem dX11_wants_18 : decode cX11_wants 18 = .ok (.iload_n 2, 1) := by decide +kernel
theorem dX11_wants_19 : decode cX11_wants 19 = .ok (.invokevirtual 319, 3) := by decide +kernel
theorem dX11_wants_22 : decode cX11_wants 22 = .ok (.ireturn, 1) := by decide +kernel
theorem dX11_wants_23 : decode cX11_wants 23 = .ok (.aload_n 0, 1) := by decide +kernel
theorem dX11_wants_24 : decode cX11_wants 24 = .ok (.getfield 85, 3) := by decide +kernel
theorem dX11_wants_27 : decode cX11_wants 27 = .ok (.iconst 0, 1) := by decide +kernel
theorem dX11_wants_28 : decode cX11_wants 28 = .ok (.iload_n 2, 1) := by decide +kernel
theorem dX11_wants_29 : decode cX11_wants 29 = .ok (.iastore, 1) := by decide +kernel
theorem dX11_wants_30 : decode cX11_wants 30 = .ok (.aload_n 0, 1) := by decide +kernel
theorem dX11_wants_31 : decode cX11_wants 31 = .ok (.getfield 85, 3) := by decide +kernel
theorem dX11_wants_34 : decode cX11_wants 34 = .ok (.iconst 1, 1) := by decide +kernel
theorem dX11_wants_35 : decode cX11_wants 35 = .ok (.aload_n 0, 1) := by decide +kernel
theorem dX11_wants_36 : decode cX11_wants 36 = .ok (.getfield 42, 3) := by decide +kernel
theorem dX11_wants_39 : decode cX11_wants 39 = .ok (.iload_n 3, 1) := by decide +kernel
theorem dX11_wants_40 : decode cX11_wants 40 = .ok (.iaload, 1) := by decide +kernel
theorem dX11_wants_41 : decode cX11_wants 41 = .ok (.iastore, 1) := by decide +kernel
theorem dX11_wants_42 : decode cX11_wants 42 = .ok (.aload_n 0, 1) := by decide +kernel
theorem dX11_wants_43 : decode cX11_wants 43 = .ok (.getfield 85, 3) := by decide +kernel
theorem dX11_wants_46 : decode cX11_wants 46 = .ok (.iconst 2, 1) := by decide +kernel
theorem dX11_wants_47 : decode cX11_wants 47 = .ok (.aload_n 0, 1) := by decide +kernel
theorem dX11_wants_48 : decode cX11_wants 48 = .ok (.getfield 72, 3) := by decide +kernel
theorem dX11_wants_51 : decode cX11_wants 51 = .ok (.iload_n 1, 1) := by decide +kernel
theorem dX11_wants_52 : decode cX11_wants 52 = .ok (.iaload, 1) := by decide +kernel
theorem dX11_wants_53 : decode cX11_wants 53 = .ok (.iastore, 1) := by decide +kernel
theorem dX11_wants_54 : decode cX11_wants 54 = .ok (.aload_n 0, 1) := by decide +kernel
theorem dX11_wants_55 : decode cX11_wants 55 = .ok (.getfield 85, 3) := by decide +kernel
theorem dX11_wants_58 : decode cX11_wants 58 = .ok (.iconst 3, 1) := by decide +kernel
theorem dX11_wants_59 : decode cX11_wants 59 = .ok (.iload_n 3, 1) := by decide +kernel
theorem dX11_wants_60 : decode cX11_wants 60 = .ok (.iastore, 1) := by decide +kernel
theorem dX11_wants_61 : decode cX11_wants 61 = .ok (.aload_n 0, 1) := by decide +kernel
theorem dX11_wants_62 : decode cX11_wants 62 = .ok (.getfield 85, 3) := by decide +kernel
theorem dX11_wants_65 : decode cX11_wants 65 = .ok (.iconst 4, 1) := by decide +kernel
theorem dX11_wants_66 : decode cX11_wants 66 = .ok (.aload_n 0, 1) := by decide +kernel
theorem dX11_wants_67 : decode cX11_wants 67 = .ok (.iload_n 3, 1) := by decide +kernel
theorem dX11_wants_68 : decode cX11_wants 68 = .ok (.invokevirtual 322, 3) := by decide +kernel
theorem dX11_wants_71 : decode cX11_wants 71 = .ok (.invokestatic 325, 3) := by decide +kernel
theorem dX11_wants_74 : decode cX11_wants 74 = .ok (.iastore, 1) := by decide +kernel
theorem dX11_wants_75 : decode cX11_wants 75 = .ok (.aload_n 0, 1) := by decide +kernel
theorem dX11_wants_76 : decode cX11_wants 76 = .ok (.getfield 85, 3) := by decide +kernel
theorem dX11_wants_79 : decode cX11_wants 79 = .ok (.iconst 5, 1) := by decide +kernel
theorem dX11_wants_80 : decode cX11_wants 80 = .ok (.aload_n 0, 1) := by decide +kernel
theorem dX11_wants_81 : decode cX11_wants 81 = .ok (.iload_n 3, 1) := by decide +kernel
theorem dX11_wants_82 : decode cX11_wants 82 = .ok (.iload_n 2, 1) := by decide +kernel
theorem dX11_wants_83 : decode cX11_wants 83 = .ok (.invokevirtual 316, 3) := by decide +kernel
theorem dX11_wants_86 : decode cX11_wants 86 = .ok (.ifCond .eq 7, 3) := by decide +kernel
theorem dX11_wants_89 : decode cX11_wants 89 = .ok (.iconst 1, 1) := by decide +kernel
theorem dX11_wants_90 : decode cX11_wants 90 = .ok (.goto 4, 3) := by decide +kernel
theorem dX11_wants_93 : decode cX11_wants 93 = .ok (.iconst 0, 1) := by decide +kernel
theorem dX11_wants_94 : decode cX11_wants 94 = .ok (.iastore, 1) := by decide +kernel
theorem dX11_wants_95 : decode cX11_wants 95 = .ok (.aload_n 0, 1) := by decide +kernel
theorem dX11_wants_96 : decode cX11_wants 96 = .ok (.invokevirtual 328, 3) := by decide +kernel
theorem dX11_wants_99 : decode cX11_wants 99 = .ok (.ifCond .le 7, 3) := by decide +kernel
theorem dX11_wants_102 : decode cX11_wants 102 = .ok (.iconst 1, 1) := by decide +kernel
theorem dX11_wants_103 : decode cX11_wants 103 = .ok (.goto 4, 3) := by decide +kernel
theorem dX11_wants_106 : decode cX11_wants 106 = .ok (.iconst 0, 1) := by decide +kernel
theorem dX11_wants_107 : decode cX11_wants 107 = .ok (.ireturn, 1) := by decide +kernel
theorem dX11_couple_0 : decode cX11_couple 0 = .ok (.aload_n 0, 1) := by decide +kernel
theorem dX11_couple_1 : decode cX11_couple 1 = .ok (.getfield 56, 3) := by decide +kernel
theorem dX11_couple_4 : decode cX11_couple 4 = .ok (.iload_n 1, 1) := by decide +kernel
theorem dX11_couple_5 : decode cX11_couple 5 = .ok (.iaload, 1) := by decide +kernel
theorem dX11_couple_6 : decode cX11_couple 6 = .ok (.iconst (-1), 1) := by decide +kernel
theorem dX11_couple_7 : decode cX11_couple 7 = .ok (.if_icmp .ne 9, 3) := by decide +kernel
theorem dX11_couple_10 : decode cX11_couple 10 = .ok (.iconst 1, 1) := by decide +kernel
theorem dX11_couple_11 : decode cX11_couple 11 = .ok (.iload_n 1, 1) := by decide +kernel
theorem dX11_couple_12 : decode cX11_couple 12 = .ok (.ishl, 1) := by decide +kernel
theorem dX11_couple_13 : decode cX11_couple 13 = .ok (.goto 15, 3) := by decide +kernel
theorem dX11_couple_16 : decode cX11_couple 16 = .ok (.iconst 1, 1) := by decide +kernel
theorem dX11_couple_17 : decode cX11_couple 17 = .ok (.iload_n 1, 1) := by decide +kernel
theorem dX11_couple_18 : decode cX11_couple 18 = .ok (.ishl, 1) := by decide +kernel
theorem dX11_couple_19 : decode cX11_couple 19 = .ok (.iconst 1, 1) := by decide +kernel
theorem dX11_couple_20 : decode cX11_couple 20 = .ok (.aload_n 0, 1) := by decide +kernel
theorem dX11_couple_21 : decode cX11_couple 21 = .ok (.getfield 56, 3) := by decide +kernel
theorem dX11_couple_24 : decode cX11_couple 24 = .ok (.iload_n 1, 1) := by decide +kernel
theorem dX11_couple_25 : decode cX11_couple 25 = .ok (.iaload, 1) := by decide +kernel
theorem dX11_couple_26 : decode cX11_couple 26 = .ok (.ishl, 1) := by decide +kernel
theorem dX11_couple_27 : decode cX11_couple 27 = .ok (.ior, 1) := by decide +kernel
theorem dX11_couple_28 : decode cX11_couple 28 = .ok (.ireturn, 1) := by decide +kernel
set_option maxRecDepth 20000 in
theorem ggX11_canBurn_X11_couple : GoodIn wsX11_canBurn wsX11_couple := goodIn_r _ [8, 9, 13, 14, 15, 16, 17, 18, 19, 20, 21, 22, 23, 24, 25, 26, 27, 28, 29, 30, 31, 32, 33, 34, 35, 36, 37, 38, 39, 40, 41, 42, 43, 44, 45, 46, 47, 48, 49, 50, 51, 52, 53, 54, 55, 56, 57, 58, 59, 60, 61, 62, 63, 64, 65, 66, 67, 68, 69, 70] (by decide +kernel) (by decide +kernel)
set_option maxRecDepth 20000 in
theorem gX11_canBurn_X11_couple : GoodIn wsX11_canBurn (wsV RX11 331 RX11 yX11_couple wsX11_couple) := goodIn_app (goodIn_of _ (by decide +kernel)) ggX11_canBurn_X11_couple
set_option maxRecDepth 20000 in
theorem ggX11_canBurn_X11_isOf : GoodIn wsX11_canBurn wsX11_isOf := goodIn_r _ [12] (by decide +kernel) (by decide +kernel)
set_option maxRecDepth 20000 in
theorem gX11_canBurn_X11_isOf : GoodIn wsX11_canBurn (va_wsS RX11 334 yX11_isOf wsX11_isOf) := goodIn_app (goodIn_of _ (by decide +kernel)) ggX11_canBurn_X11_isOf
theorem dX11_canBurn_0 : decode cX11_canBurn 0 = .ok (.iconst 1, 1) := by decide +kernel
theorem dX11_canBurn_1 : decode cX11_canBurn 1 = .ok (.istore_n 2, 1) := by decide +kernel
theorem dX11_canBurn_2 : decode cX11_canBurn 2 = .ok (.iconst 0, 1) := by decide +kernel
theorem dX11_canBurn_3 : decode cX11_canBurn 3 = .ok (.istore_n 3, 1) := by decide +kernel
theorem dX11_canBurn_4 : decode cX11_canBurn 4 = .ok (.iload_n 3, 1) := by decide +kernel
theorem dX11_canBurn_5 : decode cX11_canBurn 5 = .ok (.aload_n 0, 1) := by decide +kernel
theorem dX11_canBurn_6 : decode cX11_canBurn 6 = .ok (.getfield 38, 3) := by decide +kernel
theorem dX11_canBurn_9 : decode cX11_canBurn 9 = .ok (.iconst 1, 1) := by decide +kernel
theorem dX11_canBurn_10 : decode cX11_canBurn 10 = .ok (.iaload, 1) := by decide +kernel
theorem dX11_canBurn_11 : decode cX11_canBurn 11 = .ok (.if_icmp .ge 51, 3) := by decide +kernel
theorem dX11_canBurn_14 : decode cX11_canBurn 14 = .ok (.aload_n 0, 1) := by decide +kernel
theorem dX11_canBurn_15 : decode cX11_canBurn 15 = .ok (.iload_n 1, 1) := by decide +kernel
theorem dX11_canBurn_16 : decode cX11_canBurn 16 = .ok (.invokevirtual 331, 3) := by decide +kernel
theorem dX11_canBurn_19 : decode cX11_canBurn 19 = .ok (.iload_n 3, 1) := by decide +kernel
theorem dX11_canBurn_20 : decode cX11_canBurn 20 = .ok (.invokestatic 334, 3) := by decide +kernel
theorem dX11_canBurn_23 : decode cX11_canBurn 23 = .ok (.ifCond .eq 33, 3) := by decide +kernel
theorem dX11_canBurn_26 : decode cX11_canBurn 26 = .ok (.iload_n 2, 1) := by decide +kernel
theorem dX11_canBurn_27 : decode cX11_canBurn 27 = .ok (.ifCond .eq 27, 3) := by decide +kernel
theorem dX11_canBurn_30 : decode cX11_canBurn 30 = .ok (.aload_n 0, 1) := by decide +kernel
theorem dX11_canBurn_31 : decode cX11_canBurn 31 = .ok (.getfield 72, 3) := by decide +kernel
theorem dX11_canBurn_34 : decode cX11_canBurn 34 = .ok (.iload_n 3, 1) := by decide +kernel
theorem dX11_canBurn_35 : decode cX11_canBurn 35 = .ok (.iaload, 1) := by decide +kernel
theorem dX11_canBurn_36 : decode cX11_canBurn 36 = .ok (.ifCond .le 18, 3) := by decide +kernel
theorem dX11_canBurn_39 : decode cX11_canBurn 39 = .ok (.aload_n 0, 1) := by decide +kernel
theorem dX11_canBurn_40 : decode cX11_canBurn 40 = .ok (.getfield 299, 3) := by decide +kernel
theorem dX11_canBurn_43 : decode cX11_canBurn 43 = .ok (.iload_n 3, 1) := by decide +kernel
theorem dX11_canBurn_44 : decode cX11_canBurn 44 = .ok (.invokestatic 334, 3) := by decide +kernel
theorem dX11_canBurn_47 : decode cX11_canBurn 47 = .ok (.ifCond .ne 7, 3) := by decide +kernel
theorem dX11_canBurn_50 : decode cX11_canBurn 50 = .ok (.iconst 1, 1) := by decide +kernel
theorem dX11_canBurn_51 : decode cX11_canBurn 51 = .ok (.goto 4, 3) := by decide +kernel
theorem dX11_canBurn_54 : decode cX11_canBurn 54 = .ok (.iconst 0, 1) := by decide +kernel
theorem dX11_canBurn_55 : decode cX11_canBurn 55 = .ok (.istore_n 2, 1) := by decide +kernel
theorem dX11_canBurn_56 : decode cX11_canBurn 56 = .ok (.iinc 3 1, 3) := by decide +kernel
theorem dX11_canBurn_59 : decode cX11_canBurn 59 = .ok (.goto (-55), 3) := by decide +kernel
theorem dX11_canBurn_62 : decode cX11_canBurn 62 = .ok (.iload_n 2, 1) := by decide +kernel
theorem dX11_canBurn_63 : decode cX11_canBurn 63 = .ok (.ireturn, 1) := by decide +kernel
set_option maxRecDepth 20000 in
theorem ggX11_be_X11_couple : GoodIn wsX11_be wsX11_couple := goodIn_r _ [6, 7, 8, 9, 10, 11, 12, 13, 14, 15, 16, 17, 18, 19, 20, 21, 22, 23, 24, 25, 26, 27, 28, 29, 30, 31, 32, 33, 34, 35, 36, 37, 38, 39, 40, 41, 42, 43, 44, 45, 46, 47, 48, 49, 50, 51, 52, 53, 54, 55, 56, 57, 58, 59, 60, 61, 62, 63, 64, 65] (by decide +kernel) (by decide +kernel)
set_option maxRecDepth 20000 in
theorem gX11_be_X11_couple : GoodIn wsX11_be (wsV RX11 331 RX11 yX11_couple wsX11_couple) := goodIn_app (goodIn_of _ (by decide +kernel)) ggX11_be_X11_couple
theorem dX11_be_0 : decode cX11_be 0 = .ok (.aload_n 0, 1) := by decide +kernel
theorem dX11_be_1 : decode cX11_be 1 = .ok (.iload_n 2, 1) := by decide +kernel
theorem dX11_be_2 : decode cX11_be 2 = .ok (.ifCond .eq 16, 3) := by decide +kernel
theorem dX11_be_5 : decode cX11_be 5 = .ok (.aload_n 0, 1) := by decide +kernel
theorem dX11_be_6 : decode cX11_be 6 = .ok (.getfield 296, 3) := by decide +kernel
theorem dX11_be_9 : decode cX11_be 9 = .ok (.aload_n 0, 1) := by decide +kernel
theorem dX11_be_10 : decode cX11_be 10 = .ok (.iload_n 1, 1) := by decide +kernel
theorem dX11_be_11 : decode cX11_be 11 = .ok (.invokevirtual 331, 3) := by decide +kernel
theorem dX11_be_14 : decode cX11_be 14 = .ok (.ior, 1) := by decide +kernel
theorem dX11_be_15 : decode cX11_be 15 = .ok (.goto 15, 3) := by decide +kernel
theorem dX11_be_18 : decode cX11_be 18 = .ok (.aload_n 0, 1) := by decide +kernel
theorem dX11_be_19 : decode cX11_be 19 = .ok (.getfield 296, 3) := by decide +kernel
theorem dX11_be_22 : decode cX11_be 22 = .ok (.aload_n 0, 1) := by decide +kernel
theorem dX11_be_23 : decode cX11_be 23 = .ok (.iload_n 1, 1) := by decide +kernel
theorem dX11_be_24 : decode cX11_be 24 = .ok (.invokevirtual 331, 3) := by decide +kernel
theorem dX11_be_27 : decode cX11_be 27 = .ok (.iconst (-1), 1) := by decide +kernel
theorem dX11_be_28 : decode cX11_be 28 = .ok (.ixor, 1) := by decide +kernel
theorem dX11_be_29 : decode cX11_be 29 = .ok (.iand, 1) := by decide +kernel
theorem dX11_be_30 : decode cX11_be 30 = .ok (.putfield 296, 3) := by decide +kernel
theorem dX11_be_33 : decode cX11_be 33 = .ok (.return_, 1) := by decide +kernel
set_option maxRecDepth 20000 in
theorem ggX11_flickAll_X11_wants : GoodIn wsX11_flickAll wsX11_wants := goodIn_r _ [9, 3, 2, 10, 11, 12, 13, 14, 15, 8, 16, 17, 18, 19, 20, 21, 22, 23, 24, 25, 26, 27, 28, 29, 30, 31, 32, 33, 34, 35, 36, 37, 38, 56, 57, 58, 59, 60, 61, 62, 63, 64, 65, 66, 67, 68, 69, 70, 71, 72, 73, 74, 75, 76, 77, 78, 79, 80, 81, 82, 83, 84, 85, 86, 87, 88, 89, 90, 91, 92, 93, 94, 95, 96, 97, 98, 99, 100, 101, 102, 103, 104, 105, 106, 107, 108, 109, 110, 111, 112, 113] (by decide +kernel) (by decide +kernel)
set_option maxRecDepth 20000 in
theorem gX11_flickAll_X11_wants : GoodIn wsX11_flickAll (wsV RX11 340 RX11 yX11_wants wsX11_wants) := goodIn_app (goodIn_of _ (by decide +kernel)) ggX11_flickAll_X11_wants
set_option maxRecDepth 20000 in
theorem ggX11_flickAll_X11_isAwake : GoodIn wsX11_flickAll wsX11_isAwake := goodIn_r _ [20, 21, 22, 56, 57, 58, 59, 60, 61, 62, 63, 64, 65, 66, 67, 68, 69, 70, 71, 72, 73, 74, 75, 76, 77, 78, 79, 80, 81, 82, 83, 84, 85, 86, 87, 88, 89, 90, 91, 92, 93, 94, 95, 96, 97, 98, 99, 100, 101, 102, 103, 104, 105, 106, 107, 108, 109, 110, 111, 112, 113] (by decide +kernel) (by decide +kernel)
set_option maxRecDepth 20000 in
theorem gX11_flickAll_X11_isAwake : GoodIn wsX11_flickAll (wsV RX11 316 RX11 yX11_isAwake wsX11_isAwake) := goodIn_app (goodIn_of _ (by decide +kernel)) ggX11_flickAll_X11_isAwake
set_option maxRecDepth 20000 in
theorem ggX11_flickAll_X11_isOf : GoodIn wsX11_flickAll wsX11_isOf := goodIn_r _ [41] (by decide +kernel) (by decide +kernel)
set_option maxRecDepth 20000 in
theorem gX11_flickAll_X11_isOf : GoodIn wsX11_flickAll (va_wsS RX11 334 yX11_isOf wsX11_isOf) := goodIn_app (goodIn_of _ (by decide +kernel)) ggX11_flickAll_X11_isOf
set_option maxRecDepth 20000 in
theorem ggX11_flickAll_X11_canBurn : GoodIn wsX11_flickAll wsX11_canBurn := goodIn_r _ [45, 2, 12, 46, 47, 48, 49, 8, 50, 51, 39, 40, 41, 56, 57, 58, 59, 60, 61, 62, 63, 64, 65, 66, 67, 68, 69, 70, 71, 72, 73, 74, 75, 76, 77, 78, 79, 80, 81, 82, 83, 84, 85, 86, 87, 88, 89, 90, 91, 92, 93, 94, 95, 96, 97, 98, 99, 100, 101, 102, 103, 104, 105, 106, 107, 108, 109, 110, 111, 112, 113] (by decide +kernel) (by decide +kernel)
set_option maxRecDepth 20000 in
theorem gX11_flickAll_X11_canBurn : GoodIn wsX11_flickAll (wsV RX11 342 RX11 yX11_canBurn wsX11_canBurn) := goodIn_app (goodIn_of _ (by decide +kernel)) ggX11_flickAll_X11_canBurn
set_option maxRecDepth 20000 in
theorem ggX11_flickAll_X11_be : GoodIn wsX11_flickAll wsX11_be := goodIn_r _ [55, 4, 47, 48, 49, 8, 50, 51, 56, 57, 58, 59, 60, 61, 62, 63, 64, 65, 66, 67, 68, 69, 70, 71, 72, 73, 74, 75, 76, 77, 78, 79, 80, 81, 82, 83, 84, 85, 86, 87, 88, 89, 90, 91, 92, 93, 94, 95, 96, 97, 98, 99, 100, 101, 102, 103, 104, 105, 106, 107, 108, 109, 110, 111, 112, 113] (by decide +kernel) (by decide +kernel)
set_option maxRecDepth 20000 in
theorem gX11_flickAll_X11_be : GoodIn wsX11_flickAll (wsV RX11 345 RX11 yX11_be wsX11_be) := goodIn_app (goodIn_of _ (by decide +kernel)) ggX11_flickAll_X11_be
set_option maxRecDepth 20000 in
theorem ggX11_flickAll_X11_couple : GoodIn wsX11_flickAll wsX11_couple := goodIn_r _ [50, 51, 56, 57, 58, 59, 60, 61, 62, 63, 64, 65, 66, 67, 68, 69, 70, 71, 72, 73, 74, 75, 76, 77, 78, 79, 80, 81, 82, 83, 84, 85, 86, 87, 88, 89, 90, 91, 92, 93, 94, 95, 96, 97, 98, 99, 100, 101, 102, 103, 104, 105, 106, 107, 108, 109, 110, 111, 112, 113] (by decide +kernel) (by decide +kernel)
set_option maxRecDepth 20000 in
theorem gX11_flickAll_X11_couple : GoodIn wsX11_flickAll (wsV RX11 331 RX11 yX11_couple wsX11_couple) := goodIn_app (goodIn_of _ (by decide +kernel)) ggX11_flickAll_X11_couple
theorem dX11_flickAll_0 : decode cX11_flickAll 0 = .ok (.iconst 0, 1) := by decide +kernel
theorem dX11_flickAll_1 : decode cX11_flickAll 1 = .ok (.istore_n 2, 1) := by decide +kernel
theorem dX11_flickAll_2 : decode cX11_flickAll 2 = .ok (.aload_n 0, 1) := by decide +kernel
theorem dX11_flickAll_3 : decode cX11_flickAll 3 = .ok (.iconst 0, 1) := by decide +kernel
theorem dX11_flickAll_4 : decode cX11_flickAll 4 = .ok (.putfield 337, 3) := by decide +kernel
theorem dX11_flickAll_7 : decode cX11_flickAll 7 = .ok (.iconst 0, 1) := by decide +kernel
theorem dX11_flickAll_8 : decode cX11_flickAll 8 = .ok (.istore_n 3, 1) := by decide +kernel
theorem dX11_flickAll_9 : decode cX11_flickAll 9 = .ok (.iload_n 3, 1) := by decide +kernel
theorem dX11_flickAll_10 : decode cX11_flickAll 10 = .ok (.aload_n 0, 1) := by decide +kernel
theorem dX11_flickAll_11 : decode cX11_flickAll 11 = .ok (.getfield 38, 3) := by decide +kernel
theorem dX11_flickAll_14 : decode cX11_flickAll 14 = .ok (.iconst 1, 1) := by decide +kernel
theorem dX11_flickAll_15 : decode cX11_flickAll 15 = .ok (.iaload, 1) := by decide +kernel
theorem dX11_flickAll_16 : decode cX11_flickAll 16 = .ok (.if_icmp .ge 95, 3) := by decide +kernel
theorem dX11_flickAll_19 : decode cX11_flickAll 19 = .ok (.aload_n 0, 1) := by decide +kernel
theorem dX11_flickAll_20 : decode cX11_flickAll 20 = .ok (.iload_n 3, 1) := by decide +kernel
theorem dX11_flickAll_21 : decode cX11_flickAll 21 = .ok (.iload_n 1, 1) := by decide +kernel
theorem dX11_flickAll_22 : decode cX11_flickAll 22 = .ok (.invokevirtual 340, 3) := by decide +kernel
theorem dX11_flickAll_25 : decode cX11_flickAll 25 = .ok (.istore 4, 2) := by decide +kernel
theorem dX11_flickAll_27 : decode cX11_flickAll 27 = .ok (.aload_n 0, 1) := by decide +kernel
theorem dX11_flickAll_28 : decode cX11_flickAll 28 = .ok (.aload_n 0, 1) := by decide +kernel
theorem dX11_flickAll_29 : decode cX11_flickAll 29 = .ok (.getfield 74, 3) := by decide +kernel
theorem dX11_flickAll_32 : decode cX11_flickAll 32 = .ok (.iload_n 3, 1) := by decide +kernel
theorem dX11_flickAll_33 : decode cX11_flickAll 33 = .ok (.iaload, 1) := by decide +kernel
theorem dX11_flickAll_34 : decode cX11_flickAll 34 = .ok (.iload_n 1, 1) := by decide +kernel
theorem dX11_flickAll_35 : decode cX11_flickAll 35 = .ok (.invokevirtual 316, 3) := by decide +kernel
theorem dX11_flickAll_38 : decode cX11_flickAll 38 = .ok (.ifCond .eq 67, 3) := by decide +kernel
theorem dX11_flickAll_41 : decode cX11_flickAll 41 = .ok (.iload 4, 2) := by decide +kernel
theorem dX11_flickAll_43 : decode cX11_flickAll 43 = .ok (.aload_n 0, 1) := by decide +kernel
theorem dX11_flickAll_44 : decode cX11_flickAll 44 = .ok (.getfield 296, 3) := by decide +kernel
theorem dX11_flickAll_47 : decode cX11_flickAll 47 = .ok (.iload_n 3, 1) := by decide +kernel
theorem dX11_flickAll_48 : decode cX11_flickAll 48 = .ok (.invokestatic 334, 3) := by decide +kernel
theorem dX11_flickAll_51 : decode cX11_flickAll 51 = .ok (.if_icmp .eq 54, 3) := by decide +kernel
theorem dX11_flickAll_54 : decode cX11_flickAll 54 = .ok (.iload 4, 2) := by decide +kernel
theorem dX11_flickAll_56 : decode cX11_flickAll 56 = .ok (.ifCond .eq 14, 3) := by decide +kernel
theorem dX11_flickAll_59 : decode cX11_flickAll 59 = .ok (.aload_n 0, 1) := by decide +kernel
theorem dX11_flickAll_60 : decode cX11_flickAll 60 = .ok (.iload_n 3, 1) := by decide +kernel
theorem dX11_flickAll_61 : decode cX11_flickAll 61 = .ok (.invokevirtual 342, 3) := by decide +kernel
theorem dX11_flickAll_64 : decode cX11_flickAll 64 = .ok (.ifCond .ne 6, 3) := by decide +kernel
theorem dX11_flickAll_67 : decode cX11_flickAll 67 = .ok (.goto 38, 3) := by decide +kernel
theorem dX11_flickAll_70 : decode cX11_flickAll 70 = .ok (.aload_n 0, 1) := by decide +kernel
theorem dX11_flickAll_71 : decode cX11_flickAll 71 = .ok (.iload_n 3, 1) := by decide +kernel
theorem dX11_flickAll_72 : decode cX11_flickAll 72 = .ok (.iload 4, 2) := by decide +kernel
theorem dX11_flickAll_74 : decode cX11_flickAll 74 = .ok (.invokevirtual 345, 3) := by decide +kernel
theorem dX11_flickAll_77 : decode cX11_flickAll 77 = .ok (.iload_n 2, 1) := by decide +kernel
theorem dX11_flickAll_78 : decode cX11_flickAll 78 = .ok (.aload_n 0, 1) := by decide +kernel
theorem dX11_flickAll_79 : decode cX11_flickAll 79 = .ok (.iload_n 3, 1) := by decide +kernel
theorem dX11_flickAll_80 : decode cX11_flickAll 80 = .ok (.invokevirtual 331, 3) := by decide +kernel
theorem dX11_flickAll_83 : decode cX11_flickAll 83 = .ok (.iand, 1) := by decide +kernel
theorem dX11_flickAll_84 : decode cX11_flickAll 84 = .ok (.ifCond .eq 13, 3) := by decide +kernel
theorem dX11_flickAll_87 : decode cX11_flickAll 87 = .ok (.aload_n 0, 1) := by decide +kernel
theorem dX11_flickAll_88 : decode cX11_flickAll 88 = .ok (.dup, 1) := by decide +kernel
theorem dX11_flickAll_89 : decode cX11_flickAll 89 = .ok (.getfield 337, 3) := by decide +kernel
theorem dX11_flickAll_92 : decode cX11_flickAll 92 = .ok (.iconst 1, 1) := by decide +kernel
theorem dX11_flickAll_93 : decode cX11_flickAll 93 = .ok (.iadd, 1) := by decide +kernel
theorem dX11_flickAll_94 : decode cX11_flickAll 94 = .ok (.putfield 337, 3) := by decide +kernel
theorem dX11_flickAll_97 : decode cX11_flickAll 97 = .ok (.iload_n 2, 1) := by decide +kernel
theorem dX11_flickAll_98 : decode cX11_flickAll 98 = .ok (.aload_n 0, 1) := by decide +kernel
theorem dX11_flickAll_99 : decode cX11_flickAll 99 = .ok (.iload_n 3, 1) := by decide +kernel
theorem dX11_flickAll_100 : decode cX11_flickAll 100 = .ok (.invokevirtual 331, 3) := by decide +kernel
theorem dX11_flickAll_103 : decode cX11_flickAll 103 = .ok (.ior, 1) := by decide +kernel
theorem dX11_flickAll_104 : decode cX11_flickAll 104 = .ok (.istore_n 2, 1) := by decide +kernel
theorem dX11_flickAll_105 : decode cX11_flickAll 105 = .ok (.iinc 3 1, 3) := by decide +kernel
theorem dX11_flickAll_108 : decode cX11_flickAll 108 = .ok (.goto (-99), 3) := by decide +kernel
theorem dX11_flickAll_111 : decode cX11_flickAll 111 = .ok (.return_, 1) := by decide +kernel
set_option maxRecDepth 20000 in
theorem ggX11_burn_X11_isOf : GoodIn wsX11_burn wsX11_isOf := goodIn_r _ [7] (by decide +kernel) (by decide +kernel)
set_option maxRecDepth 20000 in
theorem gX11_burn_X11_isOf : GoodIn wsX11_burn (va_wsS RX11 334 yX11_isOf wsX11_isOf) := goodIn_app (goodIn_of _ (by decide +kernel)) ggX11_burn_X11_isOf
set_option maxRecDepth 20000 in
theorem ggX11_burn_X11_be : GoodIn wsX11_burn wsX11_be := goodIn_r _ [11, 1, 12, 13, 14, 6, 15, 16, 17, 18, 19, 20, 21, 22, 23, 24, 25, 26, 27, 28, 29, 30, 31, 32, 33, 34, 35, 36, 37, 38, 39, 40, 41, 42, 43, 44, 45, 46, 47, 48, 49, 50, 51, 52, 53, 54, 55, 56, 57, 58, 59, 60, 61, 62, 63, 64, 65, 66, 67, 68, 69, 70, 71, 72, 73, 74] (by decide +kernel) (by decide +kernel)
set_option maxRecDepth 20000 in
theorem gX11_burn_X11_be : GoodIn wsX11_burn (wsV RX11 345 RX11 yX11_be wsX11_be) := goodIn_app (goodIn_of _ (by decide +kernel)) ggX11_burn_X11_be
theorem dX11_burn_0 : decode cX11_burn 0 = .ok (.aload_n 0, 1) := by decide +kernel
theorem dX11_burn_1 : decode cX11_burn 1 = .ok (.getfield 296, 3) := by decide +kernel
theorem dX11_burn_4 : decode cX11_burn 4 = .ok (.istore_n 1, 1) := by decide +kernel
theorem dX11_burn_5 : decode cX11_burn 5 = .ok (.iconst 0, 1) := by decide +kernel
theorem dX11_burn_6 : decode cX11_burn 6 = .ok (.istore_n 2, 1) := by decide +kernel
theorem dX11_burn_7 : decode cX11_burn 7 = .ok (.iload_n 2, 1) := by decide +kernel
theorem dX11_burn_8 : decode cX11_burn 8 = .ok (.aload_n 0, 1) := by decide +kernel
theorem dX11_burn_9 : decode cX11_burn 9 = .ok (.getfield 38, 3) := by decide +kernel
theorem dX11_burn_12 : decode cX11_burn 12 = .ok (.iconst 1, 1) := by decide +kernel
theorem dX11_burn_13 : decode cX11_burn 13 = .ok (.iaload, 1) := by decide +kernel
theorem dX11_burn_14 : decode cX11_burn 14 = .ok (.if_icmp .ge 31, 3) := by decide +kernel
theorem dX11_burn_17 : decode cX11_burn 17 = .ok (.aload_n 0, 1) := by decide +kernel
theorem dX11_burn_18 : decode cX11_burn 18 = .ok (.getfield 72, 3) := by decide +kernel
theorem dX11_burn_21 : decode cX11_burn 21 = .ok (.iload_n 2, 1) := by decide +kernel
theorem dX11_burn_22 : decode cX11_burn 22 = .ok (.dup2, 1) := by decide +kernel
theorem dX11_burn_23 : decode cX11_burn 23 = .ok (.iaload, 1) := by decide +kernel
theorem dX11_burn_24 : decode cX11_burn 24 = .ok (.iload_n 1, 1) := by decide +kernel
theorem dX11_burn_25 : decode cX11_burn 25 = .ok (.iload_n 2, 1) := by decide +kernel
theorem dX11_burn_26 : decode cX11_burn 26 = .ok (.invokestatic 334, 3) := by decide +kernel
theorem dX11_burn_29 : decode cX11_burn 29 = .ok (.ifCond .eq 7, 3) := by decide +kernel
theorem dX11_burn_32 : decode cX11_burn 32 = .ok (.iconst 1, 1) := by decide +kernel
theorem dX11_burn_33 : decode cX11_burn 33 = .ok (.goto 4, 3) := by decide +kernel
theorem dX11_burn_36 : decode cX11_burn 36 = .ok (.iconst 0, 1) := by decide +kernel
theorem dX11_burn_37 : decode cX11_burn 37 = .ok (.isub, 1) := by decide +kernel
theorem dX11_burn_38 : decode cX11_burn 38 = .ok (.iastore, 1) := by decide +kernel
theorem dX11_burn_39 : decode cX11_burn 39 = .ok (.iinc 2 1, 3) := by decide +kernel
theorem dX11_burn_42 : decode cX11_burn 42 = .ok (.goto (-35), 3) := by decide +kernel
theorem dX11_burn_45 : decode cX11_burn 45 = .ok (.iconst 0, 1) := by decide +kernel
theorem dX11_burn_46 : decode cX11_burn 46 = .ok (.istore_n 2, 1) := by decide +kernel
theorem dX11_burn_47 : decode cX11_burn 47 = .ok (.iload_n 2, 1) := by decide +kernel
theorem dX11_burn_48 : decode cX11_burn 48 = .ok (.aload_n 0, 1) := by decide +kernel
theorem dX11_burn_49 : decode cX11_burn 49 = .ok (.getfield 38, 3) := by decide +kernel
theorem dX11_burn_52 : decode cX11_burn 52 = .ok (.iconst 1, 1) := by decide +kernel
theorem dX11_burn_53 : decode cX11_burn 53 = .ok (.iaload, 1) := by decide +kernel
theorem dX11_burn_54 : decode cX11_burn 54 = .ok (.if_icmp .ge 32, 3) := by decide +kernel
theorem dX11_burn_57 : decode cX11_burn 57 = .ok (.iload_n 1, 1) := by decide +kernel
theorem dX11_burn_58 : decode cX11_burn 58 = .ok (.iload_n 2, 1) := by decide +kernel
theorem dX11_burn_59 : decode cX11_burn 59 = .ok (.invokestatic 334, 3) := by decide +kernel
theorem dX11_burn_62 : decode cX11_burn 62 = .ok (.ifCond .eq 18, 3) := by decide +kernel
theorem dX11_burn_65 : decode cX11_burn 65 = .ok (.aload_n 0, 1) := by decide +kernel
theorem dX11_burn_66 : decode cX11_burn 66 = .ok (.getfield 72, 3) := by decide +kernel
theorem dX11_burn_69 : decode cX11_burn 69 = .ok (.iload_n 2, 1) := by decide +kernel
theorem dX11_burn_70 : decode cX11_burn 70 = .ok (.iaload, 1) := by decide +kernel
theorem dX11_burn_71 : decode cX11_burn 71 = .ok (.ifCond .ne 9, 3) := by decide +kernel
theorem dX11_burn_74 : decode cX11_burn 74 = .ok (.aload_n 0, 1) := by decide +kernel
theorem dX11_burn_75 : decode cX11_burn 75 = .ok (.iload_n 2, 1) := by decide +kernel
theorem dX11_burn_76 : decode cX11_burn 76 = .ok (.iconst 0, 1) := by decide +kernel
theorem dX11_burn_77 : decode cX11_burn 77 = .ok (.invokevirtual 345, 3) := by decide +kernel
theorem dX11_burn_80 : decode cX11_burn 80 = .ok (.iinc 2 1, 3) := by decide +kernel
theorem dX11_burn_83 : decode cX11_burn 83 = .ok (.goto (-36), 3) := by decide +kernel
theorem dX11_burn_86 : decode cX11_burn 86 = .ok (.return_, 1) := by decide +kernel
set_option maxRecDepth 20000 in
theorem ggX11_anHour_X11_flickAll : GoodIn wsX11_anHour wsX11_flickAll := goodIn_r _ [11, 12, 4, 6, 2, 13, 14, 15, 10, 16, 17, 18, 19, 20, 21, 22, 23, 24, 25, 26, 27, 28, 29, 30, 31, 32, 33, 34, 35, 36, 37, 38, 39, 40, 41, 42, 43, 44, 45, 46, 47, 48, 49, 50, 51, 52, 53, 54, 55, 56, 57, 58, 59, 60, 61, 62, 67, 68, 69, 70, 71, 72, 73, 74, 75, 76, 77, 78, 79, 80, 81, 82, 83, 84, 85, 86, 87, 88, 89, 90, 91, 92, 93, 94, 95, 96, 97, 98, 99, 100, 101, 102, 103, 104, 105, 106, 107, 108, 109, 110, 111, 112, 113, 114, 115, 116, 117, 118, 119, 120, 121, 122, 123, 124] (by decide +kernel) (by decide +kernel)
set_option maxRecDepth 20000 in
theorem gX11_anHour_X11_flickAll : GoodIn wsX11_anHour (wsV RX11 349 RX11 yX11_flickAll wsX11_flickAll) := goodIn_app (goodIn_of _ (by decide +kernel)) ggX11_anHour_X11_flickAll
set_option maxRecDepth 20000 in
theorem ggX11_anHour_X11_isAwake : GoodIn wsX11_anHour wsX11_isAwake := goodIn_r _ [27, 28, 29, 67, 68, 69, 70, 71, 72, 73, 74, 75, 76, 77, 78, 79, 80, 81, 82, 83, 84, 85, 86, 87, 88, 89, 90, 91, 92, 93, 94, 95, 96, 97, 98, 99, 100, 101, 102, 103, 104, 105, 106, 107, 108, 109, 110, 111, 112, 113, 114, 115, 116, 117, 118, 119, 120, 121, 122, 123, 124] (by decide +kernel) (by decide +kernel)
set_option maxRecDepth 20000 in
theorem gX11_anHour_X11_isAwake : GoodIn wsX11_anHour (wsV RX11 316 RX11 yX11_isAwake wsX11_isAwake) := goodIn_app (goodIn_of _ (by decide +kernel)) ggX11_anHour_X11_isAwake
set_option maxRecDepth 20000 in
theorem ggX11_anHour_X11_wants : GoodIn wsX11_anHour wsX11_wants := goodIn_r _ [16, 6, 4, 17, 18, 19, 20, 21, 22, 10, 23, 24, 25, 26, 27, 28, 29, 30, 31, 32, 33, 34, 35, 36, 37, 38, 39, 40, 41, 42, 43, 44, 45, 67, 68, 69, 70, 71, 72, 73, 74, 75, 76, 77, 78, 79, 80, 81, 82, 83, 84, 85, 86, 87, 88, 89, 90, 91, 92, 93, 94, 95, 96, 97, 98, 99, 100, 101, 102, 103, 104, 105, 106, 107, 108, 109, 110, 111, 112, 113, 114, 115, 116, 117, 118, 119, 120, 121, 122, 123, 124] (by decide +kernel) (by decide +kernel)
set_option maxRecDepth 20000 in
theorem gX11_anHour_X11_wants : GoodIn wsX11_anHour (wsV RX11 340 RX11 yX11_wants wsX11_wants) := goodIn_app (goodIn_of _ (by decide +kernel)) ggX11_anHour_X11_wants
set_option maxRecDepth 20000 in
theorem ggX11_anHour_X11_isOf : GoodIn wsX11_anHour wsX11_isOf := goodIn_r _ [48] (by decide +kernel) (by decide +kernel)
set_option maxRecDepth 20000 in
theorem gX11_anHour_X11_isOf : GoodIn wsX11_anHour (va_wsS RX11 334 yX11_isOf wsX11_isOf) := goodIn_app (goodIn_of _ (by decide +kernel)) ggX11_anHour_X11_isOf
set_option maxRecDepth 20000 in
theorem ggX11_anHour_X11_burn : GoodIn wsX11_anHour wsX11_burn := goodIn_r _ [66, 2, 4, 19, 46, 47, 10, 48, 59, 60, 61, 62, 54, 55, 56, 57, 58, 67, 68, 69, 70, 71, 72, 73, 74, 75, 76, 77, 78, 79, 80, 81, 82, 83, 84, 85, 86, 87, 88, 89, 90, 91, 92, 93, 94, 95, 96, 97, 98, 99, 100, 101, 102, 103, 104, 105, 106, 107, 108, 109, 110, 111, 112, 113, 114, 115, 116, 117, 118, 119, 120, 121, 122, 123, 124] (by decide +kernel) (by decide +kernel)
set_option maxRecDepth 20000 in
theorem gX11_anHour_X11_burn : GoodIn wsX11_anHour (wsV RX11 355 RX11 yX11_burn wsX11_burn) := goodIn_app (goodIn_of _ (by decide +kernel)) ggX11_anHour_X11_burn
theorem dX11_anHour_0 : decode cX11_anHour 0 = .ok (.aload_n 0, 1) := by decide +kernel
theorem dX11_anHour_1 : decode cX11_anHour 1 = .ok (.getfield 294, 3) := by decide +kernel
theorem dX11_anHour_4 : decode cX11_anHour 4 = .ok (.bipush 24, 2) := by decide +kernel
theorem dX11_anHour_6 : decode cX11_anHour 6 = .ok (.irem, 1) := by decide +kernel
theorem dX11_anHour_7 : decode cX11_anHour 7 = .ok (.istore_n 1, 1) := by decide +kernel
theorem dX11_anHour_8 : decode cX11_anHour 8 = .ok (.aload_n 0, 1) := by decide +kernel
theorem dX11_anHour_9 : decode cX11_anHour 9 = .ok (.iload_n 1, 1) := by decide +kernel
theorem dX11_anHour_10 : decode cX11_anHour 10 = .ok (.invokevirtual 349, 3) := by decide +kernel
theorem dX11_anHour_13 : decode cX11_anHour 13 = .ok (.aload_n 0, 1) := by decide +kernel
theorem dX11_anHour_14 : decode cX11_anHour 14 = .ok (.aload_n 0, 1) := by decide +kernel
theorem dX11_anHour_15 : decode cX11_anHour 15 = .ok (.getfield 296, 3) := by decide +kernel
theorem dX11_anHour_18 : decode cX11_anHour 18 = .ok (.putfield 352, 3) := by decide +kernel
theorem dX11_anHour_21 : decode cX11_anHour 21 = .ok (.iconst 0, 1) := by decide +kernel
theorem dX11_anHour_22 : decode cX11_anHour 22 = .ok (.istore_n 2, 1) := by decide +kernel
theorem dX11_anHour_23 : decode cX11_anHour 23 = .ok (.iload_n 2, 1) := by decide +kernel
theorem dX11_anHour_24 : decode cX11_anHour 24 = .ok (.aload_n 0, 1) := by decide +kernel
theorem dX11_anHour_25 : decode cX11_anHour 25 = .ok (.getfield 38, 3) := by decide +kernel
theorem dX11_anHour_28 : decode cX11_anHour 28 = .ok (.iconst 0, 1) := by decide +kernel
theorem dX11_anHour_29 : decode cX11_anHour 29 = .ok (.iaload, 1) := by decide +kernel
theorem dX11_anHour_30 : decode cX11_anHour 30 = .ok (.if_icmp .ge 16, 3) := by decide +kernel
theorem dX11_anHour_33 : decode cX11_anHour 33 = .ok (.aload_n 0, 1) := by decide +kernel
theorem dX11_anHour_34 : decode cX11_anHour 34 = .ok (.getfield 91, 3) := by decide +kernel
theorem dX11_anHour_37 : decode cX11_anHour 37 = .ok (.iload_n 2, 1) := by decide +kernel
theorem dX11_anHour_38 : decode cX11_anHour 38 = .ok (.iconst 0, 1) := by decide +kernel
theorem dX11_anHour_39 : decode cX11_anHour 39 = .ok (.iastore, 1) := by decide +kernel
theorem dX11_anHour_40 : decode cX11_anHour 40 = .ok (.iinc 2 1, 3) := by decide +kernel
theorem dX11_anHour_43 : decode cX11_anHour 43 = .ok (.goto (-20), 3) := by decide +kernel
theorem dX11_anHour_46 : decode cX11_anHour 46 = .ok (.iconst 0, 1) := by decide +kernel
theorem dX11_anHour_47 : decode cX11_anHour 47 = .ok (.istore_n 2, 1) := by decide +kernel
theorem dX11_anHour_48 : decode cX11_anHour 48 = .ok (.iload_n 2, 1) := by decide +kernel
theorem dX11_anHour_49 : decode cX11_anHour 49 = .ok (.aload_n 0, 1) := by decide +kernel
theorem dX11_anHour_50 : decode cX11_anHour 50 = .ok (.getfield 38, 3) := by decide +kernel
theorem dX11_anHour_53 : decode cX11_anHour 53 = .ok (.iconst 1, 1) := by decide +kernel
theorem dX11_anHour_54 : decode cX11_anHour 54 = .ok (.iaload, 1) := by decide +kernel
theorem dX11_anHour_55 : decode cX11_anHour 55 = .ok (.if_icmp .ge 59, 3) := by decide +kernel
theorem dX11_anHour_58 : decode cX11_anHour 58 = .ok (.aload_n 0, 1) := by decide +kernel
theorem dX11_anHour_59 : decode cX11_anHour 59 = .ok (.getfield 91, 3) := by decide +kernel
theorem dX11_anHour_62 : decode cX11_anHour 62 = .ok (.aload_n 0, 1) := by decide +kernel
theorem dX11_anHour_63 : decode cX11_anHour 63 = .ok (.getfield 74, 3) := by decide +kernel
theorem dX11_anHour_66 : decode cX11_anHour 66 = .ok (.iload_n 2, 1) := by decide +kernel
theorem dX11_anHour_67 : decode cX11_anHour 67 = .ok (.iaload, 1) := by decide +kernel
theorem dX11_anHour_68 : decode cX11_anHour 68 = .ok (.dup2, 1) := by decide +kernel
theorem dX11_anHour_69 : decode cX11_anHour 69 = .ok (.iaload, 1) := by decide +kernel
theorem dX11_anHour_70 : decode cX11_anHour 70 = .ok (.aload_n 0, 1) := by decide +kernel
theorem dX11_anHour_71 : decode cX11_anHour 71 = .ok (.aload_n 0, 1) := by decide +kernel
theorem dX11_anHour_72 : decode cX11_anHour 72 = .ok (.getfield 74, 3) := by decide +kernel
theorem dX11_anHour_75 : decode cX11_anHour 75 = .ok (.iload_n 2, 1) := by decide +kernel
theorem dX11_anHour_76 : decode cX11_anHour 76 = .ok (.iaload, 1) := by decide +kernel
theorem dX11_anHour_77 : decode cX11_anHour 77 = .ok (.iload_n 1, 1) := by decide +kernel
theorem dX11_anHour_78 : decode cX11_anHour 78 = .ok (.invokevirtual 316, 3) := by decide +kernel
theorem dX11_anHour_81 : decode cX11_anHour 81 = .ok (.ifCond .eq 24, 3) := by decide +kernel
theorem dX11_anHour_84 : decode cX11_anHour 84 = .ok (.aload_n 0, 1) := by decide +kernel
theorem dX11_anHour_85 : decode cX11_anHour 85 = .ok (.iload_n 2, 1) := by decide +kernel
theorem dX11_anHour_86 : decode cX11_anHour 86 = .ok (.iload_n 1, 1) := by decide +kernel
theorem dX11_anHour_87 : decode cX11_anHour 87 = .ok (.invokevirtual 340, 3) := by decide +kernel
theorem dX11_anHour_90 : decode cX11_anHour 90 = .ok (.aload_n 0, 1) := by decide +kernel
theorem dX11_anHour_91 : decode cX11_anHour 91 = .ok (.getfield 296, 3) := by decide +kernel
theorem dX11_anHour_94 : decode cX11_anHour 94 = .ok (.iload_n 2, 1) := by decide +kernel
theorem dX11_anHour_95 : decode cX11_anHour 95 = .ok (.invokestatic 334, 3) := by decide +kernel
theorem dX11_anHour_98 : decode cX11_anHour 98 = .ok (.if_icmp .eq 7, 3) := by decide +kernel
theorem dX11_anHour_101 : decode cX11_anHour 101 = .ok (.iconst 1, 1) := by decide +kernel
theorem dX11_anHour_102 : decode cX11_anHour 102 = .ok (.goto 4, 3) := by decide +kernel
theorem dX11_anHour_105 : decode cX11_anHour 105 = .ok (.iconst 0, 1) := by decide +kernel
theorem dX11_anHour_106 : decode cX11_anHour 106 = .ok (.iadd, 1) := by decide +kernel
theorem dX11_anHour_107 : decode cX11_anHour 107 = .ok (.iastore, 1) := by decide +kernel
theorem dX11_anHour_108 : decode cX11_anHour 108 = .ok (.iinc 2 1, 3) := by decide +kernel
theorem dX11_anHour_111 : decode cX11_anHour 111 = .ok (.goto (-63), 3) := by decide +kernel
theorem dX11_anHour_114 : decode cX11_anHour 114 = .ok (.aload_n 0, 1) := by decide +kernel
theorem dX11_anHour_115 : decode cX11_anHour 115 = .ok (.invokevirtual 355, 3) := by decide +kernel
theorem dX11_anHour_118 : decode cX11_anHour 118 = .ok (.aload_n 0, 1) := by decide +kernel
theorem dX11_anHour_119 : decode cX11_anHour 119 = .ok (.dup, 1) := by decide +kernel
theorem dX11_anHour_120 : decode cX11_anHour 120 = .ok (.getfield 294, 3) := by decide +kernel
theorem dX11_anHour_123 : decode cX11_anHour 123 = .ok (.iconst 1, 1) := by decide +kernel
theorem dX11_anHour_124 : decode cX11_anHour 124 = .ok (.iadd, 1) := by decide +kernel
theorem dX11_anHour_125 : decode cX11_anHour 125 = .ok (.putfield 294, 3) := by decide +kernel
theorem dX11_anHour_128 : decode cX11_anHour 128 = .ok (.return_, 1) := by decide +kernel
theorem dX11_allGrief_0 : decode cX11_allGrief 0 = .ok (.iconst 0, 1) := by decide +kernel
theorem dX11_allGrief_1 : decode cX11_allGrief 1 = .ok (.istore_n 1, 1) := by decide +kernel
theorem dX11_allGrief_2 : decode cX11_allGrief 2 = .ok (.iconst 0, 1) := by decide +kernel
theorem dX11_allGrief_3 : decode cX11_allGrief 3 = .ok (.istore_n 2, 1) := by decide +kernel
theorem dX11_allGrief_4 : decode cX11_allGrief 4 = .ok (.iload_n 2, 1) := by decide +kernel
theorem dX11_allGrief_5 : decode cX11_allGrief 5 = .ok (.aload_n 0, 1) := by decide +kernel
theorem dX11_allGrief_6 : decode cX11_allGrief 6 = .ok (.getfield 38, 3) := by decide +kernel
theorem dX11_allGrief_9 : decode cX11_allGrief 9 = .ok (.iconst 0, 1) := by decide +kernel
theorem dX11_allGrief_10 : decode cX11_allGrief 10 = .ok (.iaload, 1) := by decide +kernel
theorem dX11_allGrief_11 : decode cX11_allGrief 11 = .ok (.if_icmp .ge 18, 3) := by decide +kernel
theorem dX11_allGrief_14 : decode cX11_allGrief 14 = .ok (.iload_n 1, 1) := by decide +kernel
theorem dX11_allGrief_15 : decode cX11_allGrief 15 = .ok (.aload_n 0, 1) := by decide +kernel
theorem dX11_allGrief_16 : decode cX11_allGrief 16 = .ok (.getfield 91, 3) := by decide +kernel
theorem dX11_allGrief_19 : decode cX11_allGrief 19 = .ok (.iload_n 2, 1) := by decide +kernel
theorem dX11_allGrief_20 : decode cX11_allGrief 20 = .ok (.iaload, 1) := by decide +kernel
theorem dX11_allGrief_21 : decode cX11_allGrief 21 = .ok (.iadd, 1) := by decide +kernel
theorem dX11_allGrief_22 : decode cX11_allGrief 22 = .ok (.istore_n 1, 1) := by decide +kernel
theorem dX11_allGrief_23 : decode cX11_allGrief 23 = .ok (.iinc 2 1, 3) := by decide +kernel
theorem dX11_allGrief_26 : decode cX11_allGrief 26 = .ok (.goto (-22), 3) := by decide +kernel
theorem dX11_allGrief_29 : decode cX11_allGrief 29 = .ok (.iload_n 1, 1) := by decide +kernel
theorem dX11_allGrief_30 : decode cX11_allGrief 30 = .ok (.ireturn, 1) := by decide +kernel
theorem dX11_alone_0 : decode cX11_alone 0 = .ok (.iconst 0, 1) := by decide +kernel
theorem dX11_alone_1 : decode cX11_alone 1 = .ok (.istore_n 1, 1) := by decide +kernel
theorem dX11_alone_2 : decode cX11_alone 2 = .ok (.iconst 0, 1) := by decide +kernel
theorem dX11_alone_3 : decode cX11_alone 3 = .ok (.istore_n 2, 1) := by decide +kernel
theorem dX11_alone_4 : decode cX11_alone 4 = .ok (.iload_n 2, 1) := by decide +kernel
theorem dX11_alone_5 : decode cX11_alone 5 = .ok (.aload_n 0, 1) := by decide +kernel
theorem dX11_alone_6 : decode cX11_alone 6 = .ok (.getfield 38, 3) := by decide +kernel
theorem dX11_alone_9 : decode cX11_alone 9 = .ok (.iconst 1, 1) := by decide +kernel
theorem dX11_alone_10 : decode cX11_alone 10 = .ok (.iaload, 1) := by decide +kernel
theorem dX11_alone_11 : decode cX11_alone 11 = .ok (.if_icmp .ge 29, 3) := by decide +kernel
theorem dX11_alone_14 : decode cX11_alone 14 = .ok (.iload_n 1, 1) := by decide +kernel
theorem dX11_alone_15 : decode cX11_alone 15 = .ok (.aload_n 0, 1) := by decide +kernel
theorem dX11_alone_16 : decode cX11_alone 16 = .ok (.getfield 56, 3) := by decide +kernel
theorem dX11_alone_19 : decode cX11_alone 19 = .ok (.iload_n 2, 1) := by decide +kernel
theorem dX11_alone_20 : decode cX11_alone 20 = .ok (.iaload, 1) := by decide +kernel
theorem dX11_alone_21 : decode cX11_alone 21 = .ok (.iconst (-1), 1) := by decide +kernel
theorem dX11_alone_22 : decode cX11_alone 22 = .ok (.if_icmp .ne 9, 3) := by decide +kernel
theorem dX11_alone_25 : decode cX11_alone 25 = .ok (.iconst 1, 1) := by decide +kernel
theorem dX11_alone_26 : decode cX11_alone 26 = .ok (.iload_n 2, 1) := by decide +kernel
theorem dX11_alone_27 : decode cX11_alone 27 = .ok (.ishl, 1) := by decide +kernel
theorem dX11_alone_28 : decode cX11_alone 28 = .ok (.goto 4, 3) := by decide +kernel
theorem dX11_alone_31 : decode cX11_alone 31 = .ok (.iconst 0, 1) := by decide +kernel
theorem dX11_alone_32 : decode cX11_alone 32 = .ok (.ior, 1) := by decide +kernel
theorem dX11_alone_33 : decode cX11_alone 33 = .ok (.istore_n 1, 1) := by decide +kernel
theorem dX11_alone_34 : decode cX11_alone 34 = .ok (.iinc 2 1, 3) := by decide +kernel
theorem dX11_alone_37 : decode cX11_alone 37 = .ok (.goto (-33), 3) := by decide +kernel
theorem dX11_alone_40 : decode cX11_alone 40 = .ok (.iload_n 1, 1) := by decide +kernel
theorem dX11_alone_41 : decode cX11_alone 41 = .ok (.ireturn, 1) := by decide +kernel
theorem dX11_happy_0 : decode cX11_happy 0 = .ok (.iconst 0, 1) := by decide +kernel
theorem dX11_happy_1 : decode cX11_happy 1 = .ok (.istore_n 1, 1) := by decide +kernel
theorem dX11_happy_2 : decode cX11_happy 2 = .ok (.iconst 0, 1) := by decide +kernel
theorem dX11_happy_3 : decode cX11_happy 3 = .ok (.istore_n 2, 1) := by decide +kernel
theorem dX11_happy_4 : decode cX11_happy 4 = .ok (.iload_n 2, 1) := by decide +kernel
theorem dX11_happy_5 : decode cX11_happy 5 = .ok (.aload_n 0, 1) := by decide +kernel
theorem dX11_happy_6 : decode cX11_happy 6 = .ok (.getfield 38, 3) := by decide +kernel
theorem dX11_happy_9 : decode cX11_happy 9 = .ok (.iconst 1, 1) := by decide +kernel
theorem dX11_happy_10 : decode cX11_happy 10 = .ok (.iaload, 1) := by decide +kernel
theorem dX11_happy_11 : decode cX11_happy 11 = .ok (.if_icmp .ge 49, 3) := by decide +kernel
theorem dX11_happy_14 : decode cX11_happy 14 = .ok (.iload_n 1, 1) := by decide +kernel
theorem dX11_happy_15 : decode cX11_happy 15 = .ok (.aload_n 0, 1) := by decide +kernel
theorem dX11_happy_16 : decode cX11_happy 16 = .ok (.getfield 56, 3) := by decide +kernel
theorem dX11_happy_19 : decode cX11_happy 19 = .ok (.iload_n 2, 1) := by decide +kernel
theorem dX11_happy_20 : decode cX11_happy 20 = .ok (.iaload, 1) := by decide +kernel
theorem dX11_happy_21 : decode cX11_happy 21 = .ok (.iconst (-1), 1) := by decide +kernel
theorem dX11_happy_22 : decode cX11_happy 22 = .ok (.if_icmp .eq 29, 3) := by decide +kernel
theorem dX11_happy_25 : decode cX11_happy 25 = .ok (.aload_n 0, 1) := by decide +kernel
theorem dX11_happy_26 : decode cX11_happy 26 = .ok (.getfield 74, 3) := by decide +kernel
theorem dX11_happy_29 : decode cX11_happy 29 = .ok (.aload_n 0, 1) := by decide +kernel
theorem dX11_happy_30 : decode cX11_happy 30 = .ok (.getfield 56, 3) := by decide +kernel
theorem dX11_happy_33 : decode cX11_happy 33 = .ok (.iload_n 2, 1) := by decide +kernel
theorem dX11_happy_34 : decode cX11_happy 34 = .ok (.iaload, 1) := by decide +kernel
theorem dX11_happy_35 : decode cX11_happy 35 = .ok (.iaload, 1) := by decide +kernel
theorem dX11_happy_36 : decode cX11_happy 36 = .ok (.aload_n 0, 1) := by decide +kernel
theorem dX11_happy_37 : decode cX11_happy 37 = .ok (.getfield 74, 3) := by decide +kernel
theorem dX11_happy_40 : decode cX11_happy 40 = .ok (.iload_n 2, 1) := by decide +kernel
theorem dX11_happy_41 : decode cX11_happy 41 = .ok (.iaload, 1) := by decide +kernel
theorem dX11_happy_42 : decode cX11_happy 42 = .ok (.if_icmp .ne 9, 3) := by decide +kernel
theorem dX11_happy_45 : decode cX11_happy 45 = .ok (.iconst 1, 1) := by decide +kernel
theorem dX11_happy_46 : decode cX11_happy 46 = .ok (.iload_n 2, 1) := by decide +kernel
theorem dX11_happy_47 : decode cX11_happy 47 = .ok (.ishl, 1) := by decide +kernel
theorem dX11_happy_48 : decode cX11_happy 48 = .ok (.goto 4, 3) := by decide +kernel
theorem dX11_happy_51 : decode cX11_happy 51 = .ok (.iconst 0, 1) := by decide +kernel
theorem dX11_happy_52 : decode cX11_happy 52 = .ok (.ior, 1) := by decide +kernel
theorem dX11_happy_53 : decode cX11_happy 53 = .ok (.istore_n 1, 1) := by decide +kernel
theorem dX11_happy_54 : decode cX11_happy 54 = .ok (.iinc 2 1, 3) := by decide +kernel
theorem dX11_happy_57 : decode cX11_happy 57 = .ok (.goto (-53), 3) := by decide +kernel
theorem dX11_happy_60 : decode cX11_happy 60 = .ok (.iload_n 1, 1) := by decide +kernel
theorem dX11_happy_61 : decode cX11_happy 61 = .ok (.ireturn, 1) := by decide +kernel
theorem dX11_plunged_0 : decode cX11_plunged 0 = .ok (.iconst 0, 1) := by decide +kernel
theorem dX11_plunged_1 : decode cX11_plunged 1 = .ok (.istore_n 2, 1) := by decide +kernel
theorem dX11_plunged_2 : decode cX11_plunged 2 = .ok (.iconst 0, 1) := by decide +kernel
theorem dX11_plunged_3 : decode cX11_plunged 3 = .ok (.istore_n 3, 1) := by decide +kernel
theorem dX11_plunged_4 : decode cX11_plunged 4 = .ok (.iload_n 3, 1) := by decide +kernel
theorem dX11_plunged_5 : decode cX11_plunged 5 = .ok (.aload_n 0, 1) := by decide +kernel
theorem dX11_plunged_6 : decode cX11_plunged 6 = .ok (.getfield 38, 3) := by decide +kernel
theorem dX11_plunged_9 : decode cX11_plunged 9 = .ok (.iconst 1, 1) := by decide +kernel
theorem dX11_plunged_10 : decode cX11_plunged 10 = .ok (.iaload, 1) := by decide +kernel
theorem dX11_plunged_11 : decode cX11_plunged 11 = .ok (.if_icmp .ge 49, 3) := by decide +kernel
theorem dX11_plunged_14 : decode cX11_plunged 14 = .ok (.iload_n 2, 1) := by decide +kernel
theorem dX11_plunged_15 : decode cX11_plunged 15 = .ok (.aload_n 0, 1) := by decide +kernel
theorem dX11_plunged_16 : decode cX11_plunged 16 = .ok (.getfield 74, 3) := by decide +kernel
theorem dX11_plunged_19 : decode cX11_plunged 19 = .ok (.iload_n 3, 1) := by decide +kernel
theorem dX11_plunged_20 : decode cX11_plunged 20 = .ok (.iaload, 1) := by decide +kernel
theorem dX11_plunged_21 : decode cX11_plunged 21 = .ok (.iload_n 1, 1) := by decide +kernel
theorem dX11_plunged_22 : decode cX11_plunged 22 = .ok (.if_icmp .ne 29, 3) := by decide +kernel
theorem dX11_plunged_25 : decode cX11_plunged 25 = .ok (.aload_n 0, 1) := by decide +kernel
theorem dX11_plunged_26 : decode cX11_plunged 26 = .ok (.getfield 56, 3) := by decide +kernel
theorem dX11_plunged_29 : decode cX11_plunged 29 = .ok (.iload_n 3, 1) := by decide +kernel
theorem dX11_plunged_30 : decode cX11_plunged 30 = .ok (.iaload, 1) := by decide +kernel
theorem dX11_plunged_31 : decode cX11_plunged 31 = .ok (.iconst (-1), 1) := by decide +kernel
theorem dX11_plunged_32 : decode cX11_plunged 32 = .ok (.if_icmp .eq 19, 3) := by decide +kernel
theorem dX11_plunged_35 : decode cX11_plunged 35 = .ok (.iconst 1, 1) := by decide +kernel
theorem dX11_plunged_36 : decode cX11_plunged 36 = .ok (.aload_n 0, 1) := by decide +kernel
theorem dX11_plunged_37 : decode cX11_plunged 37 = .ok (.getfield 74, 3) := by decide +kernel
theorem dX11_plunged_40 : decode cX11_plunged 40 = .ok (.aload_n 0, 1) := by decide +kernel
theorem dX11_plunged_41 : decode cX11_plunged 41 = .ok (.getfield 56, 3) := by decide +kernel
theorem dX11_plunged_44 : decode cX11_plunged 44 = .ok (.iload_n 3, 1) := by decide +kernel
theorem dX11_plunged_45 : decode cX11_plunged 45 = .ok (.iaload, 1) := by decide +kernel
theorem dX11_plunged_46 : decode cX11_plunged 46 = .ok (.iaload, 1) := by decide +kernel
theorem dX11_plunged_47 : decode cX11_plunged 47 = .ok (.ishl, 1) := by decide +kernel
theorem dX11_plunged_48 : decode cX11_plunged 48 = .ok (.goto 4, 3) := by decide +kernel
theorem dX11_plunged_51 : decode cX11_plunged 51 = .ok (.iconst 0, 1) := by decide +kernel
theorem dX11_plunged_52 : decode cX11_plunged 52 = .ok (.ior, 1) := by decide +kernel
theorem dX11_plunged_53 : decode cX11_plunged 53 = .ok (.istore_n 2, 1) := by decide +kernel
theorem dX11_plunged_54 : decode cX11_plunged 54 = .ok (.iinc 3 1, 3) := by decide +kernel
theorem dX11_plunged_57 : decode cX11_plunged 57 = .ok (.goto (-53), 3) := by decide +kernel
theorem dX11_plunged_60 : decode cX11_plunged 60 = .ok (.iload_n 2, 1) := by decide +kernel
theorem dX11_plunged_61 : decode cX11_plunged 61 = .ok (.ireturn, 1) := by decide +kernel
set_option maxRecDepth 20000 in
theorem ggX11_tellWays_X11_plunged : GoodIn wsX11_tellWays wsX11_plunged := goodIn_r _ [12, 3, 13, 14, 18, 19, 20, 21, 22, 23, 24, 25, 26, 27, 28, 29, 30, 31, 32, 33, 34, 35, 36, 37, 38, 39, 40, 41, 42, 43, 44, 45, 46, 47, 48, 49, 50, 51, 52, 53, 54, 55, 56, 57, 58, 59, 60, 61, 62, 63, 64, 65, 66, 67, 68, 69, 70, 71, 72, 73, 74, 75] (by decide +kernel) (by decide +kernel)
set_option maxRecDepth 20000 in
theorem gX11_tellWays_X11_plunged : GoodIn wsX11_tellWays (wsV RX11 358 RX11 yX11_plunged wsX11_plunged) := goodIn_app (goodIn_of _ (by decide +kernel)) ggX11_tellWays_X11_plunged
set_option maxRecDepth 20000 in
theorem ggX11_tellWays_X11_isOf : GoodIn wsX11_tellWays wsX11_isOf := goodIn_r _ [17] (by decide +kernel) (by decide +kernel)
set_option maxRecDepth 20000 in
theorem gX11_tellWays_X11_isOf : GoodIn wsX11_tellWays (va_wsS RX11 334 yX11_isOf wsX11_isOf) := goodIn_app (goodIn_of _ (by decide +kernel)) ggX11_tellWays_X11_isOf
theorem dX11_tellWays_0 : decode cX11_tellWays 0 = .ok (.iconst 0, 1) := by decide +kernel
theorem dX11_tellWays_1 : decode cX11_tellWays 1 = .ok (.istore_n 2, 1) := by decide +kernel
theorem dX11_tellWays_2 : decode cX11_tellWays 2 = .ok (.iload_n 2, 1) := by decide +kernel
theorem dX11_tellWays_3 : decode cX11_tellWays 3 = .ok (.bipush 8, 2) := by decide +kernel
theorem dX11_tellWays_5 : decode cX11_tellWays 5 = .ok (.if_icmp .ge 26, 3) := by decide +kernel
theorem dX11_tellWays_8 : decode cX11_tellWays 8 = .ok (.aload_n 0, 1) := by decide +kernel
theorem dX11_tellWays_9 : decode cX11_tellWays 9 = .ok (.getfield 94, 3) := by decide +kernel
theorem dX11_tellWays_12 : decode cX11_tellWays 12 = .ok (.iload_n 2, 1) := by decide +kernel
theorem dX11_tellWays_13 : decode cX11_tellWays 13 = .ok (.iload_n 2, 1) := by decide +kernel
theorem dX11_tellWays_14 : decode cX11_tellWays 14 = .ok (.iload_n 1, 1) := by decide +kernel
theorem dX11_tellWays_15 : decode cX11_tellWays 15 = .ok (.if_icmp .ne 7, 3) := by decide +kernel
theorem dX11_tellWays_18 : decode cX11_tellWays 18 = .ok (.iconst 0, 1) := by decide +kernel
theorem dX11_tellWays_19 : decode cX11_tellWays 19 = .ok (.goto 5, 3) := by decide +kernel
theorem dX11_tellWays_22 : decode cX11_tellWays 22 = .ok (.ldc 178, 2) := by decide +kernel
theorem dX11_tellWays_24 : decode cX11_tellWays 24 = .ok (.iastore, 1) := by decide +kernel
theorem dX11_tellWays_25 : decode cX11_tellWays 25 = .ok (.iinc 2 1, 3) := by decide +kernel
theorem dX11_tellWays_28 : decode cX11_tellWays 28 = .ok (.goto (-26), 3) := by decide +kernel
theorem dX11_tellWays_31 : decode cX11_tellWays 31 = .ok (.iconst 0, 1) := by decide +kernel
theorem dX11_tellWays_32 : decode cX11_tellWays 32 = .ok (.istore_n 2, 1) := by decide +kernel
theorem dX11_tellWays_33 : decode cX11_tellWays 33 = .ok (.iload_n 2, 1) := by decide +kernel
theorem dX11_tellWays_34 : decode cX11_tellWays 34 = .ok (.aload_n 0, 1) := by decide +kernel
theorem dX11_tellWays_35 : decode cX11_tellWays 35 = .ok (.getfield 38, 3) := by decide +kernel
theorem dX11_tellWays_38 : decode cX11_tellWays 38 = .ok (.iconst 0, 1) := by decide +kernel
theorem dX11_tellWays_39 : decode cX11_tellWays 39 = .ok (.iaload, 1) := by decide +kernel
theorem dX11_tellWays_40 : decode cX11_tellWays 40 = .ok (.if_icmp .ge 90, 3) := by decide +kernel
theorem dX11_tellWays_43 : decode cX11_tellWays 43 = .ok (.iconst 0, 1) := by decide +kernel
theorem dX11_tellWays_44 : decode cX11_tellWays 44 = .ok (.istore_n 3, 1) := by decide +kernel
theorem dX11_tellWays_45 : decode cX11_tellWays 45 = .ok (.iload_n 3, 1) := by decide +kernel
theorem dX11_tellWays_46 : decode cX11_tellWays 46 = .ok (.aload_n 0, 1) := by decide +kernel
theorem dX11_tellWays_47 : decode cX11_tellWays 47 = .ok (.getfield 38, 3) := by decide +kernel
theorem dX11_tellWays_50 : decode cX11_tellWays 50 = .ok (.iconst 0, 1) := by decide +kernel
theorem dX11_tellWays_51 : decode cX11_tellWays 51 = .ok (.iaload, 1) := by decide +kernel
theorem dX11_tellWays_52 : decode cX11_tellWays 52 = .ok (.if_icmp .ge 72, 3) := by decide +kernel
theorem dX11_tellWays_55 : decode cX11_tellWays 55 = .ok (.iconst 0, 1) := by decide +kernel
theorem dX11_tellWays_56 : decode cX11_tellWays 56 = .ok (.istore 4, 2) := by decide +kernel
theorem dX11_tellWays_58 : decode cX11_tellWays 58 = .ok (.iload 4, 2) := by decide +kernel
theorem dX11_tellWays_60 : decode cX11_tellWays 60 = .ok (.aload_n 0, 1) := by decide +kernel
theorem dX11_tellWays_61 : decode cX11_tellWays 61 = .ok (.getfield 38, 3) := by decide +kernel
theorem dX11_tellWays_64 : decode cX11_tellWays 64 = .ok (.iconst 0, 1) := by decide +kernel
theorem dX11_tellWays_65 : decode cX11_tellWays 65 = .ok (.iaload, 1) := by decide +kernel
theorem dX11_tellWays_66 : decode cX11_tellWays 66 = .ok (.if_icmp .ge 52, 3) := by decide +kernel
theorem dX11_tellWays_69 : decode cX11_tellWays 69 = .ok (.aload_n 0, 1) := by decide +kernel
theorem dX11_tellWays_70 : decode cX11_tellWays 70 = .ok (.getfield 94, 3) := by decide +kernel
theorem dX11_tellWays_73 : decode cX11_tellWays 73 = .ok (.iload_n 3, 1) := by decide +kernel
theorem dX11_tellWays_74 : decode cX11_tellWays 74 = .ok (.iaload, 1) := by decide +kernel
theorem dX11_tellWays_75 : decode cX11_tellWays 75 = .ok (.iload_n 2, 1) := by decide +kernel
theorem dX11_tellWays_76 : decode cX11_tellWays 76 = .ok (.if_icmp .ne 42, 3) := by decide +kernel
theorem dX11_tellWays_79 : decode cX11_tellWays 79 = .ok (.aload_n 0, 1) := by decide +kernel
theorem dX11_tellWays_80 : decode cX11_tellWays 80 = .ok (.iload_n 3, 1) := by decide +kernel
theorem dX11_tellWays_81 : decode cX11_tellWays 81 = .ok (.invokevirtual 358, 3) := by decide +kernel
theorem dX11_tellWays_84 : decode cX11_tellWays 84 = .ok (.iload 4, 2) := by decide +kernel
theorem dX11_tellWays_86 : decode cX11_tellWays 86 = .ok (.invokestatic 334, 3) := by decide +kernel
theorem dX11_tellWays_89 : decode cX11_tellWays 89 = .ok (.ifCond .eq 23, 3) := by decide +kernel
theorem dX11_tellWays_92 : decode cX11_tellWays 92 = .ok (.aload_n 0, 1) := by decide +kernel
theorem dX11_tellWays_93 : decode cX11_tellWays 93 = .ok (.getfield 94, 3) := by decide +kernel
theorem dX11_tellWays_96 : decode cX11_tellWays 96 = .ok (.iload 4, 2) := by decide +kernel
theorem dX11_tellWays_98 : decode cX11_tellWays 98 = .ok (.aload_n 0, 1) := by decide +kernel
theorem dX11_tellWays_99 : decode cX11_tellWays 99 = .ok (.getfield 94, 3) := by decide +kernel
theorem dX11_tellWays_102 : decode cX11_tellWays 102 = .ok (.iload 4, 2) := by decide +kernel
theorem dX11_tellWays_104 : decode cX11_tellWays 104 = .ok (.iaload, 1) := by decide +kernel
theorem dX11_tellWays_105 : decode cX11_tellWays 105 = .ok (.iload_n 2, 1) := by decide +kernel
theorem dX11_tellWays_106 : decode cX11_tellWays 106 = .ok (.iconst 1, 1) := by decide +kernel
theorem dX11_tellWays_107 : decode cX11_tellWays 107 = .ok (.iadd, 1) := by decide +kernel
theorem dX11_tellWays_108 : decode cX11_tellWays 108 = .ok (.invokestatic 179, 3) := by decide +kernel
theorem dX11_tellWays_111 : decode cX11_tellWays 111 = .ok (.iastore, 1) := by decide +kernel
theorem dX11_tellWays_112 : decode cX11_tellWays 112 = .ok (.iinc 4 1, 3) := by decide +kernel
theorem dX11_tellWays_115 : decode cX11_tellWays 115 = .ok (.goto (-57), 3) := by decide +kernel
theorem dX11_tellWays_118 : decode cX11_tellWays 118 = .ok (.iinc 3 1, 3) := by decide +kernel
theorem dX11_tellWays_121 : decode cX11_tellWays 121 = .ok (.goto (-76), 3) := by decide +kernel
theorem dX11_tellWays_124 : decode cX11_tellWays 124 = .ok (.iinc 2 1, 3) := by decide +kernel
theorem dX11_tellWays_127 : decode cX11_tellWays 127 = .ok (.goto (-94), 3) := by decide +kernel
theorem dX11_tellWays_130 : decode cX11_tellWays 130 = .ok (.return_, 1) := by decide +kernel
set_option maxRecDepth 20000 in
theorem ggX11_groups_X11_tellWays : GoodIn wsX11_groups wsX11_tellWays := goodIn_r _ [8, 2, 3, 1, 9, 10, 11, 12, 13, 14, 15, 7, 16, 17, 18, 19, 20, 21, 22, 23, 24, 25, 26, 27, 28, 29, 30, 31, 32, 33, 34, 35, 36, 37, 38, 39, 40, 41, 42, 43, 44, 45, 46, 47, 48, 49, 50, 51, 52, 53, 54, 55, 56, 57, 58, 59, 60, 61, 62, 63, 64, 65, 66, 67, 68, 69, 70, 71, 72, 73, 74, 75, 76, 77, 78, 79] (by decide +kernel) (by decide +kernel)
set_option maxRecDepth 20000 in
theorem gX11_groups_X11_tellWays : GoodIn wsX11_groups (wsV RX11 361 RX11 yX11_tellWays wsX11_tellWays) := goodIn_app (goodIn_of _ (by decide +kernel)) ggX11_groups_X11_tellWays
theorem dX11_groups_0 : decode cX11_groups 0 = .ok (.iconst 0, 1) := by decide +kernel
theorem dX11_groups_1 : decode cX11_groups 1 = .ok (.istore_n 1, 1) := by decide +kernel
theorem dX11_groups_2 : decode cX11_groups 2 = .ok (.iconst 0, 1) := by decide +kernel
theorem dX11_groups_3 : decode cX11_groups 3 = .ok (.istore_n 2, 1) := by decide +kernel
theorem dX11_groups_4 : decode cX11_groups 4 = .ok (.iload_n 2, 1) := by decide +kernel
theorem dX11_groups_5 : decode cX11_groups 5 = .ok (.aload_n 0, 1) := by decide +kernel
theorem dX11_groups_6 : decode cX11_groups 6 = .ok (.getfield 38, 3) := by decide +kernel
theorem dX11_groups_9 : decode cX11_groups 9 = .ok (.iconst 0, 1) := by decide +kernel
theorem dX11_groups_10 : decode cX11_groups 10 = .ok (.iaload, 1) := by decide +kernel
theorem dX11_groups_11 : decode cX11_groups 11 = .ok (.if_icmp .ge 65, 3) := by decide +kernel
theorem dX11_groups_14 : decode cX11_groups 14 = .ok (.aload_n 0, 1) := by decide +kernel
theorem dX11_groups_15 : decode cX11_groups 15 = .ok (.iload_n 2, 1) := by decide +kernel
theorem dX11_groups_16 : decode cX11_groups 16 = .ok (.invokevirtual 361, 3) := by decide +kernel
theorem dX11_groups_19 : decode cX11_groups 19 = .ok (.iconst 1, 1) := by decide +kernel
theorem dX11_groups_20 : decode cX11_groups 20 = .ok (.istore_n 3, 1) := by decide +kernel
theorem dX11_groups_21 : decode cX11_groups 21 = .ok (.iconst 0, 1) := by decide +kernel
theorem dX11_groups_22 : decode cX11_groups 22 = .ok (.istore 4, 2) := by decide +kernel
theorem dX11_groups_24 : decode cX11_groups 24 = .ok (.iload 4, 2) := by decide +kernel
theorem dX11_groups_26 : decode cX11_groups 26 = .ok (.iload_n 2, 1) := by decide +kernel
theorem dX11_groups_27 : decode cX11_groups 27 = .ok (.if_icmp .ge 31, 3) := by decide +kernel
theorem dX11_groups_30 : decode cX11_groups 30 = .ok (.iload_n 3, 1) := by decide +kernel
theorem dX11_groups_31 : decode cX11_groups 31 = .ok (.ifCond .eq 19, 3) := by decide +kernel
theorem dX11_groups_34 : decode cX11_groups 34 = .ok (.aload_n 0, 1) := by decide +kernel
theorem dX11_groups_35 : decode cX11_groups 35 = .ok (.getfield 94, 3) := by decide +kernel
theorem dX11_groups_38 : decode cX11_groups 38 = .ok (.iload 4, 2) := by decide +kernel
theorem dX11_groups_40 : decode cX11_groups 40 = .ok (.iaload, 1) := by decide +kernel
theorem dX11_groups_41 : decode cX11_groups 41 = .ok (.ldc 178, 2) := by decide +kernel
theorem dX11_groups_43 : decode cX11_groups 43 = .ok (.if_icmp .ne 7, 3) := by decide +kernel
theorem dX11_groups_46 : decode cX11_groups 46 = .ok (.iconst 1, 1) := by decide +kernel
theorem dX11_groups_47 : decode cX11_groups 47 = .ok (.goto 4, 3) := by decide +kernel
theorem dX11_groups_50 : decode cX11_groups 50 = .ok (.iconst 0, 1) := by decide +kernel
theorem dX11_groups_51 : decode cX11_groups 51 = .ok (.istore_n 3, 1) := by decide +kernel
theorem dX11_groups_52 : decode cX11_groups 52 = .ok (.iinc 4 1, 3) := by decide +kernel
theorem dX11_groups_55 : decode cX11_groups 55 = .ok (.goto (-31), 3) := by decide +kernel
theorem dX11_groups_58 : decode cX11_groups 58 = .ok (.iload_n 1, 1) := by decide +kernel
theorem dX11_groups_59 : decode cX11_groups 59 = .ok (.iload_n 3, 1) := by decide +kernel
theorem dX11_groups_60 : decode cX11_groups 60 = .ok (.ifCond .eq 7, 3) := by decide +kernel
theorem dX11_groups_63 : decode cX11_groups 63 = .ok (.iconst 1, 1) := by decide +kernel
theorem dX11_groups_64 : decode cX11_groups 64 = .ok (.goto 4, 3) := by decide +kernel
theorem dX11_groups_67 : decode cX11_groups 67 = .ok (.iconst 0, 1) := by decide +kernel
theorem dX11_groups_68 : decode cX11_groups 68 = .ok (.iadd, 1) := by decide +kernel
theorem dX11_groups_69 : decode cX11_groups 69 = .ok (.istore_n 1, 1) := by decide +kernel
theorem dX11_groups_70 : decode cX11_groups 70 = .ok (.iinc 2 1, 3) := by decide +kernel
theorem dX11_groups_73 : decode cX11_groups 73 = .ok (.goto (-69), 3) := by decide +kernel
theorem dX11_groups_76 : decode cX11_groups 76 = .ok (.iload_n 1, 1) := by decide +kernel
theorem dX11_groups_77 : decode cX11_groups 77 = .ok (.ireturn, 1) := by decide +kernel
set_option maxRecDepth 20000 in
theorem ggX11_awakeNow_X11_isAwake : GoodIn wsX11_awakeNow wsX11_isAwake := goodIn_r _ [7, 8, 9, 10, 11, 12, 13, 14, 15, 16, 17, 18, 19, 20, 21, 22, 23, 24, 25, 26, 27, 28, 29, 30, 31, 32, 33, 34, 35, 36, 37, 38, 39, 40, 41, 42, 43, 44, 45, 46, 47, 48, 49, 50, 51, 52, 53, 54, 55, 56, 57, 58, 59, 60, 61, 62, 63, 64, 65, 66, 67] (by decide +kernel) (by decide +kernel)
set_option maxRecDepth 20000 in
theorem gX11_awakeNow_X11_isAwake : GoodIn wsX11_awakeNow (wsV RX11 316 RX11 yX11_isAwake wsX11_isAwake) := goodIn_app (goodIn_of _ (by decide +kernel)) ggX11_awakeNow_X11_isAwake
theorem dX11_awakeNow_0 : decode cX11_awakeNow 0 = .ok (.iconst 0, 1) := by decide +kernel
theorem dX11_awakeNow_1 : decode cX11_awakeNow 1 = .ok (.istore_n 1, 1) := by decide +kernel
theorem dX11_awakeNow_2 : decode cX11_awakeNow 2 = .ok (.iconst 0, 1) := by decide +kernel
theorem dX11_awakeNow_3 : decode cX11_awakeNow 3 = .ok (.istore_n 2, 1) := by decide +kernel
theorem dX11_awakeNow_4 : decode cX11_awakeNow 4 = .ok (.iload_n 2, 1) := by decide +kernel
theorem dX11_awakeNow_5 : decode cX11_awakeNow 5 = .ok (.aload_n 0, 1) := by decide +kernel
theorem dX11_awakeNow_6 : decode cX11_awakeNow 6 = .ok (.getfield 38, 3) := by decide +kernel
theorem dX11_awakeNow_9 : decode cX11_awakeNow 9 = .ok (.iconst 0, 1) := by decide +kernel
theorem dX11_awakeNow_10 : decode cX11_awakeNow 10 = .ok (.iaload, 1) := by decide +kernel
theorem dX11_awakeNow_11 : decode cX11_awakeNow 11 = .ok (.if_icmp .ge 34, 3) := by decide +kernel
theorem dX11_awakeNow_14 : decode cX11_awakeNow 14 = .ok (.iload_n 1, 1) := by decide +kernel
theorem dX11_awakeNow_15 : decode cX11_awakeNow 15 = .ok (.aload_n 0, 1) := by decide +kernel
theorem dX11_awakeNow_16 : decode cX11_awakeNow 16 = .ok (.iload_n 2, 1) := by decide +kernel
theorem dX11_awakeNow_17 : decode cX11_awakeNow 17 = .ok (.aload_n 0, 1) := by decide +kernel
theorem dX11_awakeNow_18 : decode cX11_awakeNow 18 = .ok (.getfield 294, 3) := by decide +kernel
theorem dX11_awakeNow_21 : decode cX11_awakeNow 21 = .ok (.bipush 24, 2) := by decide +kernel
theorem dX11_awakeNow_23 : decode cX11_awakeNow 23 = .ok (.irem, 1) := by decide +kernel
theorem dX11_awakeNow_24 : decode cX11_awakeNow 24 = .ok (.invokevirtual 316, 3) := by decide +kernel
theorem dX11_awakeNow_27 : decode cX11_awakeNow 27 = .ok (.ifCond .eq 9, 3) := by decide +kernel
theorem dX11_awakeNow_30 : decode cX11_awakeNow 30 = .ok (.iconst 1, 1) := by decide +kernel
theorem dX11_awakeNow_31 : decode cX11_awakeNow 31 = .ok (.iload_n 2, 1) := by decide +kernel
theorem dX11_awakeNow_32 : decode cX11_awakeNow 32 = .ok (.ishl, 1) := by decide +kernel
theorem dX11_awakeNow_33 : decode cX11_awakeNow 33 = .ok (.goto 4, 3) := by decide +kernel
theorem dX11_awakeNow_36 : decode cX11_awakeNow 36 = .ok (.iconst 0, 1) := by decide +kernel
theorem dX11_awakeNow_37 : decode cX11_awakeNow 37 = .ok (.ior, 1) := by decide +kernel
theorem dX11_awakeNow_38 : decode cX11_awakeNow 38 = .ok (.istore_n 1, 1) := by decide +kernel
theorem dX11_awakeNow_39 : decode cX11_awakeNow 39 = .ok (.iinc 2 1, 3) := by decide +kernel
theorem dX11_awakeNow_42 : decode cX11_awakeNow 42 = .ok (.goto (-38), 3) := by decide +kernel
theorem dX11_awakeNow_45 : decode cX11_awakeNow 45 = .ok (.iload_n 1, 1) := by decide +kernel
theorem dX11_awakeNow_46 : decode cX11_awakeNow 46 = .ok (.ireturn, 1) := by decide +kernel
theorem dX11_allOil_0 : decode cX11_allOil 0 = .ok (.iconst 0, 1) := by decide +kernel
theorem dX11_allOil_1 : decode cX11_allOil 1 = .ok (.istore_n 1, 1) := by decide +kernel
theorem dX11_allOil_2 : decode cX11_allOil 2 = .ok (.iconst 0, 1) := by decide +kernel
theorem dX11_allOil_3 : decode cX11_allOil 3 = .ok (.istore_n 2, 1) := by decide +kernel
theorem dX11_allOil_4 : decode cX11_allOil 4 = .ok (.iload_n 2, 1) := by decide +kernel
theorem dX11_allOil_5 : decode cX11_allOil 5 = .ok (.aload_n 0, 1) := by decide +kernel
theorem dX11_allOil_6 : decode cX11_allOil 6 = .ok (.getfield 38, 3) := by decide +kernel
theorem dX11_allOil_9 : decode cX11_allOil 9 = .ok (.iconst 1, 1) := by decide +kernel
theorem dX11_allOil_10 : decode cX11_allOil 10 = .ok (.iaload, 1) := by decide +kernel
theorem dX11_allOil_11 : decode cX11_allOil 11 = .ok (.if_icmp .ge 18, 3) := by decide +kernel
theorem dX11_allOil_14 : decode cX11_allOil 14 = .ok (.iload_n 1, 1) := by decide +kernel
theorem dX11_allOil_15 : decode cX11_allOil 15 = .ok (.aload_n 0, 1) := by decide +kernel
theorem dX11_allOil_16 : decode cX11_allOil 16 = .ok (.getfield 72, 3) := by decide +kernel
theorem dX11_allOil_19 : decode cX11_allOil 19 = .ok (.iload_n 2, 1) := by decide +kernel
theorem dX11_allOil_20 : decode cX11_allOil 20 = .ok (.iaload, 1) := by decide +kernel
theorem dX11_allOil_21 : decode cX11_allOil 21 = .ok (.iadd, 1) := by decide +kernel
theorem dX11_allOil_22 : decode cX11_allOil 22 = .ok (.istore_n 1, 1) := by decide +kernel
theorem dX11_allOil_23 : decode cX11_allOil 23 = .ok (.iinc 2 1, 3) := by decide +kernel
theorem dX11_allOil_26 : decode cX11_allOil 26 = .ok (.goto (-22), 3) := by decide +kernel
theorem dX11_allOil_29 : decode cX11_allOil 29 = .ok (.iload_n 1, 1) := by decide +kernel
theorem dX11_allOil_30 : decode cX11_allOil 30 = .ok (.ireturn, 1) := by decide +kernel
set_option maxRecDepth 20000 in
theorem ggX11_count_X11_allOil : GoodIn wsX11_count wsX11_allOil := goodIn_r _ [14, 2, 15, 61, 62, 63, 64, 65, 66, 67, 68, 69, 70, 71, 72, 73, 74, 75, 76, 77, 78, 79, 80, 81, 82, 83, 84, 85, 86, 87, 88, 89, 90, 91, 92, 93, 94, 95, 96, 97, 98, 99, 100, 101, 102, 103, 104, 105, 106, 107, 108, 109, 110, 111, 112, 113, 114, 115, 116, 117, 118] (by decide +kernel) (by decide +kernel)
set_option maxRecDepth 20000 in
theorem gX11_count_X11_allOil : GoodIn wsX11_count (wsV RX11 364 RX11 yX11_allOil wsX11_allOil) := goodIn_app (goodIn_of _ (by decide +kernel)) ggX11_count_X11_allOil
set_option maxRecDepth 20000 in
theorem ggX11_count_X11_alone : GoodIn wsX11_count wsX11_alone := goodIn_r _ [19, 2, 20, 61, 62, 63, 64, 65, 66, 67, 68, 69, 70, 71, 72, 73, 74, 75, 76, 77, 78, 79, 80, 81, 82, 83, 84, 85, 86, 87, 88, 89, 90, 91, 92, 93, 94, 95, 96, 97, 98, 99, 100, 101, 102, 103, 104, 105, 106, 107, 108, 109, 110, 111, 112, 113, 114, 115, 116, 117, 118] (by decide +kernel) (by decide +kernel)
set_option maxRecDepth 20000 in
theorem gX11_count_X11_alone : GoodIn wsX11_count (wsV RX11 367 RX11 yX11_alone wsX11_alone) := goodIn_app (goodIn_of _ (by decide +kernel)) ggX11_count_X11_alone
set_option maxRecDepth 20000 in
theorem ggX11_count_X11_happy : GoodIn wsX11_count wsX11_happy := goodIn_r _ [24, 2, 20, 25, 61, 62, 63, 64, 65, 66, 67, 68, 69, 70, 71, 72, 73, 74, 75, 76, 77, 78, 79, 80, 81, 82, 83, 84, 85, 86, 87, 88, 89, 90, 91, 92, 93, 94, 95, 96, 97, 98, 99, 100, 101, 102, 103, 104, 105, 106, 107, 108, 109, 110, 111, 112, 113, 114, 115, 116, 117, 118] (by decide +kernel) (by decide +kernel)
set_option maxRecDepth 20000 in
theorem gX11_count_X11_happy : GoodIn wsX11_count (wsV RX11 370 RX11 yX11_happy wsX11_happy) := goodIn_app (goodIn_of _ (by decide +kernel)) ggX11_count_X11_happy
set_option maxRecDepth 20000 in
theorem ggX11_count_X11_groups : GoodIn wsX11_count wsX11_groups := goodIn_r _ [29, 2, 30, 31, 32, 33, 34, 13, 35, 36, 37, 38, 39, 40, 41, 42, 43, 25, 20, 44, 45, 46, 61, 62, 63, 64, 65, 66, 67, 68, 69, 70, 71, 72, 73, 74, 75, 76, 77, 78, 79, 80, 81, 82, 83, 84, 85, 86, 87, 88, 89, 90, 91, 92, 93, 94, 95, 96, 97, 98, 99, 100, 101, 102, 103, 104, 105, 106, 107, 108, 109, 110, 111, 112, 113, 114, 115, 116, 117, 118] (by decide +kernel) (by decide +kernel)
set_option maxRecDepth 20000 in
theorem gX11_count_X11_groups : GoodIn wsX11_count (wsV RX11 373 RX11 yX11_groups wsX11_groups) := goodIn_app (goodIn_of _ (by decide +kernel)) ggX11_count_X11_groups
set_option maxRecDepth 20000 in
theorem ggX11_count_X11_awakeNow : GoodIn wsX11_count wsX11_awakeNow := goodIn_r _ [50, 2, 3, 51, 52, 53, 13, 54, 55, 56, 61, 62, 63, 64, 65, 66, 67, 68, 69, 70, 71, 72, 73, 74, 75, 76, 77, 78, 79, 80, 81, 82, 83, 84, 85, 86, 87, 88, 89, 90, 91, 92, 93, 94, 95, 96, 97, 98, 99, 100, 101, 102, 103, 104, 105, 106, 107, 108, 109, 110, 111, 112, 113, 114, 115, 116, 117, 118] (by decide +kernel) (by decide +kernel)
set_option maxRecDepth 20000 in
theorem gX11_count_X11_awakeNow : GoodIn wsX11_count (wsV RX11 376 RX11 yX11_awakeNow wsX11_awakeNow) := goodIn_app (goodIn_of _ (by decide +kernel)) ggX11_count_X11_awakeNow
set_option maxRecDepth 20000 in
theorem ggX11_count_X11_fail : GoodIn wsX11_count wsX11_fail := goodIn_r _ [60, 1, 61, 62, 63, 64, 65, 66, 67, 68, 69, 70, 71, 72, 73, 74, 75, 76, 77, 78, 79, 80, 81, 82, 83, 84, 85, 86, 87, 88, 89, 90, 91, 92, 93, 94, 95, 96, 97, 98, 99, 100, 101, 102, 103, 104, 105, 106, 107, 108, 109, 110, 111, 112, 113, 114, 115, 116, 117, 118] (by decide +kernel) (by decide +kernel)
set_option maxRecDepth 20000 in
theorem gX11_count_X11_fail : GoodIn wsX11_count (wsV RX11 281 RX11 yX11_fail wsX11_fail) := goodIn_app (goodIn_of _ (by decide +kernel)) ggX11_count_X11_fail
theorem dX11_count_0 : decode cX11_count 0 = .ok (.aload_n 0, 1) := by decide +kernel
theorem dX11_count_1 : decode cX11_count 1 = .ok (.iconst 0, 1) := by decide +kernel
theorem dX11_count_2 : decode cX11_count 2 = .ok (.putfield 142, 3) := by decide +kernel
theorem dX11_count_5 : decode cX11_count 5 = .ok (.iload_n 1, 1) := by decide +kernel
theorem dX11_count_6 : decode cX11_count 6 = .ok (.tableswitch 154 0 16 #[82, 82, 82, 89, 94, 99, 104, 109, 114, 119, 124, 129, 134, 139, 144, 144, 144], 82) := by decide +kernel
theorem dX11_count_88 : decode cX11_count 88 = .ok (.aload_n 0, 1) := by decide +kernel
theorem dX11_count_89 : decode cX11_count 89 = .ok (.getfield 38, 3) := by decide +kernel
theorem dX11_count_92 : decode cX11_count 92 = .ok (.iload_n 1, 1) := by decide +kernel
theorem dX11_count_93 : decode cX11_count 93 = .ok (.iaload, 1) := by decide +kernel
theorem dX11_count_94 : decode cX11_count 94 = .ok (.ireturn, 1) := by decide +kernel
theorem dX11_count_95 : decode cX11_count 95 = .ok (.aload_n 0, 1) := by decide +kernel
theorem dX11_count_96 : decode cX11_count 96 = .ok (.getfield 294, 3) := by decide +kernel
theorem dX11_count_99 : decode cX11_count 99 = .ok (.ireturn, 1) := by decide +kernel
theorem dX11_count_100 : decode cX11_count 100 = .ok (.aload_n 0, 1) := by decide +kernel
theorem dX11_count_101 : decode cX11_count 101 = .ok (.getfield 296, 3) := by decide +kernel
theorem dX11_count_104 : decode cX11_count 104 = .ok (.ireturn, 1) := by decide +kernel
theorem dX11_count_105 : decode cX11_count 105 = .ok (.aload_n 0, 1) := by decide +kernel
theorem dX11_count_106 : decode cX11_count 106 = .ok (.getfield 299, 3) := by decide +kernel
theorem dX11_count_109 : decode cX11_count 109 = .ok (.ireturn, 1) := by decide +kernel
theorem dX11_count_110 : decode cX11_count 110 = .ok (.aload_n 0, 1) := by decide +kernel
theorem dX11_count_111 : decode cX11_count 111 = .ok (.invokevirtual 364, 3) := by decide +kernel
theorem dX11_count_114 : decode cX11_count 114 = .ok (.ireturn, 1) := by decide +kernel
theorem dX11_count_115 : decode cX11_count 115 = .ok (.aload_n 0, 1) := by decide +kernel
theorem dX11_count_116 : decode cX11_count 116 = .ok (.invokevirtual 367, 3) := by decide +kernel
theorem dX11_count_119 : decode cX11_count 119 = .ok (.ireturn, 1) := by decide +kernel
theorem dX11_count_120 : decode cX11_count 120 = .ok (.aload_n 0, 1) := by decide +kernel
theorem dX11_count_121 : decode cX11_count 121 = .ok (.invokevirtual 370, 3) := by decide +kernel
theorem dX11_count_124 : decode cX11_count 124 = .ok (.ireturn, 1) := by decide +kernel
theorem dX11_count_125 : decode cX11_count 125 = .ok (.aload_n 0, 1) := by decide +kernel
theorem dX11_count_126 : decode cX11_count 126 = .ok (.invokevirtual 373, 3) := by decide +kernel
theorem dX11_count_129 : decode cX11_count 129 = .ok (.ireturn, 1) := by decide +kernel
theorem dX11_count_130 : decode cX11_count 130 = .ok (.aload_n 0, 1) := by decide +kernel
theorem dX11_count_131 : decode cX11_count 131 = .ok (.invokevirtual 376, 3) := by decide +kernel
theorem dX11_count_134 : decode cX11_count 134 = .ok (.ireturn, 1) := by decide +kernel
theorem dX11_count_135 : decode cX11_count 135 = .ok (.aload_n 0, 1) := by decide +kernel
theorem dX11_count_136 : decode cX11_count 136 = .ok (.getfield 302, 3) := by decide +kernel
theorem dX11_count_139 : decode cX11_count 139 = .ok (.ireturn, 1) := by decide +kernel
theorem dX11_count_140 : decode cX11_count 140 = .ok (.aload_n 0, 1) := by decide +kernel
theorem dX11_count_141 : decode cX11_count 141 = .ok (.getfield 305, 3) := by decide +kernel
theorem dX11_count_144 : decode cX11_count 144 = .ok (.ireturn, 1) := by decide +kernel
theorem dX11_count_145 : decode cX11_count 145 = .ok (.aload_n 0, 1) := by decide +kernel
theorem dX11_count_146 : decode cX11_count 146 = .ok (.getfield 149, 3) := by decide +kernel
theorem dX11_count_149 : decode cX11_count 149 = .ok (.ireturn, 1) := by decide +kernel
theorem dX11_count_150 : decode cX11_count 150 = .ok (.aload_n 0, 1) := by decide +kernel
theorem dX11_count_151 : decode cX11_count 151 = .ok (.getfield 62, 3) := by decide +kernel
theorem dX11_count_154 : decode cX11_count 154 = .ok (.iload_n 1, 1) := by decide +kernel
theorem dX11_count_155 : decode cX11_count 155 = .ok (.bipush 14, 2) := by decide +kernel
theorem dX11_count_157 : decode cX11_count 157 = .ok (.isub, 1) := by decide +kernel
theorem dX11_count_158 : decode cX11_count 158 = .ok (.iaload, 1) := by decide +kernel
theorem dX11_count_159 : decode cX11_count 159 = .ok (.ireturn, 1) := by decide +kernel
theorem dX11_count_160 : decode cX11_count 160 = .ok (.aload_n 0, 1) := by decide +kernel
theorem dX11_count_161 : decode cX11_count 161 = .ok (.iconst 1, 1) := by decide +kernel
theorem dX11_count_162 : decode cX11_count 162 = .ok (.invokevirtual 281, 3) := by decide +kernel
theorem dX11_count_165 : decode cX11_count 165 = .ok (.ireturn, 1) := by decide +kernel
set_option maxRecDepth 20000 in
theorem ggX11_house_X11_isHouse : GoodIn wsX11_house wsX11_isHouse := goodIn_r _ [10, 11, 12, 13, 9, 14, 29, 30, 31, 32, 33, 34, 35, 36, 37, 38, 39, 40, 41, 42, 43, 44, 45, 46, 47, 48, 49, 50, 51, 52, 53, 54, 55, 56, 57, 58, 59, 60, 61, 62, 63, 64, 65, 66, 67, 68, 69, 70, 71, 72, 73, 74, 75, 76, 77, 78, 79, 80, 81, 82, 83, 84, 85, 86] (by decide +kernel) (by decide +kernel)
set_option maxRecDepth 20000 in
theorem gX11_house_X11_isHouse : GoodIn wsX11_house (wsV RX11 379 RX11 yX11_isHouse wsX11_isHouse) := goodIn_app (goodIn_of _ (by decide +kernel)) ggX11_house_X11_isHouse
set_option maxRecDepth 20000 in
theorem ggX11_house_X11_isIn : GoodIn wsX11_house wsX11_isIn := goodIn_r _ [14] (by decide +kernel) (by decide +kernel)
set_option maxRecDepth 20000 in
theorem gX11_house_X11_isIn : GoodIn wsX11_house (va_wsS RX11 145 yX11_isIn wsX11_isIn) := goodIn_app (goodIn_of _ (by decide +kernel)) ggX11_house_X11_isIn
set_option maxRecDepth 20000 in
theorem ggX11_house_X11_fail : GoodIn wsX11_house wsX11_fail := goodIn_r _ [18, 1, 29, 30, 31, 32, 33, 34, 35, 36, 37, 38, 39, 40, 41, 42, 43, 44, 45, 46, 47, 48, 49, 50, 51, 52, 53, 54, 55, 56, 57, 58, 59, 60, 61, 62, 63, 64, 65, 66, 67, 68, 69, 70, 71, 72, 73, 74, 75, 76, 77, 78, 79, 80, 81, 82, 83, 84, 85, 86] (by decide +kernel) (by decide +kernel)
set_option maxRecDepth 20000 in
theorem gX11_house_X11_fail : GoodIn wsX11_house (wsV RX11 281 RX11 yX11_fail wsX11_fail) := goodIn_app (goodIn_of _ (by decide +kernel)) ggX11_house_X11_fail
set_option maxRecDepth 20000 in
theorem ggX11_house_X11_lampsOf : GoodIn wsX11_house wsX11_lampsOf := goodIn_r _ [22, 11, 23, 29, 30, 31, 32, 33, 34, 35, 36, 37, 38, 39, 40, 41, 42, 43, 44, 45, 46, 47, 48, 49, 50, 51, 52, 53, 54, 55, 56, 57, 58, 59, 60, 61, 62, 63, 64, 65, 66, 67, 68, 69, 70, 71, 72, 73, 74, 75, 76, 77, 78, 79, 80, 81, 82, 83, 84, 85, 86] (by decide +kernel) (by decide +kernel)
set_option maxRecDepth 20000 in
theorem gX11_house_X11_lampsOf : GoodIn wsX11_house (wsV RX11 322 RX11 yX11_lampsOf wsX11_lampsOf) := goodIn_app (goodIn_of _ (by decide +kernel)) ggX11_house_X11_lampsOf
set_option maxRecDepth 20000 in
theorem ggX11_house_X11_plunged : GoodIn wsX11_house wsX11_plunged := goodIn_r _ [27, 11, 23, 28, 29, 30, 31, 32, 33, 34, 35, 36, 37, 38, 39, 40, 41, 42, 43, 44, 45, 46, 47, 48, 49, 50, 51, 52, 53, 54, 55, 56, 57, 58, 59, 60, 61, 62, 63, 64, 65, 66, 67, 68, 69, 70, 71, 72, 73, 74, 75, 76, 77, 78, 79, 80, 81, 82, 83, 84, 85, 86] (by decide +kernel) (by decide +kernel)
set_option maxRecDepth 20000 in
theorem gX11_house_X11_plunged : GoodIn wsX11_house (wsV RX11 358 RX11 yX11_plunged wsX11_plunged) := goodIn_app (goodIn_of _ (by decide +kernel)) ggX11_house_X11_plunged
theorem dX11_house_0 : decode cX11_house 0 = .ok (.aload_n 0, 1) := by decide +kernel
theorem dX11_house_1 : decode cX11_house 1 = .ok (.iconst 0, 1) := by decide +kernel
theorem dX11_house_2 : decode cX11_house 2 = .ok (.putfield 142, 3) := by decide +kernel
theorem dX11_house_5 : decode cX11_house 5 = .ok (.aload_n 0, 1) := by decide +kernel
theorem dX11_house_6 : decode cX11_house 6 = .ok (.iload_n 1, 1) := by decide +kernel
theorem dX11_house_7 : decode cX11_house 7 = .ok (.invokevirtual 379, 3) := by decide +kernel
theorem dX11_house_10 : decode cX11_house 10 = .ok (.ifCond .eq 15, 3) := by decide +kernel
theorem dX11_house_13 : decode cX11_house 13 = .ok (.iload_n 2, 1) := by decide +kernel
theorem dX11_house_14 : decode cX11_house 14 = .ok (.i2l, 1) := by decide +kernel
theorem dX11_house_15 : decode cX11_house 15 = .ok (.lconst 0, 1) := by decide +kernel
theorem dX11_house_16 : decode cX11_house 16 = .ok (.ldc2_w 382, 3) := by decide +kernel
theorem dX11_house_19 : decode cX11_house 19 = .ok (.invokestatic 145, 3) := by decide +kernel
theorem dX11_house_22 : decode cX11_house 22 = .ok (.ifCond .ne 9, 3) := by decide +kernel
theorem dX11_house_25 : decode cX11_house 25 = .ok (.aload_n 0, 1) := by decide +kernel
theorem dX11_house_26 : decode cX11_house 26 = .ok (.iconst 1, 1) := by decide +kernel
theorem dX11_house_27 : decode cX11_house 27 = .ok (.invokevirtual 281, 3) := by decide +kernel
theorem dX11_house_30 : decode cX11_house 30 = .ok (.ireturn, 1) := by decide +kernel
theorem dX11_house_31 : decode cX11_house 31 = .ok (.iload_n 2, 1) := by decide +kernel
theorem dX11_house_32 : decode cX11_house 32 = .ok (.ifCond .ne 12, 3) := by decide +kernel
theorem dX11_house_35 : decode cX11_house 35 = .ok (.aload_n 0, 1) := by decide +kernel
theorem dX11_house_36 : decode cX11_house 36 = .ok (.getfield 42, 3) := by decide +kernel
theorem dX11_house_39 : decode cX11_house 39 = .ok (.iload_n 1, 1) := by decide +kernel
theorem dX11_house_40 : decode cX11_house 40 = .ok (.iaload, 1) := by decide +kernel
theorem dX11_house_41 : decode cX11_house 41 = .ok (.goto 49, 3) := by decide +kernel
theorem dX11_house_44 : decode cX11_house 44 = .ok (.iload_n 2, 1) := by decide +kernel
theorem dX11_house_45 : decode cX11_house 45 = .ok (.iconst 1, 1) := by decide +kernel
theorem dX11_house_46 : decode cX11_house 46 = .ok (.if_icmp .ne 12, 3) := by decide +kernel
theorem dX11_house_49 : decode cX11_house 49 = .ok (.aload_n 0, 1) := by decide +kernel
theorem dX11_house_50 : decode cX11_house 50 = .ok (.getfield 76, 3) := by decide +kernel
theorem dX11_house_53 : decode cX11_house 53 = .ok (.iload_n 1, 1) := by decide +kernel
theorem dX11_house_54 : decode cX11_house 54 = .ok (.iaload, 1) := by decide +kernel
theorem dX11_house_55 : decode cX11_house 55 = .ok (.goto 35, 3) := by decide +kernel
theorem dX11_house_58 : decode cX11_house 58 = .ok (.iload_n 2, 1) := by decide +kernel
theorem dX11_house_59 : decode cX11_house 59 = .ok (.iconst 2, 1) := by decide +kernel
theorem dX11_house_60 : decode cX11_house 60 = .ok (.if_icmp .ne 12, 3) := by decide +kernel
theorem dX11_house_63 : decode cX11_house 63 = .ok (.aload_n 0, 1) := by decide +kernel
theorem dX11_house_64 : decode cX11_house 64 = .ok (.getfield 79, 3) := by decide +kernel
theorem dX11_house_67 : decode cX11_house 67 = .ok (.iload_n 1, 1) := by decide +kernel
theorem dX11_house_68 : decode cX11_house 68 = .ok (.iaload, 1) := by decide +kernel
theorem dX11_house_69 : decode cX11_house 69 = .ok (.goto 21, 3) := by decide +kernel
theorem dX11_house_72 : decode cX11_house 72 = .ok (.iload_n 2, 1) := by decide +kernel
theorem dX11_house_73 : decode cX11_house 73 = .ok (.iconst 3, 1) := by decide +kernel
theorem dX11_house_74 : decode cX11_house 74 = .ok (.if_icmp .ne 11, 3) := by decide +kernel
theorem dX11_house_77 : decode cX11_house 77 = .ok (.aload_n 0, 1) := by decide +kernel
theorem dX11_house_78 : decode cX11_house 78 = .ok (.iload_n 1, 1) := by decide +kernel
theorem dX11_house_79 : decode cX11_house 79 = .ok (.invokevirtual 322, 3) := by decide +kernel
theorem dX11_house_82 : decode cX11_house 82 = .ok (.goto 8, 3) := by decide +kernel
theorem dX11_house_85 : decode cX11_house 85 = .ok (.aload_n 0, 1) := by decide +kernel
theorem dX11_house_86 : decode cX11_house 86 = .ok (.iload_n 1, 1) := by decide +kernel
theorem dX11_house_87 : decode cX11_house 87 = .ok (.invokevirtual 358, 3) := by decide +kernel
theorem dX11_house_90 : decode cX11_house 90 = .ok (.ireturn, 1) := by decide +kernel
set_option maxRecDepth 20000 in
theorem ggX11_hoursOf_X11_wants : GoodIn wsX11_hoursOf wsX11_wants := goodIn_r _ [5, 6, 7, 8, 9, 10, 11, 12, 13, 4, 14, 15, 16, 17, 18, 19, 20, 21, 22, 23, 24, 25, 26, 27, 28, 29, 30, 31, 32, 33, 34, 35, 36, 37, 38, 39, 40, 41, 42, 43, 44, 45, 46, 47, 48, 49, 50, 51, 52, 53, 54, 55, 56, 57, 58, 59, 60, 61, 62, 63, 64, 65, 66, 67, 68, 69, 70, 71, 72, 73, 74, 75, 76, 77, 78, 79, 80, 81, 82, 83, 84, 85, 86, 87, 88, 89, 90, 91, 92, 93, 94] (by decide +kernel) (by decide +kernel)
set_option maxRecDepth 20000 in
theorem gX11_hoursOf_X11_wants : GoodIn wsX11_hoursOf (wsV RX11 340 RX11 yX11_wants wsX11_wants) := goodIn_app (goodIn_of _ (by decide +kernel)) ggX11_hoursOf_X11_wants
theorem dX11_hoursOf_0 : decode cX11_hoursOf 0 = .ok (.iconst 0, 1) := by decide +kernel
theorem dX11_hoursOf_1 : decode cX11_hoursOf 1 = .ok (.istore_n 2, 1) := by decide +kernel
theorem dX11_hoursOf_2 : decode cX11_hoursOf 2 = .ok (.iconst 0, 1) := by decide +kernel
theorem dX11_hoursOf_3 : decode cX11_hoursOf 3 = .ok (.istore_n 3, 1) := by decide +kernel
theorem dX11_hoursOf_4 : decode cX11_hoursOf 4 = .ok (.iload_n 3, 1) := by decide +kernel
theorem dX11_hoursOf_5 : decode cX11_hoursOf 5 = .ok (.bipush 24, 2) := by decide +kernel
theorem dX11_hoursOf_7 : decode cX11_hoursOf 7 = .ok (.if_icmp .ge 28, 3) := by decide +kernel
theorem dX11_hoursOf_10 : decode cX11_hoursOf 10 = .ok (.iload_n 2, 1) := by decide +kernel
theorem dX11_hoursOf_11 : decode cX11_hoursOf 11 = .ok (.aload_n 0, 1) := by decide +kernel
theorem dX11_hoursOf_12 : decode cX11_hoursOf 12 = .ok (.iload_n 1, 1) := by decide +kernel
theorem dX11_hoursOf_13 : decode cX11_hoursOf 13 = .ok (.iload_n 3, 1) := by decide +kernel
theorem dX11_hoursOf_14 : decode cX11_hoursOf 14 = .ok (.invokevirtual 340, 3) := by decide +kernel
theorem dX11_hoursOf_17 : decode cX11_hoursOf 17 = .ok (.ifCond .eq 9, 3) := by decide +kernel
theorem dX11_hoursOf_20 : decode cX11_hoursOf 20 = .ok (.iconst 1, 1) := by decide +kernel
theorem dX11_hoursOf_21 : decode cX11_hoursOf 21 = .ok (.iload_n 3, 1) := by decide +kernel
theorem dX11_hoursOf_22 : decode cX11_hoursOf 22 = .ok (.ishl, 1) := by decide +kernel
theorem dX11_hoursOf_23 : decode cX11_hoursOf 23 = .ok (.goto 4, 3) := by decide +kernel
theorem dX11_hoursOf_26 : decode cX11_hoursOf 26 = .ok (.iconst 0, 1) := by decide +kernel
theorem dX11_hoursOf_27 : decode cX11_hoursOf 27 = .ok (.ior, 1) := by decide +kernel
theorem dX11_hoursOf_28 : decode cX11_hoursOf 28 = .ok (.istore_n 2, 1) := by decide +kernel
theorem dX11_hoursOf_29 : decode cX11_hoursOf 29 = .ok (.iinc 3 1, 3) := by decide +kernel
theorem dX11_hoursOf_32 : decode cX11_hoursOf 32 = .ok (.goto (-28), 3) := by decide +kernel
theorem dX11_hoursOf_35 : decode cX11_hoursOf 35 = .ok (.iload_n 2, 1) := by decide +kernel
theorem dX11_hoursOf_36 : decode cX11_hoursOf 36 = .ok (.ireturn, 1) := by decide +kernel
set_option maxRecDepth 20000 in
theorem ggX11_lamp_X11_isLamp : GoodIn wsX11_lamp wsX11_isLamp := goodIn_r _ [12, 13, 14, 15, 11, 16, 57, 58, 59, 60, 61, 62, 63, 64, 65, 66, 67, 68, 69, 70, 71, 72, 73, 74, 75, 76, 77, 78, 79, 80, 81, 82, 83, 84, 85, 86, 87, 88, 89, 90, 91, 92, 93, 94, 95, 96, 97, 98, 99, 100, 101, 102, 103, 104, 105, 106, 107, 108, 109, 110, 111, 112, 113, 114] (by decide +kernel) (by decide +kernel)
set_option maxRecDepth 20000 in
theorem gX11_lamp_X11_isLamp : GoodIn wsX11_lamp (wsV RX11 384 RX11 yX11_isLamp wsX11_isLamp) := goodIn_app (goodIn_of _ (by decide +kernel)) ggX11_lamp_X11_isLamp
set_option maxRecDepth 20000 in
theorem ggX11_lamp_X11_fail : GoodIn wsX11_lamp wsX11_fail := goodIn_r _ [20, 1, 57, 58, 59, 60, 61, 62, 63, 64, 65, 66, 67, 68, 69, 70, 71, 72, 73, 74, 75, 76, 77, 78, 79, 80, 81, 82, 83, 84, 85, 86, 87, 88, 89, 90, 91, 92, 93, 94, 95, 96, 97, 98, 99, 100, 101, 102, 103, 104, 105, 106, 107, 108, 109, 110, 111, 112, 113, 114] (by decide +kernel) (by decide +kernel)
set_option maxRecDepth 20000 in
theorem gX11_lamp_X11_fail : GoodIn wsX11_lamp (wsV RX11 281 RX11 yX11_fail wsX11_fail) := goodIn_app (goodIn_of _ (by decide +kernel)) ggX11_lamp_X11_fail
set_option maxRecDepth 20000 in
theorem ggX11_lamp_X11_wants : GoodIn wsX11_lamp wsX11_wants := goodIn_r _ [24, 2, 13, 25, 26, 3, 27, 28, 29, 11, 30, 31, 32, 33, 34, 35, 36, 37, 38, 39, 40, 41, 42, 43, 44, 45, 46, 47, 48, 49, 50, 51, 52, 57, 58, 59, 60, 61, 62, 63, 64, 65, 66, 67, 68, 69, 70, 71, 72, 73, 74, 75, 76, 77, 78, 79, 80, 81, 82, 83, 84, 85, 86, 87, 88, 89, 90, 91, 92, 93, 94, 95, 96, 97, 98, 99, 100, 101, 102, 103, 104, 105, 106, 107, 108, 109, 110, 111, 112, 113, 114] (by decide +kernel) (by decide +kernel)
set_option maxRecDepth 20000 in
theorem gX11_lamp_X11_wants : GoodIn wsX11_lamp (wsV RX11 340 RX11 yX11_wants wsX11_wants) := goodIn_app (goodIn_of _ (by decide +kernel)) ggX11_lamp_X11_wants
set_option maxRecDepth 20000 in
theorem ggX11_lamp_X11_hoursOf : GoodIn wsX11_lamp wsX11_hoursOf := goodIn_r _ [56, 21, 22, 23, 11, 24, 2, 13, 25, 26, 3, 27, 28, 29, 30, 31, 32, 33, 34, 35, 36, 37, 38, 39, 40, 41, 42, 43, 44, 45, 46, 47, 48, 49, 50, 51, 52, 57, 58, 59, 60, 61, 62, 63, 64, 65, 66, 67, 68, 69, 70, 71, 72, 73, 74, 75, 76, 77, 78, 79, 80, 81, 82, 83, 84, 85, 86, 87, 88, 89, 90, 91, 92, 93, 94, 95, 96, 97, 98, 99, 100, 101, 102, 103, 104, 105, 106, 107, 108, 109, 110, 111, 112, 113, 114] (by decide +kernel) (by decide +kernel)
set_option maxRecDepth 20000 in
theorem gX11_lamp_X11_hoursOf : GoodIn wsX11_lamp (wsV RX11 387 RX11 yX11_hoursOf wsX11_hoursOf) := goodIn_app (goodIn_of _ (by decide +kernel)) ggX11_lamp_X11_hoursOf
theorem dX11_lamp_0 : decode cX11_lamp 0 = .ok (.aload_n 0, 1) := by decide +kernel
theorem dX11_lamp_1 : decode cX11_lamp 1 = .ok (.iconst 0, 1) := by decide +kernel
theorem dX11_lamp_2 : decode cX11_lamp 2 = .ok (.putfield 142, 3) := by decide +kernel
theorem dX11_lamp_5 : decode cX11_lamp 5 = .ok (.aload_n 0, 1) := by decide +kernel
theorem dX11_lamp_6 : decode cX11_lamp 6 = .ok (.iload_n 1, 1) := by decide +kernel
theorem dX11_lamp_7 : decode cX11_lamp 7 = .ok (.invokevirtual 384, 3) := by decide +kernel
theorem dX11_lamp_10 : decode cX11_lamp 10 = .ok (.ifCond .ne 9, 3) := by decide +kernel
theorem dX11_lamp_13 : decode cX11_lamp 13 = .ok (.aload_n 0, 1) := by decide +kernel
theorem dX11_lamp_14 : decode cX11_lamp 14 = .ok (.iconst 1, 1) := by decide +kernel
theorem dX11_lamp_15 : decode cX11_lamp 15 = .ok (.invokevirtual 281, 3) := by decide +kernel
theorem dX11_lamp_18 : decode cX11_lamp 18 = .ok (.ireturn, 1) := by decide +kernel
theorem dX11_lamp_19 : decode cX11_lamp 19 = .ok (.iload_n 2, 1) := by decide +kernel
theorem dX11_lamp_20 : decode cX11_lamp 20 = .ok (.tableswitch 110 0 6 #[44, 51, 58, 65, 74, 83, 104], 44) := by decide +kernel
theorem dX11_lamp_64 : decode cX11_lamp 64 = .ok (.aload_n 0, 1) := by decide +kernel
theorem dX11_lamp_65 : decode cX11_lamp 65 = .ok (.getfield 74, 3) := by decide +kernel
theorem dX11_lamp_68 : decode cX11_lamp 68 = .ok (.iload_n 1, 1) := by decide +kernel
theorem dX11_lamp_69 : decode cX11_lamp 69 = .ok (.iaload, 1) := by decide +kernel
theorem dX11_lamp_70 : decode cX11_lamp 70 = .ok (.ireturn, 1) := by decide +kernel
theorem dX11_lamp_71 : decode cX11_lamp 71 = .ok (.aload_n 0, 1) := by decide +kernel
theorem dX11_lamp_72 : decode cX11_lamp 72 = .ok (.getfield 72, 3) := by decide +kernel
theorem dX11_lamp_75 : decode cX11_lamp 75 = .ok (.iload_n 1, 1) := by decide +kernel
theorem dX11_lamp_76 : decode cX11_lamp 76 = .ok (.iaload, 1) := by decide +kernel
theorem dX11_lamp_77 : decode cX11_lamp 77 = .ok (.ireturn, 1) := by decide +kernel
theorem dX11_lamp_78 : decode cX11_lamp 78 = .ok (.aload_n 0, 1) := by decide +kernel
theorem dX11_lamp_79 : decode cX11_lamp 79 = .ok (.getfield 56, 3) := by decide +kernel
theorem dX11_lamp_82 : decode cX11_lamp 82 = .ok (.iload_n 1, 1) := by decide +kernel
theorem dX11_lamp_83 : decode cX11_lamp 83 = .ok (.iaload, 1) := by decide +kernel
theorem dX11_lamp_84 : decode cX11_lamp 84 = .ok (.ireturn, 1) := by decide +kernel
theorem dX11_lamp_85 : decode cX11_lamp 85 = .ok (.aload_n 0, 1) := by decide +kernel
theorem dX11_lamp_86 : decode cX11_lamp 86 = .ok (.getfield 296, 3) := by decide +kernel
theorem dX11_lamp_89 : decode cX11_lamp 89 = .ok (.iload_n 1, 1) := by decide +kernel
theorem dX11_lamp_90 : decode cX11_lamp 90 = .ok (.ishr, 1) := by decide +kernel
theorem dX11_lamp_91 : decode cX11_lamp 91 = .ok (.iconst 1, 1) := by decide +kernel
theorem dX11_lamp_92 : decode cX11_lamp 92 = .ok (.iand, 1) := by decide +kernel
theorem dX11_lamp_93 : decode cX11_lamp 93 = .ok (.ireturn, 1) := by decide +kernel
theorem dX11_lamp_94 : decode cX11_lamp 94 = .ok (.aload_n 0, 1) := by decide +kernel
theorem dX11_lamp_95 : decode cX11_lamp 95 = .ok (.getfield 299, 3) := by decide +kernel
theorem dX11_lamp_98 : decode cX11_lamp 98 = .ok (.iload_n 1, 1) := by decide +kernel
theorem dX11_lamp_99 : decode cX11_lamp 99 = .ok (.ishr, 1) := by decide +kernel
theorem dX11_lamp_100 : decode cX11_lamp 100 = .ok (.iconst 1, 1) := by decide +kernel
theorem dX11_lamp_101 : decode cX11_lamp 101 = .ok (.iand, 1) := by decide +kernel
theorem dX11_lamp_102 : decode cX11_lamp 102 = .ok (.ireturn, 1) := by decide +kernel
theorem dX11_lamp_103 : decode cX11_lamp 103 = .ok (.aload_n 0, 1) := by decide +kernel
theorem dX11_lamp_104 : decode cX11_lamp 104 = .ok (.iload_n 1, 1) := by decide +kernel
theorem dX11_lamp_105 : decode cX11_lamp 105 = .ok (.aload_n 0, 1) := by decide +kernel
theorem dX11_lamp_106 : decode cX11_lamp 106 = .ok (.getfield 294, 3) := by decide +kernel
theorem dX11_lamp_109 : decode cX11_lamp 109 = .ok (.bipush 24, 2) := by decide +kernel
theorem dX11_lamp_111 : decode cX11_lamp 111 = .ok (.irem, 1) := by decide +kernel
theorem dX11_lamp_112 : decode cX11_lamp 112 = .ok (.invokevirtual 340, 3) := by decide +kernel
theorem dX11_lamp_115 : decode cX11_lamp 115 = .ok (.ifCond .eq 7, 3) := by decide +kernel
theorem dX11_lamp_118 : decode cX11_lamp 118 = .ok (.iconst 1, 1) := by decide +kernel
theorem dX11_lamp_119 : decode cX11_lamp 119 = .ok (.goto 4, 3) := by decide +kernel
theorem dX11_lamp_122 : decode cX11_lamp 122 = .ok (.iconst 0, 1) := by decide +kernel
theorem dX11_lamp_123 : decode cX11_lamp 123 = .ok (.ireturn, 1) := by decide +kernel
theorem dX11_lamp_124 : decode cX11_lamp 124 = .ok (.aload_n 0, 1) := by decide +kernel
theorem dX11_lamp_125 : decode cX11_lamp 125 = .ok (.iload_n 1, 1) := by decide +kernel
theorem dX11_lamp_126 : decode cX11_lamp 126 = .ok (.invokevirtual 387, 3) := by decide +kernel
theorem dX11_lamp_129 : decode cX11_lamp 129 = .ok (.ireturn, 1) := by decide +kernel
theorem dX11_lamp_130 : decode cX11_lamp 130 = .ok (.aload_n 0, 1) := by decide +kernel
theorem dX11_lamp_131 : decode cX11_lamp 131 = .ok (.iconst 1, 1) := by decide +kernel
theorem dX11_lamp_132 : decode cX11_lamp 132 = .ok (.invokevirtual 281, 3) := by decide +kernel
theorem dX11_lamp_135 : decode cX11_lamp 135 = .ok (.ireturn, 1) := by decide +kernel
theorem dX11_refuse_0 : decode cX11_refuse 0 = .ok (.aload_n 0, 1) := by decide +kernel
theorem dX11_refuse_1 : decode cX11_refuse 1 = .ok (.getfield 62, 3) := by decide +kernel
theorem dX11_refuse_4 : decode cX11_refuse 4 = .ok (.iload_n 1, 1) := by decide +kernel
theorem dX11_refuse_5 : decode cX11_refuse 5 = .ok (.dup2, 1) := by decide +kernel
theorem dX11_refuse_6 : decode cX11_refuse 6 = .ok (.iaload, 1) := by decide +kernel
theorem dX11_refuse_7 : decode cX11_refuse 7 = .ok (.iconst 1, 1) := by decide +kernel
theorem dX11_refuse_8 : decode cX11_refuse 8 = .ok (.iadd, 1) := by decide +kernel
theorem dX11_refuse_9 : decode cX11_refuse 9 = .ok (.iastore, 1) := by decide +kernel
theorem dX11_refuse_10 : decode cX11_refuse 10 = .ok (.iconst (-1), 1) := by decide +kernel
theorem dX11_refuse_11 : decode cX11_refuse 11 = .ok (.ireturn, 1) := by decide +kernel
set_option maxRecDepth 20000 in
theorem ggX11_keep_X11_pack : GoodIn wsX11_keep wsX11_pack := goodIn_r _ [7, 8, 9, 10, 11, 12, 13, 14, 15, 16, 17, 18, 19, 20, 21, 22, 23, 24, 25, 26, 27, 28, 29, 30, 31, 32, 33, 34, 35, 36, 37, 38, 39, 40, 41, 42, 43, 44, 45, 46, 47, 48, 49, 50, 51, 52, 53, 54, 55, 56, 57, 58, 59, 60, 61, 62, 63, 64, 65, 66, 67, 68, 69, 70, 71, 72] (by decide +kernel) (by decide +kernel)
set_option maxRecDepth 20000 in
theorem gX11_keep_X11_pack : GoodIn wsX11_keep (wsV RX11 390 RX11 yX11_pack wsX11_pack) := goodIn_app (goodIn_of _ (by decide +kernel)) ggX11_keep_X11_pack
theorem dX11_keep_0 : decode cX11_keep 0 = .ok (.aload_n 0, 1) := by decide +kernel
theorem dX11_keep_1 : decode cX11_keep 1 = .ok (.getfield 302, 3) := by decide +kernel
theorem dX11_keep_4 : decode cX11_keep 4 = .ok (.bipush 40, 2) := by decide +kernel
theorem dX11_keep_6 : decode cX11_keep 6 = .ok (.if_icmp .ne 46, 3) := by decide +kernel
theorem dX11_keep_9 : decode cX11_keep 9 = .ok (.bipush 43, 2) := by decide +kernel
theorem dX11_keep_11 : decode cX11_keep 11 = .ok (.istore_n 1, 1) := by decide +kernel
theorem dX11_keep_12 : decode cX11_keep 12 = .ok (.iload_n 1, 1) := by decide +kernel
theorem dX11_keep_13 : decode cX11_keep 13 = .ok (.aload_n 0, 1) := by decide +kernel
theorem dX11_keep_14 : decode cX11_keep 14 = .ok (.getfield 82, 3) := by decide +kernel
theorem dX11_keep_17 : decode cX11_keep 17 = .ok (.arraylength, 1) := by decide +kernel
theorem dX11_keep_18 : decode cX11_keep 18 = .ok (.if_icmp .ge 24, 3) := by decide +kernel
theorem dX11_keep_21 : decode cX11_keep 21 = .ok (.aload_n 0, 1) := by decide +kernel
theorem dX11_keep_22 : decode cX11_keep 22 = .ok (.getfield 82, 3) := by decide +kernel
theorem dX11_keep_25 : decode cX11_keep 25 = .ok (.iload_n 1, 1) := by decide +kernel
theorem dX11_keep_26 : decode cX11_keep 26 = .ok (.bipush 43, 2) := by decide +kernel
theorem dX11_keep_28 : decode cX11_keep 28 = .ok (.isub, 1) := by decide +kernel
theorem dX11_keep_29 : decode cX11_keep 29 = .ok (.aload_n 0, 1) := by decide +kernel
theorem dX11_keep_30 : decode cX11_keep 30 = .ok (.getfield 82, 3) := by decide +kernel
theorem dX11_keep_33 : decode cX11_keep 33 = .ok (.iload_n 1, 1) := by decide +kernel
theorem dX11_keep_34 : decode cX11_keep 34 = .ok (.iaload, 1) := by decide +kernel
theorem dX11_keep_35 : decode cX11_keep 35 = .ok (.iastore, 1) := by decide +kernel
theorem dX11_keep_36 : decode cX11_keep 36 = .ok (.iinc 1 1, 3) := by decide +kernel
theorem dX11_keep_39 : decode cX11_keep 39 = .ok (.goto (-27), 3) := by decide +kernel
theorem dX11_keep_42 : decode cX11_keep 42 = .ok (.aload_n 0, 1) := by decide +kernel
theorem dX11_keep_43 : decode cX11_keep 43 = .ok (.dup, 1) := by decide +kernel
theorem dX11_keep_44 : decode cX11_keep 44 = .ok (.getfield 302, 3) := by decide +kernel
theorem dX11_keep_47 : decode cX11_keep 47 = .ok (.iconst 1, 1) := by decide +kernel
theorem dX11_keep_48 : decode cX11_keep 48 = .ok (.isub, 1) := by decide +kernel
theorem dX11_keep_49 : decode cX11_keep 49 = .ok (.putfield 302, 3) := by decide +kernel
theorem dX11_keep_52 : decode cX11_keep 52 = .ok (.aload_n 0, 1) := by decide +kernel
theorem dX11_keep_53 : decode cX11_keep 53 = .ok (.aload_n 0, 1) := by decide +kernel
theorem dX11_keep_54 : decode cX11_keep 54 = .ok (.getfield 82, 3) := by decide +kernel
theorem dX11_keep_57 : decode cX11_keep 57 = .ok (.bipush 43, 2) := by decide +kernel
theorem dX11_keep_59 : decode cX11_keep 59 = .ok (.aload_n 0, 1) := by decide +kernel
theorem dX11_keep_60 : decode cX11_keep 60 = .ok (.getfield 302, 3) := by decide +kernel
theorem dX11_keep_63 : decode cX11_keep 63 = .ok (.imul, 1) := by decide +kernel
theorem dX11_keep_64 : decode cX11_keep 64 = .ok (.invokevirtual 390, 3) := by decide +kernel
theorem dX11_keep_67 : decode cX11_keep 67 = .ok (.aload_n 0, 1) := by decide +kernel
theorem dX11_keep_68 : decode cX11_keep 68 = .ok (.dup, 1) := by decide +kernel
theorem dX11_keep_69 : decode cX11_keep 69 = .ok (.getfield 302, 3) := by decide +kernel
theorem dX11_keep_72 : decode cX11_keep 72 = .ok (.iconst 1, 1) := by decide +kernel
theorem dX11_keep_73 : decode cX11_keep 73 = .ok (.iadd, 1) := by decide +kernel
theorem dX11_keep_74 : decode cX11_keep 74 = .ok (.putfield 302, 3) := by decide +kernel
theorem dX11_keep_77 : decode cX11_keep 77 = .ok (.return_, 1) := by decide +kernel
set_option maxRecDepth 20000 in
theorem ggX11_hours_X11_isIn : GoodIn wsX11_hours wsX11_isIn := goodIn_r _ [7] (by decide +kernel) (by decide +kernel)
set_option maxRecDepth 20000 in
theorem gX11_hours_X11_isIn : GoodIn wsX11_hours (va_wsS RX11 145 yX11_isIn wsX11_isIn) := goodIn_app (goodIn_of _ (by decide +kernel)) ggX11_hours_X11_isIn
set_option maxRecDepth 20000 in
theorem ggX11_hours_X11_refuse : GoodIn wsX11_hours wsX11_refuse := goodIn_r _ [11, 12, 91, 92, 93, 94, 95, 96, 97, 98, 99, 100, 101, 102, 103, 104, 105, 106, 107, 108, 109, 110, 111, 112, 113, 114, 115, 116, 117, 118, 119, 120, 121, 122, 123, 124, 125, 126, 127, 128, 129, 130, 131, 132, 133, 134, 135, 136, 137, 138, 139, 140, 141, 142, 143, 144, 145, 146, 147, 148] (by decide +kernel) (by decide +kernel)
set_option maxRecDepth 20000 in
theorem gX11_hours_X11_refuse : GoodIn wsX11_hours (wsV RX11 396 RX11 yX11_refuse wsX11_refuse) := goodIn_app (goodIn_of _ (by decide +kernel)) ggX11_hours_X11_refuse
set_option maxRecDepth 20000 in
theorem ggX11_hours_X11_keep : GoodIn wsX11_hours wsX11_keep := goodIn_r _ [16, 17, 18, 19, 20, 21, 6, 22, 3, 23, 24, 25, 26, 27, 28, 91, 92, 93, 94, 95, 96, 97, 98, 99, 100, 101, 102, 103, 104, 105, 106, 107, 108, 109, 110, 111, 112, 113, 114, 115, 116, 117, 118, 119, 120, 121, 122, 123, 124, 125, 126, 127, 128, 129, 130, 131, 132, 133, 134, 135, 136, 137, 138, 139, 140, 141, 142, 143, 144, 145, 146, 147, 148] (by decide +kernel) (by decide +kernel)
set_option maxRecDepth 20000 in
theorem gX11_hours_X11_keep : GoodIn wsX11_hours (wsV RX11 399 RX11 yX11_keep wsX11_keep) := goodIn_app (goodIn_of _ (by decide +kernel)) ggX11_hours_X11_keep
set_option maxRecDepth 20000 in
theorem ggX11_hours_X11_anHour : GoodIn wsX11_hours wsX11_anHour := goodIn_r _ [32, 3, 23, 33, 34, 35, 26, 36, 37, 38, 6, 39, 40, 41, 42, 43, 44, 45, 46, 25, 47, 48, 49, 50, 51, 52, 53, 54, 27, 28, 55, 56, 57, 58, 59, 60, 61, 62, 63, 64, 65, 66, 67, 68, 69, 70, 71, 72, 73, 74, 75, 76, 77, 24, 78, 79, 80, 81, 82, 83, 84, 85, 86, 87, 88, 89, 90, 91, 92, 93, 94, 95, 96, 97, 98, 99, 100, 101, 102, 103, 104, 105, 106, 107, 108, 109, 110, 111, 112, 113, 114, 115, 116, 117, 118, 119, 120, 121, 122, 123, 124, 125, 126, 127, 128, 129, 130, 131, 132, 133, 134, 135, 136, 137, 138, 139, 140, 141, 142, 143, 144, 145, 146, 147, 148] (by decide +kernel) (by decide +kernel)
set_option maxRecDepth 20000 in
theorem gX11_hours_X11_anHour : GoodIn wsX11_hours (wsV RX11 402 RX11 yX11_anHour wsX11_anHour) := goodIn_app (goodIn_of _ (by decide +kernel)) ggX11_hours_X11_anHour
theorem dX11_hours_0 : decode cX11_hours 0 = .ok (.aload_n 0, 1) := by decide +kernel
theorem dX11_hours_1 : decode cX11_hours 1 = .ok (.iconst 0, 1) := by decide +kernel
theorem dX11_hours_2 : decode cX11_hours 2 = .ok (.putfield 142, 3) := by decide +kernel
theorem dX11_hours_5 : decode cX11_hours 5 = .ok (.iload_n 1, 1) := by decide +kernel
theorem dX11_hours_6 : decode cX11_hours 6 = .ok (.i2l, 1) := by decide +kernel
theorem dX11_hours_7 : decode cX11_hours 7 = .ok (.lconst 1, 1) := by decide +kernel
theorem dX11_hours_8 : decode cX11_hours 8 = .ok (.ldc2_w 394, 3) := by decide +kernel
theorem dX11_hours_11 : decode cX11_hours 11 = .ok (.invokestatic 145, 3) := by decide +kernel
theorem dX11_hours_14 : decode cX11_hours 14 = .ok (.ifCond .eq 15, 3) := by decide +kernel
theorem dX11_hours_17 : decode cX11_hours 17 = .ok (.aload_n 0, 1) := by decide +kernel
theorem dX11_hours_18 : decode cX11_hours 18 = .ok (.getfield 294, 3) := by decide +kernel
theorem dX11_hours_21 : decode cX11_hours 21 = .ok (.iload_n 1, 1) := by decide +kernel
theorem dX11_hours_22 : decode cX11_hours 22 = .ok (.iadd, 1) := by decide +kernel
theorem dX11_hours_23 : decode cX11_hours 23 = .ok (.sipush 9999, 3) := by decide +kernel
theorem dX11_hours_26 : decode cX11_hours 26 = .ok (.if_icmp .le 9, 3) := by decide +kernel
theorem dX11_hours_29 : decode cX11_hours 29 = .ok (.aload_n 0, 1) := by decide +kernel
theorem dX11_hours_30 : decode cX11_hours 30 = .ok (.iconst 1, 1) := by decide +kernel
theorem dX11_hours_31 : decode cX11_hours 31 = .ok (.invokevirtual 396, 3) := by decide +kernel
theorem dX11_hours_34 : decode cX11_hours 34 = .ok (.ireturn, 1) := by decide +kernel
theorem dX11_hours_35 : decode cX11_hours 35 = .ok (.aload_n 0, 1) := by decide +kernel
theorem dX11_hours_36 : decode cX11_hours 36 = .ok (.invokevirtual 399, 3) := by decide +kernel
theorem dX11_hours_39 : decode cX11_hours 39 = .ok (.iconst 0, 1) := by decide +kernel
theorem dX11_hours_40 : decode cX11_hours 40 = .ok (.istore_n 2, 1) := by decide +kernel
theorem dX11_hours_41 : decode cX11_hours 41 = .ok (.iload_n 2, 1) := by decide +kernel
theorem dX11_hours_42 : decode cX11_hours 42 = .ok (.iload_n 1, 1) := by decide +kernel
theorem dX11_hours_43 : decode cX11_hours 43 = .ok (.if_icmp .ge 13, 3) := by decide +kernel
theorem dX11_hours_46 : decode cX11_hours 46 = .ok (.aload_n 0, 1) := by decide +kernel
theorem dX11_hours_47 : decode cX11_hours 47 = .ok (.invokevirtual 402, 3) := by decide +kernel
theorem dX11_hours_50 : decode cX11_hours 50 = .ok (.iinc 2 1, 3) := by decide +kernel
theorem dX11_hours_53 : decode cX11_hours 53 = .ok (.goto (-12), 3) := by decide +kernel
theorem dX11_hours_56 : decode cX11_hours 56 = .ok (.aload_n 0, 1) := by decide +kernel
theorem dX11_hours_57 : decode cX11_hours 57 = .ok (.getfield 294, 3) := by decide +kernel
theorem dX11_hours_60 : decode cX11_hours 60 = .ok (.ireturn, 1) := by decide +kernel
set_option maxRecDepth 20000 in
theorem ggX11_flick_X11_isLamp : GoodIn wsX11_flick wsX11_isLamp := goodIn_r _ [7, 8, 9, 10, 6, 11, 53, 54, 55, 56, 57, 58, 59, 60, 61, 62, 63, 64, 65, 66, 67, 68, 69, 70, 71, 72, 73, 74, 75, 76, 77, 78, 79, 80, 81, 82, 83, 84, 85, 86, 87, 88, 89, 90, 91, 92, 93, 94, 95, 96, 97, 98, 99, 100, 101, 102, 103, 104, 105, 106, 107, 108, 109, 110] (by decide +kernel) (by decide +kernel)
set_option maxRecDepth 20000 in
theorem gX11_flick_X11_isLamp : GoodIn wsX11_flick (wsV RX11 384 RX11 yX11_isLamp wsX11_isLamp) := goodIn_app (goodIn_of _ (by decide +kernel)) ggX11_flick_X11_isLamp
set_option maxRecDepth 20000 in
theorem ggX11_flick_X11_fail : GoodIn wsX11_flick wsX11_fail := goodIn_r _ [15, 1, 53, 54, 55, 56, 57, 58, 59, 60, 61, 62, 63, 64, 65, 66, 67, 68, 69, 70, 71, 72, 73, 74, 75, 76, 77, 78, 79, 80, 81, 82, 83, 84, 85, 86, 87, 88, 89, 90, 91, 92, 93, 94, 95, 96, 97, 98, 99, 100, 101, 102, 103, 104, 105, 106, 107, 108, 109, 110] (by decide +kernel) (by decide +kernel)
set_option maxRecDepth 20000 in
theorem gX11_flick_X11_fail : GoodIn wsX11_flick (wsV RX11 281 RX11 yX11_fail wsX11_fail) := goodIn_app (goodIn_of _ (by decide +kernel)) ggX11_flick_X11_fail
set_option maxRecDepth 20000 in
theorem ggX11_flick_X11_isOf : GoodIn wsX11_flick wsX11_isOf := goodIn_r _ [18] (by decide +kernel) (by decide +kernel)
set_option maxRecDepth 20000 in
theorem gX11_flick_X11_isOf : GoodIn wsX11_flick (va_wsS RX11 334 yX11_isOf wsX11_isOf) := goodIn_app (goodIn_of _ (by decide +kernel)) ggX11_flick_X11_isOf
set_option maxRecDepth 20000 in
theorem ggX11_flick_X11_canBurn : GoodIn wsX11_flick wsX11_canBurn := goodIn_r _ [22, 8, 23, 24, 25, 26, 27, 6, 28, 29, 16, 17, 18, 53, 54, 55, 56, 57, 58, 59, 60, 61, 62, 63, 64, 65, 66, 67, 68, 69, 70, 71, 72, 73, 74, 75, 76, 77, 78, 79, 80, 81, 82, 83, 84, 85, 86, 87, 88, 89, 90, 91, 92, 93, 94, 95, 96, 97, 98, 99, 100, 101, 102, 103, 104, 105, 106, 107, 108, 109, 110] (by decide +kernel) (by decide +kernel)
set_option maxRecDepth 20000 in
theorem gX11_flick_X11_canBurn : GoodIn wsX11_flick (wsV RX11 342 RX11 yX11_canBurn wsX11_canBurn) := goodIn_app (goodIn_of _ (by decide +kernel)) ggX11_flick_X11_canBurn
set_option maxRecDepth 20000 in
theorem ggX11_flick_X11_refuse : GoodIn wsX11_flick wsX11_refuse := goodIn_r _ [33, 34, 53, 54, 55, 56, 57, 58, 59, 60, 61, 62, 63, 64, 65, 66, 67, 68, 69, 70, 71, 72, 73, 74, 75, 76, 77, 78, 79, 80, 81, 82, 83, 84, 85, 86, 87, 88, 89, 90, 91, 92, 93, 94, 95, 96, 97, 98, 99, 100, 101, 102, 103, 104, 105, 106, 107, 108, 109, 110] (by decide +kernel) (by decide +kernel)
set_option maxRecDepth 20000 in
theorem gX11_flick_X11_refuse : GoodIn wsX11_flick (wsV RX11 396 RX11 yX11_refuse wsX11_refuse) := goodIn_app (goodIn_of _ (by decide +kernel)) ggX11_flick_X11_refuse
set_option maxRecDepth 20000 in
theorem ggX11_flick_X11_keep : GoodIn wsX11_flick wsX11_keep := goodIn_r _ [38, 39, 40, 41, 42, 43, 6, 44, 45, 2, 24, 23, 46, 47, 48, 53, 54, 55, 56, 57, 58, 59, 60, 61, 62, 63, 64, 65, 66, 67, 68, 69, 70, 71, 72, 73, 74, 75, 76, 77, 78, 79, 80, 81, 82, 83, 84, 85, 86, 87, 88, 89, 90, 91, 92, 93, 94, 95, 96, 97, 98, 99, 100, 101, 102, 103, 104, 105, 106, 107, 108, 109, 110] (by decide +kernel) (by decide +kernel)
set_option maxRecDepth 20000 in
theorem gX11_flick_X11_keep : GoodIn wsX11_flick (wsV RX11 399 RX11 yX11_keep wsX11_keep) := goodIn_app (goodIn_of _ (by decide +kernel)) ggX11_flick_X11_keep
set_option maxRecDepth 20000 in
theorem ggX11_flick_X11_be : GoodIn wsX11_flick wsX11_be := goodIn_r _ [52, 2, 25, 26, 27, 6, 28, 29, 53, 54, 55, 56, 57, 58, 59, 60, 61, 62, 63, 64, 65, 66, 67, 68, 69, 70, 71, 72, 73, 74, 75, 76, 77, 78, 79, 80, 81, 82, 83, 84, 85, 86, 87, 88, 89, 90, 91, 92, 93, 94, 95, 96, 97, 98, 99, 100, 101, 102, 103, 104, 105, 106, 107, 108, 109, 110] (by decide +kernel) (by decide +kernel)
set_option maxRecDepth 20000 in
theorem gX11_flick_X11_be : GoodIn wsX11_flick (wsV RX11 345 RX11 yX11_be wsX11_be) := goodIn_app (goodIn_of _ (by decide +kernel)) ggX11_flick_X11_be
theorem dX11_flick_0 : decode cX11_flick 0 = .ok (.aload_n 0, 1) := by decide +kernel
theorem dX11_flick_1 : decode cX11_flick 1 = .ok (.iconst 0, 1) := by decide +kernel
theorem dX11_flick_2 : decode cX11_flick 2 = .ok (.putfield 142, 3) := by decide +kernel
theorem dX11_flick_5 : decode cX11_flick 5 = .ok (.aload_n 0, 1) := by decide +kernel
theorem dX11_flick_6 : decode cX11_flick 6 = .ok (.iload_n 1, 1) := by decide +kernel
theorem dX11_flick_7 : decode cX11_flick 7 = .ok (.invokevirtual 384, 3) := by decide +kernel
theorem dX11_flick_10 : decode cX11_flick 10 = .ok (.ifCond .ne 9, 3) := by decide +kernel
theorem dX11_flick_13 : decode cX11_flick 13 = .ok (.aload_n 0, 1) := by decide +kernel
theorem dX11_flick_14 : decode cX11_flick 14 = .ok (.iconst 1, 1) := by decide +kernel
theorem dX11_flick_15 : decode cX11_flick 15 = .ok (.invokevirtual 281, 3) := by decide +kernel
theorem dX11_flick_18 : decode cX11_flick 18 = .ok (.ireturn, 1) := by decide +kernel
theorem dX11_flick_19 : decode cX11_flick 19 = .ok (.aload_n 0, 1) := by decide +kernel
theorem dX11_flick_20 : decode cX11_flick 20 = .ok (.getfield 296, 3) := by decide +kernel
theorem dX11_flick_23 : decode cX11_flick 23 = .ok (.iload_n 1, 1) := by decide +kernel
theorem dX11_flick_24 : decode cX11_flick 24 = .ok (.invokestatic 334, 3) := by decide +kernel
theorem dX11_flick_27 : decode cX11_flick 27 = .ok (.istore_n 2, 1) := by decide +kernel
theorem dX11_flick_28 : decode cX11_flick 28 = .ok (.iload_n 2, 1) := by decide +kernel
theorem dX11_flick_29 : decode cX11_flick 29 = .ok (.ifCond .ne 17, 3) := by decide +kernel
theorem dX11_flick_32 : decode cX11_flick 32 = .ok (.aload_n 0, 1) := by decide +kernel
theorem dX11_flick_33 : decode cX11_flick 33 = .ok (.iload_n 1, 1) := by decide +kernel
theorem dX11_flick_34 : decode cX11_flick 34 = .ok (.invokevirtual 342, 3) := by decide +kernel
theorem dX11_flick_37 : decode cX11_flick 37 = .ok (.ifCond .ne 9, 3) := by decide +kernel
theorem dX11_flick_40 : decode cX11_flick 40 = .ok (.aload_n 0, 1) := by decide +kernel
theorem dX11_flick_41 : decode cX11_flick 41 = .ok (.iconst 1, 1) := by decide +kernel
theorem dX11_flick_42 : decode cX11_flick 42 = .ok (.invokevirtual 396, 3) := by decide +kernel
theorem dX11_flick_45 : decode cX11_flick 45 = .ok (.ireturn, 1) := by decide +kernel
theorem dX11_flick_46 : decode cX11_flick 46 = .ok (.aload_n 0, 1) := by decide +kernel
theorem dX11_flick_47 : decode cX11_flick 47 = .ok (.invokevirtual 399, 3) := by decide +kernel
theorem dX11_flick_50 : decode cX11_flick 50 = .ok (.aload_n 0, 1) := by decide +kernel
theorem dX11_flick_51 : decode cX11_flick 51 = .ok (.iload_n 1, 1) := by decide +kernel
theorem dX11_flick_52 : decode cX11_flick 52 = .ok (.iload_n 2, 1) := by decide +kernel
theorem dX11_flick_53 : decode cX11_flick 53 = .ok (.ifCond .ne 7, 3) := by decide +kernel
theorem dX11_flick_56 : decode cX11_flick 56 = .ok (.iconst 1, 1) := by decide +kernel
theorem dX11_flick_57 : decode cX11_flick 57 = .ok (.goto 4, 3) := by decide +kernel
theorem dX11_flick_60 : decode cX11_flick 60 = .ok (.iconst 0, 1) := by decide +kernel
theorem dX11_flick_61 : decode cX11_flick 61 = .ok (.invokevirtual 345, 3) := by decide +kernel
theorem dX11_flick_64 : decode cX11_flick 64 = .ok (.iload_n 2, 1) := by decide +kernel
theorem dX11_flick_65 : decode cX11_flick 65 = .ok (.ifCond .eq 7, 3) := by decide +kernel
theorem dX11_flick_68 : decode cX11_flick 68 = .ok (.iconst 0, 1) := by decide +kernel
theorem dX11_flick_69 : decode cX11_flick 69 = .ok (.goto 4, 3) := by decide +kernel
theorem dX11_flick_72 : decode cX11_flick 72 = .ok (.iconst 1, 1) := by decide +kernel
theorem dX11_flick_73 : decode cX11_flick 73 = .ok (.ireturn, 1) := by decide +kernel
set_option maxRecDepth 20000 in
theorem ggX11_trim_X11_isLamp : GoodIn wsX11_trim wsX11_isLamp := goodIn_r _ [8, 9, 10, 11, 7, 12, 47, 48, 49, 50, 51, 52, 53, 54, 55, 56, 57, 58, 59, 60, 61, 62, 63, 64, 65, 66, 67, 68, 69, 70, 71, 72, 73, 74, 75, 76, 77, 78, 79, 80, 81, 82, 83, 84, 85, 86, 87, 88, 89, 90, 91, 92, 93, 94, 95, 96, 97, 98, 99, 100, 101, 102, 103, 104] (by decide +kernel) (by decide +kernel)
set_option maxRecDepth 20000 in
theorem gX11_trim_X11_isLamp : GoodIn wsX11_trim (wsV RX11 384 RX11 yX11_isLamp wsX11_isLamp) := goodIn_app (goodIn_of _ (by decide +kernel)) ggX11_trim_X11_isLamp
set_option maxRecDepth 20000 in
theorem ggX11_trim_X11_fail : GoodIn wsX11_trim wsX11_fail := goodIn_r _ [16, 1, 47, 48, 49, 50, 51, 52, 53, 54, 55, 56, 57, 58, 59, 60, 61, 62, 63, 64, 65, 66, 67, 68, 69, 70, 71, 72, 73, 74, 75, 76, 77, 78, 79, 80, 81, 82, 83, 84, 85, 86, 87, 88, 89, 90, 91, 92, 93, 94, 95, 96, 97, 98, 99, 100, 101, 102, 103, 104] (by decide +kernel) (by decide +kernel)
set_option maxRecDepth 20000 in
theorem gX11_trim_X11_fail : GoodIn wsX11_trim (wsV RX11 281 RX11 yX11_fail wsX11_fail) := goodIn_app (goodIn_of _ (by decide +kernel)) ggX11_trim_X11_fail
set_option maxRecDepth 20000 in
theorem ggX11_trim_X11_isIn : GoodIn wsX11_trim wsX11_isIn := goodIn_r _ [12] (by decide +kernel) (by decide +kernel)
set_option maxRecDepth 20000 in
theorem gX11_trim_X11_isIn : GoodIn wsX11_trim (va_wsS RX11 145 yX11_isIn wsX11_isIn) := goodIn_app (goodIn_of _ (by decide +kernel)) ggX11_trim_X11_isIn
set_option maxRecDepth 20000 in
theorem ggX11_trim_X11_refuse : GoodIn wsX11_trim wsX11_refuse := goodIn_r _ [20, 21, 47, 48, 49, 50, 51, 52, 53, 54, 55, 56, 57, 58, 59, 60, 61, 62, 63, 64, 65, 66, 67, 68, 69, 70, 71, 72, 73, 74, 75, 76, 77, 78, 79, 80, 81, 82, 83, 84, 85, 86, 87, 88, 89, 90, 91, 92, 93, 94, 95, 96, 97, 98, 99, 100, 101, 102, 103, 104] (by decide +kernel) (by decide +kernel)
set_option maxRecDepth 20000 in
theorem gX11_trim_X11_refuse : GoodIn wsX11_trim (wsV RX11 396 RX11 yX11_refuse wsX11_refuse) := goodIn_app (goodIn_of _ (by decide +kernel)) ggX11_trim_X11_refuse
set_option maxRecDepth 20000 in
theorem ggX11_trim_X11_keep : GoodIn wsX11_trim wsX11_keep := goodIn_r _ [25, 26, 27, 28, 29, 30, 7, 31, 32, 33, 34, 3, 35, 36, 37, 47, 48, 49, 50, 51, 52, 53, 54, 55, 56, 57, 58, 59, 60, 61, 62, 63, 64, 65, 66, 67, 68, 69, 70, 71, 72, 73, 74, 75, 76, 77, 78, 79, 80, 81, 82, 83, 84, 85, 86, 87, 88, 89, 90, 91, 92, 93, 94, 95, 96, 97, 98, 99, 100, 101, 102, 103, 104] (by decide +kernel) (by decide +kernel)
set_option maxRecDepth 20000 in
theorem gX11_trim_X11_keep : GoodIn wsX11_trim (wsV RX11 399 RX11 yX11_keep wsX11_keep) := goodIn_app (goodIn_of _ (by decide +kernel)) ggX11_trim_X11_keep
set_option maxRecDepth 20000 in
theorem ggX11_trim_X11_be : GoodIn wsX11_trim wsX11_be := goodIn_r _ [41, 33, 42, 43, 44, 7, 45, 46, 47, 48, 49, 50, 51, 52, 53, 54, 55, 56, 57, 58, 59, 60, 61, 62, 63, 64, 65, 66, 67, 68, 69, 70, 71, 72, 73, 74, 75, 76, 77, 78, 79, 80, 81, 82, 83, 84, 85, 86, 87, 88, 89, 90, 91, 92, 93, 94, 95, 96, 97, 98, 99, 100, 101, 102, 103, 104] (by decide +kernel) (by decide +kernel)
set_option maxRecDepth 20000 in
theorem gX11_trim_X11_be : GoodIn wsX11_trim (wsV RX11 345 RX11 yX11_be wsX11_be) := goodIn_app (goodIn_of _ (by decide +kernel)) ggX11_trim_X11_be
theorem dX11_trim_0 : decode cX11_trim 0 = .ok (.aload_n 0, 1) := by decide +kernel
theorem dX11_trim_1 : decode cX11_trim 1 = .ok (.iconst 0, 1) := by decide +kernel
theorem dX11_trim_2 : decode cX11_trim 2 = .ok (.putfield 142, 3) := by decide +kernel
theorem dX11_trim_5 : decode cX11_trim 5 = .ok (.aload_n 0, 1) := by decide +kernel
theorem dX11_trim_6 : decode cX11_trim 6 = .ok (.iload_n 1, 1) := by decide +kernel
theorem dX11_trim_7 : decode cX11_trim 7 = .ok (.invokevirtual 384, 3) := by decide +kernel
theorem dX11_trim_10 : decode cX11_trim 10 = .ok (.ifCond .ne 9, 3) := by decide +kernel
theorem dX11_trim_13 : decode cX11_trim 13 = .ok (.aload_n 0, 1) := by decide +kernel
theorem dX11_trim_14 : decode cX11_trim 14 = .ok (.iconst 1, 1) := by decide +kernel
theorem dX11_trim_15 : decode cX11_trim 15 = .ok (.invokevirtual 281, 3) := by decide +kernel
theorem dX11_trim_18 : decode cX11_trim 18 = .ok (.ireturn, 1) := by decide +kernel
theorem dX11_trim_19 : decode cX11_trim 19 = .ok (.iload_n 2, 1) := by decide +kernel
theorem dX11_trim_20 : decode cX11_trim 20 = .ok (.i2l, 1) := by decide +kernel
theorem dX11_trim_21 : decode cX11_trim 21 = .ok (.lconst 0, 1) := by decide +kernel
theorem dX11_trim_22 : decode cX11_trim 22 = .ok (.ldc2_w 405, 3) := by decide +kernel
theorem dX11_trim_25 : decode cX11_trim 25 = .ok (.invokestatic 145, 3) := by decide +kernel
theorem dX11_trim_28 : decode cX11_trim 28 = .ok (.ifCond .ne 9, 3) := by decide +kernel
theorem dX11_trim_31 : decode cX11_trim 31 = .ok (.aload_n 0, 1) := by decide +kernel
theorem dX11_trim_32 : decode cX11_trim 32 = .ok (.iconst 1, 1) := by decide +kernel
theorem dX11_trim_33 : decode cX11_trim 33 = .ok (.invokevirtual 396, 3) := by decide +kernel
theorem dX11_trim_36 : decode cX11_trim 36 = .ok (.ireturn, 1) := by decide +kernel
theorem dX11_trim_37 : decode cX11_trim 37 = .ok (.aload_n 0, 1) := by decide +kernel
theorem dX11_trim_38 : decode cX11_trim 38 = .ok (.invokevirtual 399, 3) := by decide +kernel
theorem dX11_trim_41 : decode cX11_trim 41 = .ok (.aload_n 0, 1) := by decide +kernel
theorem dX11_trim_42 : decode cX11_trim 42 = .ok (.getfield 72, 3) := by decide +kernel
theorem dX11_trim_45 : decode cX11_trim 45 = .ok (.iload_n 1, 1) := by decide +kernel
theorem dX11_trim_46 : decode cX11_trim 46 = .ok (.iaload, 1) := by decide +kernel
theorem dX11_trim_47 : decode cX11_trim 47 = .ok (.istore_n 3, 1) := by decide +kernel
theorem dX11_trim_48 : decode cX11_trim 48 = .ok (.aload_n 0, 1) := by decide +kernel
theorem dX11_trim_49 : decode cX11_trim 49 = .ok (.getfield 72, 3) := by decide +kernel
theorem dX11_trim_52 : decode cX11_trim 52 = .ok (.iload_n 1, 1) := by decide +kernel
theorem dX11_trim_53 : decode cX11_trim 53 = .ok (.iload_n 2, 1) := by decide +kernel
theorem dX11_trim_54 : decode cX11_trim 54 = .ok (.iastore, 1) := by decide +kernel
theorem dX11_trim_55 : decode cX11_trim 55 = .ok (.iload_n 2, 1) := by decide +kernel
theorem dX11_trim_56 : decode cX11_trim 56 = .ok (.ifCond .ne 9, 3) := by decide +kernel
theorem dX11_trim_59 : decode cX11_trim 59 = .ok (.aload_n 0, 1) := by decide +kernel
theorem dX11_trim_60 : decode cX11_trim 60 = .ok (.iload_n 1, 1) := by decide +kernel
theorem dX11_trim_61 : decode cX11_trim 61 = .ok (.iconst 0, 1) := by decide +kernel
theorem dX11_trim_62 : decode cX11_trim 62 = .ok (.invokevirtual 345, 3) := by decide +kernel
theorem dX11_trim_65 : decode cX11_trim 65 = .ok (.iload_n 3, 1) := by decide +kernel
theorem dX11_trim_66 : decode cX11_trim 66 = .ok (.ireturn, 1) := by decide +kernel
set_option maxRecDepth 20000 in
theorem ggX11_smash_X11_be : GoodIn wsX11_smash wsX11_be := goodIn_r _ [6, 7, 8, 9, 10, 5, 11, 12, 13, 14, 15, 16, 17, 18, 19, 20, 21, 22, 23, 24, 25, 26, 27, 28, 29, 30, 31, 32, 33, 34, 35, 36, 37, 38, 39, 40, 41, 42, 43, 44, 45, 46, 47, 48, 49, 50, 51, 52, 53, 54, 55, 56, 57, 58, 59, 60, 61, 62, 63, 64, 65, 66, 67, 68, 69, 70] (by decide +kernel) (by decide +kernel)
set_option maxRecDepth 20000 in
theorem gX11_smash_X11_be : GoodIn wsX11_smash (wsV RX11 345 RX11 yX11_be wsX11_be) := goodIn_app (goodIn_of _ (by decide +kernel)) ggX11_smash_X11_be
theorem dX11_smash_0 : decode cX11_smash 0 = .ok (.aload_n 0, 1) := by decide +kernel
theorem dX11_smash_1 : decode cX11_smash 1 = .ok (.dup, 1) := by decide +kernel
theorem dX11_smash_2 : decode cX11_smash 2 = .ok (.getfield 299, 3) := by decide +kernel
theorem dX11_smash_5 : decode cX11_smash 5 = .ok (.iconst 1, 1) := by decide +kernel
theorem dX11_smash_6 : decode cX11_smash 6 = .ok (.iload_n 1, 1) := by decide +kernel
theorem dX11_smash_7 : decode cX11_smash 7 = .ok (.ishl, 1) := by decide +kernel
theorem dX11_smash_8 : decode cX11_smash 8 = .ok (.ior, 1) := by decide +kernel
theorem dX11_smash_9 : decode cX11_smash 9 = .ok (.putfield 299, 3) := by decide +kernel
theorem dX11_smash_12 : decode cX11_smash 12 = .ok (.aload_n 0, 1) := by decide +kernel
theorem dX11_smash_13 : decode cX11_smash 13 = .ok (.iload_n 1, 1) := by decide +kernel
theorem dX11_smash_14 : decode cX11_smash 14 = .ok (.iconst 0, 1) := by decide +kernel
theorem dX11_smash_15 : decode cX11_smash 15 = .ok (.invokevirtual 345, 3) := by decide +kernel
theorem dX11_smash_18 : decode cX11_smash 18 = .ok (.return_, 1) := by decide +kernel
set_option maxRecDepth 20000 in
theorem ggX11_breaks_X11_isLamp : GoodIn wsX11_breaks wsX11_isLamp := goodIn_r _ [8, 9, 10, 11, 7, 12, 49, 50, 51, 52, 53, 54, 55, 56, 57, 58, 59, 60, 61, 62, 63, 64, 65, 66, 67, 68, 69, 70, 71, 72, 73, 74, 75, 76, 77, 78, 79, 80, 81, 82, 83, 84, 85, 86, 87, 88, 89, 90, 91, 92, 93, 94, 95, 96, 97, 98, 99, 100, 101, 102, 103, 104, 105, 106] (by decide +kernel) (by decide +kernel)
set_option maxRecDepth 20000 in
theorem gX11_breaks_X11_isLamp : GoodIn wsX11_breaks (wsV RX11 384 RX11 yX11_isLamp wsX11_isLamp) := goodIn_app (goodIn_of _ (by decide +kernel)) ggX11_breaks_X11_isLamp
set_option maxRecDepth 20000 in
theorem ggX11_breaks_X11_failing : GoodIn wsX11_breaks wsX11_failing := goodIn_r _ [16, 1, 49, 50, 51, 52, 53, 54, 55, 56, 57, 58, 59, 60, 61, 62, 63, 64, 65, 66, 67, 68, 69, 70, 71, 72, 73, 74, 75, 76, 77, 78, 79, 80, 81, 82, 83, 84, 85, 86, 87, 88, 89, 90, 91, 92, 93, 94, 95, 96, 97, 98, 99, 100, 101, 102, 103, 104, 105, 106] (by decide +kernel) (by decide +kernel)
set_option maxRecDepth 20000 in
theorem gX11_breaks_X11_failing : GoodIn wsX11_breaks (wsV RX11 407 RX11 yX11_failing wsX11_failing) := goodIn_app (goodIn_of _ (by decide +kernel)) ggX11_breaks_X11_failing
set_option maxRecDepth 20000 in
theorem ggX11_breaks_X11_isOf : GoodIn wsX11_breaks wsX11_isOf := goodIn_r _ [19] (by decide +kernel) (by decide +kernel)
set_option maxRecDepth 20000 in
theorem gX11_breaks_X11_isOf : GoodIn wsX11_breaks (va_wsS RX11 334 yX11_isOf wsX11_isOf) := goodIn_app (goodIn_of _ (by decide +kernel)) ggX11_breaks_X11_isOf
set_option maxRecDepth 20000 in
theorem ggX11_breaks_X11_keep : GoodIn wsX11_breaks wsX11_keep := goodIn_r _ [23, 24, 25, 26, 27, 28, 7, 29, 30, 31, 2, 32, 33, 34, 35, 49, 50, 51, 52, 53, 54, 55, 56, 57, 58, 59, 60, 61, 62, 63, 64, 65, 66, 67, 68, 69, 70, 71, 72, 73, 74, 75, 76, 77, 78, 79, 80, 81, 82, 83, 84, 85, 86, 87, 88, 89, 90, 91, 92, 93, 94, 95, 96, 97, 98, 99, 100, 101, 102, 103, 104, 105, 106] (by decide +kernel) (by decide +kernel)
set_option maxRecDepth 20000 in
theorem gX11_breaks_X11_keep : GoodIn wsX11_breaks (wsV RX11 399 RX11 yX11_keep wsX11_keep) := goodIn_app (goodIn_of _ (by decide +kernel)) ggX11_breaks_X11_keep
set_option maxRecDepth 20000 in
theorem ggX11_breaks_X11_smash : GoodIn wsX11_breaks wsX11_smash := goodIn_r _ [39, 2, 40, 41, 42, 7, 43, 31, 44, 45, 46, 47, 48, 49, 50, 51, 52, 53, 54, 55, 56, 57, 58, 59, 60, 61, 62, 63, 64, 65, 66, 67, 68, 69, 70, 71, 72, 73, 74, 75, 76, 77, 78, 79, 80, 81, 82, 83, 84, 85, 86, 87, 88, 89, 90, 91, 92, 93, 94, 95, 96, 97, 98, 99, 100, 101, 102, 103, 104, 105, 106] (by decide +kernel) (by decide +kernel)
set_option maxRecDepth 20000 in
theorem gX11_breaks_X11_smash : GoodIn wsX11_breaks (wsV RX11 410 RX11 yX11_smash wsX11_smash) := goodIn_app (goodIn_of _ (by decide +kernel)) ggX11_breaks_X11_smash
theorem dX11_breaks_0 : decode cX11_breaks 0 = .ok (.aload_n 0, 1) := by decide +kernel
theorem dX11_breaks_1 : decode cX11_breaks 1 = .ok (.iconst 0, 1) := by decide +kernel
theorem dX11_breaks_2 : decode cX11_breaks 2 = .ok (.putfield 142, 3) := by decide +kernel
theorem dX11_breaks_5 : decode cX11_breaks 5 = .ok (.aload_n 0, 1) := by decide +kernel
theorem dX11_breaks_6 : decode cX11_breaks 6 = .ok (.iload_n 1, 1) := by decide +kernel
theorem dX11_breaks_7 : decode cX11_breaks 7 = .ok (.invokevirtual 384, 3) := by decide +kernel
theorem dX11_breaks_10 : decode cX11_breaks 10 = .ok (.ifCond .ne 9, 3) := by decide +kernel
theorem dX11_breaks_13 : decode cX11_breaks 13 = .ok (.aload_n 0, 1) := by decide +kernel
theorem dX11_breaks_14 : decode cX11_breaks 14 = .ok (.iconst 1, 1) := by decide +kernel
theorem dX11_breaks_15 : decode cX11_breaks 15 = .ok (.invokevirtual 407, 3) := by decide +kernel
theorem dX11_breaks_18 : decode cX11_breaks 18 = .ok (.ireturn, 1) := by decide +kernel
theorem dX11_breaks_19 : decode cX11_breaks 19 = .ok (.aload_n 0, 1) := by decide +kernel
theorem dX11_breaks_20 : decode cX11_breaks 20 = .ok (.getfield 299, 3) := by decide +kernel
theorem dX11_breaks_23 : decode cX11_breaks 23 = .ok (.iload_n 1, 1) := by decide +kernel
theorem dX11_breaks_24 : decode cX11_breaks 24 = .ok (.invokestatic 334, 3) := by decide +kernel
theorem dX11_breaks_27 : decode cX11_breaks 27 = .ok (.ifCond .eq 15, 3) := by decide +kernel
theorem dX11_breaks_30 : decode cX11_breaks 30 = .ok (.aload_n 0, 1) := by decide +kernel
theorem dX11_breaks_31 : decode cX11_breaks 31 = .ok (.getfield 62, 3) := by decide +kernel
theorem dX11_breaks_34 : decode cX11_breaks 34 = .ok (.iconst 1, 1) := by decide +kernel
theorem dX11_breaks_35 : decode cX11_breaks 35 = .ok (.dup2, 1) := by decide +kernel
theorem dX11_breaks_36 : decode cX11_breaks 36 = .ok (.iaload, 1) := by decide +kernel
theorem dX11_breaks_37 : decode cX11_breaks 37 = .ok (.iconst 1, 1) := by decide +kernel
theorem dX11_breaks_38 : decode cX11_breaks 38 = .ok (.iadd, 1) := by decide +kernel
theorem dX11_breaks_39 : decode cX11_breaks 39 = .ok (.iastore, 1) := by decide +kernel
theorem dX11_breaks_40 : decode cX11_breaks 40 = .ok (.iconst 0, 1) := by decide +kernel
theorem dX11_breaks_41 : decode cX11_breaks 41 = .ok (.ireturn, 1) := by decide +kernel
theorem dX11_breaks_42 : decode cX11_breaks 42 = .ok (.aload_n 0, 1) := by decide +kernel
theorem dX11_breaks_43 : decode cX11_breaks 43 = .ok (.invokevirtual 399, 3) := by decide +kernel
theorem dX11_breaks_46 : decode cX11_breaks 46 = .ok (.aload_n 0, 1) := by decide +kernel
theorem dX11_breaks_47 : decode cX11_breaks 47 = .ok (.iload_n 1, 1) := by decide +kernel
theorem dX11_breaks_48 : decode cX11_breaks 48 = .ok (.invokevirtual 410, 3) := by decide +kernel
theorem dX11_breaks_51 : decode cX11_breaks 51 = .ok (.iconst 1, 1) := by decide +kernel
theorem dX11_breaks_52 : decode cX11_breaks 52 = .ok (.ireturn, 1) := by decide +kernel
set_option maxRecDepth 20000 in
theorem ggX11_give_X11_isLamp : GoodIn wsX11_give wsX11_isLamp := goodIn_r _ [7, 8, 9, 10, 6, 11, 41, 42, 43, 44, 45, 46, 47, 48, 49, 50, 51, 52, 53, 54, 55, 56, 57, 58, 59, 60, 61, 62, 63, 64, 65, 66, 67, 68, 69, 70, 71, 72, 73, 74, 75, 76, 77, 78, 79, 80, 81, 82, 83, 84, 85, 86, 87, 88, 89, 90, 91, 92, 93, 94, 95, 96, 97, 98] (by decide +kernel) (by decide +kernel)
set_option maxRecDepth 20000 in
theorem gX11_give_X11_isLamp : GoodIn wsX11_give (wsV RX11 384 RX11 yX11_isLamp wsX11_isLamp) := goodIn_app (goodIn_of _ (by decide +kernel)) ggX11_give_X11_isLamp
set_option maxRecDepth 20000 in
theorem ggX11_give_X11_isHouse : GoodIn wsX11_give wsX11_isHouse := goodIn_r _ [15, 8, 9, 10, 6, 11, 41, 42, 43, 44, 45, 46, 47, 48, 49, 50, 51, 52, 53, 54, 55, 56, 57, 58, 59, 60, 61, 62, 63, 64, 65, 66, 67, 68, 69, 70, 71, 72, 73, 74, 75, 76, 77, 78, 79, 80, 81, 82, 83, 84, 85, 86, 87, 88, 89, 90, 91, 92, 93, 94, 95, 96, 97, 98] (by decide +kernel) (by decide +kernel)
set_option maxRecDepth 20000 in
theorem gX11_give_X11_isHouse : GoodIn wsX11_give (wsV RX11 379 RX11 yX11_isHouse wsX11_isHouse) := goodIn_app (goodIn_of _ (by decide +kernel)) ggX11_give_X11_isHouse
set_option maxRecDepth 20000 in
theorem ggX11_give_X11_fail : GoodIn wsX11_give wsX11_fail := goodIn_r _ [19, 1, 41, 42, 43, 44, 45, 46, 47, 48, 49, 50, 51, 52, 53, 54, 55, 56, 57, 58, 59, 60, 61, 62, 63, 64, 65, 66, 67, 68, 69, 70, 71, 72, 73, 74, 75, 76, 77, 78, 79, 80, 81, 82, 83, 84, 85, 86, 87, 88, 89, 90, 91, 92, 93, 94, 95, 96, 97, 98] (by decide +kernel) (by decide +kernel)
set_option maxRecDepth 20000 in
theorem gX11_give_X11_fail : GoodIn wsX11_give (wsV RX11 281 RX11 yX11_fail wsX11_fail) := goodIn_app (goodIn_of _ (by decide +kernel)) ggX11_give_X11_fail
set_option maxRecDepth 20000 in
theorem ggX11_give_X11_refuse : GoodIn wsX11_give wsX11_refuse := goodIn_r _ [23, 24, 41, 42, 43, 44, 45, 46, 47, 48, 49, 50, 51, 52, 53, 54, 55, 56, 57, 58, 59, 60, 61, 62, 63, 64, 65, 66, 67, 68, 69, 70, 71, 72, 73, 74, 75, 76, 77, 78, 79, 80, 81, 82, 83, 84, 85, 86, 87, 88, 89, 90, 91, 92, 93, 94, 95, 96, 97, 98] (by decide +kernel) (by decide +kernel)
set_option maxRecDepth 20000 in
theorem gX11_give_X11_refuse : GoodIn wsX11_give (wsV RX11 396 RX11 yX11_refuse wsX11_refuse) := goodIn_app (goodIn_of _ (by decide +kernel)) ggX11_give_X11_refuse
set_option maxRecDepth 20000 in
theorem ggX11_give_X11_keep : GoodIn wsX11_give wsX11_keep := goodIn_r _ [28, 29, 30, 31, 32, 33, 6, 34, 35, 36, 37, 38, 2, 39, 40, 41, 42, 43, 44, 45, 46, 47, 48, 49, 50, 51, 52, 53, 54, 55, 56, 57, 58, 59, 60, 61, 62, 63, 64, 65, 66, 67, 68, 69, 70, 71, 72, 73, 74, 75, 76, 77, 78, 79, 80, 81, 82, 83, 84, 85, 86, 87, 88, 89, 90, 91, 92, 93, 94, 95, 96, 97, 98] (by decide +kernel) (by decide +kernel)
set_option maxRecDepth 20000 in
theorem gX11_give_X11_keep : GoodIn wsX11_give (wsV RX11 399 RX11 yX11_keep wsX11_keep) := goodIn_app (goodIn_of _ (by decide +kernel)) ggX11_give_X11_keep
theorem dX11_give_0 : decode cX11_give 0 = .ok (.aload_n 0, 1) := by decide +kernel
theorem dX11_give_1 : decode cX11_give 1 = .ok (.iconst 0, 1) := by decide +kernel
theorem dX11_give_2 : decode cX11_give 2 = .ok (.putfield 142, 3) := by decide +kernel
theorem dX11_give_5 : decode cX11_give 5 = .ok (.aload_n 0, 1) := by decide +kernel
theorem dX11_give_6 : decode cX11_give 6 = .ok (.iload_n 1, 1) := by decide +kernel
theorem dX11_give_7 : decode cX11_give 7 = .ok (.invokevirtual 384, 3) := by decide +kernel
theorem dX11_give_10 : decode cX11_give 10 = .ok (.ifCond .eq 11, 3) := by decide +kernel
theorem dX11_give_13 : decode cX11_give 13 = .ok (.aload_n 0, 1) := by decide +kernel
theorem dX11_give_14 : decode cX11_give 14 = .ok (.iload_n 2, 1) := by decide +kernel
theorem dX11_give_15 : decode cX11_give 15 = .ok (.invokevirtual 379, 3) := by decide +kernel
theorem dX11_give_18 : decode cX11_give 18 = .ok (.ifCond .ne 9, 3) := by decide +kernel
theorem dX11_give_21 : decode cX11_give 21 = .ok (.aload_n 0, 1) := by decide +kernel
theorem dX11_give_22 : decode cX11_give 22 = .ok (.iconst 1, 1) := by decide +kernel
theorem dX11_give_23 : decode cX11_give 23 = .ok (.invokevirtual 281, 3) := by decide +kernel
theorem dX11_give_26 : decode cX11_give 26 = .ok (.ireturn, 1) := by decide +kernel
theorem dX11_give_27 : decode cX11_give 27 = .ok (.aload_n 0, 1) := by decide +kernel
theorem dX11_give_28 : decode cX11_give 28 = .ok (.getfield 74, 3) := by decide +kernel
theorem dX11_give_31 : decode cX11_give 31 = .ok (.iload_n 1, 1) := by decide +kernel
theorem dX11_give_32 : decode cX11_give 32 = .ok (.iaload, 1) := by decide +kernel
theorem dX11_give_33 : decode cX11_give 33 = .ok (.iload_n 2, 1) := by decide +kernel
theorem dX11_give_34 : decode cX11_give 34 = .ok (.if_icmp .ne 9, 3) := by decide +kernel
theorem dX11_give_37 : decode cX11_give 37 = .ok (.aload_n 0, 1) := by decide +kernel
theorem dX11_give_38 : decode cX11_give 38 = .ok (.iconst 1, 1) := by decide +kernel
theorem dX11_give_39 : decode cX11_give 39 = .ok (.invokevirtual 396, 3) := by decide +kernel
theorem dX11_give_42 : decode cX11_give 42 = .ok (.ireturn, 1) := by decide +kernel
theorem dX11_give_43 : decode cX11_give 43 = .ok (.aload_n 0, 1) := by decide +kernel
theorem dX11_give_44 : decode cX11_give 44 = .ok (.invokevirtual 399, 3) := by decide +kernel
theorem dX11_give_47 : decode cX11_give 47 = .ok (.aload_n 0, 1) := by decide +kernel
theorem dX11_give_48 : decode cX11_give 48 = .ok (.getfield 74, 3) := by decide +kernel
theorem dX11_give_51 : decode cX11_give 51 = .ok (.iload_n 1, 1) := by decide +kernel
theorem dX11_give_52 : decode cX11_give 52 = .ok (.iaload, 1) := by decide +kernel
theorem dX11_give_53 : decode cX11_give 53 = .ok (.istore_n 3, 1) := by decide +kernel
theorem dX11_give_54 : decode cX11_give 54 = .ok (.aload_n 0, 1) := by decide +kernel
theorem dX11_give_55 : decode cX11_give 55 = .ok (.getfield 74, 3) := by decide +kernel
theorem dX11_give_58 : decode cX11_give 58 = .ok (.iload_n 1, 1) := by decide +kernel
theorem dX11_give_59 : decode cX11_give 59 = .ok (.iload_n 2, 1) := by decide +kernel
theorem dX11_give_60 : decode cX11_give 60 = .ok (.iastore, 1) := by decide +kernel
theorem dX11_give_61 : decode cX11_give 61 = .ok (.iload_n 3, 1) := by decide +kernel
theorem dX11_give_62 : decode cX11_give 62 = .ok (.ireturn, 1) := by decide +kernel
set_option maxRecDepth 20000 in
theorem ggX11_sleep_X11_isHouse : GoodIn wsX11_sleep wsX11_isHouse := goodIn_r _ [9, 10, 11, 12, 8, 13, 38, 39, 40, 41, 42, 43, 44, 45, 46, 47, 48, 49, 50, 51, 52, 53, 54, 55, 56, 57, 58, 59, 60, 61, 62, 63, 64, 65, 66, 67, 68, 69, 70, 71, 72, 73, 74, 75, 76, 77, 78, 79, 80, 81, 82, 83, 84, 85, 86, 87, 88, 89, 90, 91, 92, 93, 94, 95] (by decide +kernel) (by decide +kernel)
set_option maxRecDepth 20000 in
theorem gX11_sleep_X11_isHouse : GoodIn wsX11_sleep (wsV RX11 379 RX11 yX11_isHouse wsX11_isHouse) := goodIn_app (goodIn_of _ (by decide +kernel)) ggX11_sleep_X11_isHouse
set_option maxRecDepth 20000 in
theorem ggX11_sleep_X11_fail : GoodIn wsX11_sleep wsX11_fail := goodIn_r _ [17, 1, 38, 39, 40, 41, 42, 43, 44, 45, 46, 47, 48, 49, 50, 51, 52, 53, 54, 55, 56, 57, 58, 59, 60, 61, 62, 63, 64, 65, 66, 67, 68, 69, 70, 71, 72, 73, 74, 75, 76, 77, 78, 79, 80, 81, 82, 83, 84, 85, 86, 87, 88, 89, 90, 91, 92, 93, 94, 95] (by decide +kernel) (by decide +kernel)
set_option maxRecDepth 20000 in
theorem gX11_sleep_X11_fail : GoodIn wsX11_sleep (wsV RX11 281 RX11 yX11_fail wsX11_fail) := goodIn_app (goodIn_of _ (by decide +kernel)) ggX11_sleep_X11_fail
set_option maxRecDepth 20000 in
theorem ggX11_sleep_X11_isIn : GoodIn wsX11_sleep wsX11_isIn := goodIn_r _ [13] (by decide +kernel) (by decide +kernel)
set_option maxRecDepth 20000 in
theorem gX11_sleep_X11_isIn : GoodIn wsX11_sleep (va_wsS RX11 145 yX11_isIn wsX11_isIn) := goodIn_app (goodIn_of _ (by decide +kernel)) ggX11_sleep_X11_isIn
set_option maxRecDepth 20000 in
theorem ggX11_sleep_X11_refuse : GoodIn wsX11_sleep wsX11_refuse := goodIn_r _ [21, 22, 38, 39, 40, 41, 42, 43, 44, 45, 46, 47, 48, 49, 50, 51, 52, 53, 54, 55, 56, 57, 58, 59, 60, 61, 62, 63, 64, 65, 66, 67, 68, 69, 70, 71, 72, 73, 74, 75, 76, 77, 78, 79, 80, 81, 82, 83, 84, 85, 86, 87, 88, 89, 90, 91, 92, 93, 94, 95] (by decide +kernel) (by decide +kernel)
set_option maxRecDepth 20000 in
theorem gX11_sleep_X11_refuse : GoodIn wsX11_sleep (wsV RX11 396 RX11 yX11_refuse wsX11_refuse) := goodIn_app (goodIn_of _ (by decide +kernel)) ggX11_sleep_X11_refuse
set_option maxRecDepth 20000 in
theorem ggX11_sleep_X11_keep : GoodIn wsX11_sleep wsX11_keep := goodIn_r _ [26, 27, 28, 29, 30, 31, 8, 32, 33, 34, 35, 36, 37, 3, 4, 38, 39, 40, 41, 42, 43, 44, 45, 46, 47, 48, 49, 50, 51, 52, 53, 54, 55, 56, 57, 58, 59, 60, 61, 62, 63, 64, 65, 66, 67, 68, 69, 70, 71, 72, 73, 74, 75, 76, 77, 78, 79, 80, 81, 82, 83, 84, 85, 86, 87, 88, 89, 90, 91, 92, 93, 94, 95] (by decide +kernel) (by decide +kernel)
set_option maxRecDepth 20000 in
theorem gX11_sleep_X11_keep : GoodIn wsX11_sleep (wsV RX11 399 RX11 yX11_keep wsX11_keep) := goodIn_app (goodIn_of _ (by decide +kernel)) ggX11_sleep_X11_keep
theorem dX11_sleep_0 : decode cX11_sleep 0 = .ok (.aload_n 0, 1) := by decide +kernel
theorem dX11_sleep_1 : decode cX11_sleep 1 = .ok (.iconst 0, 1) := by decide +kernel
theorem dX11_sleep_2 : decode cX11_sleep 2 = .ok (.putfield 142, 3) := by decide +kernel
theorem dX11_sleep_5 : decode cX11_sleep 5 = .ok (.aload_n 0, 1) := by decide +kernel
theorem dX11_sleep_6 : decode cX11_sleep 6 = .ok (.iload_n 1, 1) := by decide +kernel
theorem dX11_sleep_7 : decode cX11_sleep 7 = .ok (.invokevirtual 379, 3) := by decide +kernel
theorem dX11_sleep_10 : decode cX11_sleep 10 = .ok (.ifCond .ne 9, 3) := by decide +kernel
theorem dX11_sleep_13 : decode cX11_sleep 13 = .ok (.aload_n 0, 1) := by decide +kernel
theorem dX11_sleep_14 : decode cX11_sleep 14 = .ok (.iconst 1, 1) := by decide +kernel
theorem dX11_sleep_15 : decode cX11_sleep 15 = .ok (.invokevirtual 281, 3) := by decide +kernel
theorem dX11_sleep_18 : decode cX11_sleep 18 = .ok (.ireturn, 1) := by decide +kernel
theorem dX11_sleep_19 : decode cX11_sleep 19 = .ok (.iload_n 2, 1) := by decide +kernel
theorem dX11_sleep_20 : decode cX11_sleep 20 = .ok (.i2l, 1) := by decide +kernel
theorem dX11_sleep_21 : decode cX11_sleep 21 = .ok (.lconst 0, 1) := by decide +kernel
theorem dX11_sleep_22 : decode cX11_sleep 22 = .ok (.ldc2_w 413, 3) := by decide +kernel
theorem dX11_sleep_25 : decode cX11_sleep 25 = .ok (.invokestatic 145, 3) := by decide +kernel
theorem dX11_sleep_28 : decode cX11_sleep 28 = .ok (.ifCond .eq 15, 3) := by decide +kernel
theorem dX11_sleep_31 : decode cX11_sleep 31 = .ok (.iload_n 3, 1) := by decide +kernel
theorem dX11_sleep_32 : decode cX11_sleep 32 = .ok (.i2l, 1) := by decide +kernel
theorem dX11_sleep_33 : decode cX11_sleep 33 = .ok (.lconst 0, 1) := by decide +kernel
theorem dX11_sleep_34 : decode cX11_sleep 34 = .ok (.ldc2_w 413, 3) := by decide +kernel
theorem dX11_sleep_37 : decode cX11_sleep 37 = .ok (.invokestatic 145, 3) := by decide +kernel
theorem dX11_sleep_40 : decode cX11_sleep 40 = .ok (.ifCond .ne 9, 3) := by decide +kernel
theorem dX11_sleep_43 : decode cX11_sleep 43 = .ok (.aload_n 0, 1) := by decide +kernel
theorem dX11_sleep_44 : decode cX11_sleep 44 = .ok (.iconst 1, 1) := by decide +kernel
theorem dX11_sleep_45 : decode cX11_sleep 45 = .ok (.invokevirtual 396, 3) := by decide +kernel
theorem dX11_sleep_48 : decode cX11_sleep 48 = .ok (.ireturn, 1) := by decide +kernel
theorem dX11_sleep_49 : decode cX11_sleep 49 = .ok (.aload_n 0, 1) := by decide +kernel
theorem dX11_sleep_50 : decode cX11_sleep 50 = .ok (.invokevirtual 399, 3) := by decide +kernel
theorem dX11_sleep_53 : decode cX11_sleep 53 = .ok (.bipush 24, 2) := by decide +kernel
theorem dX11_sleep_55 : decode cX11_sleep 55 = .ok (.aload_n 0, 1) := by decide +kernel
theorem dX11_sleep_56 : decode cX11_sleep 56 = .ok (.getfield 76, 3) := by decide +kernel
theorem dX11_sleep_59 : decode cX11_sleep 59 = .ok (.iload_n 1, 1) := by decide +kernel
theorem dX11_sleep_60 : decode cX11_sleep 60 = .ok (.iaload, 1) := by decide +kernel
theorem dX11_sleep_61 : decode cX11_sleep 61 = .ok (.imul, 1) := by decide +kernel
