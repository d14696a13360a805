set_option maxRecDepth 20000 in
theorem gX6_keep_X6_copies : GoodIn wsX6_keep (va_wsS RX6 32 yX6_copies wsX6_copies) := goodIn_app (goodIn_of _ (by decide +kernel)) ggX6_keep_X6_copies
set_option maxRecDepth 20000 in
theorem ggX6_keep_X6_sum : GoodIn wsX6_keep wsX6_sum := goodIn_r _ [12, 13, 14, 15, 7, 16, 3, 17, 18, 19, 20, 21, 22, 23, 24, 25, 26, 27, 28, 29, 30, 31, 32, 33, 34] (by decide +kernel) (by decide +kernel)
set_option maxRecDepth 20000 in
theorem gX6_keep_X6_sum : GoodIn wsX6_keep (wsV RX6 69 RX6 yX6_sum wsX6_sum) := goodIn_app (goodIn_of _ (by decide +kernel)) ggX6_keep_X6_sum
theorem dX6_keep_0 : decode cX6_keep 0 = .ok (.aload_n 0, 1) := by decide +kernel
theorem dX6_keep_1 : decode cX6_keep 1 = .ok (.iconst 0, 1) := by decide +kernel
theorem dX6_keep_2 : decode cX6_keep 2 = .ok (.putfield 28, 3) := by decide +kernel
theorem dX6_keep_5 : decode cX6_keep 5 = .ok (.aload_n 0, 1) := by decide +kernel
theorem dX6_keep_6 : decode cX6_keep 6 = .ok (.iconst 1, 1) := by decide +kernel
theorem dX6_keep_7 : decode cX6_keep 7 = .ok (.putfield 108, 3) := by decide +kernel
theorem dX6_keep_10 : decode cX6_keep 10 = .ok (.aload_n 0, 1) := by decide +kernel
theorem dX6_keep_11 : decode cX6_keep 11 = .ok (.getfield 7, 3) := by decide +kernel
theorem dX6_keep_14 : decode cX6_keep 14 = .ok (.iconst 0, 1) := by decide +kernel
theorem dX6_keep_15 : decode cX6_keep 15 = .ok (.aload_n 0, 1) := by decide +kernel
theorem dX6_keep_16 : decode cX6_keep 16 = .ok (.getfield 19, 3) := by decide +kernel
theorem dX6_keep_19 : decode cX6_keep 19 = .ok (.iconst 0, 1) := by decide +kernel
theorem dX6_keep_20 : decode cX6_keep 20 = .ok (.invokestatic 32, 3) := by decide +kernel
theorem dX6_keep_23 : decode cX6_keep 23 = .ok (.aload_n 0, 1) := by decide +kernel
theorem dX6_keep_24 : decode cX6_keep 24 = .ok (.iconst 0, 1) := by decide +kernel
theorem dX6_keep_25 : decode cX6_keep 25 = .ok (.invokevirtual 69, 3) := by decide +kernel
theorem dX6_keep_28 : decode cX6_keep 28 = .ok (.ireturn, 1) := by decide +kernel
set_option maxRecDepth 20000 in
theorem ggX6_goBack_X6_begins : GoodIn wsX6_goBack wsX6_begins := goodIn_r _ [8, 9, 3, 10, 11, 12, 7, 13, 32, 33, 34, 35, 36, 37, 38, 39, 40, 41, 42, 43, 44, 45, 46, 47, 48, 49] (by decide +kernel) (by decide +kernel)
set_option maxRecDepth 20000 in
theorem gX6_goBack_X6_begins : GoodIn wsX6_goBack (wsV RX6 84 RX6 yX6_begins wsX6_begins) := goodIn_app (goodIn_of _ (by decide +kernel)) ggX6_goBack_X6_begins
set_option maxRecDepth 20000 in
theorem ggX6_goBack_X6_fails : GoodIn wsX6_goBack wsX6_fails := goodIn_r _ [17, 9, 32, 33, 34, 35, 36, 37, 38, 39, 40, 41, 42, 43, 44, 45, 46, 47, 48, 49] (by decide +kernel) (by decide +kernel)
set_option maxRecDepth 20000 in
theorem gX6_goBack_X6_fails : GoodIn wsX6_goBack (wsV RX6 39 RX6 yX6_fails wsX6_fails) := goodIn_app (goodIn_of _ (by decide +kernel)) ggX6_goBack_X6_fails
set_option maxRecDepth 20000 in
theorem ggX6_goBack_X6_copies : GoodIn wsX6_goBack wsX6_copies := goodIn_r _ [13] (by decide +kernel) (by decide +kernel)
set_option maxRecDepth 20000 in
theorem gX6_goBack_X6_copies : GoodIn wsX6_goBack (va_wsS RX6 32 yX6_copies wsX6_copies) := goodIn_app (goodIn_of _ (by decide +kernel)) ggX6_goBack_X6_copies
set_option maxRecDepth 20000 in
theorem ggX6_goBack_X6_records : GoodIn wsX6_goBack wsX6_records := goodIn_r _ [21, 22, 23, 10, 11, 12, 7, 13, 32, 33, 34, 35, 36, 37, 38, 39, 40, 41, 42, 43, 44, 45, 46, 47, 48, 49] (by decide +kernel) (by decide +kernel)
set_option maxRecDepth 20000 in
theorem gX6_goBack_X6_records : GoodIn wsX6_goBack (wsV RX6 43 RX6 yX6_records wsX6_records) := goodIn_app (goodIn_of _ (by decide +kernel)) ggX6_goBack_X6_records
set_option maxRecDepth 20000 in
theorem ggX6_goBack_X6_sum : GoodIn wsX6_goBack wsX6_sum := goodIn_r _ [27, 28, 29, 30, 7, 31, 3, 32, 33, 34, 35, 36, 37, 38, 39, 40, 41, 42, 43, 44, 45, 46, 47, 48, 49] (by decide +kernel) (by decide +kernel)
set_option maxRecDepth 20000 in
theorem gX6_goBack_X6_sum : GoodIn wsX6_goBack (wsV RX6 69 RX6 yX6_sum wsX6_sum) := goodIn_app (goodIn_of _ (by decide +kernel)) ggX6_goBack_X6_sum
theorem dX6_goBack_0 : decode cX6_goBack 0 = .ok (.aload_n 0, 1) := by decide +kernel
theorem dX6_goBack_1 : decode cX6_goBack 1 = .ok (.invokevirtual 84, 3) := by decide +kernel
theorem dX6_goBack_4 : decode cX6_goBack 4 = .ok (.aload_n 0, 1) := by decide +kernel
theorem dX6_goBack_5 : decode cX6_goBack 5 = .ok (.getfield 108, 3) := by decide +kernel
theorem dX6_goBack_8 : decode cX6_goBack 8 = .ok (.ifCond .ne 9, 3) := by decide +kernel
theorem dX6_goBack_11 : decode cX6_goBack 11 = .ok (.aload_n 0, 1) := by decide +kernel
theorem dX6_goBack_12 : decode cX6_goBack 12 = .ok (.iconst 1, 1) := by decide +kernel
theorem dX6_goBack_13 : decode cX6_goBack 13 = .ok (.invokevirtual 39, 3) := by decide +kernel
theorem dX6_goBack_16 : decode cX6_goBack 16 = .ok (.ireturn, 1) := by decide +kernel
theorem dX6_goBack_17 : decode cX6_goBack 17 = .ok (.aload_n 0, 1) := by decide +kernel
theorem dX6_goBack_18 : decode cX6_goBack 18 = .ok (.getfield 19, 3) := by decide +kernel
theorem dX6_goBack_21 : decode cX6_goBack 21 = .ok (.iconst 0, 1) := by decide +kernel
theorem dX6_goBack_22 : decode cX6_goBack 22 = .ok (.aload_n 0, 1) := by decide +kernel
theorem dX6_goBack_23 : decode cX6_goBack 23 = .ok (.getfield 7, 3) := by decide +kernel
theorem dX6_goBack_26 : decode cX6_goBack 26 = .ok (.iconst 0, 1) := by decide +kernel
theorem dX6_goBack_27 : decode cX6_goBack 27 = .ok (.invokestatic 32, 3) := by decide +kernel
theorem dX6_goBack_30 : decode cX6_goBack 30 = .ok (.aload_n 0, 1) := by decide +kernel
theorem dX6_goBack_31 : decode cX6_goBack 31 = .ok (.invokevirtual 43, 3) := by decide +kernel
theorem dX6_goBack_34 : decode cX6_goBack 34 = .ok (.aload_n 0, 1) := by decide +kernel
theorem dX6_goBack_35 : decode cX6_goBack 35 = .ok (.iconst 0, 1) := by decide +kernel
theorem dX6_goBack_36 : decode cX6_goBack 36 = .ok (.invokevirtual 69, 3) := by decide +kernel
theorem dX6_goBack_39 : decode cX6_goBack 39 = .ok (.ireturn, 1) := by decide +kernel
theorem dX6_asks_0 : decode cX6_asks 0 = .ok (.aload_n 0, 1) := by decide +kernel
theorem dX6_asks_1 : decode cX6_asks 1 = .ok (.iload_n 1, 1) := by decide +kernel
theorem dX6_asks_2 : decode cX6_asks 2 = .ok (.ifCond .eq 7, 3) := by decide +kernel
theorem dX6_asks_5 : decode cX6_asks 5 = .ok (.iconst 0, 1) := by decide +kernel
theorem dX6_asks_6 : decode cX6_asks 6 = .ok (.goto 4, 3) := by decide +kernel
theorem dX6_asks_9 : decode cX6_asks 9 = .ok (.iconst 1, 1) := by decide +kernel
theorem dX6_asks_10 : decode cX6_asks 10 = .ok (.putfield 28, 3) := by decide +kernel
theorem dX6_asks_13 : decode cX6_asks 13 = .ok (.iload_n 1, 1) := by decide +kernel
theorem dX6_asks_14 : decode cX6_asks 14 = .ok (.ireturn, 1) := by decide +kernel
set_option maxRecDepth 20000 in
theorem ggX6_told_X6_isDoor : GoodIn wsX6_told wsX6_isDoor := goodIn_r _ [4, 5, 6, 3, 7] (by decide +kernel) (by decide +kernel)
set_option maxRecDepth 20000 in
theorem gX6_told_X6_isDoor : GoodIn wsX6_told (va_wsS RX6 65 yX6_isDoor wsX6_isDoor) := goodIn_app (goodIn_of _ (by decide +kernel)) ggX6_told_X6_isDoor
set_option maxRecDepth 20000 in
theorem ggX6_told_X6_asks : GoodIn wsX6_told wsX6_asks := goodIn_r _ [11, 12, 18, 19, 20, 21, 22, 23, 24, 25, 26, 27, 28, 29, 30, 31, 32, 33, 34, 35] (by decide +kernel) (by decide +kernel)
set_option maxRecDepth 20000 in
theorem gX6_told_X6_asks : GoodIn wsX6_told (wsV RX6 112 RX6 yX6_asks wsX6_asks) := goodIn_app (goodIn_of _ (by decide +kernel)) ggX6_told_X6_asks
set_option maxRecDepth 20000 in
theorem ggX6_told_X6_of : GoodIn wsX6_told wsX6_of := goodIn_r _ [16, 17, 18, 19, 20, 21, 22, 23, 24, 25, 26, 27, 28, 29, 30, 31, 32, 33, 34, 35] (by decide +kernel) (by decide +kernel)
set_option maxRecDepth 20000 in
theorem gX6_told_X6_of : GoodIn wsX6_told (wsV RX6 50 RX6 yX6_of wsX6_of) := goodIn_app (goodIn_of _ (by decide +kernel)) ggX6_told_X6_of
theorem dX6_told_0 : decode cX6_told 0 = .ok (.aload_n 0, 1) := by decide +kernel
theorem dX6_told_1 : decode cX6_told 1 = .ok (.iload_n 1, 1) := by decide +kernel
theorem dX6_told_2 : decode cX6_told 2 = .ok (.invokestatic 65, 3) := by decide +kernel
theorem dX6_told_5 : decode cX6_told 5 = .ok (.invokevirtual 112, 3) := by decide +kernel
theorem dX6_told_8 : decode cX6_told 8 = .ok (.ifCond .eq 12, 3) := by decide +kernel
theorem dX6_told_11 : decode cX6_told 11 = .ok (.aload_n 0, 1) := by decide +kernel
theorem dX6_told_12 : decode cX6_told 12 = .ok (.iload_n 1, 1) := by decide +kernel
theorem dX6_told_13 : decode cX6_told 13 = .ok (.iload_n 2, 1) := by decide +kernel
theorem dX6_told_14 : decode cX6_told 14 = .ok (.invokevirtual 50, 3) := by decide +kernel
theorem dX6_told_17 : decode cX6_told 17 = .ok (.goto 4, 3) := by decide +kernel
theorem dX6_told_20 : decode cX6_told 20 = .ok (.iconst 0, 1) := by decide +kernel
theorem dX6_told_21 : decode cX6_told 21 = .ok (.ireturn, 1) := by decide +kernel
set_option maxRecDepth 20000 in
theorem ggX6_isOpen_X6_told : GoodIn wsX6_isOpen wsX6_told := goodIn_r _ [5, 6, 7, 4, 8, 9, 10, 11, 12, 13, 14, 15, 16, 17, 18, 19, 20, 21, 22, 23, 24, 25, 26, 27, 28, 29, 30, 31, 32, 33, 34, 35, 36, 37, 38, 39] (by decide +kernel) (by decide +kernel)
set_option maxRecDepth 20000 in
theorem gX6_isOpen_X6_told : GoodIn wsX6_isOpen (wsV RX6 116 RX6 yX6_told wsX6_told) := goodIn_app (goodIn_of _ (by decide +kernel)) ggX6_isOpen_X6_told
theorem dX6_isOpen_0 : decode cX6_isOpen 0 = .ok (.aload_n 0, 1) := by decide +kernel
theorem dX6_isOpen_1 : decode cX6_isOpen 1 = .ok (.iload_n 1, 1) := by decide +kernel
theorem dX6_isOpen_2 : decode cX6_isOpen 2 = .ok (.iconst 0, 1) := by decide +kernel
theorem dX6_isOpen_3 : decode cX6_isOpen 3 = .ok (.invokevirtual 116, 3) := by decide +kernel
theorem dX6_isOpen_6 : decode cX6_isOpen 6 = .ok (.iconst 1, 1) := by decide +kernel
theorem dX6_isOpen_7 : decode cX6_isOpen 7 = .ok (.if_icmp .ne 7, 3) := by decide +kernel
theorem dX6_isOpen_10 : decode cX6_isOpen 10 = .ok (.iconst 1, 1) := by decide +kernel
theorem dX6_isOpen_11 : decode cX6_isOpen 11 = .ok (.goto 4, 3) := by decide +kernel
theorem dX6_isOpen_14 : decode cX6_isOpen 14 = .ok (.iconst 0, 1) := by decide +kernel
theorem dX6_isOpen_15 : decode cX6_isOpen 15 = .ok (.ireturn, 1) := by decide +kernel
set_option maxRecDepth 20000 in
theorem ggX6_isLocked_X6_told : GoodIn wsX6_isLocked wsX6_told := goodIn_r _ [5, 6, 7, 4, 8, 9, 10, 11, 12, 13, 14, 15, 16, 17, 18, 19, 20, 21, 22, 23, 24, 25, 26, 27, 28, 29, 30, 31, 32, 33, 34, 35, 36, 37, 38, 39] (by decide +kernel) (by decide +kernel)
set_option maxRecDepth 20000 in
theorem gX6_isLocked_X6_told : GoodIn wsX6_isLocked (wsV RX6 116 RX6 yX6_told wsX6_told) := goodIn_app (goodIn_of _ (by decide +kernel)) ggX6_isLocked_X6_told
theorem dX6_isLocked_0 : decode cX6_isLocked 0 = .ok (.aload_n 0, 1) := by decide +kernel
theorem dX6_isLocked_1 : decode cX6_isLocked 1 = .ok (.iload_n 1, 1) := by decide +kernel
theorem dX6_isLocked_2 : decode cX6_isLocked 2 = .ok (.bipush 48, 2) := by decide +kernel
theorem dX6_isLocked_4 : decode cX6_isLocked 4 = .ok (.invokevirtual 116, 3) := by decide +kernel
theorem dX6_isLocked_7 : decode cX6_isLocked 7 = .ok (.iconst 1, 1) := by decide +kernel
theorem dX6_isLocked_8 : decode cX6_isLocked 8 = .ok (.if_icmp .ne 7, 3) := by decide +kernel
theorem dX6_isLocked_11 : decode cX6_isLocked 11 = .ok (.iconst 1, 1) := by decide +kernel
theorem dX6_isLocked_12 : decode cX6_isLocked 12 = .ok (.goto 4, 3) := by decide +kernel
theorem dX6_isLocked_15 : decode cX6_isLocked 15 = .ok (.iconst 0, 1) := by decide +kernel
theorem dX6_isLocked_16 : decode cX6_isLocked 16 = .ok (.ireturn, 1) := by decide +kernel
set_option maxRecDepth 20000 in
theorem ggX6_turnsOf_X6_told : GoodIn wsX6_turnsOf wsX6_told := goodIn_r _ [5, 6, 7, 4, 8, 9, 10, 11, 12, 13, 14, 15, 16, 17, 18, 19, 20, 21, 22, 23, 24, 25, 26, 27, 28, 29, 30, 31, 32, 33, 34, 35, 36, 37, 38, 39] (by decide +kernel) (by decide +kernel)
set_option maxRecDepth 20000 in
theorem gX6_turnsOf_X6_told : GoodIn wsX6_turnsOf (wsV RX6 116 RX6 yX6_told wsX6_told) := goodIn_app (goodIn_of _ (by decide +kernel)) ggX6_turnsOf_X6_told
theorem dX6_turnsOf_0 : decode cX6_turnsOf 0 = .ok (.aload_n 0, 1) := by decide +kernel
theorem dX6_turnsOf_1 : decode cX6_turnsOf 1 = .ok (.iload_n 1, 1) := by decide +kernel
theorem dX6_turnsOf_2 : decode cX6_turnsOf 2 = .ok (.bipush 96, 2) := by decide +kernel
theorem dX6_turnsOf_4 : decode cX6_turnsOf 4 = .ok (.invokevirtual 116, 3) := by decide +kernel
theorem dX6_turnsOf_7 : decode cX6_turnsOf 7 = .ok (.ireturn, 1) := by decide +kernel
set_option maxRecDepth 20000 in
theorem ggX6_isSkipped_X6_told : GoodIn wsX6_isSkipped wsX6_told := goodIn_r _ [5, 6, 7, 4, 8, 9, 10, 11, 12, 13, 14, 15, 16, 17, 18, 19, 20, 21, 22, 23, 24, 25, 26, 27, 28, 29, 30, 31, 32, 33, 34, 35, 36, 37, 38, 39] (by decide +kernel) (by decide +kernel)
set_option maxRecDepth 20000 in
theorem gX6_isSkipped_X6_told : GoodIn wsX6_isSkipped (wsV RX6 116 RX6 yX6_told wsX6_told) := goodIn_app (goodIn_of _ (by decide +kernel)) ggX6_isSkipped_X6_told
theorem dX6_isSkipped_0 : decode cX6_isSkipped 0 = .ok (.aload_n 0, 1) := by decide +kernel
theorem dX6_isSkipped_1 : decode cX6_isSkipped 1 = .ok (.iload_n 1, 1) := by decide +kernel
theorem dX6_isSkipped_2 : decode cX6_isSkipped 2 = .ok (.sipush 144, 3) := by decide +kernel
theorem dX6_isSkipped_5 : decode cX6_isSkipped 5 = .ok (.invokevirtual 116, 3) := by decide +kernel
theorem dX6_isSkipped_8 : decode cX6_isSkipped 8 = .ok (.iconst 1, 1) := by decide +kernel
theorem dX6_isSkipped_9 : decode cX6_isSkipped 9 = .ok (.if_icmp .ne 7, 3) := by decide +kernel
theorem dX6_isSkipped_12 : decode cX6_isSkipped 12 = .ok (.iconst 1, 1) := by decide +kernel
theorem dX6_isSkipped_13 : decode cX6_isSkipped 13 = .ok (.goto 4, 3) := by decide +kernel
theorem dX6_isSkipped_16 : decode cX6_isSkipped 16 = .ok (.iconst 0, 1) := by decide +kernel
theorem dX6_isSkipped_17 : decode cX6_isSkipped 17 = .ok (.ireturn, 1) := by decide +kernel
set_option maxRecDepth 20000 in
theorem ggX6_timesOf_X6_told : GoodIn wsX6_timesOf wsX6_told := goodIn_r _ [5, 6, 7, 4, 8, 9, 10, 11, 12, 13, 14, 15, 16, 17, 18, 19, 20, 21, 22, 23, 24, 25, 26, 27, 28, 29, 30, 31, 32, 33, 34, 35, 36, 37, 38, 39] (by decide +kernel) (by decide +kernel)
set_option maxRecDepth 20000 in
theorem gX6_timesOf_X6_told : GoodIn wsX6_timesOf (wsV RX6 116 RX6 yX6_told wsX6_told) := goodIn_app (goodIn_of _ (by decide +kernel)) ggX6_timesOf_X6_told
theorem dX6_timesOf_0 : decode cX6_timesOf 0 = .ok (.aload_n 0, 1) := by decide +kernel
theorem dX6_timesOf_1 : decode cX6_timesOf 1 = .ok (.iload_n 1, 1) := by decide +kernel
theorem dX6_timesOf_2 : decode cX6_timesOf 2 = .ok (.sipush 192, 3) := by decide +kernel
theorem dX6_timesOf_5 : decode cX6_timesOf 5 = .ok (.invokevirtual 116, 3) := by decide +kernel
theorem dX6_timesOf_8 : decode cX6_timesOf 8 = .ok (.ireturn, 1) := by decide +kernel
set_option maxRecDepth 20000 in
theorem ggX6_divisorsOf_X6_isDoor : GoodIn wsX6_divisorsOf wsX6_isDoor := goodIn_r _ [4, 5, 6, 3, 7] (by decide +kernel) (by decide +kernel)
set_option maxRecDepth 20000 in
theorem gX6_divisorsOf_X6_isDoor : GoodIn wsX6_divisorsOf (va_wsS RX6 65 yX6_isDoor wsX6_isDoor) := goodIn_app (goodIn_of _ (by decide +kernel)) ggX6_divisorsOf_X6_isDoor
set_option maxRecDepth 20000 in
theorem ggX6_divisorsOf_X6_asks : GoodIn wsX6_divisorsOf wsX6_asks := goodIn_r _ [11, 12, 13, 14, 15, 16, 17, 18, 19, 20, 21, 22, 23, 24, 25, 26, 27, 28, 29, 30] (by decide +kernel) (by decide +kernel)
set_option maxRecDepth 20000 in
theorem gX6_divisorsOf_X6_asks : GoodIn wsX6_divisorsOf (wsV RX6 112 RX6 yX6_asks wsX6_asks) := goodIn_app (goodIn_of _ (by decide +kernel)) ggX6_divisorsOf_X6_asks
theorem dX6_divisorsOf_0 : decode cX6_divisorsOf 0 = .ok (.aload_n 0, 1) := by decide +kernel
theorem dX6_divisorsOf_1 : decode cX6_divisorsOf 1 = .ok (.iload_n 1, 1) := by decide +kernel
theorem dX6_divisorsOf_2 : decode cX6_divisorsOf 2 = .ok (.invokestatic 65, 3) := by decide +kernel
theorem dX6_divisorsOf_5 : decode cX6_divisorsOf 5 = .ok (.invokevirtual 112, 3) := by decide +kernel
theorem dX6_divisorsOf_8 : decode cX6_divisorsOf 8 = .ok (.ifCond .ne 5, 3) := by decide +kernel
theorem dX6_divisorsOf_11 : decode cX6_divisorsOf 11 = .ok (.iconst 0, 1) := by decide +kernel
theorem dX6_divisorsOf_12 : decode cX6_divisorsOf 12 = .ok (.ireturn, 1) := by decide +kernel
theorem dX6_divisorsOf_13 : decode cX6_divisorsOf 13 = .ok (.iconst 0, 1) := by decide +kernel
theorem dX6_divisorsOf_14 : decode cX6_divisorsOf 14 = .ok (.istore_n 2, 1) := by decide +kernel
theorem dX6_divisorsOf_15 : decode cX6_divisorsOf 15 = .ok (.iconst 1, 1) := by decide +kernel
theorem dX6_divisorsOf_16 : decode cX6_divisorsOf 16 = .ok (.istore_n 3, 1) := by decide +kernel
theorem dX6_divisorsOf_17 : decode cX6_divisorsOf 17 = .ok (.iload_n 3, 1) := by decide +kernel
theorem dX6_divisorsOf_18 : decode cX6_divisorsOf 18 = .ok (.iload_n 1, 1) := by decide +kernel
theorem dX6_divisorsOf_19 : decode cX6_divisorsOf 19 = .ok (.if_icmp .gt 23, 3) := by decide +kernel
theorem dX6_divisorsOf_22 : decode cX6_divisorsOf 22 = .ok (.iload_n 2, 1) := by decide +kernel
theorem dX6_divisorsOf_23 : decode cX6_divisorsOf 23 = .ok (.iload_n 1, 1) := by decide +kernel
theorem dX6_divisorsOf_24 : decode cX6_divisorsOf 24 = .ok (.iload_n 3, 1) := by decide +kernel
theorem dX6_divisorsOf_25 : decode cX6_divisorsOf 25 = .ok (.irem, 1) := by decide +kernel
theorem dX6_divisorsOf_26 : decode cX6_divisorsOf 26 = .ok (.ifCond .ne 7, 3) := by decide +kernel
theorem dX6_divisorsOf_29 : decode cX6_divisorsOf 29 = .ok (.iconst 1, 1) := by decide +kernel
theorem dX6_divisorsOf_30 : decode cX6_divisorsOf 30 = .ok (.goto 4, 3) := by decide +kernel
theorem dX6_divisorsOf_33 : decode cX6_divisorsOf 33 = .ok (.iconst 0, 1) := by decide +kernel
theorem dX6_divisorsOf_34 : decode cX6_divisorsOf 34 = .ok (.iadd, 1) := by decide +kernel
theorem dX6_divisorsOf_35 : decode cX6_divisorsOf 35 = .ok (.istore_n 2, 1) := by decide +kernel
theorem dX6_divisorsOf_36 : decode cX6_divisorsOf 36 = .ok (.iinc 3 1, 3) := by decide +kernel
theorem dX6_divisorsOf_39 : decode cX6_divisorsOf 39 = .ok (.goto (-22), 3) := by decide +kernel
theorem dX6_divisorsOf_42 : decode cX6_divisorsOf 42 = .ok (.iload_n 2, 1) := by decide +kernel
theorem dX6_divisorsOf_43 : decode cX6_divisorsOf 43 = .ok (.ireturn, 1) := by decide +kernel
set_option maxRecDepth 20000 in
theorem ggX6_allOpen_X6_sum : GoodIn wsX6_allOpen wsX6_sum := goodIn_r _ [6, 7, 8, 9, 5, 10, 11, 12, 13, 14, 15, 16, 17, 18, 19, 20, 21, 22, 23, 24, 25, 26, 27, 28, 29] (by decide +kernel) (by decide +kernel)
set_option maxRecDepth 20000 in
theorem gX6_allOpen_X6_sum : GoodIn wsX6_allOpen (wsV RX6 69 RX6 yX6_sum wsX6_sum) := goodIn_app (goodIn_of _ (by decide +kernel)) ggX6_allOpen_X6_sum
theorem dX6_allOpen_0 : decode cX6_allOpen 0 = .ok (.aload_n 0, 1) := by decide +kernel
theorem dX6_allOpen_1 : decode cX6_allOpen 1 = .ok (.iconst 0, 1) := by decide +kernel
theorem dX6_allOpen_2 : decode cX6_allOpen 2 = .ok (.putfield 28, 3) := by decide +kernel
theorem dX6_allOpen_5 : decode cX6_allOpen 5 = .ok (.aload_n 0, 1) := by decide +kernel
theorem dX6_allOpen_6 : decode cX6_allOpen 6 = .ok (.iconst 0, 1) := by decide +kernel
theorem dX6_allOpen_7 : decode cX6_allOpen 7 = .ok (.invokevirtual 69, 3) := by decide +kernel
theorem dX6_allOpen_10 : decode cX6_allOpen 10 = .ok (.ireturn, 1) := by decide +kernel
set_option maxRecDepth 20000 in
theorem ggX6_openDoors_X6_allOpen : GoodIn wsX6_openDoors wsX6_allOpen := goodIn_r _ [5, 6, 7, 8, 9, 4, 10, 11, 12, 13, 14, 15, 16, 17, 18, 19, 20, 21, 22, 23, 24, 25, 26, 27, 28, 29, 30, 31, 32, 33] (by decide +kernel) (by decide +kernel)
set_option maxRecDepth 20000 in
theorem gX6_openDoors_X6_allOpen : GoodIn wsX6_openDoors (wsV RX6 119 RX6 yX6_allOpen wsX6_allOpen) := goodIn_app (goodIn_of _ (by decide +kernel)) ggX6_openDoors_X6_allOpen
theorem dX6_openDoors_0 : decode cX6_openDoors 0 = .ok (.aload_n 0, 1) := by decide +kernel
theorem dX6_openDoors_1 : decode cX6_openDoors 1 = .ok (.invokevirtual 119, 3) := by decide +kernel
theorem dX6_openDoors_4 : decode cX6_openDoors 4 = .ok (.ireturn, 1) := by decide +kernel
set_option maxRecDepth 20000 in
theorem ggX6_openByTurns_X6_allOpen : GoodIn wsX6_openByTurns wsX6_allOpen := goodIn_r _ [5, 6, 7, 8, 9, 4, 10, 11, 12, 13, 14, 15, 16, 17, 18, 19, 20, 21, 22, 23, 24, 25, 26, 27, 28, 29, 30, 31, 32, 33] (by decide +kernel) (by decide +kernel)
set_option maxRecDepth 20000 in
theorem gX6_openByTurns_X6_allOpen : GoodIn wsX6_openByTurns (wsV RX6 119 RX6 yX6_allOpen wsX6_allOpen) := goodIn_app (goodIn_of _ (by decide +kernel)) ggX6_openByTurns_X6_allOpen
theorem dX6_openByTurns_0 : decode cX6_openByTurns 0 = .ok (.aload_n 0, 1) := by decide +kernel
theorem dX6_openByTurns_1 : decode cX6_openByTurns 1 = .ok (.invokevirtual 119, 3) := by decide +kernel
theorem dX6_openByTurns_4 : decode cX6_openByTurns 4 = .ok (.ireturn, 1) := by decide +kernel
set_option maxRecDepth 20000 in
theorem ggX6_opened_X6_of : GoodIn wsX6_opened wsX6_of := goodIn_r _ [5, 6, 7, 8, 9, 10, 11, 12, 13, 14, 15, 16, 17, 18, 19, 20, 21, 22, 23, 24] (by decide +kernel) (by decide +kernel)
set_option maxRecDepth 20000 in
theorem gX6_opened_X6_of : GoodIn wsX6_opened (wsV RX6 50 RX6 yX6_of wsX6_of) := goodIn_app (goodIn_of _ (by decide +kernel)) ggX6_opened_X6_of
theorem dX6_opened_0 : decode cX6_opened 0 = .ok (.lconst 0, 1) := by decide +kernel
theorem dX6_opened_1 : decode cX6_opened 1 = .ok (.lstore_n 1, 1) := by decide +kernel
theorem dX6_opened_2 : decode cX6_opened 2 = .ok (.iconst 1, 1) := by decide +kernel
theorem dX6_opened_3 : decode cX6_opened 3 = .ok (.istore_n 3, 1) := by decide +kernel
theorem dX6_opened_4 : decode cX6_opened 4 = .ok (.iload_n 3, 1) := by decide +kernel
theorem dX6_opened_5 : decode cX6_opened 5 = .ok (.bipush 48, 2) := by decide +kernel
theorem dX6_opened_7 : decode cX6_opened 7 = .ok (.if_icmp .gt 29, 3) := by decide +kernel
theorem dX6_opened_10 : decode cX6_opened 10 = .ok (.lload_n 1, 1) := by decide +kernel
theorem dX6_opened_11 : decode cX6_opened 11 = .ok (.aload_n 0, 1) := by decide +kernel
theorem dX6_opened_12 : decode cX6_opened 12 = .ok (.iload_n 3, 1) := by decide +kernel
theorem dX6_opened_13 : decode cX6_opened 13 = .ok (.iconst 0, 1) := by decide +kernel
theorem dX6_opened_14 : decode cX6_opened 14 = .ok (.invokevirtual 50, 3) := by decide +kernel
theorem dX6_opened_17 : decode cX6_opened 17 = .ok (.iconst 1, 1) := by decide +kernel
theorem dX6_opened_18 : decode cX6_opened 18 = .ok (.if_icmp .ne 9, 3) := by decide +kernel
theorem dX6_opened_21 : decode cX6_opened 21 = .ok (.lconst 1, 1) := by decide +kernel
theorem dX6_opened_22 : decode cX6_opened 22 = .ok (.iload_n 3, 1) := by decide +kernel
theorem dX6_opened_23 : decode cX6_opened 23 = .ok (.lshl, 1) := by decide +kernel
theorem dX6_opened_24 : decode cX6_opened 24 = .ok (.goto 4, 3) := by decide +kernel
theorem dX6_opened_27 : decode cX6_opened 27 = .ok (.lconst 0, 1) := by decide +kernel
theorem dX6_opened_28 : decode cX6_opened 28 = .ok (.lor, 1) := by decide +kernel
theorem dX6_opened_29 : decode cX6_opened 29 = .ok (.lstore_n 1, 1) := by decide +kernel
theorem dX6_opened_30 : decode cX6_opened 30 = .ok (.iinc 3 1, 3) := by decide +kernel
theorem dX6_opened_33 : decode cX6_opened 33 = .ok (.goto (-29), 3) := by decide +kernel
theorem dX6_opened_36 : decode cX6_opened 36 = .ok (.lload_n 1, 1) := by decide +kernel
theorem dX6_opened_37 : decode cX6_opened 37 = .ok (.lreturn, 1) := by decide +kernel
set_option maxRecDepth 20000 in
theorem ggX6_openSet_X6_opened : GoodIn wsX6_openSet wsX6_opened := goodIn_r _ [6, 7, 8, 9, 5, 10, 11, 12, 13, 14, 15, 16, 17, 18, 19, 20, 21, 22, 23, 24, 25, 26, 27, 28, 29] (by decide +kernel) (by decide +kernel)
set_option maxRecDepth 20000 in
theorem gX6_openSet_X6_opened : GoodIn wsX6_openSet (wsV RX6 123 RX6 yX6_opened wsX6_opened) := goodIn_app (goodIn_of _ (by decide +kernel)) ggX6_openSet_X6_opened
theorem dX6_openSet_0 : decode cX6_openSet 0 = .ok (.aload_n 0, 1) := by decide +kernel
theorem dX6_openSet_1 : decode cX6_openSet 1 = .ok (.iconst 0, 1) := by decide +kernel
theorem dX6_openSet_2 : decode cX6_openSet 2 = .ok (.putfield 28, 3) := by decide +kernel
theorem dX6_openSet_5 : decode cX6_openSet 5 = .ok (.aload_n 0, 1) := by decide +kernel
theorem dX6_openSet_6 : decode cX6_openSet 6 = .ok (.invokevirtual 123, 3) := by decide +kernel
theorem dX6_openSet_9 : decode cX6_openSet 9 = .ok (.lreturn, 1) := by decide +kernel
set_option maxRecDepth 20000 in
theorem ggX6_nextOpen_X6_isDoor : GoodIn wsX6_nextOpen wsX6_isDoor := goodIn_r _ [4, 5, 6, 3, 7] (by decide +kernel) (by decide +kernel)
set_option maxRecDepth 20000 in
theorem gX6_nextOpen_X6_isDoor : GoodIn wsX6_nextOpen (va_wsS RX6 65 yX6_isDoor wsX6_isDoor) := goodIn_app (goodIn_of _ (by decide +kernel)) ggX6_nextOpen_X6_isDoor
set_option maxRecDepth 20000 in
theorem ggX6_nextOpen_X6_asks : GoodIn wsX6_nextOpen wsX6_asks := goodIn_r _ [11, 12, 22, 23, 24, 25, 26, 27, 28, 29, 30, 31, 32, 33, 34, 35, 36, 37, 38, 39] (by decide +kernel) (by decide +kernel)
set_option maxRecDepth 20000 in
theorem gX6_nextOpen_X6_asks : GoodIn wsX6_nextOpen (wsV RX6 112 RX6 yX6_asks wsX6_asks) := goodIn_app (goodIn_of _ (by decide +kernel)) ggX6_nextOpen_X6_asks
set_option maxRecDepth 20000 in
theorem ggX6_nextOpen_X6_of : GoodIn wsX6_nextOpen wsX6_of := goodIn_r _ [16, 17, 22, 23, 24, 25, 26, 27, 28, 29, 30, 31, 32, 33, 34, 35, 36, 37, 38, 39] (by decide +kernel) (by decide +kernel)
set_option maxRecDepth 20000 in
theorem gX6_nextOpen_X6_of : GoodIn wsX6_nextOpen (wsV RX6 50 RX6 yX6_of wsX6_of) := goodIn_app (goodIn_of _ (by decide +kernel)) ggX6_nextOpen_X6_of
set_option maxRecDepth 20000 in
theorem ggX6_nextOpen_X6_fails : GoodIn wsX6_nextOpen wsX6_fails := goodIn_r _ [21, 12, 22, 23, 24, 25, 26, 27, 28, 29, 30, 31, 32, 33, 34, 35, 36, 37, 38, 39] (by decide +kernel) (by decide +kernel)
set_option maxRecDepth 20000 in
theorem gX6_nextOpen_X6_fails : GoodIn wsX6_nextOpen (wsV RX6 39 RX6 yX6_fails wsX6_fails) := goodIn_app (goodIn_of _ (by decide +kernel)) ggX6_nextOpen_X6_fails
theorem dX6_nextOpen_0 : decode cX6_nextOpen 0 = .ok (.aload_n 0, 1) := by decide +kernel
theorem dX6_nextOpen_1 : decode cX6_nextOpen 1 = .ok (.iload_n 1, 1) := by decide +kernel
theorem dX6_nextOpen_2 : decode cX6_nextOpen 2 = .ok (.invokestatic 65, 3) := by decide +kernel
theorem dX6_nextOpen_5 : decode cX6_nextOpen 5 = .ok (.invokevirtual 112, 3) := by decide +kernel
theorem dX6_nextOpen_8 : decode cX6_nextOpen 8 = .ok (.ifCond .ne 5, 3) := by decide +kernel
theorem dX6_nextOpen_11 : decode cX6_nextOpen 11 = .ok (.iconst 0, 1) := by decide +kernel
theorem dX6_nextOpen_12 : decode cX6_nextOpen 12 = .ok (.ireturn, 1) := by decide +kernel
theorem dX6_nextOpen_13 : decode cX6_nextOpen 13 = .ok (.iload_n 1, 1) := by decide +kernel
theorem dX6_nextOpen_14 : decode cX6_nextOpen 14 = .ok (.istore_n 2, 1) := by decide +kernel
theorem dX6_nextOpen_15 : decode cX6_nextOpen 15 = .ok (.iload_n 2, 1) := by decide +kernel
theorem dX6_nextOpen_16 : decode cX6_nextOpen 16 = .ok (.bipush 48, 2) := by decide +kernel
theorem dX6_nextOpen_18 : decode cX6_nextOpen 18 = .ok (.if_icmp .gt 18, 3) := by decide +kernel
theorem dX6_nextOpen_21 : decode cX6_nextOpen 21 = .ok (.aload_n 0, 1) := by decide +kernel
theorem dX6_nextOpen_22 : decode cX6_nextOpen 22 = .ok (.iload_n 2, 1) := by decide +kernel
theorem dX6_nextOpen_23 : decode cX6_nextOpen 23 = .ok (.iconst 0, 1) := by decide +kernel
theorem dX6_nextOpen_24 : decode cX6_nextOpen 24 = .ok (.invokevirtual 50, 3) := by decide +kernel
theorem dX6_nextOpen_27 : decode cX6_nextOpen 27 = .ok (.ifCond .ne 9, 3) := by decide +kernel
theorem dX6_nextOpen_30 : decode cX6_nextOpen 30 = .ok (.iinc 2 1, 3) := by decide +kernel
theorem dX6_nextOpen_33 : decode cX6_nextOpen 33 = .ok (.goto (-18), 3) := by decide +kernel
theorem dX6_nextOpen_36 : decode cX6_nextOpen 36 = .ok (.iload_n 2, 1) := by decide +kernel
theorem dX6_nextOpen_37 : decode cX6_nextOpen 37 = .ok (.bipush 48, 2) := by decide +kernel
theorem dX6_nextOpen_39 : decode cX6_nextOpen 39 = .ok (.if_icmp .gt 7, 3) := by decide +kernel
theorem dX6_nextOpen_42 : decode cX6_nextOpen 42 = .ok (.iload_n 2, 1) := by decide +kernel
theorem dX6_nextOpen_43 : decode cX6_nextOpen 43 = .ok (.goto 8, 3) := by decide +kernel
theorem dX6_nextOpen_46 : decode cX6_nextOpen 46 = .ok (.aload_n 0, 1) := by decide +kernel
theorem dX6_nextOpen_47 : decode cX6_nextOpen 47 = .ok (.iconst 2, 1) := by decide +kernel
theorem dX6_nextOpen_48 : decode cX6_nextOpen 48 = .ok (.invokevirtual 39, 3) := by decide +kernel
theorem dX6_nextOpen_51 : decode cX6_nextOpen 51 = .ok (.ireturn, 1) := by decide +kernel
theorem dX6_multiples_0 : decode cX6_multiples 0 = .ok (.lconst 0, 1) := by decide +kernel
theorem dX6_multiples_1 : decode cX6_multiples 1 = .ok (.lstore_n 1, 1) := by decide +kernel
theorem dX6_multiples_2 : decode cX6_multiples 2 = .ok (.iload_n 0, 1) := by decide +kernel
theorem dX6_multiples_3 : decode cX6_multiples 3 = .ok (.istore_n 3, 1) := by decide +kernel
theorem dX6_multiples_4 : decode cX6_multiples 4 = .ok (.iload_n 3, 1) := by decide +kernel
theorem dX6_multiples_5 : decode cX6_multiples 5 = .ok (.bipush 48, 2) := by decide +kernel
theorem dX6_multiples_7 : decode cX6_multiples 7 = .ok (.if_icmp .gt 16, 3) := by decide +kernel
theorem dX6_multiples_10 : decode cX6_multiples 10 = .ok (.lload_n 1, 1) := by decide +kernel
theorem dX6_multiples_11 : decode cX6_multiples 11 = .ok (.lconst 1, 1) := by decide +kernel
theorem dX6_multiples_12 : decode cX6_multiples 12 = .ok (.iload_n 3, 1) := by decide +kernel
theorem dX6_multiples_13 : decode cX6_multiples 13 = .ok (.lshl, 1) := by decide +kernel
theorem dX6_multiples_14 : decode cX6_multiples 14 = .ok (.lor, 1) := by decide +kernel
theorem dX6_multiples_15 : decode cX6_multiples 15 = .ok (.lstore_n 1, 1) := by decide +kernel
theorem dX6_multiples_16 : decode cX6_multiples 16 = .ok (.iload_n 3, 1) := by decide +kernel
theorem dX6_multiples_17 : decode cX6_multiples 17 = .ok (.iload_n 0, 1) := by decide +kernel
theorem dX6_multiples_18 : decode cX6_multiples 18 = .ok (.iadd, 1) := by decide +kernel
theorem dX6_multiples_19 : decode cX6_multiples 19 = .ok (.istore_n 3, 1) := by decide +kernel
theorem dX6_multiples_20 : decode cX6_multiples 20 = .ok (.goto (-16), 3) := by decide +kernel
theorem dX6_multiples_23 : decode cX6_multiples 23 = .ok (.lload_n 1, 1) := by decide +kernel
theorem dX6_multiples_24 : decode cX6_multiples 24 = .ok (.lreturn, 1) := by decide +kernel
set_option maxRecDepth 20000 in
theorem ggX6_closing_X6_opened : GoodIn wsX6_closing wsX6_opened := goodIn_r _ [6, 7, 8, 9, 5, 10, 11, 15, 16, 17, 18, 19, 20, 21, 22, 23, 24, 25, 26, 27, 28, 29, 30, 31, 32] (by decide +kernel) (by decide +kernel)
set_option maxRecDepth 20000 in
theorem gX6_closing_X6_opened : GoodIn wsX6_closing (wsV RX6 123 RX6 yX6_opened wsX6_opened) := goodIn_app (goodIn_of _ (by decide +kernel)) ggX6_closing_X6_opened
set_option maxRecDepth 20000 in
theorem ggX6_closing_X6_multiples : GoodIn wsX6_closing wsX6_multiples := goodIn_r _ [14] (by decide +kernel) (by decide +kernel)
set_option maxRecDepth 20000 in
theorem gX6_closing_X6_multiples : GoodIn wsX6_closing (va_wsS RX6 127 yX6_multiples wsX6_multiples) := goodIn_app (goodIn_of _ (by decide +kernel)) ggX6_closing_X6_multiples
theorem dX6_closing_0 : decode cX6_closing 0 = .ok (.aload_n 0, 1) := by decide +kernel
theorem dX6_closing_1 : decode cX6_closing 1 = .ok (.iconst 0, 1) := by decide +kernel
theorem dX6_closing_2 : decode cX6_closing 2 = .ok (.putfield 28, 3) := by decide +kernel
theorem dX6_closing_5 : decode cX6_closing 5 = .ok (.aload_n 0, 1) := by decide +kernel
theorem dX6_closing_6 : decode cX6_closing 6 = .ok (.invokevirtual 123, 3) := by decide +kernel
theorem dX6_closing_9 : decode cX6_closing 9 = .ok (.lstore_n 1, 1) := by decide +kernel
theorem dX6_closing_10 : decode cX6_closing 10 = .ok (.lconst 0, 1) := by decide +kernel
theorem dX6_closing_11 : decode cX6_closing 11 = .ok (.lstore_n 3, 1) := by decide +kernel
theorem dX6_closing_12 : decode cX6_closing 12 = .ok (.iconst 1, 1) := by decide +kernel
theorem dX6_closing_13 : decode cX6_closing 13 = .ok (.istore 5, 2) := by decide +kernel
theorem dX6_closing_15 : decode cX6_closing 15 = .ok (.iload 5, 2) := by decide +kernel
theorem dX6_closing_17 : decode cX6_closing 17 = .ok (.bipush 48, 2) := by decide +kernel
theorem dX6_closing_19 : decode cX6_closing 19 = .ok (.if_icmp .gt 60, 3) := by decide +kernel
theorem dX6_closing_22 : decode cX6_closing 22 = .ok (.lload_n 1, 1) := by decide +kernel
theorem dX6_closing_23 : decode cX6_closing 23 = .ok (.iload 5, 2) := by decide +kernel
theorem dX6_closing_25 : decode cX6_closing 25 = .ok (.lshr, 1) := by decide +kernel
theorem dX6_closing_26 : decode cX6_closing 26 = .ok (.lconst 1, 1) := by decide +kernel
theorem dX6_closing_27 : decode cX6_closing 27 = .ok (.land, 1) := by decide +kernel
theorem dX6_closing_28 : decode cX6_closing 28 = .ok (.lconst 1, 1) := by decide +kernel
theorem dX6_closing_29 : decode cX6_closing 29 = .ok (.lcmp, 1) := by decide +kernel
theorem dX6_closing_30 : decode cX6_closing 30 = .ok (.ifCond .ne 7, 3) := by decide +kernel
theorem dX6_closing_33 : decode cX6_closing 33 = .ok (.iconst 1, 1) := by decide +kernel
theorem dX6_closing_34 : decode cX6_closing 34 = .ok (.goto 4, 3) := by decide +kernel
theorem dX6_closing_37 : decode cX6_closing 37 = .ok (.iconst 0, 1) := by decide +kernel
theorem dX6_closing_38 : decode cX6_closing 38 = .ok (.istore 6, 2) := by decide +kernel
theorem dX6_closing_40 : decode cX6_closing 40 = .ok (.lload_n 3, 1) := by decide +kernel
theorem dX6_closing_41 : decode cX6_closing 41 = .ok (.iload 6, 2) := by decide +kernel
theorem dX6_closing_43 : decode cX6_closing 43 = .ok (.ifCond .eq 10, 3) := by decide +kernel
theorem dX6_closing_46 : decode cX6_closing 46 = .ok (.lconst 1, 1) := by decide +kernel
theorem dX6_closing_47 : decode cX6_closing 47 = .ok (.iload 5, 2) := by decide +kernel
theorem dX6_closing_49 : decode cX6_closing 49 = .ok (.lshl, 1) := by decide +kernel
theorem dX6_closing_50 : decode cX6_closing 50 = .ok (.goto 4, 3) := by decide +kernel
theorem dX6_closing_53 : decode cX6_closing 53 = .ok (.lconst 0, 1) := by decide +kernel
theorem dX6_closing_54 : decode cX6_closing 54 = .ok (.lor, 1) := by decide +kernel
theorem dX6_closing_55 : decode cX6_closing 55 = .ok (.lstore_n 3, 1) := by decide +kernel
theorem dX6_closing_56 : decode cX6_closing 56 = .ok (.lload_n 1, 1) := by decide +kernel
theorem dX6_closing_57 : decode cX6_closing 57 = .ok (.iload 6, 2) := by decide +kernel
theorem dX6_closing_59 : decode cX6_closing 59 = .ok (.ifCond .eq 11, 3) := by decide +kernel
theorem dX6_closing_62 : decode cX6_closing 62 = .ok (.iload 5, 2) := by decide +kernel
theorem dX6_closing_64 : decode cX6_closing 64 = .ok (.invokestatic 127, 3) := by decide +kernel
theorem dX6_closing_67 : decode cX6_closing 67 = .ok (.goto 4, 3) := by decide +kernel
theorem dX6_closing_70 : decode cX6_closing 70 = .ok (.lconst 0, 1) := by decide +kernel
theorem dX6_closing_71 : decode cX6_closing 71 = .ok (.lxor, 1) := by decide +kernel
theorem dX6_closing_72 : decode cX6_closing 72 = .ok (.lstore_n 1, 1) := by decide +kernel
theorem dX6_closing_73 : decode cX6_closing 73 = .ok (.iinc 5 1, 3) := by decide +kernel
theorem dX6_closing_76 : decode cX6_closing 76 = .ok (.goto (-61), 3) := by decide +kernel
theorem dX6_closing_79 : decode cX6_closing 79 = .ok (.lload_n 3, 1) := by decide +kernel
theorem dX6_closing_80 : decode cX6_closing 80 = .ok (.lreturn, 1) := by decide +kernel
set_option maxRecDepth 20000 in
theorem ggX6_closingPasses_X6_closing : GoodIn wsX6_closingPasses wsX6_closing := goodIn_r _ [5, 6, 7, 8, 9, 4, 10, 11, 12, 13, 14, 15, 16, 17, 18, 19, 20, 21, 22, 23, 24, 25, 26, 27, 28, 29, 30, 31, 32, 33, 34, 35, 36] (by decide +kernel) (by decide +kernel)
set_option maxRecDepth 20000 in
theorem gX6_closingPasses_X6_closing : GoodIn wsX6_closingPasses (wsV RX6 131 RX6 yX6_closing wsX6_closing) := goodIn_app (goodIn_of _ (by decide +kernel)) ggX6_closingPasses_X6_closing
theorem dX6_closingPasses_0 : decode cX6_closingPasses 0 = .ok (.aload_n 0, 1) := by decide +kernel
theorem dX6_closingPasses_1 : decode cX6_closingPasses 1 = .ok (.invokevirtual 131, 3) := by decide +kernel
theorem dX6_closingPasses_4 : decode cX6_closingPasses 4 = .ok (.lreturn, 1) := by decide +kernel
set_option maxRecDepth 20000 in
theorem ggX6_closingByDivisors_X6_closing : GoodIn wsX6_closingByDivisors wsX6_closing := goodIn_r _ [5, 6, 7, 8, 9, 4, 10, 11, 12, 13, 14, 15, 16, 17, 18, 19, 20, 21, 22, 23, 24, 25, 26, 27, 28, 29, 30, 31, 32, 33, 34, 35, 36] (by decide +kernel) (by decide +kernel)
set_option maxRecDepth 20000 in
theorem gX6_closingByDivisors_X6_closing : GoodIn wsX6_closingByDivisors (wsV RX6 131 RX6 yX6_closing wsX6_closing) := goodIn_app (goodIn_of _ (by decide +kernel)) ggX6_closingByDivisors_X6_closing
theorem dX6_closingByDivisors_0 : decode cX6_closingByDivisors 0 = .ok (.aload_n 0, 1) := by decide +kernel
theorem dX6_closingByDivisors_1 : decode cX6_closingByDivisors 1 = .ok (.invokevirtual 131, 3) := by decide +kernel
theorem dX6_closingByDivisors_4 : decode cX6_closingByDivisors 4 = .ok (.lreturn, 1) := by decide +kernel
set_option maxRecDepth 20000 in
theorem ggX6_passesToClose_X6_closing : GoodIn wsX6_passesToClose wsX6_closing := goodIn_r _ [5, 6, 7, 8, 9, 4, 10, 11, 12, 13, 14, 15, 16, 17, 18, 19, 20, 21, 22, 23, 24, 25, 26, 27, 28, 29, 30, 31, 32, 33, 34, 35, 36] (by decide +kernel) (by decide +kernel)
set_option maxRecDepth 20000 in
theorem gX6_passesToClose_X6_closing : GoodIn wsX6_passesToClose (wsV RX6 131 RX6 yX6_closing wsX6_closing) := goodIn_app (goodIn_of _ (by decide +kernel)) ggX6_passesToClose_X6_closing
theorem dX6_passesToClose_0 : decode cX6_passesToClose 0 = .ok (.aload_n 0, 1) := by decide +kernel
theorem dX6_passesToClose_1 : decode cX6_passesToClose 1 = .ok (.invokevirtual 131, 3) := by decide +kernel
theorem dX6_passesToClose_4 : decode cX6_passesToClose 4 = .ok (.lstore_n 1, 1) := by decide +kernel
theorem dX6_passesToClose_5 : decode cX6_passesToClose 5 = .ok (.iconst 0, 1) := by decide +kernel
theorem dX6_passesToClose_6 : decode cX6_passesToClose 6 = .ok (.istore_n 3, 1) := by decide +kernel
theorem dX6_passesToClose_7 : decode cX6_passesToClose 7 = .ok (.iconst 1, 1) := by decide +kernel
theorem dX6_passesToClose_8 : decode cX6_passesToClose 8 = .ok (.istore 4, 2) := by decide +kernel
theorem dX6_passesToClose_10 : decode cX6_passesToClose 10 = .ok (.iload 4, 2) := by decide +kernel
theorem dX6_passesToClose_12 : decode cX6_passesToClose 12 = .ok (.bipush 48, 2) := by decide +kernel
theorem dX6_passesToClose_14 : decode cX6_passesToClose 14 = .ok (.if_icmp .gt 28, 3) := by decide +kernel
theorem dX6_passesToClose_17 : decode cX6_passesToClose 17 = .ok (.iload_n 3, 1) := by decide +kernel
theorem dX6_passesToClose_18 : decode cX6_passesToClose 18 = .ok (.lload_n 1, 1) := by decide +kernel
theorem dX6_passesToClose_19 : decode cX6_passesToClose 19 = .ok (.iload 4, 2) := by decide +kernel
theorem dX6_passesToClose_21 : decode cX6_passesToClose 21 = .ok (.lshr, 1) := by decide +kernel
theorem dX6_passesToClose_22 : decode cX6_passesToClose 22 = .ok (.lconst 1, 1) := by decide +kernel
theorem dX6_passesToClose_23 : decode cX6_passesToClose 23 = .ok (.land, 1) := by decide +kernel
theorem dX6_passesToClose_24 : decode cX6_passesToClose 24 = .ok (.lconst 1, 1) := by decide +kernel
theorem dX6_passesToClose_25 : decode cX6_passesToClose 25 = .ok (.lcmp, 1) := by decide +kernel
theorem dX6_passesToClose_26 : decode cX6_passesToClose 26 = .ok (.ifCond .ne 7, 3) := by decide +kernel
theorem dX6_passesToClose_29 : decode cX6_passesToClose 29 = .ok (.iconst 1, 1) := by decide +kernel
theorem dX6_passesToClose_30 : decode cX6_passesToClose 30 = .ok (.goto 4, 3) := by decide +kernel
theorem dX6_passesToClose_33 : decode cX6_passesToClose 33 = .ok (.iconst 0, 1) := by decide +kernel
theorem dX6_passesToClose_34 : decode cX6_passesToClose 34 = .ok (.iadd, 1) := by decide +kernel
theorem dX6_passesToClose_35 : decode cX6_passesToClose 35 = .ok (.istore_n 3, 1) := by decide +kernel
theorem dX6_passesToClose_36 : decode cX6_passesToClose 36 = .ok (.iinc 4 1, 3) := by decide +kernel
theorem dX6_passesToClose_39 : decode cX6_passesToClose 39 = .ok (.goto (-29), 3) := by decide +kernel
theorem dX6_passesToClose_42 : decode cX6_passesToClose 42 = .ok (.iload_n 3, 1) := by decide +kernel
theorem dX6_passesToClose_43 : decode cX6_passesToClose 43 = .ok (.ireturn, 1) := by decide +kernel
set_option maxRecDepth 20000 in
theorem ggX6_wouldBeOpen_X6_isDoor : GoodIn wsX6_wouldBeOpen wsX6_isDoor := goodIn_r _ [6, 7, 8, 5, 9] (by decide +kernel) (by decide +kernel)
set_option maxRecDepth 20000 in
theorem gX6_wouldBeOpen_X6_isDoor : GoodIn wsX6_wouldBeOpen (va_wsS RX6 65 yX6_isDoor wsX6_isDoor) := goodIn_app (goodIn_of _ (by decide +kernel)) ggX6_wouldBeOpen_X6_isDoor
set_option maxRecDepth 20000 in
theorem ggX6_wouldBeOpen_X6_in : GoodIn wsX6_wouldBeOpen wsX6_in := goodIn_r _ [9] (by decide +kernel) (by decide +kernel)
set_option maxRecDepth 20000 in
theorem gX6_wouldBeOpen_X6_in : GoodIn wsX6_wouldBeOpen (va_wsS RX6 46 yX6_in wsX6_in) := goodIn_app (goodIn_of _ (by decide +kernel)) ggX6_wouldBeOpen_X6_in
set_option maxRecDepth 20000 in
theorem ggX6_wouldBeOpen_X6_asks : GoodIn wsX6_wouldBeOpen wsX6_asks := goodIn_r _ [13, 14, 42, 43, 44, 45, 46, 47, 48, 49, 50, 51, 52, 53, 54, 55, 56, 57, 58, 59] (by decide +kernel) (by decide +kernel)
set_option maxRecDepth 20000 in
theorem gX6_wouldBeOpen_X6_asks : GoodIn wsX6_wouldBeOpen (wsV RX6 112 RX6 yX6_asks wsX6_asks) := goodIn_app (goodIn_of _ (by decide +kernel)) ggX6_wouldBeOpen_X6_asks
set_option maxRecDepth 20000 in
theorem ggX6_wouldBeOpen_X6_copies : GoodIn wsX6_wouldBeOpen wsX6_copies := goodIn_r _ [17] (by decide +kernel) (by decide +kernel)
set_option maxRecDepth 20000 in
theorem gX6_wouldBeOpen_X6_copies : GoodIn wsX6_wouldBeOpen (va_wsS RX6 32 yX6_copies wsX6_copies) := goodIn_app (goodIn_of _ (by decide +kernel)) ggX6_wouldBeOpen_X6_copies
set_option maxRecDepth 20000 in
theorem ggX6_wouldBeOpen_X6_passesRow : GoodIn wsX6_wouldBeOpen wsX6_passesRow := goodIn_r _ [21, 22, 23, 24, 5, 25, 1, 26, 27, 28, 29, 30, 31, 32, 33, 34, 35, 36, 37, 42, 43, 44, 45, 46, 47, 48, 49, 50, 51, 52, 53, 54, 55, 56, 57, 58, 59] (by decide +kernel) (by decide +kernel)
set_option maxRecDepth 20000 in
theorem gX6_wouldBeOpen_X6_passesRow : GoodIn wsX6_wouldBeOpen (wsV RX6 72 RX6 yX6_passesRow wsX6_passesRow) := goodIn_app (goodIn_of _ (by decide +kernel)) ggX6_wouldBeOpen_X6_passesRow
set_option maxRecDepth 20000 in
theorem ggX6_wouldBeOpen_X6_sum : GoodIn wsX6_wouldBeOpen wsX6_sum := goodIn_r _ [41, 22, 23, 24, 5, 25, 1, 42, 43, 44, 45, 46, 47, 48, 49, 50, 51, 52, 53, 54, 55, 56, 57, 58, 59] (by decide +kernel) (by decide +kernel)
set_option maxRecDepth 20000 in
theorem gX6_wouldBeOpen_X6_sum : GoodIn wsX6_wouldBeOpen (wsV RX6 69 RX6 yX6_sum wsX6_sum) := goodIn_app (goodIn_of _ (by decide +kernel)) ggX6_wouldBeOpen_X6_sum
theorem dX6_wouldBeOpen_0 : decode cX6_wouldBeOpen 0 = .ok (.aload_n 0, 1) := by decide +kernel
theorem dX6_wouldBeOpen_1 : decode cX6_wouldBeOpen 1 = .ok (.iload_n 1, 1) := by decide +kernel
theorem dX6_wouldBeOpen_2 : decode cX6_wouldBeOpen 2 = .ok (.invokestatic 65, 3) := by decide +kernel
theorem dX6_wouldBeOpen_5 : decode cX6_wouldBeOpen 5 = .ok (.ifCond .eq 17, 3) := by decide +kernel
theorem dX6_wouldBeOpen_8 : decode cX6_wouldBeOpen 8 = .ok (.iload_n 2, 1) := by decide +kernel
theorem dX6_wouldBeOpen_9 : decode cX6_wouldBeOpen 9 = .ok (.iload_n 1, 1) := by decide +kernel
theorem dX6_wouldBeOpen_10 : decode cX6_wouldBeOpen 10 = .ok (.bipush 48, 2) := by decide +kernel
theorem dX6_wouldBeOpen_12 : decode cX6_wouldBeOpen 12 = .ok (.invokestatic 46, 3) := by decide +kernel
theorem dX6_wouldBeOpen_15 : decode cX6_wouldBeOpen 15 = .ok (.ifCond .eq 7, 3) := by decide +kernel
theorem dX6_wouldBeOpen_18 : decode cX6_wouldBeOpen 18 = .ok (.iconst 1, 1) := by decide +kernel
theorem dX6_wouldBeOpen_19 : decode cX6_wouldBeOpen 19 = .ok (.goto 4, 3) := by decide +kernel
theorem dX6_wouldBeOpen_22 : decode cX6_wouldBeOpen 22 = .ok (.iconst 0, 1) := by decide +kernel
theorem dX6_wouldBeOpen_23 : decode cX6_wouldBeOpen 23 = .ok (.invokevirtual 112, 3) := by decide +kernel
theorem dX6_wouldBeOpen_26 : decode cX6_wouldBeOpen 26 = .ok (.ifCond .ne 5, 3) := by decide +kernel
theorem dX6_wouldBeOpen_29 : decode cX6_wouldBeOpen 29 = .ok (.iconst 0, 1) := by decide +kernel
theorem dX6_wouldBeOpen_30 : decode cX6_wouldBeOpen 30 = .ok (.ireturn, 1) := by decide +kernel
theorem dX6_wouldBeOpen_31 : decode cX6_wouldBeOpen 31 = .ok (.aload_n 0, 1) := by decide +kernel
theorem dX6_wouldBeOpen_32 : decode cX6_wouldBeOpen 32 = .ok (.getfield 7, 3) := by decide +kernel
theorem dX6_wouldBeOpen_35 : decode cX6_wouldBeOpen 35 = .ok (.iconst 0, 1) := by decide +kernel
theorem dX6_wouldBeOpen_36 : decode cX6_wouldBeOpen 36 = .ok (.aload_n 0, 1) := by decide +kernel
theorem dX6_wouldBeOpen_37 : decode cX6_wouldBeOpen 37 = .ok (.getfield 16, 3) := by decide +kernel
theorem dX6_wouldBeOpen_40 : decode cX6_wouldBeOpen 40 = .ok (.iconst 0, 1) := by decide +kernel
theorem dX6_wouldBeOpen_41 : decode cX6_wouldBeOpen 41 = .ok (.invokestatic 32, 3) := by decide +kernel
theorem dX6_wouldBeOpen_44 : decode cX6_wouldBeOpen 44 = .ok (.aload_n 0, 1) := by decide +kernel
theorem dX6_wouldBeOpen_45 : decode cX6_wouldBeOpen 45 = .ok (.iload_n 1, 1) := by decide +kernel
theorem dX6_wouldBeOpen_46 : decode cX6_wouldBeOpen 46 = .ok (.iload_n 2, 1) := by decide +kernel
theorem dX6_wouldBeOpen_47 : decode cX6_wouldBeOpen 47 = .ok (.invokevirtual 72, 3) := by decide +kernel
theorem dX6_wouldBeOpen_50 : decode cX6_wouldBeOpen 50 = .ok (.pop, 1) := by decide +kernel
theorem dX6_wouldBeOpen_51 : decode cX6_wouldBeOpen 51 = .ok (.aload_n 0, 1) := by decide +kernel
theorem dX6_wouldBeOpen_52 : decode cX6_wouldBeOpen 52 = .ok (.iconst 0, 1) := by decide +kernel
theorem dX6_wouldBeOpen_53 : decode cX6_wouldBeOpen 53 = .ok (.invokevirtual 69, 3) := by decide +kernel
theorem dX6_wouldBeOpen_56 : decode cX6_wouldBeOpen 56 = .ok (.istore_n 3, 1) := by decide +kernel
theorem dX6_wouldBeOpen_57 : decode cX6_wouldBeOpen 57 = .ok (.aload_n 0, 1) := by decide +kernel
theorem dX6_wouldBeOpen_58 : decode cX6_wouldBeOpen 58 = .ok (.getfield 16, 3) := by decide +kernel
theorem dX6_wouldBeOpen_61 : decode cX6_wouldBeOpen 61 = .ok (.iconst 0, 1) := by decide +kernel
theorem dX6_wouldBeOpen_62 : decode cX6_wouldBeOpen 62 = .ok (.aload_n 0, 1) := by decide +kernel
theorem dX6_wouldBeOpen_63 : decode cX6_wouldBeOpen 63 = .ok (.getfield 7, 3) := by decide +kernel
theorem dX6_wouldBeOpen_66 : decode cX6_wouldBeOpen 66 = .ok (.iconst 0, 1) := by decide +kernel
theorem dX6_wouldBeOpen_67 : decode cX6_wouldBeOpen 67 = .ok (.invokestatic 32, 3) := by decide +kernel
theorem dX6_wouldBeOpen_70 : decode cX6_wouldBeOpen 70 = .ok (.iload_n 3, 1) := by decide +kernel
theorem dX6_wouldBeOpen_71 : decode cX6_wouldBeOpen 71 = .ok (.ireturn, 1) := by decide +kernel
set_option maxRecDepth 20000 in
theorem ggX6_bestPass_X6_sum : GoodIn wsX6_bestPass wsX6_sum := goodIn_r _ [6, 7, 8, 9, 5, 10, 11, 12, 13, 14, 15, 16, 17, 18, 19, 20, 21, 22, 23, 24, 25, 26, 27, 28, 29] (by decide +kernel) (by decide +kernel)
set_option maxRecDepth 20000 in
theorem gX6_bestPass_X6_sum : GoodIn wsX6_bestPass (wsV RX6 69 RX6 yX6_sum wsX6_sum) := goodIn_app (goodIn_of _ (by decide +kernel)) ggX6_bestPass_X6_sum
set_option maxRecDepth 20000 in
theorem ggX6_bestPass_X6_of : GoodIn wsX6_bestPass wsX6_of := goodIn_r _ [10, 11, 12, 13, 14, 15, 16, 17, 18, 19, 20, 21, 22, 23, 24, 25, 26, 27, 28, 29] (by decide +kernel) (by decide +kernel)
set_option maxRecDepth 20000 in
theorem gX6_bestPass_X6_of : GoodIn wsX6_bestPass (wsV RX6 50 RX6 yX6_of wsX6_of) := goodIn_app (goodIn_of _ (by decide +kernel)) ggX6_bestPass_X6_of
theorem dX6_bestPass_0 : decode cX6_bestPass 0 = .ok (.aload_n 0, 1) := by decide +kernel
theorem dX6_bestPass_1 : decode cX6_bestPass 1 = .ok (.iconst 0, 1) := by decide +kernel
theorem dX6_bestPass_2 : decode cX6_bestPass 2 = .ok (.putfield 28, 3) := by decide +kernel
theorem dX6_bestPass_5 : decode cX6_bestPass 5 = .ok (.iconst 0, 1) := by decide +kernel
theorem dX6_bestPass_6 : decode cX6_bestPass 6 = .ok (.istore_n 1, 1) := by decide +kernel
theorem dX6_bestPass_7 : decode cX6_bestPass 7 = .ok (.bipush 49, 2) := by decide +kernel
theorem dX6_bestPass_9 : decode cX6_bestPass 9 = .ok (.istore_n 2, 1) := by decide +kernel
theorem dX6_bestPass_10 : decode cX6_bestPass 10 = .ok (.iconst 1, 1) := by decide +kernel
theorem dX6_bestPass_11 : decode cX6_bestPass 11 = .ok (.istore_n 3, 1) := by decide +kernel
theorem dX6_bestPass_12 : decode cX6_bestPass 12 = .ok (.iload_n 3, 1) := by decide +kernel
theorem dX6_bestPass_13 : decode cX6_bestPass 13 = .ok (.bipush 48, 2) := by decide +kernel
theorem dX6_bestPass_15 : decode cX6_bestPass 15 = .ok (.if_icmp .gt 97, 3) := by decide +kernel
theorem dX6_bestPass_18 : decode cX6_bestPass 18 = .ok (.aload_n 0, 1) := by decide +kernel
theorem dX6_bestPass_19 : decode cX6_bestPass 19 = .ok (.iconst 0, 1) := by decide +kernel
theorem dX6_bestPass_20 : decode cX6_bestPass 20 = .ok (.invokevirtual 69, 3) := by decide +kernel
theorem dX6_bestPass_23 : decode cX6_bestPass 23 = .ok (.istore 4, 2) := by decide +kernel
theorem dX6_bestPass_25 : decode cX6_bestPass 25 = .ok (.iload_n 3, 1) := by decide +kernel
theorem dX6_bestPass_26 : decode cX6_bestPass 26 = .ok (.istore 5, 2) := by decide +kernel
theorem dX6_bestPass_28 : decode cX6_bestPass 28 = .ok (.iload 5, 2) := by decide +kernel
theorem dX6_bestPass_30 : decode cX6_bestPass 30 = .ok (.bipush 48, 2) := by decide +kernel
theorem dX6_bestPass_32 : decode cX6_bestPass 32 = .ok (.if_icmp .gt 49, 3) := by decide +kernel
theorem dX6_bestPass_35 : decode cX6_bestPass 35 = .ok (.iload 4, 2) := by decide +kernel
theorem dX6_bestPass_37 : decode cX6_bestPass 37 = .ok (.aload_n 0, 1) := by decide +kernel
theorem dX6_bestPass_38 : decode cX6_bestPass 38 = .ok (.iload 5, 2) := by decide +kernel
theorem dX6_bestPass_40 : decode cX6_bestPass 40 = .ok (.bipush 48, 2) := by decide +kernel
theorem dX6_bestPass_42 : decode cX6_bestPass 42 = .ok (.invokevirtual 50, 3) := by decide +kernel
theorem dX6_bestPass_45 : decode cX6_bestPass 45 = .ok (.iconst 1, 1) := by decide +kernel
theorem dX6_bestPass_46 : decode cX6_bestPass 46 = .ok (.if_icmp .ne 7, 3) := by decide +kernel
theorem dX6_bestPass_49 : decode cX6_bestPass 49 = .ok (.iconst 0, 1) := by decide +kernel
theorem dX6_bestPass_50 : decode cX6_bestPass 50 = .ok (.goto 19, 3) := by decide +kernel
theorem dX6_bestPass_53 : decode cX6_bestPass 53 = .ok (.aload_n 0, 1) := by decide +kernel
theorem dX6_bestPass_54 : decode cX6_bestPass 54 = .ok (.iload 5, 2) := by decide +kernel
theorem dX6_bestPass_56 : decode cX6_bestPass 56 = .ok (.iconst 0, 1) := by decide +kernel
theorem dX6_bestPass_57 : decode cX6_bestPass 57 = .ok (.invokevirtual 50, 3) := by decide +kernel
theorem dX6_bestPass_60 : decode cX6_bestPass 60 = .ok (.iconst 1, 1) := by decide +kernel
theorem dX6_bestPass_61 : decode cX6_bestPass 61 = .ok (.if_icmp .ne 7, 3) := by decide +kernel
theorem dX6_bestPass_64 : decode cX6_bestPass 64 = .ok (.iconst (-1), 1) := by decide +kernel
theorem dX6_bestPass_65 : decode cX6_bestPass 65 = .ok (.goto 4, 3) := by decide +kernel
theorem dX6_bestPass_68 : decode cX6_bestPass 68 = .ok (.iconst 1, 1) := by decide +kernel
theorem dX6_bestPass_69 : decode cX6_bestPass 69 = .ok (.iadd, 1) := by decide +kernel
theorem dX6_bestPass_70 : decode cX6_bestPass 70 = .ok (.istore 4, 2) := by decide +kernel
theorem dX6_bestPass_72 : decode cX6_bestPass 72 = .ok (.iload 5, 2) := by decide +kernel
theorem dX6_bestPass_74 : decode cX6_bestPass 74 = .ok (.iload_n 3, 1) := by decide +kernel
theorem dX6_bestPass_75 : decode cX6_bestPass 75 = .ok (.iadd, 1) := by decide +kernel
theorem dX6_bestPass_76 : decode cX6_bestPass 76 = .ok (.istore 5, 2) := by decide +kernel
theorem dX6_bestPass_78 : decode cX6_bestPass 78 = .ok (.goto (-50), 3) := by decide +kernel
theorem dX6_bestPass_81 : decode cX6_bestPass 81 = .ok (.iload 4, 2) := by decide +kernel
theorem dX6_bestPass_83 : decode cX6_bestPass 83 = .ok (.iload_n 2, 1) := by decide +kernel
theorem dX6_bestPass_84 : decode cX6_bestPass 84 = .ok (.if_icmp .ge 7, 3) := by decide +kernel
theorem dX6_bestPass_87 : decode cX6_bestPass 87 = .ok (.iload_n 3, 1) := by decide +kernel
theorem dX6_bestPass_88 : decode cX6_bestPass 88 = .ok (.goto 4, 3) := by decide +kernel
theorem dX6_bestPass_91 : decode cX6_bestPass 91 = .ok (.iload_n 1, 1) := by decide +kernel
theorem dX6_bestPass_92 : decode cX6_bestPass 92 = .ok (.istore_n 1, 1) := by decide +kernel
theorem dX6_bestPass_93 : decode cX6_bestPass 93 = .ok (.iload 4, 2) := by decide +kernel
theorem dX6_bestPass_95 : decode cX6_bestPass 95 = .ok (.iload_n 2, 1) := by decide +kernel
theorem dX6_bestPass_96 : decode cX6_bestPass 96 = .ok (.if_icmp .ge 8, 3) := by decide +kernel
theorem dX6_bestPass_99 : decode cX6_bestPass 99 = .ok (.iload 4, 2) := by decide +kernel
theorem dX6_bestPass_101 : decode cX6_bestPass 101 = .ok (.goto 4, 3) := by decide +kernel
theorem dX6_bestPass_104 : decode cX6_bestPass 104 = .ok (.iload_n 2, 1) := by decide +kernel
theorem dX6_bestPass_105 : decode cX6_bestPass 105 = .ok (.istore_n 2, 1) := by decide +kernel
theorem dX6_bestPass_106 : decode cX6_bestPass 106 = .ok (.iinc 3 1, 3) := by decide +kernel
theorem dX6_bestPass_109 : decode cX6_bestPass 109 = .ok (.goto (-97), 3) := by decide +kernel
theorem dX6_bestPass_112 : decode cX6_bestPass 112 = .ok (.iload_n 1, 1) := by decide +kernel
theorem dX6_bestPass_113 : decode cX6_bestPass 113 = .ok (.ireturn, 1) := by decide +kernel
set_option maxRecDepth 20000 in
theorem ggX6_whyNot_X6_isDoor : GoodIn wsX6_whyNot wsX6_isDoor := goodIn_r _ [4, 5, 6, 3, 7] (by decide +kernel) (by decide +kernel)
set_option maxRecDepth 20000 in
theorem gX6_whyNot_X6_isDoor : GoodIn wsX6_whyNot (va_wsS RX6 65 yX6_isDoor wsX6_isDoor) := goodIn_app (goodIn_of _ (by decide +kernel)) ggX6_whyNot_X6_isDoor
set_option maxRecDepth 20000 in
theorem ggX6_whyNot_X6_isKind : GoodIn wsX6_whyNot wsX6_isKind := goodIn_r _ [10] (by decide +kernel) (by decide +kernel)
set_option maxRecDepth 20000 in
theorem gX6_whyNot_X6_isKind : GoodIn wsX6_whyNot (va_wsS RX6 75 yX6_isKind wsX6_isKind) := goodIn_app (goodIn_of _ (by decide +kernel)) ggX6_whyNot_X6_isKind
set_option maxRecDepth 20000 in
theorem ggX6_whyNot_X6_asks : GoodIn wsX6_whyNot wsX6_asks := goodIn_r _ [14, 15, 25, 26, 27, 28, 29, 30, 31, 32, 33, 34, 35, 36, 37, 38, 39, 40, 41, 42] (by decide +kernel) (by decide +kernel)
set_option maxRecDepth 20000 in
theorem gX6_whyNot_X6_asks : GoodIn wsX6_whyNot (wsV RX6 112 RX6 yX6_asks wsX6_asks) := goodIn_app (goodIn_of _ (by decide +kernel)) ggX6_whyNot_X6_asks
set_option maxRecDepth 20000 in
theorem ggX6_whyNot_X6_reason : GoodIn wsX6_whyNot wsX6_reason := goodIn_r _ [19, 20, 21, 22, 3, 23, 24, 5, 6, 7, 25, 26, 27, 28, 29, 30, 31, 32, 33, 34, 35, 36, 37, 38, 39, 40, 41, 42] (by decide +kernel) (by decide +kernel)
set_option maxRecDepth 20000 in
theorem gX6_whyNot_X6_reason : GoodIn wsX6_whyNot (wsV RX6 78 RX6 yX6_reason wsX6_reason) := goodIn_app (goodIn_of _ (by decide +kernel)) ggX6_whyNot_X6_reason
theorem dX6_whyNot_0 : decode cX6_whyNot 0 = .ok (.aload_n 0, 1) := by decide +kernel
theorem dX6_whyNot_1 : decode cX6_whyNot 1 = .ok (.iload_n 1, 1) := by decide +kernel
theorem dX6_whyNot_2 : decode cX6_whyNot 2 = .ok (.invokestatic 65, 3) := by decide +kernel
theorem dX6_whyNot_5 : decode cX6_whyNot 5 = .ok (.ifCond .eq 14, 3) := by decide +kernel
theorem dX6_whyNot_8 : decode cX6_whyNot 8 = .ok (.iload_n 2, 1) := by decide +kernel
theorem dX6_whyNot_9 : decode cX6_whyNot 9 = .ok (.invokestatic 75, 3) := by decide +kernel
theorem dX6_whyNot_12 : decode cX6_whyNot 12 = .ok (.ifCond .eq 7, 3) := by decide +kernel
theorem dX6_whyNot_15 : decode cX6_whyNot 15 = .ok (.iconst 1, 1) := by decide +kernel
theorem dX6_whyNot_16 : decode cX6_whyNot 16 = .ok (.goto 4, 3) := by decide +kernel
theorem dX6_whyNot_19 : decode cX6_whyNot 19 = .ok (.iconst 0, 1) := by decide +kernel
theorem dX6_whyNot_20 : decode cX6_whyNot 20 = .ok (.invokevirtual 112, 3) := by decide +kernel
theorem dX6_whyNot_23 : decode cX6_whyNot 23 = .ok (.ifCond .eq 12, 3) := by decide +kernel
theorem dX6_whyNot_26 : decode cX6_whyNot 26 = .ok (.aload_n 0, 1) := by decide +kernel
theorem dX6_whyNot_27 : decode cX6_whyNot 27 = .ok (.iload_n 1, 1) := by decide +kernel
theorem dX6_whyNot_28 : decode cX6_whyNot 28 = .ok (.iload_n 2, 1) := by decide +kernel
theorem dX6_whyNot_29 : decode cX6_whyNot 29 = .ok (.invokevirtual 78, 3) := by decide +kernel
theorem dX6_whyNot_32 : decode cX6_whyNot 32 = .ok (.goto 4, 3) := by decide +kernel
theorem dX6_whyNot_35 : decode cX6_whyNot 35 = .ok (.iconst 0, 1) := by decide +kernel
theorem dX6_whyNot_36 : decode cX6_whyNot 36 = .ok (.ireturn, 1) := by decide +kernel
set_option maxRecDepth 20000 in
theorem ggX6_thingAt_X6_isDoor : GoodIn wsX6_thingAt wsX6_isDoor := goodIn_r _ [4, 5, 6, 3, 7] (by decide +kernel) (by decide +kernel)
set_option maxRecDepth 20000 in
theorem gX6_thingAt_X6_isDoor : GoodIn wsX6_thingAt (va_wsS RX6 65 yX6_isDoor wsX6_isDoor) := goodIn_app (goodIn_of _ (by decide +kernel)) ggX6_thingAt_X6_isDoor
set_option maxRecDepth 20000 in
theorem ggX6_thingAt_X6_asks : GoodIn wsX6_thingAt wsX6_asks := goodIn_r _ [11, 12, 22, 23, 24, 25, 26, 27, 28, 29, 30, 31, 32, 33, 34, 35, 36, 37, 38, 39] (by decide +kernel) (by decide +kernel)
set_option maxRecDepth 20000 in
theorem gX6_thingAt_X6_asks : GoodIn wsX6_thingAt (wsV RX6 112 RX6 yX6_asks wsX6_asks) := goodIn_app (goodIn_of _ (by decide +kernel)) ggX6_thingAt_X6_asks
set_option maxRecDepth 20000 in
theorem ggX6_thingAt_X6_of : GoodIn wsX6_thingAt wsX6_of := goodIn_r _ [16, 17, 22, 23, 24, 25, 26, 27, 28, 29, 30, 31, 32, 33, 34, 35, 36, 37, 38, 39] (by decide +kernel) (by decide +kernel)
set_option maxRecDepth 20000 in
theorem gX6_thingAt_X6_of : GoodIn wsX6_thingAt (wsV RX6 50 RX6 yX6_of wsX6_of) := goodIn_app (goodIn_of _ (by decide +kernel)) ggX6_thingAt_X6_of
set_option maxRecDepth 20000 in
theorem ggX6_thingAt_X6_fails : GoodIn wsX6_thingAt wsX6_fails := goodIn_r _ [21, 12, 22, 23, 24, 25, 26, 27, 28, 29, 30, 31, 32, 33, 34, 35, 36, 37, 38, 39] (by decide +kernel) (by decide +kernel)
set_option maxRecDepth 20000 in
theorem gX6_thingAt_X6_fails : GoodIn wsX6_thingAt (wsV RX6 39 RX6 yX6_fails wsX6_fails) := goodIn_app (goodIn_of _ (by decide +kernel)) ggX6_thingAt_X6_fails
theorem dX6_thingAt_0 : decode cX6_thingAt 0 = .ok (.aload_n 0, 1) := by decide +kernel
theorem dX6_thingAt_1 : decode cX6_thingAt 1 = .ok (.iload_n 1, 1) := by decide +kernel
theorem dX6_thingAt_2 : decode cX6_thingAt 2 = .ok (.invokestatic 65, 3) := by decide +kernel
theorem dX6_thingAt_5 : decode cX6_thingAt 5 = .ok (.invokevirtual 112, 3) := by decide +kernel
theorem dX6_thingAt_8 : decode cX6_thingAt 8 = .ok (.ifCond .ne 5, 3) := by decide +kernel
theorem dX6_thingAt_11 : decode cX6_thingAt 11 = .ok (.iconst 0, 1) := by decide +kernel
theorem dX6_thingAt_12 : decode cX6_thingAt 12 = .ok (.ireturn, 1) := by decide +kernel
theorem dX6_thingAt_13 : decode cX6_thingAt 13 = .ok (.aload_n 0, 1) := by decide +kernel
theorem dX6_thingAt_14 : decode cX6_thingAt 14 = .ok (.iload_n 1, 1) := by decide +kernel
theorem dX6_thingAt_15 : decode cX6_thingAt 15 = .ok (.sipush 240, 3) := by decide +kernel
theorem dX6_thingAt_18 : decode cX6_thingAt 18 = .ok (.invokevirtual 50, 3) := by decide +kernel
theorem dX6_thingAt_21 : decode cX6_thingAt 21 = .ok (.ifCond .le 16, 3) := by decide +kernel
theorem dX6_thingAt_24 : decode cX6_thingAt 24 = .ok (.aload_n 0, 1) := by decide +kernel
theorem dX6_thingAt_25 : decode cX6_thingAt 25 = .ok (.iload_n 1, 1) := by decide +kernel
theorem dX6_thingAt_26 : decode cX6_thingAt 26 = .ok (.sipush 240, 3) := by decide +kernel
theorem dX6_thingAt_29 : decode cX6_thingAt 29 = .ok (.invokevirtual 50, 3) := by decide +kernel
theorem dX6_thingAt_32 : decode cX6_thingAt 32 = .ok (.iconst 1, 1) := by decide +kernel
theorem dX6_thingAt_33 : decode cX6_thingAt 33 = .ok (.isub, 1) := by decide +kernel
theorem dX6_thingAt_34 : decode cX6_thingAt 34 = .ok (.goto 8, 3) := by decide +kernel
theorem dX6_thingAt_37 : decode cX6_thingAt 37 = .ok (.aload_n 0, 1) := by decide +kernel
theorem dX6_thingAt_38 : decode cX6_thingAt 38 = .ok (.iconst 2, 1) := by decide +kernel
theorem dX6_thingAt_39 : decode cX6_thingAt 39 = .ok (.invokevirtual 39, 3) := by decide +kernel
theorem dX6_thingAt_42 : decode cX6_thingAt 42 = .ok (.ireturn, 1) := by decide +kernel
set_option maxRecDepth 20000 in
theorem ggX6_thingsOf_X6_isKind : GoodIn wsX6_thingsOf wsX6_isKind := goodIn_r _ [4] (by decide +kernel) (by decide +kernel)
set_option maxRecDepth 20000 in
theorem gX6_thingsOf_X6_isKind : GoodIn wsX6_thingsOf (va_wsS RX6 75 yX6_isKind wsX6_isKind) := goodIn_app (goodIn_of _ (by decide +kernel)) ggX6_thingsOf_X6_isKind
set_option maxRecDepth 20000 in
theorem ggX6_thingsOf_X6_asks : GoodIn wsX6_thingsOf wsX6_asks := goodIn_r _ [8, 9, 19, 20, 21, 22, 23, 24, 25, 26, 27, 28, 29, 30, 31, 32, 33, 34, 35, 36] (by decide +kernel) (by decide +kernel)
set_option maxRecDepth 20000 in
theorem gX6_thingsOf_X6_asks : GoodIn wsX6_thingsOf (wsV RX6 112 RX6 yX6_asks wsX6_asks) := goodIn_app (goodIn_of _ (by decide +kernel)) ggX6_thingsOf_X6_asks
set_option maxRecDepth 20000 in
theorem ggX6_thingsOf_X6_things : GoodIn wsX6_thingsOf wsX6_things := goodIn_r _ [13, 14, 15, 16, 3, 17, 18, 19, 20, 21, 22, 23, 24, 25, 26, 27, 28, 29, 30, 31, 32, 33, 34, 35, 36] (by decide +kernel) (by decide +kernel)
set_option maxRecDepth 20000 in
theorem gX6_thingsOf_X6_things : GoodIn wsX6_thingsOf (wsV RX6 81 RX6 yX6_things wsX6_things) := goodIn_app (goodIn_of _ (by decide +kernel)) ggX6_thingsOf_X6_things
theorem dX6_thingsOf_0 : decode cX6_thingsOf 0 = .ok (.aload_n 0, 1) := by decide +kernel
theorem dX6_thingsOf_1 : decode cX6_thingsOf 1 = .ok (.iload_n 1, 1) := by decide +kernel
theorem dX6_thingsOf_2 : decode cX6_thingsOf 2 = .ok (.invokestatic 75, 3) := by decide +kernel
theorem dX6_thingsOf_5 : decode cX6_thingsOf 5 = .ok (.invokevirtual 112, 3) := by decide +kernel
theorem dX6_thingsOf_8 : decode cX6_thingsOf 8 = .ok (.ifCond .eq 11, 3) := by decide +kernel
theorem dX6_thingsOf_11 : decode cX6_thingsOf 11 = .ok (.aload_n 0, 1) := by decide +kernel
theorem dX6_thingsOf_12 : decode cX6_thingsOf 12 = .ok (.iload_n 1, 1) := by decide +kernel
theorem dX6_thingsOf_13 : decode cX6_thingsOf 13 = .ok (.invokevirtual 81, 3) := by decide +kernel
theorem dX6_thingsOf_16 : decode cX6_thingsOf 16 = .ok (.goto 4, 3) := by decide +kernel
theorem dX6_thingsOf_19 : decode cX6_thingsOf 19 = .ok (.iconst 0, 1) := by decide +kernel
theorem dX6_thingsOf_20 : decode cX6_thingsOf 20 = .ok (.ireturn, 1) := by decide +kernel
set_option maxRecDepth 20000 in
theorem ggX6_shutAway_X6_of : GoodIn wsX6_shutAway wsX6_of := goodIn_r _ [6, 7, 8, 9, 10, 11, 12, 13, 14, 15, 16, 17, 18, 19, 20, 21, 22, 23, 24, 25] (by decide +kernel) (by decide +kernel)
set_option maxRecDepth 20000 in
theorem gX6_shutAway_X6_of : GoodIn wsX6_shutAway (wsV RX6 50 RX6 yX6_of wsX6_of) := goodIn_app (goodIn_of _ (by decide +kernel)) ggX6_shutAway_X6_of
theorem dX6_shutAway_0 : decode cX6_shutAway 0 = .ok (.aload_n 0, 1) := by decide +kernel
theorem dX6_shutAway_1 : decode cX6_shutAway 1 = .ok (.iconst 0, 1) := by decide +kernel
theorem dX6_shutAway_2 : decode cX6_shutAway 2 = .ok (.putfield 28, 3) := by decide +kernel
theorem dX6_shutAway_5 : decode cX6_shutAway 5 = .ok (.iconst 0, 1) := by decide +kernel
theorem dX6_shutAway_6 : decode cX6_shutAway 6 = .ok (.istore_n 1, 1) := by decide +kernel
theorem dX6_shutAway_7 : decode cX6_shutAway 7 = .ok (.iconst 1, 1) := by decide +kernel
theorem dX6_shutAway_8 : decode cX6_shutAway 8 = .ok (.istore_n 2, 1) := by decide +kernel
theorem dX6_shutAway_9 : decode cX6_shutAway 9 = .ok (.iload_n 2, 1) := by decide +kernel
theorem dX6_shutAway_10 : decode cX6_shutAway 10 = .ok (.bipush 48, 2) := by decide +kernel
theorem dX6_shutAway_12 : decode cX6_shutAway 12 = .ok (.if_icmp .gt 37, 3) := by decide +kernel
theorem dX6_shutAway_15 : decode cX6_shutAway 15 = .ok (.iload_n 1, 1) := by decide +kernel
theorem dX6_shutAway_16 : decode cX6_shutAway 16 = .ok (.aload_n 0, 1) := by decide +kernel
theorem dX6_shutAway_17 : decode cX6_shutAway 17 = .ok (.iload_n 2, 1) := by decide +kernel
theorem dX6_shutAway_18 : decode cX6_shutAway 18 = .ok (.sipush 240, 3) := by decide +kernel
theorem dX6_shutAway_21 : decode cX6_shutAway 21 = .ok (.invokevirtual 50, 3) := by decide +kernel
theorem dX6_shutAway_24 : decode cX6_shutAway 24 = .ok (.ifCond .le 16, 3) := by decide +kernel
theorem dX6_shutAway_27 : decode cX6_shutAway 27 = .ok (.aload_n 0, 1) := by decide +kernel
theorem dX6_shutAway_28 : decode cX6_shutAway 28 = .ok (.iload_n 2, 1) := by decide +kernel
theorem dX6_shutAway_29 : decode cX6_shutAway 29 = .ok (.iconst 0, 1) := by decide +kernel
theorem dX6_shutAway_30 : decode cX6_shutAway 30 = .ok (.invokevirtual 50, 3) := by decide +kernel
theorem dX6_shutAway_33 : decode cX6_shutAway 33 = .ok (.ifCond .ne 7, 3) := by decide +kernel
theorem dX6_shutAway_36 : decode cX6_shutAway 36 = .ok (.iconst 1, 1) := by decide +kernel
theorem dX6_shutAway_37 : decode cX6_shutAway 37 = .ok (.goto 4, 3) := by decide +kernel
theorem dX6_shutAway_40 : decode cX6_shutAway 40 = .ok (.iconst 0, 1) := by decide +kernel
theorem dX6_shutAway_41 : decode cX6_shutAway 41 = .ok (.iadd, 1) := by decide +kernel
theorem dX6_shutAway_42 : decode cX6_shutAway 42 = .ok (.istore_n 1, 1) := by decide +kernel
theorem dX6_shutAway_43 : decode cX6_shutAway 43 = .ok (.iinc 2 1, 3) := by decide +kernel
theorem dX6_shutAway_46 : decode cX6_shutAway 46 = .ok (.goto (-37), 3) := by decide +kernel
theorem dX6_shutAway_49 : decode cX6_shutAway 49 = .ok (.iload_n 1, 1) := by decide +kernel
theorem dX6_shutAway_50 : decode cX6_shutAway 50 = .ok (.ireturn, 1) := by decide +kernel
set_option maxRecDepth 20000 in
theorem ggX6_part_X6_sum : GoodIn wsX6_part wsX6_sum := goodIn_r _ [6, 7, 8, 9, 5, 10, 11, 12, 13, 14, 15, 16, 17, 18, 19, 20, 21, 22, 23, 24, 25, 26, 27, 28, 29] (by decide +kernel) (by decide +kernel)
set_option maxRecDepth 20000 in
theorem gX6_part_X6_sum : GoodIn wsX6_part (wsV RX6 69 RX6 yX6_sum wsX6_sum) := goodIn_app (goodIn_of _ (by decide +kernel)) ggX6_part_X6_sum
theorem dX6_part_0 : decode cX6_part 0 = .ok (.aload_n 0, 1) := by decide +kernel
theorem dX6_part_1 : decode cX6_part 1 = .ok (.iconst 0, 1) := by decide +kernel
theorem dX6_part_2 : decode cX6_part 2 = .ok (.invokevirtual 69, 3) := by decide +kernel
theorem dX6_part_5 : decode cX6_part 5 = .ok (.i2f, 1) := by decide +kernel
theorem dX6_part_6 : decode cX6_part 6 = .ok (.ldc 134, 2) := by decide +kernel
theorem dX6_part_8 : decode cX6_part 8 = .ok (.fdiv, 1) := by decide +kernel
theorem dX6_part_9 : decode cX6_part 9 = .ok (.freturn, 1) := by decide +kernel
set_option maxRecDepth 20000 in
theorem ggX6_share_X6_part : GoodIn wsX6_share wsX6_part := goodIn_r _ [6, 7, 8, 9, 10, 5, 11, 12, 13, 14, 15, 16, 17, 18, 19, 20, 21, 22, 23, 24, 25, 26, 27, 28, 29, 30, 31, 32, 33, 34] (by decide +kernel) (by decide +kernel)
set_option maxRecDepth 20000 in
theorem gX6_share_X6_part : GoodIn wsX6_share (wsV RX6 135 RX6 yX6_part wsX6_part) := goodIn_app (goodIn_of _ (by decide +kernel)) ggX6_share_X6_part
theorem dX6_share_0 : decode cX6_share 0 = .ok (.aload_n 0, 1) := by decide +kernel
theorem dX6_share_1 : decode cX6_share 1 = .ok (.iconst 0, 1) := by decide +kernel
theorem dX6_share_2 : decode cX6_share 2 = .ok (.putfield 28, 3) := by decide +kernel
theorem dX6_share_5 : decode cX6_share 5 = .ok (.aload_n 0, 1) := by decide +kernel
theorem dX6_share_6 : decode cX6_share 6 = .ok (.invokevirtual 135, 3) := by decide +kernel
theorem dX6_share_9 : decode cX6_share 9 = .ok (.freturn, 1) := by decide +kernel
set_option maxRecDepth 20000 in
theorem ggX6_shareBits_X6_part : GoodIn wsX6_shareBits wsX6_part := goodIn_r _ [6, 7, 8, 9, 10, 5, 11, 12, 13, 14, 15, 16, 29, 30, 31, 32, 33, 34, 35, 36, 37, 38, 39, 40, 41, 42, 43, 44, 45, 46] (by decide +kernel) (by decide +kernel)
set_option maxRecDepth 20000 in
theorem gX6_shareBits_X6_part : GoodIn wsX6_shareBits (wsV RX6 135 RX6 yX6_part wsX6_part) := goodIn_app (goodIn_of _ (by decide +kernel)) ggX6_shareBits_X6_part
set_option maxRecDepth 20000 in
theorem ggX6_shareBits_Jxf58ca_floatToIntBits_5c35a : GoodIn wsX6_shareBits wsJxf58ca_floatToIntBits_5c35a := goodIn_r _ [20, 21, 22, 23, 24, 25, 26, 27, 19, 28] (by decide +kernel) (by decide +kernel)
set_option maxRecDepth 20000 in
theorem gX6_shareBits_Jxf58ca_floatToIntBits_5c35a : GoodIn wsX6_shareBits (va_wsS RX6 139 yJxf58ca_floatToIntBits_5c35a wsJxf58ca_floatToIntBits_5c35a) := goodIn_app (goodIn_of _ (by decide +kernel)) ggX6_shareBits_Jxf58ca_floatToIntBits_5c35a
theorem dX6_shareBits_0 : decode cX6_shareBits 0 = .ok (.aload_n 0, 1) := by decide +kernel
theorem dX6_shareBits_1 : decode cX6_shareBits 1 = .ok (.iconst 0, 1) := by decide +kernel
theorem dX6_shareBits_2 : decode cX6_shareBits 2 = .ok (.putfield 28, 3) := by decide +kernel
theorem dX6_shareBits_5 : decode cX6_shareBits 5 = .ok (.aload_n 0, 1) := by decide +kernel
theorem dX6_shareBits_6 : decode cX6_shareBits 6 = .ok (.invokevirtual 135, 3) := by decide +kernel
theorem dX6_shareBits_9 : decode cX6_shareBits 9 = .ok (.invokestatic 139, 3) := by decide +kernel
theorem dX6_shareBits_12 : decode cX6_shareBits 12 = .ok (.ireturn, 1) := by decide +kernel
set_option maxRecDepth 20000 in
theorem ggX6_sumOfParts_X6_of : GoodIn wsX6_sumOfParts wsX6_of := goodIn_r _ [6, 7, 8, 9, 10, 11, 12, 13, 14, 15, 16, 17, 18, 19, 20, 21, 22, 23, 24, 25] (by decide +kernel) (by decide +kernel)
set_option maxRecDepth 20000 in
theorem gX6_sumOfParts_X6_of : GoodIn wsX6_sumOfParts (wsV RX6 50 RX6 yX6_of wsX6_of) := goodIn_app (goodIn_of _ (by decide +kernel)) ggX6_sumOfParts_X6_of
theorem dX6_sumOfParts_0 : decode cX6_sumOfParts 0 = .ok (.aload_n 0, 1) := by decide +kernel
theorem dX6_sumOfParts_1 : decode cX6_sumOfParts 1 = .ok (.iconst 0, 1) := by decide +kernel
theorem dX6_sumOfParts_2 : decode cX6_sumOfParts 2 = .ok (.putfield 28, 3) := by decide +kernel
theorem dX6_sumOfParts_5 : decode cX6_sumOfParts 5 = .ok (.fconst 0, 1) := by decide +kernel
theorem dX6_sumOfParts_6 : decode cX6_sumOfParts 6 = .ok (.fstore_n 1, 1) := by decide +kernel
theorem dX6_sumOfParts_7 : decode cX6_sumOfParts 7 = .ok (.iconst 1, 1) := by decide +kernel
theorem dX6_sumOfParts_8 : decode cX6_sumOfParts 8 = .ok (.istore_n 2, 1) := by decide +kernel
theorem dX6_sumOfParts_9 : decode cX6_sumOfParts 9 = .ok (.iload_n 2, 1) := by decide +kernel
theorem dX6_sumOfParts_10 : decode cX6_sumOfParts 10 = .ok (.bipush 48, 2) := by decide +kernel
theorem dX6_sumOfParts_12 : decode cX6_sumOfParts 12 = .ok (.if_icmp .gt 30, 3) := by decide +kernel
theorem dX6_sumOfParts_15 : decode cX6_sumOfParts 15 = .ok (.fload_n 1, 1) := by decide +kernel
theorem dX6_sumOfParts_16 : decode cX6_sumOfParts 16 = .ok (.aload_n 0, 1) := by decide +kernel
theorem dX6_sumOfParts_17 : decode cX6_sumOfParts 17 = .ok (.iload_n 2, 1) := by decide +kernel
theorem dX6_sumOfParts_18 : decode cX6_sumOfParts 18 = .ok (.iconst 0, 1) := by decide +kernel
theorem dX6_sumOfParts_19 : decode cX6_sumOfParts 19 = .ok (.invokevirtual 50, 3) := by decide +kernel
theorem dX6_sumOfParts_22 : decode cX6_sumOfParts 22 = .ok (.iconst 1, 1) := by decide +kernel
theorem dX6_sumOfParts_23 : decode cX6_sumOfParts 23 = .ok (.if_icmp .ne 10, 3) := by decide +kernel
theorem dX6_sumOfParts_26 : decode cX6_sumOfParts 26 = .ok (.fconst 1, 1) := by decide +kernel
theorem dX6_sumOfParts_27 : decode cX6_sumOfParts 27 = .ok (.iload_n 2, 1) := by decide +kernel
theorem dX6_sumOfParts_28 : decode cX6_sumOfParts 28 = .ok (.i2f, 1) := by decide +kernel
theorem dX6_sumOfParts_29 : decode cX6_sumOfParts 29 = .ok (.fdiv, 1) := by decide +kernel
theorem dX6_sumOfParts_30 : decode cX6_sumOfParts 30 = .ok (.goto 4, 3) := by decide +kernel
theorem dX6_sumOfParts_33 : decode cX6_sumOfParts 33 = .ok (.fconst 0, 1) := by decide +kernel
theorem dX6_sumOfParts_34 : decode cX6_sumOfParts 34 = .ok (.fadd, 1) := by decide +kernel
theorem dX6_sumOfParts_35 : decode cX6_sumOfParts 35 = .ok (.fstore_n 1, 1) := by decide +kernel
theorem dX6_sumOfParts_36 : decode cX6_sumOfParts 36 = .ok (.iinc 2 1, 3) := by decide +kernel
theorem dX6_sumOfParts_39 : decode cX6_sumOfParts 39 = .ok (.goto (-30), 3) := by decide +kernel
theorem dX6_sumOfParts_42 : decode cX6_sumOfParts 42 = .ok (.fload_n 1, 1) := by decide +kernel
theorem dX6_sumOfParts_43 : decode cX6_sumOfParts 43 = .ok (.freturn, 1) := by decide +kernel
set_option maxRecDepth 20000 in
theorem ggX6_sumBits_X6_of : GoodIn wsX6_sumBits wsX6_of := goodIn_r _ [6, 7, 20, 21, 22, 23, 24, 25, 26, 27, 28, 29, 30, 31, 32, 33, 34, 35, 36, 37] (by decide +kernel) (by decide +kernel)
set_option maxRecDepth 20000 in
theorem gX6_sumBits_X6_of : GoodIn wsX6_sumBits (wsV RX6 50 RX6 yX6_of wsX6_of) := goodIn_app (goodIn_of _ (by decide +kernel)) ggX6_sumBits_X6_of
set_option maxRecDepth 20000 in
theorem ggX6_sumBits_Jxe99ae_doubleToLongBits_ccdee : GoodIn wsX6_sumBits wsJxe99ae_doubleToLongBits_ccdee := goodIn_r _ [11, 12, 13, 14, 15, 16, 17, 18, 10, 19] (by decide +kernel) (by decide +kernel)
set_option maxRecDepth 20000 in
theorem gX6_sumBits_Jxe99ae_doubleToLongBits_ccdee : GoodIn wsX6_sumBits (va_wsS RX6 145 yJxe99ae_doubleToLongBits_ccdee wsJxe99ae_doubleToLongBits_ccdee) := goodIn_app (goodIn_of _ (by decide +kernel)) ggX6_sumBits_Jxe99ae_doubleToLongBits_ccdee
theorem dX6_sumBits_0 : decode cX6_sumBits 0 = .ok (.aload_n 0, 1) := by decide +kernel
theorem dX6_sumBits_1 : decode cX6_sumBits 1 = .ok (.iconst 0, 1) := by decide +kernel
theorem dX6_sumBits_2 : decode cX6_sumBits 2 = .ok (.putfield 28, 3) := by decide +kernel
theorem dX6_sumBits_5 : decode cX6_sumBits 5 = .ok (.dconst 0, 1) := by decide +kernel
theorem dX6_sumBits_6 : decode cX6_sumBits 6 = .ok (.dstore_n 1, 1) := by decide +kernel
theorem dX6_sumBits_7 : decode cX6_sumBits 7 = .ok (.iconst 1, 1) := by decide +kernel
theorem dX6_sumBits_8 : decode cX6_sumBits 8 = .ok (.istore_n 3, 1) := by decide +kernel
theorem dX6_sumBits_9 : decode cX6_sumBits 9 = .ok (.iload_n 3, 1) := by decide +kernel
theorem dX6_sumBits_10 : decode cX6_sumBits 10 = .ok (.bipush 48, 2) := by decide +kernel
theorem dX6_sumBits_12 : decode cX6_sumBits 12 = .ok (.if_icmp .gt 30, 3) := by decide +kernel
theorem dX6_sumBits_15 : decode cX6_sumBits 15 = .ok (.dload_n 1, 1) := by decide +kernel
theorem dX6_sumBits_16 : decode cX6_sumBits 16 = .ok (.aload_n 0, 1) := by decide +kernel
theorem dX6_sumBits_17 : decode cX6_sumBits 17 = .ok (.iload_n 3, 1) := by decide +kernel
theorem dX6_sumBits_18 : decode cX6_sumBits 18 = .ok (.iconst 0, 1) := by decide +kernel
theorem dX6_sumBits_19 : decode cX6_sumBits 19 = .ok (.invokevirtual 50, 3) := by decide +kernel
theorem dX6_sumBits_22 : decode cX6_sumBits 22 = .ok (.iconst 1, 1) := by decide +kernel
theorem dX6_sumBits_23 : decode cX6_sumBits 23 = .ok (.if_icmp .ne 10, 3) := by decide +kernel
theorem dX6_sumBits_26 : decode cX6_sumBits 26 = .ok (.dconst 1, 1) := by decide +kernel
theorem dX6_sumBits_27 : decode cX6_sumBits 27 = .ok (.iload_n 3, 1) := by decide +kernel
theorem dX6_sumBits_28 : decode cX6_sumBits 28 = .ok (.i2d, 1) := by decide +kernel
theorem dX6_sumBits_29 : decode cX6_sumBits 29 = .ok (.ddiv, 1) := by decide +kernel
theorem dX6_sumBits_30 : decode cX6_sumBits 30 = .ok (.goto 4, 3) := by decide +kernel
theorem dX6_sumBits_33 : decode cX6_sumBits 33 = .ok (.dconst 0, 1) := by decide +kernel
theorem dX6_sumBits_34 : decode cX6_sumBits 34 = .ok (.dadd, 1) := by decide +kernel
theorem dX6_sumBits_35 : decode cX6_sumBits 35 = .ok (.dstore_n 1, 1) := by decide +kernel
theorem dX6_sumBits_36 : decode cX6_sumBits 36 = .ok (.iinc 3 1, 3) := by decide +kernel
theorem dX6_sumBits_39 : decode cX6_sumBits 39 = .ok (.goto (-30), 3) := by decide +kernel
theorem dX6_sumBits_42 : decode cX6_sumBits 42 = .ok (.dload_n 1, 1) := by decide +kernel
theorem dX6_sumBits_43 : decode cX6_sumBits 43 = .ok (.invokestatic 145, 3) := by decide +kernel
theorem dX6_sumBits_46 : decode cX6_sumBits 46 = .ok (.lreturn, 1) := by decide +kernel
set_option maxRecDepth 20000 in
theorem ggX6_turnsInAll_X6_sum : GoodIn wsX6_turnsInAll wsX6_sum := goodIn_r _ [6, 7, 8, 9, 5, 10, 11, 12, 13, 14, 15, 16, 17, 18, 19, 20, 21, 22, 23, 24, 25, 26, 27, 28, 29] (by decide +kernel) (by decide +kernel)
set_option maxRecDepth 20000 in
theorem gX6_turnsInAll_X6_sum : GoodIn wsX6_turnsInAll (wsV RX6 69 RX6 yX6_sum wsX6_sum) := goodIn_app (goodIn_of _ (by decide +kernel)) ggX6_turnsInAll_X6_sum
theorem dX6_turnsInAll_0 : decode cX6_turnsInAll 0 = .ok (.aload_n 0, 1) := by decide +kernel
theorem dX6_turnsInAll_1 : decode cX6_turnsInAll 1 = .ok (.iconst 0, 1) := by decide +kernel
theorem dX6_turnsInAll_2 : decode cX6_turnsInAll 2 = .ok (.putfield 28, 3) := by decide +kernel
theorem dX6_turnsInAll_5 : decode cX6_turnsInAll 5 = .ok (.aload_n 0, 1) := by decide +kernel
theorem dX6_turnsInAll_6 : decode cX6_turnsInAll 6 = .ok (.bipush 96, 2) := by decide +kernel
theorem dX6_turnsInAll_8 : decode cX6_turnsInAll 8 = .ok (.invokevirtual 69, 3) := by decide +kernel
theorem dX6_turnsInAll_11 : decode cX6_turnsInAll 11 = .ok (.ireturn, 1) := by decide +kernel
theorem dX6_states_0 : decode cX6_states 0 = .ok (.aload_n 0, 1) := by decide +kernel
theorem dX6_states_1 : decode cX6_states 1 = .ok (.iconst 0, 1) := by decide +kernel
theorem dX6_states_2 : decode cX6_states 2 = .ok (.putfield 28, 3) := by decide +kernel
theorem dX6_states_5 : decode cX6_states 5 = .ok (.aload_n 0, 1) := by decide +kernel
theorem dX6_states_6 : decode cX6_states 6 = .ok (.getfield 36, 3) := by decide +kernel
theorem dX6_states_9 : decode cX6_states 9 = .ok (.ireturn, 1) := by decide +kernel
set_option maxRecDepth 20000 in
theorem ggX6_type_X6_in : GoodIn wsX6_type wsX6_in := goodIn_r _ [7] (by decide +kernel) (by decide +kernel)
set_option maxRecDepth 20000 in
theorem gX6_type_X6_in : GoodIn wsX6_type (va_wsS RX6 46 yX6_in wsX6_in) := goodIn_app (goodIn_of _ (by decide +kernel)) ggX6_type_X6_in
set_option maxRecDepth 20000 in
theorem ggX6_type_X6_fails : GoodIn wsX6_type wsX6_fails := goodIn_r _ [11, 1, 12, 13, 14, 15, 16, 17, 18, 19, 20, 21, 22, 23, 24, 25, 26, 27, 28, 29] (by decide +kernel) (by decide +kernel)
set_option maxRecDepth 20000 in
theorem gX6_type_X6_fails : GoodIn wsX6_type (wsV RX6 39 RX6 yX6_fails wsX6_fails) := goodIn_app (goodIn_of _ (by decide +kernel)) ggX6_type_X6_fails
theorem dX6_type_0 : decode cX6_type 0 = .ok (.aload_n 0, 1) := by decide +kernel
theorem dX6_type_1 : decode cX6_type 1 = .ok (.iconst 0, 1) := by decide +kernel
theorem dX6_type_2 : decode cX6_type 2 = .ok (.putfield 28, 3) := by decide +kernel
theorem dX6_type_5 : decode cX6_type 5 = .ok (.iload_n 1, 1) := by decide +kernel
theorem dX6_type_6 : decode cX6_type 6 = .ok (.bipush 32, 2) := by decide +kernel
theorem dX6_type_8 : decode cX6_type 8 = .ok (.bipush 126, 2) := by decide +kernel
theorem dX6_type_10 : decode cX6_type 10 = .ok (.invokestatic 46, 3) := by decide +kernel
theorem dX6_type_13 : decode cX6_type 13 = .ok (.ifCond .ne 9, 3) := by decide +kernel
theorem dX6_type_16 : decode cX6_type 16 = .ok (.aload_n 0, 1) := by decide +kernel
theorem dX6_type_17 : decode cX6_type 17 = .ok (.iconst 1, 1) := by decide +kernel
theorem dX6_type_18 : decode cX6_type 18 = .ok (.invokevirtual 39, 3) := by decide +kernel
theorem dX6_type_21 : decode cX6_type 21 = .ok (.ireturn, 1) := by decide +kernel
theorem dX6_type_22 : decode cX6_type 22 = .ok (.aload_n 0, 1) := by decide +kernel
theorem dX6_type_23 : decode cX6_type 23 = .ok (.getfield 151, 3) := by decide +kernel
theorem dX6_type_26 : decode cX6_type 26 = .ok (.bipush 60, 2) := by decide +kernel
theorem dX6_type_28 : decode cX6_type 28 = .ok (.if_icmp .ne 9, 3) := by decide +kernel
theorem dX6_type_31 : decode cX6_type 31 = .ok (.aload_n 0, 1) := by decide +kernel
theorem dX6_type_32 : decode cX6_type 32 = .ok (.iconst 2, 1) := by decide +kernel
theorem dX6_type_33 : decode cX6_type 33 = .ok (.invokevirtual 39, 3) := by decide +kernel
theorem dX6_type_36 : decode cX6_type 36 = .ok (.ireturn, 1) := by decide +kernel
theorem dX6_type_37 : decode cX6_type 37 = .ok (.aload_n 0, 1) := by decide +kernel
theorem dX6_type_38 : decode cX6_type 38 = .ok (.getfield 25, 3) := by decide +kernel
theorem dX6_type_41 : decode cX6_type 41 = .ok (.aload_n 0, 1) := by decide +kernel
theorem dX6_type_42 : decode cX6_type 42 = .ok (.getfield 151, 3) := by decide +kernel
theorem dX6_type_45 : decode cX6_type 45 = .ok (.iload_n 1, 1) := by decide +kernel
theorem dX6_type_46 : decode cX6_type 46 = .ok (.iastore, 1) := by decide +kernel
theorem dX6_type_47 : decode cX6_type 47 = .ok (.aload_n 0, 1) := by decide +kernel
theorem dX6_type_48 : decode cX6_type 48 = .ok (.dup, 1) := by decide +kernel
theorem dX6_type_49 : decode cX6_type 49 = .ok (.getfield 151, 3) := by decide +kernel
theorem dX6_type_52 : decode cX6_type 52 = .ok (.iconst 1, 1) := by decide +kernel
theorem dX6_type_53 : decode cX6_type 53 = .ok (.iadd, 1) := by decide +kernel
theorem dX6_type_54 : decode cX6_type 54 = .ok (.putfield 151, 3) := by decide +kernel
theorem dX6_type_57 : decode cX6_type 57 = .ok (.aload_n 0, 1) := by decide +kernel
theorem dX6_type_58 : decode cX6_type 58 = .ok (.getfield 151, 3) := by decide +kernel
theorem dX6_type_61 : decode cX6_type 61 = .ok (.ireturn, 1) := by decide +kernel
theorem dX6_clearText_0 : decode cX6_clearText 0 = .ok (.aload_n 0, 1) := by decide +kernel
theorem dX6_clearText_1 : decode cX6_clearText 1 = .ok (.iconst 0, 1) := by decide +kernel
theorem dX6_clearText_2 : decode cX6_clearText 2 = .ok (.putfield 28, 3) := by decide +kernel
theorem dX6_clearText_5 : decode cX6_clearText 5 = .ok (.aload_n 0, 1) := by decide +kernel
theorem dX6_clearText_6 : decode cX6_clearText 6 = .ok (.getfield 151, 3) := by decide +kernel
theorem dX6_clearText_9 : decode cX6_clearText 9 = .ok (.istore_n 1, 1) := by decide +kernel
theorem dX6_clearText_10 : decode cX6_clearText 10 = .ok (.aload_n 0, 1) := by decide +kernel
theorem dX6_clearText_11 : decode cX6_clearText 11 = .ok (.iconst 0, 1) := by decide +kernel
theorem dX6_clearText_12 : decode cX6_clearText 12 = .ok (.putfield 151, 3) := by decide +kernel
theorem dX6_clearText_15 : decode cX6_clearText 15 = .ok (.iload_n 1, 1) := by decide +kernel
theorem dX6_clearText_16 : decode cX6_clearText 16 = .ok (.ireturn, 1) := by decide +kernel
theorem dX6_here_0 : decode cX6_here 0 = .ok (.aload_n 0, 1) := by decide +kernel
theorem dX6_here_1 : decode cX6_here 1 = .ok (.getfield 154, 3) := by decide +kernel
theorem dX6_here_4 : decode cX6_here 4 = .ok (.aload_n 0, 1) := by decide +kernel
theorem dX6_here_5 : decode cX6_here 5 = .ok (.getfield 151, 3) := by decide +kernel
theorem dX6_here_8 : decode cX6_here 8 = .ok (.if_icmp .ge 15, 3) := by decide +kernel
theorem dX6_here_11 : decode cX6_here 11 = .ok (.aload_n 0, 1) := by decide +kernel
theorem dX6_here_12 : decode cX6_here 12 = .ok (.getfield 25, 3) := by decide +kernel
theorem dX6_here_15 : decode cX6_here 15 = .ok (.aload_n 0, 1) := by decide +kernel
theorem dX6_here_16 : decode cX6_here 16 = .ok (.getfield 154, 3) := by decide +kernel
theorem dX6_here_19 : decode cX6_here 19 = .ok (.iaload, 1) := by decide +kernel
theorem dX6_here_20 : decode cX6_here 20 = .ok (.goto 4, 3) := by decide +kernel
theorem dX6_here_23 : decode cX6_here 23 = .ok (.iconst 0, 1) := by decide +kernel
theorem dX6_here_24 : decode cX6_here 24 = .ok (.ireturn, 1) := by decide +kernel
theorem dX6_takes_0 : decode cX6_takes 0 = .ok (.aload_n 0, 1) := by decide +kernel
theorem dX6_takes_1 : decode cX6_takes 1 = .ok (.aload_n 0, 1) := by decide +kernel
theorem dX6_takes_2 : decode cX6_takes 2 = .ok (.getfield 157, 3) := by decide +kernel
theorem dX6_takes_5 : decode cX6_takes 5 = .ok (.ifCond .eq 11, 3) := by decide +kernel
theorem dX6_takes_8 : decode cX6_takes 8 = .ok (.iload_n 1, 1) := by decide +kernel
theorem dX6_takes_9 : decode cX6_takes 9 = .ok (.ifCond .eq 7, 3) := by decide +kernel
theorem dX6_takes_12 : decode cX6_takes 12 = .ok (.iconst 1, 1) := by decide +kernel
theorem dX6_takes_13 : decode cX6_takes 13 = .ok (.goto 4, 3) := by decide +kernel
theorem dX6_takes_16 : decode cX6_takes 16 = .ok (.iconst 0, 1) := by decide +kernel
theorem dX6_takes_17 : decode cX6_takes 17 = .ok (.putfield 157, 3) := by decide +kernel
theorem dX6_takes_20 : decode cX6_takes 20 = .ok (.aload_n 0, 1) := by decide +kernel
theorem dX6_takes_21 : decode cX6_takes 21 = .ok (.dup, 1) := by decide +kernel
theorem dX6_takes_22 : decode cX6_takes 22 = .ok (.getfield 154, 3) := by decide +kernel
theorem dX6_takes_25 : decode cX6_takes 25 = .ok (.aload_n 0, 1) := by decide +kernel
theorem dX6_takes_26 : decode cX6_takes 26 = .ok (.getfield 157, 3) := by decide +kernel
theorem dX6_takes_29 : decode cX6_takes 29 = .ok (.ifCond .eq 7, 3) := by decide +kernel
theorem dX6_takes_32 : decode cX6_takes 32 = .ok (.iconst 1, 1) := by decide +kernel
theorem dX6_takes_33 : decode cX6_takes 33 = .ok (.goto 4, 3) := by decide +kernel
theorem dX6_takes_36 : decode cX6_takes 36 = .ok (.iconst 0, 1) := by decide +kernel
theorem dX6_takes_37 : decode cX6_takes 37 = .ok (.iadd, 1) := by decide +kernel
theorem dX6_takes_38 : decode cX6_takes 38 = .ok (.putfield 154, 3) := by decide +kernel
theorem dX6_takes_41 : decode cX6_takes 41 = .ok (.return_, 1) := by decide +kernel
set_option maxRecDepth 20000 in
theorem ggX6_takesNumber_X6_here : GoodIn wsX6_takesNumber wsX6_here := goodIn_r _ [7, 2, 8, 9, 13, 14, 15, 16, 17, 18, 19, 20, 21, 22, 23, 24, 25, 26, 27, 28, 29, 30] (by decide +kernel) (by decide +kernel)
set_option maxRecDepth 20000 in
theorem gX6_takesNumber_X6_here : GoodIn wsX6_takesNumber (wsV RX6 160 RX6 yX6_here wsX6_here) := goodIn_app (goodIn_of _ (by decide +kernel)) ggX6_takesNumber_X6_here
set_option maxRecDepth 20000 in
theorem ggX6_takesNumber_X6_in : GoodIn wsX6_takesNumber wsX6_in := goodIn_r _ [12] (by decide +kernel) (by decide +kernel)
set_option maxRecDepth 20000 in
theorem gX6_takesNumber_X6_in : GoodIn wsX6_takesNumber (va_wsS RX6 46 yX6_in wsX6_in) := goodIn_app (goodIn_of _ (by decide +kernel)) ggX6_takesNumber_X6_in
theorem dX6_takesNumber_0 : decode cX6_takesNumber 0 = .ok (.iconst 0, 1) := by decide +kernel
theorem dX6_takesNumber_1 : decode cX6_takesNumber 1 = .ok (.istore_n 1, 1) := by decide +kernel
theorem dX6_takesNumber_2 : decode cX6_takesNumber 2 = .ok (.iconst 0, 1) := by decide +kernel
theorem dX6_takesNumber_3 : decode cX6_takesNumber 3 = .ok (.istore_n 2, 1) := by decide +kernel
theorem dX6_takesNumber_4 : decode cX6_takesNumber 4 = .ok (.aload_n 0, 1) := by decide +kernel
theorem dX6_takesNumber_5 : decode cX6_takesNumber 5 = .ok (.getfield 157, 3) := by decide +kernel
theorem dX6_takesNumber_8 : decode cX6_takesNumber 8 = .ok (.ifCond .eq 51, 3) := by decide +kernel
theorem dX6_takesNumber_11 : decode cX6_takesNumber 11 = .ok (.iload_n 2, 1) := by decide +kernel
theorem dX6_takesNumber_12 : decode cX6_takesNumber 12 = .ok (.iconst 2, 1) := by decide +kernel
theorem dX6_takesNumber_13 : decode cX6_takesNumber 13 = .ok (.if_icmp .ge 46, 3) := by decide +kernel
theorem dX6_takesNumber_16 : decode cX6_takesNumber 16 = .ok (.aload_n 0, 1) := by decide +kernel
theorem dX6_takesNumber_17 : decode cX6_takesNumber 17 = .ok (.invokevirtual 160, 3) := by decide +kernel
theorem dX6_takesNumber_20 : decode cX6_takesNumber 20 = .ok (.bipush 48, 2) := by decide +kernel
theorem dX6_takesNumber_22 : decode cX6_takesNumber 22 = .ok (.bipush 57, 2) := by decide +kernel
theorem dX6_takesNumber_24 : decode cX6_takesNumber 24 = .ok (.invokestatic 46, 3) := by decide +kernel
theorem dX6_takesNumber_27 : decode cX6_takesNumber 27 = .ok (.ifCond .eq 32, 3) := by decide +kernel
theorem dX6_takesNumber_30 : decode cX6_takesNumber 30 = .ok (.bipush 10, 2) := by decide +kernel
theorem dX6_takesNumber_32 : decode cX6_takesNumber 32 = .ok (.iload_n 1, 1) := by decide +kernel
theorem dX6_takesNumber_33 : decode cX6_takesNumber 33 = .ok (.imul, 1) := by decide +kernel
theorem dX6_takesNumber_34 : decode cX6_takesNumber 34 = .ok (.aload_n 0, 1) := by decide +kernel
theorem dX6_takesNumber_35 : decode cX6_takesNumber 35 = .ok (.invokevirtual 160, 3) := by decide +kernel
theorem dX6_takesNumber_38 : decode cX6_takesNumber 38 = .ok (.iadd, 1) := by decide +kernel
theorem dX6_takesNumber_39 : decode cX6_takesNumber 39 = .ok (.bipush 48, 2) := by decide +kernel
theorem dX6_takesNumber_41 : decode cX6_takesNumber 41 = .ok (.isub, 1) := by decide +kernel
theorem dX6_takesNumber_42 : decode cX6_takesNumber 42 = .ok (.istore_n 1, 1) := by decide +kernel
theorem dX6_takesNumber_43 : decode cX6_takesNumber 43 = .ok (.iinc 2 1, 3) := by decide +kernel
theorem dX6_takesNumber_46 : decode cX6_takesNumber 46 = .ok (.aload_n 0, 1) := by decide +kernel
theorem dX6_takesNumber_47 : decode cX6_takesNumber 47 = .ok (.dup, 1) := by decide +kernel
theorem dX6_takesNumber_48 : decode cX6_takesNumber 48 = .ok (.getfield 154, 3) := by decide +kernel
theorem dX6_takesNumber_51 : decode cX6_takesNumber 51 = .ok (.iconst 1, 1) := by decide +kernel
theorem dX6_takesNumber_52 : decode cX6_takesNumber 52 = .ok (.iadd, 1) := by decide +kernel
theorem dX6_takesNumber_53 : decode cX6_takesNumber 53 = .ok (.putfield 154, 3) := by decide +kernel
theorem dX6_takesNumber_56 : decode cX6_takesNumber 56 = .ok (.goto (-52), 3) := by decide +kernel
theorem dX6_takesNumber_59 : decode cX6_takesNumber 59 = .ok (.aload_n 0, 1) := by decide +kernel
theorem dX6_takesNumber_60 : decode cX6_takesNumber 60 = .ok (.aload_n 0, 1) := by decide +kernel
theorem dX6_takesNumber_61 : decode cX6_takesNumber 61 = .ok (.getfield 157, 3) := by decide +kernel
theorem dX6_takesNumber_64 : decode cX6_takesNumber 64 = .ok (.ifCond .eq 11, 3) := by decide +kernel
theorem dX6_takesNumber_67 : decode cX6_takesNumber 67 = .ok (.iload_n 2, 1) := by decide +kernel
theorem dX6_takesNumber_68 : decode cX6_takesNumber 68 = .ok (.ifCond .le 7, 3) := by decide +kernel
theorem dX6_takesNumber_71 : decode cX6_takesNumber 71 = .ok (.iconst 1, 1) := by decide +kernel
theorem dX6_takesNumber_72 : decode cX6_takesNumber 72 = .ok (.goto 4, 3) := by decide +kernel
theorem dX6_takesNumber_75 : decode cX6_takesNumber 75 = .ok (.iconst 0, 1) := by decide +kernel
theorem dX6_takesNumber_76 : decode cX6_takesNumber 76 = .ok (.putfield 157, 3) := by decide +kernel
theorem dX6_takesNumber_79 : decode cX6_takesNumber 79 = .ok (.iload_n 1, 1) := by decide +kernel
theorem dX6_takesNumber_80 : decode cX6_takesNumber 80 = .ok (.ireturn, 1) := by decide +kernel
set_option maxRecDepth 20000 in
theorem ggX6_takesOrder_X6_here : GoodIn wsX6_takesOrder wsX6_here := goodIn_r _ [11, 1, 12, 13, 25, 26, 27, 28, 29, 30, 31, 32, 33, 34, 35, 36, 37, 38, 39, 40, 41, 42] (by decide +kernel) (by decide +kernel)
set_option maxRecDepth 20000 in
theorem gX6_takesOrder_X6_here : GoodIn wsX6_takesOrder (wsV RX6 160 RX6 yX6_here wsX6_here) := goodIn_app (goodIn_of _ (by decide +kernel)) ggX6_takesOrder_X6_here
set_option maxRecDepth 20000 in
theorem ggX6_takesOrder_X6_takes : GoodIn wsX6_takesOrder wsX6_takes := goodIn_r _ [17, 3, 1, 25, 26, 27, 28, 29, 30, 31, 32, 33, 34, 35, 36, 37, 38, 39, 40, 41, 42] (by decide +kernel) (by decide +kernel)
set_option maxRecDepth 20000 in
theorem gX6_takesOrder_X6_takes : GoodIn wsX6_takesOrder (wsV RX6 169 RX6 yX6_takes wsX6_takes) := goodIn_app (goodIn_of _ (by decide +kernel)) ggX6_takesOrder_X6_takes
set_option maxRecDepth 20000 in
theorem ggX6_takesOrder_X6_takesNumber : GoodIn wsX6_takesOrder wsX6_takesNumber := goodIn_r _ [21, 3, 1, 7, 8, 9, 10, 11, 12, 13, 22, 23, 24, 25, 26, 27, 28, 29, 30, 31, 32, 33, 34, 35, 36, 37, 38, 39, 40, 41, 42] (by decide +kernel) (by decide +kernel)
set_option maxRecDepth 20000 in
theorem gX6_takesOrder_X6_takesNumber : GoodIn wsX6_takesOrder (wsV RX6 173 RX6 yX6_takesNumber wsX6_takesNumber) := goodIn_app (goodIn_of _ (by decide +kernel)) ggX6_takesOrder_X6_takesNumber
theorem dX6_takesOrder_0 : decode cX6_takesOrder 0 = .ok (.aload_n 0, 1) := by decide +kernel
theorem dX6_takesOrder_1 : decode cX6_takesOrder 1 = .ok (.aload_n 0, 1) := by decide +kernel
theorem dX6_takesOrder_2 : decode cX6_takesOrder 2 = .ok (.getfield 154, 3) := by decide +kernel
theorem dX6_takesOrder_5 : decode cX6_takesOrder 5 = .ok (.putfield 163, 3) := by decide +kernel
theorem dX6_takesOrder_8 : decode cX6_takesOrder 8 = .ok (.aload_n 0, 1) := by decide +kernel
theorem dX6_takesOrder_9 : decode cX6_takesOrder 9 = .ok (.iconst 1, 1) := by decide +kernel
theorem dX6_takesOrder_10 : decode cX6_takesOrder 10 = .ok (.putfield 157, 3) := by decide +kernel
theorem dX6_takesOrder_13 : decode cX6_takesOrder 13 = .ok (.aload_n 0, 1) := by decide +kernel
theorem dX6_takesOrder_14 : decode cX6_takesOrder 14 = .ok (.aload_n 0, 1) := by decide +kernel
theorem dX6_takesOrder_15 : decode cX6_takesOrder 15 = .ok (.invokevirtual 160, 3) := by decide +kernel
theorem dX6_takesOrder_18 : decode cX6_takesOrder 18 = .ok (.putfield 166, 3) := by decide +kernel
theorem dX6_takesOrder_21 : decode cX6_takesOrder 21 = .ok (.aload_n 0, 1) := by decide +kernel
theorem dX6_takesOrder_22 : decode cX6_takesOrder 22 = .ok (.getfield 166, 3) := by decide +kernel
theorem dX6_takesOrder_25 : decode cX6_takesOrder 25 = .ok (.bipush 114, 2) := by decide +kernel
theorem dX6_takesOrder_27 : decode cX6_takesOrder 27 = .ok (.if_icmp .eq 12, 3) := by decide +kernel
theorem dX6_takesOrder_30 : decode cX6_takesOrder 30 = .ok (.aload_n 0, 1) := by decide +kernel
theorem dX6_takesOrder_31 : decode cX6_takesOrder 31 = .ok (.getfield 166, 3) := by decide +kernel
theorem dX6_takesOrder_34 : decode cX6_takesOrder 34 = .ok (.bipush 116, 2) := by decide +kernel
theorem dX6_takesOrder_36 : decode cX6_takesOrder 36 = .ok (.if_icmp .ne 7, 3) := by decide +kernel
theorem dX6_takesOrder_39 : decode cX6_takesOrder 39 = .ok (.iconst 1, 1) := by decide +kernel
theorem dX6_takesOrder_40 : decode cX6_takesOrder 40 = .ok (.goto 4, 3) := by decide +kernel
theorem dX6_takesOrder_43 : decode cX6_takesOrder 43 = .ok (.iconst 0, 1) := by decide +kernel
theorem dX6_takesOrder_44 : decode cX6_takesOrder 44 = .ok (.istore_n 1, 1) := by decide +kernel
theorem dX6_takesOrder_45 : decode cX6_takesOrder 45 = .ok (.aload_n 0, 1) := by decide +kernel
theorem dX6_takesOrder_46 : decode cX6_takesOrder 46 = .ok (.iload_n 1, 1) := by decide +kernel
theorem dX6_takesOrder_47 : decode cX6_takesOrder 47 = .ok (.ifCond .ne 30, 3) := by decide +kernel
theorem dX6_takesOrder_50 : decode cX6_takesOrder 50 = .ok (.aload_n 0, 1) := by decide +kernel
theorem dX6_takesOrder_51 : decode cX6_takesOrder 51 = .ok (.getfield 166, 3) := by decide +kernel
theorem dX6_takesOrder_54 : decode cX6_takesOrder 54 = .ok (.bipush 112, 2) := by decide +kernel
theorem dX6_takesOrder_56 : decode cX6_takesOrder 56 = .ok (.if_icmp .eq 21, 3) := by decide +kernel
theorem dX6_takesOrder_59 : decode cX6_takesOrder 59 = .ok (.aload_n 0, 1) := by decide +kernel
theorem dX6_takesOrder_60 : decode cX6_takesOrder 60 = .ok (.getfield 166, 3) := by decide +kernel
theorem dX6_takesOrder_63 : decode cX6_takesOrder 63 = .ok (.bipush 100, 2) := by decide +kernel
theorem dX6_takesOrder_65 : decode cX6_takesOrder 65 = .ok (.if_icmp .eq 12, 3) := by decide +kernel
theorem dX6_takesOrder_68 : decode cX6_takesOrder 68 = .ok (.aload_n 0, 1) := by decide +kernel
theorem dX6_takesOrder_69 : decode cX6_takesOrder 69 = .ok (.getfield 166, 3) := by decide +kernel
theorem dX6_takesOrder_72 : decode cX6_takesOrder 72 = .ok (.bipush 108, 2) := by decide +kernel
theorem dX6_takesOrder_74 : decode cX6_takesOrder 74 = .ok (.if_icmp .ne 7, 3) := by decide +kernel
theorem dX6_takesOrder_77 : decode cX6_takesOrder 77 = .ok (.iconst 1, 1) := by decide +kernel
theorem dX6_takesOrder_78 : decode cX6_takesOrder 78 = .ok (.goto 4, 3) := by decide +kernel
theorem dX6_takesOrder_81 : decode cX6_takesOrder 81 = .ok (.iconst 0, 1) := by decide +kernel
theorem dX6_takesOrder_82 : decode cX6_takesOrder 82 = .ok (.invokevirtual 169, 3) := by decide +kernel
theorem dX6_takesOrder_85 : decode cX6_takesOrder 85 = .ok (.aload_n 0, 1) := by decide +kernel
theorem dX6_takesOrder_86 : decode cX6_takesOrder 86 = .ok (.aload_n 0, 1) := by decide +kernel
theorem dX6_takesOrder_87 : decode cX6_takesOrder 87 = .ok (.invokevirtual 173, 3) := by decide +kernel
theorem dX6_takesOrder_90 : decode cX6_takesOrder 90 = .ok (.putfield 176, 3) := by decide +kernel
theorem dX6_takesOrder_93 : decode cX6_takesOrder 93 = .ok (.iload_n 1, 1) := by decide +kernel
theorem dX6_takesOrder_94 : decode cX6_takesOrder 94 = .ok (.ifCond .eq 29, 3) := by decide +kernel
theorem dX6_takesOrder_97 : decode cX6_takesOrder 97 = .ok (.aload_n 0, 1) := by decide +kernel
theorem dX6_takesOrder_98 : decode cX6_takesOrder 98 = .ok (.aload_n 0, 1) := by decide +kernel
theorem dX6_takesOrder_99 : decode cX6_takesOrder 99 = .ok (.invokevirtual 160, 3) := by decide +kernel
theorem dX6_takesOrder_102 : decode cX6_takesOrder 102 = .ok (.bipush 44, 2) := by decide +kernel
theorem dX6_takesOrder_104 : decode cX6_takesOrder 104 = .ok (.if_icmp .ne 7, 3) := by decide +kernel
theorem dX6_takesOrder_107 : decode cX6_takesOrder 107 = .ok (.iconst 1, 1) := by decide +kernel
theorem dX6_takesOrder_108 : decode cX6_takesOrder 108 = .ok (.goto 4, 3) := by decide +kernel
theorem dX6_takesOrder_111 : decode cX6_takesOrder 111 = .ok (.iconst 0, 1) := by decide +kernel
theorem dX6_takesOrder_112 : decode cX6_takesOrder 112 = .ok (.invokevirtual 169, 3) := by decide +kernel
theorem dX6_takesOrder_115 : decode cX6_takesOrder 115 = .ok (.aload_n 0, 1) := by decide +kernel
theorem dX6_takesOrder_116 : decode cX6_takesOrder 116 = .ok (.aload_n 0, 1) := by decide +kernel
theorem dX6_takesOrder_117 : decode cX6_takesOrder 117 = .ok (.invokevirtual 173, 3) := by decide +kernel
theorem dX6_takesOrder_120 : decode cX6_takesOrder 120 = .ok (.putfield 179, 3) := by decide +kernel
theorem dX6_takesOrder_123 : decode cX6_takesOrder 123 = .ok (.aload_n 0, 1) := by decide +kernel
theorem dX6_takesOrder_124 : decode cX6_takesOrder 124 = .ok (.aload_n 0, 1) := by decide +kernel
theorem dX6_takesOrder_125 : decode cX6_takesOrder 125 = .ok (.invokevirtual 160, 3) := by decide +kernel
theorem dX6_takesOrder_128 : decode cX6_takesOrder 128 = .ok (.bipush 59, 2) := by decide +kernel
theorem dX6_takesOrder_130 : decode cX6_takesOrder 130 = .ok (.if_icmp .ne 7, 3) := by decide +kernel
theorem dX6_takesOrder_133 : decode cX6_takesOrder 133 = .ok (.iconst 1, 1) := by decide +kernel
theorem dX6_takesOrder_134 : decode cX6_takesOrder 134 = .ok (.goto 4, 3) := by decide +kernel
theorem dX6_takesOrder_137 : decode cX6_takesOrder 137 = .ok (.iconst 0, 1) := by decide +kernel
theorem dX6_takesOrder_138 : decode cX6_takesOrder 138 = .ok (.invokevirtual 169, 3) := by decide +kernel
theorem dX6_takesOrder_141 : decode cX6_takesOrder 141 = .ok (.return_, 1) := by decide +kernel
set_option maxRecDepth 20000 in
theorem ggX6_doesOrder_X6_goPass : GoodIn wsX6_doesOrder wsX6_goPass := goodIn_r _ [8, 9, 10, 7, 11, 12, 13, 14, 15, 16, 17, 18, 19, 20, 21, 22, 23, 24, 25, 26, 27, 28, 29, 30, 31, 32, 33, 34, 35, 67, 68, 69, 70, 71, 72, 73, 74, 75, 76, 77, 78, 79, 80, 81, 82, 83, 84] (by decide +kernel) (by decide +kernel)
set_option maxRecDepth 20000 in
theorem gX6_doesOrder_X6_goPass : GoodIn wsX6_doesOrder (wsV RX6 87 RX6 yX6_goPass wsX6_goPass) := goodIn_app (goodIn_of _ (by decide +kernel)) ggX6_doesOrder_X6_goPass
set_option maxRecDepth 20000 in
theorem ggX6_doesOrder_X6_goDoor : GoodIn wsX6_doesOrder wsX6_goDoor := goodIn_r _ [39, 9, 10, 7, 11, 12, 13, 14, 19, 20, 21, 22, 23, 24, 25, 26, 27, 28, 29, 30, 31, 67, 68, 69, 70, 71, 72, 73, 74, 75, 76, 77, 78, 79, 80, 81, 82, 83, 84] (by decide +kernel) (by decide +kernel)
set_option maxRecDepth 20000 in
theorem gX6_doesOrder_X6_goDoor : GoodIn wsX6_doesOrder (wsV RX6 96 RX6 yX6_goDoor wsX6_goDoor) := goodIn_app (goodIn_of _ (by decide +kernel)) ggX6_doesOrder_X6_goDoor
set_option maxRecDepth 20000 in
theorem ggX6_doesOrder_X6_goTurn : GoodIn wsX6_doesOrder wsX6_goTurn := goodIn_r _ [43, 9, 10, 7, 11, 12, 13, 14, 19, 20, 21, 22, 23, 28, 29, 30, 31, 67, 68, 69, 70, 71, 72, 73, 74, 75, 76, 77, 78, 79, 80, 81, 82, 83, 84] (by decide +kernel) (by decide +kernel)
set_option maxRecDepth 20000 in
theorem gX6_doesOrder_X6_goTurn : GoodIn wsX6_doesOrder (wsV RX6 99 RX6 yX6_goTurn wsX6_goTurn) := goodIn_app (goodIn_of _ (by decide +kernel)) ggX6_doesOrder_X6_goTurn
set_option maxRecDepth 20000 in
theorem ggX6_doesOrder_X6_goRow : GoodIn wsX6_doesOrder wsX6_goRow := goodIn_r _ [47, 9, 10, 7, 11, 12, 13, 14, 48, 49, 50, 51, 19, 20, 21, 22, 23, 15, 16, 17, 18, 24, 25, 26, 27, 28, 29, 30, 31, 67, 68, 69, 70, 71, 72, 73, 74, 75, 76, 77, 78, 79, 80, 81, 82, 83, 84] (by decide +kernel) (by decide +kernel)
set_option maxRecDepth 20000 in
theorem gX6_doesOrder_X6_goRow : GoodIn wsX6_doesOrder (wsV RX6 93 RX6 yX6_goRow wsX6_goRow) := goodIn_app (goodIn_of _ (by decide +kernel)) ggX6_doesOrder_X6_goRow
set_option maxRecDepth 20000 in
theorem ggX6_doesOrder_X6_goStore : GoodIn wsX6_doesOrder wsX6_goStore := goodIn_r _ [55, 9, 10, 7, 11, 12, 13, 14, 56, 57, 58, 59, 60, 61, 62, 19, 20, 21, 22, 23, 28, 29, 30, 31, 63, 64, 65, 66, 67, 68, 69, 70, 71, 72, 73, 74, 75, 76, 77, 78, 79, 80, 81, 82, 83, 84] (by decide +kernel) (by decide +kernel)
set_option maxRecDepth 20000 in
theorem gX6_doesOrder_X6_goStore : GoodIn wsX6_doesOrder (wsV RX6 102 RX6 yX6_goStore wsX6_goStore) := goodIn_app (goodIn_of _ (by decide +kernel)) ggX6_doesOrder_X6_goStore
theorem dX6_doesOrder_0 : decode cX6_doesOrder 0 = .ok (.aload_n 0, 1) := by decide +kernel
theorem dX6_doesOrder_1 : decode cX6_doesOrder 1 = .ok (.getfield 166, 3) := by decide +kernel
theorem dX6_doesOrder_4 : decode cX6_doesOrder 4 = .ok (.lookupswitch 86 #[(100, 53), (108, 62), (112, 44), (114, 73)], 44) := by decide +kernel
theorem dX6_doesOrder_48 : decode cX6_doesOrder 48 = .ok (.aload_n 0, 1) := by decide +kernel
theorem dX6_doesOrder_49 : decode cX6_doesOrder 49 = .ok (.aload_n 0, 1) := by decide +kernel
theorem dX6_doesOrder_50 : decode cX6_doesOrder 50 = .ok (.getfield 176, 3) := by decide +kernel
theorem dX6_doesOrder_53 : decode cX6_doesOrder 53 = .ok (.invokevirtual 87, 3) := by decide +kernel
theorem dX6_doesOrder_56 : decode cX6_doesOrder 56 = .ok (.ireturn, 1) := by decide +kernel
theorem dX6_doesOrder_57 : decode cX6_doesOrder 57 = .ok (.aload_n 0, 1) := by decide +kernel
theorem dX6_doesOrder_58 : decode cX6_doesOrder 58 = .ok (.aload_n 0, 1) := by decide +kernel
theorem dX6_doesOrder_59 : decode cX6_doesOrder 59 = .ok (.getfield 176, 3) := by decide +kernel
theorem dX6_doesOrder_62 : decode cX6_doesOrder 62 = .ok (.invokevirtual 96, 3) := by decide +kernel
theorem dX6_doesOrder_65 : decode cX6_doesOrder 65 = .ok (.ireturn, 1) := by decide +kernel
theorem dX6_doesOrder_66 : decode cX6_doesOrder 66 = .ok (.aload_n 0, 1) := by decide +kernel
theorem dX6_doesOrder_67 : decode cX6_doesOrder 67 = .ok (.aload_n 0, 1) := by decide +kernel
theorem dX6_doesOrder_68 : decode cX6_doesOrder 68 = .ok (.getfield 176, 3) := by decide +kernel
theorem dX6_doesOrder_71 : decode cX6_doesOrder 71 = .ok (.bipush 48, 2) := by decide +kernel
theorem dX6_doesOrder_73 : decode cX6_doesOrder 73 = .ok (.invokevirtual 99, 3) := by decide +kernel
theorem dX6_doesOrder_76 : decode cX6_doesOrder 76 = .ok (.ireturn, 1) := by decide +kernel
theorem dX6_doesOrder_77 : decode cX6_doesOrder 77 = .ok (.aload_n 0, 1) := by decide +kernel
theorem dX6_doesOrder_78 : decode cX6_doesOrder 78 = .ok (.aload_n 0, 1) := by decide +kernel
theorem dX6_doesOrder_79 : decode cX6_doesOrder 79 = .ok (.getfield 176, 3) := by decide +kernel
theorem dX6_doesOrder_82 : decode cX6_doesOrder 82 = .ok (.aload_n 0, 1) := by decide +kernel
theorem dX6_doesOrder_83 : decode cX6_doesOrder 83 = .ok (.getfield 179, 3) := by decide +kernel
theorem dX6_doesOrder_86 : decode cX6_doesOrder 86 = .ok (.invokevirtual 93, 3) := by decide +kernel
theorem dX6_doesOrder_89 : decode cX6_doesOrder 89 = .ok (.ireturn, 1) := by decide +kernel
theorem dX6_doesOrder_90 : decode cX6_doesOrder 90 = .ok (.aload_n 0, 1) := by decide +kernel
theorem dX6_doesOrder_91 : decode cX6_doesOrder 91 = .ok (.aload_n 0, 1) := by decide +kernel
theorem dX6_doesOrder_92 : decode cX6_doesOrder 92 = .ok (.getfield 176, 3) := by decide +kernel
theorem dX6_doesOrder_95 : decode cX6_doesOrder 95 = .ok (.aload_n 0, 1) := by decide +kernel
theorem dX6_doesOrder_96 : decode cX6_doesOrder 96 = .ok (.getfield 179, 3) := by decide +kernel
theorem dX6_doesOrder_99 : decode cX6_doesOrder 99 = .ok (.invokevirtual 102, 3) := by decide +kernel
theorem dX6_doesOrder_102 : decode cX6_doesOrder 102 = .ok (.ireturn, 1) := by decide +kernel
set_option maxRecDepth 20000 in
theorem ggX6_doesAll_X6_takesOrder : GoodIn wsX6_doesAll wsX6_takesOrder := goodIn_r _ [11, 2, 5, 4, 12, 13, 14, 15, 16, 17, 10, 18, 3, 19, 20, 21, 22, 23, 24, 25, 26, 27, 28, 29, 30, 94, 95, 96, 97, 98, 99, 100, 101, 102, 103, 104, 105, 106, 107, 108, 109, 110, 111] (by decide +kernel) (by decide +kernel)
set_option maxRecDepth 20000 in
theorem gX6_doesAll_X6_takesOrder : GoodIn wsX6_doesAll (wsV RX6 184 RX6 yX6_takesOrder wsX6_takesOrder) := goodIn_app (goodIn_of _ (by decide +kernel)) ggX6_doesAll_X6_takesOrder
set_option maxRecDepth 20000 in
theorem ggX6_doesAll_X6_doesOrder : GoodIn wsX6_doesAll wsX6_doesOrder := goodIn_r _ [34, 12, 13, 14, 35, 36, 37, 10, 38, 39, 40, 41, 28, 29, 30, 42, 43, 44, 45, 46, 47, 48, 49, 50, 51, 52, 53, 54, 55, 56, 57, 58, 59, 60, 61, 62, 63, 64, 65, 66, 67, 68, 69, 70, 71, 72, 73, 74, 75, 76, 77, 78, 79, 80, 81, 82, 83, 84, 85, 86, 87, 88, 89, 90, 91, 92, 93, 94, 95, 96, 97, 98, 99, 100, 101, 102, 103, 104, 105, 106, 107, 108, 109, 110, 111] (by decide +kernel) (by decide +kernel)
set_option maxRecDepth 20000 in
theorem gX6_doesAll_X6_doesOrder : GoodIn wsX6_doesAll (wsV RX6 187 RX6 yX6_doesOrder wsX6_doesOrder) := goodIn_app (goodIn_of _ (by decide +kernel)) ggX6_doesAll_X6_doesOrder
theorem dX6_doesAll_0 : decode cX6_doesAll 0 = .ok (.iconst 0, 1) := by decide +kernel
theorem dX6_doesAll_1 : decode cX6_doesAll 1 = .ok (.istore_n 1, 1) := by decide +kernel
theorem dX6_doesAll_2 : decode cX6_doesAll 2 = .ok (.aload_n 0, 1) := by decide +kernel
theorem dX6_doesAll_3 : decode cX6_doesAll 3 = .ok (.iconst 0, 1) := by decide +kernel
theorem dX6_doesAll_4 : decode cX6_doesAll 4 = .ok (.putfield 182, 3) := by decide +kernel
theorem dX6_doesAll_7 : decode cX6_doesAll 7 = .ok (.aload_n 0, 1) := by decide +kernel
theorem dX6_doesAll_8 : decode cX6_doesAll 8 = .ok (.iconst 0, 1) := by decide +kernel
theorem dX6_doesAll_9 : decode cX6_doesAll 9 = .ok (.putfield 154, 3) := by decide +kernel
theorem dX6_doesAll_12 : decode cX6_doesAll 12 = .ok (.aload_n 0, 1) := by decide +kernel
theorem dX6_doesAll_13 : decode cX6_doesAll 13 = .ok (.getfield 182, 3) := by decide +kernel
theorem dX6_doesAll_16 : decode cX6_doesAll 16 = .ok (.ifCond .ne 104, 3) := by decide +kernel
theorem dX6_doesAll_19 : decode cX6_doesAll 19 = .ok (.aload_n 0, 1) := by decide +kernel
theorem dX6_doesAll_20 : decode cX6_doesAll 20 = .ok (.getfield 154, 3) := by decide +kernel
theorem dX6_doesAll_23 : decode cX6_doesAll 23 = .ok (.aload_n 0, 1) := by decide +kernel
theorem dX6_doesAll_24 : decode cX6_doesAll 24 = .ok (.getfield 151, 3) := by decide +kernel
theorem dX6_doesAll_27 : decode cX6_doesAll 27 = .ok (.if_icmp .ge 93, 3) := by decide +kernel
theorem dX6_doesAll_30 : decode cX6_doesAll 30 = .ok (.aload_n 0, 1) := by decide +kernel
theorem dX6_doesAll_31 : decode cX6_doesAll 31 = .ok (.invokevirtual 184, 3) := by decide +kernel
theorem dX6_doesAll_34 : decode cX6_doesAll 34 = .ok (.aload_n 0, 1) := by decide +kernel
theorem dX6_doesAll_35 : decode cX6_doesAll 35 = .ok (.getfield 157, 3) := by decide +kernel
theorem dX6_doesAll_38 : decode cX6_doesAll 38 = .ok (.ifCond .eq 10, 3) := by decide +kernel
theorem dX6_doesAll_41 : decode cX6_doesAll 41 = .ok (.aload_n 0, 1) := by decide +kernel
theorem dX6_doesAll_42 : decode cX6_doesAll 42 = .ok (.invokevirtual 187, 3) := by decide +kernel
theorem dX6_doesAll_45 : decode cX6_doesAll 45 = .ok (.goto 4, 3) := by decide +kernel
theorem dX6_doesAll_48 : decode cX6_doesAll 48 = .ok (.iconst 0, 1) := by decide +kernel
theorem dX6_doesAll_49 : decode cX6_doesAll 49 = .ok (.istore_n 2, 1) := by decide +kernel
theorem dX6_doesAll_50 : decode cX6_doesAll 50 = .ok (.aload_n 0, 1) := by decide +kernel
theorem dX6_doesAll_51 : decode cX6_doesAll 51 = .ok (.getfield 157, 3) := by decide +kernel
theorem dX6_doesAll_54 : decode cX6_doesAll 54 = .ok (.ifCond .eq 7, 3) := by decide +kernel
theorem dX6_doesAll_57 : decode cX6_doesAll 57 = .ok (.iload_n 2, 1) := by decide +kernel
theorem dX6_doesAll_58 : decode cX6_doesAll 58 = .ok (.ifCond .ge 56, 3) := by decide +kernel
theorem dX6_doesAll_61 : decode cX6_doesAll 61 = .ok (.aload_n 0, 1) := by decide +kernel
theorem dX6_doesAll_62 : decode cX6_doesAll 62 = .ok (.aload_n 0, 1) := by decide +kernel
theorem dX6_doesAll_63 : decode cX6_doesAll 63 = .ok (.getfield 157, 3) := by decide +kernel
theorem dX6_doesAll_66 : decode cX6_doesAll 66 = .ok (.ifCond .eq 7, 3) := by decide +kernel
theorem dX6_doesAll_69 : decode cX6_doesAll 69 = .ok (.iconst 2, 1) := by decide +kernel
theorem dX6_doesAll_70 : decode cX6_doesAll 70 = .ok (.goto 4, 3) := by decide +kernel
theorem dX6_doesAll_73 : decode cX6_doesAll 73 = .ok (.iconst 1, 1) := by decide +kernel
theorem dX6_doesAll_74 : decode cX6_doesAll 74 = .ok (.putfield 182, 3) := by decide +kernel
theorem dX6_doesAll_77 : decode cX6_doesAll 77 = .ok (.aload_n 0, 1) := by decide +kernel
theorem dX6_doesAll_78 : decode cX6_doesAll 78 = .ok (.aload_n 0, 1) := by decide +kernel
theorem dX6_doesAll_79 : decode cX6_doesAll 79 = .ok (.getfield 157, 3) := by decide +kernel
theorem dX6_doesAll_82 : decode cX6_doesAll 82 = .ok (.ifCond .ne 15, 3) := by decide +kernel
theorem dX6_doesAll_85 : decode cX6_doesAll 85 = .ok (.aload_n 0, 1) := by decide +kernel
theorem dX6_doesAll_86 : decode cX6_doesAll 86 = .ok (.getfield 154, 3) := by decide +kernel
theorem dX6_doesAll_89 : decode cX6_doesAll 89 = .ok (.aload_n 0, 1) := by decide +kernel
theorem dX6_doesAll_90 : decode cX6_doesAll 90 = .ok (.getfield 163, 3) := by decide +kernel
theorem dX6_doesAll_93 : decode cX6_doesAll 93 = .ok (.isub, 1) := by decide +kernel
theorem dX6_doesAll_94 : decode cX6_doesAll 94 = .ok (.goto 14, 3) := by decide +kernel
theorem dX6_doesAll_97 : decode cX6_doesAll 97 = .ok (.iload_n 2, 1) := by decide +kernel
theorem dX6_doesAll_98 : decode cX6_doesAll 98 = .ok (.bipush (-11), 2) := by decide +kernel
theorem dX6_doesAll_100 : decode cX6_doesAll 100 = .ok (.if_icmp .ne 7, 3) := by decide +kernel
theorem dX6_doesAll_103 : decode cX6_doesAll 103 = .ok (.iconst 1, 1) := by decide +kernel
theorem dX6_doesAll_104 : decode cX6_doesAll 104 = .ok (.goto 4, 3) := by decide +kernel
theorem dX6_doesAll_107 : decode cX6_doesAll 107 = .ok (.iconst 2, 1) := by decide +kernel
theorem dX6_doesAll_108 : decode cX6_doesAll 108 = .ok (.putfield 190, 3) := by decide +kernel
theorem dX6_doesAll_111 : decode cX6_doesAll 111 = .ok (.goto 6, 3) := by decide +kernel
theorem dX6_doesAll_114 : decode cX6_doesAll 114 = .ok (.iinc 1 1, 3) := by decide +kernel
theorem dX6_doesAll_117 : decode cX6_doesAll 117 = .ok (.goto (-105), 3) := by decide +kernel
theorem dX6_doesAll_120 : decode cX6_doesAll 120 = .ok (.iload_n 1, 1) := by decide +kernel
theorem dX6_doesAll_121 : decode cX6_doesAll 121 = .ok (.ireturn, 1) := by decide +kernel
set_option maxRecDepth 20000 in
theorem ggX6_faultTold_X6_copies : GoodIn wsX6_faultTold wsX6_copies := goodIn_r _ [10] (by decide +kernel) (by decide +kernel)
set_option maxRecDepth 20000 in
theorem gX6_faultTold_X6_copies : GoodIn wsX6_faultTold (va_wsS RX6 32 yX6_copies wsX6_copies) := goodIn_app (goodIn_of _ (by decide +kernel)) ggX6_faultTold_X6_copies
set_option maxRecDepth 20000 in
theorem ggX6_faultTold_X6_doesAll : GoodIn wsX6_faultTold wsX6_doesAll := goodIn_r _ [14, 4, 15, 16, 17, 5, 6, 18, 19, 20, 9, 21, 22, 23, 24, 25, 26, 27, 28, 29, 30, 31, 32, 33, 34, 35, 36, 37, 38, 39, 40, 41, 42, 43, 44, 45, 46, 47, 48, 49, 50, 51, 52, 53, 54, 55, 56, 57, 58, 59, 2, 60, 61, 62, 63, 64, 65, 66, 67, 68, 69, 70, 71, 72, 73, 74, 75, 76, 77, 78, 79, 80, 81, 82, 83, 84, 85, 86, 87, 88, 89, 90, 91, 92, 93, 94, 95, 96, 97, 98, 99, 100, 101, 102, 107, 108, 109, 110, 111, 112, 113, 114, 115, 116, 117, 118, 119, 120, 121, 122, 123, 124] (by decide +kernel) (by decide +kernel)
set_option maxRecDepth 20000 in
theorem gX6_faultTold_X6_doesAll : GoodIn wsX6_faultTold (wsV RX6 193 RX6 yX6_doesAll wsX6_doesAll) := goodIn_app (goodIn_of _ (by decide +kernel)) ggX6_faultTold_X6_doesAll
set_option maxRecDepth 20000 in
theorem ggX6_faultTold_X6_fails : GoodIn wsX6_faultTold wsX6_fails := goodIn_r _ [106, 1, 107, 108, 109, 110, 111, 112, 113, 114, 115, 116, 117, 118, 119, 120, 121, 122, 123, 124] (by decide +kernel) (by decide +kernel)
set_option maxRecDepth 20000 in
theorem gX6_faultTold_X6_fails : GoodIn wsX6_faultTold (wsV RX6 39 RX6 yX6_fails wsX6_fails) := goodIn_app (goodIn_of _ (by decide +kernel)) ggX6_faultTold_X6_fails
theorem dX6_faultTold_0 : decode cX6_faultTold 0 = .ok (.aload_n 0, 1) := by decide +kernel
theorem dX6_faultTold_1 : decode cX6_faultTold 1 = .ok (.iconst 0, 1) := by decide +kernel
theorem dX6_faultTold_2 : decode cX6_faultTold 2 = .ok (.putfield 28, 3) := by decide +kernel
theorem dX6_faultTold_5 : decode cX6_faultTold 5 = .ok (.aload_n 0, 1) := by decide +kernel
theorem dX6_faultTold_6 : decode cX6_faultTold 6 = .ok (.getfield 7, 3) := by decide +kernel
theorem dX6_faultTold_9 : decode cX6_faultTold 9 = .ok (.iconst 0, 1) := by decide +kernel
theorem dX6_faultTold_10 : decode cX6_faultTold 10 = .ok (.aload_n 0, 1) := by decide +kernel
theorem dX6_faultTold_11 : decode cX6_faultTold 11 = .ok (.getfield 13, 3) := by decide +kernel
theorem dX6_faultTold_14 : decode cX6_faultTold 14 = .ok (.iconst 0, 1) := by decide +kernel
theorem dX6_faultTold_15 : decode cX6_faultTold 15 = .ok (.invokestatic 32, 3) := by decide +kernel
theorem dX6_faultTold_18 : decode cX6_faultTold 18 = .ok (.aload_n 0, 1) := by decide +kernel
theorem dX6_faultTold_19 : decode cX6_faultTold 19 = .ok (.invokevirtual 193, 3) := by decide +kernel
theorem dX6_faultTold_22 : decode cX6_faultTold 22 = .ok (.istore_n 2, 1) := by decide +kernel
theorem dX6_faultTold_23 : decode cX6_faultTold 23 = .ok (.aload_n 0, 1) := by decide +kernel
theorem dX6_faultTold_24 : decode cX6_faultTold 24 = .ok (.getfield 13, 3) := by decide +kernel
theorem dX6_faultTold_27 : decode cX6_faultTold 27 = .ok (.iconst 0, 1) := by decide +kernel
theorem dX6_faultTold_28 : decode cX6_faultTold 28 = .ok (.aload_n 0, 1) := by decide +kernel
theorem dX6_faultTold_29 : decode cX6_faultTold 29 = .ok (.getfield 7, 3) := by decide +kernel
theorem dX6_faultTold_32 : decode cX6_faultTold 32 = .ok (.iconst 0, 1) := by decide +kernel
theorem dX6_faultTold_33 : decode cX6_faultTold 33 = .ok (.invokestatic 32, 3) := by decide +kernel
theorem dX6_faultTold_36 : decode cX6_faultTold 36 = .ok (.aload_n 0, 1) := by decide +kernel
theorem dX6_faultTold_37 : decode cX6_faultTold 37 = .ok (.getfield 182, 3) := by decide +kernel
theorem dX6_faultTold_40 : decode cX6_faultTold 40 = .ok (.ifCond .ne 11, 3) := by decide +kernel
theorem dX6_faultTold_43 : decode cX6_faultTold 43 = .ok (.aload_n 0, 1) := by decide +kernel
theorem dX6_faultTold_44 : decode cX6_faultTold 44 = .ok (.iconst 1, 1) := by decide +kernel
theorem dX6_faultTold_45 : decode cX6_faultTold 45 = .ok (.invokevirtual 39, 3) := by decide +kernel
theorem dX6_faultTold_48 : decode cX6_faultTold 48 = .ok (.goto 30, 3) := by decide +kernel
theorem dX6_faultTold_51 : decode cX6_faultTold 51 = .ok (.iload_n 1, 1) := by decide +kernel
theorem dX6_faultTold_52 : decode cX6_faultTold 52 = .ok (.ifCond .ne 10, 3) := by decide +kernel
theorem dX6_faultTold_55 : decode cX6_faultTold 55 = .ok (.aload_n 0, 1) := by decide +kernel
theorem dX6_faultTold_56 : decode cX6_faultTold 56 = .ok (.getfield 163, 3) := by decide +kernel
theorem dX6_faultTold_59 : decode cX6_faultTold 59 = .ok (.goto 19, 3) := by decide +kernel
theorem dX6_faultTold_62 : decode cX6_faultTold 62 = .ok (.iload_n 1, 1) := by decide +kernel
theorem dX6_faultTold_63 : decode cX6_faultTold 63 = .ok (.iconst 1, 1) := by decide +kernel
theorem dX6_faultTold_64 : decode cX6_faultTold 64 = .ok (.if_icmp .ne 10, 3) := by decide +kernel
theorem dX6_faultTold_67 : decode cX6_faultTold 67 = .ok (.aload_n 0, 1) := by decide +kernel
theorem dX6_faultTold_68 : decode cX6_faultTold 68 = .ok (.getfield 182, 3) := by decide +kernel
theorem dX6_faultTold_71 : decode cX6_faultTold 71 = .ok (.goto 7, 3) := by decide +kernel
theorem dX6_faultTold_74 : decode cX6_faultTold 74 = .ok (.aload_n 0, 1) := by decide +kernel
theorem dX6_faultTold_75 : decode cX6_faultTold 75 = .ok (.getfield 190, 3) := by decide +kernel
theorem dX6_faultTold_78 : decode cX6_faultTold 78 = .ok (.ireturn, 1) := by decide +kernel
set_option maxRecDepth 20000 in
theorem ggX6_faultPosition_X6_faultTold : GoodIn wsX6_faultPosition wsX6_faultTold := goodIn_r _ [5, 6, 7, 8, 9, 10, 11, 12, 13, 4, 14, 15, 16, 17, 18, 19, 20, 21, 22, 23, 24, 25, 26, 27, 28, 29, 30, 31, 32, 33, 34, 35, 36, 37, 38, 39, 40, 41, 42, 43, 44, 45, 46, 47, 48, 49, 50, 51, 52, 53, 54, 55, 56, 57, 58, 59, 60, 61, 62, 63, 64, 65, 66, 67, 68, 69, 70, 71, 72, 73, 74, 75, 76, 77, 78, 79, 80, 81, 82, 83, 84, 85, 86, 87, 88, 89, 90, 91, 92, 93, 94, 95, 96, 97, 98, 99, 100, 101, 102, 103, 104, 105, 106, 107, 108, 109, 110, 111, 112, 113, 114, 115, 116, 117, 118, 119, 120, 121, 122, 123, 124, 125, 126, 127, 128] (by decide +kernel) (by decide +kernel)
set_option maxRecDepth 20000 in
theorem gX6_faultPosition_X6_faultTold : GoodIn wsX6_faultPosition (wsV RX6 196 RX6 yX6_faultTold wsX6_faultTold) := goodIn_app (goodIn_of _ (by decide +kernel)) ggX6_faultPosition_X6_faultTold
theorem dX6_faultPosition_0 : decode cX6_faultPosition 0 = .ok (.aload_n 0, 1) := by decide +kernel
theorem dX6_faultPosition_1 : decode cX6_faultPosition 1 = .ok (.iconst 0, 1) := by decide +kernel
theorem dX6_faultPosition_2 : decode cX6_faultPosition 2 = .ok (.invokevirtual 196, 3) := by decide +kernel
theorem dX6_faultPosition_5 : decode cX6_faultPosition 5 = .ok (.ireturn, 1) := by decide +kernel
set_option maxRecDepth 20000 in
theorem ggX6_faultReason_X6_faultTold : GoodIn wsX6_faultReason wsX6_faultTold := goodIn_r _ [5, 6, 7, 8, 9, 10, 11, 12, 13, 4, 14, 15, 16, 17, 18, 19, 20, 21, 22, 23, 24, 25, 26, 27, 28, 29, 30, 31, 32, 33, 34, 35, 36, 37, 38, 39, 40, 41, 42, 43, 44, 45, 46, 47, 48, 49, 50, 51, 52, 53, 54, 55, 56, 57, 58, 59, 60, 61, 62, 63, 64, 65, 66, 67, 68, 69, 70, 71, 72, 73, 74, 75, 76, 77, 78, 79, 80, 81, 82, 83, 84, 85, 86, 87, 88, 89, 90, 91, 92, 93, 94, 95, 96, 97, 98, 99, 100, 101, 102, 103, 104, 105, 106, 107, 108, 109, 110, 111, 112, 113, 114, 115, 116, 117, 118, 119, 120, 121, 122, 123, 124, 125, 126, 127, 128] (by decide +kernel) (by decide +kernel)
set_option maxRecDepth 20000 in
theorem gX6_faultReason_X6_faultTold : GoodIn wsX6_faultReason (wsV RX6 196 RX6 yX6_faultTold wsX6_faultTold) := goodIn_app (goodIn_of _ (by decide +kernel)) ggX6_faultReason_X6_faultTold
theorem dX6_faultReason_0 : decode cX6_faultReason 0 = .ok (.aload_n 0, 1) := by decide +kernel
theorem dX6_faultReason_1 : decode cX6_faultReason 1 = .ok (.iconst 1, 1) := by decide +kernel
theorem dX6_faultReason_2 : decode cX6_faultReason 2 = .ok (.invokevirtual 196, 3) := by decide +kernel
theorem dX6_faultReason_5 : decode cX6_faultReason 5 = .ok (.ireturn, 1) := by decide +kernel
set_option maxRecDepth 20000 in
theorem ggX6_faultCause_X6_faultTold : GoodIn wsX6_faultCause wsX6_faultTold := goodIn_r _ [5, 6, 7, 8, 9, 10, 11, 12, 13, 4, 14, 15, 16, 17, 18, 19, 20, 21, 22, 23, 24, 25, 26, 27, 28, 29, 30, 31, 32, 33, 34, 35, 36, 37, 38, 39, 40, 41, 42, 43, 44, 45, 46, 47, 48, 49, 50, 51, 52, 53, 54, 55, 56, 57, 58, 59, 60, 61, 62, 63, 64, 65, 66, 67, 68, 69, 70, 71, 72, 73, 74, 75, 76, 77, 78, 79, 80, 81, 82, 83, 84, 85, 86, 87, 88, 89, 90, 91, 92, 93, 94, 95, 96, 97, 98, 99, 100, 101, 102, 103, 104, 105, 106, 107, 108, 109, 110, 111, 112, 113, 114, 115, 116, 117, 118, 119, 120, 121, 122, 123, 124, 125, 126, 127, 128] (by decide +kernel) (by decide +kernel)
set_option maxRecDepth 20000 in
theorem gX6_faultCause_X6_faultTold : GoodIn wsX6_faultCause (wsV RX6 196 RX6 yX6_faultTold wsX6_faultTold) := goodIn_app (goodIn_of _ (by decide +kernel)) ggX6_faultCause_X6_faultTold
theorem dX6_faultCause_0 : decode cX6_faultCause 0 = .ok (.aload_n 0, 1) := by decide +kernel
theorem dX6_faultCause_1 : decode cX6_faultCause 1 = .ok (.iconst 2, 1) := by decide +kernel
theorem dX6_faultCause_2 : decode cX6_faultCause 2 = .ok (.invokevirtual 196, 3) := by decide +kernel
theorem dX6_faultCause_5 : decode cX6_faultCause 5 = .ok (.ireturn, 1) := by decide +kernel
set_option maxRecDepth 20000 in
theorem ggX6_play_X6_begins : GoodIn wsX6_play wsX6_begins := goodIn_r _ [8, 9, 3, 2, 10, 11, 7, 12, 117, 118, 119, 120, 121, 122, 123, 124, 125, 126, 127, 128, 129, 130, 131, 132, 133, 134] (by decide +kernel) (by decide +kernel)
set_option maxRecDepth 20000 in
theorem gX6_play_X6_begins : GoodIn wsX6_play (wsV RX6 84 RX6 yX6_begins wsX6_begins) := goodIn_app (goodIn_of _ (by decide +kernel)) ggX6_play_X6_begins
set_option maxRecDepth 20000 in
theorem ggX6_play_X6_doesAll : GoodIn wsX6_play wsX6_doesAll := goodIn_r _ [16, 1, 17, 18, 19, 20, 21, 22, 23, 24, 7, 25, 26, 27, 28, 29, 30, 31, 32, 33, 34, 35, 36, 37, 38, 39, 40, 41, 42, 43, 44, 45, 46, 47, 48, 49, 50, 51, 52, 53, 54, 55, 56, 57, 58, 59, 60, 61, 62, 63, 3, 64, 65, 66, 67, 68, 69, 70, 71, 72, 73, 74, 75, 76, 77, 78, 79, 80, 81, 82, 83, 84, 85, 86, 87, 88, 89, 90, 91, 92, 93, 94, 95, 96, 97, 98, 99, 100, 101, 102, 103, 104, 105, 106, 117, 118, 119, 120, 121, 122, 123, 124, 125, 126, 127, 128, 129, 130, 131, 132, 133, 134] (by decide +kernel) (by decide +kernel)
set_option maxRecDepth 20000 in
theorem gX6_play_X6_doesAll : GoodIn wsX6_play (wsV RX6 193 RX6 yX6_doesAll wsX6_doesAll) := goodIn_app (goodIn_of _ (by decide +kernel)) ggX6_play_X6_doesAll
set_option maxRecDepth 20000 in
theorem ggX6_play_X6_copies : GoodIn wsX6_play wsX6_copies := goodIn_r _ [12] (by decide +kernel) (by decide +kernel)
set_option maxRecDepth 20000 in
theorem gX6_play_X6_copies : GoodIn wsX6_play (va_wsS RX6 32 yX6_copies wsX6_copies) := goodIn_app (goodIn_of _ (by decide +kernel)) ggX6_play_X6_copies
set_option maxRecDepth 20000 in
theorem ggX6_play_X6_fails : GoodIn wsX6_play wsX6_fails := goodIn_r _ [110, 9, 117, 118, 119, 120, 121, 122, 123, 124, 125, 126, 127, 128, 129, 130, 131, 132, 133, 134] (by decide +kernel) (by decide +kernel)
set_option maxRecDepth 20000 in
theorem gX6_play_X6_fails : GoodIn wsX6_play (wsV RX6 39 RX6 yX6_fails wsX6_fails) := goodIn_app (goodIn_of _ (by decide +kernel)) ggX6_play_X6_fails
set_option maxRecDepth 20000 in
theorem ggX6_play_X6_records : GoodIn wsX6_play wsX6_records := goodIn_r _ [114, 115, 116, 2, 10, 11, 7, 12, 117, 118, 119, 120, 121, 122, 123, 124, 125, 126, 127, 128, 129, 130, 131, 132, 133, 134] (by decide +kernel) (by decide +kernel)
set_option maxRecDepth 20000 in
theorem gX6_play_X6_records : GoodIn wsX6_play (wsV RX6 43 RX6 yX6_records wsX6_records) := goodIn_app (goodIn_of _ (by decide +kernel)) ggX6_play_X6_records
theorem dX6_play_0 : decode cX6_play 0 = .ok (.aload_n 0, 1) := by decide +kernel
theorem dX6_play_1 : decode cX6_play 1 = .ok (.invokevirtual 84, 3) := by decide +kernel
theorem dX6_play_4 : decode cX6_play 4 = .ok (.aload_n 0, 1) := by decide +kernel
theorem dX6_play_5 : decode cX6_play 5 = .ok (.invokevirtual 193, 3) := by decide +kernel
theorem dX6_play_8 : decode cX6_play 8 = .ok (.istore_n 1, 1) := by decide +kernel
theorem dX6_play_9 : decode cX6_play 9 = .ok (.aload_n 0, 1) := by decide +kernel
theorem dX6_play_10 : decode cX6_play 10 = .ok (.getfield 182, 3) := by decide +kernel
theorem dX6_play_13 : decode cX6_play 13 = .ok (.ifCond .le 22, 3) := by decide +kernel
theorem dX6_play_16 : decode cX6_play 16 = .ok (.aload_n 0, 1) := by decide +kernel
theorem dX6_play_17 : decode cX6_play 17 = .ok (.getfield 13, 3) := by decide +kernel
theorem dX6_play_20 : decode cX6_play 20 = .ok (.iconst 0, 1) := by decide +kernel
theorem dX6_play_21 : decode cX6_play 21 = .ok (.aload_n 0, 1) := by decide +kernel
theorem dX6_play_22 : decode cX6_play 22 = .ok (.getfield 7, 3) := by decide +kernel
theorem dX6_play_25 : decode cX6_play 25 = .ok (.iconst 0, 1) := by decide +kernel
theorem dX6_play_26 : decode cX6_play 26 = .ok (.invokestatic 32, 3) := by decide +kernel
theorem dX6_play_29 : decode cX6_play 29 = .ok (.aload_n 0, 1) := by decide +kernel
theorem dX6_play_30 : decode cX6_play 30 = .ok (.iconst 1, 1) := by decide +kernel
theorem dX6_play_31 : decode cX6_play 31 = .ok (.invokevirtual 39, 3) := by decide +kernel
theorem dX6_play_34 : decode cX6_play 34 = .ok (.ireturn, 1) := by decide +kernel
theorem dX6_play_35 : decode cX6_play 35 = .ok (.aload_n 0, 1) := by decide +kernel
theorem dX6_play_36 : decode cX6_play 36 = .ok (.invokevirtual 43, 3) := by decide +kernel
theorem dX6_play_39 : decode cX6_play 39 = .ok (.iload_n 1, 1) := by decide +kernel
theorem dX6_play_40 : decode cX6_play 40 = .ok (.ireturn, 1) := by decide +kernel
theorem dJxe99ae_isNaN_b9ae7_0 : decode cJxe99ae_isNaN_b9ae7 0 = .ok (.dload_n 0, 1) := by decide +kernel
theorem dJxe99ae_isNaN_b9ae7_1 : decode cJxe99ae_isNaN_b9ae7 1 = .ok (.dload_n 0, 1) := by decide +kernel
theorem dJxe99ae_isNaN_b9ae7_2 : decode cJxe99ae_isNaN_b9ae7 2 = .ok (.dcmp .l, 1) := by decide +kernel
theorem dJxe99ae_isNaN_b9ae7_3 : decode cJxe99ae_isNaN_b9ae7 3 = .ok (.ifCond .eq 7, 3) := by decide +kernel
theorem dJxe99ae_isNaN_b9ae7_6 : decode cJxe99ae_isNaN_b9ae7 6 = .ok (.iconst 1, 1) := by decide +kernel
theorem dJxe99ae_isNaN_b9ae7_7 : decode cJxe99ae_isNaN_b9ae7 7 = .ok (.goto 4, 3) := by decide +kernel
theorem dJxe99ae_isNaN_b9ae7_10 : decode cJxe99ae_isNaN_b9ae7 10 = .ok (.iconst 0, 1) := by decide +kernel
theorem dJxe99ae_isNaN_b9ae7_11 : decode cJxe99ae_isNaN_b9ae7 11 = .ok (.ireturn, 1) := by decide +kernel
set_option maxRecDepth 20000 in
theorem ggJxe99ae_doubleToLongBits_ccdee_Jxe99ae_isNaN_b9ae7 : GoodIn wsJxe99ae_doubleToLongBits_ccdee wsJxe99ae_isNaN_b9ae7 := goodIn_r _ [9] (by decide +kernel) (by decide +kernel)
set_option maxRecDepth 20000 in
theorem gJxe99ae_doubleToLongBits_ccdee_Jxe99ae_isNaN_b9ae7 : GoodIn wsJxe99ae_doubleToLongBits_ccdee (va_wsS RJxe99ae 122 yJxe99ae_isNaN_b9ae7 wsJxe99ae_isNaN_b9ae7) := goodIn_app (goodIn_of _ (by decide +kernel)) ggJxe99ae_doubleToLongBits_ccdee_Jxe99ae_isNaN_b9ae7
theorem dJxe99ae_doubleToLongBits_ccdee_0 : decode cJxe99ae_doubleToLongBits_ccdee 0 = .ok (.dload_n 0, 1) := by decide +kernel
theorem dJxe99ae_doubleToLongBits_ccdee_1 : decode cJxe99ae_doubleToLongBits_ccdee 1 = .ok (.invokestatic 122, 3) := by decide +kernel
theorem dJxe99ae_doubleToLongBits_ccdee_4 : decode cJxe99ae_doubleToLongBits_ccdee 4 = .ok (.ifCond .ne 8, 3) := by decide +kernel
theorem dJxe99ae_doubleToLongBits_ccdee_7 : decode cJxe99ae_doubleToLongBits_ccdee 7 = .ok (.dload_n 0, 1) := by decide +kernel
theorem dJxe99ae_doubleToLongBits_ccdee_8 : decode cJxe99ae_doubleToLongBits_ccdee 8 = .ok (.invokestatic 134, 3) := by decide +kernel
theorem dJxe99ae_doubleToLongBits_ccdee_11 : decode cJxe99ae_doubleToLongBits_ccdee 11 = .ok (.lreturn, 1) := by decide +kernel
theorem dJxe99ae_doubleToLongBits_ccdee_12 : decode cJxe99ae_doubleToLongBits_ccdee 12 = .ok (.ldc2_w 137, 3) := by decide +kernel
theorem dJxe99ae_doubleToLongBits_ccdee_15 : decode cJxe99ae_doubleToLongBits_ccdee 15 = .ok (.lreturn, 1) := by decide +kernel
theorem dJxf58ca_isNaN_12338_0 : decode cJxf58ca_isNaN_12338 0 = .ok (.fload_n 0, 1) := by decide +kernel
theorem dJxf58ca_isNaN_12338_1 : decode cJxf58ca_isNaN_12338 1 = .ok (.fload_n 0, 1) := by decide +kernel
theorem dJxf58ca_isNaN_12338_2 : decode cJxf58ca_isNaN_12338 2 = .ok (.fcmp .l, 1) := by decide +kernel
theorem dJxf58ca_isNaN_12338_3 : decode cJxf58ca_isNaN_12338 3 = .ok (.ifCond .eq 7, 3) := by decide +kernel
theorem dJxf58ca_isNaN_12338_6 : decode cJxf58ca_isNaN_12338 6 = .ok (.iconst 1, 1) := by decide +kernel
theorem dJxf58ca_isNaN_12338_7 : decode cJxf58ca_isNaN_12338 7 = .ok (.goto 4, 3) := by decide +kernel
theorem dJxf58ca_isNaN_12338_10 : decode cJxf58ca_isNaN_12338 10 = .ok (.iconst 0, 1) := by decide +kernel
theorem dJxf58ca_isNaN_12338_11 : decode cJxf58ca_isNaN_12338 11 = .ok (.ireturn, 1) := by decide +kernel
set_option maxRecDepth 20000 in
theorem ggJxf58ca_floatToIntBits_5c35a_Jxf58ca_isNaN_12338 : GoodIn wsJxf58ca_floatToIntBits_5c35a wsJxf58ca_isNaN_12338 := goodIn_r _ [9] (by decide +kernel) (by decide +kernel)
set_option maxRecDepth 20000 in
theorem gJxf58ca_floatToIntBits_5c35a_Jxf58ca_isNaN_12338 : GoodIn wsJxf58ca_floatToIntBits_5c35a (va_wsS RJxf58ca 59 yJxf58ca_isNaN_12338 wsJxf58ca_isNaN_12338) := goodIn_app (goodIn_of _ (by decide +kernel)) ggJxf58ca_floatToIntBits_5c35a_Jxf58ca_isNaN_12338
theorem dJxf58ca_floatToIntBits_5c35a_0 : decode cJxf58ca_floatToIntBits_5c35a 0 = .ok (.fload_n 0, 1) := by decide +kernel
theorem dJxf58ca_floatToIntBits_5c35a_1 : decode cJxf58ca_floatToIntBits_5c35a 1 = .ok (.invokestatic 59, 3) := by decide +kernel
theorem dJxf58ca_floatToIntBits_5c35a_4 : decode cJxf58ca_floatToIntBits_5c35a 4 = .ok (.ifCond .ne 8, 3) := by decide +kernel
theorem dJxf58ca_floatToIntBits_5c35a_7 : decode cJxf58ca_floatToIntBits_5c35a 7 = .ok (.fload_n 0, 1) := by decide +kernel
theorem dJxf58ca_floatToIntBits_5c35a_8 : decode cJxf58ca_floatToIntBits_5c35a 8 = .ok (.invokestatic 74, 3) := by decide +kernel
theorem dJxf58ca_floatToIntBits_5c35a_11 : decode cJxf58ca_floatToIntBits_5c35a 11 = .ok (.ireturn, 1) := by decide +kernel
theorem dJxf58ca_floatToIntBits_5c35a_12 : decode cJxf58ca_floatToIntBits_5c35a 12 = .ok (.ldc 77, 2) := by decide +kernel
theorem dJxf58ca_floatToIntBits_5c35a_14 : decode cJxf58ca_floatToIntBits_5c35a 14 = .ok (.ireturn, 1) := by decide +kernel
theorem dJ13_bitCount_95d88_0 : decode cJ13_bitCount_95d88 0 = .ok (.lload_n 0, 1) := by decide +kernel
theorem dJ13_bitCount_95d88_1 : decode cJ13_bitCount_95d88 1 = .ok (.lload_n 0, 1) := by decide +kernel
theorem dJ13_bitCount_95d88_2 : decode cJ13_bitCount_95d88 2 = .ok (.iconst 1, 1) := by decide +kernel
theorem dJ13_bitCount_95d88_3 : decode cJ13_bitCount_95d88 3 = .ok (.lushr, 1) := by decide +kernel
theorem dJ13_bitCount_95d88_4 : decode cJ13_bitCount_95d88 4 = .ok (.ldc2_w 314, 3) := by decide +kernel
theorem dJ13_bitCount_95d88_7 : decode cJ13_bitCount_95d88 7 = .ok (.land, 1) := by decide +kernel
theorem dJ13_bitCount_95d88_8 : decode cJ13_bitCount_95d88 8 = .ok (.lsub, 1) := by decide +kernel
theorem dJ13_bitCount_95d88_9 : decode cJ13_bitCount_95d88 9 = .ok (.lstore_n 0, 1) := by decide +kernel
theorem dJ13_bitCount_95d88_10 : decode cJ13_bitCount_95d88 10 = .ok (.lload_n 0, 1) := by decide +kernel
theorem dJ13_bitCount_95d88_11 : decode cJ13_bitCount_95d88 11 = .ok (.ldc2_w 316, 3) := by decide +kernel
theorem dJ13_bitCount_95d88_14 : decode cJ13_bitCount_95d88 14 = .ok (.land, 1) := by decide +kernel
theorem dJ13_bitCount_95d88_15 : decode cJ13_bitCount_95d88 15 = .ok (.lload_n 0, 1) := by decide +kernel
theorem dJ13_bitCount_95d88_16 : decode cJ13_bitCount_95d88 16 = .ok (.iconst 2, 1) := by decide +kernel
theorem dJ13_bitCount_95d88_17 : decode cJ13_bitCount_95d88 17 = .ok (.lushr, 1) := by decide +kernel
theorem dJ13_bitCount_95d88_18 : decode cJ13_bitCount_95d88 18 = .ok (.ldc2_w 316, 3) := by decide +kernel
theorem dJ13_bitCount_95d88_21 : decode cJ13_bitCount_95d88 21 = .ok (.land, 1) := by decide +kernel
theorem dJ13_bitCount_95d88_22 : decode cJ13_bitCount_95d88 22 = .ok (.ladd, 1) := by decide +kernel
theorem dJ13_bitCount_95d88_23 : decode cJ13_bitCount_95d88 23 = .ok (.lstore_n 0, 1) := by decide +kernel
theorem dJ13_bitCount_95d88_24 : decode cJ13_bitCount_95d88 24 = .ok (.lload_n 0, 1) := by decide +kernel
theorem dJ13_bitCount_95d88_25 : decode cJ13_bitCount_95d88 25 = .ok (.lload_n 0, 1) := by decide +kernel
theorem dJ13_bitCount_95d88_26 : decode cJ13_bitCount_95d88 26 = .ok (.iconst 4, 1) := by decide +kernel
theorem dJ13_bitCount_95d88_27 : decode cJ13_bitCount_95d88 27 = .ok (.lushr, 1) := by decide +kernel
theorem dJ13_bitCount_95d88_28 : decode cJ13_bitCount_95d88 28 = .ok (.ladd, 1) := by decide +kernel
theorem dJ13_bitCount_95d88_29 : decode cJ13_bitCount_95d88 29 = .ok (.ldc2_w 318, 3) := by decide +kernel
theorem dJ13_bitCount_95d88_32 : decode cJ13_bitCount_95d88 32 = .ok (.land, 1) := by decide +kernel
theorem dJ13_bitCount_95d88_33 : decode cJ13_bitCount_95d88 33 = .ok (.lstore_n 0, 1) := by decide +kernel
theorem dJ13_bitCount_95d88_34 : decode cJ13_bitCount_95d88 34 = .ok (.lload_n 0, 1) := by decide +kernel
theorem dJ13_bitCount_95d88_35 : decode cJ13_bitCount_95d88 35 = .ok (.lload_n 0, 1) := by decide +kernel
theorem dJ13_bitCount_95d88_36 : decode cJ13_bitCount_95d88 36 = .ok (.bipush 8, 2) := by decide +kernel
theorem dJ13_bitCount_95d88_38 : decode cJ13_bitCount_95d88 38 = .ok (.lushr, 1) := by decide +kernel
theorem dJ13_bitCount_95d88_39 : decode cJ13_bitCount_95d88 39 = .ok (.ladd, 1) := by decide +kernel
theorem dJ13_bitCount_95d88_40 : decode cJ13_bitCount_95d88 40 = .ok (.lstore_n 0, 1) := by decide +kernel
theorem dJ13_bitCount_95d88_41 : decode cJ13_bitCount_95d88 41 = .ok (.lload_n 0, 1) := by decide +kernel
theorem dJ13_bitCount_95d88_42 : decode cJ13_bitCount_95d88 42 = .ok (.lload_n 0, 1) := by decide +kernel
theorem dJ13_bitCount_95d88_43 : decode cJ13_bitCount_95d88 43 = .ok (.bipush 16, 2) := by decide +kernel
theorem dJ13_bitCount_95d88_45 : decode cJ13_bitCount_95d88 45 = .ok (.lushr, 1) := by decide +kernel
theorem dJ13_bitCount_95d88_46 : decode cJ13_bitCount_95d88 46 = .ok (.ladd, 1) := by decide +kernel
theorem dJ13_bitCount_95d88_47 : decode cJ13_bitCount_95d88 47 = .ok (.lstore_n 0, 1) := by decide +kernel
theorem dJ13_bitCount_95d88_48 : decode cJ13_bitCount_95d88 48 = .ok (.lload_n 0, 1) := by decide +kernel
theorem dJ13_bitCount_95d88_49 : decode cJ13_bitCount_95d88 49 = .ok (.lload_n 0, 1) := by decide +kernel
theorem dJ13_bitCount_95d88_50 : decode cJ13_bitCount_95d88 50 = .ok (.bipush 32, 2) := by decide +kernel
theorem dJ13_bitCount_95d88_52 : decode cJ13_bitCount_95d88 52 = .ok (.lushr, 1) := by decide +kernel
theorem dJ13_bitCount_95d88_53 : decode cJ13_bitCount_95d88 53 = .ok (.ladd, 1) := by decide +kernel
theorem dJ13_bitCount_95d88_54 : decode cJ13_bitCount_95d88 54 = .ok (.lstore_n 0, 1) := by decide +kernel
theorem dJ13_bitCount_95d88_55 : decode cJ13_bitCount_95d88 55 = .ok (.lload_n 0, 1) := by decide +kernel
theorem dJ13_bitCount_95d88_56 : decode cJ13_bitCount_95d88 56 = .ok (.l2i, 1) := by decide +kernel
theorem dJ13_bitCount_95d88_57 : decode cJ13_bitCount_95d88 57 = .ok (.bipush 127, 2) := by decide +kernel
theorem dJ13_bitCount_95d88_59 : decode cJ13_bitCount_95d88 59 = .ok (.iand, 1) := by decide +kernel
theorem dJ13_bitCount_95d88_60 : decode cJ13_bitCount_95d88 60 = .ok (.ireturn, 1) := by decide +kernel
set_option maxRecDepth 20000 in
theorem ggL_pass_X5_pass : GoodIn wsL_pass wsX5_pass := goodIn_ca (goodIn_r _ [6, 7, 8, 9, 10, 11, 12, 5, 13, 14, 15, 16, 17, 18, 19, 20, 21, 22, 23, 24, 25, 26, 27, 28, 29, 30, 31, 32, 33, 34, 35, 36, 37, 38, 39, 40, 41, 42, 43, 44, 45, 46, 47, 48, 49, 50, 51, 52, 53, 54, 55, 56, 57, 58, 59, 60, 61, 62, 63, 64, 65, 66, 67, 68, 69, 70, 71, 72, 73, 74, 75, 76, 77] (by decide +kernel) (by decide +kernel)) (goodIn_sub (fun _ h => List.mem_cons_of_mem _ (List.mem_append_right _ h)) (by decide +kernel))
set_option maxRecDepth 20000 in
theorem gL_pass_X5_pass : GoodIn wsL_pass (wsV RL 7 RX5 yX5_pass wsX5_pass) := goodIn_app (goodIn_of _ (by decide +kernel)) ggL_pass_X5_pass
theorem dL_pass_0 : decode cL_pass 0 = .ok (.aload_n 2, 1) := by decide +kernel
theorem dL_pass_1 : decode cL_pass 1 = .ok (.iconst 0, 1) := by decide +kernel
theorem dL_pass_2 : decode cL_pass 2 = .ok (.aload_n 0, 1) := by decide +kernel
theorem dL_pass_3 : decode cL_pass 3 = .ok (.iload_n 1, 1) := by decide +kernel
theorem dL_pass_4 : decode cL_pass 4 = .ok (.invokevirtual 7, 3) := by decide +kernel
theorem dL_pass_7 : decode cL_pass 7 = .ok (.i2l, 1) := by decide +kernel
theorem dL_pass_8 : decode cL_pass 8 = .ok (.lastore, 1) := by decide +kernel
theorem dL_pass_9 : decode cL_pass 9 = .ok (.goto 6, 3) := by decide +kernel
theorem dL_pass_12 : decode cL_pass 12 = .ok (.astore_n 3, 1) := by decide +kernel
theorem dL_pass_13 : decode cL_pass 13 = .ok (.iconst 1, 1) := by decide +kernel
theorem dL_pass_14 : decode cL_pass 14 = .ok (.ireturn, 1) := by decide +kernel
theorem dL_pass_15 : decode cL_pass 15 = .ok (.iconst 0, 1) := by decide +kernel
theorem dL_pass_16 : decode cL_pass 16 = .ok (.ireturn, 1) := by decide +kernel
set_option maxRecDepth 20000 in
theorem ggL_passRow_X5_passRow : GoodIn wsL_passRow wsX5_passRow := goodIn_ca (goodIn_r _ [6, 7, 8, 9, 10, 11, 12, 5, 13, 14, 15, 16, 17, 18, 19, 20, 21, 22, 23, 24, 25, 26, 27, 28, 29, 30, 31, 32, 33, 34, 35, 36, 37, 38, 39, 40, 41, 42, 43, 44, 45, 46, 47, 48, 49, 50, 51, 52, 53, 54, 55, 56, 57, 58, 59, 60, 61, 62, 63, 64, 65, 66, 67, 68, 69, 70, 71, 72, 73, 74] (by decide +kernel) (by decide +kernel)) (goodIn_sub (fun _ h => List.mem_cons_of_mem _ (List.mem_append_right _ h)) (by decide +kernel))
set_option maxRecDepth 20000 in
theorem gL_passRow_X5_passRow : GoodIn wsL_passRow (wsV RL 15 RX5 yX5_passRow wsX5_passRow) := goodIn_app (goodIn_of _ (by decide +kernel)) ggL_passRow_X5_passRow
theorem dL_passRow_0 : decode cL_passRow 0 = .ok (.aload_n 3, 1) := by decide +kernel
theorem dL_passRow_1 : decode cL_passRow 1 = .ok (.iconst 0, 1) := by decide +kernel
theorem dL_passRow_2 : decode cL_passRow 2 = .ok (.aload_n 0, 1) := by decide +kernel
theorem dL_passRow_3 : decode cL_passRow 3 = .ok (.iload_n 1, 1) := by decide +kernel
theorem dL_passRow_4 : decode cL_passRow 4 = .ok (.iload_n 2, 1) := by decide +kernel
theorem dL_passRow_5 : decode cL_passRow 5 = .ok (.invokevirtual 15, 3) := by decide +kernel
theorem dL_passRow_8 : decode cL_passRow 8 = .ok (.i2l, 1) := by decide +kernel
theorem dL_passRow_9 : decode cL_passRow 9 = .ok (.lastore, 1) := by decide +kernel
theorem dL_passRow_10 : decode cL_passRow 10 = .ok (.goto 7, 3) := by decide +kernel
theorem dL_passRow_13 : decode cL_passRow 13 = .ok (.astore 4, 2) := by decide +kernel
theorem dL_passRow_15 : decode cL_passRow 15 = .ok (.iconst 1, 1) := by decide +kernel
theorem dL_passRow_16 : decode cL_passRow 16 = .ok (.ireturn, 1) := by decide +kernel
theorem dL_passRow_17 : decode cL_passRow 17 = .ok (.iconst 0, 1) := by decide +kernel
theorem dL_passRow_18 : decode cL_passRow 18 = .ok (.ireturn, 1) := by decide +kernel
set_option maxRecDepth 20000 in
theorem ggL_turnDoor_X5_turnDoor : GoodIn wsL_turnDoor wsX5_turnDoor := goodIn_ca (goodIn_ca (goodIn_r _ [7, 8, 9, 10, 11, 12, 13, 14, 15, 6, 16, 17, 18, 19, 20, 21, 22, 23, 24, 25, 26, 27, 28, 29, 30, 31, 32, 33, 34, 35, 36, 37, 38, 39, 40, 41, 42, 43, 44, 45, 46, 47, 48, 49, 50, 51, 52, 53, 54, 55, 56, 57, 58, 59, 60, 61, 62, 63, 64, 65, 66, 67, 68] (by decide +kernel) (by decide +kernel)) (goodIn_sub (fun _ h => List.mem_cons_of_mem _ (List.mem_append_left _ (List.mem_append_right _ h))) (by decide +kernel))) (goodIn_sub (fun _ h => List.mem_cons_of_mem _ (List.mem_append_right _ h)) (by decide +kernel))
set_option maxRecDepth 20000 in
theorem gL_turnDoor_X5_turnDoor : GoodIn wsL_turnDoor (wsV RL 19 RX5 yX5_turnDoor wsX5_turnDoor) := goodIn_app (goodIn_of _ (by decide +kernel)) ggL_turnDoor_X5_turnDoor
theorem dL_turnDoor_0 : decode cL_turnDoor 0 = .ok (.aload_n 2, 1) := by decide +kernel
theorem dL_turnDoor_1 : decode cL_turnDoor 1 = .ok (.iconst 0, 1) := by decide +kernel
theorem dL_turnDoor_2 : decode cL_turnDoor 2 = .ok (.aload_n 0, 1) := by decide +kernel
theorem dL_turnDoor_3 : decode cL_turnDoor 3 = .ok (.iload_n 1, 1) := by decide +kernel
theorem dL_turnDoor_4 : decode cL_turnDoor 4 = .ok (.invokevirtual 19, 3) := by decide +kernel
theorem dL_turnDoor_7 : decode cL_turnDoor 7 = .ok (.ifCond .eq 7, 3) := by decide +kernel
theorem dL_turnDoor_10 : decode cL_turnDoor 10 = .ok (.lconst 1, 1) := by decide +kernel
theorem dL_turnDoor_11 : decode cL_turnDoor 11 = .ok (.goto 4, 3) := by decide +kernel
theorem dL_turnDoor_14 : decode cL_turnDoor 14 = .ok (.lconst 0, 1) := by decide +kernel
theorem dL_turnDoor_15 : decode cL_turnDoor 15 = .ok (.lastore, 1) := by decide +kernel
theorem dL_turnDoor_16 : decode cL_turnDoor 16 = .ok (.goto 9, 3) := by decide +kernel
theorem dL_turnDoor_19 : decode cL_turnDoor 19 = .ok (.astore_n 3, 1) := by decide +kernel
theorem dL_turnDoor_20 : decode cL_turnDoor 20 = .ok (.iconst 1, 1) := by decide +kernel
theorem dL_turnDoor_21 : decode cL_turnDoor 21 = .ok (.ireturn, 1) := by decide +kernel
theorem dL_turnDoor_22 : decode cL_turnDoor 22 = .ok (.astore_n 3, 1) := by decide +kernel
theorem dL_turnDoor_23 : decode cL_turnDoor 23 = .ok (.iconst 2, 1) := by decide +kernel
theorem dL_turnDoor_24 : decode cL_turnDoor 24 = .ok (.ireturn, 1) := by decide +kernel
theorem dL_turnDoor_25 : decode cL_turnDoor 25 = .ok (.iconst 0, 1) := by decide +kernel
theorem dL_turnDoor_26 : decode cL_turnDoor 26 = .ok (.ireturn, 1) := by decide +kernel
set_option maxRecDepth 20000 in
theorem ggL_turnLock_X5_turnLock : GoodIn wsL_turnLock wsX5_turnLock := goodIn_ca (goodIn_r _ [6, 7, 8, 9, 10, 11, 12, 5, 13, 14, 15, 16, 17, 18, 19, 20, 21, 22, 23, 24, 25, 26, 27, 28, 29, 30, 31, 32, 33, 34, 35, 36, 37, 38, 39, 40, 41, 42, 43, 44, 45, 46, 47, 48, 49, 50, 51, 52, 53, 54, 55, 56, 57, 58, 59, 60, 61, 62, 63] (by decide +kernel) (by decide +kernel)) (goodIn_sub (fun _ h => List.mem_cons_of_mem _ (List.mem_append_right _ h)) (by decide +kernel))
set_option maxRecDepth 20000 in
theorem gL_turnLock_X5_turnLock : GoodIn wsL_turnLock (wsV RL 25 RX5 yX5_turnLock wsX5_turnLock) := goodIn_app (goodIn_of _ (by decide +kernel)) ggL_turnLock_X5_turnLock
theorem dL_turnLock_0 : decode cL_turnLock 0 = .ok (.aload_n 2, 1) := by decide +kernel
theorem dL_turnLock_1 : decode cL_turnLock 1 = .ok (.iconst 0, 1) := by decide +kernel
theorem dL_turnLock_2 : decode cL_turnLock 2 = .ok (.aload_n 0, 1) := by decide +kernel
theorem dL_turnLock_3 : decode cL_turnLock 3 = .ok (.iload_n 1, 1) := by decide +kernel
theorem dL_turnLock_4 : decode cL_turnLock 4 = .ok (.invokevirtual 25, 3) := by decide +kernel
theorem dL_turnLock_7 : decode cL_turnLock 7 = .ok (.ifCond .eq 7, 3) := by decide +kernel
theorem dL_turnLock_10 : decode cL_turnLock 10 = .ok (.lconst 1, 1) := by decide +kernel
theorem dL_turnLock_11 : decode cL_turnLock 11 = .ok (.goto 4, 3) := by decide +kernel
theorem dL_turnLock_14 : decode cL_turnLock 14 = .ok (.lconst 0, 1) := by decide +kernel
theorem dL_turnLock_15 : decode cL_turnLock 15 = .ok (.lastore, 1) := by decide +kernel
theorem dL_turnLock_16 : decode cL_turnLock 16 = .ok (.goto 6, 3) := by decide +kernel
theorem dL_turnLock_19 : decode cL_turnLock 19 = .ok (.astore_n 3, 1) := by decide +kernel
theorem dL_turnLock_20 : decode cL_turnLock 20 = .ok (.iconst 1, 1) := by decide +kernel
theorem dL_turnLock_21 : decode cL_turnLock 21 = .ok (.ireturn, 1) := by decide +kernel
theorem dL_turnLock_22 : decode cL_turnLock 22 = .ok (.iconst 0, 1) := by decide +kernel
theorem dL_turnLock_23 : decode cL_turnLock 23 = .ok (.ireturn, 1) := by decide +kernel
set_option maxRecDepth 20000 in
theorem ggL_turnSkip_X5_turnSkip : GoodIn wsL_turnSkip wsX5_turnSkip := goodIn_ca (goodIn_r _ [6, 7, 8, 9, 10, 11, 12, 5, 13, 14, 15, 16, 17, 18, 19, 20, 21, 22, 23, 24, 25, 26, 27, 28, 29, 30, 31, 32, 33, 34, 35, 36, 37, 38, 39, 40, 41, 42, 43, 44, 45, 46, 47, 48, 49, 50, 51, 52, 53, 54, 55, 56, 57, 58, 59, 60] (by decide +kernel) (by decide +kernel)) (goodIn_sub (fun _ h => List.mem_cons_of_mem _ (List.mem_append_right _ h)) (by decide +kernel))
set_option maxRecDepth 20000 in
theorem gL_turnSkip_X5_turnSkip : GoodIn wsL_turnSkip (wsV RL 28 RX5 yX5_turnSkip wsX5_turnSkip) := goodIn_app (goodIn_of _ (by decide +kernel)) ggL_turnSkip_X5_turnSkip
theorem dL_turnSkip_0 : decode cL_turnSkip 0 = .ok (.aload_n 2, 1) := by decide +kernel
theorem dL_turnSkip_1 : decode cL_turnSkip 1 = .ok (.iconst 0, 1) := by decide +kernel
theorem dL_turnSkip_2 : decode cL_turnSkip 2 = .ok (.aload_n 0, 1) := by decide +kernel
theorem dL_turnSkip_3 : decode cL_turnSkip 3 = .ok (.iload_n 1, 1) := by decide +kernel
theorem dL_turnSkip_4 : decode cL_turnSkip 4 = .ok (.invokevirtual 28, 3) := by decide +kernel
theorem dL_turnSkip_7 : decode cL_turnSkip 7 = .ok (.ifCond .eq 7, 3) := by decide +kernel
theorem dL_turnSkip_10 : decode cL_turnSkip 10 = .ok (.lconst 1, 1) := by decide +kernel
theorem dL_turnSkip_11 : decode cL_turnSkip 11 = .ok (.goto 4, 3) := by decide +kernel
theorem dL_turnSkip_14 : decode cL_turnSkip 14 = .ok (.lconst 0, 1) := by decide +kernel
theorem dL_turnSkip_15 : decode cL_turnSkip 15 = .ok (.lastore, 1) := by decide +kernel
theorem dL_turnSkip_16 : decode cL_turnSkip 16 = .ok (.goto 6, 3) := by decide +kernel
theorem dL_turnSkip_19 : decode cL_turnSkip 19 = .ok (.astore_n 3, 1) := by decide +kernel
theorem dL_turnSkip_20 : decode cL_turnSkip 20 = .ok (.iconst 1, 1) := by decide +kernel
theorem dL_turnSkip_21 : decode cL_turnSkip 21 = .ok (.ireturn, 1) := by decide +kernel
theorem dL_turnSkip_22 : decode cL_turnSkip 22 = .ok (.iconst 0, 1) := by decide +kernel
theorem dL_turnSkip_23 : decode cL_turnSkip 23 = .ok (.ireturn, 1) := by decide +kernel
set_option maxRecDepth 20000 in
theorem ggL_store_X5_store : GoodIn wsL_store wsX5_store := goodIn_ca (goodIn_ca (goodIn_r _ [7, 8, 9, 10, 11, 12, 13, 14, 15, 6, 16, 17, 18, 19, 20, 21, 22, 23, 24, 25, 26, 27, 28, 29, 30, 31, 32, 33, 34, 35, 36, 37, 38, 39, 40, 41, 42, 43, 44, 45, 46, 47, 48, 49, 50, 51, 52, 53, 54, 55, 56, 57, 58, 59, 60, 61, 62, 63, 64, 65, 66, 67, 68, 69, 70, 71, 72, 73, 74, 75, 76, 77, 78, 79, 80, 81, 82, 83, 84, 85, 86, 87] (by decide +kernel) (by decide +kernel)) (goodIn_sub (fun _ h => List.mem_cons_of_mem _ (List.mem_append_left _ (List.mem_append_right _ h))) (by decide +kernel))) (goodIn_sub (fun _ h => List.mem_cons_of_mem _ (List.mem_append_right _ h)) (by decide +kernel))
set_option maxRecDepth 20000 in
theorem gL_store_X5_store : GoodIn wsL_store (wsV RL 31 RX5 yX5_store wsX5_store) := goodIn_app (goodIn_of _ (by decide +kernel)) ggL_store_X5_store
theorem dL_store_0 : decode cL_store 0 = .ok (.aload_n 3, 1) := by decide +kernel
theorem dL_store_1 : decode cL_store 1 = .ok (.iconst 0, 1) := by decide +kernel
theorem dL_store_2 : decode cL_store 2 = .ok (.aload_n 0, 1) := by decide +kernel
theorem dL_store_3 : decode cL_store 3 = .ok (.iload_n 1, 1) := by decide +kernel
theorem dL_store_4 : decode cL_store 4 = .ok (.iload_n 2, 1) := by decide +kernel
theorem dL_store_5 : decode cL_store 5 = .ok (.invokevirtual 31, 3) := by decide +kernel
theorem dL_store_8 : decode cL_store 8 = .ok (.i2l, 1) := by decide +kernel
theorem dL_store_9 : decode cL_store 9 = .ok (.lastore, 1) := by decide +kernel
theorem dL_store_10 : decode cL_store 10 = .ok (.goto 11, 3) := by decide +kernel
theorem dL_store_13 : decode cL_store 13 = .ok (.astore 4, 2) := by decide +kernel
theorem dL_store_15 : decode cL_store 15 = .ok (.iconst 1, 1) := by decide +kernel
theorem dL_store_16 : decode cL_store 16 = .ok (.ireturn, 1) := by decide +kernel
theorem dL_store_17 : decode cL_store 17 = .ok (.astore 4, 2) := by decide +kernel
theorem dL_store_19 : decode cL_store 19 = .ok (.iconst 2, 1) := by decide +kernel
theorem dL_store_20 : decode cL_store 20 = .ok (.ireturn, 1) := by decide +kernel
theorem dL_store_21 : decode cL_store 21 = .ok (.iconst 0, 1) := by decide +kernel
theorem dL_store_22 : decode cL_store 22 = .ok (.ireturn, 1) := by decide +kernel
set_option maxRecDepth 20000 in
theorem ggL_takeOut_X5_takeOut : GoodIn wsL_takeOut wsX5_takeOut := goodIn_ca (goodIn_ca (goodIn_r _ [7, 8, 9, 10, 11, 12, 13, 14, 15, 6, 16, 17, 18, 19, 20, 21, 22, 23, 24, 25, 26, 27, 28, 29, 30, 31, 32, 33, 34, 35, 36, 37, 38, 39, 40, 41, 42, 43, 44, 45, 46, 47, 48, 49, 50, 51, 52, 53, 54, 55, 56, 57, 58, 59, 60, 61, 62, 63, 64, 65, 66, 67, 68, 69, 70, 71] (by decide +kernel) (by decide +kernel)) (goodIn_sub (fun _ h => List.mem_cons_of_mem _ (List.mem_append_left _ (List.mem_append_right _ h))) (by decide +kernel))) (goodIn_sub (fun _ h => List.mem_cons_of_mem _ (List.mem_append_right _ h)) (by decide +kernel))
set_option maxRecDepth 20000 in
theorem gL_takeOut_X5_takeOut : GoodIn wsL_takeOut (wsV RL 34 RX5 yX5_takeOut wsX5_takeOut) := goodIn_app (goodIn_of _ (by decide +kernel)) ggL_takeOut_X5_takeOut
theorem dL_takeOut_0 : decode cL_takeOut 0 = .ok (.aload_n 2, 1) := by decide +kernel
theorem dL_takeOut_1 : decode cL_takeOut 1 = .ok (.iconst 0, 1) := by decide +kernel
theorem dL_takeOut_2 : decode cL_takeOut 2 = .ok (.aload_n 0, 1) := by decide +kernel
theorem dL_takeOut_3 : decode cL_takeOut 3 = .ok (.iload_n 1, 1) := by decide +kernel
theorem dL_takeOut_4 : decode cL_takeOut 4 = .ok (.invokevirtual 34, 3) := by decide +kernel
theorem dL_takeOut_7 : decode cL_takeOut 7 = .ok (.i2l, 1) := by decide +kernel
theorem dL_takeOut_8 : decode cL_takeOut 8 = .ok (.lastore, 1) := by decide +kernel
theorem dL_takeOut_9 : decode cL_takeOut 9 = .ok (.goto 9, 3) := by decide +kernel
theorem dL_takeOut_12 : decode cL_takeOut 12 = .ok (.astore_n 3, 1) := by decide +kernel
theorem dL_takeOut_13 : decode cL_takeOut 13 = .ok (.iconst 1, 1) := by decide +kernel
theorem dL_takeOut_14 : decode cL_takeOut 14 = .ok (.ireturn, 1) := by decide +kernel
theorem dL_takeOut_15 : decode cL_takeOut 15 = .ok (.astore_n 3, 1) := by decide +kernel
theorem dL_takeOut_16 : decode cL_takeOut 16 = .ok (.iconst 2, 1) := by decide +kernel
theorem dL_takeOut_17 : decode cL_takeOut 17 = .ok (.ireturn, 1) := by decide +kernel
theorem dL_takeOut_18 : decode cL_takeOut 18 = .ok (.iconst 0, 1) := by decide +kernel
theorem dL_takeOut_19 : decode cL_takeOut 19 = .ok (.ireturn, 1) := by decide +kernel
set_option maxRecDepth 20000 in
theorem ggL_isOpen_X5_isOpen : GoodIn wsL_isOpen wsX5_isOpen := goodIn_ca (goodIn_r _ [6, 7, 8, 9, 10, 11, 5, 12, 13, 14, 15, 16, 17, 18, 19, 20, 21, 22, 23, 24, 25, 26, 27, 28] (by decide +kernel) (by decide +kernel)) (goodIn_sub (fun _ h => List.mem_cons_of_mem _ (List.mem_append_right _ h)) (by decide +kernel))
set_option maxRecDepth 20000 in
theorem gL_isOpen_X5_isOpen : GoodIn wsL_isOpen (wsV RL 37 RX5 yX5_isOpen wsX5_isOpen) := goodIn_app (goodIn_of _ (by decide +kernel)) ggL_isOpen_X5_isOpen
theorem dL_isOpen_0 : decode cL_isOpen 0 = .ok (.aload_n 2, 1) := by decide +kernel
theorem dL_isOpen_1 : decode cL_isOpen 1 = .ok (.iconst 0, 1) := by decide +kernel
theorem dL_isOpen_2 : decode cL_isOpen 2 = .ok (.aload_n 0, 1) := by decide +kernel
theorem dL_isOpen_3 : decode cL_isOpen 3 = .ok (.iload_n 1, 1) := by decide +kernel
theorem dL_isOpen_4 : decode cL_isOpen 4 = .ok (.invokevirtual 37, 3) := by decide +kernel
theorem dL_isOpen_7 : decode cL_isOpen 7 = .ok (.ifCond .eq 7, 3) := by decide +kernel
theorem dL_isOpen_10 : decode cL_isOpen 10 = .ok (.lconst 1, 1) := by decide +kernel
theorem dL_isOpen_11 : decode cL_isOpen 11 = .ok (.goto 4, 3) := by decide +kernel
theorem dL_isOpen_14 : decode cL_isOpen 14 = .ok (.lconst 0, 1) := by decide +kernel
theorem dL_isOpen_15 : decode cL_isOpen 15 = .ok (.lastore, 1) := by decide +kernel
theorem dL_isOpen_16 : decode cL_isOpen 16 = .ok (.goto 6, 3) := by decide +kernel
theorem dL_isOpen_19 : decode cL_isOpen 19 = .ok (.astore_n 3, 1) := by decide +kernel
theorem dL_isOpen_20 : decode cL_isOpen 20 = .ok (.iconst 1, 1) := by decide +kernel
theorem dL_isOpen_21 : decode cL_isOpen 21 = .ok (.ireturn, 1) := by decide +kernel
theorem dL_isOpen_22 : decode cL_isOpen 22 = .ok (.iconst 0, 1) := by decide +kernel
theorem dL_isOpen_23 : decode cL_isOpen 23 = .ok (.ireturn, 1) := by decide +kernel
set_option maxRecDepth 20000 in
theorem ggL_isLocked_X5_isLocked : GoodIn wsL_isLocked wsX5_isLocked := goodIn_ca (goodIn_r _ [6, 7, 8, 9, 10, 11, 5, 12, 13, 14, 15, 16, 17, 18, 19, 20, 21, 22, 23, 24, 25, 26, 27, 28] (by decide +kernel) (by decide +kernel)) (goodIn_sub (fun _ h => List.mem_cons_of_mem _ (List.mem_append_right _ h)) (by decide +kernel))
set_option maxRecDepth 20000 in
theorem gL_isLocked_X5_isLocked : GoodIn wsL_isLocked (wsV RL 40 RX5 yX5_isLocked wsX5_isLocked) := goodIn_app (goodIn_of _ (by decide +kernel)) ggL_isLocked_X5_isLocked
theorem dL_isLocked_0 : decode cL_isLocked 0 = .ok (.aload_n 2, 1) := by decide +kernel
theorem dL_isLocked_1 : decode cL_isLocked 1 = .ok (.iconst 0, 1) := by decide +kernel
theorem dL_isLocked_2 : decode cL_isLocked 2 = .ok (.aload_n 0, 1) := by decide +kernel
theorem dL_isLocked_3 : decode cL_isLocked 3 = .ok (.iload_n 1, 1) := by decide +kernel
theorem dL_isLocked_4 : decode cL_isLocked 4 = .ok (.invokevirtual 40, 3) := by decide +kernel
theorem dL_isLocked_7 : decode cL_isLocked 7 = .ok (.ifCond .eq 7, 3) := by decide +kernel
theorem dL_isLocked_10 : decode cL_isLocked 10 = .ok (.lconst 1, 1) := by decide +kernel
theorem dL_isLocked_11 : decode cL_isLocked 11 = .ok (.goto 4, 3) := by decide +kernel
theorem dL_isLocked_14 : decode cL_isLocked 14 = .ok (.lconst 0, 1) := by decide +kernel
theorem dL_isLocked_15 : decode cL_isLocked 15 = .ok (.lastore, 1) := by decide +kernel
theorem dL_isLocked_16 : decode cL_isLocked 16 = .ok (.goto 6, 3) := by decide +kernel
theorem dL_isLocked_19 : decode cL_isLocked 19 = .ok (.astore_n 3, 1) := by decide +kernel
theorem dL_isLocked_20 : decode cL_isLocked 20 = .ok (.iconst 1, 1) := by decide +kernel
theorem dL_isLocked_21 : decode cL_isLocked 21 = .ok (.ireturn, 1) := by decide +kernel
theorem dL_isLocked_22 : decode cL_isLocked 22 = .ok (.iconst 0, 1) := by decide +kernel
theorem dL_isLocked_23 : decode cL_isLocked 23 = .ok (.ireturn, 1) := by decide +kernel
set_option maxRecDepth 20000 in
theorem ggL_turnsOf_X5_turnsOf : GoodIn wsL_turnsOf wsX5_turnsOf := goodIn_ca (goodIn_r _ [6, 7, 8, 9, 10, 11, 5, 12, 13, 14, 15, 16, 17, 18, 19, 20, 21, 22, 23, 24, 25, 26, 27, 28] (by decide +kernel) (by decide +kernel)) (goodIn_sub (fun _ h => List.mem_cons_of_mem _ (List.mem_append_right _ h)) (by decide +kernel))
set_option maxRecDepth 20000 in
theorem gL_turnsOf_X5_turnsOf : GoodIn wsL_turnsOf (wsV RL 43 RX5 yX5_turnsOf wsX5_turnsOf) := goodIn_app (goodIn_of _ (by decide +kernel)) ggL_turnsOf_X5_turnsOf
theorem dL_turnsOf_0 : decode cL_turnsOf 0 = .ok (.aload_n 2, 1) := by decide +kernel
theorem dL_turnsOf_1 : decode cL_turnsOf 1 = .ok (.iconst 0, 1) := by decide +kernel
theorem dL_turnsOf_2 : decode cL_turnsOf 2 = .ok (.aload_n 0, 1) := by decide +kernel
theorem dL_turnsOf_3 : decode cL_turnsOf 3 = .ok (.iload_n 1, 1) := by decide +kernel
theorem dL_turnsOf_4 : decode cL_turnsOf 4 = .ok (.invokevirtual 43, 3) := by decide +kernel
theorem dL_turnsOf_7 : decode cL_turnsOf 7 = .ok (.i2l, 1) := by decide +kernel
theorem dL_turnsOf_8 : decode cL_turnsOf 8 = .ok (.lastore, 1) := by decide +kernel
theorem dL_turnsOf_9 : decode cL_turnsOf 9 = .ok (.goto 6, 3) := by decide +kernel
theorem dL_turnsOf_12 : decode cL_turnsOf 12 = .ok (.astore_n 3, 1) := by decide +kernel
theorem dL_turnsOf_13 : decode cL_turnsOf 13 = .ok (.iconst 1, 1) := by decide +kernel
theorem dL_turnsOf_14 : decode cL_turnsOf 14 = .ok (.ireturn, 1) := by decide +kernel
theorem dL_turnsOf_15 : decode cL_turnsOf 15 = .ok (.iconst 0, 1) := by decide +kernel
theorem dL_turnsOf_16 : decode cL_turnsOf 16 = .ok (.ireturn, 1) := by decide +kernel
set_option maxRecDepth 20000 in
theorem ggL_isSkipped_X5_isSkipped : GoodIn wsL_isSkipped wsX5_isSkipped := goodIn_ca (goodIn_r _ [6, 7, 8, 9, 10, 11, 5, 12, 13, 14, 15, 16, 17, 18, 19, 20, 21, 22, 23, 24, 25, 26, 27, 28] (by decide +kernel) (by decide +kernel)) (goodIn_sub (fun _ h => List.mem_cons_of_mem _ (List.mem_append_right _ h)) (by decide +kernel))
set_option maxRecDepth 20000 in
theorem gL_isSkipped_X5_isSkipped : GoodIn wsL_isSkipped (wsV RL 46 RX5 yX5_isSkipped wsX5_isSkipped) := goodIn_app (goodIn_of _ (by decide +kernel)) ggL_isSkipped_X5_isSkipped
theorem dL_isSkipped_0 : decode cL_isSkipped 0 = .ok (.aload_n 2, 1) := by decide +kernel
theorem dL_isSkipped_1 : decode cL_isSkipped 1 = .ok (.iconst 0, 1) := by decide +kernel
theorem dL_isSkipped_2 : decode cL_isSkipped 2 = .ok (.aload_n 0, 1) := by decide +kernel
theorem dL_isSkipped_3 : decode cL_isSkipped 3 = .ok (.iload_n 1, 1) := by decide +kernel
theorem dL_isSkipped_4 : decode cL_isSkipped 4 = .ok (.invokevirtual 46, 3) := by decide +kernel
theorem dL_isSkipped_7 : decode cL_isSkipped 7 = .ok (.ifCond .eq 7, 3) := by decide +kernel
theorem dL_isSkipped_10 : decode cL_isSkipped 10 = .ok (.lconst 1, 1) := by decide +kernel
theorem dL_isSkipped_11 : decode cL_isSkipped 11 = .ok (.goto 4, 3) := by decide +kernel
theorem dL_isSkipped_14 : decode cL_isSkipped 14 = .ok (.lconst 0, 1) := by decide +kernel
theorem dL_isSkipped_15 : decode cL_isSkipped 15 = .ok (.lastore, 1) := by decide +kernel
theorem dL_isSkipped_16 : decode cL_isSkipped 16 = .ok (.goto 6, 3) := by decide +kernel
theorem dL_isSkipped_19 : decode cL_isSkipped 19 = .ok (.astore_n 3, 1) := by decide +kernel
theorem dL_isSkipped_20 : decode cL_isSkipped 20 = .ok (.iconst 1, 1) := by decide +kernel
theorem dL_isSkipped_21 : decode cL_isSkipped 21 = .ok (.ireturn, 1) := by decide +kernel
theorem dL_isSkipped_22 : decode cL_isSkipped 22 = .ok (.iconst 0, 1) := by decide +kernel
theorem dL_isSkipped_23 : decode cL_isSkipped 23 = .ok (.ireturn, 1) := by decide +kernel
set_option maxRecDepth 20000 in
theorem ggL_timesOf_X5_timesOf : GoodIn wsL_timesOf wsX5_timesOf := goodIn_ca (goodIn_r _ [6, 7, 8, 9, 10, 11, 5, 12, 13, 14, 15, 16, 17, 18, 19, 20, 21, 22, 23, 24, 25, 26, 27, 28] (by decide +kernel) (by decide +kernel)) (goodIn_sub (fun _ h => List.mem_cons_of_mem _ (List.mem_append_right _ h)) (by decide +kernel))
set_option maxRecDepth 20000 in
theorem gL_timesOf_X5_timesOf : GoodIn wsL_timesOf (wsV RL 49 RX5 yX5_timesOf wsX5_timesOf) := goodIn_app (goodIn_of _ (by decide +kernel)) ggL_timesOf_X5_timesOf
theorem dL_timesOf_0 : decode cL_timesOf 0 = .ok (.aload_n 2, 1) := by decide +kernel
theorem dL_timesOf_1 : decode cL_timesOf 1 = .ok (.iconst 0, 1) := by decide +kernel
theorem dL_timesOf_2 : decode cL_timesOf 2 = .ok (.aload_n 0, 1) := by decide +kernel
theorem dL_timesOf_3 : decode cL_timesOf 3 = .ok (.iload_n 1, 1) := by decide +kernel
theorem dL_timesOf_4 : decode cL_timesOf 4 = .ok (.invokevirtual 49, 3) := by decide +kernel
theorem dL_timesOf_7 : decode cL_timesOf 7 = .ok (.i2l, 1) := by decide +kernel
theorem dL_timesOf_8 : decode cL_timesOf 8 = .ok (.lastore, 1) := by decide +kernel
theorem dL_timesOf_9 : decode cL_timesOf 9 = .ok (.goto 6, 3) := by decide +kernel
theorem dL_timesOf_12 : decode cL_timesOf 12 = .ok (.astore_n 3, 1) := by decide +kernel
theorem dL_timesOf_13 : decode cL_timesOf 13 = .ok (.iconst 1, 1) := by decide +kernel
theorem dL_timesOf_14 : decode cL_timesOf 14 = .ok (.ireturn, 1) := by decide +kernel
theorem dL_timesOf_15 : decode cL_timesOf 15 = .ok (.iconst 0, 1) := by decide +kernel
theorem dL_timesOf_16 : decode cL_timesOf 16 = .ok (.ireturn, 1) := by decide +kernel
set_option maxRecDepth 20000 in
theorem ggL_divisorsOf_X5_divisorsOf : GoodIn wsL_divisorsOf wsX5_divisorsOf := goodIn_ca (goodIn_r _ [6, 7, 8, 9, 10, 5, 11, 12, 13, 14] (by decide +kernel) (by decide +kernel)) (goodIn_sub (fun _ h => List.mem_cons_of_mem _ (List.mem_append_right _ h)) (by decide +kernel))
set_option maxRecDepth 20000 in
theorem gL_divisorsOf_X5_divisorsOf : GoodIn wsL_divisorsOf (wsV RL 52 RX5 yX5_divisorsOf wsX5_divisorsOf) := goodIn_app (goodIn_of _ (by decide +kernel)) ggL_divisorsOf_X5_divisorsOf
theorem dL_divisorsOf_0 : decode cL_divisorsOf 0 = .ok (.aload_n 2, 1) := by decide +kernel
theorem dL_divisorsOf_1 : decode cL_divisorsOf 1 = .ok (.iconst 0, 1) := by decide +kernel
theorem dL_divisorsOf_2 : decode cL_divisorsOf 2 = .ok (.aload_n 0, 1) := by decide +kernel
theorem dL_divisorsOf_3 : decode cL_divisorsOf 3 = .ok (.iload_n 1, 1) := by decide +kernel
