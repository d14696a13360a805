theorem dL_turnLock_7 : decode cL_turnLock 7 = .ok (.istore_n 2, 1) := by decide +kernel
theorem dL_turnLock_8 : decode cL_turnLock 8 = .ok (.goto 7, 3) := by decide +kernel
theorem dL_turnLock_11 : decode cL_turnLock 11 = .ok (.astore_n 3, 1) := by decide +kernel
theorem dL_turnLock_12 : decode cL_turnLock 12 = .ok (.bipush (-102), 2) := by decide +kernel
theorem dL_turnLock_14 : decode cL_turnLock 14 = .ok (.ireturn, 1) := by decide +kernel
theorem dL_turnLock_15 : decode cL_turnLock 15 = .ok (.iload_n 2, 1) := by decide +kernel
theorem dL_turnLock_16 : decode cL_turnLock 16 = .ok (.ifCond .eq 7, 3) := by decide +kernel
theorem dL_turnLock_19 : decode cL_turnLock 19 = .ok (.iconst 1, 1) := by decide +kernel
theorem dL_turnLock_20 : decode cL_turnLock 20 = .ok (.goto 4, 3) := by decide +kernel
theorem dL_turnLock_23 : decode cL_turnLock 23 = .ok (.iconst 0, 1) := by decide +kernel
theorem dL_turnLock_24 : decode cL_turnLock 24 = .ok (.ireturn, 1) := by decide +kernel
set_option maxRecDepth 20000 in
theorem ggL_turnSkip_X5_turnSkip : GoodIn wsL_turnSkip wsX5_turnSkip := goodIn_ca (goodIn_r _ [6, 7, 8, 9, 10, 11, 12, 5, 13, 14, 15, 16, 17, 18, 19, 20, 21, 22, 23, 24, 25, 26, 27, 28, 29, 30, 31, 32, 33, 34, 35, 36, 37, 38, 39, 40, 41, 42, 43, 44, 45, 46, 47, 48, 49, 50, 51, 52, 53, 54, 55, 56, 57, 58, 59, 60] rfl (by decide +kernel)) (goodIn_sub (fun _ h => List.mem_cons_of_mem _ (List.mem_append_right _ h)) (by decide +kernel))
set_option maxRecDepth 20000 in
theorem gL_turnSkip_X5_turnSkip : GoodIn wsL_turnSkip (wsV RL 30 RX5 yX5_turnSkip wsX5_turnSkip) := goodIn_app (goodIn_of _ (by decide +kernel)) ggL_turnSkip_X5_turnSkip
theorem dL_turnSkip_0 : decode cL_turnSkip 0 = .ok (.iconst 0, 1) := by decide +kernel
theorem dL_turnSkip_1 : decode cL_turnSkip 1 = .ok (.istore_n 2, 1) := by decide +kernel
theorem dL_turnSkip_2 : decode cL_turnSkip 2 = .ok (.aload_n 0, 1) := by decide +kernel
theorem dL_turnSkip_3 : decode cL_turnSkip 3 = .ok (.iload_n 1, 1) := by decide +kernel
theorem dL_turnSkip_4 : decode cL_turnSkip 4 = .ok (.invokevirtual 30, 3) := by decide +kernel
theorem dL_turnSkip_7 : decode cL_turnSkip 7 = .ok (.istore_n 2, 1) := by decide +kernel
theorem dL_turnSkip_8 : decode cL_turnSkip 8 = .ok (.goto 7, 3) := by decide +kernel
theorem dL_turnSkip_11 : decode cL_turnSkip 11 = .ok (.astore_n 3, 1) := by decide +kernel
theorem dL_turnSkip_12 : decode cL_turnSkip 12 = .ok (.bipush (-102), 2) := by decide +kernel
theorem dL_turnSkip_14 : decode cL_turnSkip 14 = .ok (.ireturn, 1) := by decide +kernel
theorem dL_turnSkip_15 : decode cL_turnSkip 15 = .ok (.iload_n 2, 1) := by decide +kernel
theorem dL_turnSkip_16 : decode cL_turnSkip 16 = .ok (.ifCond .eq 7, 3) := by decide +kernel
theorem dL_turnSkip_19 : decode cL_turnSkip 19 = .ok (.iconst 1, 1) := by decide +kernel
theorem dL_turnSkip_20 : decode cL_turnSkip 20 = .ok (.goto 4, 3) := by decide +kernel
theorem dL_turnSkip_23 : decode cL_turnSkip 23 = .ok (.iconst 0, 1) := by decide +kernel
theorem dL_turnSkip_24 : decode cL_turnSkip 24 = .ok (.ireturn, 1) := by decide +kernel
set_option maxRecDepth 20000 in
theorem ggL_store_X5_store : GoodIn wsL_store wsX5_store := goodIn_ca (goodIn_ca (goodIn_r _ [7, 8, 9, 10, 11, 12, 13, 14, 15, 6, 16, 17, 18, 19, 20, 21, 22, 23, 24, 25, 26, 27, 28, 29, 30, 31, 32, 33, 34, 35, 36, 37, 38, 39, 40, 41, 42, 43, 44, 45, 46, 47, 48, 49, 50, 51, 52, 53, 54, 55, 56, 57, 58, 59, 60, 61, 62, 63, 64, 65, 66, 67, 68, 69, 70, 71, 72, 73, 74, 75, 76, 77, 78, 79, 80, 81, 82, 83, 84, 85, 86, 87] rfl (by decide +kernel)) (goodIn_sub (fun _ h => List.mem_cons_of_mem _ (List.mem_append_left _ (List.mem_append_right _ h))) (by decide +kernel))) (goodIn_sub (fun _ h => List.mem_cons_of_mem _ (List.mem_append_right _ h)) (by decide +kernel))
set_option maxRecDepth 20000 in
theorem gL_store_X5_store : GoodIn wsL_store (wsV RL 33 RX5 yX5_store wsX5_store) := goodIn_app (goodIn_of _ (by decide +kernel)) ggL_store_X5_store
theorem dL_store_0 : decode cL_store 0 = .ok (.aload_n 0, 1) := by decide +kernel
theorem dL_store_1 : decode cL_store 1 = .ok (.iload_n 1, 1) := by decide +kernel
theorem dL_store_2 : decode cL_store 2 = .ok (.iload_n 2, 1) := by decide +kernel
theorem dL_store_3 : decode cL_store 3 = .ok (.invokevirtual 33, 3) := by decide +kernel
theorem dL_store_6 : decode cL_store 6 = .ok (.ireturn, 1) := by decide +kernel
theorem dL_store_7 : decode cL_store 7 = .ok (.astore_n 3, 1) := by decide +kernel
theorem dL_store_8 : decode cL_store 8 = .ok (.bipush (-102), 2) := by decide +kernel
theorem dL_store_10 : decode cL_store 10 = .ok (.ireturn, 1) := by decide +kernel
theorem dL_store_11 : decode cL_store 11 = .ok (.astore_n 3, 1) := by decide +kernel
theorem dL_store_12 : decode cL_store 12 = .ok (.bipush (-103), 2) := by decide +kernel
theorem dL_store_14 : decode cL_store 14 = .ok (.ireturn, 1) := by decide +kernel
set_option maxRecDepth 20000 in
theorem ggL_takeOut_X5_takeOut : GoodIn wsL_takeOut wsX5_takeOut := goodIn_ca (goodIn_ca (goodIn_r _ [7, 8, 9, 10, 11, 12, 13, 14, 15, 6, 16, 17, 18, 19, 20, 21, 22, 23, 24, 25, 26, 27, 28, 29, 30, 31, 32, 33, 34, 35, 36, 37, 38, 39, 40, 41, 42, 43, 44, 45, 46, 47, 48, 49, 50, 51, 52, 53, 54, 55, 56, 57, 58, 59, 60, 61, 62, 63, 64, 65, 66, 67, 68, 69, 70, 71] rfl (by decide +kernel)) (goodIn_sub (fun _ h => List.mem_cons_of_mem _ (List.mem_append_left _ (List.mem_append_right _ h))) (by decide +kernel))) (goodIn_sub (fun _ h => List.mem_cons_of_mem _ (List.mem_append_right _ h)) (by decide +kernel))
set_option maxRecDepth 20000 in
theorem gL_takeOut_X5_takeOut : GoodIn wsL_takeOut (wsV RL 36 RX5 yX5_takeOut wsX5_takeOut) := goodIn_app (goodIn_of _ (by decide +kernel)) ggL_takeOut_X5_takeOut
theorem dL_takeOut_0 : decode cL_takeOut 0 = .ok (.aload_n 0, 1) := by decide +kernel
theorem dL_takeOut_1 : decode cL_takeOut 1 = .ok (.iload_n 1, 1) := by decide +kernel
theorem dL_takeOut_2 : decode cL_takeOut 2 = .ok (.invokevirtual 36, 3) := by decide +kernel
theorem dL_takeOut_5 : decode cL_takeOut 5 = .ok (.ireturn, 1) := by decide +kernel
theorem dL_takeOut_6 : decode cL_takeOut 6 = .ok (.astore_n 2, 1) := by decide +kernel
theorem dL_takeOut_7 : decode cL_takeOut 7 = .ok (.bipush (-102), 2) := by decide +kernel
theorem dL_takeOut_9 : decode cL_takeOut 9 = .ok (.ireturn, 1) := by decide +kernel
theorem dL_takeOut_10 : decode cL_takeOut 10 = .ok (.astore_n 2, 1) := by decide +kernel
theorem dL_takeOut_11 : decode cL_takeOut 11 = .ok (.bipush (-103), 2) := by decide +kernel
theorem dL_takeOut_13 : decode cL_takeOut 13 = .ok (.ireturn, 1) := by decide +kernel
set_option maxRecDepth 20000 in
theorem ggL_isOpen_X5_isOpen : GoodIn wsL_isOpen wsX5_isOpen := goodIn_ca (goodIn_r _ [6, 7, 8, 9, 10, 11, 5, 12, 13, 14, 15, 16, 17, 18, 19, 20, 21, 22, 23, 24, 25, 26, 27, 28] rfl (by decide +kernel)) (goodIn_sub (fun _ h => List.mem_cons_of_mem _ (List.mem_append_right _ h)) (by decide +kernel))
set_option maxRecDepth 20000 in
theorem gL_isOpen_X5_isOpen : GoodIn wsL_isOpen (wsV RL 39 RX5 yX5_isOpen wsX5_isOpen) := goodIn_app (goodIn_of _ (by decide +kernel)) ggL_isOpen_X5_isOpen
theorem dL_isOpen_0 : decode cL_isOpen 0 = .ok (.iconst 0, 1) := by decide +kernel
theorem dL_isOpen_1 : decode cL_isOpen 1 = .ok (.istore_n 2, 1) := by decide +kernel
theorem dL_isOpen_2 : decode cL_isOpen 2 = .ok (.aload_n 0, 1) := by decide +kernel
theorem dL_isOpen_3 : decode cL_isOpen 3 = .ok (.iload_n 1, 1) := by decide +kernel
theorem dL_isOpen_4 : decode cL_isOpen 4 = .ok (.invokevirtual 39, 3) := by decide +kernel
theorem dL_isOpen_7 : decode cL_isOpen 7 = .ok (.istore_n 2, 1) := by decide +kernel
theorem dL_isOpen_8 : decode cL_isOpen 8 = .ok (.goto 7, 3) := by decide +kernel
theorem dL_isOpen_11 : decode cL_isOpen 11 = .ok (.astore_n 3, 1) := by decide +kernel
theorem dL_isOpen_12 : decode cL_isOpen 12 = .ok (.bipush (-102), 2) := by decide +kernel
theorem dL_isOpen_14 : decode cL_isOpen 14 = .ok (.ireturn, 1) := by decide +kernel
theorem dL_isOpen_15 : decode cL_isOpen 15 = .ok (.iload_n 2, 1) := by decide +kernel
theorem dL_isOpen_16 : decode cL_isOpen 16 = .ok (.ifCond .eq 7, 3) := by decide +kernel
theorem dL_isOpen_19 : decode cL_isOpen 19 = .ok (.iconst 1, 1) := by decide +kernel
theorem dL_isOpen_20 : decode cL_isOpen 20 = .ok (.goto 4, 3) := by decide +kernel
theorem dL_isOpen_23 : decode cL_isOpen 23 = .ok (.iconst 0, 1) := by decide +kernel
theorem dL_isOpen_24 : decode cL_isOpen 24 = .ok (.ireturn, 1) := by decide +kernel
set_option maxRecDepth 20000 in
theorem ggL_nextOpen_X5_nextOpen : GoodIn wsL_nextOpen wsX5_nextOpen := goodIn_ca (goodIn_ca (goodIn_r _ [7, 8, 9, 10, 11, 12, 13, 14, 6, 15, 16, 17, 18, 19, 20, 21, 22, 23, 24, 25, 26, 27, 28, 29, 30, 31] rfl (by decide +kernel)) (goodIn_sub (fun _ h => List.mem_cons_of_mem _ (List.mem_append_left _ (List.mem_append_right _ h))) (by decide +kernel))) (goodIn_sub (fun _ h => List.mem_cons_of_mem _ (List.mem_append_right _ h)) (by decide +kernel))
set_option maxRecDepth 20000 in
theorem gL_nextOpen_X5_nextOpen : GoodIn wsL_nextOpen (wsV RL 48 RX5 yX5_nextOpen wsX5_nextOpen) := goodIn_app (goodIn_of _ (by decide +kernel)) ggL_nextOpen_X5_nextOpen
theorem dL_nextOpen_0 : decode cL_nextOpen 0 = .ok (.aload_n 0, 1) := by decide +kernel
theorem dL_nextOpen_1 : decode cL_nextOpen 1 = .ok (.iload_n 1, 1) := by decide +kernel
theorem dL_nextOpen_2 : decode cL_nextOpen 2 = .ok (.invokevirtual 48, 3) := by decide +kernel
theorem dL_nextOpen_5 : decode cL_nextOpen 5 = .ok (.ireturn, 1) := by decide +kernel
theorem dL_nextOpen_6 : decode cL_nextOpen 6 = .ok (.astore_n 2, 1) := by decide +kernel
theorem dL_nextOpen_7 : decode cL_nextOpen 7 = .ok (.bipush (-102), 2) := by decide +kernel
theorem dL_nextOpen_9 : decode cL_nextOpen 9 = .ok (.ireturn, 1) := by decide +kernel
theorem dL_nextOpen_10 : decode cL_nextOpen 10 = .ok (.astore_n 2, 1) := by decide +kernel
theorem dL_nextOpen_11 : decode cL_nextOpen 11 = .ok (.bipush (-104), 2) := by decide +kernel
theorem dL_nextOpen_13 : decode cL_nextOpen 13 = .ok (.ireturn, 1) := by decide +kernel
set_option maxRecDepth 20000 in
theorem ggL_wouldBeOpen_X5_wouldBeOpen : GoodIn wsL_wouldBeOpen wsX5_wouldBeOpen := goodIn_ca (goodIn_r _ [6, 7, 8, 9, 10, 11, 5, 12, 13, 14, 15, 16, 17, 18, 19, 20, 21, 22, 23, 24, 25, 26, 27, 28, 29, 30, 31, 32, 33, 34, 35, 36, 37, 38, 39, 40, 41, 42, 43, 44, 45, 46, 47, 48, 49, 50] rfl (by decide +kernel)) (goodIn_sub (fun _ h => List.mem_cons_of_mem _ (List.mem_append_right _ h)) (by decide +kernel))
set_option maxRecDepth 20000 in
theorem gL_wouldBeOpen_X5_wouldBeOpen : GoodIn wsL_wouldBeOpen (wsV RL 53 RX5 yX5_wouldBeOpen wsX5_wouldBeOpen) := goodIn_app (goodIn_of _ (by decide +kernel)) ggL_wouldBeOpen_X5_wouldBeOpen
theorem dL_wouldBeOpen_0 : decode cL_wouldBeOpen 0 = .ok (.aload_n 0, 1) := by decide +kernel
theorem dL_wouldBeOpen_1 : decode cL_wouldBeOpen 1 = .ok (.iload_n 1, 1) := by decide +kernel
theorem dL_wouldBeOpen_2 : decode cL_wouldBeOpen 2 = .ok (.iload_n 2, 1) := by decide +kernel
theorem dL_wouldBeOpen_3 : decode cL_wouldBeOpen 3 = .ok (.invokevirtual 53, 3) := by decide +kernel
theorem dL_wouldBeOpen_6 : decode cL_wouldBeOpen 6 = .ok (.ireturn, 1) := by decide +kernel
theorem dL_wouldBeOpen_7 : decode cL_wouldBeOpen 7 = .ok (.astore_n 3, 1) := by decide +kernel
theorem dL_wouldBeOpen_8 : decode cL_wouldBeOpen 8 = .ok (.bipush (-102), 2) := by decide +kernel
theorem dL_wouldBeOpen_10 : decode cL_wouldBeOpen 10 = .ok (.ireturn, 1) := by decide +kernel
set_option maxRecDepth 20000 in
theorem ggL_whyNot_X5_whyNot : GoodIn wsL_whyNot wsX5_whyNot := goodIn_ca (goodIn_r _ [6, 7, 8, 9, 10, 11, 5, 12, 13, 14, 15, 16, 17, 18, 19, 20, 21, 22, 23, 24, 25, 26, 27, 28, 29, 30, 31, 32, 33, 34, 35, 36, 37, 38, 39, 40] rfl (by decide +kernel)) (goodIn_sub (fun _ h => List.mem_cons_of_mem _ (List.mem_append_right _ h)) (by decide +kernel))
set_option maxRecDepth 20000 in
theorem gL_whyNot_X5_whyNot : GoodIn wsL_whyNot (wsV RL 56 RX5 yX5_whyNot wsX5_whyNot) := goodIn_app (goodIn_of _ (by decide +kernel)) ggL_whyNot_X5_whyNot
theorem dL_whyNot_0 : decode cL_whyNot 0 = .ok (.aload_n 0, 1) := by decide +kernel
theorem dL_whyNot_1 : decode cL_whyNot 1 = .ok (.iload_n 1, 1) := by decide +kernel
theorem dL_whyNot_2 : decode cL_whyNot 2 = .ok (.iload_n 2, 1) := by decide +kernel
theorem dL_whyNot_3 : decode cL_whyNot 3 = .ok (.invokevirtual 56, 3) := by decide +kernel
theorem dL_whyNot_6 : decode cL_whyNot 6 = .ok (.ireturn, 1) := by decide +kernel
theorem dL_whyNot_7 : decode cL_whyNot 7 = .ok (.astore_n 3, 1) := by decide +kernel
theorem dL_whyNot_8 : decode cL_whyNot 8 = .ok (.bipush (-102), 2) := by decide +kernel
theorem dL_whyNot_10 : decode cL_whyNot 10 = .ok (.ireturn, 1) := by decide +kernel
set_option maxRecDepth 20000 in
theorem ggL_thingAt_X5_thingAt : GoodIn wsL_thingAt wsX5_thingAt := goodIn_ca (goodIn_ca (goodIn_r _ [7, 8, 9, 10, 11, 12, 13, 14, 6, 15, 16, 17, 18, 19, 20, 21, 22, 23, 24, 25, 26, 27, 28, 29, 30, 31, 32, 33, 34, 35, 36, 37] rfl (by decide +kernel)) (goodIn_sub (fun _ h => List.mem_cons_of_mem _ (List.mem_append_left _ (List.mem_append_right _ h))) (by decide +kernel))) (goodIn_sub (fun _ h => List.mem_cons_of_mem _ (List.mem_append_right _ h)) (by decide +kernel))
set_option maxRecDepth 20000 in
theorem gL_thingAt_X5_thingAt : GoodIn wsL_thingAt (wsV RL 59 RX5 yX5_thingAt wsX5_thingAt) := goodIn_app (goodIn_of _ (by decide +kernel)) ggL_thingAt_X5_thingAt
theorem dL_thingAt_0 : decode cL_thingAt 0 = .ok (.aload_n 0, 1) := by decide +kernel
theorem dL_thingAt_1 : decode cL_thingAt 1 = .ok (.iload_n 1, 1) := by decide +kernel
theorem dL_thingAt_2 : decode cL_thingAt 2 = .ok (.invokevirtual 59, 3) := by decide +kernel
theorem dL_thingAt_5 : decode cL_thingAt 5 = .ok (.ireturn, 1) := by decide +kernel
theorem dL_thingAt_6 : decode cL_thingAt 6 = .ok (.astore_n 2, 1) := by decide +kernel
theorem dL_thingAt_7 : decode cL_thingAt 7 = .ok (.bipush (-102), 2) := by decide +kernel
theorem dL_thingAt_9 : decode cL_thingAt 9 = .ok (.ireturn, 1) := by decide +kernel
theorem dL_thingAt_10 : decode cL_thingAt 10 = .ok (.astore_n 2, 1) := by decide +kernel
theorem dL_thingAt_11 : decode cL_thingAt 11 = .ok (.bipush (-104), 2) := by decide +kernel
theorem dL_thingAt_13 : decode cL_thingAt 13 = .ok (.ireturn, 1) := by decide +kernel
set_option maxRecDepth 20000 in
theorem ggL_thingsOf_X5_thingsOf : GoodIn wsL_thingsOf wsX5_thingsOf := goodIn_ca (goodIn_r _ [6, 7, 8, 9, 10, 11, 5, 12, 13, 14, 15, 16, 17, 18, 19, 20, 21, 22, 23, 24, 25, 26, 27, 28, 29, 30, 31, 32, 33, 34, 35, 36, 37, 38, 39, 40] rfl (by decide +kernel)) (goodIn_sub (fun _ h => List.mem_cons_of_mem _ (List.mem_append_right _ h)) (by decide +kernel))
set_option maxRecDepth 20000 in
theorem gL_thingsOf_X5_thingsOf : GoodIn wsL_thingsOf (wsV RL 62 RX5 yX5_thingsOf wsX5_thingsOf) := goodIn_app (goodIn_of _ (by decide +kernel)) ggL_thingsOf_X5_thingsOf
theorem dL_thingsOf_0 : decode cL_thingsOf 0 = .ok (.aload_n 0, 1) := by decide +kernel
theorem dL_thingsOf_1 : decode cL_thingsOf 1 = .ok (.iload_n 1, 1) := by decide +kernel
theorem dL_thingsOf_2 : decode cL_thingsOf 2 = .ok (.invokevirtual 62, 3) := by decide +kernel
theorem dL_thingsOf_5 : decode cL_thingsOf 5 = .ok (.ireturn, 1) := by decide +kernel
theorem dL_thingsOf_6 : decode cL_thingsOf 6 = .ok (.astore_n 2, 1) := by decide +kernel
theorem dL_thingsOf_7 : decode cL_thingsOf 7 = .ok (.bipush (-102), 2) := by decide +kernel
theorem dL_thingsOf_9 : decode cL_thingsOf 9 = .ok (.ireturn, 1) := by decide +kernel
set_option maxRecDepth 20000 in
theorem ggL_goBack_X5_goBack : GoodIn wsL_goBack wsX5_goBack := goodIn_ca (goodIn_r _ [6, 7, 8, 9, 10, 11, 12, 13, 14, 15, 16, 17, 18, 19, 20, 21, 22, 23, 24, 25, 26, 27, 28, 29, 30, 31, 32, 33, 34, 35, 36, 37, 38, 39, 40, 41, 42, 43, 44, 45, 46, 47, 48, 49, 50, 51, 52, 53, 54, 55, 56, 57, 58, 59, 60, 61] rfl (by decide +kernel)) (goodIn_sub (fun _ h => List.mem_cons_of_mem _ (List.mem_append_right _ h)) (by decide +kernel))
set_option maxRecDepth 20000 in
theorem gL_goBack_X5_goBack : GoodIn wsL_goBack (wsV RL 65 RX5 yX5_goBack wsX5_goBack) := goodIn_app (goodIn_of _ (by decide +kernel)) ggL_goBack_X5_goBack
theorem dL_goBack_0 : decode cL_goBack 0 = .ok (.aload_n 0, 1) := by decide +kernel
theorem dL_goBack_1 : decode cL_goBack 1 = .ok (.invokevirtual 65, 3) := by decide +kernel
theorem dL_goBack_4 : decode cL_goBack 4 = .ok (.ireturn, 1) := by decide +kernel
theorem dL_goBack_5 : decode cL_goBack 5 = .ok (.astore_n 1, 1) := by decide +kernel
theorem dL_goBack_6 : decode cL_goBack 6 = .ok (.bipush (-103), 2) := by decide +kernel
theorem dL_goBack_8 : decode cL_goBack 8 = .ok (.ireturn, 1) := by decide +kernel
set_option maxRecDepth 20000 in
theorem ggL_undo_X5_undo : GoodIn wsL_undo wsX5_undo := goodIn_ca (goodIn_r _ [6, 7, 8, 9, 10, 11, 12, 13, 14, 15, 16, 17, 18, 19, 20, 21, 22, 23, 24, 25, 26, 27, 28, 29, 30, 31, 32, 33, 34, 35, 36, 37, 38, 39, 40, 41, 42, 43, 44, 45, 46, 47] rfl (by decide +kernel)) (goodIn_sub (fun _ h => List.mem_cons_of_mem _ (List.mem_append_right _ h)) (by decide +kernel))
set_option maxRecDepth 20000 in
theorem gL_undo_X5_undo : GoodIn wsL_undo (wsV RL 69 RX5 yX5_undo wsX5_undo) := goodIn_app (goodIn_of _ (by decide +kernel)) ggL_undo_X5_undo
theorem dL_undo_0 : decode cL_undo 0 = .ok (.aload_n 0, 1) := by decide +kernel
theorem dL_undo_1 : decode cL_undo 1 = .ok (.invokevirtual 69, 3) := by decide +kernel
theorem dL_undo_4 : decode cL_undo 4 = .ok (.ireturn, 1) := by decide +kernel
theorem dL_undo_5 : decode cL_undo 5 = .ok (.astore_n 1, 1) := by decide +kernel
theorem dL_undo_6 : decode cL_undo 6 = .ok (.bipush (-103), 2) := by decide +kernel
theorem dL_undo_8 : decode cL_undo 8 = .ok (.ireturn, 1) := by decide +kernel
set_option maxRecDepth 20000 in
theorem ggL_faultPosition_X5_faultPosition : GoodIn wsL_faultPosition wsX5_faultPosition := goodIn_ca (goodIn_r _ [6, 7, 8, 9, 10, 11, 12, 13, 14, 15, 16, 17, 18, 19, 20, 21, 22, 23, 24, 25, 26, 27, 28, 29, 30, 31, 32, 33, 34, 35, 36, 37, 38, 39, 40, 41, 42, 43, 44, 45, 46, 47, 48, 49, 50, 51, 52, 53, 54, 55, 56, 57, 58, 59, 60, 61, 62, 63, 64, 65, 66, 67, 68, 69, 70, 71, 72, 73, 74, 75, 76, 5, 77, 78, 79, 80, 81, 82, 83, 84, 85, 86, 87, 88, 89, 90, 91, 92, 93, 94, 95, 96, 97, 98, 99, 100, 101, 102, 103, 104, 105, 106, 107, 108, 109, 110, 111, 112, 113, 114, 115, 116, 117, 118, 119, 120, 121, 122, 123, 124, 125, 126, 127, 128, 129, 130, 131, 132, 133, 134, 135, 136, 137, 138, 139, 140, 141, 142, 143, 144, 145, 146, 147, 148] rfl (by decide +kernel)) (goodIn_sub (fun _ h => List.mem_cons_of_mem _ (List.mem_append_right _ h)) (by decide +kernel))
set_option maxRecDepth 20000 in
theorem gL_faultPosition_X5_faultPosition : GoodIn wsL_faultPosition (wsV RL 75 RX5 yX5_faultPosition wsX5_faultPosition) := goodIn_app (goodIn_of _ (by decide +kernel)) ggL_faultPosition_X5_faultPosition
theorem dL_faultPosition_0 : decode cL_faultPosition 0 = .ok (.aload_n 0, 1) := by decide +kernel
theorem dL_faultPosition_1 : decode cL_faultPosition 1 = .ok (.invokevirtual 75, 3) := by decide +kernel
theorem dL_faultPosition_4 : decode cL_faultPosition 4 = .ok (.ireturn, 1) := by decide +kernel
theorem dL_faultPosition_5 : decode cL_faultPosition 5 = .ok (.astore_n 1, 1) := by decide +kernel
theorem dL_faultPosition_6 : decode cL_faultPosition 6 = .ok (.bipush (-104), 2) := by decide +kernel
theorem dL_faultPosition_8 : decode cL_faultPosition 8 = .ok (.ireturn, 1) := by decide +kernel
set_option maxRecDepth 20000 in
theorem ggL_faultReason_X5_faultReason : GoodIn wsL_faultReason wsX5_faultReason := goodIn_ca (goodIn_r _ [6, 7, 8, 9, 10, 11, 12, 13, 14, 15, 16, 17, 18, 19, 20, 21, 22, 23, 24, 25, 26, 27, 28, 29, 30, 31, 32, 33, 34, 35, 36, 37, 38, 39, 40, 41, 42, 43, 44, 45, 46, 47, 48, 49, 50, 51, 52, 53, 54, 55, 56, 57, 58, 59, 60, 61, 62, 63, 64, 65, 66, 67, 68, 69, 70, 71, 72, 73, 74, 75, 76, 5, 77, 78, 79, 80, 81, 82, 83, 84, 85, 86, 87, 88, 89, 90, 91, 92, 93, 94, 95, 96, 97, 98, 99, 100, 101, 102, 103, 104, 105, 106, 107, 108, 109, 110, 111, 112, 113, 114, 115, 116, 117, 118, 119, 120, 121, 122, 123, 124, 125, 126, 127, 128, 129, 130, 131, 132, 133, 134, 135, 136, 137, 138, 139, 140, 141, 142, 143, 144, 145, 146, 147, 148] rfl (by decide +kernel)) (goodIn_sub (fun _ h => List.mem_cons_of_mem _ (List.mem_append_right _ h)) (by decide +kernel))
set_option maxRecDepth 20000 in
theorem gL_faultReason_X5_faultReason : GoodIn wsL_faultReason (wsV RL 78 RX5 yX5_faultReason wsX5_faultReason) := goodIn_app (goodIn_of _ (by decide +kernel)) ggL_faultReason_X5_faultReason
theorem dL_faultReason_0 : decode cL_faultReason 0 = .ok (.aload_n 0, 1) := by decide +kernel
theorem dL_faultReason_1 : decode cL_faultReason 1 = .ok (.invokevirtual 78, 3) := by decide +kernel
theorem dL_faultReason_4 : decode cL_faultReason 4 = .ok (.ireturn, 1) := by decide +kernel
theorem dL_faultReason_5 : decode cL_faultReason 5 = .ok (.astore_n 1, 1) := by decide +kernel
theorem dL_faultReason_6 : decode cL_faultReason 6 = .ok (.bipush (-104), 2) := by decide +kernel
theorem dL_faultReason_8 : decode cL_faultReason 8 = .ok (.ireturn, 1) := by decide +kernel
set_option maxRecDepth 20000 in
theorem ggL_faultCause_X5_faultCause : GoodIn wsL_faultCause wsX5_faultCause := goodIn_ca (goodIn_r _ [6, 7, 8, 9, 10, 11, 12, 13, 14, 15, 16, 17, 18, 19, 20, 21, 22, 23, 24, 25, 26, 27, 28, 29, 30, 31, 32, 33, 34, 35, 36, 37, 38, 39, 40, 41, 42, 43, 44, 45, 46, 47, 48, 49, 50, 51, 52, 53, 54, 55, 56, 57, 58, 59, 60, 61, 62, 63, 64, 65, 66, 67, 68, 69, 70, 71, 72, 73, 74, 75, 76, 5, 77, 78, 79, 80, 81, 82, 83, 84, 85, 86, 87, 88, 89, 90, 91, 92, 93, 94, 95, 96, 97, 98, 99, 100, 101, 102, 103, 104, 105, 106, 107, 108, 109, 110, 111, 112, 113, 114, 115, 116, 117, 118, 119, 120, 121, 122, 123, 124, 125, 126, 127, 128, 129, 130, 131, 132, 133, 134, 135, 136, 137, 138, 139, 140, 141, 142, 143, 144, 145, 146, 147, 148] rfl (by decide +kernel)) (goodIn_sub (fun _ h => List.mem_cons_of_mem _ (List.mem_append_right _ h)) (by decide +kernel))
set_option maxRecDepth 20000 in
theorem gL_faultCause_X5_faultCause : GoodIn wsL_faultCause (wsV RL 81 RX5 yX5_faultCause wsX5_faultCause) := goodIn_app (goodIn_of _ (by decide +kernel)) ggL_faultCause_X5_faultCause
theorem dL_faultCause_0 : decode cL_faultCause 0 = .ok (.aload_n 0, 1) := by decide +kernel
theorem dL_faultCause_1 : decode cL_faultCause 1 = .ok (.invokevirtual 81, 3) := by decide +kernel
theorem dL_faultCause_4 : decode cL_faultCause 4 = .ok (.ireturn, 1) := by decide +kernel
theorem dL_faultCause_5 : decode cL_faultCause 5 = .ok (.astore_n 1, 1) := by decide +kernel
theorem dL_faultCause_6 : decode cL_faultCause 6 = .ok (.bipush (-104), 2) := by decide +kernel
theorem dL_faultCause_8 : decode cL_faultCause 8 = .ok (.ireturn, 1) := by decide +kernel
set_option maxRecDepth 20000 in
theorem ggL_play_X5_play : GoodIn wsL_play wsX5_play := goodIn_ca (goodIn_r _ [6, 7, 8, 9, 10, 11, 12, 13, 14, 15, 16, 17, 18, 19, 20, 21, 22, 23, 24, 25, 26, 27, 28, 29, 30, 31, 32, 33, 34, 35, 36, 37, 38, 39, 40, 41, 42, 43, 44, 45, 46, 47, 48, 49, 50, 51, 52, 53, 54, 55, 56, 57, 58, 59, 60, 61, 62, 63, 64, 65, 66, 67, 68, 69, 70, 71, 72, 73, 74, 75, 76, 77, 5, 78, 79, 80, 81, 82, 83, 84, 85, 86, 87, 88, 89, 90, 91, 92, 93, 94, 95, 96, 97, 98, 99, 100, 101, 102, 103, 104, 105, 106, 107, 108, 109, 110, 111, 112, 113, 114, 115, 116, 117, 118, 119, 120, 121, 122, 123, 124, 125, 126, 127, 128, 129, 130, 131, 132, 133, 134, 135, 136, 137, 138, 139, 140, 141, 142, 143, 144, 145, 146, 147, 148, 149, 150, 151, 152, 153, 154, 155, 156, 157, 158, 159, 160, 161, 162, 163, 164] rfl (by decide +kernel)) (goodIn_sub (fun _ h => List.mem_cons_of_mem _ (List.mem_append_right _ h)) (by decide +kernel))
set_option maxRecDepth 20000 in
theorem gL_play_X5_play : GoodIn wsL_play (wsV RL 84 RX5 yX5_play wsX5_play) := goodIn_app (goodIn_of _ (by decide +kernel)) ggL_play_X5_play
theorem dL_play_0 : decode cL_play 0 = .ok (.aload_n 0, 1) := by decide +kernel
theorem dL_play_1 : decode cL_play 1 = .ok (.invokevirtual 84, 3) := by decide +kernel
theorem dL_play_4 : decode cL_play 4 = .ok (.ireturn, 1) := by decide +kernel
theorem dL_play_5 : decode cL_play 5 = .ok (.astore_n 1, 1) := by decide +kernel
theorem dL_play_6 : decode cL_play 6 = .ok (.bipush (-103), 2) := by decide +kernel
theorem dL_play_8 : decode cL_play 8 = .ok (.ireturn, 1) := by decide +kernel
set_option maxRecDepth 20000 in
theorem ggL_timesOf_X5_timesOf : GoodIn wsL_timesOf wsX5_timesOf := goodIn_ca (goodIn_r _ [6, 7, 8, 9, 10, 11, 5, 12, 13, 14, 15, 16, 17, 18, 19, 20, 21, 22, 23, 24, 25, 26, 27, 28] rfl (by decide +kernel)) (goodIn_sub (fun _ h => List.mem_cons_of_mem _ (List.mem_append_right _ h)) (by decide +kernel))
set_option maxRecDepth 20000 in
theorem gL_timesOf_X5_timesOf : GoodIn wsL_timesOf (wsV RL 90 RX5 yX5_timesOf wsX5_timesOf) := goodIn_app (goodIn_of _ (by decide +kernel)) ggL_timesOf_X5_timesOf
theorem dL_timesOf_0 : decode cL_timesOf 0 = .ok (.aload_n 0, 1) := by decide +kernel
theorem dL_timesOf_1 : decode cL_timesOf 1 = .ok (.iload_n 1, 1) := by decide +kernel
theorem dL_timesOf_2 : decode cL_timesOf 2 = .ok (.invokevirtual 90, 3) := by decide +kernel
theorem dL_timesOf_5 : decode cL_timesOf 5 = .ok (.ireturn, 1) := by decide +kernel
theorem dL_timesOf_6 : decode cL_timesOf 6 = .ok (.astore_n 2, 1) := by decide +kernel
theorem dL_timesOf_7 : decode cL_timesOf 7 = .ok (.bipush (-102), 2) := by decide +kernel
theorem dL_timesOf_9 : decode cL_timesOf 9 = .ok (.ireturn, 1) := by decide +kernel
set_option maxRecDepth 20000 in
theorem ggL_divisorsOf_X5_divisorsOf : GoodIn wsL_divisorsOf wsX5_divisorsOf := goodIn_ca (goodIn_r _ [6, 7, 8, 9, 10, 5, 11, 12, 13, 14] rfl (by decide +kernel)) (goodIn_sub (fun _ h => List.mem_cons_of_mem _ (List.mem_append_right _ h)) (by decide +kernel))
set_option maxRecDepth 20000 in
theorem gL_divisorsOf_X5_divisorsOf : GoodIn wsL_divisorsOf (wsV RL 93 RX5 yX5_divisorsOf wsX5_divisorsOf) := goodIn_app (goodIn_of _ (by decide +kernel)) ggL_divisorsOf_X5_divisorsOf
theorem dL_divisorsOf_0 : decode cL_divisorsOf 0 = .ok (.aload_n 0, 1) := by decide +kernel
theorem dL_divisorsOf_1 : decode cL_divisorsOf 1 = .ok (.iload_n 1, 1) := by decide +kernel
theorem dL_divisorsOf_2 : decode cL_divisorsOf 2 = .ok (.invokevirtual 93, 3) := by decide +kernel
theorem dL_divisorsOf_5 : decode cL_divisorsOf 5 = .ok (.ireturn, 1) := by decide +kernel
theorem dL_divisorsOf_6 : decode cL_divisorsOf 6 = .ok (.astore_n 2, 1) := by decide +kernel
theorem dL_divisorsOf_7 : decode cL_divisorsOf 7 = .ok (.bipush (-102), 2) := by decide +kernel
theorem dL_divisorsOf_9 : decode cL_divisorsOf 9 = .ok (.ireturn, 1) := by decide +kernel
theorem dL_ratio_0 : decode cL_ratio 0 = .ok (.iload_n 0, 1) := by decide +kernel
theorem dL_ratio_1 : decode cL_ratio 1 = .ok (.ifCond .ne 5, 3) := by decide +kernel
theorem dL_ratio_4 : decode cL_ratio 4 = .ok (.iconst 0, 1) := by decide +kernel
theorem dL_ratio_5 : decode cL_ratio 5 = .ok (.ireturn, 1) := by decide +kernel
theorem dL_ratio_6 : decode cL_ratio 6 = .ok (.iload_n 0, 1) := by decide +kernel
theorem dL_ratio_7 : decode cL_ratio 7 = .ok (.i2l, 1) := by decide +kernel
theorem dL_ratio_8 : decode cL_ratio 8 = .ok (.lstore_n 1, 1) := by decide +kernel
theorem dL_ratio_9 : decode cL_ratio 9 = .ok (.sipush 150, 3) := by decide +kernel
theorem dL_ratio_12 : decode cL_ratio 12 = .ok (.istore_n 3, 1) := by decide +kernel
theorem dL_ratio_13 : decode cL_ratio 13 = .ok (.lload_n 1, 1) := by decide +kernel
theorem dL_ratio_14 : decode cL_ratio 14 = .ok (.ldc2_w 96, 3) := by decide +kernel
theorem dL_ratio_17 : decode cL_ratio 17 = .ok (.lcmp, 1) := by decide +kernel
theorem dL_ratio_18 : decode cL_ratio 18 = .ok (.ifCond .ge 15, 3) := by decide +kernel
theorem dL_ratio_21 : decode cL_ratio 21 = .ok (.lload_n 1, 1) := by decide +kernel
theorem dL_ratio_22 : decode cL_ratio 22 = .ok (.ldc2_w 98, 3) := by decide +kernel
theorem dL_ratio_25 : decode cL_ratio 25 = .ok (.lmul, 1) := by decide +kernel
theorem dL_ratio_26 : decode cL_ratio 26 = .ok (.lstore_n 1, 1) := by decide +kernel
theorem dL_ratio_27 : decode cL_ratio 27 = .ok (.iinc 3 (-1), 3) := by decide +kernel
theorem dL_ratio_30 : decode cL_ratio 30 = .ok (.goto (-17), 3) := by decide +kernel
theorem dL_ratio_33 : decode cL_ratio 33 = .ok (.lload_n 1, 1) := by decide +kernel
theorem dL_ratio_34 : decode cL_ratio 34 = .ok (.ldc2_w 100, 3) := by decide +kernel
theorem dL_ratio_37 : decode cL_ratio 37 = .ok (.ldiv, 1) := by decide +kernel
theorem dL_ratio_38 : decode cL_ratio 38 = .ok (.lstore 4, 2) := by decide +kernel
theorem dL_ratio_40 : decode cL_ratio 40 = .ok (.lload_n 1, 1) := by decide +kernel
theorem dL_ratio_41 : decode cL_ratio 41 = .ok (.ldc2_w 100, 3) := by decide +kernel
theorem dL_ratio_44 : decode cL_ratio 44 = .ok (.lrem, 1) := by decide +kernel
theorem dL_ratio_45 : decode cL_ratio 45 = .ok (.lstore 6, 2) := by decide +kernel
theorem dL_ratio_47 : decode cL_ratio 47 = .ok (.lload 4, 2) := by decide +kernel
theorem dL_ratio_49 : decode cL_ratio 49 = .ok (.ldc2_w 98, 3) := by decide +kernel
theorem dL_ratio_52 : decode cL_ratio 52 = .ok (.lload 6, 2) := by decide +kernel
theorem dL_ratio_54 : decode cL_ratio 54 = .ok (.lmul, 1) := by decide +kernel
theorem dL_ratio_55 : decode cL_ratio 55 = .ok (.ldc2_w 100, 3) := by decide +kernel
theorem dL_ratio_58 : decode cL_ratio 58 = .ok (.lcmp, 1) := by decide +kernel
theorem dL_ratio_59 : decode cL_ratio 59 = .ok (.ifCond .gt 27, 3) := by decide +kernel
theorem dL_ratio_62 : decode cL_ratio 62 = .ok (.ldc2_w 98, 3) := by decide +kernel
theorem dL_ratio_65 : decode cL_ratio 65 = .ok (.lload 6, 2) := by decide +kernel
theorem dL_ratio_67 : decode cL_ratio 67 = .ok (.lmul, 1) := by decide +kernel
theorem dL_ratio_68 : decode cL_ratio 68 = .ok (.ldc2_w 100, 3) := by decide +kernel
theorem dL_ratio_71 : decode cL_ratio 71 = .ok (.lcmp, 1) := by decide +kernel
theorem dL_ratio_72 : decode cL_ratio 72 = .ok (.ifCond .ne 18, 3) := by decide +kernel
theorem dL_ratio_75 : decode cL_ratio 75 = .ok (.lload 4, 2) := by decide +kernel
theorem dL_ratio_77 : decode cL_ratio 77 = .ok (.ldc2_w 98, 3) := by decide +kernel
theorem dL_ratio_80 : decode cL_ratio 80 = .ok (.lrem, 1) := by decide +kernel
theorem dL_ratio_81 : decode cL_ratio 81 = .ok (.lconst 1, 1) := by decide +kernel
theorem dL_ratio_82 : decode cL_ratio 82 = .ok (.lcmp, 1) := by decide +kernel
theorem dL_ratio_83 : decode cL_ratio 83 = .ok (.ifCond .ne 7, 3) := by decide +kernel
theorem dL_ratio_86 : decode cL_ratio 86 = .ok (.lconst 1, 1) := by decide +kernel
theorem dL_ratio_87 : decode cL_ratio 87 = .ok (.goto 4, 3) := by decide +kernel
theorem dL_ratio_90 : decode cL_ratio 90 = .ok (.lconst 0, 1) := by decide +kernel
theorem dL_ratio_91 : decode cL_ratio 91 = .ok (.ladd, 1) := by decide +kernel
theorem dL_ratio_92 : decode cL_ratio 92 = .ok (.lstore 4, 2) := by decide +kernel
theorem dL_ratio_94 : decode cL_ratio 94 = .ok (.iload_n 3, 1) := by decide +kernel
theorem dL_ratio_95 : decode cL_ratio 95 = .ok (.bipush 23, 2) := by decide +kernel
theorem dL_ratio_97 : decode cL_ratio 97 = .ok (.ishl, 1) := by decide +kernel
theorem dL_ratio_98 : decode cL_ratio 98 = .ok (.lload 4, 2) := by decide +kernel
theorem dL_ratio_100 : decode cL_ratio 100 = .ok (.ldc2_w 102, 3) := by decide +kernel
theorem dL_ratio_103 : decode cL_ratio 103 = .ok (.lsub, 1) := by decide +kernel
theorem dL_ratio_104 : decode cL_ratio 104 = .ok (.l2i, 1) := by decide +kernel
theorem dL_ratio_105 : decode cL_ratio 105 = .ok (.iadd, 1) := by decide +kernel
theorem dL_ratio_106 : decode cL_ratio 106 = .ok (.ireturn, 1) := by decide +kernel
theorem dL_bits_0 : decode cL_bits 0 = .ok (.iload_n 2, 1) := by decide +kernel
theorem dL_bits_1 : decode cL_bits 1 = .ok (.i2l, 1) := by decide +kernel
theorem dL_bits_2 : decode cL_bits 2 = .ok (.ldc2_w 104, 3) := by decide +kernel
theorem dL_bits_5 : decode cL_bits 5 = .ok (.ladd, 1) := by decide +kernel
theorem dL_bits_6 : decode cL_bits 6 = .ok (.bipush 52, 2) := by decide +kernel
theorem dL_bits_8 : decode cL_bits 8 = .ok (.lshl, 1) := by decide +kernel
theorem dL_bits_9 : decode cL_bits 9 = .ok (.lload_n 0, 1) := by decide +kernel
theorem dL_bits_10 : decode cL_bits 10 = .ok (.ldc2_w 106, 3) := by decide +kernel
theorem dL_bits_13 : decode cL_bits 13 = .ok (.lsub, 1) := by decide +kernel
theorem dL_bits_14 : decode cL_bits 14 = .ok (.ladd, 1) := by decide +kernel
theorem dL_bits_15 : decode cL_bits 15 = .ok (.lreturn, 1) := by decide +kernel
set_option maxRecDepth 20000 in
theorem ggL_parts_L_bits : GoodIn wsL_parts wsL_bits := goodIn_r _ [8, 9, 4] rfl (by decide +kernel)
set_option maxRecDepth 20000 in
theorem gL_parts_L_bits : GoodIn wsL_parts (va_wsS RL 112 yL_bits wsL_bits) := goodIn_app (goodIn_of _ (by decide +kernel)) ggL_parts_L_bits
theorem dL_parts_0 : decode cL_parts 0 = .ok (.lconst 0, 1) := by decide +kernel
theorem dL_parts_1 : decode cL_parts 1 = .ok (.lstore_n 2, 1) := by decide +kernel
theorem dL_parts_2 : decode cL_parts 2 = .ok (.iconst 0, 1) := by decide +kernel
theorem dL_parts_3 : decode cL_parts 3 = .ok (.istore 4, 2) := by decide +kernel
theorem dL_parts_5 : decode cL_parts 5 = .ok (.iconst 1, 1) := by decide +kernel
theorem dL_parts_6 : decode cL_parts 6 = .ok (.istore 5, 2) := by decide +kernel
theorem dL_parts_8 : decode cL_parts 8 = .ok (.iload 5, 2) := by decide +kernel
theorem dL_parts_10 : decode cL_parts 10 = .ok (.bipush 49, 2) := by decide +kernel
theorem dL_parts_12 : decode cL_parts 12 = .ok (.if_icmp .ge 236, 3) := by decide +kernel
theorem dL_parts_15 : decode cL_parts 15 = .ok (.lload_n 0, 1) := by decide +kernel
theorem dL_parts_16 : decode cL_parts 16 = .ok (.iload 5, 2) := by decide +kernel
theorem dL_parts_18 : decode cL_parts 18 = .ok (.lshr, 1) := by decide +kernel
theorem dL_parts_19 : decode cL_parts 19 = .ok (.lconst 1, 1) := by decide +kernel
theorem dL_parts_20 : decode cL_parts 20 = .ok (.land, 1) := by decide +kernel
theorem dL_parts_21 : decode cL_parts 21 = .ok (.lconst 1, 1) := by decide +kernel
theorem dL_parts_22 : decode cL_parts 22 = .ok (.lcmp, 1) := by decide +kernel
theorem dL_parts_23 : decode cL_parts 23 = .ok (.ifCond .ne 219, 3) := by decide +kernel
theorem dL_parts_26 : decode cL_parts 26 = .ok (.iconst 0, 1) := by decide +kernel
theorem dL_parts_27 : decode cL_parts 27 = .ok (.istore 6, 2) := by decide +kernel
theorem dL_parts_29 : decode cL_parts 29 = .ok (.lconst 1, 1) := by decide +kernel
theorem dL_parts_30 : decode cL_parts 30 = .ok (.iload 6, 2) := by decide +kernel
theorem dL_parts_32 : decode cL_parts 32 = .ok (.ineg, 1) := by decide +kernel
theorem dL_parts_33 : decode cL_parts 33 = .ok (.lshl, 1) := by decide +kernel
theorem dL_parts_34 : decode cL_parts 34 = .ok (.iload 5, 2) := by decide +kernel
theorem dL_parts_36 : decode cL_parts 36 = .ok (.i2l, 1) := by decide +kernel
theorem dL_parts_37 : decode cL_parts 37 = .ok (.lcmp, 1) := by decide +kernel
theorem dL_parts_38 : decode cL_parts 38 = .ok (.ifCond .ge 9, 3) := by decide +kernel
theorem dL_parts_41 : decode cL_parts 41 = .ok (.iinc 6 (-1), 3) := by decide +kernel
theorem dL_parts_44 : decode cL_parts 44 = .ok (.goto (-15), 3) := by decide +kernel
theorem dL_parts_47 : decode cL_parts 47 = .ok (.lconst 1, 1) := by decide +kernel
theorem dL_parts_48 : decode cL_parts 48 = .ok (.bipush 52, 2) := by decide +kernel
theorem dL_parts_50 : decode cL_parts 50 = .ok (.iload 6, 2) := by decide +kernel
theorem dL_parts_52 : decode cL_parts 52 = .ok (.isub, 1) := by decide +kernel
theorem dL_parts_53 : decode cL_parts 53 = .ok (.lshl, 1) := by decide +kernel
theorem dL_parts_54 : decode cL_parts 54 = .ok (.lstore 7, 2) := by decide +kernel
theorem dL_parts_56 : decode cL_parts 56 = .ok (.lload 7, 2) := by decide +kernel
theorem dL_parts_58 : decode cL_parts 58 = .ok (.iload 5, 2) := by decide +kernel
theorem dL_parts_60 : decode cL_parts 60 = .ok (.i2l, 1) := by decide +kernel
theorem dL_parts_61 : decode cL_parts 61 = .ok (.ldiv, 1) := by decide +kernel
theorem dL_parts_62 : decode cL_parts 62 = .ok (.ldc2_w 98, 3) := by decide +kernel
theorem dL_parts_65 : decode cL_parts 65 = .ok (.lload 7, 2) := by decide +kernel
theorem dL_parts_67 : decode cL_parts 67 = .ok (.iload 5, 2) := by decide +kernel
theorem dL_parts_69 : decode cL_parts 69 = .ok (.i2l, 1) := by decide +kernel
theorem dL_parts_70 : decode cL_parts 70 = .ok (.lrem, 1) := by decide +kernel
theorem dL_parts_71 : decode cL_parts 71 = .ok (.lmul, 1) := by decide +kernel
theorem dL_parts_72 : decode cL_parts 72 = .ok (.iload 5, 2) := by decide +kernel
theorem dL_parts_74 : decode cL_parts 74 = .ok (.i2l, 1) := by decide +kernel
theorem dL_parts_75 : decode cL_parts 75 = .ok (.lcmp, 1) := by decide +kernel
theorem dL_parts_76 : decode cL_parts 76 = .ok (.ifCond .le 7, 3) := by decide +kernel
theorem dL_parts_79 : decode cL_parts 79 = .ok (.lconst 1, 1) := by decide +kernel
theorem dL_parts_80 : decode cL_parts 80 = .ok (.goto 4, 3) := by decide +kernel
theorem dL_parts_83 : decode cL_parts 83 = .ok (.lconst 0, 1) := by decide +kernel
theorem dL_parts_84 : decode cL_parts 84 = .ok (.ladd, 1) := by decide +kernel
theorem dL_parts_85 : decode cL_parts 85 = .ok (.lstore 9, 2) := by decide +kernel
theorem dL_parts_87 : decode cL_parts 87 = .ok (.lload_n 2, 1) := by decide +kernel
theorem dL_parts_88 : decode cL_parts 88 = .ok (.lconst 0, 1) := by decide +kernel
theorem dL_parts_89 : decode cL_parts 89 = .ok (.lcmp, 1) := by decide +kernel
theorem dL_parts_90 : decode cL_parts 90 = .ok (.ifCond .ne 13, 3) := by decide +kernel
theorem dL_parts_93 : decode cL_parts 93 = .ok (.lload 9, 2) := by decide +kernel
theorem dL_parts_95 : decode cL_parts 95 = .ok (.lstore_n 2, 1) := by decide +kernel
theorem dL_parts_96 : decode cL_parts 96 = .ok (.iload 6, 2) := by decide +kernel
theorem dL_parts_98 : decode cL_parts 98 = .ok (.istore 4, 2) := by decide +kernel
theorem dL_parts_100 : decode cL_parts 100 = .ok (.goto 142, 3) := by decide +kernel
theorem dL_parts_103 : decode cL_parts 103 = .ok (.lload_n 2, 1) := by decide +kernel
theorem dL_parts_104 : decode cL_parts 104 = .ok (.bipush 9, 2) := by decide +kernel
theorem dL_parts_106 : decode cL_parts 106 = .ok (.lshl, 1) := by decide +kernel
theorem dL_parts_107 : decode cL_parts 107 = .ok (.lload 9, 2) := by decide +kernel
theorem dL_parts_109 : decode cL_parts 109 = .ok (.bipush 9, 2) := by decide +kernel
theorem dL_parts_111 : decode cL_parts 111 = .ok (.iload 4, 2) := by decide +kernel
theorem dL_parts_113 : decode cL_parts 113 = .ok (.iload 6, 2) := by decide +kernel
theorem dL_parts_115 : decode cL_parts 115 = .ok (.isub, 1) := by decide +kernel
theorem dL_parts_116 : decode cL_parts 116 = .ok (.isub, 1) := by decide +kernel
theorem dL_parts_117 : decode cL_parts 117 = .ok (.lshl, 1) := by decide +kernel
theorem dL_parts_118 : decode cL_parts 118 = .ok (.ladd, 1) := by decide +kernel
theorem dL_parts_119 : decode cL_parts 119 = .ok (.lstore 11, 2) := by decide +kernel
theorem dL_parts_121 : decode cL_parts 121 = .ok (.lload 11, 2) := by decide +kernel
theorem dL_parts_123 : decode cL_parts 123 = .ok (.ldc2_w 108, 3) := by decide +kernel
theorem dL_parts_126 : decode cL_parts 126 = .ok (.lcmp, 1) := by decide +kernel
theorem dL_parts_127 : decode cL_parts 127 = .ok (.ifCond .ge 8, 3) := by decide +kernel
theorem dL_parts_130 : decode cL_parts 130 = .ok (.bipush 9, 2) := by decide +kernel
theorem dL_parts_132 : decode cL_parts 132 = .ok (.goto 5, 3) := by decide +kernel
theorem dL_parts_135 : decode cL_parts 135 = .ok (.bipush 10, 2) := by decide +kernel
theorem dL_parts_137 : decode cL_parts 137 = .ok (.istore 13, 2) := by decide +kernel
theorem dL_parts_139 : decode cL_parts 139 = .ok (.lload 11, 2) := by decide +kernel
theorem dL_parts_141 : decode cL_parts 141 = .ok (.lconst 1, 1) := by decide +kernel
theorem dL_parts_142 : decode cL_parts 142 = .ok (.iload 13, 2) := by decide +kernel
theorem dL_parts_144 : decode cL_parts 144 = .ok (.lshl, 1) := by decide +kernel
theorem dL_parts_145 : decode cL_parts 145 = .ok (.lconst 1, 1) := by decide +kernel
theorem dL_parts_146 : decode cL_parts 146 = .ok (.lsub, 1) := by decide +kernel
theorem dL_parts_147 : decode cL_parts 147 = .ok (.land, 1) := by decide +kernel
theorem dL_parts_148 : decode cL_parts 148 = .ok (.lstore 14, 2) := by decide +kernel
theorem dL_parts_150 : decode cL_parts 150 = .ok (.lload 11, 2) := by decide +kernel
theorem dL_parts_152 : decode cL_parts 152 = .ok (.iload 13, 2) := by decide +kernel
theorem dL_parts_154 : decode cL_parts 154 = .ok (.lshr, 1) := by decide +kernel
theorem dL_parts_155 : decode cL_parts 155 = .ok (.lstore_n 2, 1) := by decide +kernel
theorem dL_parts_156 : decode cL_parts 156 = .ok (.iload 4, 2) := by decide +kernel
theorem dL_parts_158 : decode cL_parts 158 = .ok (.iload 13, 2) := by decide +kernel
theorem dL_parts_160 : decode cL_parts 160 = .ok (.bipush 9, 2) := by decide +kernel
theorem dL_parts_162 : decode cL_parts 162 = .ok (.isub, 1) := by decide +kernel
theorem dL_parts_163 : decode cL_parts 163 = .ok (.iadd, 1) := by decide +kernel
theorem dL_parts_164 : decode cL_parts 164 = .ok (.istore 4, 2) := by decide +kernel
theorem dL_parts_166 : decode cL_parts 166 = .ok (.lload_n 2, 1) := by decide +kernel
theorem dL_parts_167 : decode cL_parts 167 = .ok (.lload 14, 2) := by decide +kernel
theorem dL_parts_169 : decode cL_parts 169 = .ok (.lconst 1, 1) := by decide +kernel
theorem dL_parts_170 : decode cL_parts 170 = .ok (.iload 13, 2) := by decide +kernel
theorem dL_parts_172 : decode cL_parts 172 = .ok (.iconst 1, 1) := by decide +kernel
theorem dL_parts_173 : decode cL_parts 173 = .ok (.isub, 1) := by decide +kernel
theorem dL_parts_174 : decode cL_parts 174 = .ok (.lshl, 1) := by decide +kernel
theorem dL_parts_175 : decode cL_parts 175 = .ok (.lcmp, 1) := by decide +kernel
theorem dL_parts_176 : decode cL_parts 176 = .ok (.ifCond .gt 25, 3) := by decide +kernel
theorem dL_parts_179 : decode cL_parts 179 = .ok (.lload 14, 2) := by decide +kernel
theorem dL_parts_181 : decode cL_parts 181 = .ok (.lconst 1, 1) := by decide +kernel
theorem dL_parts_182 : decode cL_parts 182 = .ok (.iload 13, 2) := by decide +kernel
theorem dL_parts_184 : decode cL_parts 184 = .ok (.iconst 1, 1) := by decide +kernel
theorem dL_parts_185 : decode cL_parts 185 = .ok (.isub, 1) := by decide +kernel
theorem dL_parts_186 : decode cL_parts 186 = .ok (.lshl, 1) := by decide +kernel
theorem dL_parts_187 : decode cL_parts 187 = .ok (.lcmp, 1) := by decide +kernel
theorem dL_parts_188 : decode cL_parts 188 = .ok (.ifCond .ne 17, 3) := by decide +kernel
theorem dL_parts_191 : decode cL_parts 191 = .ok (.lload_n 2, 1) := by decide +kernel
theorem dL_parts_192 : decode cL_parts 192 = .ok (.ldc2_w 98, 3) := by decide +kernel
theorem dL_parts_195 : decode cL_parts 195 = .ok (.lrem, 1) := by decide +kernel
theorem dL_parts_196 : decode cL_parts 196 = .ok (.lconst 1, 1) := by decide +kernel
theorem dL_parts_197 : decode cL_parts 197 = .ok (.lcmp, 1) := by decide +kernel
theorem dL_parts_198 : decode cL_parts 198 = .ok (.ifCond .ne 7, 3) := by decide +kernel
theorem dL_parts_201 : decode cL_parts 201 = .ok (.lconst 1, 1) := by decide +kernel
theorem dL_parts_202 : decode cL_parts 202 = .ok (.goto 4, 3) := by decide +kernel
theorem dL_parts_205 : decode cL_parts 205 = .ok (.lconst 0, 1) := by decide +kernel
theorem dL_parts_206 : decode cL_parts 206 = .ok (.ladd, 1) := by decide +kernel
theorem dL_parts_207 : decode cL_parts 207 = .ok (.lstore_n 2, 1) := by decide +kernel
theorem dL_parts_208 : decode cL_parts 208 = .ok (.iload 4, 2) := by decide +kernel
theorem dL_parts_210 : decode cL_parts 210 = .ok (.lload_n 2, 1) := by decide +kernel
theorem dL_parts_211 : decode cL_parts 211 = .ok (.ldc2_w 110, 3) := by decide +kernel
theorem dL_parts_214 : decode cL_parts 214 = .ok (.lcmp, 1) := by decide +kernel
theorem dL_parts_215 : decode cL_parts 215 = .ok (.ifCond .ne 7, 3) := by decide +kernel
theorem dL_parts_218 : decode cL_parts 218 = .ok (.iconst 1, 1) := by decide +kernel
theorem dL_parts_219 : decode cL_parts 219 = .ok (.goto 4, 3) := by decide +kernel
theorem dL_parts_222 : decode cL_parts 222 = .ok (.iconst 0, 1) := by decide +kernel
theorem dL_parts_223 : decode cL_parts 223 = .ok (.iadd, 1) := by decide +kernel
theorem dL_parts_224 : decode cL_parts 224 = .ok (.istore 4, 2) := by decide +kernel
theorem dL_parts_226 : decode cL_parts 226 = .ok (.lload_n 2, 1) := by decide +kernel
theorem dL_parts_227 : decode cL_parts 227 = .ok (.ldc2_w 110, 3) := by decide +kernel
theorem dL_parts_230 : decode cL_parts 230 = .ok (.lcmp, 1) := by decide +kernel
theorem dL_parts_231 : decode cL_parts 231 = .ok (.ifCond .ne 9, 3) := by decide +kernel
theorem dL_parts_234 : decode cL_parts 234 = .ok (.ldc2_w 106, 3) := by decide +kernel
theorem dL_parts_237 : decode cL_parts 237 = .ok (.goto 4, 3) := by decide +kernel
theorem dL_parts_240 : decode cL_parts 240 = .ok (.lload_n 2, 1) := by decide +kernel
theorem dL_parts_241 : decode cL_parts 241 = .ok (.lstore_n 2, 1) := by decide +kernel
theorem dL_parts_242 : decode cL_parts 242 = .ok (.iinc 5 1, 3) := by decide +kernel
theorem dL_parts_245 : decode cL_parts 245 = .ok (.goto (-237), 3) := by decide +kernel
theorem dL_parts_248 : decode cL_parts 248 = .ok (.lload_n 2, 1) := by decide +kernel
theorem dL_parts_249 : decode cL_parts 249 = .ok (.lconst 0, 1) := by decide +kernel
theorem dL_parts_250 : decode cL_parts 250 = .ok (.lcmp, 1) := by decide +kernel
theorem dL_parts_251 : decode cL_parts 251 = .ok (.ifCond .ne 7, 3) := by decide +kernel
theorem dL_parts_254 : decode cL_parts 254 = .ok (.lconst 0, 1) := by decide +kernel
theorem dL_parts_255 : decode cL_parts 255 = .ok (.goto 9, 3) := by decide +kernel
theorem dL_parts_258 : decode cL_parts 258 = .ok (.lload_n 2, 1) := by decide +kernel
theorem dL_parts_259 : decode cL_parts 259 = .ok (.iload 4, 2) := by decide +kernel
theorem dL_parts_261 : decode cL_parts 261 = .ok (.invokestatic 112, 3) := by decide +kernel
theorem dL_parts_264 : decode cL_parts 264 = .ok (.lreturn, 1) := by decide +kernel
set_option maxRecDepth 20000 in
theorem ggL_look_X5_openSet : GoodIn wsL_look wsX5_openSet := goodIn_r _ [8, 9, 55, 56, 57, 58, 59, 60, 61, 62, 63, 64, 65, 66, 67] rfl (by decide +kernel)
set_option maxRecDepth 20000 in
theorem gL_look_X5_openSet : GoodIn wsL_look (wsV RL 120 RX5 yX5_openSet wsX5_openSet) := goodIn_app (goodIn_of _ (by decide +kernel)) ggL_look_X5_openSet
set_option maxRecDepth 20000 in
theorem ggL_look_X5_turnsOf : GoodIn wsL_look wsX5_turnsOf := goodIn_ca (goodIn_r _ [13, 14, 15, 9, 16, 17, 7, 18, 19, 20, 21, 55, 56, 57, 58, 59, 60, 61, 62, 63, 64, 65, 66, 67] rfl (by decide +kernel)) (goodIn_sub (fun _ h => List.mem_cons_of_mem _ (List.mem_append_left _ (List.mem_append_right _ h))) (by decide +kernel))
set_option maxRecDepth 20000 in
theorem gL_look_X5_turnsOf : GoodIn wsL_look (wsV RL 87 RX5 yX5_turnsOf wsX5_turnsOf) := goodIn_app (goodIn_of _ (by decide +kernel)) ggL_look_X5_turnsOf
set_option maxRecDepth 20000 in
theorem ggL_look_X5_timesOf : GoodIn wsL_look wsX5_timesOf := goodIn_ca (goodIn_r _ [25, 14, 15, 9, 16, 17, 7, 18, 19, 20, 21, 55, 56, 57, 58, 59, 60, 61, 62, 63, 64, 65, 66, 67] rfl (by decide +kernel)) (goodIn_sub (fun _ h => List.mem_cons_of_mem _ (List.mem_append_left _ (List.mem_append_right _ h))) (by decide +kernel))
set_option maxRecDepth 20000 in
theorem gL_look_X5_timesOf : GoodIn wsL_look (wsV RL 90 RX5 yX5_timesOf wsX5_timesOf) := goodIn_app (goodIn_of _ (by decide +kernel)) ggL_look_X5_timesOf
set_option maxRecDepth 20000 in
theorem ggL_look_L_thingAt : GoodIn wsL_look wsL_thingAt := goodIn_ca (goodIn_ca (goodIn_r _ [29, 30, 31, 32, 33, 34, 7, 35, 14, 15, 36, 37, 9, 16, 17, 18, 38, 39, 40, 41, 42, 43, 44, 45, 46, 55, 56, 57, 58, 59, 60, 61, 62, 63, 64, 65, 66, 67] rfl (by decide +kernel)) (goodIn_sub (fun _ h => List.mem_cons_of_mem _ (List.mem_append_left _ (List.mem_append_right _ h))) (by decide +kernel))) (goodIn_sub (fun _ h => List.mem_cons_of_mem _ (List.mem_append_right _ h)) (by decide +kernel))
set_option maxRecDepth 20000 in
theorem gL_look_L_thingAt : GoodIn wsL_look (va_wsS RL 126 yL_thingAt wsL_thingAt) := goodIn_app (goodIn_of _ (by decide +kernel)) ggL_look_L_thingAt
set_option maxRecDepth 20000 in
theorem ggL_look_X5_isLocked : GoodIn wsL_look wsX5_isLocked := goodIn_ca (goodIn_r _ [50, 14, 15, 9, 16, 17, 7, 18, 38, 39, 40, 55, 56, 57, 58, 59, 60, 61, 62, 63, 64, 65, 66, 67] rfl (by decide +kernel)) (goodIn_sub (fun _ h => List.mem_cons_of_mem _ (List.mem_append_left _ (List.mem_append_right _ h))) (by decide +kernel))
set_option maxRecDepth 20000 in
theorem gL_look_X5_isLocked : GoodIn wsL_look (wsV RL 42 RX5 yX5_isLocked wsX5_isLocked) := goodIn_app (goodIn_of _ (by decide +kernel)) ggL_look_X5_isLocked
set_option maxRecDepth 20000 in
theorem ggL_look_X5_isSkipped : GoodIn wsL_look wsX5_isSkipped := goodIn_ca (goodIn_r _ [54, 14, 15, 9, 16, 17, 7, 18, 38, 39, 40, 55, 56, 57, 58, 59, 60, 61, 62, 63, 64, 65, 66, 67] rfl (by decide +kernel)) (goodIn_sub (fun _ h => List.mem_cons_of_mem _ (List.mem_append_left _ (List.mem_append_right _ h))) (by decide +kernel))
set_option maxRecDepth 20000 in
theorem gL_look_X5_isSkipped : GoodIn wsL_look (wsV RL 45 RX5 yX5_isSkipped wsX5_isSkipped) := goodIn_app (goodIn_of _ (by decide +kernel)) ggL_look_X5_isSkipped
theorem dL_look_0 : decode cL_look 0 = .ok (.ldc2_w 118, 3) := by decide +kernel
theorem dL_look_3 : decode cL_look 3 = .ok (.aload_n 0, 1) := by decide +kernel
theorem dL_look_4 : decode cL_look 4 = .ok (.invokevirtual 120, 3) := by decide +kernel
theorem dL_look_7 : decode cL_look 7 = .ok (.ladd, 1) := by decide +kernel
theorem dL_look_8 : decode cL_look 8 = .ok (.lstore_n 1, 1) := by decide +kernel
theorem dL_look_9 : decode cL_look 9 = .ok (.iconst 1, 1) := by decide +kernel
theorem dL_look_10 : decode cL_look 10 = .ok (.istore_n 3, 1) := by decide +kernel
theorem dL_look_11 : decode cL_look 11 = .ok (.iload_n 3, 1) := by decide +kernel
theorem dL_look_12 : decode cL_look 12 = .ok (.bipush 49, 2) := by decide +kernel
theorem dL_look_14 : decode cL_look 14 = .ok (.if_icmp .ge 80, 3) := by decide +kernel
theorem dL_look_17 : decode cL_look 17 = .ok (.ldc2_w 124, 3) := by decide +kernel
theorem dL_look_20 : decode cL_look 20 = .ok (.ldc2_w 124, 3) := by decide +kernel
theorem dL_look_23 : decode cL_look 23 = .ok (.ldc2_w 124, 3) := by decide +kernel
theorem dL_look_26 : decode cL_look 26 = .ok (.lload_n 1, 1) := by decide +kernel
theorem dL_look_27 : decode cL_look 27 = .ok (.lmul, 1) := by decide +kernel
theorem dL_look_28 : decode cL_look 28 = .ok (.aload_n 0, 1) := by decide +kernel
theorem dL_look_29 : decode cL_look 29 = .ok (.iload_n 3, 1) := by decide +kernel
theorem dL_look_30 : decode cL_look 30 = .ok (.invokevirtual 87, 3) := by decide +kernel
theorem dL_look_33 : decode cL_look 33 = .ok (.i2l, 1) := by decide +kernel
theorem dL_look_34 : decode cL_look 34 = .ok (.ladd, 1) := by decide +kernel
theorem dL_look_35 : decode cL_look 35 = .ok (.lmul, 1) := by decide +kernel
theorem dL_look_36 : decode cL_look 36 = .ok (.aload_n 0, 1) := by decide +kernel
theorem dL_look_37 : decode cL_look 37 = .ok (.iload_n 3, 1) := by decide +kernel
theorem dL_look_38 : decode cL_look 38 = .ok (.invokevirtual 90, 3) := by decide +kernel
theorem dL_look_41 : decode cL_look 41 = .ok (.i2l, 1) := by decide +kernel
theorem dL_look_42 : decode cL_look 42 = .ok (.ladd, 1) := by decide +kernel
theorem dL_look_43 : decode cL_look 43 = .ok (.lmul, 1) := by decide +kernel
theorem dL_look_44 : decode cL_look 44 = .ok (.aload_n 0, 1) := by decide +kernel
theorem dL_look_45 : decode cL_look 45 = .ok (.iload_n 3, 1) := by decide +kernel
theorem dL_look_46 : decode cL_look 46 = .ok (.invokestatic 126, 3) := by decide +kernel
theorem dL_look_49 : decode cL_look 49 = .ok (.i2l, 1) := by decide +kernel
theorem dL_look_50 : decode cL_look 50 = .ok (.ladd, 1) := by decide +kernel
theorem dL_look_51 : decode cL_look 51 = .ok (.lstore_n 1, 1) := by decide +kernel
theorem dL_look_52 : decode cL_look 52 = .ok (.ldc2_w 129, 3) := by decide +kernel
theorem dL_look_55 : decode cL_look 55 = .ok (.lload_n 1, 1) := by decide +kernel
theorem dL_look_56 : decode cL_look 56 = .ok (.lmul, 1) := by decide +kernel
theorem dL_look_57 : decode cL_look 57 = .ok (.aload_n 0, 1) := by decide +kernel
theorem dL_look_58 : decode cL_look 58 = .ok (.iload_n 3, 1) := by decide +kernel
theorem dL_look_59 : decode cL_look 59 = .ok (.invokevirtual 42, 3) := by decide +kernel
theorem dL_look_62 : decode cL_look 62 = .ok (.ifCond .eq 7, 3) := by decide +kernel
theorem dL_look_65 : decode cL_look 65 = .ok (.iconst 1, 1) := by decide +kernel
theorem dL_look_66 : decode cL_look 66 = .ok (.goto 4, 3) := by decide +kernel
theorem dL_look_69 : decode cL_look 69 = .ok (.iconst 0, 1) := by decide +kernel
theorem dL_look_70 : decode cL_look 70 = .ok (.i2l, 1) := by decide +kernel
theorem dL_look_71 : decode cL_look 71 = .ok (.ladd, 1) := by decide +kernel
theorem dL_look_72 : decode cL_look 72 = .ok (.aload_n 0, 1) := by decide +kernel
theorem dL_look_73 : decode cL_look 73 = .ok (.iload_n 3, 1) := by decide +kernel
theorem dL_look_74 : decode cL_look 74 = .ok (.invokevirtual 45, 3) := by decide +kernel
theorem dL_look_77 : decode cL_look 77 = .ok (.ifCond .eq 7, 3) := by decide +kernel
theorem dL_look_80 : decode cL_look 80 = .ok (.iconst 2, 1) := by decide +kernel
theorem dL_look_81 : decode cL_look 81 = .ok (.goto 4, 3) := by decide +kernel
theorem dL_look_84 : decode cL_look 84 = .ok (.iconst 0, 1) := by decide +kernel
theorem dL_look_85 : decode cL_look 85 = .ok (.i2l, 1) := by decide +kernel
theorem dL_look_86 : decode cL_look 86 = .ok (.ladd, 1) := by decide +kernel
theorem dL_look_87 : decode cL_look 87 = .ok (.lstore_n 1, 1) := by decide +kernel
theorem dL_look_88 : decode cL_look 88 = .ok (.iinc 3 1, 3) := by decide +kernel
theorem dL_look_91 : decode cL_look 91 = .ok (.goto (-80), 3) := by decide +kernel
theorem dL_look_94 : decode cL_look 94 = .ok (.lload_n 1, 1) := by decide +kernel
theorem dL_look_95 : decode cL_look 95 = .ok (.lreturn, 1) := by decide +kernel
theorem dL_ones_0 : decode cL_ones 0 = .ok (.iconst 0, 1) := by decide +kernel
theorem dL_ones_1 : decode cL_ones 1 = .ok (.istore_n 2, 1) := by decide +kernel
theorem dL_ones_2 : decode cL_ones 2 = .ok (.lload_n 0, 1) := by decide +kernel
theorem dL_ones_3 : decode cL_ones 3 = .ok (.lstore_n 3, 1) := by decide +kernel
theorem dL_ones_4 : decode cL_ones 4 = .ok (.lload_n 3, 1) := by decide +kernel
theorem dL_ones_5 : decode cL_ones 5 = .ok (.lconst 0, 1) := by decide +kernel
theorem dL_ones_6 : decode cL_ones 6 = .ok (.lcmp, 1) := by decide +kernel
theorem dL_ones_7 : decode cL_ones 7 = .ok (.ifCond .eq 15, 3) := by decide +kernel
theorem dL_ones_10 : decode cL_ones 10 = .ok (.iinc 2 1, 3) := by decide +kernel
theorem dL_ones_13 : decode cL_ones 13 = .ok (.lload_n 3, 1) := by decide +kernel
theorem dL_ones_14 : decode cL_ones 14 = .ok (.lload_n 3, 1) := by decide +kernel
theorem dL_ones_15 : decode cL_ones 15 = .ok (.lconst 1, 1) := by decide +kernel
theorem dL_ones_16 : decode cL_ones 16 = .ok (.lsub, 1) := by decide +kernel
theorem dL_ones_17 : decode cL_ones 17 = .ok (.land, 1) := by decide +kernel
theorem dL_ones_18 : decode cL_ones 18 = .ok (.lstore_n 3, 1) := by decide +kernel
theorem dL_ones_19 : decode cL_ones 19 = .ok (.goto (-15), 3) := by decide +kernel
theorem dL_ones_22 : decode cL_ones 22 = .ok (.iload_n 2, 1) := by decide +kernel
theorem dL_ones_23 : decode cL_ones 23 = .ok (.ireturn, 1) := by decide +kernel
set_option maxRecDepth 20000 in
theorem ggL_locked_X5_isLocked : GoodIn wsL_locked wsX5_isLocked := goodIn_ca (goodIn_r _ [5, 6, 7, 8, 9, 10, 4, 11, 12, 13, 14, 15, 16, 17, 18, 19, 20, 21, 22, 23, 24, 25, 26, 27] rfl (by decide +kernel)) (goodIn_sub (fun _ h => List.mem_cons_of_mem _ (List.mem_append_right _ h)) (by decide +kernel))
set_option maxRecDepth 20000 in
theorem gL_locked_X5_isLocked : GoodIn wsL_locked (wsV RL 42 RX5 yX5_isLocked wsX5_isLocked) := goodIn_app (goodIn_of _ (by decide +kernel)) ggL_locked_X5_isLocked
theorem dL_locked_0 : decode cL_locked 0 = .ok (.lconst 0, 1) := by decide +kernel
theorem dL_locked_1 : decode cL_locked 1 = .ok (.lstore_n 1, 1) := by decide +kernel
theorem dL_locked_2 : decode cL_locked 2 = .ok (.iconst 1, 1) := by decide +kernel
theorem dL_locked_3 : decode cL_locked 3 = .ok (.istore_n 3, 1) := by decide +kernel
theorem dL_locked_4 : decode cL_locked 4 = .ok (.iload_n 3, 1) := by decide +kernel
theorem dL_locked_5 : decode cL_locked 5 = .ok (.bipush 49, 2) := by decide +kernel
theorem dL_locked_7 : decode cL_locked 7 = .ok (.if_icmp .ge 27, 3) := by decide +kernel
theorem dL_locked_10 : decode cL_locked 10 = .ok (.lload_n 1, 1) := by decide +kernel
theorem dL_locked_11 : decode cL_locked 11 = .ok (.aload_n 0, 1) := by decide +kernel
theorem dL_locked_12 : decode cL_locked 12 = .ok (.iload_n 3, 1) := by decide +kernel
theorem dL_locked_13 : decode cL_locked 13 = .ok (.invokevirtual 42, 3) := by decide +kernel
theorem dL_locked_16 : decode cL_locked 16 = .ok (.ifCond .eq 9, 3) := by decide +kernel
theorem dL_locked_19 : decode cL_locked 19 = .ok (.lconst 1, 1) := by decide +kernel
theorem dL_locked_20 : decode cL_locked 20 = .ok (.iload_n 3, 1) := by decide +kernel
theorem dL_locked_21 : decode cL_locked 21 = .ok (.lshl, 1) := by decide +kernel
theorem dL_locked_22 : decode cL_locked 22 = .ok (.goto 4, 3) := by decide +kernel
theorem dL_locked_25 : decode cL_locked 25 = .ok (.lconst 0, 1) := by decide +kernel
theorem dL_locked_26 : decode cL_locked 26 = .ok (.lor, 1) := by decide +kernel
theorem dL_locked_27 : decode cL_locked 27 = .ok (.lstore_n 1, 1) := by decide +kernel
theorem dL_locked_28 : decode cL_locked 28 = .ok (.iinc 3 1, 3) := by decide +kernel
theorem dL_locked_31 : decode cL_locked 31 = .ok (.goto (-27), 3) := by decide +kernel
theorem dL_locked_34 : decode cL_locked 34 = .ok (.lload_n 1, 1) := by decide +kernel
theorem dL_locked_35 : decode cL_locked 35 = .ok (.lreturn, 1) := by decide +kernel
theorem dL_turned_0 : decode cL_turned 0 = .ok (.lconst 0, 1) := by decide +kernel
theorem dL_turned_1 : decode cL_turned 1 = .ok (.lstore_n 1, 1) := by decide +kernel
theorem dL_turned_2 : decode cL_turned 2 = .ok (.iload_n 0, 1) := by decide +kernel
theorem dL_turned_3 : decode cL_turned 3 = .ok (.istore_n 3, 1) := by decide +kernel
theorem dL_turned_4 : decode cL_turned 4 = .ok (.iload_n 3, 1) := by decide +kernel
theorem dL_turned_5 : decode cL_turned 5 = .ok (.bipush 49, 2) := by decide +kernel
theorem dL_turned_7 : decode cL_turned 7 = .ok (.if_icmp .ge 16, 3) := by decide +kernel
theorem dL_turned_10 : decode cL_turned 10 = .ok (.lload_n 1, 1) := by decide +kernel
theorem dL_turned_11 : decode cL_turned 11 = .ok (.lconst 1, 1) := by decide +kernel
theorem dL_turned_12 : decode cL_turned 12 = .ok (.iload_n 3, 1) := by decide +kernel
theorem dL_turned_13 : decode cL_turned 13 = .ok (.lshl, 1) := by decide +kernel
theorem dL_turned_14 : decode cL_turned 14 = .ok (.lor, 1) := by decide +kernel
theorem dL_turned_15 : decode cL_turned 15 = .ok (.lstore_n 1, 1) := by decide +kernel
theorem dL_turned_16 : decode cL_turned 16 = .ok (.iload_n 3, 1) := by decide +kernel
theorem dL_turned_17 : decode cL_turned 17 = .ok (.iload_n 0, 1) := by decide +kernel
theorem dL_turned_18 : decode cL_turned 18 = .ok (.iadd, 1) := by decide +kernel
theorem dL_turned_19 : decode cL_turned 19 = .ok (.istore_n 3, 1) := by decide +kernel
theorem dL_turned_20 : decode cL_turned 20 = .ok (.goto (-16), 3) := by decide +kernel
theorem dL_turned_23 : decode cL_turned 23 = .ok (.lload_n 1, 1) := by decide +kernel
theorem dL_turned_24 : decode cL_turned 24 = .ok (.lreturn, 1) := by decide +kernel
set_option maxRecDepth 20000 in
theorem ggL_holds_X5_openSet : GoodIn wsL_holds wsX5_openSet := goodIn_r _ [8, 9, 242, 243, 244, 245, 246, 247, 248, 249, 250, 251, 252, 253, 254] rfl (by decide +kernel)
set_option maxRecDepth 20000 in
theorem gL_holds_X5_openSet : GoodIn wsL_holds (wsV RL 120 RX5 yX5_openSet wsX5_openSet) := goodIn_app (goodIn_of _ (by decide +kernel)) ggL_holds_X5_openSet
set_option maxRecDepth 20000 in
theorem ggL_holds_L_locked : GoodIn wsL_holds wsL_locked := goodIn_ca (goodIn_r _ [13, 14, 15, 16, 7, 17, 18, 19, 9, 20, 21, 22, 23, 24, 25, 242, 243, 244, 245, 246, 247, 248, 249, 250, 251, 252, 253, 254] rfl (by decide +kernel)) (goodIn_sub (fun _ h => List.mem_cons_of_mem _ (List.mem_append_left _ (List.mem_append_right _ h))) (by decide +kernel))
set_option maxRecDepth 20000 in
theorem gL_holds_L_locked : GoodIn wsL_holds (va_wsS RL 131 yL_locked wsL_locked) := goodIn_app (goodIn_of _ (by decide +kernel)) ggL_holds_L_locked
set_option maxRecDepth 20000 in
theorem ggL_holds_L_ones : GoodIn wsL_holds wsL_ones := goodIn_r _ [28] rfl (by decide +kernel)
set_option maxRecDepth 20000 in
theorem gL_holds_L_ones : GoodIn wsL_holds (va_wsS RL 135 yL_ones wsL_ones) := goodIn_app (goodIn_of _ (by decide +kernel)) ggL_holds_L_ones
set_option maxRecDepth 20000 in
theorem ggL_holds_X5_openDoors : GoodIn wsL_holds wsX5_openDoors := goodIn_r _ [32, 9, 23, 24, 7, 25, 242, 243, 244, 245, 246, 247, 248, 249, 250, 251, 252, 253, 254] rfl (by decide +kernel)
set_option maxRecDepth 20000 in
theorem gL_holds_X5_openDoors : GoodIn wsL_holds (wsV RL 139 RX5 yX5_openDoors wsX5_openDoors) := goodIn_app (goodIn_of _ (by decide +kernel)) ggL_holds_X5_openDoors
set_option maxRecDepth 20000 in
theorem ggL_holds_X5_openByTurns : GoodIn wsL_holds wsX5_openByTurns := goodIn_r _ [36, 9, 37, 38, 7, 39, 242, 243, 244, 245, 246, 247, 248, 249, 250, 251, 252, 253, 254] rfl (by decide +kernel)
set_option maxRecDepth 20000 in
theorem gL_holds_X5_openByTurns : GoodIn wsL_holds (wsV RL 142 RX5 yX5_openByTurns wsX5_openByTurns) := goodIn_app (goodIn_of _ (by decide +kernel)) ggL_holds_X5_openByTurns
set_option maxRecDepth 20000 in
theorem ggL_holds_X5_states : GoodIn wsL_holds wsX5_states := goodIn_r _ [43, 44, 242, 243, 244, 245, 246, 247, 255, 256] rfl (by decide +kernel)
set_option maxRecDepth 20000 in
theorem gL_holds_X5_states : GoodIn wsL_holds (wsV RL 147 RX5 yX5_states wsX5_states) := goodIn_app (goodIn_of _ (by decide +kernel)) ggL_holds_X5_states
set_option maxRecDepth 20000 in
theorem ggL_holds_L_isOpen : GoodIn wsL_holds wsL_isOpen := goodIn_ca (goodIn_r _ [47, 48, 49, 50, 51, 7, 52, 18, 19, 9, 20, 21, 22, 23, 24, 25, 242, 243, 244, 245, 246, 247, 248, 249, 250, 251, 252, 253, 254] rfl (by decide +kernel)) (goodIn_sub (fun _ h => List.mem_cons_of_mem _ (List.mem_append_left _ (List.mem_append_right _ h))) (by decide +kernel))
set_option maxRecDepth 20000 in
theorem gL_holds_L_isOpen : GoodIn wsL_holds (va_wsS RL 150 yL_isOpen wsL_isOpen) := goodIn_app (goodIn_of _ (by decide +kernel)) ggL_holds_L_isOpen
set_option maxRecDepth 20000 in
theorem ggL_holds_L_nextOpen : GoodIn wsL_holds wsL_nextOpen := goodIn_ca (goodIn_ca (goodIn_r _ [55, 48, 56, 57, 58, 59, 7, 60, 18, 19, 61, 62, 9, 20, 21, 22, 23, 24, 25, 242, 243, 244, 245, 246, 247, 248, 249, 250, 251, 252, 253, 254] rfl (by decide +kernel)) (goodIn_sub (fun _ h => List.mem_cons_of_mem _ (List.mem_append_left _ (List.mem_append_right _ h))) (by decide +kernel))) (goodIn_sub (fun _ h => List.mem_cons_of_mem _ (List.mem_append_right _ h)) (by decide +kernel))
set_option maxRecDepth 20000 in
theorem gL_holds_L_nextOpen : GoodIn wsL_holds (va_wsS RL 152 yL_nextOpen wsL_nextOpen) := goodIn_app (goodIn_of _ (by decide +kernel)) ggL_holds_L_nextOpen
set_option maxRecDepth 20000 in
theorem ggL_holds_L_wouldBeOpen : GoodIn wsL_holds wsL_wouldBeOpen := goodIn_ca (goodIn_r _ [65, 48, 66, 67, 68, 7, 69, 18, 19, 9, 70, 71, 72, 23, 24, 25, 73, 74, 75, 76, 77, 78, 79, 80, 81, 82, 83, 84, 85, 86, 87, 88, 89, 90, 91, 92, 93, 94, 242, 243, 244, 245, 246, 247, 248, 249, 250, 251, 252, 253, 254] rfl (by decide +kernel)) (goodIn_sub (fun _ h => List.mem_cons_of_mem _ (List.mem_append_left _ (List.mem_append_right _ h))) (by decide +kernel))
set_option maxRecDepth 20000 in
theorem gL_holds_L_wouldBeOpen : GoodIn wsL_holds (va_wsS RL 154 yL_wouldBeOpen wsL_wouldBeOpen) := goodIn_app (goodIn_of _ (by decide +kernel)) ggL_holds_L_wouldBeOpen
set_option maxRecDepth 20000 in
theorem ggL_holds_L_whyNot : GoodIn wsL_holds wsL_whyNot := goodIn_ca (goodIn_r _ [97, 48, 98, 99, 100, 7, 101, 18, 19, 9, 20, 21, 22, 102, 103, 104, 105, 106, 107, 76, 108, 109, 110, 24, 25, 111, 112, 113, 242, 243, 244, 245, 246, 247, 248, 249, 250, 251, 252, 253, 254] rfl (by decide +kernel)) (goodIn_sub (fun _ h => List.mem_cons_of_mem _ (List.mem_append_left _ (List.mem_append_right _ h))) (by decide +kernel))
set_option maxRecDepth 20000 in
theorem gL_holds_L_whyNot : GoodIn wsL_holds (va_wsS RL 157 yL_whyNot wsL_whyNot) := goodIn_app (goodIn_of _ (by decide +kernel)) ggL_holds_L_whyNot
set_option maxRecDepth 20000 in
theorem ggL_holds_L_thingsOf : GoodIn wsL_holds wsL_thingsOf := goodIn_ca (goodIn_r _ [116, 48, 117, 118, 119, 7, 120, 18, 19, 9, 102, 103, 104, 121, 122, 123, 76, 124, 125, 110, 79, 88, 89, 90, 91, 92, 93, 94, 242, 243, 244, 245, 246, 247, 248, 249, 250, 251, 252, 253, 254] rfl (by decide +kernel)) (goodIn_sub (fun _ h => List.mem_cons_of_mem _ (List.mem_append_left _ (List.mem_append_right _ h))) (by decide +kernel))
set_option maxRecDepth 20000 in
theorem gL_holds_L_thingsOf : GoodIn wsL_holds (va_wsS RL 159 yL_thingsOf wsL_thingsOf) := goodIn_app (goodIn_of _ (by decide +kernel)) ggL_holds_L_thingsOf
set_option maxRecDepth 20000 in
theorem ggL_holds_L_timesOf : GoodIn wsL_holds wsL_timesOf := goodIn_ca (goodIn_r _ [128, 48, 129, 130, 131, 7, 132, 18, 19, 9, 20, 21, 22, 37, 38, 39, 242, 243, 244, 245, 246, 247, 248, 249, 250, 251, 252, 253, 254] rfl (by decide +kernel)) (goodIn_sub (fun _ h => List.mem_cons_of_mem _ (List.mem_append_left _ (List.mem_append_right _ h))) (by decide +kernel))
set_option maxRecDepth 20000 in
theorem gL_holds_L_timesOf : GoodIn wsL_holds (va_wsS RL 161 yL_timesOf wsL_timesOf) := goodIn_app (goodIn_of _ (by decide +kernel)) ggL_holds_L_timesOf
set_option maxRecDepth 20000 in
theorem ggL_holds_L_divisorsOf : GoodIn wsL_holds wsL_divisorsOf := goodIn_ca (goodIn_r _ [135, 48, 136, 137, 138, 7, 139, 18, 19, 20, 21, 22, 140, 141, 142] rfl (by decide +kernel)) (goodIn_sub (fun _ h => List.mem_cons_of_mem _ (List.mem_append_left _ (List.mem_append_right _ h))) (by decide +kernel))
set_option maxRecDepth 20000 in
theorem gL_holds_L_divisorsOf : GoodIn wsL_holds (va_wsS RL 163 yL_divisorsOf wsL_divisorsOf) := goodIn_app (goodIn_of _ (by decide +kernel)) ggL_holds_L_divisorsOf
set_option maxRecDepth 20000 in
theorem ggL_holds_L_thingAt : GoodIn wsL_holds wsL_thingAt := goodIn_ca (goodIn_ca (goodIn_r _ [145, 48, 56, 146, 147, 148, 7, 149, 18, 19, 61, 62, 9, 20, 21, 22, 23, 24, 25, 150, 151, 152, 76, 153, 125, 242, 243, 244, 245, 246, 247, 248, 249, 250, 251, 252, 253, 254] rfl (by decide +kernel)) (goodIn_sub (fun _ h => List.mem_cons_of_mem _ (List.mem_append_left _ (List.mem_append_right _ h))) (by decide +kernel))) (goodIn_sub (fun _ h => List.mem_cons_of_mem _ (List.mem_append_right _ h)) (by decide +kernel))
set_option maxRecDepth 20000 in
theorem gL_holds_L_thingAt : GoodIn wsL_holds (va_wsS RL 126 yL_thingAt wsL_thingAt) := goodIn_app (goodIn_of _ (by decide +kernel)) ggL_holds_L_thingAt
set_option maxRecDepth 20000 in
theorem ggL_holds_X5_turnsOf : GoodIn wsL_holds wsX5_turnsOf := goodIn_ca (goodIn_r _ [157, 18, 19, 9, 20, 21, 7, 22, 37, 38, 39, 242, 243, 244, 245, 246, 247, 248, 249, 250, 251, 252, 253, 254] rfl (by decide +kernel)) (goodIn_sub (fun _ h => List.mem_cons_of_mem _ (List.mem_append_left _ (List.mem_append_right _ h))) (by decide +kernel))
set_option maxRecDepth 20000 in
theorem gL_holds_X5_turnsOf : GoodIn wsL_holds (wsV RL 87 RX5 yX5_turnsOf wsX5_turnsOf) := goodIn_app (goodIn_of _ (by decide +kernel)) ggL_holds_X5_turnsOf
set_option maxRecDepth 20000 in
theorem ggL_holds_X5_isOpen : GoodIn wsL_holds wsX5_isOpen := goodIn_ca (goodIn_r _ [52, 18, 19, 9, 20, 21, 7, 22, 23, 24, 25, 242, 243, 244, 245, 246, 247, 248, 249, 250, 251, 252, 253, 254] rfl (by decide +kernel)) (goodIn_sub (fun _ h => List.mem_cons_of_mem _ (List.mem_append_left _ (List.mem_append_right _ h))) (by decide +kernel))
set_option maxRecDepth 20000 in
theorem gL_holds_X5_isOpen : GoodIn wsL_holds (wsV RL 39 RX5 yX5_isOpen wsX5_isOpen) := goodIn_app (goodIn_of _ (by decide +kernel)) ggL_holds_X5_isOpen
set_option maxRecDepth 20000 in
theorem ggL_holds_X5_nextOpen : GoodIn wsL_holds wsX5_nextOpen := goodIn_ca (goodIn_ca (goodIn_r _ [60, 18, 19, 61, 62, 9, 20, 21, 7, 22, 23, 24, 25, 242, 243, 244, 245, 246, 247, 248, 249, 250, 251, 252, 253, 254] rfl (by decide +kernel)) (goodIn_sub (fun _ h => List.mem_cons_of_mem _ (List.mem_append_left _ (List.mem_append_right _ h))) (by decide +kernel))) (goodIn_sub (fun _ h => List.mem_cons_of_mem _ (List.mem_append_right _ h)) (by decide +kernel))
set_option maxRecDepth 20000 in
theorem gL_holds_X5_nextOpen : GoodIn wsL_holds (wsV RL 48 RX5 yX5_nextOpen wsX5_nextOpen) := goodIn_app (goodIn_of _ (by decide +kernel)) ggL_holds_X5_nextOpen
set_option maxRecDepth 20000 in
theorem ggL_holds_X5_whyNot : GoodIn wsL_holds wsX5_whyNot := goodIn_ca (goodIn_r _ [101, 18, 19, 9, 20, 21, 7, 22, 102, 103, 104, 105, 106, 107, 76, 108, 109, 110, 24, 25, 111, 112, 113, 242, 243, 244, 245, 246, 247, 248, 249, 250, 251, 252, 253, 254] rfl (by decide +kernel)) (goodIn_sub (fun _ h => List.mem_cons_of_mem _ (List.mem_append_left _ (List.mem_append_right _ h))) (by decide +kernel))
set_option maxRecDepth 20000 in
theorem gL_holds_X5_whyNot : GoodIn wsL_holds (wsV RL 56 RX5 yX5_whyNot wsX5_whyNot) := goodIn_app (goodIn_of _ (by decide +kernel)) ggL_holds_X5_whyNot
set_option maxRecDepth 20000 in
theorem ggL_holds_X5_closingPasses : GoodIn wsL_holds wsX5_closingPasses := goodIn_r _ [161, 9, 23, 24, 7, 25, 85, 86, 87, 162, 80, 81, 82, 83, 84, 242, 243, 244, 245, 246, 247, 248, 249, 250, 251, 252, 253, 254] rfl (by decide +kernel)
set_option maxRecDepth 20000 in
theorem gL_holds_X5_closingPasses : GoodIn wsL_holds (wsV RL 165 RX5 yX5_closingPasses wsX5_closingPasses) := goodIn_app (goodIn_of _ (by decide +kernel)) ggL_holds_X5_closingPasses
set_option maxRecDepth 20000 in
theorem ggL_holds_L_turned : GoodIn wsL_holds wsL_turned := goodIn_r _ [165] rfl (by decide +kernel)
set_option maxRecDepth 20000 in
theorem gL_holds_L_turned : GoodIn wsL_holds (va_wsS RL 168 yL_turned wsL_turned) := goodIn_app (goodIn_of _ (by decide +kernel)) ggL_holds_L_turned
set_option maxRecDepth 20000 in
theorem ggL_holds_X5_bestPass : GoodIn wsL_holds wsX5_bestPass := goodIn_r _ [169, 9, 73, 74, 75, 76, 77, 78, 79, 80, 7, 81, 82, 83, 84, 85, 86, 87, 88, 89, 90, 91, 92, 93, 94, 242, 243, 244, 245, 246, 247, 248, 249, 250, 251, 252, 253, 254] rfl (by decide +kernel)
set_option maxRecDepth 20000 in
theorem gL_holds_X5_bestPass : GoodIn wsL_holds (wsV RL 172 RX5 yX5_bestPass wsX5_bestPass) := goodIn_app (goodIn_of _ (by decide +kernel)) ggL_holds_X5_bestPass
set_option maxRecDepth 20000 in
theorem ggL_holds_L_low : GoodIn wsL_holds wsL_low := goodIn_r _ [172, 173] rfl (by decide +kernel)
set_option maxRecDepth 20000 in
theorem gL_holds_L_low : GoodIn wsL_holds (va_wsS RL 177 yL_low wsL_low) := goodIn_app (goodIn_of _ (by decide +kernel)) ggL_holds_L_low
set_option maxRecDepth 20000 in
theorem ggL_holds_X5_isSkipped : GoodIn wsL_holds wsX5_isSkipped := goodIn_ca (goodIn_r _ [177, 18, 19, 9, 20, 21, 7, 22, 23, 24, 25, 242, 243, 244, 245, 246, 247, 248, 249, 250, 251, 252, 253, 254] rfl (by decide +kernel)) (goodIn_sub (fun _ h => List.mem_cons_of_mem _ (List.mem_append_left _ (List.mem_append_right _ h))) (by decide +kernel))
set_option maxRecDepth 20000 in
theorem gL_holds_X5_isSkipped : GoodIn wsL_holds (wsV RL 45 RX5 yX5_isSkipped wsX5_isSkipped) := goodIn_app (goodIn_of _ (by decide +kernel)) ggL_holds_X5_isSkipped
set_option maxRecDepth 20000 in
theorem ggL_holds_X5_closingByDivisors : GoodIn wsL_holds wsX5_closingByDivisors := goodIn_r _ [181, 182, 183, 184, 7, 185, 9, 23, 24, 25, 140, 141, 142, 186, 187, 188, 85, 86, 87, 242, 243, 244, 245, 246, 247, 248, 249, 250, 251, 252, 253, 254] rfl (by decide +kernel)
set_option maxRecDepth 20000 in
theorem gL_holds_X5_closingByDivisors : GoodIn wsL_holds (wsV RL 180 RX5 yX5_closingByDivisors wsX5_closingByDivisors) := goodIn_app (goodIn_of _ (by decide +kernel)) ggL_holds_X5_closingByDivisors
set_option maxRecDepth 20000 in
theorem ggL_holds_X5_passesToClose : GoodIn wsL_holds wsX5_passesToClose := goodIn_r _ [192, 193, 159, 160, 7, 161, 9, 23, 24, 25, 85, 86, 87, 162, 80, 81, 82, 83, 84, 88, 89, 90, 91, 92, 93, 94, 242, 243, 244, 245, 246, 247, 248, 249, 250, 251, 252, 253, 254] rfl (by decide +kernel)
set_option maxRecDepth 20000 in
theorem gL_holds_X5_passesToClose : GoodIn wsL_holds (wsV RL 183 RX5 yX5_passesToClose wsX5_passesToClose) := goodIn_app (goodIn_of _ (by decide +kernel)) ggL_holds_X5_passesToClose
set_option maxRecDepth 20000 in
theorem ggL_holds_X5_wouldBeOpen : GoodIn wsL_holds wsX5_wouldBeOpen := goodIn_ca (goodIn_r _ [69, 18, 19, 9, 70, 71, 7, 72, 23, 24, 25, 73, 74, 75, 76, 77, 78, 79, 80, 81, 82, 83, 84, 85, 86, 87, 88, 89, 90, 91, 92, 93, 94, 242, 243, 244, 245, 246, 247, 248, 249, 250, 251, 252, 253, 254] rfl (by decide +kernel)) (goodIn_sub (fun _ h => List.mem_cons_of_mem _ (List.mem_append_left _ (List.mem_append_right _ h))) (by decide +kernel))
set_option maxRecDepth 20000 in
theorem gL_holds_X5_wouldBeOpen : GoodIn wsL_holds (wsV RL 53 RX5 yX5_wouldBeOpen wsX5_wouldBeOpen) := goodIn_app (goodIn_of _ (by decide +kernel)) ggL_holds_X5_wouldBeOpen
set_option maxRecDepth 20000 in
theorem ggL_holds_X5_turnsInAll : GoodIn wsL_holds wsX5_turnsInAll := goodIn_r _ [197, 9, 37, 38, 7, 39, 242, 243, 244, 245, 246, 247, 248, 249, 250, 251, 252, 253, 254] rfl (by decide +kernel)
set_option maxRecDepth 20000 in
theorem gL_holds_X5_turnsInAll : GoodIn wsL_holds (wsV RL 186 RX5 yX5_turnsInAll wsX5_turnsInAll) := goodIn_app (goodIn_of _ (by decide +kernel)) ggL_holds_X5_turnsInAll
set_option maxRecDepth 20000 in
theorem ggL_holds_X5_shutAway : GoodIn wsL_holds wsX5_shutAway := goodIn_r _ [201, 9, 202, 88, 89, 90, 91, 92, 93, 94, 242, 243, 244, 245, 246, 247, 248, 249, 250, 251, 252, 253, 254] rfl (by decide +kernel)
set_option maxRecDepth 20000 in
theorem gL_holds_X5_shutAway : GoodIn wsL_holds (wsV RL 189 RX5 yX5_shutAway wsX5_shutAway) := goodIn_app (goodIn_of _ (by decide +kernel)) ggL_holds_X5_shutAway
set_option maxRecDepth 20000 in
theorem ggL_holds_X5_thingsOf : GoodIn wsL_holds wsX5_thingsOf := goodIn_ca (goodIn_r _ [120, 18, 19, 9, 102, 103, 7, 104, 121, 122, 123, 76, 124, 125, 110, 79, 88, 89, 90, 91, 92, 93, 94, 242, 243, 244, 245, 246, 247, 248, 249, 250, 251, 252, 253, 254] rfl (by decide +kernel)) (goodIn_sub (fun _ h => List.mem_cons_of_mem _ (List.mem_append_left _ (List.mem_append_right _ h))) (by decide +kernel))
set_option maxRecDepth 20000 in
theorem gL_holds_X5_thingsOf : GoodIn wsL_holds (wsV RL 62 RX5 yX5_thingsOf wsX5_thingsOf) := goodIn_app (goodIn_of _ (by decide +kernel)) ggL_holds_X5_thingsOf
set_option maxRecDepth 20000 in
theorem ggL_holds_X5_share : GoodIn wsL_holds wsX5_share := goodIn_r _ [206, 9, 207, 88, 89, 90, 91, 92, 93, 94, 242, 243, 244, 245, 246, 247, 248, 249, 250, 251, 252, 253, 254] rfl (by decide +kernel)
set_option maxRecDepth 20000 in
theorem gL_holds_X5_share : GoodIn wsL_holds (wsV RL 192 RX5 yX5_share wsX5_share) := goodIn_app (goodIn_of _ (by decide +kernel)) ggL_holds_X5_share
set_option maxRecDepth 20000 in
theorem ggL_holds_X5_shareBits : GoodIn wsL_holds wsX5_shareBits := goodIn_r _ [211, 212, 204, 205, 7, 206, 9, 207, 88, 89, 90, 91, 92, 93, 94, 213, 214, 215, 216, 85, 86, 87, 242, 243, 244, 245, 246, 247, 248, 249, 250, 251, 252, 253, 254] rfl (by decide +kernel)
set_option maxRecDepth 20000 in
theorem gL_holds_X5_shareBits : GoodIn wsL_holds (wsV RL 197 RX5 yX5_shareBits wsX5_shareBits) := goodIn_app (goodIn_of _ (by decide +kernel)) ggL_holds_X5_shareBits
set_option maxRecDepth 20000 in
theorem ggL_holds_L_ratio : GoodIn wsL_holds wsL_ratio := goodIn_r _ [219, 220, 221, 222, 223] rfl (by decide +kernel)
set_option maxRecDepth 20000 in
theorem gL_holds_L_ratio : GoodIn wsL_holds (va_wsS RL 200 yL_ratio wsL_ratio) := goodIn_app (goodIn_of _ (by decide +kernel)) ggL_holds_L_ratio
set_option maxRecDepth 20000 in
theorem ggL_holds_X5_sumOfParts : GoodIn wsL_holds wsX5_sumOfParts := goodIn_r _ [227, 9, 23, 24, 7, 25, 242, 243, 244, 245, 246, 247, 248, 249, 250, 251, 252, 253, 254] rfl (by decide +kernel)
set_option maxRecDepth 20000 in
theorem gL_holds_X5_sumOfParts : GoodIn wsL_holds (wsV RL 203 RX5 yX5_sumOfParts wsX5_sumOfParts) := goodIn_app (goodIn_of _ (by decide +kernel)) ggL_holds_X5_sumOfParts
set_option maxRecDepth 20000 in
theorem ggL_holds_X5_sumBits : GoodIn wsL_holds wsX5_sumBits := goodIn_r _ [231, 9, 23, 24, 7, 25, 213, 214, 215, 216, 85, 86, 87, 242, 243, 244, 245, 246, 247, 248, 249, 250, 251, 252, 253, 254] rfl (by decide +kernel)
set_option maxRecDepth 20000 in
theorem gL_holds_X5_sumBits : GoodIn wsL_holds (wsV RL 206 RX5 yX5_sumBits wsX5_sumBits) := goodIn_app (goodIn_of _ (by decide +kernel)) ggL_holds_X5_sumBits
set_option maxRecDepth 20000 in
theorem ggL_holds_L_parts : GoodIn wsL_holds wsL_parts := goodIn_r _ [234, 221, 235, 236, 237, 238, 239, 12, 240, 241] rfl (by decide +kernel)
set_option maxRecDepth 20000 in
theorem gL_holds_L_parts : GoodIn wsL_holds (va_wsS RL 209 yL_parts wsL_parts) := goodIn_app (goodIn_of _ (by decide +kernel)) ggL_holds_L_parts
theorem dL_holds_0 : decode cL_holds 0 = .ok (.aload_n 0, 1) := by decide +kernel
theorem dL_holds_1 : decode cL_holds 1 = .ok (.invokevirtual 120, 3) := by decide +kernel
theorem dL_holds_4 : decode cL_holds 4 = .ok (.lstore_n 2, 1) := by decide +kernel
theorem dL_holds_5 : decode cL_holds 5 = .ok (.aload_n 0, 1) := by decide +kernel
theorem dL_holds_6 : decode cL_holds 6 = .ok (.invokestatic 131, 3) := by decide +kernel
theorem dL_holds_9 : decode cL_holds 9 = .ok (.lstore 4, 2) := by decide +kernel
theorem dL_holds_11 : decode cL_holds 11 = .ok (.lload_n 2, 1) := by decide +kernel
theorem dL_holds_12 : decode cL_holds 12 = .ok (.invokestatic 135, 3) := by decide +kernel
theorem dL_holds_15 : decode cL_holds 15 = .ok (.istore 6, 2) := by decide +kernel
theorem dL_holds_17 : decode cL_holds 17 = .ok (.iconst 0, 1) := by decide +kernel
theorem dL_holds_18 : decode cL_holds 18 = .ok (.istore 7, 2) := by decide +kernel
theorem dL_holds_20 : decode cL_holds 20 = .ok (.iconst 0, 1) := by decide +kernel
theorem dL_holds_21 : decode cL_holds 21 = .ok (.istore 8, 2) := by decide +kernel
theorem dL_holds_23 : decode cL_holds 23 = .ok (.iconst 0, 1) := by decide +kernel
theorem dL_holds_24 : decode cL_holds 24 = .ok (.istore 9, 2) := by decide +kernel
theorem dL_holds_26 : decode cL_holds 26 = .ok (.iconst 0, 1) := by decide +kernel
theorem dL_holds_27 : decode cL_holds 27 = .ok (.istore 10, 2) := by decide +kernel
theorem dL_holds_29 : decode cL_holds 29 = .ok (.fconst 0, 1) := by decide +kernel
theorem dL_holds_30 : decode cL_holds 30 = .ok (.fstore 11, 2) := by decide +kernel
theorem dL_holds_32 : decode cL_holds 32 = .ok (.aload_n 0, 1) := by decide +kernel
theorem dL_holds_33 : decode cL_holds 33 = .ok (.invokevirtual 139, 3) := by decide +kernel
theorem dL_holds_36 : decode cL_holds 36 = .ok (.iload 6, 2) := by decide +kernel
theorem dL_holds_38 : decode cL_holds 38 = .ok (.if_icmp .ne 129, 3) := by decide +kernel
theorem dL_holds_41 : decode cL_holds 41 = .ok (.aload_n 0, 1) := by decide +kernel
theorem dL_holds_42 : decode cL_holds 42 = .ok (.invokevirtual 142, 3) := by decide +kernel
theorem dL_holds_45 : decode cL_holds 45 = .ok (.iload 6, 2) := by decide +kernel
theorem dL_holds_47 : decode cL_holds 47 = .ok (.if_icmp .ne 120, 3) := by decide +kernel
theorem dL_holds_50 : decode cL_holds 50 = .ok (.lload_n 2, 1) := by decide +kernel
theorem dL_holds_51 : decode cL_holds 51 = .ok (.lconst 1, 1) := by decide +kernel
theorem dL_holds_52 : decode cL_holds 52 = .ok (.land, 1) := by decide +kernel
theorem dL_holds_53 : decode cL_holds 53 = .ok (.lconst 0, 1) := by decide +kernel
theorem dL_holds_54 : decode cL_holds 54 = .ok (.lcmp, 1) := by decide +kernel
theorem dL_holds_55 : decode cL_holds 55 = .ok (.ifCond .ne 112, 3) := by decide +kernel
theorem dL_holds_58 : decode cL_holds 58 = .ok (.lload_n 2, 1) := by decide +kernel
theorem dL_holds_59 : decode cL_holds 59 = .ok (.lconst 0, 1) := by decide +kernel
theorem dL_holds_60 : decode cL_holds 60 = .ok (.lcmp, 1) := by decide +kernel
theorem dL_holds_61 : decode cL_holds 61 = .ok (.ifCond .lt 106, 3) := by decide +kernel
theorem dL_holds_64 : decode cL_holds 64 = .ok (.lload_n 2, 1) := by decide +kernel
theorem dL_holds_65 : decode cL_holds 65 = .ok (.ldc2_w 145, 3) := by decide +kernel
theorem dL_holds_68 : decode cL_holds 68 = .ok (.lcmp, 1) := by decide +kernel
theorem dL_holds_69 : decode cL_holds 69 = .ok (.ifCond .ge 98, 3) := by decide +kernel
theorem dL_holds_72 : decode cL_holds 72 = .ok (.aload_n 0, 1) := by decide +kernel
theorem dL_holds_73 : decode cL_holds 73 = .ok (.invokevirtual 147, 3) := by decide +kernel
theorem dL_holds_76 : decode cL_holds 76 = .ok (.ifCond .lt 91, 3) := by decide +kernel
theorem dL_holds_79 : decode cL_holds 79 = .ok (.aload_n 0, 1) := by decide +kernel
theorem dL_holds_80 : decode cL_holds 80 = .ok (.invokevirtual 147, 3) := by decide +kernel
theorem dL_holds_83 : decode cL_holds 83 = .ok (.iconst 4, 1) := by decide +kernel
theorem dL_holds_84 : decode cL_holds 84 = .ok (.if_icmp .gt 83, 3) := by decide +kernel
theorem dL_holds_87 : decode cL_holds 87 = .ok (.aload_n 0, 1) := by decide +kernel
theorem dL_holds_88 : decode cL_holds 88 = .ok (.iconst 0, 1) := by decide +kernel
theorem dL_holds_89 : decode cL_holds 89 = .ok (.invokestatic 150, 3) := by decide +kernel
theorem dL_holds_92 : decode cL_holds 92 = .ok (.bipush (-102), 2) := by decide +kernel
theorem dL_holds_94 : decode cL_holds 94 = .ok (.if_icmp .ne 73, 3) := by decide +kernel
theorem dL_holds_97 : decode cL_holds 97 = .ok (.aload_n 0, 1) := by decide +kernel
theorem dL_holds_98 : decode cL_holds 98 = .ok (.bipush 49, 2) := by decide +kernel
theorem dL_holds_100 : decode cL_holds 100 = .ok (.invokestatic 152, 3) := by decide +kernel
theorem dL_holds_103 : decode cL_holds 103 = .ok (.bipush (-102), 2) := by decide +kernel
theorem dL_holds_105 : decode cL_holds 105 = .ok (.if_icmp .ne 62, 3) := by decide +kernel
theorem dL_holds_108 : decode cL_holds 108 = .ok (.aload_n 0, 1) := by decide +kernel
theorem dL_holds_109 : decode cL_holds 109 = .ok (.bipush 7, 2) := by decide +kernel
theorem dL_holds_111 : decode cL_holds 111 = .ok (.bipush 6, 2) := by decide +kernel
theorem dL_holds_113 : decode cL_holds 113 = .ok (.invokestatic 154, 3) := by decide +kernel
theorem dL_holds_116 : decode cL_holds 116 = .ok (.bipush (-102), 2) := by decide +kernel
theorem dL_holds_118 : decode cL_holds 118 = .ok (.if_icmp .ne 49, 3) := by decide +kernel
theorem dL_holds_121 : decode cL_holds 121 = .ok (.aload_n 0, 1) := by decide +kernel
theorem dL_holds_122 : decode cL_holds 122 = .ok (.iconst 1, 1) := by decide +kernel
theorem dL_holds_123 : decode cL_holds 123 = .ok (.iconst 2, 1) := by decide +kernel
theorem dL_holds_124 : decode cL_holds 124 = .ok (.invokestatic 157, 3) := by decide +kernel
theorem dL_holds_127 : decode cL_holds 127 = .ok (.bipush (-102), 2) := by decide +kernel
theorem dL_holds_129 : decode cL_holds 129 = .ok (.if_icmp .ne 38, 3) := by decide +kernel
theorem dL_holds_132 : decode cL_holds 132 = .ok (.aload_n 0, 1) := by decide +kernel
theorem dL_holds_133 : decode cL_holds 133 = .ok (.iconst (-1), 1) := by decide +kernel
theorem dL_holds_134 : decode cL_holds 134 = .ok (.invokestatic 159, 3) := by decide +kernel
theorem dL_holds_137 : decode cL_holds 137 = .ok (.bipush (-102), 2) := by decide +kernel
theorem dL_holds_139 : decode cL_holds 139 = .ok (.if_icmp .ne 28, 3) := by decide +kernel
theorem dL_holds_142 : decode cL_holds 142 = .ok (.aload_n 0, 1) := by decide +kernel
theorem dL_holds_143 : decode cL_holds 143 = .ok (.bipush 49, 2) := by decide +kernel
theorem dL_holds_145 : decode cL_holds 145 = .ok (.invokestatic 161, 3) := by decide +kernel
theorem dL_holds_148 : decode cL_holds 148 = .ok (.bipush (-102), 2) := by decide +kernel
theorem dL_holds_150 : decode cL_holds 150 = .ok (.if_icmp .ne 17, 3) := by decide +kernel
theorem dL_holds_153 : decode cL_holds 153 = .ok (.aload_n 0, 1) := by decide +kernel
theorem dL_holds_154 : decode cL_holds 154 = .ok (.iconst 0, 1) := by decide +kernel
theorem dL_holds_155 : decode cL_holds 155 = .ok (.invokestatic 163, 3) := by decide +kernel
theorem dL_holds_158 : decode cL_holds 158 = .ok (.bipush (-102), 2) := by decide +kernel
theorem dL_holds_160 : decode cL_holds 160 = .ok (.if_icmp .ne 7, 3) := by decide +kernel
theorem dL_holds_163 : decode cL_holds 163 = .ok (.iconst 1, 1) := by decide +kernel
theorem dL_holds_164 : decode cL_holds 164 = .ok (.goto 4, 3) := by decide +kernel
theorem dL_holds_167 : decode cL_holds 167 = .ok (.iconst 0, 1) := by decide +kernel
theorem dL_holds_168 : decode cL_holds 168 = .ok (.istore 12, 2) := by decide +kernel
theorem dL_holds_170 : decode cL_holds 170 = .ok (.iconst 1, 1) := by decide +kernel
theorem dL_holds_171 : decode cL_holds 171 = .ok (.istore 13, 2) := by decide +kernel
theorem dL_holds_173 : decode cL_holds 173 = .ok (.iload 13, 2) := by decide +kernel
theorem dL_holds_175 : decode cL_holds 175 = .ok (.bipush 49, 2) := by decide +kernel
theorem dL_holds_177 : decode cL_holds 177 = .ok (.if_icmp .ge 349, 3) := by decide +kernel
theorem dL_holds_180 : decode cL_holds 180 = .ok (.iload 12, 2) := by decide +kernel
theorem dL_holds_182 : decode cL_holds 182 = .ok (.ifCond .eq 344, 3) := by decide +kernel
theorem dL_holds_185 : decode cL_holds 185 = .ok (.lload_n 2, 1) := by decide +kernel
theorem dL_holds_186 : decode cL_holds 186 = .ok (.iload 13, 2) := by decide +kernel
theorem dL_holds_188 : decode cL_holds 188 = .ok (.lshr, 1) := by decide +kernel
theorem dL_holds_189 : decode cL_holds 189 = .ok (.lconst 1, 1) := by decide +kernel
theorem dL_holds_190 : decode cL_holds 190 = .ok (.land, 1) := by decide +kernel
theorem dL_holds_191 : decode cL_holds 191 = .ok (.lconst 1, 1) := by decide +kernel
theorem dL_holds_192 : decode cL_holds 192 = .ok (.lcmp, 1) := by decide +kernel
theorem dL_holds_193 : decode cL_holds 193 = .ok (.ifCond .ne 7, 3) := by decide +kernel
theorem dL_holds_196 : decode cL_holds 196 = .ok (.iconst 1, 1) := by decide +kernel
theorem dL_holds_197 : decode cL_holds 197 = .ok (.goto 4, 3) := by decide +kernel
theorem dL_holds_200 : decode cL_holds 200 = .ok (.iconst 0, 1) := by decide +kernel
theorem dL_holds_201 : decode cL_holds 201 = .ok (.istore 14, 2) := by decide +kernel
theorem dL_holds_203 : decode cL_holds 203 = .ok (.aload_n 0, 1) := by decide +kernel
theorem dL_holds_204 : decode cL_holds 204 = .ok (.iload 13, 2) := by decide +kernel
theorem dL_holds_206 : decode cL_holds 206 = .ok (.invokestatic 126, 3) := by decide +kernel
theorem dL_holds_209 : decode cL_holds 209 = .ok (.istore 15, 2) := by decide +kernel
theorem dL_holds_211 : decode cL_holds 211 = .ok (.lload_n 2, 1) := by decide +kernel
theorem dL_holds_212 : decode cL_holds 212 = .ok (.iload 13, 2) := by decide +kernel
theorem dL_holds_214 : decode cL_holds 214 = .ok (.lshr, 1) := by decide +kernel
theorem dL_holds_215 : decode cL_holds 215 = .ok (.lstore 16, 2) := by decide +kernel
theorem dL_holds_217 : decode cL_holds 217 = .ok (.iload 7, 2) := by decide +kernel
theorem dL_holds_219 : decode cL_holds 219 = .ok (.aload_n 0, 1) := by decide +kernel
theorem dL_holds_220 : decode cL_holds 220 = .ok (.iload 13, 2) := by decide +kernel
theorem dL_holds_222 : decode cL_holds 222 = .ok (.invokevirtual 87, 3) := by decide +kernel
theorem dL_holds_225 : decode cL_holds 225 = .ok (.iadd, 1) := by decide +kernel
theorem dL_holds_226 : decode cL_holds 226 = .ok (.istore 7, 2) := by decide +kernel
theorem dL_holds_228 : decode cL_holds 228 = .ok (.fload 11, 2) := by decide +kernel
theorem dL_holds_230 : decode cL_holds 230 = .ok (.iload 14, 2) := by decide +kernel
theorem dL_holds_232 : decode cL_holds 232 = .ok (.ifCond .eq 11, 3) := by decide +kernel
theorem dL_holds_235 : decode cL_holds 235 = .ok (.fconst 1, 1) := by decide +kernel
theorem dL_holds_236 : decode cL_holds 236 = .ok (.iload 13, 2) := by decide +kernel
theorem dL_holds_238 : decode cL_holds 238 = .ok (.i2f, 1) := by decide +kernel
theorem dL_holds_239 : decode cL_holds 239 = .ok (.fdiv, 1) := by decide +kernel
theorem dL_holds_240 : decode cL_holds 240 = .ok (.goto 4, 3) := by decide +kernel
theorem dL_holds_243 : decode cL_holds 243 = .ok (.fconst 0, 1) := by decide +kernel
theorem dL_holds_244 : decode cL_holds 244 = .ok (.fadd, 1) := by decide +kernel
theorem dL_holds_245 : decode cL_holds 245 = .ok (.fstore 11, 2) := by decide +kernel
theorem dL_holds_247 : decode cL_holds 247 = .ok (.iload 8, 2) := by decide +kernel
theorem dL_holds_249 : decode cL_holds 249 = .ok (.iload 15, 2) := by decide +kernel
theorem dL_holds_251 : decode cL_holds 251 = .ok (.ifCond .lt 12, 3) := by decide +kernel
theorem dL_holds_254 : decode cL_holds 254 = .ok (.iload 14, 2) := by decide +kernel
theorem dL_holds_256 : decode cL_holds 256 = .ok (.ifCond .ne 7, 3) := by decide +kernel
theorem dL_holds_259 : decode cL_holds 259 = .ok (.iconst 1, 1) := by decide +kernel
theorem dL_holds_260 : decode cL_holds 260 = .ok (.goto 4, 3) := by decide +kernel
theorem dL_holds_263 : decode cL_holds 263 = .ok (.iconst 0, 1) := by decide +kernel
theorem dL_holds_264 : decode cL_holds 264 = .ok (.iadd, 1) := by decide +kernel
theorem dL_holds_265 : decode cL_holds 265 = .ok (.istore 8, 2) := by decide +kernel
theorem dL_holds_267 : decode cL_holds 267 = .ok (.iload 9, 2) := by decide +kernel
theorem dL_holds_269 : decode cL_holds 269 = .ok (.iload 15, 2) := by decide +kernel
theorem dL_holds_271 : decode cL_holds 271 = .ok (.ifCond .ne 7, 3) := by decide +kernel
theorem dL_holds_274 : decode cL_holds 274 = .ok (.iconst 1, 1) := by decide +kernel
theorem dL_holds_275 : decode cL_holds 275 = .ok (.goto 4, 3) := by decide +kernel
theorem dL_holds_278 : decode cL_holds 278 = .ok (.iconst 0, 1) := by decide +kernel
theorem dL_holds_279 : decode cL_holds 279 = .ok (.iadd, 1) := by decide +kernel
theorem dL_holds_280 : decode cL_holds 280 = .ok (.istore 9, 2) := by decide +kernel
theorem dL_holds_282 : decode cL_holds 282 = .ok (.iload 10, 2) := by decide +kernel
theorem dL_holds_284 : decode cL_holds 284 = .ok (.iload 15, 2) := by decide +kernel
theorem dL_holds_286 : decode cL_holds 286 = .ok (.iconst 1, 1) := by decide +kernel
theorem dL_holds_287 : decode cL_holds 287 = .ok (.if_icmp .ne 7, 3) := by decide +kernel
theorem dL_holds_290 : decode cL_holds 290 = .ok (.iconst 1, 1) := by decide +kernel
theorem dL_holds_291 : decode cL_holds 291 = .ok (.goto 4, 3) := by decide +kernel
theorem dL_holds_294 : decode cL_holds 294 = .ok (.iconst 0, 1) := by decide +kernel
theorem dL_holds_295 : decode cL_holds 295 = .ok (.iadd, 1) := by decide +kernel
theorem dL_holds_296 : decode cL_holds 296 = .ok (.istore 10, 2) := by decide +kernel
theorem dL_holds_298 : decode cL_holds 298 = .ok (.aload_n 0, 1) := by decide +kernel
theorem dL_holds_299 : decode cL_holds 299 = .ok (.iload 13, 2) := by decide +kernel
theorem dL_holds_301 : decode cL_holds 301 = .ok (.invokevirtual 39, 3) := by decide +kernel
theorem dL_holds_304 : decode cL_holds 304 = .ok (.iload 14, 2) := by decide +kernel
theorem dL_holds_306 : decode cL_holds 306 = .ok (.if_icmp .ne 211, 3) := by decide +kernel
theorem dL_holds_309 : decode cL_holds 309 = .ok (.aload_n 0, 1) := by decide +kernel
theorem dL_holds_310 : decode cL_holds 310 = .ok (.iload 13, 2) := by decide +kernel
theorem dL_holds_312 : decode cL_holds 312 = .ok (.invokevirtual 87, 3) := by decide +kernel
theorem dL_holds_315 : decode cL_holds 315 = .ok (.ifCond .lt 202, 3) := by decide +kernel
theorem dL_holds_318 : decode cL_holds 318 = .ok (.aload_n 0, 1) := by decide +kernel
theorem dL_holds_319 : decode cL_holds 319 = .ok (.iload 13, 2) := by decide +kernel
theorem dL_holds_321 : decode cL_holds 321 = .ok (.invokevirtual 87, 3) := by decide +kernel
theorem dL_holds_324 : decode cL_holds 324 = .ok (.iconst 2, 1) := by decide +kernel
theorem dL_holds_325 : decode cL_holds 325 = .ok (.irem, 1) := by decide +kernel
theorem dL_holds_326 : decode cL_holds 326 = .ok (.iload 14, 2) := by decide +kernel
theorem dL_holds_328 : decode cL_holds 328 = .ok (.ifCond .eq 7, 3) := by decide +kernel
theorem dL_holds_331 : decode cL_holds 331 = .ok (.iconst 1, 1) := by decide +kernel
theorem dL_holds_332 : decode cL_holds 332 = .ok (.goto 4, 3) := by decide +kernel
theorem dL_holds_335 : decode cL_holds 335 = .ok (.iconst 0, 1) := by decide +kernel
theorem dL_holds_336 : decode cL_holds 336 = .ok (.if_icmp .ne 181, 3) := by decide +kernel
theorem dL_holds_339 : decode cL_holds 339 = .ok (.aload_n 0, 1) := by decide +kernel
theorem dL_holds_340 : decode cL_holds 340 = .ok (.iload 13, 2) := by decide +kernel
theorem dL_holds_342 : decode cL_holds 342 = .ok (.invokestatic 152, 3) := by decide +kernel
theorem dL_holds_345 : decode cL_holds 345 = .ok (.bipush (-104), 2) := by decide +kernel
theorem dL_holds_347 : decode cL_holds 347 = .ok (.if_icmp .ne 7, 3) := by decide +kernel
theorem dL_holds_350 : decode cL_holds 350 = .ok (.iconst 1, 1) := by decide +kernel
theorem dL_holds_351 : decode cL_holds 351 = .ok (.goto 4, 3) := by decide +kernel
theorem dL_holds_354 : decode cL_holds 354 = .ok (.iconst 0, 1) := by decide +kernel
theorem dL_holds_355 : decode cL_holds 355 = .ok (.lload 16, 2) := by decide +kernel
theorem dL_holds_357 : decode cL_holds 357 = .ok (.lconst 0, 1) := by decide +kernel
theorem dL_holds_358 : decode cL_holds 358 = .ok (.lcmp, 1) := by decide +kernel
theorem dL_holds_359 : decode cL_holds 359 = .ok (.ifCond .ne 7, 3) := by decide +kernel
theorem dL_holds_362 : decode cL_holds 362 = .ok (.iconst 1, 1) := by decide +kernel
theorem dL_holds_363 : decode cL_holds 363 = .ok (.goto 4, 3) := by decide +kernel
theorem dL_holds_366 : decode cL_holds 366 = .ok (.iconst 0, 1) := by decide +kernel
theorem dL_holds_367 : decode cL_holds 367 = .ok (.if_icmp .ne 150, 3) := by decide +kernel
theorem dL_holds_370 : decode cL_holds 370 = .ok (.lload 16, 2) := by decide +kernel
theorem dL_holds_372 : decode cL_holds 372 = .ok (.lconst 0, 1) := by decide +kernel
theorem dL_holds_373 : decode cL_holds 373 = .ok (.lcmp, 1) := by decide +kernel
theorem dL_holds_374 : decode cL_holds 374 = .ok (.ifCond .eq 48, 3) := by decide +kernel
theorem dL_holds_377 : decode cL_holds 377 = .ok (.aload_n 0, 1) := by decide +kernel
theorem dL_holds_378 : decode cL_holds 378 = .ok (.iload 13, 2) := by decide +kernel
theorem dL_holds_380 : decode cL_holds 380 = .ok (.invokevirtual 48, 3) := by decide +kernel
theorem dL_holds_383 : decode cL_holds 383 = .ok (.iload 13, 2) := by decide +kernel
theorem dL_holds_385 : decode cL_holds 385 = .ok (.if_icmp .lt 132, 3) := by decide +kernel
theorem dL_holds_388 : decode cL_holds 388 = .ok (.lload 16, 2) := by decide +kernel
theorem dL_holds_390 : decode cL_holds 390 = .ok (.lconst 1, 1) := by decide +kernel
theorem dL_holds_391 : decode cL_holds 391 = .ok (.aload_n 0, 1) := by decide +kernel
theorem dL_holds_392 : decode cL_holds 392 = .ok (.iload 13, 2) := by decide +kernel
theorem dL_holds_394 : decode cL_holds 394 = .ok (.invokevirtual 48, 3) := by decide +kernel
theorem dL_holds_397 : decode cL_holds 397 = .ok (.iload 13, 2) := by decide +kernel
theorem dL_holds_399 : decode cL_holds 399 = .ok (.isub, 1) := by decide +kernel
theorem dL_holds_400 : decode cL_holds 400 = .ok (.lshl, 1) := by decide +kernel
theorem dL_holds_401 : decode cL_holds 401 = .ok (.lconst 1, 1) := by decide +kernel
theorem dL_holds_402 : decode cL_holds 402 = .ok (.lsub, 1) := by decide +kernel
theorem dL_holds_403 : decode cL_holds 403 = .ok (.land, 1) := by decide +kernel
theorem dL_holds_404 : decode cL_holds 404 = .ok (.lconst 0, 1) := by decide +kernel
theorem dL_holds_405 : decode cL_holds 405 = .ok (.lcmp, 1) := by decide +kernel
theorem dL_holds_406 : decode cL_holds 406 = .ok (.ifCond .ne 111, 3) := by decide +kernel
theorem dL_holds_409 : decode cL_holds 409 = .ok (.aload_n 0, 1) := by decide +kernel
theorem dL_holds_410 : decode cL_holds 410 = .ok (.aload_n 0, 1) := by decide +kernel
theorem dL_holds_411 : decode cL_holds 411 = .ok (.iload 13, 2) := by decide +kernel
theorem dL_holds_413 : decode cL_holds 413 = .ok (.invokevirtual 48, 3) := by decide +kernel
theorem dL_holds_416 : decode cL_holds 416 = .ok (.invokevirtual 39, 3) := by decide +kernel
theorem dL_holds_419 : decode cL_holds 419 = .ok (.ifCond .eq 98, 3) := by decide +kernel
theorem dL_holds_422 : decode cL_holds 422 = .ok (.aload_n 0, 1) := by decide +kernel
theorem dL_holds_423 : decode cL_holds 423 = .ok (.iload 13, 2) := by decide +kernel
theorem dL_holds_425 : decode cL_holds 425 = .ok (.iconst 0, 1) := by decide +kernel
theorem dL_holds_426 : decode cL_holds 426 = .ok (.invokevirtual 56, 3) := by decide +kernel
theorem dL_holds_429 : decode cL_holds 429 = .ok (.iload 14, 2) := by decide +kernel
theorem dL_holds_431 : decode cL_holds 431 = .ok (.ifCond .ne 7, 3) := by decide +kernel
theorem dL_holds_434 : decode cL_holds 434 = .ok (.iconst 1, 1) := by decide +kernel
theorem dL_holds_435 : decode cL_holds 435 = .ok (.goto 33, 3) := by decide +kernel
theorem dL_holds_438 : decode cL_holds 438 = .ok (.iload 15, 2) := by decide +kernel
theorem dL_holds_440 : decode cL_holds 440 = .ok (.bipush (-104), 2) := by decide +kernel
theorem dL_holds_442 : decode cL_holds 442 = .ok (.if_icmp .eq 7, 3) := by decide +kernel
theorem dL_holds_445 : decode cL_holds 445 = .ok (.iconst 2, 1) := by decide +kernel
theorem dL_holds_446 : decode cL_holds 446 = .ok (.goto 22, 3) := by decide +kernel
theorem dL_holds_449 : decode cL_holds 449 = .ok (.iload 13, 2) := by decide +kernel
theorem dL_holds_451 : decode cL_holds 451 = .ok (.bipush 16, 2) := by decide +kernel
theorem dL_holds_453 : decode cL_holds 453 = .ok (.if_icmp .le 14, 3) := by decide +kernel
theorem dL_holds_456 : decode cL_holds 456 = .ok (.iload 13, 2) := by decide +kernel
theorem dL_holds_458 : decode cL_holds 458 = .ok (.bipush 33, 2) := by decide +kernel
theorem dL_holds_460 : decode cL_holds 460 = .ok (.if_icmp .ge 7, 3) := by decide +kernel
theorem dL_holds_463 : decode cL_holds 463 = .ok (.iconst 3, 1) := by decide +kernel
theorem dL_holds_464 : decode cL_holds 464 = .ok (.goto 4, 3) := by decide +kernel
theorem dL_holds_467 : decode cL_holds 467 = .ok (.iconst 0, 1) := by decide +kernel
theorem dL_holds_468 : decode cL_holds 468 = .ok (.if_icmp .ne 49, 3) := by decide +kernel
theorem dL_holds_471 : decode cL_holds 471 = .ok (.aload_n 0, 1) := by decide +kernel
theorem dL_holds_472 : decode cL_holds 472 = .ok (.iload 13, 2) := by decide +kernel
theorem dL_holds_474 : decode cL_holds 474 = .ok (.iconst 1, 1) := by decide +kernel
theorem dL_holds_475 : decode cL_holds 475 = .ok (.invokevirtual 56, 3) := by decide +kernel
theorem dL_holds_478 : decode cL_holds 478 = .ok (.iload 14, 2) := by decide +kernel
theorem dL_holds_480 : decode cL_holds 480 = .ok (.ifCond .ne 7, 3) := by decide +kernel
theorem dL_holds_483 : decode cL_holds 483 = .ok (.iconst 1, 1) := by decide +kernel
theorem dL_holds_484 : decode cL_holds 484 = .ok (.goto 26, 3) := by decide +kernel
theorem dL_holds_487 : decode cL_holds 487 = .ok (.iload 15, 2) := by decide +kernel
theorem dL_holds_489 : decode cL_holds 489 = .ok (.bipush (-104), 2) := by decide +kernel
theorem dL_holds_491 : decode cL_holds 491 = .ok (.if_icmp .eq 7, 3) := by decide +kernel
theorem dL_holds_494 : decode cL_holds 494 = .ok (.iconst 2, 1) := by decide +kernel
theorem dL_holds_495 : decode cL_holds 495 = .ok (.goto 15, 3) := by decide +kernel
theorem dL_holds_498 : decode cL_holds 498 = .ok (.iload 13, 2) := by decide +kernel
theorem dL_holds_500 : decode cL_holds 500 = .ok (.bipush 17, 2) := by decide +kernel
theorem dL_holds_502 : decode cL_holds 502 = .ok (.if_icmp .ge 7, 3) := by decide +kernel
theorem dL_holds_505 : decode cL_holds 505 = .ok (.iconst 3, 1) := by decide +kernel
theorem dL_holds_506 : decode cL_holds 506 = .ok (.goto 4, 3) := by decide +kernel
theorem dL_holds_509 : decode cL_holds 509 = .ok (.iconst 0, 1) := by decide +kernel
theorem dL_holds_510 : decode cL_holds 510 = .ok (.if_icmp .ne 7, 3) := by decide +kernel
theorem dL_holds_513 : decode cL_holds 513 = .ok (.iconst 1, 1) := by decide +kernel
theorem dL_holds_514 : decode cL_holds 514 = .ok (.goto 4, 3) := by decide +kernel
theorem dL_holds_517 : decode cL_holds 517 = .ok (.iconst 0, 1) := by decide +kernel
theorem dL_holds_518 : decode cL_holds 518 = .ok (.istore 12, 2) := by decide +kernel
theorem dL_holds_520 : decode cL_holds 520 = .ok (.iinc 13 1, 3) := by decide +kernel
theorem dL_holds_523 : decode cL_holds 523 = .ok (.goto (-350), 3) := by decide +kernel
theorem dL_holds_526 : decode cL_holds 526 = .ok (.aload_n 0, 1) := by decide +kernel
theorem dL_holds_527 : decode cL_holds 527 = .ok (.invokevirtual 165, 3) := by decide +kernel
theorem dL_holds_530 : decode cL_holds 530 = .ok (.lstore 13, 2) := by decide +kernel
theorem dL_holds_532 : decode cL_holds 532 = .ok (.lload_n 2, 1) := by decide +kernel
theorem dL_holds_533 : decode cL_holds 533 = .ok (.lstore 15, 2) := by decide +kernel
theorem dL_holds_535 : decode cL_holds 535 = .ok (.iconst 1, 1) := by decide +kernel
theorem dL_holds_536 : decode cL_holds 536 = .ok (.istore 17, 2) := by decide +kernel
theorem dL_holds_538 : decode cL_holds 538 = .ok (.iload 17, 2) := by decide +kernel
theorem dL_holds_540 : decode cL_holds 540 = .ok (.bipush 49, 2) := by decide +kernel
theorem dL_holds_542 : decode cL_holds 542 = .ok (.if_icmp .ge 35, 3) := by decide +kernel
theorem dL_holds_545 : decode cL_holds 545 = .ok (.lload 15, 2) := by decide +kernel
theorem dL_holds_547 : decode cL_holds 547 = .ok (.lload 13, 2) := by decide +kernel
theorem dL_holds_549 : decode cL_holds 549 = .ok (.iload 17, 2) := by decide +kernel
theorem dL_holds_551 : decode cL_holds 551 = .ok (.lshr, 1) := by decide +kernel
theorem dL_holds_552 : decode cL_holds 552 = .ok (.lconst 1, 1) := by decide +kernel
theorem dL_holds_553 : decode cL_holds 553 = .ok (.land, 1) := by decide +kernel
theorem dL_holds_554 : decode cL_holds 554 = .ok (.lconst 1, 1) := by decide +kernel
theorem dL_holds_555 : decode cL_holds 555 = .ok (.lcmp, 1) := by decide +kernel
theorem dL_holds_556 : decode cL_holds 556 = .ok (.ifCond .ne 11, 3) := by decide +kernel
theorem dL_holds_559 : decode cL_holds 559 = .ok (.iload 17, 2) := by decide +kernel
theorem dL_holds_561 : decode cL_holds 561 = .ok (.invokestatic 168, 3) := by decide +kernel
theorem dL_holds_564 : decode cL_holds 564 = .ok (.goto 4, 3) := by decide +kernel
theorem dL_holds_567 : decode cL_holds 567 = .ok (.lconst 0, 1) := by decide +kernel
theorem dL_holds_568 : decode cL_holds 568 = .ok (.lxor, 1) := by decide +kernel
theorem dL_holds_569 : decode cL_holds 569 = .ok (.lstore 15, 2) := by decide +kernel
theorem dL_holds_571 : decode cL_holds 571 = .ok (.iinc 17 1, 3) := by decide +kernel
theorem dL_holds_574 : decode cL_holds 574 = .ok (.goto (-36), 3) := by decide +kernel
theorem dL_holds_577 : decode cL_holds 577 = .ok (.aload_n 0, 1) := by decide +kernel
theorem dL_holds_578 : decode cL_holds 578 = .ok (.invokevirtual 172, 3) := by decide +kernel
theorem dL_holds_581 : decode cL_holds 581 = .ok (.istore 17, 2) := by decide +kernel
theorem dL_holds_583 : decode cL_holds 583 = .ok (.lload_n 2, 1) := by decide +kernel
theorem dL_holds_584 : decode cL_holds 584 = .ok (.iload 17, 2) := by decide +kernel
theorem dL_holds_586 : decode cL_holds 586 = .ok (.invokestatic 168, 3) := by decide +kernel
theorem dL_holds_589 : decode cL_holds 589 = .ok (.lload 4, 2) := by decide +kernel
theorem dL_holds_591 : decode cL_holds 591 = .ok (.ldc2_w 175, 3) := by decide +kernel
theorem dL_holds_594 : decode cL_holds 594 = .ok (.lxor, 1) := by decide +kernel
theorem dL_holds_595 : decode cL_holds 595 = .ok (.land, 1) := by decide +kernel
theorem dL_holds_596 : decode cL_holds 596 = .ok (.lxor, 1) := by decide +kernel
theorem dL_holds_597 : decode cL_holds 597 = .ok (.invokestatic 135, 3) := by decide +kernel
theorem dL_holds_600 : decode cL_holds 600 = .ok (.istore 18, 2) := by decide +kernel
theorem dL_holds_602 : decode cL_holds 602 = .ok (.iconst 1, 1) := by decide +kernel
theorem dL_holds_603 : decode cL_holds 603 = .ok (.istore 19, 2) := by decide +kernel
theorem dL_holds_605 : decode cL_holds 605 = .ok (.iload 19, 2) := by decide +kernel
theorem dL_holds_607 : decode cL_holds 607 = .ok (.bipush 49, 2) := by decide +kernel
theorem dL_holds_609 : decode cL_holds 609 = .ok (.if_icmp .ge 61, 3) := by decide +kernel
theorem dL_holds_612 : decode cL_holds 612 = .ok (.iload 12, 2) := by decide +kernel
theorem dL_holds_614 : decode cL_holds 614 = .ok (.ifCond .eq 56, 3) := by decide +kernel
theorem dL_holds_617 : decode cL_holds 617 = .ok (.lload_n 2, 1) := by decide +kernel
theorem dL_holds_618 : decode cL_holds 618 = .ok (.iload 19, 2) := by decide +kernel
theorem dL_holds_620 : decode cL_holds 620 = .ok (.invokestatic 168, 3) := by decide +kernel
theorem dL_holds_623 : decode cL_holds 623 = .ok (.lload 4, 2) := by decide +kernel
theorem dL_holds_625 : decode cL_holds 625 = .ok (.ldc2_w 175, 3) := by decide +kernel
theorem dL_holds_628 : decode cL_holds 628 = .ok (.lxor, 1) := by decide +kernel
theorem dL_holds_629 : decode cL_holds 629 = .ok (.land, 1) := by decide +kernel
theorem dL_holds_630 : decode cL_holds 630 = .ok (.lxor, 1) := by decide +kernel
theorem dL_holds_631 : decode cL_holds 631 = .ok (.invokestatic 135, 3) := by decide +kernel
theorem dL_holds_634 : decode cL_holds 634 = .ok (.istore 20, 2) := by decide +kernel
theorem dL_holds_636 : decode cL_holds 636 = .ok (.iload 20, 2) := by decide +kernel
theorem dL_holds_638 : decode cL_holds 638 = .ok (.iload 18, 2) := by decide +kernel
theorem dL_holds_640 : decode cL_holds 640 = .ok (.if_icmp .lt 21, 3) := by decide +kernel
theorem dL_holds_643 : decode cL_holds 643 = .ok (.iload 19, 2) := by decide +kernel
theorem dL_holds_645 : decode cL_holds 645 = .ok (.iload 17, 2) := by decide +kernel
theorem dL_holds_647 : decode cL_holds 647 = .ok (.if_icmp .ge 10, 3) := by decide +kernel
theorem dL_holds_650 : decode cL_holds 650 = .ok (.iload 20, 2) := by decide +kernel
theorem dL_holds_652 : decode cL_holds 652 = .ok (.iload 18, 2) := by decide +kernel
theorem dL_holds_654 : decode cL_holds 654 = .ok (.if_icmp .le 7, 3) := by decide +kernel
theorem dL_holds_657 : decode cL_holds 657 = .ok (.iconst 1, 1) := by decide +kernel
theorem dL_holds_658 : decode cL_holds 658 = .ok (.goto 4, 3) := by decide +kernel
theorem dL_holds_661 : decode cL_holds 661 = .ok (.iconst 0, 1) := by decide +kernel
theorem dL_holds_662 : decode cL_holds 662 = .ok (.istore 12, 2) := by decide +kernel
theorem dL_holds_664 : decode cL_holds 664 = .ok (.iinc 19 1, 3) := by decide +kernel
theorem dL_holds_667 : decode cL_holds 667 = .ok (.goto (-62), 3) := by decide +kernel
theorem dL_holds_670 : decode cL_holds 670 = .ok (.iconst 1, 1) := by decide +kernel
theorem dL_holds_671 : decode cL_holds 671 = .ok (.iload_n 1, 1) := by decide +kernel
theorem dL_holds_672 : decode cL_holds 672 = .ok (.bipush 48, 2) := by decide +kernel
theorem dL_holds_674 : decode cL_holds 674 = .ok (.invokestatic 177, 3) := by decide +kernel
theorem dL_holds_677 : decode cL_holds 677 = .ok (.iadd, 1) := by decide +kernel
theorem dL_holds_678 : decode cL_holds 678 = .ok (.istore 19, 2) := by decide +kernel
theorem dL_holds_680 : decode cL_holds 680 = .ok (.iload 19, 2) := by decide +kernel
theorem dL_holds_682 : decode cL_holds 682 = .ok (.iload_n 1, 1) := by decide +kernel
theorem dL_holds_683 : decode cL_holds 683 = .ok (.bipush 6, 2) := by decide +kernel
theorem dL_holds_685 : decode cL_holds 685 = .ok (.ishr, 1) := by decide +kernel
theorem dL_holds_686 : decode cL_holds 686 = .ok (.bipush 49, 2) := by decide +kernel
theorem dL_holds_688 : decode cL_holds 688 = .ok (.iload 19, 2) := by decide +kernel
theorem dL_holds_690 : decode cL_holds 690 = .ok (.isub, 1) := by decide +kernel
theorem dL_holds_691 : decode cL_holds 691 = .ok (.invokestatic 177, 3) := by decide +kernel
theorem dL_holds_694 : decode cL_holds 694 = .ok (.iadd, 1) := by decide +kernel
theorem dL_holds_695 : decode cL_holds 695 = .ok (.istore 20, 2) := by decide +kernel
theorem dL_holds_697 : decode cL_holds 697 = .ok (.lload_n 2, 1) := by decide +kernel
theorem dL_holds_698 : decode cL_holds 698 = .ok (.lstore 21, 2) := by decide +kernel
theorem dL_holds_700 : decode cL_holds 700 = .ok (.iload 19, 2) := by decide +kernel
theorem dL_holds_702 : decode cL_holds 702 = .ok (.istore 23, 2) := by decide +kernel
theorem dL_holds_704 : decode cL_holds 704 = .ok (.iload 23, 2) := by decide +kernel
theorem dL_holds_706 : decode cL_holds 706 = .ok (.iload 20, 2) := by decide +kernel
theorem dL_holds_708 : decode cL_holds 708 = .ok (.if_icmp .gt 39, 3) := by decide +kernel
theorem dL_holds_711 : decode cL_holds 711 = .ok (.lload 21, 2) := by decide +kernel
theorem dL_holds_713 : decode cL_holds 713 = .ok (.aload_n 0, 1) := by decide +kernel
theorem dL_holds_714 : decode cL_holds 714 = .ok (.iload 23, 2) := by decide +kernel
theorem dL_holds_716 : decode cL_holds 716 = .ok (.invokevirtual 45, 3) := by decide +kernel
theorem dL_holds_719 : decode cL_holds 719 = .ok (.ifCond .eq 7, 3) := by decide +kernel
theorem dL_holds_722 : decode cL_holds 722 = .ok (.lconst 0, 1) := by decide +kernel
theorem dL_holds_723 : decode cL_holds 723 = .ok (.goto 15, 3) := by decide +kernel
theorem dL_holds_726 : decode cL_holds 726 = .ok (.iload 23, 2) := by decide +kernel
theorem dL_holds_728 : decode cL_holds 728 = .ok (.invokestatic 168, 3) := by decide +kernel
theorem dL_holds_731 : decode cL_holds 731 = .ok (.lload 4, 2) := by decide +kernel
theorem dL_holds_733 : decode cL_holds 733 = .ok (.ldc2_w 175, 3) := by decide +kernel
theorem dL_holds_736 : decode cL_holds 736 = .ok (.lxor, 1) := by decide +kernel
theorem dL_holds_737 : decode cL_holds 737 = .ok (.land, 1) := by decide +kernel
theorem dL_holds_738 : decode cL_holds 738 = .ok (.lxor, 1) := by decide +kernel
theorem dL_holds_739 : decode cL_holds 739 = .ok (.lstore 21, 2) := by decide +kernel
theorem dL_holds_741 : decode cL_holds 741 = .ok (.iinc 23 1, 3) := by decide +kernel
theorem dL_holds_744 : decode cL_holds 744 = .ok (.goto (-40), 3) := by decide +kernel
theorem dL_holds_747 : decode cL_holds 747 = .ok (.iload 12, 2) := by decide +kernel
theorem dL_holds_749 : decode cL_holds 749 = .ok (.ifCond .eq 147, 3) := by decide +kernel
theorem dL_holds_752 : decode cL_holds 752 = .ok (.lload 15, 2) := by decide +kernel
theorem dL_holds_754 : decode cL_holds 754 = .ok (.lconst 0, 1) := by decide +kernel
theorem dL_holds_755 : decode cL_holds 755 = .ok (.lcmp, 1) := by decide +kernel
theorem dL_holds_756 : decode cL_holds 756 = .ok (.ifCond .ne 140, 3) := by decide +kernel
theorem dL_holds_759 : decode cL_holds 759 = .ok (.lload 13, 2) := by decide +kernel
theorem dL_holds_761 : decode cL_holds 761 = .ok (.aload_n 0, 1) := by decide +kernel
theorem dL_holds_762 : decode cL_holds 762 = .ok (.invokevirtual 180, 3) := by decide +kernel
theorem dL_holds_765 : decode cL_holds 765 = .ok (.lcmp, 1) := by decide +kernel
theorem dL_holds_766 : decode cL_holds 766 = .ok (.ifCond .ne 130, 3) := by decide +kernel
theorem dL_holds_769 : decode cL_holds 769 = .ok (.lload 13, 2) := by decide +kernel
theorem dL_holds_771 : decode cL_holds 771 = .ok (.lconst 1, 1) := by decide +kernel
theorem dL_holds_772 : decode cL_holds 772 = .ok (.land, 1) := by decide +kernel
theorem dL_holds_773 : decode cL_holds 773 = .ok (.lconst 0, 1) := by decide +kernel
theorem dL_holds_774 : decode cL_holds 774 = .ok (.lcmp, 1) := by decide +kernel
theorem dL_holds_775 : decode cL_holds 775 = .ok (.ifCond .ne 121, 3) := by decide +kernel
theorem dL_holds_778 : decode cL_holds 778 = .ok (.aload_n 0, 1) := by decide +kernel
theorem dL_holds_779 : decode cL_holds 779 = .ok (.invokevirtual 183, 3) := by decide +kernel
theorem dL_holds_782 : decode cL_holds 782 = .ok (.lload 13, 2) := by decide +kernel
theorem dL_holds_784 : decode cL_holds 784 = .ok (.invokestatic 135, 3) := by decide +kernel
theorem dL_holds_787 : decode cL_holds 787 = .ok (.if_icmp .ne 109, 3) := by decide +kernel
theorem dL_holds_790 : decode cL_holds 790 = .ok (.aload_n 0, 1) := by decide +kernel
theorem dL_holds_791 : decode cL_holds 791 = .ok (.iload 19, 2) := by decide +kernel
theorem dL_holds_793 : decode cL_holds 793 = .ok (.iload 20, 2) := by decide +kernel
theorem dL_holds_795 : decode cL_holds 795 = .ok (.invokevirtual 53, 3) := by decide +kernel
theorem dL_holds_798 : decode cL_holds 798 = .ok (.lload 21, 2) := by decide +kernel
theorem dL_holds_800 : decode cL_holds 800 = .ok (.invokestatic 135, 3) := by decide +kernel
theorem dL_holds_803 : decode cL_holds 803 = .ok (.if_icmp .ne 93, 3) := by decide +kernel
theorem dL_holds_806 : decode cL_holds 806 = .ok (.iload 7, 2) := by decide +kernel
theorem dL_holds_808 : decode cL_holds 808 = .ok (.aload_n 0, 1) := by decide +kernel
theorem dL_holds_809 : decode cL_holds 809 = .ok (.invokevirtual 186, 3) := by decide +kernel
theorem dL_holds_812 : decode cL_holds 812 = .ok (.if_icmp .ne 84, 3) := by decide +kernel
theorem dL_holds_815 : decode cL_holds 815 = .ok (.iload 8, 2) := by decide +kernel
theorem dL_holds_817 : decode cL_holds 817 = .ok (.aload_n 0, 1) := by decide +kernel
theorem dL_holds_818 : decode cL_holds 818 = .ok (.invokevirtual 189, 3) := by decide +kernel
theorem dL_holds_821 : decode cL_holds 821 = .ok (.if_icmp .ne 75, 3) := by decide +kernel
theorem dL_holds_824 : decode cL_holds 824 = .ok (.iload 9, 2) := by decide +kernel
theorem dL_holds_826 : decode cL_holds 826 = .ok (.aload_n 0, 1) := by decide +kernel
theorem dL_holds_827 : decode cL_holds 827 = .ok (.iconst 0, 1) := by decide +kernel
theorem dL_holds_828 : decode cL_holds 828 = .ok (.invokevirtual 62, 3) := by decide +kernel
theorem dL_holds_831 : decode cL_holds 831 = .ok (.if_icmp .ne 65, 3) := by decide +kernel
theorem dL_holds_834 : decode cL_holds 834 = .ok (.iload 10, 2) := by decide +kernel
theorem dL_holds_836 : decode cL_holds 836 = .ok (.aload_n 0, 1) := by decide +kernel
theorem dL_holds_837 : decode cL_holds 837 = .ok (.iconst 1, 1) := by decide +kernel
theorem dL_holds_838 : decode cL_holds 838 = .ok (.invokevirtual 62, 3) := by decide +kernel
theorem dL_holds_841 : decode cL_holds 841 = .ok (.if_icmp .ne 55, 3) := by decide +kernel
theorem dL_holds_844 : decode cL_holds 844 = .ok (.aload_n 0, 1) := by decide +kernel
theorem dL_holds_845 : decode cL_holds 845 = .ok (.invokevirtual 192, 3) := by decide +kernel
theorem dL_holds_848 : decode cL_holds 848 = .ok (.iload 6, 2) := by decide +kernel
theorem dL_holds_850 : decode cL_holds 850 = .ok (.i2f, 1) := by decide +kernel
theorem dL_holds_851 : decode cL_holds 851 = .ok (.ldc 196, 2) := by decide +kernel
theorem dL_holds_853 : decode cL_holds 853 = .ok (.fdiv, 1) := by decide +kernel
theorem dL_holds_854 : decode cL_holds 854 = .ok (.fcmp .l, 1) := by decide +kernel
theorem dL_holds_855 : decode cL_holds 855 = .ok (.ifCond .ne 41, 3) := by decide +kernel
theorem dL_holds_858 : decode cL_holds 858 = .ok (.aload_n 0, 1) := by decide +kernel
theorem dL_holds_859 : decode cL_holds 859 = .ok (.invokevirtual 197, 3) := by decide +kernel
theorem dL_holds_862 : decode cL_holds 862 = .ok (.iload 6, 2) := by decide +kernel
theorem dL_holds_864 : decode cL_holds 864 = .ok (.invokestatic 200, 3) := by decide +kernel
theorem dL_holds_867 : decode cL_holds 867 = .ok (.if_icmp .ne 29, 3) := by decide +kernel
theorem dL_holds_870 : decode cL_holds 870 = .ok (.aload_n 0, 1) := by decide +kernel
theorem dL_holds_871 : decode cL_holds 871 = .ok (.invokevirtual 203, 3) := by decide +kernel
theorem dL_holds_874 : decode cL_holds 874 = .ok (.fload 11, 2) := by decide +kernel
theorem dL_holds_876 : decode cL_holds 876 = .ok (.fcmp .l, 1) := by decide +kernel
theorem dL_holds_877 : decode cL_holds 877 = .ok (.ifCond .ne 19, 3) := by decide +kernel
theorem dL_holds_880 : decode cL_holds 880 = .ok (.aload_n 0, 1) := by decide +kernel
theorem dL_holds_881 : decode cL_holds 881 = .ok (.invokevirtual 206, 3) := by decide +kernel
theorem dL_holds_884 : decode cL_holds 884 = .ok (.lload_n 2, 1) := by decide +kernel
theorem dL_holds_885 : decode cL_holds 885 = .ok (.invokestatic 209, 3) := by decide +kernel
theorem dL_holds_888 : decode cL_holds 888 = .ok (.lcmp, 1) := by decide +kernel
theorem dL_holds_889 : decode cL_holds 889 = .ok (.ifCond .ne 7, 3) := by decide +kernel
theorem dL_holds_892 : decode cL_holds 892 = .ok (.iconst 1, 1) := by decide +kernel
theorem dL_holds_893 : decode cL_holds 893 = .ok (.goto 4, 3) := by decide +kernel
theorem dL_holds_896 : decode cL_holds 896 = .ok (.iconst 0, 1) := by decide +kernel
theorem dL_holds_897 : decode cL_holds 897 = .ok (.ireturn, 1) := by decide +kernel
set_option maxRecDepth 20000 in
theorem ggL_number_X5_type : GoodIn wsL_number wsX5_type := goodIn_ca (goodIn_ca (goodIn_r _ [5, 6, 7, 8, 9, 10, 11, 12, 13, 14, 15, 16, 17, 18, 19, 20, 21, 22, 23, 24, 25] rfl (by decide +kernel)) (goodIn_sub (fun _ h => List.mem_cons_of_mem _ (List.mem_append_left _ (List.mem_append_right _ h))) (by decide +kernel))) (goodIn_sub (fun _ h => List.mem_cons_of_mem _ (List.mem_append_right _ h)) (by decide +kernel))
set_option maxRecDepth 20000 in
theorem gL_number_X5_type : GoodIn wsL_number (wsV RL 72 RX5 yX5_type wsX5_type) := goodIn_app (goodIn_of _ (by decide +kernel)) ggL_number_X5_type
theorem dL_number_0 : decode cL_number 0 = .ok (.iload_n 1, 1) := by decide +kernel
theorem dL_number_1 : decode cL_number 1 = .ok (.bipush 10, 2) := by decide +kernel
theorem dL_number_3 : decode cL_number 3 = .ok (.if_icmp .lt 17, 3) := by decide +kernel
theorem dL_number_6 : decode cL_number 6 = .ok (.aload_n 0, 1) := by decide +kernel
theorem dL_number_7 : decode cL_number 7 = .ok (.bipush 48, 2) := by decide +kernel
theorem dL_number_9 : decode cL_number 9 = .ok (.iload_n 1, 1) := by decide +kernel
theorem dL_number_10 : decode cL_number 10 = .ok (.bipush 10, 2) := by decide +kernel
theorem dL_number_12 : decode cL_number 12 = .ok (.idiv, 1) := by decide +kernel
theorem dL_number_13 : decode cL_number 13 = .ok (.iadd, 1) := by decide +kernel
theorem dL_number_14 : decode cL_number 14 = .ok (.invokevirtual 72, 3) := by decide +kernel
theorem dL_number_17 : decode cL_number 17 = .ok (.ifCond .le 21, 3) := by decide +kernel
theorem dL_number_20 : decode cL_number 20 = .ok (.aload_n 0, 1) := by decide +kernel
theorem dL_number_21 : decode cL_number 21 = .ok (.bipush 48, 2) := by decide +kernel
theorem dL_number_23 : decode cL_number 23 = .ok (.iload_n 1, 1) := by decide +kernel
theorem dL_number_24 : decode cL_number 24 = .ok (.bipush 10, 2) := by decide +kernel
theorem dL_number_26 : decode cL_number 26 = .ok (.irem, 1) := by decide +kernel
theorem dL_number_27 : decode cL_number 27 = .ok (.iadd, 1) := by decide +kernel
theorem dL_number_28 : decode cL_number 28 = .ok (.invokevirtual 72, 3) := by decide +kernel
theorem dL_number_31 : decode cL_number 31 = .ok (.ifCond .le 7, 3) := by decide +kernel
theorem dL_number_34 : decode cL_number 34 = .ok (.iconst 1, 1) := by decide +kernel
theorem dL_number_35 : decode cL_number 35 = .ok (.goto 4, 3) := by decide +kernel
theorem dL_number_38 : decode cL_number 38 = .ok (.iconst 0, 1) := by decide +kernel
theorem dL_number_39 : decode cL_number 39 = .ok (.ireturn, 1) := by decide +kernel
set_option maxRecDepth 20000 in
theorem ggL_reads_L_low : GoodIn wsL_reads wsL_low := goodIn_r _ [4, 5] rfl (by decide +kernel)
set_option maxRecDepth 20000 in
theorem gL_reads_L_low : GoodIn wsL_reads (va_wsS RL 177 yL_low wsL_low) := goodIn_app (goodIn_of _ (by decide +kernel)) ggL_reads_L_low
set_option maxRecDepth 20000 in
theorem ggL_reads_X5_clearText : GoodIn wsL_reads wsX5_clearText := goodIn_r _ [10, 11, 190, 191, 192, 193, 194, 195, 196, 197] rfl (by decide +kernel)
set_option maxRecDepth 20000 in
theorem gL_reads_X5_clearText : GoodIn wsL_reads (wsV RL 213 RX5 yX5_clearText wsX5_clearText) := goodIn_app (goodIn_of _ (by decide +kernel)) ggL_reads_X5_clearText
set_option maxRecDepth 20000 in
theorem ggL_reads_X5_type : GoodIn wsL_reads wsX5_type := goodIn_ca (goodIn_ca (goodIn_r _ [15, 16, 17, 18, 19, 11, 20, 21, 22, 23, 24, 25, 26, 190, 191, 192, 193, 194, 195, 196, 197] rfl (by decide +kernel)) (goodIn_sub (fun _ h => List.mem_cons_of_mem _ (List.mem_append_left _ (List.mem_append_left _ (List.mem_append_right _ h)))) (by decide +kernel))) (goodIn_sub (fun _ h => List.mem_cons_of_mem _ (List.mem_append_left _ (List.mem_append_right _ h))) (by decide +kernel))
set_option maxRecDepth 20000 in
theorem gL_reads_X5_type : GoodIn wsL_reads (wsV RL 72 RX5 yX5_type wsX5_type) := goodIn_app (goodIn_of _ (by decide +kernel)) ggL_reads_X5_type
set_option maxRecDepth 20000 in
theorem ggL_reads_L_number : GoodIn wsL_reads wsL_number := goodIn_ca (goodIn_ca (goodIn_r _ [29, 12, 13, 14, 9, 15, 16, 17, 18, 19, 11, 20, 21, 22, 23, 24, 25, 26, 190, 191, 192, 193, 194, 195, 196, 197] rfl (by decide +kernel)) (goodIn_sub (fun _ h => List.mem_cons_of_mem _ (List.mem_append_left _ (List.mem_append_left _ (List.mem_append_right _ h)))) (by decide +kernel))) (goodIn_sub (fun _ h => List.mem_cons_of_mem _ (List.mem_append_left _ (List.mem_append_right _ h))) (by decide +kernel))
set_option maxRecDepth 20000 in
theorem gL_reads_L_number : GoodIn wsL_reads (va_wsS RL 216 yL_number wsL_number) := goodIn_app (goodIn_of _ (by decide +kernel)) ggL_reads_L_number
set_option maxRecDepth 20000 in
theorem ggL_reads_X5_states : GoodIn wsL_reads wsX5_states := goodIn_r _ [33, 34, 190, 191, 192, 193, 194, 195, 198, 199] rfl (by decide +kernel)
set_option maxRecDepth 20000 in
theorem gL_reads_X5_states : GoodIn wsL_reads (wsV RL 147 RX5 yX5_states wsX5_states) := goodIn_app (goodIn_of _ (by decide +kernel)) ggL_reads_X5_states
set_option maxRecDepth 20000 in
theorem ggL_reads_L_faultPosition : GoodIn wsL_reads wsL_faultPosition := goodIn_ca (goodIn_r _ [37, 38, 39, 40, 41, 9, 42, 43, 44, 45, 11, 46, 47, 48, 49, 50, 51, 52, 53, 54, 55, 56, 57, 58, 59, 60, 61, 62, 63, 64, 65, 66, 67, 68, 69, 70, 71, 72, 73, 74, 75, 76, 77, 78, 79, 80, 81, 82, 83, 84, 85, 23, 86, 25, 26, 87, 88, 89, 90, 91, 92, 93, 94, 95, 96, 97, 98, 99, 100, 101, 102, 103, 104, 105, 106, 107, 108, 109, 110, 111, 112, 113, 114, 115, 116, 117, 118, 119, 120, 121, 122, 123, 124, 125, 126, 127, 128, 129, 130, 131, 132, 133, 134, 135, 136, 137, 138, 139, 140, 141, 142, 143, 144, 145, 146, 147, 148, 149, 150, 151, 152, 153, 154, 190, 191, 192, 193, 194, 195, 200, 201, 202, 203, 204, 205, 196, 197, 206, 207, 208, 209, 210, 211, 212, 213, 214, 215, 216, 217] rfl (by decide +kernel)) (goodIn_sub (fun _ h => List.mem_cons_of_mem _ (List.mem_append_right _ h)) (by decide +kernel))
set_option maxRecDepth 20000 in
theorem gL_reads_L_faultPosition : GoodIn wsL_reads (va_wsS RL 220 yL_faultPosition wsL_faultPosition) := goodIn_app (goodIn_of _ (by decide +kernel)) ggL_reads_L_faultPosition
set_option maxRecDepth 20000 in
theorem ggL_reads_L_faultReason : GoodIn wsL_reads wsL_faultReason := goodIn_ca (goodIn_r _ [157, 38, 158, 159, 160, 9, 161, 43, 44, 45, 11, 46, 47, 48, 49, 50, 51, 52, 53, 54, 55, 56, 57, 58, 59, 60, 61, 62, 63, 64, 65, 66, 67, 68, 69, 70, 71, 72, 73, 74, 75, 76, 77, 78, 79, 80, 81, 82, 83, 84, 85, 23, 86, 25, 26, 87, 88, 89, 90, 91, 92, 93, 94, 95, 96, 97, 98, 99, 100, 101, 102, 103, 104, 105, 106, 107, 108, 109, 110, 111, 112, 113, 114, 115, 116, 117, 118, 119, 120, 121, 122, 123, 124, 125, 126, 127, 128, 129, 130, 131, 132, 133, 134, 135, 136, 137, 138, 139, 140, 141, 142, 143, 144, 145, 146, 147, 148, 149, 150, 151, 152, 153, 154, 190, 191, 192, 193, 194, 195, 200, 201, 202, 203, 204, 205, 196, 197, 206, 207, 208, 209, 210, 211, 212, 213, 214, 215, 216, 217] rfl (by decide +kernel)) (goodIn_sub (fun _ h => List.mem_cons_of_mem _ (List.mem_append_right _ h)) (by decide +kernel))
set_option maxRecDepth 20000 in
theorem gL_reads_L_faultReason : GoodIn wsL_reads (va_wsS RL 223 yL_faultReason wsL_faultReason) := goodIn_app (goodIn_of _ (by decide +kernel)) ggL_reads_L_faultReason
set_option maxRecDepth 20000 in
theorem ggL_reads_L_faultCause : GoodIn wsL_reads wsL_faultCause := goodIn_ca (goodIn_r _ [164, 38, 165, 166, 167, 9, 168, 43, 44, 45, 11, 46, 47, 48, 49, 50, 51, 52, 53, 54, 55, 56, 57, 58, 59, 60, 61, 62, 63, 64, 65, 66, 67, 68, 69, 70, 71, 72, 73, 74, 75, 76, 77, 78, 79, 80, 81, 82, 83, 84, 85, 23, 86, 25, 26, 87, 88, 89, 90, 91, 92, 93, 94, 95, 96, 97, 98, 99, 100, 101, 102, 103, 104, 105, 106, 107, 108, 109, 110, 111, 112, 113, 114, 115, 116, 117, 118, 119, 120, 121, 122, 123, 124, 125, 126, 127, 128, 129, 130, 131, 132, 133, 134, 135, 136, 137, 138, 139, 140, 141, 142, 143, 144, 145, 146, 147, 148, 149, 150, 151, 152, 153, 154, 190, 191, 192, 193, 194, 195, 200, 201, 202, 203, 204, 205, 196, 197, 206, 207, 208, 209, 210, 211, 212, 213, 214, 215, 216, 217] rfl (by decide +kernel)) (goodIn_sub (fun _ h => List.mem_cons_of_mem _ (List.mem_append_right _ h)) (by decide +kernel))
set_option maxRecDepth 20000 in
theorem gL_reads_L_faultCause : GoodIn wsL_reads (va_wsS RL 225 yL_faultCause wsL_faultCause) := goodIn_app (goodIn_of _ (by decide +kernel)) ggL_reads_L_faultCause
set_option maxRecDepth 20000 in
theorem ggL_reads_L_play : GoodIn wsL_reads wsL_play := goodIn_ca (goodIn_r _ [171, 172, 173, 174, 175, 9, 176, 18, 19, 45, 11, 46, 34, 47, 48, 49, 50, 51, 52, 53, 54, 55, 56, 57, 58, 59, 60, 61, 62, 63, 64, 65, 66, 67, 68, 69, 70, 71, 72, 73, 74, 75, 76, 77, 78, 79, 80, 81, 82, 83, 84, 85, 23, 86, 25, 26, 87, 88, 89, 90, 91, 92, 93, 94, 95, 96, 97, 98, 99, 100, 101, 102, 103, 104, 105, 106, 107, 108, 109, 110, 111, 112, 113, 114, 115, 116, 117, 118, 119, 120, 121, 122, 123, 124, 125, 126, 127, 128, 129, 130, 131, 132, 133, 134, 135, 136, 137, 138, 139, 140, 141, 142, 143, 144, 145, 146, 147, 148, 149, 150, 151, 152, 153, 154, 177, 178, 179, 180, 181, 182, 183, 184, 185, 186, 187, 188, 189, 190, 191, 192, 193, 194, 195, 200, 201, 202, 203, 204, 205, 196, 197, 206, 207, 208, 209, 210, 211, 212, 213, 214, 215, 216, 217, 198, 199] rfl (by decide +kernel)) (goodIn_sub (fun _ h => List.mem_cons_of_mem _ (List.mem_append_left _ (List.mem_append_right _ h))) (by decide +kernel))
set_option maxRecDepth 20000 in
theorem gL_reads_L_play : GoodIn wsL_reads (va_wsS RL 227 yL_play wsL_play) := goodIn_app (goodIn_of _ (by decide +kernel)) ggL_reads_L_play
theorem dL_reads_0 : decode cL_reads 0 = .ok (.iload_n 1, 1) := by decide +kernel
theorem dL_reads_1 : decode cL_reads 1 = .ok (.bipush 9, 2) := by decide +kernel
theorem dL_reads_3 : decode cL_reads 3 = .ok (.invokestatic 177, 3) := by decide +kernel
theorem dL_reads_6 : decode cL_reads 6 = .ok (.istore_n 2, 1) := by decide +kernel
theorem dL_reads_7 : decode cL_reads 7 = .ok (.aload_n 0, 1) := by decide +kernel
theorem dL_reads_8 : decode cL_reads 8 = .ok (.invokevirtual 213, 3) := by decide +kernel
theorem dL_reads_11 : decode cL_reads 11 = .ok (.ifCond .lt 7, 3) := by decide +kernel
theorem dL_reads_14 : decode cL_reads 14 = .ok (.iconst 1, 1) := by decide +kernel
theorem dL_reads_15 : decode cL_reads 15 = .ok (.goto 4, 3) := by decide +kernel
theorem dL_reads_18 : decode cL_reads 18 = .ok (.iconst 0, 1) := by decide +kernel
theorem dL_reads_19 : decode cL_reads 19 = .ok (.istore_n 3, 1) := by decide +kernel
theorem dL_reads_20 : decode cL_reads 20 = .ok (.iconst 0, 1) := by decide +kernel
