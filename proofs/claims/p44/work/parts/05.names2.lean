theorem dX5_takeOut_7 : decode cX5_takeOut 7 = .ok (.new 48, 3) := by decide +kernel
theorem dX5_takeOut_10 : decode cX5_takeOut 10 = .ok (.dup, 1) := by decide +kernel
theorem dX5_takeOut_11 : decode cX5_takeOut 11 = .ok (.ldc 83, 2) := by decide +kernel
theorem dX5_takeOut_13 : decode cX5_takeOut 13 = .ok (.invokespecial 52, 3) := by decide +kernel
theorem dX5_takeOut_16 : decode cX5_takeOut 16 = .ok (.athrow, 1) := by decide +kernel
theorem dX5_takeOut_17 : decode cX5_takeOut 17 = .ok (.aload_n 0, 1) := by decide +kernel
theorem dX5_takeOut_18 : decode cX5_takeOut 18 = .ok (.getfield 10, 3) := by decide +kernel
theorem dX5_takeOut_21 : decode cX5_takeOut 21 = .ok (.getfield 63, 3) := by decide +kernel
theorem dX5_takeOut_24 : decode cX5_takeOut 24 = .ok (.iload_n 1, 1) := by decide +kernel
theorem dX5_takeOut_25 : decode cX5_takeOut 25 = .ok (.invokestatic 88, 3) := by decide +kernel
theorem dX5_takeOut_28 : decode cX5_takeOut 28 = .ok (.ifCond .ne 13, 3) := by decide +kernel
theorem dX5_takeOut_31 : decode cX5_takeOut 31 = .ok (.new 92, 3) := by decide +kernel
theorem dX5_takeOut_34 : decode cX5_takeOut 34 = .ok (.dup, 1) := by decide +kernel
theorem dX5_takeOut_35 : decode cX5_takeOut 35 = .ok (.ldc 127, 2) := by decide +kernel
theorem dX5_takeOut_37 : decode cX5_takeOut 37 = .ok (.invokespecial 96, 3) := by decide +kernel
theorem dX5_takeOut_40 : decode cX5_takeOut 40 = .ok (.athrow, 1) := by decide +kernel
theorem dX5_takeOut_41 : decode cX5_takeOut 41 = .ok (.aload_n 0, 1) := by decide +kernel
theorem dX5_takeOut_42 : decode cX5_takeOut 42 = .ok (.getfield 10, 3) := by decide +kernel
theorem dX5_takeOut_45 : decode cX5_takeOut 45 = .ok (.getfield 129, 3) := by decide +kernel
theorem dX5_takeOut_48 : decode cX5_takeOut 48 = .ok (.iload_n 1, 1) := by decide +kernel
theorem dX5_takeOut_49 : decode cX5_takeOut 49 = .ok (.invokestatic 88, 3) := by decide +kernel
theorem dX5_takeOut_52 : decode cX5_takeOut 52 = .ok (.ifCond .ne 13, 3) := by decide +kernel
theorem dX5_takeOut_55 : decode cX5_takeOut 55 = .ok (.new 92, 3) := by decide +kernel
theorem dX5_takeOut_58 : decode cX5_takeOut 58 = .ok (.dup, 1) := by decide +kernel
theorem dX5_takeOut_59 : decode cX5_takeOut 59 = .ok (.ldc 132, 2) := by decide +kernel
theorem dX5_takeOut_61 : decode cX5_takeOut 61 = .ok (.invokespecial 96, 3) := by decide +kernel
theorem dX5_takeOut_64 : decode cX5_takeOut 64 = .ok (.athrow, 1) := by decide +kernel
theorem dX5_takeOut_65 : decode cX5_takeOut 65 = .ok (.aload_n 0, 1) := by decide +kernel
theorem dX5_takeOut_66 : decode cX5_takeOut 66 = .ok (.getfield 10, 3) := by decide +kernel
theorem dX5_takeOut_69 : decode cX5_takeOut 69 = .ok (.iload_n 1, 1) := by decide +kernel
theorem dX5_takeOut_70 : decode cX5_takeOut 70 = .ok (.invokevirtual 134, 3) := by decide +kernel
theorem dX5_takeOut_73 : decode cX5_takeOut 73 = .ok (.istore_n 2, 1) := by decide +kernel
theorem dX5_takeOut_74 : decode cX5_takeOut 74 = .ok (.aload_n 0, 1) := by decide +kernel
theorem dX5_takeOut_75 : decode cX5_takeOut 75 = .ok (.getfield 26, 3) := by decide +kernel
theorem dX5_takeOut_78 : decode cX5_takeOut 78 = .ok (.aload_n 0, 1) := by decide +kernel
theorem dX5_takeOut_79 : decode cX5_takeOut 79 = .ok (.getfield 10, 3) := by decide +kernel
theorem dX5_takeOut_82 : decode cX5_takeOut 82 = .ok (.invokevirtual 55, 3) := by decide +kernel
theorem dX5_takeOut_85 : decode cX5_takeOut 85 = .ok (.aload_n 0, 1) := by decide +kernel
theorem dX5_takeOut_86 : decode cX5_takeOut 86 = .ok (.getfield 10, 3) := by decide +kernel
theorem dX5_takeOut_89 : decode cX5_takeOut 89 = .ok (.iload_n 1, 1) := by decide +kernel
theorem dX5_takeOut_90 : decode cX5_takeOut 90 = .ok (.invokevirtual 138, 3) := by decide +kernel
theorem dX5_takeOut_93 : decode cX5_takeOut 93 = .ok (.iload_n 2, 1) := by decide +kernel
theorem dX5_takeOut_94 : decode cX5_takeOut 94 = .ok (.ireturn, 1) := by decide +kernel
set_option maxRecDepth 20000 in
theorem ggX5_isOpen_X5_isInRow : GoodIn wsX5_isOpen wsX5_isInRow := goodIn_r _ [7] rfl (by decide +kernel)
set_option maxRecDepth 20000 in
theorem gX5_isOpen_X5_isInRow : GoodIn wsX5_isOpen (va_wsS RX5 44 yX5_isInRow wsX5_isInRow) := goodIn_app (goodIn_of _ (by decide +kernel)) ggX5_isOpen_X5_isInRow
set_option maxRecDepth 20000 in
theorem ggX5_isOpen_X5_contains : GoodIn wsX5_isOpen wsX5_contains := goodIn_r _ [10] rfl (by decide +kernel)
set_option maxRecDepth 20000 in
theorem gX5_isOpen_X5_contains : GoodIn wsX5_isOpen (va_wsS RX5 88 yX5_contains wsX5_contains) := goodIn_app (goodIn_of _ (by decide +kernel)) ggX5_isOpen_X5_contains
theorem dX5_isOpen_0 : decode cX5_isOpen 0 = .ok (.iload_n 1, 1) := by decide +kernel
theorem dX5_isOpen_1 : decode cX5_isOpen 1 = .ok (.invokestatic 44, 3) := by decide +kernel
theorem dX5_isOpen_4 : decode cX5_isOpen 4 = .ok (.ifCond .ne 13, 3) := by decide +kernel
theorem dX5_isOpen_7 : decode cX5_isOpen 7 = .ok (.new 48, 3) := by decide +kernel
theorem dX5_isOpen_10 : decode cX5_isOpen 10 = .ok (.dup, 1) := by decide +kernel
theorem dX5_isOpen_11 : decode cX5_isOpen 11 = .ok (.ldc 83, 2) := by decide +kernel
theorem dX5_isOpen_13 : decode cX5_isOpen 13 = .ok (.invokespecial 52, 3) := by decide +kernel
theorem dX5_isOpen_16 : decode cX5_isOpen 16 = .ok (.athrow, 1) := by decide +kernel
theorem dX5_isOpen_17 : decode cX5_isOpen 17 = .ok (.aload_n 0, 1) := by decide +kernel
theorem dX5_isOpen_18 : decode cX5_isOpen 18 = .ok (.getfield 10, 3) := by decide +kernel
theorem dX5_isOpen_21 : decode cX5_isOpen 21 = .ok (.getfield 63, 3) := by decide +kernel
theorem dX5_isOpen_24 : decode cX5_isOpen 24 = .ok (.iload_n 1, 1) := by decide +kernel
theorem dX5_isOpen_25 : decode cX5_isOpen 25 = .ok (.invokestatic 88, 3) := by decide +kernel
theorem dX5_isOpen_28 : decode cX5_isOpen 28 = .ok (.ireturn, 1) := by decide +kernel
set_option maxRecDepth 20000 in
theorem ggX5_isLocked_X5_isInRow : GoodIn wsX5_isLocked wsX5_isInRow := goodIn_r _ [7] rfl (by decide +kernel)
set_option maxRecDepth 20000 in
theorem gX5_isLocked_X5_isInRow : GoodIn wsX5_isLocked (va_wsS RX5 44 yX5_isInRow wsX5_isInRow) := goodIn_app (goodIn_of _ (by decide +kernel)) ggX5_isLocked_X5_isInRow
set_option maxRecDepth 20000 in
theorem ggX5_isLocked_X5_contains : GoodIn wsX5_isLocked wsX5_contains := goodIn_r _ [10] rfl (by decide +kernel)
set_option maxRecDepth 20000 in
theorem gX5_isLocked_X5_contains : GoodIn wsX5_isLocked (va_wsS RX5 88 yX5_contains wsX5_contains) := goodIn_app (goodIn_of _ (by decide +kernel)) ggX5_isLocked_X5_contains
theorem dX5_isLocked_0 : decode cX5_isLocked 0 = .ok (.iload_n 1, 1) := by decide +kernel
theorem dX5_isLocked_1 : decode cX5_isLocked 1 = .ok (.invokestatic 44, 3) := by decide +kernel
theorem dX5_isLocked_4 : decode cX5_isLocked 4 = .ok (.ifCond .ne 13, 3) := by decide +kernel
theorem dX5_isLocked_7 : decode cX5_isLocked 7 = .ok (.new 48, 3) := by decide +kernel
theorem dX5_isLocked_10 : decode cX5_isLocked 10 = .ok (.dup, 1) := by decide +kernel
theorem dX5_isLocked_11 : decode cX5_isLocked 11 = .ok (.ldc 83, 2) := by decide +kernel
theorem dX5_isLocked_13 : decode cX5_isLocked 13 = .ok (.invokespecial 52, 3) := by decide +kernel
theorem dX5_isLocked_16 : decode cX5_isLocked 16 = .ok (.athrow, 1) := by decide +kernel
theorem dX5_isLocked_17 : decode cX5_isLocked 17 = .ok (.aload_n 0, 1) := by decide +kernel
theorem dX5_isLocked_18 : decode cX5_isLocked 18 = .ok (.getfield 10, 3) := by decide +kernel
theorem dX5_isLocked_21 : decode cX5_isLocked 21 = .ok (.getfield 85, 3) := by decide +kernel
theorem dX5_isLocked_24 : decode cX5_isLocked 24 = .ok (.iload_n 1, 1) := by decide +kernel
theorem dX5_isLocked_25 : decode cX5_isLocked 25 = .ok (.invokestatic 88, 3) := by decide +kernel
theorem dX5_isLocked_28 : decode cX5_isLocked 28 = .ok (.ireturn, 1) := by decide +kernel
set_option maxRecDepth 20000 in
theorem ggX5_turnsOf_X5_isInRow : GoodIn wsX5_turnsOf wsX5_isInRow := goodIn_r _ [7] rfl (by decide +kernel)
set_option maxRecDepth 20000 in
theorem gX5_turnsOf_X5_isInRow : GoodIn wsX5_turnsOf (va_wsS RX5 44 yX5_isInRow wsX5_isInRow) := goodIn_app (goodIn_of _ (by decide +kernel)) ggX5_turnsOf_X5_isInRow
set_option maxRecDepth 20000 in
theorem ggX5_turnsOf_X5_countAt : GoodIn wsX5_turnsOf wsX5_countAt := goodIn_r _ [10] rfl (by decide +kernel)
set_option maxRecDepth 20000 in
theorem gX5_turnsOf_X5_countAt : GoodIn wsX5_turnsOf (va_wsS RX5 145 yX5_countAt wsX5_countAt) := goodIn_app (goodIn_of _ (by decide +kernel)) ggX5_turnsOf_X5_countAt
theorem dX5_turnsOf_0 : decode cX5_turnsOf 0 = .ok (.iload_n 1, 1) := by decide +kernel
theorem dX5_turnsOf_1 : decode cX5_turnsOf 1 = .ok (.invokestatic 44, 3) := by decide +kernel
theorem dX5_turnsOf_4 : decode cX5_turnsOf 4 = .ok (.ifCond .ne 13, 3) := by decide +kernel
theorem dX5_turnsOf_7 : decode cX5_turnsOf 7 = .ok (.new 48, 3) := by decide +kernel
theorem dX5_turnsOf_10 : decode cX5_turnsOf 10 = .ok (.dup, 1) := by decide +kernel
theorem dX5_turnsOf_11 : decode cX5_turnsOf 11 = .ok (.ldc 83, 2) := by decide +kernel
theorem dX5_turnsOf_13 : decode cX5_turnsOf 13 = .ok (.invokespecial 52, 3) := by decide +kernel
theorem dX5_turnsOf_16 : decode cX5_turnsOf 16 = .ok (.athrow, 1) := by decide +kernel
theorem dX5_turnsOf_17 : decode cX5_turnsOf 17 = .ok (.aload_n 0, 1) := by decide +kernel
theorem dX5_turnsOf_18 : decode cX5_turnsOf 18 = .ok (.getfield 10, 3) := by decide +kernel
theorem dX5_turnsOf_21 : decode cX5_turnsOf 21 = .ok (.getfield 141, 3) := by decide +kernel
theorem dX5_turnsOf_24 : decode cX5_turnsOf 24 = .ok (.iload_n 1, 1) := by decide +kernel
theorem dX5_turnsOf_25 : decode cX5_turnsOf 25 = .ok (.invokestatic 145, 3) := by decide +kernel
theorem dX5_turnsOf_28 : decode cX5_turnsOf 28 = .ok (.ireturn, 1) := by decide +kernel
set_option maxRecDepth 20000 in
theorem ggX5_isSkipped_X5_isInRow : GoodIn wsX5_isSkipped wsX5_isInRow := goodIn_r _ [7] rfl (by decide +kernel)
set_option maxRecDepth 20000 in
theorem gX5_isSkipped_X5_isInRow : GoodIn wsX5_isSkipped (va_wsS RX5 44 yX5_isInRow wsX5_isInRow) := goodIn_app (goodIn_of _ (by decide +kernel)) ggX5_isSkipped_X5_isInRow
set_option maxRecDepth 20000 in
theorem ggX5_isSkipped_X5_contains : GoodIn wsX5_isSkipped wsX5_contains := goodIn_r _ [10] rfl (by decide +kernel)
set_option maxRecDepth 20000 in
theorem gX5_isSkipped_X5_contains : GoodIn wsX5_isSkipped (va_wsS RX5 88 yX5_contains wsX5_contains) := goodIn_app (goodIn_of _ (by decide +kernel)) ggX5_isSkipped_X5_contains
theorem dX5_isSkipped_0 : decode cX5_isSkipped 0 = .ok (.iload_n 1, 1) := by decide +kernel
theorem dX5_isSkipped_1 : decode cX5_isSkipped 1 = .ok (.invokestatic 44, 3) := by decide +kernel
theorem dX5_isSkipped_4 : decode cX5_isSkipped 4 = .ok (.ifCond .ne 13, 3) := by decide +kernel
theorem dX5_isSkipped_7 : decode cX5_isSkipped 7 = .ok (.new 48, 3) := by decide +kernel
theorem dX5_isSkipped_10 : decode cX5_isSkipped 10 = .ok (.dup, 1) := by decide +kernel
theorem dX5_isSkipped_11 : decode cX5_isSkipped 11 = .ok (.ldc 50, 2) := by decide +kernel
theorem dX5_isSkipped_13 : decode cX5_isSkipped 13 = .ok (.invokespecial 52, 3) := by decide +kernel
theorem dX5_isSkipped_16 : decode cX5_isSkipped 16 = .ok (.athrow, 1) := by decide +kernel
theorem dX5_isSkipped_17 : decode cX5_isSkipped 17 = .ok (.aload_n 0, 1) := by decide +kernel
theorem dX5_isSkipped_18 : decode cX5_isSkipped 18 = .ok (.getfield 10, 3) := by decide +kernel
theorem dX5_isSkipped_21 : decode cX5_isSkipped 21 = .ok (.getfield 103, 3) := by decide +kernel
theorem dX5_isSkipped_24 : decode cX5_isSkipped 24 = .ok (.iload_n 1, 1) := by decide +kernel
theorem dX5_isSkipped_25 : decode cX5_isSkipped 25 = .ok (.invokestatic 88, 3) := by decide +kernel
theorem dX5_isSkipped_28 : decode cX5_isSkipped 28 = .ok (.ireturn, 1) := by decide +kernel
set_option maxRecDepth 20000 in
theorem ggX5_timesOf_X5_isInRow : GoodIn wsX5_timesOf wsX5_isInRow := goodIn_r _ [7] rfl (by decide +kernel)
set_option maxRecDepth 20000 in
theorem gX5_timesOf_X5_isInRow : GoodIn wsX5_timesOf (va_wsS RX5 44 yX5_isInRow wsX5_isInRow) := goodIn_app (goodIn_of _ (by decide +kernel)) ggX5_timesOf_X5_isInRow
set_option maxRecDepth 20000 in
theorem ggX5_timesOf_X5_countAt : GoodIn wsX5_timesOf wsX5_countAt := goodIn_r _ [10] rfl (by decide +kernel)
set_option maxRecDepth 20000 in
theorem gX5_timesOf_X5_countAt : GoodIn wsX5_timesOf (va_wsS RX5 145 yX5_countAt wsX5_countAt) := goodIn_app (goodIn_of _ (by decide +kernel)) ggX5_timesOf_X5_countAt
theorem dX5_timesOf_0 : decode cX5_timesOf 0 = .ok (.iload_n 1, 1) := by decide +kernel
theorem dX5_timesOf_1 : decode cX5_timesOf 1 = .ok (.invokestatic 44, 3) := by decide +kernel
theorem dX5_timesOf_4 : decode cX5_timesOf 4 = .ok (.ifCond .ne 13, 3) := by decide +kernel
theorem dX5_timesOf_7 : decode cX5_timesOf 7 = .ok (.new 48, 3) := by decide +kernel
theorem dX5_timesOf_10 : decode cX5_timesOf 10 = .ok (.dup, 1) := by decide +kernel
theorem dX5_timesOf_11 : decode cX5_timesOf 11 = .ok (.ldc 50, 2) := by decide +kernel
theorem dX5_timesOf_13 : decode cX5_timesOf 13 = .ok (.invokespecial 52, 3) := by decide +kernel
theorem dX5_timesOf_16 : decode cX5_timesOf 16 = .ok (.athrow, 1) := by decide +kernel
theorem dX5_timesOf_17 : decode cX5_timesOf 17 = .ok (.aload_n 0, 1) := by decide +kernel
theorem dX5_timesOf_18 : decode cX5_timesOf 18 = .ok (.getfield 10, 3) := by decide +kernel
theorem dX5_timesOf_21 : decode cX5_timesOf 21 = .ok (.getfield 149, 3) := by decide +kernel
theorem dX5_timesOf_24 : decode cX5_timesOf 24 = .ok (.iload_n 1, 1) := by decide +kernel
theorem dX5_timesOf_25 : decode cX5_timesOf 25 = .ok (.invokestatic 145, 3) := by decide +kernel
theorem dX5_timesOf_28 : decode cX5_timesOf 28 = .ok (.ireturn, 1) := by decide +kernel
set_option maxRecDepth 20000 in
theorem ggX5_divisorsOf_X5_isInRow : GoodIn wsX5_divisorsOf wsX5_isInRow := goodIn_r _ [6] rfl (by decide +kernel)
set_option maxRecDepth 20000 in
theorem gX5_divisorsOf_X5_isInRow : GoodIn wsX5_divisorsOf (va_wsS RX5 44 yX5_isInRow wsX5_isInRow) := goodIn_app (goodIn_of _ (by decide +kernel)) ggX5_divisorsOf_X5_isInRow
set_option maxRecDepth 20000 in
theorem ggX5_divisorsOf_X5_divides : GoodIn wsX5_divisorsOf wsX5_divides := goodIn_r _ [9] rfl (by decide +kernel)
set_option maxRecDepth 20000 in
theorem gX5_divisorsOf_X5_divides : GoodIn wsX5_divisorsOf (va_wsS RX5 154 yX5_divides wsX5_divides) := goodIn_app (goodIn_of _ (by decide +kernel)) ggX5_divisorsOf_X5_divides
theorem dX5_divisorsOf_0 : decode cX5_divisorsOf 0 = .ok (.iload_n 1, 1) := by decide +kernel
theorem dX5_divisorsOf_1 : decode cX5_divisorsOf 1 = .ok (.invokestatic 44, 3) := by decide +kernel
theorem dX5_divisorsOf_4 : decode cX5_divisorsOf 4 = .ok (.ifCond .ne 13, 3) := by decide +kernel
theorem dX5_divisorsOf_7 : decode cX5_divisorsOf 7 = .ok (.new 48, 3) := by decide +kernel
theorem dX5_divisorsOf_10 : decode cX5_divisorsOf 10 = .ok (.dup, 1) := by decide +kernel
theorem dX5_divisorsOf_11 : decode cX5_divisorsOf 11 = .ok (.ldc 152, 2) := by decide +kernel
theorem dX5_divisorsOf_13 : decode cX5_divisorsOf 13 = .ok (.invokespecial 52, 3) := by decide +kernel
theorem dX5_divisorsOf_16 : decode cX5_divisorsOf 16 = .ok (.athrow, 1) := by decide +kernel
theorem dX5_divisorsOf_17 : decode cX5_divisorsOf 17 = .ok (.iconst 0, 1) := by decide +kernel
theorem dX5_divisorsOf_18 : decode cX5_divisorsOf 18 = .ok (.istore_n 2, 1) := by decide +kernel
theorem dX5_divisorsOf_19 : decode cX5_divisorsOf 19 = .ok (.iconst 1, 1) := by decide +kernel
theorem dX5_divisorsOf_20 : decode cX5_divisorsOf 20 = .ok (.istore_n 3, 1) := by decide +kernel
theorem dX5_divisorsOf_21 : decode cX5_divisorsOf 21 = .ok (.iload_n 3, 1) := by decide +kernel
theorem dX5_divisorsOf_22 : decode cX5_divisorsOf 22 = .ok (.bipush 48, 2) := by decide +kernel
theorem dX5_divisorsOf_24 : decode cX5_divisorsOf 24 = .ok (.if_icmp .gt 20, 3) := by decide +kernel
theorem dX5_divisorsOf_27 : decode cX5_divisorsOf 27 = .ok (.iload_n 3, 1) := by decide +kernel
theorem dX5_divisorsOf_28 : decode cX5_divisorsOf 28 = .ok (.iload_n 1, 1) := by decide +kernel
theorem dX5_divisorsOf_29 : decode cX5_divisorsOf 29 = .ok (.invokestatic 154, 3) := by decide +kernel
theorem dX5_divisorsOf_32 : decode cX5_divisorsOf 32 = .ok (.ifCond .eq 6, 3) := by decide +kernel
theorem dX5_divisorsOf_35 : decode cX5_divisorsOf 35 = .ok (.iinc 2 1, 3) := by decide +kernel
theorem dX5_divisorsOf_38 : decode cX5_divisorsOf 38 = .ok (.iinc 3 1, 3) := by decide +kernel
theorem dX5_divisorsOf_41 : decode cX5_divisorsOf 41 = .ok (.goto (-20), 3) := by decide +kernel
theorem dX5_divisorsOf_44 : decode cX5_divisorsOf 44 = .ok (.iload_n 2, 1) := by decide +kernel
theorem dX5_divisorsOf_45 : decode cX5_divisorsOf 45 = .ok (.ireturn, 1) := by decide +kernel
set_option maxRecDepth 20000 in
theorem ggX5_openDoors_X5_contains : GoodIn wsX5_openDoors wsX5_contains := goodIn_r _ [5] rfl (by decide +kernel)
set_option maxRecDepth 20000 in
theorem gX5_openDoors_X5_contains : GoodIn wsX5_openDoors (va_wsS RX5 88 yX5_contains wsX5_contains) := goodIn_app (goodIn_of _ (by decide +kernel)) ggX5_openDoors_X5_contains
theorem dX5_openDoors_0 : decode cX5_openDoors 0 = .ok (.iconst 0, 1) := by decide +kernel
theorem dX5_openDoors_1 : decode cX5_openDoors 1 = .ok (.istore_n 1, 1) := by decide +kernel
theorem dX5_openDoors_2 : decode cX5_openDoors 2 = .ok (.iconst 1, 1) := by decide +kernel
theorem dX5_openDoors_3 : decode cX5_openDoors 3 = .ok (.istore_n 2, 1) := by decide +kernel
theorem dX5_openDoors_4 : decode cX5_openDoors 4 = .ok (.iload_n 2, 1) := by decide +kernel
theorem dX5_openDoors_5 : decode cX5_openDoors 5 = .ok (.bipush 48, 2) := by decide +kernel
theorem dX5_openDoors_7 : decode cX5_openDoors 7 = .ok (.if_icmp .gt 26, 3) := by decide +kernel
theorem dX5_openDoors_10 : decode cX5_openDoors 10 = .ok (.aload_n 0, 1) := by decide +kernel
theorem dX5_openDoors_11 : decode cX5_openDoors 11 = .ok (.getfield 10, 3) := by decide +kernel
theorem dX5_openDoors_14 : decode cX5_openDoors 14 = .ok (.getfield 63, 3) := by decide +kernel
theorem dX5_openDoors_17 : decode cX5_openDoors 17 = .ok (.iload_n 2, 1) := by decide +kernel
theorem dX5_openDoors_18 : decode cX5_openDoors 18 = .ok (.invokestatic 88, 3) := by decide +kernel
theorem dX5_openDoors_21 : decode cX5_openDoors 21 = .ok (.ifCond .eq 6, 3) := by decide +kernel
theorem dX5_openDoors_24 : decode cX5_openDoors 24 = .ok (.iinc 1 1, 3) := by decide +kernel
theorem dX5_openDoors_27 : decode cX5_openDoors 27 = .ok (.iinc 2 1, 3) := by decide +kernel
theorem dX5_openDoors_30 : decode cX5_openDoors 30 = .ok (.goto (-26), 3) := by decide +kernel
theorem dX5_openDoors_33 : decode cX5_openDoors 33 = .ok (.iload_n 1, 1) := by decide +kernel
theorem dX5_openDoors_34 : decode cX5_openDoors 34 = .ok (.ireturn, 1) := by decide +kernel
set_option maxRecDepth 20000 in
theorem ggX5_openByTurns_X5_countAt : GoodIn wsX5_openByTurns wsX5_countAt := goodIn_r _ [5] rfl (by decide +kernel)
set_option maxRecDepth 20000 in
theorem gX5_openByTurns_X5_countAt : GoodIn wsX5_openByTurns (va_wsS RX5 145 yX5_countAt wsX5_countAt) := goodIn_app (goodIn_of _ (by decide +kernel)) ggX5_openByTurns_X5_countAt
theorem dX5_openByTurns_0 : decode cX5_openByTurns 0 = .ok (.iconst 0, 1) := by decide +kernel
theorem dX5_openByTurns_1 : decode cX5_openByTurns 1 = .ok (.istore_n 1, 1) := by decide +kernel
theorem dX5_openByTurns_2 : decode cX5_openByTurns 2 = .ok (.iconst 1, 1) := by decide +kernel
theorem dX5_openByTurns_3 : decode cX5_openByTurns 3 = .ok (.istore_n 2, 1) := by decide +kernel
theorem dX5_openByTurns_4 : decode cX5_openByTurns 4 = .ok (.iload_n 2, 1) := by decide +kernel
theorem dX5_openByTurns_5 : decode cX5_openByTurns 5 = .ok (.bipush 48, 2) := by decide +kernel
theorem dX5_openByTurns_7 : decode cX5_openByTurns 7 = .ok (.if_icmp .gt 25, 3) := by decide +kernel
theorem dX5_openByTurns_10 : decode cX5_openByTurns 10 = .ok (.iload_n 1, 1) := by decide +kernel
theorem dX5_openByTurns_11 : decode cX5_openByTurns 11 = .ok (.aload_n 0, 1) := by decide +kernel
theorem dX5_openByTurns_12 : decode cX5_openByTurns 12 = .ok (.getfield 10, 3) := by decide +kernel
theorem dX5_openByTurns_15 : decode cX5_openByTurns 15 = .ok (.getfield 141, 3) := by decide +kernel
theorem dX5_openByTurns_18 : decode cX5_openByTurns 18 = .ok (.iload_n 2, 1) := by decide +kernel
theorem dX5_openByTurns_19 : decode cX5_openByTurns 19 = .ok (.invokestatic 145, 3) := by decide +kernel
theorem dX5_openByTurns_22 : decode cX5_openByTurns 22 = .ok (.iconst 1, 1) := by decide +kernel
theorem dX5_openByTurns_23 : decode cX5_openByTurns 23 = .ok (.iand, 1) := by decide +kernel
theorem dX5_openByTurns_24 : decode cX5_openByTurns 24 = .ok (.iadd, 1) := by decide +kernel
theorem dX5_openByTurns_25 : decode cX5_openByTurns 25 = .ok (.istore_n 1, 1) := by decide +kernel
theorem dX5_openByTurns_26 : decode cX5_openByTurns 26 = .ok (.iinc 2 1, 3) := by decide +kernel
theorem dX5_openByTurns_29 : decode cX5_openByTurns 29 = .ok (.goto (-25), 3) := by decide +kernel
theorem dX5_openByTurns_32 : decode cX5_openByTurns 32 = .ok (.iload_n 1, 1) := by decide +kernel
theorem dX5_openByTurns_33 : decode cX5_openByTurns 33 = .ok (.ireturn, 1) := by decide +kernel
theorem dX5_openSet_0 : decode cX5_openSet 0 = .ok (.aload_n 0, 1) := by decide +kernel
theorem dX5_openSet_1 : decode cX5_openSet 1 = .ok (.getfield 10, 3) := by decide +kernel
theorem dX5_openSet_4 : decode cX5_openSet 4 = .ok (.getfield 63, 3) := by decide +kernel
theorem dX5_openSet_7 : decode cX5_openSet 7 = .ok (.lreturn, 1) := by decide +kernel
set_option maxRecDepth 20000 in
theorem ggX5_nextOpen_X5_isInRow : GoodIn wsX5_nextOpen wsX5_isInRow := goodIn_r _ [9] rfl (by decide +kernel)
set_option maxRecDepth 20000 in
theorem gX5_nextOpen_X5_isInRow : GoodIn wsX5_nextOpen (va_wsS RX5 44 yX5_isInRow wsX5_isInRow) := goodIn_app (goodIn_of _ (by decide +kernel)) ggX5_nextOpen_X5_isInRow
set_option maxRecDepth 20000 in
theorem ggX5_nextOpen_X5_contains : GoodIn wsX5_nextOpen wsX5_contains := goodIn_r _ [12] rfl (by decide +kernel)
set_option maxRecDepth 20000 in
theorem gX5_nextOpen_X5_contains : GoodIn wsX5_nextOpen (va_wsS RX5 88 yX5_contains wsX5_contains) := goodIn_app (goodIn_of _ (by decide +kernel)) ggX5_nextOpen_X5_contains
theorem dX5_nextOpen_0 : decode cX5_nextOpen 0 = .ok (.iload_n 1, 1) := by decide +kernel
theorem dX5_nextOpen_1 : decode cX5_nextOpen 1 = .ok (.invokestatic 44, 3) := by decide +kernel
theorem dX5_nextOpen_4 : decode cX5_nextOpen 4 = .ok (.ifCond .ne 13, 3) := by decide +kernel
theorem dX5_nextOpen_7 : decode cX5_nextOpen 7 = .ok (.new 48, 3) := by decide +kernel
theorem dX5_nextOpen_10 : decode cX5_nextOpen 10 = .ok (.dup, 1) := by decide +kernel
theorem dX5_nextOpen_11 : decode cX5_nextOpen 11 = .ok (.ldc 83, 2) := by decide +kernel
theorem dX5_nextOpen_13 : decode cX5_nextOpen 13 = .ok (.invokespecial 52, 3) := by decide +kernel
theorem dX5_nextOpen_16 : decode cX5_nextOpen 16 = .ok (.athrow, 1) := by decide +kernel
theorem dX5_nextOpen_17 : decode cX5_nextOpen 17 = .ok (.iload_n 1, 1) := by decide +kernel
theorem dX5_nextOpen_18 : decode cX5_nextOpen 18 = .ok (.istore_n 2, 1) := by decide +kernel
theorem dX5_nextOpen_19 : decode cX5_nextOpen 19 = .ok (.iload_n 2, 1) := by decide +kernel
theorem dX5_nextOpen_20 : decode cX5_nextOpen 20 = .ok (.bipush 48, 2) := by decide +kernel
theorem dX5_nextOpen_22 : decode cX5_nextOpen 22 = .ok (.if_icmp .gt 25, 3) := by decide +kernel
theorem dX5_nextOpen_25 : decode cX5_nextOpen 25 = .ok (.aload_n 0, 1) := by decide +kernel
theorem dX5_nextOpen_26 : decode cX5_nextOpen 26 = .ok (.getfield 10, 3) := by decide +kernel
theorem dX5_nextOpen_29 : decode cX5_nextOpen 29 = .ok (.getfield 63, 3) := by decide +kernel
theorem dX5_nextOpen_32 : decode cX5_nextOpen 32 = .ok (.iload_n 2, 1) := by decide +kernel
theorem dX5_nextOpen_33 : decode cX5_nextOpen 33 = .ok (.invokestatic 88, 3) := by decide +kernel
theorem dX5_nextOpen_36 : decode cX5_nextOpen 36 = .ok (.ifCond .eq 5, 3) := by decide +kernel
theorem dX5_nextOpen_39 : decode cX5_nextOpen 39 = .ok (.iload_n 2, 1) := by decide +kernel
theorem dX5_nextOpen_40 : decode cX5_nextOpen 40 = .ok (.ireturn, 1) := by decide +kernel
theorem dX5_nextOpen_41 : decode cX5_nextOpen 41 = .ok (.iinc 2 1, 3) := by decide +kernel
theorem dX5_nextOpen_44 : decode cX5_nextOpen 44 = .ok (.goto (-25), 3) := by decide +kernel
theorem dX5_nextOpen_47 : decode cX5_nextOpen 47 = .ok (.new 157, 3) := by decide +kernel
theorem dX5_nextOpen_50 : decode cX5_nextOpen 50 = .ok (.dup, 1) := by decide +kernel
theorem dX5_nextOpen_51 : decode cX5_nextOpen 51 = .ok (.ldc 159, 2) := by decide +kernel
theorem dX5_nextOpen_53 : decode cX5_nextOpen 53 = .ok (.invokespecial 161, 3) := by decide +kernel
theorem dX5_nextOpen_56 : decode cX5_nextOpen 56 = .ok (.athrow, 1) := by decide +kernel
set_option maxRecDepth 20000 in
theorem ggX5_closingPasses_X5_contains : GoodIn wsX5_closingPasses wsX5_contains := goodIn_r _ [5] rfl (by decide +kernel)
set_option maxRecDepth 20000 in
theorem gX5_closingPasses_X5_contains : GoodIn wsX5_closingPasses (va_wsS RX5 88 yX5_contains wsX5_contains) := goodIn_app (goodIn_of _ (by decide +kernel)) ggX5_closingPasses_X5_contains
set_option maxRecDepth 20000 in
theorem ggX5_closingPasses_X5_bit : GoodIn wsX5_closingPasses wsX5_bit := goodIn_r _ [8] rfl (by decide +kernel)
set_option maxRecDepth 20000 in
theorem gX5_closingPasses_X5_bit : GoodIn wsX5_closingPasses (va_wsS RX5 106 yX5_bit wsX5_bit) := goodIn_app (goodIn_of _ (by decide +kernel)) ggX5_closingPasses_X5_bit
set_option maxRecDepth 20000 in
theorem ggX5_closingPasses_X5_multiplesOf : GoodIn wsX5_closingPasses wsX5_multiplesOf := goodIn_r _ [11, 12, 13, 4, 14, 6, 7, 8] rfl (by decide +kernel)
set_option maxRecDepth 20000 in
theorem gX5_closingPasses_X5_multiplesOf : GoodIn wsX5_closingPasses (va_wsS RX5 162 yX5_multiplesOf wsX5_multiplesOf) := goodIn_app (goodIn_of _ (by decide +kernel)) ggX5_closingPasses_X5_multiplesOf
theorem dX5_closingPasses_0 : decode cX5_closingPasses 0 = .ok (.aload_n 0, 1) := by decide +kernel
theorem dX5_closingPasses_1 : decode cX5_closingPasses 1 = .ok (.getfield 10, 3) := by decide +kernel
theorem dX5_closingPasses_4 : decode cX5_closingPasses 4 = .ok (.getfield 63, 3) := by decide +kernel
theorem dX5_closingPasses_7 : decode cX5_closingPasses 7 = .ok (.lstore_n 1, 1) := by decide +kernel
theorem dX5_closingPasses_8 : decode cX5_closingPasses 8 = .ok (.lconst 0, 1) := by decide +kernel
theorem dX5_closingPasses_9 : decode cX5_closingPasses 9 = .ok (.lstore_n 3, 1) := by decide +kernel
theorem dX5_closingPasses_10 : decode cX5_closingPasses 10 = .ok (.iconst 1, 1) := by decide +kernel
theorem dX5_closingPasses_11 : decode cX5_closingPasses 11 = .ok (.istore 5, 2) := by decide +kernel
theorem dX5_closingPasses_13 : decode cX5_closingPasses 13 = .ok (.iload 5, 2) := by decide +kernel
theorem dX5_closingPasses_15 : decode cX5_closingPasses 15 = .ok (.bipush 48, 2) := by decide +kernel
theorem dX5_closingPasses_17 : decode cX5_closingPasses 17 = .ok (.if_icmp .gt 34, 3) := by decide +kernel
theorem dX5_closingPasses_20 : decode cX5_closingPasses 20 = .ok (.lload_n 1, 1) := by decide +kernel
theorem dX5_closingPasses_21 : decode cX5_closingPasses 21 = .ok (.iload 5, 2) := by decide +kernel
theorem dX5_closingPasses_23 : decode cX5_closingPasses 23 = .ok (.invokestatic 88, 3) := by decide +kernel
theorem dX5_closingPasses_26 : decode cX5_closingPasses 26 = .ok (.ifCond .eq 19, 3) := by decide +kernel
theorem dX5_closingPasses_29 : decode cX5_closingPasses 29 = .ok (.lload_n 3, 1) := by decide +kernel
theorem dX5_closingPasses_30 : decode cX5_closingPasses 30 = .ok (.iload 5, 2) := by decide +kernel
theorem dX5_closingPasses_32 : decode cX5_closingPasses 32 = .ok (.invokestatic 106, 3) := by decide +kernel
theorem dX5_closingPasses_35 : decode cX5_closingPasses 35 = .ok (.lor, 1) := by decide +kernel
theorem dX5_closingPasses_36 : decode cX5_closingPasses 36 = .ok (.lstore_n 3, 1) := by decide +kernel
theorem dX5_closingPasses_37 : decode cX5_closingPasses 37 = .ok (.lload_n 1, 1) := by decide +kernel
theorem dX5_closingPasses_38 : decode cX5_closingPasses 38 = .ok (.iload 5, 2) := by decide +kernel
theorem dX5_closingPasses_40 : decode cX5_closingPasses 40 = .ok (.invokestatic 162, 3) := by decide +kernel
theorem dX5_closingPasses_43 : decode cX5_closingPasses 43 = .ok (.lxor, 1) := by decide +kernel
theorem dX5_closingPasses_44 : decode cX5_closingPasses 44 = .ok (.lstore_n 1, 1) := by decide +kernel
theorem dX5_closingPasses_45 : decode cX5_closingPasses 45 = .ok (.iinc 5 1, 3) := by decide +kernel
theorem dX5_closingPasses_48 : decode cX5_closingPasses 48 = .ok (.goto (-35), 3) := by decide +kernel
theorem dX5_closingPasses_51 : decode cX5_closingPasses 51 = .ok (.lload_n 3, 1) := by decide +kernel
theorem dX5_closingPasses_52 : decode cX5_closingPasses 52 = .ok (.lreturn, 1) := by decide +kernel
set_option maxRecDepth 20000 in
theorem ggX5_closingByDivisors_X5_isClosingByDivisors : GoodIn wsX5_closingByDivisors wsX5_isClosingByDivisors := goodIn_r _ [5, 6, 7, 8, 4, 9, 10, 11, 12, 13, 14, 15, 19, 20, 21, 22, 23, 24, 25, 26, 27, 28, 29, 30, 31] rfl (by decide +kernel)
set_option maxRecDepth 20000 in
theorem gX5_closingByDivisors_X5_isClosingByDivisors : GoodIn wsX5_closingByDivisors (wsV RX5 165 RX5 yX5_isClosingByDivisors wsX5_isClosingByDivisors) := goodIn_app (goodIn_of _ (by decide +kernel)) ggX5_closingByDivisors_X5_isClosingByDivisors
set_option maxRecDepth 20000 in
theorem ggX5_closingByDivisors_X5_bit : GoodIn wsX5_closingByDivisors wsX5_bit := goodIn_r _ [18] rfl (by decide +kernel)
set_option maxRecDepth 20000 in
theorem gX5_closingByDivisors_X5_bit : GoodIn wsX5_closingByDivisors (va_wsS RX5 106 yX5_bit wsX5_bit) := goodIn_app (goodIn_of _ (by decide +kernel)) ggX5_closingByDivisors_X5_bit
theorem dX5_closingByDivisors_0 : decode cX5_closingByDivisors 0 = .ok (.lconst 0, 1) := by decide +kernel
theorem dX5_closingByDivisors_1 : decode cX5_closingByDivisors 1 = .ok (.lstore_n 1, 1) := by decide +kernel
theorem dX5_closingByDivisors_2 : decode cX5_closingByDivisors 2 = .ok (.iconst 1, 1) := by decide +kernel
theorem dX5_closingByDivisors_3 : decode cX5_closingByDivisors 3 = .ok (.istore_n 3, 1) := by decide +kernel
theorem dX5_closingByDivisors_4 : decode cX5_closingByDivisors 4 = .ok (.iload_n 3, 1) := by decide +kernel
theorem dX5_closingByDivisors_5 : decode cX5_closingByDivisors 5 = .ok (.bipush 48, 2) := by decide +kernel
theorem dX5_closingByDivisors_7 : decode cX5_closingByDivisors 7 = .ok (.if_icmp .gt 24, 3) := by decide +kernel
theorem dX5_closingByDivisors_10 : decode cX5_closingByDivisors 10 = .ok (.aload_n 0, 1) := by decide +kernel
theorem dX5_closingByDivisors_11 : decode cX5_closingByDivisors 11 = .ok (.iload_n 3, 1) := by decide +kernel
theorem dX5_closingByDivisors_12 : decode cX5_closingByDivisors 12 = .ok (.invokevirtual 165, 3) := by decide +kernel
theorem dX5_closingByDivisors_15 : decode cX5_closingByDivisors 15 = .ok (.ifCond .eq 10, 3) := by decide +kernel
theorem dX5_closingByDivisors_18 : decode cX5_closingByDivisors 18 = .ok (.lload_n 1, 1) := by decide +kernel
theorem dX5_closingByDivisors_19 : decode cX5_closingByDivisors 19 = .ok (.iload_n 3, 1) := by decide +kernel
theorem dX5_closingByDivisors_20 : decode cX5_closingByDivisors 20 = .ok (.invokestatic 106, 3) := by decide +kernel
theorem dX5_closingByDivisors_23 : decode cX5_closingByDivisors 23 = .ok (.lor, 1) := by decide +kernel
theorem dX5_closingByDivisors_24 : decode cX5_closingByDivisors 24 = .ok (.lstore_n 1, 1) := by decide +kernel
theorem dX5_closingByDivisors_25 : decode cX5_closingByDivisors 25 = .ok (.iinc 3 1, 3) := by decide +kernel
theorem dX5_closingByDivisors_28 : decode cX5_closingByDivisors 28 = .ok (.goto (-24), 3) := by decide +kernel
theorem dX5_closingByDivisors_31 : decode cX5_closingByDivisors 31 = .ok (.lload_n 1, 1) := by decide +kernel
theorem dX5_closingByDivisors_32 : decode cX5_closingByDivisors 32 = .ok (.lreturn, 1) := by decide +kernel
set_option maxRecDepth 20000 in
theorem ggX5_passesToClose_X5_closingPasses : GoodIn wsX5_passesToClose wsX5_closingPasses := goodIn_r _ [5, 6, 7, 8, 4, 9, 10, 11, 12, 13, 14, 15, 16, 17, 18, 26, 27, 28, 29, 30, 31, 32, 33, 34, 35, 36, 37, 38] rfl (by decide +kernel)
set_option maxRecDepth 20000 in
theorem gX5_passesToClose_X5_closingPasses : GoodIn wsX5_passesToClose (wsV RX5 168 RX5 yX5_closingPasses wsX5_closingPasses) := goodIn_app (goodIn_of _ (by decide +kernel)) ggX5_passesToClose_X5_closingPasses
set_option maxRecDepth 20000 in
theorem ggX5_passesToClose_J13_bitCount_95d88 : GoodIn wsX5_passesToClose wsJ13_bitCount_95d88 := goodIn_r _ [22, 23, 24, 25] rfl (by decide +kernel)
set_option maxRecDepth 20000 in
theorem gX5_passesToClose_J13_bitCount_95d88 : GoodIn wsX5_passesToClose (va_wsS RX5 67 yJ13_bitCount_95d88 wsJ13_bitCount_95d88) := goodIn_app (goodIn_of _ (by decide +kernel)) ggX5_passesToClose_J13_bitCount_95d88
theorem dX5_passesToClose_0 : decode cX5_passesToClose 0 = .ok (.aload_n 0, 1) := by decide +kernel
theorem dX5_passesToClose_1 : decode cX5_passesToClose 1 = .ok (.invokevirtual 168, 3) := by decide +kernel
theorem dX5_passesToClose_4 : decode cX5_passesToClose 4 = .ok (.invokestatic 67, 3) := by decide +kernel
theorem dX5_passesToClose_7 : decode cX5_passesToClose 7 = .ok (.ireturn, 1) := by decide +kernel
set_option maxRecDepth 20000 in
theorem ggX5_wouldBeOpen_X5_isStretch : GoodIn wsX5_wouldBeOpen wsX5_isStretch := goodIn_r _ [7] rfl (by decide +kernel)
set_option maxRecDepth 20000 in
theorem gX5_wouldBeOpen_X5_isStretch : GoodIn wsX5_wouldBeOpen (va_wsS RX5 73 yX5_isStretch wsX5_isStretch) := goodIn_app (goodIn_of _ (by decide +kernel)) ggX5_wouldBeOpen_X5_isStretch
set_option maxRecDepth 20000 in
theorem ggX5_wouldBeOpen_X5_contains : GoodIn wsX5_wouldBeOpen wsX5_contains := goodIn_r _ [10] rfl (by decide +kernel)
set_option maxRecDepth 20000 in
theorem gX5_wouldBeOpen_X5_contains : GoodIn wsX5_wouldBeOpen (va_wsS RX5 88 yX5_contains wsX5_contains) := goodIn_app (goodIn_of _ (by decide +kernel)) ggX5_wouldBeOpen_X5_contains
set_option maxRecDepth 20000 in
theorem ggX5_wouldBeOpen_X2_turnedBy : GoodIn wsX5_wouldBeOpen wsX2_turnedBy := goodIn_r _ [15, 16, 17, 18, 6, 19, 20, 21, 22, 23, 24, 25, 39, 40, 41, 42, 43, 44, 45] rfl (by decide +kernel)
set_option maxRecDepth 20000 in
theorem gX5_wouldBeOpen_X2_turnedBy : GoodIn wsX5_wouldBeOpen (wsV RX5 172 RX2 yX2_turnedBy wsX2_turnedBy) := goodIn_app (goodIn_of _ (by decide +kernel)) ggX5_wouldBeOpen_X2_turnedBy
set_option maxRecDepth 20000 in
theorem ggX5_wouldBeOpen_J13_bitCount_95d88 : GoodIn wsX5_wouldBeOpen wsJ13_bitCount_95d88 := goodIn_r _ [29, 30, 31, 32] rfl (by decide +kernel)
set_option maxRecDepth 20000 in
theorem gX5_wouldBeOpen_J13_bitCount_95d88 : GoodIn wsX5_wouldBeOpen (va_wsS RX5 67 yJ13_bitCount_95d88 wsJ13_bitCount_95d88) := goodIn_app (goodIn_of _ (by decide +kernel)) ggX5_wouldBeOpen_J13_bitCount_95d88
theorem dX5_wouldBeOpen_0 : decode cX5_wouldBeOpen 0 = .ok (.iload_n 1, 1) := by decide +kernel
theorem dX5_wouldBeOpen_1 : decode cX5_wouldBeOpen 1 = .ok (.iload_n 2, 1) := by decide +kernel
theorem dX5_wouldBeOpen_2 : decode cX5_wouldBeOpen 2 = .ok (.invokestatic 73, 3) := by decide +kernel
theorem dX5_wouldBeOpen_5 : decode cX5_wouldBeOpen 5 = .ok (.ifCond .ne 13, 3) := by decide +kernel
theorem dX5_wouldBeOpen_8 : decode cX5_wouldBeOpen 8 = .ok (.new 48, 3) := by decide +kernel
theorem dX5_wouldBeOpen_11 : decode cX5_wouldBeOpen 11 = .ok (.dup, 1) := by decide +kernel
theorem dX5_wouldBeOpen_12 : decode cX5_wouldBeOpen 12 = .ok (.ldc 77, 2) := by decide +kernel
theorem dX5_wouldBeOpen_14 : decode cX5_wouldBeOpen 14 = .ok (.invokespecial 52, 3) := by decide +kernel
theorem dX5_wouldBeOpen_17 : decode cX5_wouldBeOpen 17 = .ok (.athrow, 1) := by decide +kernel
theorem dX5_wouldBeOpen_18 : decode cX5_wouldBeOpen 18 = .ok (.aload_n 0, 1) := by decide +kernel
theorem dX5_wouldBeOpen_19 : decode cX5_wouldBeOpen 19 = .ok (.getfield 10, 3) := by decide +kernel
theorem dX5_wouldBeOpen_22 : decode cX5_wouldBeOpen 22 = .ok (.getfield 63, 3) := by decide +kernel
theorem dX5_wouldBeOpen_25 : decode cX5_wouldBeOpen 25 = .ok (.lstore_n 3, 1) := by decide +kernel
theorem dX5_wouldBeOpen_26 : decode cX5_wouldBeOpen 26 = .ok (.iload_n 1, 1) := by decide +kernel
theorem dX5_wouldBeOpen_27 : decode cX5_wouldBeOpen 27 = .ok (.istore 5, 2) := by decide +kernel
theorem dX5_wouldBeOpen_29 : decode cX5_wouldBeOpen 29 = .ok (.iload 5, 2) := by decide +kernel
theorem dX5_wouldBeOpen_31 : decode cX5_wouldBeOpen 31 = .ok (.iload_n 2, 1) := by decide +kernel
theorem dX5_wouldBeOpen_32 : decode cX5_wouldBeOpen 32 = .ok (.if_icmp .gt 43, 3) := by decide +kernel
theorem dX5_wouldBeOpen_35 : decode cX5_wouldBeOpen 35 = .ok (.iload 5, 2) := by decide +kernel
theorem dX5_wouldBeOpen_37 : decode cX5_wouldBeOpen 37 = .ok (.bipush 48, 2) := by decide +kernel
theorem dX5_wouldBeOpen_39 : decode cX5_wouldBeOpen 39 = .ok (.if_icmp .gt 36, 3) := by decide +kernel
theorem dX5_wouldBeOpen_42 : decode cX5_wouldBeOpen 42 = .ok (.aload_n 0, 1) := by decide +kernel
theorem dX5_wouldBeOpen_43 : decode cX5_wouldBeOpen 43 = .ok (.getfield 10, 3) := by decide +kernel
theorem dX5_wouldBeOpen_46 : decode cX5_wouldBeOpen 46 = .ok (.getfield 103, 3) := by decide +kernel
theorem dX5_wouldBeOpen_49 : decode cX5_wouldBeOpen 49 = .ok (.iload 5, 2) := by decide +kernel
theorem dX5_wouldBeOpen_51 : decode cX5_wouldBeOpen 51 = .ok (.invokestatic 88, 3) := by decide +kernel
theorem dX5_wouldBeOpen_54 : decode cX5_wouldBeOpen 54 = .ok (.ifCond .ne 15, 3) := by decide +kernel
theorem dX5_wouldBeOpen_57 : decode cX5_wouldBeOpen 57 = .ok (.lload_n 3, 1) := by decide +kernel
theorem dX5_wouldBeOpen_58 : decode cX5_wouldBeOpen 58 = .ok (.aload_n 0, 1) := by decide +kernel
theorem dX5_wouldBeOpen_59 : decode cX5_wouldBeOpen 59 = .ok (.getfield 10, 3) := by decide +kernel
theorem dX5_wouldBeOpen_62 : decode cX5_wouldBeOpen 62 = .ok (.iload 5, 2) := by decide +kernel
theorem dX5_wouldBeOpen_64 : decode cX5_wouldBeOpen 64 = .ok (.invokevirtual 172, 3) := by decide +kernel
theorem dX5_wouldBeOpen_67 : decode cX5_wouldBeOpen 67 = .ok (.lxor, 1) := by decide +kernel
theorem dX5_wouldBeOpen_68 : decode cX5_wouldBeOpen 68 = .ok (.lstore_n 3, 1) := by decide +kernel
theorem dX5_wouldBeOpen_69 : decode cX5_wouldBeOpen 69 = .ok (.iinc 5 1, 3) := by decide +kernel
theorem dX5_wouldBeOpen_72 : decode cX5_wouldBeOpen 72 = .ok (.goto (-43), 3) := by decide +kernel
theorem dX5_wouldBeOpen_75 : decode cX5_wouldBeOpen 75 = .ok (.lload_n 3, 1) := by decide +kernel
theorem dX5_wouldBeOpen_76 : decode cX5_wouldBeOpen 76 = .ok (.invokestatic 67, 3) := by decide +kernel
theorem dX5_wouldBeOpen_79 : decode cX5_wouldBeOpen 79 = .ok (.ireturn, 1) := by decide +kernel
set_option maxRecDepth 20000 in
theorem ggX5_bestPass_X2_turnedBy : GoodIn wsX5_bestPass wsX2_turnedBy := goodIn_r _ [6, 7, 8, 9, 10, 11, 12, 13, 14, 15, 16, 17, 31, 32, 33, 34, 35, 36, 37] rfl (by decide +kernel)
set_option maxRecDepth 20000 in
theorem gX5_bestPass_X2_turnedBy : GoodIn wsX5_bestPass (wsV RX5 172 RX2 yX2_turnedBy wsX2_turnedBy) := goodIn_app (goodIn_of _ (by decide +kernel)) ggX5_bestPass_X2_turnedBy
set_option maxRecDepth 20000 in
theorem ggX5_bestPass_J13_bitCount_95d88 : GoodIn wsX5_bestPass wsJ13_bitCount_95d88 := goodIn_r _ [21, 22, 23, 24] rfl (by decide +kernel)
set_option maxRecDepth 20000 in
theorem gX5_bestPass_J13_bitCount_95d88 : GoodIn wsX5_bestPass (va_wsS RX5 67 yJ13_bitCount_95d88 wsJ13_bitCount_95d88) := goodIn_app (goodIn_of _ (by decide +kernel)) ggX5_bestPass_J13_bitCount_95d88
theorem dX5_bestPass_0 : decode cX5_bestPass 0 = .ok (.iconst 1, 1) := by decide +kernel
theorem dX5_bestPass_1 : decode cX5_bestPass 1 = .ok (.istore_n 1, 1) := by decide +kernel
theorem dX5_bestPass_2 : decode cX5_bestPass 2 = .ok (.bipush 49, 2) := by decide +kernel
theorem dX5_bestPass_4 : decode cX5_bestPass 4 = .ok (.istore_n 2, 1) := by decide +kernel
theorem dX5_bestPass_5 : decode cX5_bestPass 5 = .ok (.iconst 1, 1) := by decide +kernel
theorem dX5_bestPass_6 : decode cX5_bestPass 6 = .ok (.istore_n 3, 1) := by decide +kernel
theorem dX5_bestPass_7 : decode cX5_bestPass 7 = .ok (.iload_n 3, 1) := by decide +kernel
theorem dX5_bestPass_8 : decode cX5_bestPass 8 = .ok (.bipush 48, 2) := by decide +kernel
theorem dX5_bestPass_10 : decode cX5_bestPass 10 = .ok (.if_icmp .gt 41, 3) := by decide +kernel
theorem dX5_bestPass_13 : decode cX5_bestPass 13 = .ok (.aload_n 0, 1) := by decide +kernel
theorem dX5_bestPass_14 : decode cX5_bestPass 14 = .ok (.getfield 10, 3) := by decide +kernel
theorem dX5_bestPass_17 : decode cX5_bestPass 17 = .ok (.getfield 63, 3) := by decide +kernel
theorem dX5_bestPass_20 : decode cX5_bestPass 20 = .ok (.aload_n 0, 1) := by decide +kernel
theorem dX5_bestPass_21 : decode cX5_bestPass 21 = .ok (.getfield 10, 3) := by decide +kernel
theorem dX5_bestPass_24 : decode cX5_bestPass 24 = .ok (.iload_n 3, 1) := by decide +kernel
theorem dX5_bestPass_25 : decode cX5_bestPass 25 = .ok (.invokevirtual 172, 3) := by decide +kernel
theorem dX5_bestPass_28 : decode cX5_bestPass 28 = .ok (.lxor, 1) := by decide +kernel
theorem dX5_bestPass_29 : decode cX5_bestPass 29 = .ok (.invokestatic 67, 3) := by decide +kernel
theorem dX5_bestPass_32 : decode cX5_bestPass 32 = .ok (.istore 4, 2) := by decide +kernel
theorem dX5_bestPass_34 : decode cX5_bestPass 34 = .ok (.iload 4, 2) := by decide +kernel
theorem dX5_bestPass_36 : decode cX5_bestPass 36 = .ok (.iload_n 2, 1) := by decide +kernel
theorem dX5_bestPass_37 : decode cX5_bestPass 37 = .ok (.if_icmp .ge 8, 3) := by decide +kernel
theorem dX5_bestPass_40 : decode cX5_bestPass 40 = .ok (.iload 4, 2) := by decide +kernel
theorem dX5_bestPass_42 : decode cX5_bestPass 42 = .ok (.istore_n 2, 1) := by decide +kernel
theorem dX5_bestPass_43 : decode cX5_bestPass 43 = .ok (.iload_n 3, 1) := by decide +kernel
theorem dX5_bestPass_44 : decode cX5_bestPass 44 = .ok (.istore_n 1, 1) := by decide +kernel
theorem dX5_bestPass_45 : decode cX5_bestPass 45 = .ok (.iinc 3 1, 3) := by decide +kernel
theorem dX5_bestPass_48 : decode cX5_bestPass 48 = .ok (.goto (-41), 3) := by decide +kernel
theorem dX5_bestPass_51 : decode cX5_bestPass 51 = .ok (.iload_n 1, 1) := by decide +kernel
theorem dX5_bestPass_52 : decode cX5_bestPass 52 = .ok (.ireturn, 1) := by decide +kernel
set_option maxRecDepth 20000 in
theorem ggX5_whyNot_X5_isInRow : GoodIn wsX5_whyNot wsX5_isInRow := goodIn_r _ [7] rfl (by decide +kernel)
set_option maxRecDepth 20000 in
theorem gX5_whyNot_X5_isInRow : GoodIn wsX5_whyNot (va_wsS RX5 44 yX5_isInRow wsX5_isInRow) := goodIn_app (goodIn_of _ (by decide +kernel)) ggX5_whyNot_X5_isInRow
set_option maxRecDepth 20000 in
theorem ggX5_whyNot_X5_isKind : GoodIn wsX5_whyNot wsX5_isKind := goodIn_r _ [10] rfl (by decide +kernel)
set_option maxRecDepth 20000 in
theorem gX5_whyNot_X5_isKind : GoodIn wsX5_whyNot (va_wsS RX5 110 yX5_isKind wsX5_isKind) := goodIn_app (goodIn_of _ (by decide +kernel)) ggX5_whyNot_X5_isKind
set_option maxRecDepth 20000 in
theorem ggX5_whyNot_X2_reasonAgainst : GoodIn wsX5_whyNot wsX2_reasonAgainst := goodIn_r _ [15, 16, 17, 18, 6, 19, 20, 21, 14, 22, 29, 30, 31, 32, 33, 34, 35] rfl (by decide +kernel)
set_option maxRecDepth 20000 in
theorem gX5_whyNot_X2_reasonAgainst : GoodIn wsX5_whyNot (wsV RX5 115 RX2 yX2_reasonAgainst wsX2_reasonAgainst) := goodIn_app (goodIn_of _ (by decide +kernel)) ggX5_whyNot_X2_reasonAgainst
theorem dX5_whyNot_0 : decode cX5_whyNot 0 = .ok (.iload_n 1, 1) := by decide +kernel
theorem dX5_whyNot_1 : decode cX5_whyNot 1 = .ok (.invokestatic 44, 3) := by decide +kernel
theorem dX5_whyNot_4 : decode cX5_whyNot 4 = .ok (.ifCond .eq 10, 3) := by decide +kernel
theorem dX5_whyNot_7 : decode cX5_whyNot 7 = .ok (.iload_n 2, 1) := by decide +kernel
theorem dX5_whyNot_8 : decode cX5_whyNot 8 = .ok (.invokestatic 110, 3) := by decide +kernel
theorem dX5_whyNot_11 : decode cX5_whyNot 11 = .ok (.ifCond .ne 13, 3) := by decide +kernel
theorem dX5_whyNot_14 : decode cX5_whyNot 14 = .ok (.new 48, 3) := by decide +kernel
theorem dX5_whyNot_17 : decode cX5_whyNot 17 = .ok (.dup, 1) := by decide +kernel
theorem dX5_whyNot_18 : decode cX5_whyNot 18 = .ok (.ldc 113, 2) := by decide +kernel
theorem dX5_whyNot_20 : decode cX5_whyNot 20 = .ok (.invokespecial 52, 3) := by decide +kernel
theorem dX5_whyNot_23 : decode cX5_whyNot 23 = .ok (.athrow, 1) := by decide +kernel
theorem dX5_whyNot_24 : decode cX5_whyNot 24 = .ok (.aload_n 0, 1) := by decide +kernel
theorem dX5_whyNot_25 : decode cX5_whyNot 25 = .ok (.getfield 10, 3) := by decide +kernel
theorem dX5_whyNot_28 : decode cX5_whyNot 28 = .ok (.iload_n 1, 1) := by decide +kernel
theorem dX5_whyNot_29 : decode cX5_whyNot 29 = .ok (.iload_n 2, 1) := by decide +kernel
theorem dX5_whyNot_30 : decode cX5_whyNot 30 = .ok (.invokevirtual 115, 3) := by decide +kernel
theorem dX5_whyNot_33 : decode cX5_whyNot 33 = .ok (.ireturn, 1) := by decide +kernel
set_option maxRecDepth 20000 in
theorem ggX5_thingAt_X5_isInRow : GoodIn wsX5_thingAt wsX5_isInRow := goodIn_r _ [9] rfl (by decide +kernel)
set_option maxRecDepth 20000 in
theorem gX5_thingAt_X5_isInRow : GoodIn wsX5_thingAt (va_wsS RX5 44 yX5_isInRow wsX5_isInRow) := goodIn_app (goodIn_of _ (by decide +kernel)) ggX5_thingAt_X5_isInRow
set_option maxRecDepth 20000 in
theorem ggX5_thingAt_X5_contains : GoodIn wsX5_thingAt wsX5_contains := goodIn_r _ [12] rfl (by decide +kernel)
set_option maxRecDepth 20000 in
theorem gX5_thingAt_X5_contains : GoodIn wsX5_thingAt (va_wsS RX5 88 yX5_contains wsX5_contains) := goodIn_app (goodIn_of _ (by decide +kernel)) ggX5_thingAt_X5_contains
set_option maxRecDepth 20000 in
theorem ggX5_thingAt_X2_kindAt : GoodIn wsX5_thingAt wsX2_kindAt := goodIn_r _ [17, 18, 11, 8, 12, 25, 26, 27, 28, 29, 30, 31] rfl (by decide +kernel)
set_option maxRecDepth 20000 in
theorem gX5_thingAt_X2_kindAt : GoodIn wsX5_thingAt (wsV RX5 134 RX2 yX2_kindAt wsX2_kindAt) := goodIn_app (goodIn_of _ (by decide +kernel)) ggX5_thingAt_X2_kindAt
theorem dX5_thingAt_0 : decode cX5_thingAt 0 = .ok (.iload_n 1, 1) := by decide +kernel
theorem dX5_thingAt_1 : decode cX5_thingAt 1 = .ok (.invokestatic 44, 3) := by decide +kernel
theorem dX5_thingAt_4 : decode cX5_thingAt 4 = .ok (.ifCond .ne 13, 3) := by decide +kernel
theorem dX5_thingAt_7 : decode cX5_thingAt 7 = .ok (.new 48, 3) := by decide +kernel
theorem dX5_thingAt_10 : decode cX5_thingAt 10 = .ok (.dup, 1) := by decide +kernel
theorem dX5_thingAt_11 : decode cX5_thingAt 11 = .ok (.ldc 83, 2) := by decide +kernel
theorem dX5_thingAt_13 : decode cX5_thingAt 13 = .ok (.invokespecial 52, 3) := by decide +kernel
theorem dX5_thingAt_16 : decode cX5_thingAt 16 = .ok (.athrow, 1) := by decide +kernel
theorem dX5_thingAt_17 : decode cX5_thingAt 17 = .ok (.aload_n 0, 1) := by decide +kernel
theorem dX5_thingAt_18 : decode cX5_thingAt 18 = .ok (.getfield 10, 3) := by decide +kernel
theorem dX5_thingAt_21 : decode cX5_thingAt 21 = .ok (.getfield 129, 3) := by decide +kernel
theorem dX5_thingAt_24 : decode cX5_thingAt 24 = .ok (.iload_n 1, 1) := by decide +kernel
theorem dX5_thingAt_25 : decode cX5_thingAt 25 = .ok (.invokestatic 88, 3) := by decide +kernel
theorem dX5_thingAt_28 : decode cX5_thingAt 28 = .ok (.ifCond .ne 13, 3) := by decide +kernel
theorem dX5_thingAt_31 : decode cX5_thingAt 31 = .ok (.new 157, 3) := by decide +kernel
theorem dX5_thingAt_34 : decode cX5_thingAt 34 = .ok (.dup, 1) := by decide +kernel
theorem dX5_thingAt_35 : decode cX5_thingAt 35 = .ok (.ldc 132, 2) := by decide +kernel
theorem dX5_thingAt_37 : decode cX5_thingAt 37 = .ok (.invokespecial 161, 3) := by decide +kernel
theorem dX5_thingAt_40 : decode cX5_thingAt 40 = .ok (.athrow, 1) := by decide +kernel
theorem dX5_thingAt_41 : decode cX5_thingAt 41 = .ok (.aload_n 0, 1) := by decide +kernel
theorem dX5_thingAt_42 : decode cX5_thingAt 42 = .ok (.getfield 10, 3) := by decide +kernel
theorem dX5_thingAt_45 : decode cX5_thingAt 45 = .ok (.iload_n 1, 1) := by decide +kernel
theorem dX5_thingAt_46 : decode cX5_thingAt 46 = .ok (.invokevirtual 134, 3) := by decide +kernel
theorem dX5_thingAt_49 : decode cX5_thingAt 49 = .ok (.ireturn, 1) := by decide +kernel
set_option maxRecDepth 20000 in
theorem ggX5_thingsOf_X5_isKind : GoodIn wsX5_thingsOf wsX5_isKind := goodIn_r _ [7] rfl (by decide +kernel)
set_option maxRecDepth 20000 in
theorem gX5_thingsOf_X5_isKind : GoodIn wsX5_thingsOf (va_wsS RX5 110 yX5_isKind wsX5_isKind) := goodIn_app (goodIn_of _ (by decide +kernel)) ggX5_thingsOf_X5_isKind
set_option maxRecDepth 20000 in
theorem ggX5_thingsOf_X2_doorsWith : GoodIn wsX5_thingsOf wsX2_doorsWith := goodIn_r _ [12, 13, 14, 15, 29, 30, 31, 32, 33, 34, 35] rfl (by decide +kernel)
set_option maxRecDepth 20000 in
theorem gX5_thingsOf_X2_doorsWith : GoodIn wsX5_thingsOf (wsV RX5 124 RX2 yX2_doorsWith wsX2_doorsWith) := goodIn_app (goodIn_of _ (by decide +kernel)) ggX5_thingsOf_X2_doorsWith
set_option maxRecDepth 20000 in
theorem ggX5_thingsOf_J13_bitCount_95d88 : GoodIn wsX5_thingsOf wsJ13_bitCount_95d88 := goodIn_r _ [19, 20, 21, 22] rfl (by decide +kernel)
set_option maxRecDepth 20000 in
theorem gX5_thingsOf_J13_bitCount_95d88 : GoodIn wsX5_thingsOf (va_wsS RX5 67 yJ13_bitCount_95d88 wsJ13_bitCount_95d88) := goodIn_app (goodIn_of _ (by decide +kernel)) ggX5_thingsOf_J13_bitCount_95d88
theorem dX5_thingsOf_0 : decode cX5_thingsOf 0 = .ok (.iload_n 1, 1) := by decide +kernel
theorem dX5_thingsOf_1 : decode cX5_thingsOf 1 = .ok (.invokestatic 110, 3) := by decide +kernel
theorem dX5_thingsOf_4 : decode cX5_thingsOf 4 = .ok (.ifCond .ne 13, 3) := by decide +kernel
theorem dX5_thingsOf_7 : decode cX5_thingsOf 7 = .ok (.new 48, 3) := by decide +kernel
theorem dX5_thingsOf_10 : decode cX5_thingsOf 10 = .ok (.dup, 1) := by decide +kernel
theorem dX5_thingsOf_11 : decode cX5_thingsOf 11 = .ok (.ldc 175, 2) := by decide +kernel
theorem dX5_thingsOf_13 : decode cX5_thingsOf 13 = .ok (.invokespecial 52, 3) := by decide +kernel
theorem dX5_thingsOf_16 : decode cX5_thingsOf 16 = .ok (.athrow, 1) := by decide +kernel
theorem dX5_thingsOf_17 : decode cX5_thingsOf 17 = .ok (.aload_n 0, 1) := by decide +kernel
theorem dX5_thingsOf_18 : decode cX5_thingsOf 18 = .ok (.getfield 10, 3) := by decide +kernel
theorem dX5_thingsOf_21 : decode cX5_thingsOf 21 = .ok (.iload_n 1, 1) := by decide +kernel
theorem dX5_thingsOf_22 : decode cX5_thingsOf 22 = .ok (.invokevirtual 124, 3) := by decide +kernel
theorem dX5_thingsOf_25 : decode cX5_thingsOf 25 = .ok (.invokestatic 67, 3) := by decide +kernel
theorem dX5_thingsOf_28 : decode cX5_thingsOf 28 = .ok (.ireturn, 1) := by decide +kernel
set_option maxRecDepth 20000 in
theorem ggX5_shutAway_J13_bitCount_95d88 : GoodIn wsX5_shutAway wsJ13_bitCount_95d88 := goodIn_r _ [6, 7, 8, 9] rfl (by decide +kernel)
set_option maxRecDepth 20000 in
theorem gX5_shutAway_J13_bitCount_95d88 : GoodIn wsX5_shutAway (va_wsS RX5 67 yJ13_bitCount_95d88 wsJ13_bitCount_95d88) := goodIn_app (goodIn_of _ (by decide +kernel)) ggX5_shutAway_J13_bitCount_95d88
theorem dX5_shutAway_0 : decode cX5_shutAway 0 = .ok (.aload_n 0, 1) := by decide +kernel
theorem dX5_shutAway_1 : decode cX5_shutAway 1 = .ok (.getfield 10, 3) := by decide +kernel
theorem dX5_shutAway_4 : decode cX5_shutAway 4 = .ok (.getfield 129, 3) := by decide +kernel
theorem dX5_shutAway_7 : decode cX5_shutAway 7 = .ok (.aload_n 0, 1) := by decide +kernel
theorem dX5_shutAway_8 : decode cX5_shutAway 8 = .ok (.getfield 10, 3) := by decide +kernel
theorem dX5_shutAway_11 : decode cX5_shutAway 11 = .ok (.getfield 63, 3) := by decide +kernel
theorem dX5_shutAway_14 : decode cX5_shutAway 14 = .ok (.ldc2_w 177, 3) := by decide +kernel
theorem dX5_shutAway_17 : decode cX5_shutAway 17 = .ok (.lxor, 1) := by decide +kernel
theorem dX5_shutAway_18 : decode cX5_shutAway 18 = .ok (.land, 1) := by decide +kernel
theorem dX5_shutAway_19 : decode cX5_shutAway 19 = .ok (.invokestatic 67, 3) := by decide +kernel
theorem dX5_shutAway_22 : decode cX5_shutAway 22 = .ok (.ireturn, 1) := by decide +kernel
set_option maxRecDepth 20000 in
theorem ggX5_share_J13_bitCount_95d88 : GoodIn wsX5_share wsJ13_bitCount_95d88 := goodIn_r _ [6, 7, 8, 9] rfl (by decide +kernel)
set_option maxRecDepth 20000 in
theorem gX5_share_J13_bitCount_95d88 : GoodIn wsX5_share (va_wsS RX5 67 yJ13_bitCount_95d88 wsJ13_bitCount_95d88) := goodIn_app (goodIn_of _ (by decide +kernel)) ggX5_share_J13_bitCount_95d88
theorem dX5_share_0 : decode cX5_share 0 = .ok (.aload_n 0, 1) := by decide +kernel
theorem dX5_share_1 : decode cX5_share 1 = .ok (.getfield 10, 3) := by decide +kernel
theorem dX5_share_4 : decode cX5_share 4 = .ok (.getfield 63, 3) := by decide +kernel
theorem dX5_share_7 : decode cX5_share 7 = .ok (.invokestatic 67, 3) := by decide +kernel
theorem dX5_share_10 : decode cX5_share 10 = .ok (.i2f, 1) := by decide +kernel
theorem dX5_share_11 : decode cX5_share 11 = .ok (.ldc 179, 2) := by decide +kernel
theorem dX5_share_13 : decode cX5_share 13 = .ok (.fdiv, 1) := by decide +kernel
theorem dX5_share_14 : decode cX5_share 14 = .ok (.freturn, 1) := by decide +kernel
set_option maxRecDepth 20000 in
theorem ggX5_shareBits_X5_share : GoodIn wsX5_shareBits wsX5_share := goodIn_r _ [5, 6, 7, 8, 9, 10, 11, 12, 13, 14, 22, 23, 24, 25, 26, 27, 28, 29, 30, 31, 32, 33, 34] rfl (by decide +kernel)
set_option maxRecDepth 20000 in
theorem gX5_shareBits_X5_share : GoodIn wsX5_shareBits (wsV RX5 180 RX5 yX5_share wsX5_share) := goodIn_app (goodIn_of _ (by decide +kernel)) ggX5_shareBits_X5_share
set_option maxRecDepth 20000 in
theorem ggX5_shareBits_X5_bitsOf : GoodIn wsX5_shareBits wsX5_bitsOf := goodIn_r _ [17, 18, 19, 20, 4, 21] rfl (by decide +kernel)
set_option maxRecDepth 20000 in
theorem gX5_shareBits_X5_bitsOf : GoodIn wsX5_shareBits (va_wsS RX5 184 yX5_bitsOf wsX5_bitsOf) := goodIn_app (goodIn_of _ (by decide +kernel)) ggX5_shareBits_X5_bitsOf
theorem dX5_shareBits_0 : decode cX5_shareBits 0 = .ok (.aload_n 0, 1) := by decide +kernel
theorem dX5_shareBits_1 : decode cX5_shareBits 1 = .ok (.invokevirtual 180, 3) := by decide +kernel
theorem dX5_shareBits_4 : decode cX5_shareBits 4 = .ok (.f2d, 1) := by decide +kernel
theorem dX5_shareBits_5 : decode cX5_shareBits 5 = .ok (.bipush 23, 2) := by decide +kernel
theorem dX5_shareBits_7 : decode cX5_shareBits 7 = .ok (.bipush 127, 2) := by decide +kernel
theorem dX5_shareBits_9 : decode cX5_shareBits 9 = .ok (.invokestatic 184, 3) := by decide +kernel
theorem dX5_shareBits_12 : decode cX5_shareBits 12 = .ok (.l2i, 1) := by decide +kernel
theorem dX5_shareBits_13 : decode cX5_shareBits 13 = .ok (.ireturn, 1) := by decide +kernel
set_option maxRecDepth 20000 in
theorem ggX5_sumOfParts_X5_contains : GoodIn wsX5_sumOfParts wsX5_contains := goodIn_r _ [5] rfl (by decide +kernel)
set_option maxRecDepth 20000 in
theorem gX5_sumOfParts_X5_contains : GoodIn wsX5_sumOfParts (va_wsS RX5 88 yX5_contains wsX5_contains) := goodIn_app (goodIn_of _ (by decide +kernel)) ggX5_sumOfParts_X5_contains
theorem dX5_sumOfParts_0 : decode cX5_sumOfParts 0 = .ok (.fconst 0, 1) := by decide +kernel
theorem dX5_sumOfParts_1 : decode cX5_sumOfParts 1 = .ok (.fstore_n 1, 1) := by decide +kernel
theorem dX5_sumOfParts_2 : decode cX5_sumOfParts 2 = .ok (.iconst 1, 1) := by decide +kernel
theorem dX5_sumOfParts_3 : decode cX5_sumOfParts 3 = .ok (.istore_n 2, 1) := by decide +kernel
theorem dX5_sumOfParts_4 : decode cX5_sumOfParts 4 = .ok (.iload_n 2, 1) := by decide +kernel
theorem dX5_sumOfParts_5 : decode cX5_sumOfParts 5 = .ok (.bipush 48, 2) := by decide +kernel
theorem dX5_sumOfParts_7 : decode cX5_sumOfParts 7 = .ok (.if_icmp .gt 30, 3) := by decide +kernel
theorem dX5_sumOfParts_10 : decode cX5_sumOfParts 10 = .ok (.aload_n 0, 1) := by decide +kernel
theorem dX5_sumOfParts_11 : decode cX5_sumOfParts 11 = .ok (.getfield 10, 3) := by decide +kernel
theorem dX5_sumOfParts_14 : decode cX5_sumOfParts 14 = .ok (.getfield 63, 3) := by decide +kernel
theorem dX5_sumOfParts_17 : decode cX5_sumOfParts 17 = .ok (.iload_n 2, 1) := by decide +kernel
theorem dX5_sumOfParts_18 : decode cX5_sumOfParts 18 = .ok (.invokestatic 88, 3) := by decide +kernel
theorem dX5_sumOfParts_21 : decode cX5_sumOfParts 21 = .ok (.ifCond .eq 10, 3) := by decide +kernel
theorem dX5_sumOfParts_24 : decode cX5_sumOfParts 24 = .ok (.fload_n 1, 1) := by decide +kernel
theorem dX5_sumOfParts_25 : decode cX5_sumOfParts 25 = .ok (.fconst 1, 1) := by decide +kernel
theorem dX5_sumOfParts_26 : decode cX5_sumOfParts 26 = .ok (.iload_n 2, 1) := by decide +kernel
theorem dX5_sumOfParts_27 : decode cX5_sumOfParts 27 = .ok (.i2f, 1) := by decide +kernel
theorem dX5_sumOfParts_28 : decode cX5_sumOfParts 28 = .ok (.fdiv, 1) := by decide +kernel
theorem dX5_sumOfParts_29 : decode cX5_sumOfParts 29 = .ok (.fadd, 1) := by decide +kernel
theorem dX5_sumOfParts_30 : decode cX5_sumOfParts 30 = .ok (.fstore_n 1, 1) := by decide +kernel
theorem dX5_sumOfParts_31 : decode cX5_sumOfParts 31 = .ok (.iinc 2 1, 3) := by decide +kernel
theorem dX5_sumOfParts_34 : decode cX5_sumOfParts 34 = .ok (.goto (-30), 3) := by decide +kernel
theorem dX5_sumOfParts_37 : decode cX5_sumOfParts 37 = .ok (.fload_n 1, 1) := by decide +kernel
theorem dX5_sumOfParts_38 : decode cX5_sumOfParts 38 = .ok (.freturn, 1) := by decide +kernel
set_option maxRecDepth 20000 in
theorem ggX5_sumBits_X5_contains : GoodIn wsX5_sumBits wsX5_contains := goodIn_r _ [5] rfl (by decide +kernel)
set_option maxRecDepth 20000 in
theorem gX5_sumBits_X5_contains : GoodIn wsX5_sumBits (va_wsS RX5 88 yX5_contains wsX5_contains) := goodIn_app (goodIn_of _ (by decide +kernel)) ggX5_sumBits_X5_contains
set_option maxRecDepth 20000 in
theorem ggX5_sumBits_X5_bitsOf : GoodIn wsX5_sumBits wsX5_bitsOf := goodIn_r _ [8, 9, 10, 11, 4, 12] rfl (by decide +kernel)
set_option maxRecDepth 20000 in
theorem gX5_sumBits_X5_bitsOf : GoodIn wsX5_sumBits (va_wsS RX5 184 yX5_bitsOf wsX5_bitsOf) := goodIn_app (goodIn_of _ (by decide +kernel)) ggX5_sumBits_X5_bitsOf
theorem dX5_sumBits_0 : decode cX5_sumBits 0 = .ok (.dconst 0, 1) := by decide +kernel
theorem dX5_sumBits_1 : decode cX5_sumBits 1 = .ok (.dstore_n 1, 1) := by decide +kernel
theorem dX5_sumBits_2 : decode cX5_sumBits 2 = .ok (.iconst 1, 1) := by decide +kernel
theorem dX5_sumBits_3 : decode cX5_sumBits 3 = .ok (.istore_n 3, 1) := by decide +kernel
theorem dX5_sumBits_4 : decode cX5_sumBits 4 = .ok (.iload_n 3, 1) := by decide +kernel
theorem dX5_sumBits_5 : decode cX5_sumBits 5 = .ok (.bipush 48, 2) := by decide +kernel
theorem dX5_sumBits_7 : decode cX5_sumBits 7 = .ok (.if_icmp .gt 30, 3) := by decide +kernel
theorem dX5_sumBits_10 : decode cX5_sumBits 10 = .ok (.aload_n 0, 1) := by decide +kernel
theorem dX5_sumBits_11 : decode cX5_sumBits 11 = .ok (.getfield 10, 3) := by decide +kernel
theorem dX5_sumBits_14 : decode cX5_sumBits 14 = .ok (.getfield 63, 3) := by decide +kernel
theorem dX5_sumBits_17 : decode cX5_sumBits 17 = .ok (.iload_n 3, 1) := by decide +kernel
theorem dX5_sumBits_18 : decode cX5_sumBits 18 = .ok (.invokestatic 88, 3) := by decide +kernel
theorem dX5_sumBits_21 : decode cX5_sumBits 21 = .ok (.ifCond .eq 10, 3) := by decide +kernel
theorem dX5_sumBits_24 : decode cX5_sumBits 24 = .ok (.dload_n 1, 1) := by decide +kernel
theorem dX5_sumBits_25 : decode cX5_sumBits 25 = .ok (.dconst 1, 1) := by decide +kernel
theorem dX5_sumBits_26 : decode cX5_sumBits 26 = .ok (.iload_n 3, 1) := by decide +kernel
theorem dX5_sumBits_27 : decode cX5_sumBits 27 = .ok (.i2d, 1) := by decide +kernel
theorem dX5_sumBits_28 : decode cX5_sumBits 28 = .ok (.ddiv, 1) := by decide +kernel
theorem dX5_sumBits_29 : decode cX5_sumBits 29 = .ok (.dadd, 1) := by decide +kernel
theorem dX5_sumBits_30 : decode cX5_sumBits 30 = .ok (.dstore_n 1, 1) := by decide +kernel
theorem dX5_sumBits_31 : decode cX5_sumBits 31 = .ok (.iinc 3 1, 3) := by decide +kernel
theorem dX5_sumBits_34 : decode cX5_sumBits 34 = .ok (.goto (-30), 3) := by decide +kernel
theorem dX5_sumBits_37 : decode cX5_sumBits 37 = .ok (.dload_n 1, 1) := by decide +kernel
theorem dX5_sumBits_38 : decode cX5_sumBits 38 = .ok (.bipush 52, 2) := by decide +kernel
theorem dX5_sumBits_40 : decode cX5_sumBits 40 = .ok (.sipush 1023, 3) := by decide +kernel
theorem dX5_sumBits_43 : decode cX5_sumBits 43 = .ok (.invokestatic 184, 3) := by decide +kernel
theorem dX5_sumBits_46 : decode cX5_sumBits 46 = .ok (.lreturn, 1) := by decide +kernel
set_option maxRecDepth 20000 in
theorem ggX5_turnsInAll_X5_countAt : GoodIn wsX5_turnsInAll wsX5_countAt := goodIn_r _ [5] rfl (by decide +kernel)
set_option maxRecDepth 20000 in
theorem gX5_turnsInAll_X5_countAt : GoodIn wsX5_turnsInAll (va_wsS RX5 145 yX5_countAt wsX5_countAt) := goodIn_app (goodIn_of _ (by decide +kernel)) ggX5_turnsInAll_X5_countAt
theorem dX5_turnsInAll_0 : decode cX5_turnsInAll 0 = .ok (.iconst 0, 1) := by decide +kernel
theorem dX5_turnsInAll_1 : decode cX5_turnsInAll 1 = .ok (.istore_n 1, 1) := by decide +kernel
theorem dX5_turnsInAll_2 : decode cX5_turnsInAll 2 = .ok (.iconst 1, 1) := by decide +kernel
theorem dX5_turnsInAll_3 : decode cX5_turnsInAll 3 = .ok (.istore_n 2, 1) := by decide +kernel
theorem dX5_turnsInAll_4 : decode cX5_turnsInAll 4 = .ok (.iload_n 2, 1) := by decide +kernel
theorem dX5_turnsInAll_5 : decode cX5_turnsInAll 5 = .ok (.bipush 48, 2) := by decide +kernel
theorem dX5_turnsInAll_7 : decode cX5_turnsInAll 7 = .ok (.if_icmp .gt 23, 3) := by decide +kernel
theorem dX5_turnsInAll_10 : decode cX5_turnsInAll 10 = .ok (.iload_n 1, 1) := by decide +kernel
theorem dX5_turnsInAll_11 : decode cX5_turnsInAll 11 = .ok (.aload_n 0, 1) := by decide +kernel
theorem dX5_turnsInAll_12 : decode cX5_turnsInAll 12 = .ok (.getfield 10, 3) := by decide +kernel
theorem dX5_turnsInAll_15 : decode cX5_turnsInAll 15 = .ok (.getfield 141, 3) := by decide +kernel
theorem dX5_turnsInAll_18 : decode cX5_turnsInAll 18 = .ok (.iload_n 2, 1) := by decide +kernel
theorem dX5_turnsInAll_19 : decode cX5_turnsInAll 19 = .ok (.invokestatic 145, 3) := by decide +kernel
theorem dX5_turnsInAll_22 : decode cX5_turnsInAll 22 = .ok (.iadd, 1) := by decide +kernel
theorem dX5_turnsInAll_23 : decode cX5_turnsInAll 23 = .ok (.istore_n 1, 1) := by decide +kernel
theorem dX5_turnsInAll_24 : decode cX5_turnsInAll 24 = .ok (.iinc 2 1, 3) := by decide +kernel
theorem dX5_turnsInAll_27 : decode cX5_turnsInAll 27 = .ok (.goto (-23), 3) := by decide +kernel
theorem dX5_turnsInAll_30 : decode cX5_turnsInAll 30 = .ok (.iload_n 1, 1) := by decide +kernel
theorem dX5_turnsInAll_31 : decode cX5_turnsInAll 31 = .ok (.ireturn, 1) := by decide +kernel
set_option maxRecDepth 20000 in
theorem ggX5_keep_X2_copyFrom : GoodIn wsX5_keep wsX2_copyFrom := goodIn_r _ [8, 9, 10, 11, 12, 13, 14, 15, 16, 17, 7, 18, 32, 33, 34, 35, 36, 37, 38] rfl (by decide +kernel)
set_option maxRecDepth 20000 in
theorem gX5_keep_X2_copyFrom : GoodIn wsX5_keep (wsV RX5 188 RX2 yX2_copyFrom wsX2_copyFrom) := goodIn_app (goodIn_of _ (by decide +kernel)) ggX5_keep_X2_copyFrom
set_option maxRecDepth 20000 in
theorem ggX5_keep_J13_bitCount_95d88 : GoodIn wsX5_keep wsJ13_bitCount_95d88 := goodIn_r _ [22, 23, 24, 25] rfl (by decide +kernel)
set_option maxRecDepth 20000 in
theorem gX5_keep_J13_bitCount_95d88 : GoodIn wsX5_keep (va_wsS RX5 67 yJ13_bitCount_95d88 wsJ13_bitCount_95d88) := goodIn_app (goodIn_of _ (by decide +kernel)) ggX5_keep_J13_bitCount_95d88
theorem dX5_keep_0 : decode cX5_keep 0 = .ok (.aload_n 0, 1) := by decide +kernel
theorem dX5_keep_1 : decode cX5_keep 1 = .ok (.getfield 16, 3) := by decide +kernel
theorem dX5_keep_4 : decode cX5_keep 4 = .ok (.aload_n 0, 1) := by decide +kernel
theorem dX5_keep_5 : decode cX5_keep 5 = .ok (.getfield 10, 3) := by decide +kernel
theorem dX5_keep_8 : decode cX5_keep 8 = .ok (.invokevirtual 188, 3) := by decide +kernel
theorem dX5_keep_11 : decode cX5_keep 11 = .ok (.aload_n 0, 1) := by decide +kernel
theorem dX5_keep_12 : decode cX5_keep 12 = .ok (.iconst 1, 1) := by decide +kernel
theorem dX5_keep_13 : decode cX5_keep 13 = .ok (.putfield 19, 3) := by decide +kernel
theorem dX5_keep_16 : decode cX5_keep 16 = .ok (.aload_n 0, 1) := by decide +kernel
theorem dX5_keep_17 : decode cX5_keep 17 = .ok (.getfield 10, 3) := by decide +kernel
theorem dX5_keep_20 : decode cX5_keep 20 = .ok (.getfield 63, 3) := by decide +kernel
theorem dX5_keep_23 : decode cX5_keep 23 = .ok (.invokestatic 67, 3) := by decide +kernel
theorem dX5_keep_26 : decode cX5_keep 26 = .ok (.ireturn, 1) := by decide +kernel
set_option maxRecDepth 20000 in
theorem ggX5_goBack_X0_push : GoodIn wsX5_goBack wsX0_push := goodIn_r _ [11, 12, 13, 14, 15, 16, 10, 17, 18, 19, 20, 21, 22, 23, 24, 25, 26, 27, 28, 29, 30, 31, 32, 54, 55, 47, 48, 49, 50, 51, 52, 53] rfl (by decide +kernel)
set_option maxRecDepth 20000 in
theorem gX5_goBack_X0_push : GoodIn wsX5_goBack (wsV RX5 55 RX0 yX0_push wsX0_push) := goodIn_app (goodIn_of _ (by decide +kernel)) ggX5_goBack_X0_push
set_option maxRecDepth 20000 in
theorem ggX5_goBack_X2_copyFrom : GoodIn wsX5_goBack wsX2_copyFrom := goodIn_r _ [22, 23, 24, 25, 26, 27, 28, 29, 30, 31, 21, 32, 47, 48, 49, 50, 51, 52, 53] rfl (by decide +kernel)
set_option maxRecDepth 20000 in
theorem gX5_goBack_X2_copyFrom : GoodIn wsX5_goBack (wsV RX5 188 RX2 yX2_copyFrom wsX2_copyFrom) := goodIn_app (goodIn_of _ (by decide +kernel)) ggX5_goBack_X2_copyFrom
set_option maxRecDepth 20000 in
theorem ggX5_goBack_J13_bitCount_95d88 : GoodIn wsX5_goBack wsJ13_bitCount_95d88 := goodIn_r _ [37, 38, 39, 40] rfl (by decide +kernel)
set_option maxRecDepth 20000 in
theorem gX5_goBack_J13_bitCount_95d88 : GoodIn wsX5_goBack (va_wsS RX5 67 yJ13_bitCount_95d88 wsJ13_bitCount_95d88) := goodIn_app (goodIn_of _ (by decide +kernel)) ggX5_goBack_J13_bitCount_95d88
theorem dX5_goBack_0 : decode cX5_goBack 0 = .ok (.aload_n 0, 1) := by decide +kernel
theorem dX5_goBack_1 : decode cX5_goBack 1 = .ok (.getfield 19, 3) := by decide +kernel
theorem dX5_goBack_4 : decode cX5_goBack 4 = .ok (.ifCond .ne 13, 3) := by decide +kernel
theorem dX5_goBack_7 : decode cX5_goBack 7 = .ok (.new 92, 3) := by decide +kernel
theorem dX5_goBack_10 : decode cX5_goBack 10 = .ok (.dup, 1) := by decide +kernel
theorem dX5_goBack_11 : decode cX5_goBack 11 = .ok (.ldc 191, 2) := by decide +kernel
theorem dX5_goBack_13 : decode cX5_goBack 13 = .ok (.invokespecial 96, 3) := by decide +kernel
theorem dX5_goBack_16 : decode cX5_goBack 16 = .ok (.athrow, 1) := by decide +kernel
theorem dX5_goBack_17 : decode cX5_goBack 17 = .ok (.aload_n 0, 1) := by decide +kernel
theorem dX5_goBack_18 : decode cX5_goBack 18 = .ok (.getfield 26, 3) := by decide +kernel
theorem dX5_goBack_21 : decode cX5_goBack 21 = .ok (.aload_n 0, 1) := by decide +kernel
theorem dX5_goBack_22 : decode cX5_goBack 22 = .ok (.getfield 10, 3) := by decide +kernel
theorem dX5_goBack_25 : decode cX5_goBack 25 = .ok (.invokevirtual 55, 3) := by decide +kernel
theorem dX5_goBack_28 : decode cX5_goBack 28 = .ok (.aload_n 0, 1) := by decide +kernel
theorem dX5_goBack_29 : decode cX5_goBack 29 = .ok (.getfield 10, 3) := by decide +kernel
theorem dX5_goBack_32 : decode cX5_goBack 32 = .ok (.aload_n 0, 1) := by decide +kernel
theorem dX5_goBack_33 : decode cX5_goBack 33 = .ok (.getfield 16, 3) := by decide +kernel
theorem dX5_goBack_36 : decode cX5_goBack 36 = .ok (.invokevirtual 188, 3) := by decide +kernel
theorem dX5_goBack_39 : decode cX5_goBack 39 = .ok (.aload_n 0, 1) := by decide +kernel
theorem dX5_goBack_40 : decode cX5_goBack 40 = .ok (.getfield 10, 3) := by decide +kernel
theorem dX5_goBack_43 : decode cX5_goBack 43 = .ok (.getfield 63, 3) := by decide +kernel
theorem dX5_goBack_46 : decode cX5_goBack 46 = .ok (.invokestatic 67, 3) := by decide +kernel
theorem dX5_goBack_49 : decode cX5_goBack 49 = .ok (.ireturn, 1) := by decide +kernel
theorem dX5_states_0 : decode cX5_states 0 = .ok (.aload_n 0, 1) := by decide +kernel
theorem dX5_states_1 : decode cX5_states 1 = .ok (.getfield 26, 3) := by decide +kernel
theorem dX5_states_4 : decode cX5_states 4 = .ok (.getfield 193, 3) := by decide +kernel
theorem dX5_states_7 : decode cX5_states 7 = .ok (.ireturn, 1) := by decide +kernel
set_option maxRecDepth 20000 in
theorem ggX5_undo_X0_popInto : GoodIn wsX5_undo wsX0_popInto := goodIn_r _ [9, 10, 11, 12, 13, 14, 15, 16, 17, 18, 19, 20, 21, 22, 23, 24, 25, 26, 33, 34, 35, 36, 37, 38, 39, 40, 41] rfl (by decide +kernel)
set_option maxRecDepth 20000 in
theorem gX5_undo_X0_popInto : GoodIn wsX5_undo (wsV RX5 199 RX0 yX0_popInto wsX0_popInto) := goodIn_app (goodIn_of _ (by decide +kernel)) ggX5_undo_X0_popInto
theorem dX5_undo_0 : decode cX5_undo 0 = .ok (.aload_n 0, 1) := by decide +kernel
theorem dX5_undo_1 : decode cX5_undo 1 = .ok (.getfield 26, 3) := by decide +kernel
theorem dX5_undo_4 : decode cX5_undo 4 = .ok (.getfield 193, 3) := by decide +kernel
theorem dX5_undo_7 : decode cX5_undo 7 = .ok (.ifCond .ne 13, 3) := by decide +kernel
theorem dX5_undo_10 : decode cX5_undo 10 = .ok (.new 92, 3) := by decide +kernel
theorem dX5_undo_13 : decode cX5_undo 13 = .ok (.dup, 1) := by decide +kernel
theorem dX5_undo_14 : decode cX5_undo 14 = .ok (.ldc 197, 2) := by decide +kernel
theorem dX5_undo_16 : decode cX5_undo 16 = .ok (.invokespecial 96, 3) := by decide +kernel
theorem dX5_undo_19 : decode cX5_undo 19 = .ok (.athrow, 1) := by decide +kernel
theorem dX5_undo_20 : decode cX5_undo 20 = .ok (.aload_n 0, 1) := by decide +kernel
theorem dX5_undo_21 : decode cX5_undo 21 = .ok (.getfield 26, 3) := by decide +kernel
theorem dX5_undo_24 : decode cX5_undo 24 = .ok (.aload_n 0, 1) := by decide +kernel
theorem dX5_undo_25 : decode cX5_undo 25 = .ok (.getfield 10, 3) := by decide +kernel
theorem dX5_undo_28 : decode cX5_undo 28 = .ok (.invokevirtual 199, 3) := by decide +kernel
theorem dX5_undo_31 : decode cX5_undo 31 = .ok (.aload_n 0, 1) := by decide +kernel
theorem dX5_undo_32 : decode cX5_undo 32 = .ok (.getfield 26, 3) := by decide +kernel
theorem dX5_undo_35 : decode cX5_undo 35 = .ok (.getfield 193, 3) := by decide +kernel
theorem dX5_undo_38 : decode cX5_undo 38 = .ok (.ireturn, 1) := by decide +kernel
set_option maxRecDepth 20000 in
theorem ggX5_type_X3_append : GoodIn wsX5_type wsX3_append := goodIn_r _ [10, 11, 12, 19, 20] rfl (by decide +kernel)
set_option maxRecDepth 20000 in
theorem gX5_type_X3_append : GoodIn wsX5_type (wsV RX5 209 RX3 yX3_append wsX3_append) := goodIn_app (goodIn_of _ (by decide +kernel)) ggX5_type_X3_append
theorem dX5_type_0 : decode cX5_type 0 = .ok (.iload_n 1, 1) := by decide +kernel
theorem dX5_type_1 : decode cX5_type 1 = .ok (.bipush 32, 2) := by decide +kernel
theorem dX5_type_3 : decode cX5_type 3 = .ok (.if_icmp .lt 9, 3) := by decide +kernel
theorem dX5_type_6 : decode cX5_type 6 = .ok (.iload_n 1, 1) := by decide +kernel
theorem dX5_type_7 : decode cX5_type 7 = .ok (.bipush 126, 2) := by decide +kernel
theorem dX5_type_9 : decode cX5_type 9 = .ok (.if_icmp .le 13, 3) := by decide +kernel
theorem dX5_type_12 : decode cX5_type 12 = .ok (.new 48, 3) := by decide +kernel
theorem dX5_type_15 : decode cX5_type 15 = .ok (.dup, 1) := by decide +kernel
theorem dX5_type_16 : decode cX5_type 16 = .ok (.ldc 202, 2) := by decide +kernel
theorem dX5_type_18 : decode cX5_type 18 = .ok (.invokespecial 52, 3) := by decide +kernel
theorem dX5_type_21 : decode cX5_type 21 = .ok (.athrow, 1) := by decide +kernel
theorem dX5_type_22 : decode cX5_type 22 = .ok (.aload_n 0, 1) := by decide +kernel
theorem dX5_type_23 : decode cX5_type 23 = .ok (.getfield 33, 3) := by decide +kernel
theorem dX5_type_26 : decode cX5_type 26 = .ok (.getfield 204, 3) := by decide +kernel
theorem dX5_type_29 : decode cX5_type 29 = .ok (.bipush 60, 2) := by decide +kernel
theorem dX5_type_31 : decode cX5_type 31 = .ok (.if_icmp .lt 13, 3) := by decide +kernel
theorem dX5_type_34 : decode cX5_type 34 = .ok (.new 92, 3) := by decide +kernel
theorem dX5_type_37 : decode cX5_type 37 = .ok (.dup, 1) := by decide +kernel
theorem dX5_type_38 : decode cX5_type 38 = .ok (.ldc 207, 2) := by decide +kernel
theorem dX5_type_40 : decode cX5_type 40 = .ok (.invokespecial 96, 3) := by decide +kernel
theorem dX5_type_43 : decode cX5_type 43 = .ok (.athrow, 1) := by decide +kernel
theorem dX5_type_44 : decode cX5_type 44 = .ok (.aload_n 0, 1) := by decide +kernel
theorem dX5_type_45 : decode cX5_type 45 = .ok (.getfield 33, 3) := by decide +kernel
theorem dX5_type_48 : decode cX5_type 48 = .ok (.iload_n 1, 1) := by decide +kernel
theorem dX5_type_49 : decode cX5_type 49 = .ok (.i2c, 1) := by decide +kernel
theorem dX5_type_50 : decode cX5_type 50 = .ok (.invokevirtual 209, 3) := by decide +kernel
theorem dX5_type_53 : decode cX5_type 53 = .ok (.aload_n 0, 1) := by decide +kernel
theorem dX5_type_54 : decode cX5_type 54 = .ok (.getfield 33, 3) := by decide +kernel
theorem dX5_type_57 : decode cX5_type 57 = .ok (.getfield 204, 3) := by decide +kernel
theorem dX5_type_60 : decode cX5_type 60 = .ok (.ireturn, 1) := by decide +kernel
theorem dX5_clearText_0 : decode cX5_clearText 0 = .ok (.aload_n 0, 1) := by decide +kernel
theorem dX5_clearText_1 : decode cX5_clearText 1 = .ok (.getfield 33, 3) := by decide +kernel
theorem dX5_clearText_4 : decode cX5_clearText 4 = .ok (.getfield 204, 3) := by decide +kernel
theorem dX5_clearText_7 : decode cX5_clearText 7 = .ok (.istore_n 1, 1) := by decide +kernel
theorem dX5_clearText_8 : decode cX5_clearText 8 = .ok (.aload_n 0, 1) := by decide +kernel
theorem dX5_clearText_9 : decode cX5_clearText 9 = .ok (.getfield 33, 3) := by decide +kernel
theorem dX5_clearText_12 : decode cX5_clearText 12 = .ok (.iconst 0, 1) := by decide +kernel
theorem dX5_clearText_13 : decode cX5_clearText 13 = .ok (.putfield 204, 3) := by decide +kernel
theorem dX5_clearText_16 : decode cX5_clearText 16 = .ok (.iload_n 1, 1) := by decide +kernel
theorem dX5_clearText_17 : decode cX5_clearText 17 = .ok (.ireturn, 1) := by decide +kernel
set_option maxRecDepth 20000 in
theorem ggX5_faultPosition_X4_run : GoodIn wsX5_faultPosition wsX4_run := goodIn_r _ [10, 11, 12, 13, 14, 15, 16, 17, 18, 19, 20, 21, 22, 23, 24, 25, 26, 27, 28, 29, 30, 31, 32, 33, 34, 35, 36, 37, 38, 39, 40, 41, 42, 43, 44, 45, 46, 47, 48, 49, 50, 51, 52, 53, 54, 55, 56, 57, 58, 59, 60, 61, 62, 63, 64, 65, 66, 67, 68, 69, 70, 71, 72, 73, 74, 75, 76, 77, 78, 79, 80, 81, 82, 83, 84, 85, 86, 87, 88, 89, 90, 91, 92, 93, 94, 95, 96, 97, 98, 99, 100, 101, 102, 103, 104, 105, 106, 107, 108, 109, 110, 111, 112, 113, 114, 115, 116, 117, 124, 125, 126, 127, 128, 129, 130, 131, 132, 133, 134, 135, 136, 137, 138, 139, 140, 141, 142, 143] rfl (by decide +kernel)
set_option maxRecDepth 20000 in
theorem gX5_faultPosition_X4_run : GoodIn wsX5_faultPosition (wsV RX5 213 RX4 yX4_run wsX4_run) := goodIn_app (goodIn_of _ (by decide +kernel)) ggX5_faultPosition_X4_run
theorem dX5_faultPosition_0 : decode cX5_faultPosition 0 = .ok (.aload_n 0, 1) := by decide +kernel
theorem dX5_faultPosition_1 : decode cX5_faultPosition 1 = .ok (.getfield 40, 3) := by decide +kernel
theorem dX5_faultPosition_4 : decode cX5_faultPosition 4 = .ok (.aload_n 0, 1) := by decide +kernel
theorem dX5_faultPosition_5 : decode cX5_faultPosition 5 = .ok (.getfield 33, 3) := by decide +kernel
theorem dX5_faultPosition_8 : decode cX5_faultPosition 8 = .ok (.aload_n 0, 1) := by decide +kernel
theorem dX5_faultPosition_9 : decode cX5_faultPosition 9 = .ok (.getfield 10, 3) := by decide +kernel
theorem dX5_faultPosition_12 : decode cX5_faultPosition 12 = .ok (.invokevirtual 213, 3) := by decide +kernel
theorem dX5_faultPosition_15 : decode cX5_faultPosition 15 = .ok (.aload_n 0, 1) := by decide +kernel
theorem dX5_faultPosition_16 : decode cX5_faultPosition 16 = .ok (.getfield 40, 3) := by decide +kernel
theorem dX5_faultPosition_19 : decode cX5_faultPosition 19 = .ok (.getfield 217, 3) := by decide +kernel
theorem dX5_faultPosition_22 : decode cX5_faultPosition 22 = .ok (.ifCond .ne 13, 3) := by decide +kernel
theorem dX5_faultPosition_25 : decode cX5_faultPosition 25 = .ok (.new 157, 3) := by decide +kernel
theorem dX5_faultPosition_28 : decode cX5_faultPosition 28 = .ok (.dup, 1) := by decide +kernel
theorem dX5_faultPosition_29 : decode cX5_faultPosition 29 = .ok (.ldc 220, 2) := by decide +kernel
theorem dX5_faultPosition_31 : decode cX5_faultPosition 31 = .ok (.invokespecial 161, 3) := by decide +kernel
theorem dX5_faultPosition_34 : decode cX5_faultPosition 34 = .ok (.athrow, 1) := by decide +kernel
theorem dX5_faultPosition_35 : decode cX5_faultPosition 35 = .ok (.aload_n 0, 1) := by decide +kernel
theorem dX5_faultPosition_36 : decode cX5_faultPosition 36 = .ok (.getfield 40, 3) := by decide +kernel
theorem dX5_faultPosition_39 : decode cX5_faultPosition 39 = .ok (.getfield 222, 3) := by decide +kernel
theorem dX5_faultPosition_42 : decode cX5_faultPosition 42 = .ok (.ireturn, 1) := by decide +kernel
set_option maxRecDepth 20000 in
theorem ggX5_faultReason_X4_run : GoodIn wsX5_faultReason wsX4_run := goodIn_r _ [10, 11, 12, 13, 14, 15, 16, 17, 18, 19, 20, 21, 22, 23, 24, 25, 26, 27, 28, 29, 30, 31, 32, 33, 34, 35, 36, 37, 38, 39, 40, 41, 42, 43, 44, 45, 46, 47, 48, 49, 50, 51, 52, 53, 54, 55, 56, 57, 58, 59, 60, 61, 62, 63, 64, 65, 66, 67, 68, 69, 70, 71, 72, 73, 74, 75, 76, 77, 78, 79, 80, 81, 82, 83, 84, 85, 86, 87, 88, 89, 90, 91, 92, 93, 94, 95, 96, 97, 98, 99, 100, 101, 102, 103, 104, 105, 106, 107, 108, 109, 110, 111, 112, 113, 114, 115, 116, 117, 124, 125, 126, 127, 128, 129, 130, 131, 132, 133, 134, 135, 136, 137, 138, 139, 140, 141, 142, 143] rfl (by decide +kernel)
set_option maxRecDepth 20000 in
theorem gX5_faultReason_X4_run : GoodIn wsX5_faultReason (wsV RX5 213 RX4 yX4_run wsX4_run) := goodIn_app (goodIn_of _ (by decide +kernel)) ggX5_faultReason_X4_run
theorem dX5_faultReason_0 : decode cX5_faultReason 0 = .ok (.aload_n 0, 1) := by decide +kernel
theorem dX5_faultReason_1 : decode cX5_faultReason 1 = .ok (.getfield 40, 3) := by decide +kernel
theorem dX5_faultReason_4 : decode cX5_faultReason 4 = .ok (.aload_n 0, 1) := by decide +kernel
theorem dX5_faultReason_5 : decode cX5_faultReason 5 = .ok (.getfield 33, 3) := by decide +kernel
theorem dX5_faultReason_8 : decode cX5_faultReason 8 = .ok (.aload_n 0, 1) := by decide +kernel
theorem dX5_faultReason_9 : decode cX5_faultReason 9 = .ok (.getfield 10, 3) := by decide +kernel
theorem dX5_faultReason_12 : decode cX5_faultReason 12 = .ok (.invokevirtual 213, 3) := by decide +kernel
theorem dX5_faultReason_15 : decode cX5_faultReason 15 = .ok (.aload_n 0, 1) := by decide +kernel
theorem dX5_faultReason_16 : decode cX5_faultReason 16 = .ok (.getfield 40, 3) := by decide +kernel
theorem dX5_faultReason_19 : decode cX5_faultReason 19 = .ok (.getfield 217, 3) := by decide +kernel
theorem dX5_faultReason_22 : decode cX5_faultReason 22 = .ok (.ifCond .ne 13, 3) := by decide +kernel
theorem dX5_faultReason_25 : decode cX5_faultReason 25 = .ok (.new 157, 3) := by decide +kernel
theorem dX5_faultReason_28 : decode cX5_faultReason 28 = .ok (.dup, 1) := by decide +kernel
theorem dX5_faultReason_29 : decode cX5_faultReason 29 = .ok (.ldc 220, 2) := by decide +kernel
theorem dX5_faultReason_31 : decode cX5_faultReason 31 = .ok (.invokespecial 161, 3) := by decide +kernel
theorem dX5_faultReason_34 : decode cX5_faultReason 34 = .ok (.athrow, 1) := by decide +kernel
theorem dX5_faultReason_35 : decode cX5_faultReason 35 = .ok (.aload_n 0, 1) := by decide +kernel
theorem dX5_faultReason_36 : decode cX5_faultReason 36 = .ok (.getfield 40, 3) := by decide +kernel
theorem dX5_faultReason_39 : decode cX5_faultReason 39 = .ok (.getfield 217, 3) := by decide +kernel
theorem dX5_faultReason_42 : decode cX5_faultReason 42 = .ok (.ireturn, 1) := by decide +kernel
set_option maxRecDepth 20000 in
theorem ggX5_faultCause_X4_run : GoodIn wsX5_faultCause wsX4_run := goodIn_r _ [10, 11, 12, 13, 14, 15, 16, 17, 18, 19, 20, 21, 22, 23, 24, 25, 26, 27, 28, 29, 30, 31, 32, 33, 34, 35, 36, 37, 38, 39, 40, 41, 42, 43, 44, 45, 46, 47, 48, 49, 50, 51, 52, 53, 54, 55, 56, 57, 58, 59, 60, 61, 62, 63, 64, 65, 66, 67, 68, 69, 70, 71, 72, 73, 74, 75, 76, 77, 78, 79, 80, 81, 82, 83, 84, 85, 86, 87, 88, 89, 90, 91, 92, 93, 94, 95, 96, 97, 98, 99, 100, 101, 102, 103, 104, 105, 106, 107, 108, 109, 110, 111, 112, 113, 114, 115, 116, 117, 124, 125, 126, 127, 128, 129, 130, 131, 132, 133, 134, 135, 136, 137, 138, 139, 140, 141, 142, 143] rfl (by decide +kernel)
set_option maxRecDepth 20000 in
theorem gX5_faultCause_X4_run : GoodIn wsX5_faultCause (wsV RX5 213 RX4 yX4_run wsX4_run) := goodIn_app (goodIn_of _ (by decide +kernel)) ggX5_faultCause_X4_run
theorem dX5_faultCause_0 : decode cX5_faultCause 0 = .ok (.aload_n 0, 1) := by decide +kernel
theorem dX5_faultCause_1 : decode cX5_faultCause 1 = .ok (.getfield 40, 3) := by decide +kernel
theorem dX5_faultCause_4 : decode cX5_faultCause 4 = .ok (.aload_n 0, 1) := by decide +kernel
theorem dX5_faultCause_5 : decode cX5_faultCause 5 = .ok (.getfield 33, 3) := by decide +kernel
theorem dX5_faultCause_8 : decode cX5_faultCause 8 = .ok (.aload_n 0, 1) := by decide +kernel
theorem dX5_faultCause_9 : decode cX5_faultCause 9 = .ok (.getfield 10, 3) := by decide +kernel
theorem dX5_faultCause_12 : decode cX5_faultCause 12 = .ok (.invokevirtual 213, 3) := by decide +kernel
theorem dX5_faultCause_15 : decode cX5_faultCause 15 = .ok (.aload_n 0, 1) := by decide +kernel
theorem dX5_faultCause_16 : decode cX5_faultCause 16 = .ok (.getfield 40, 3) := by decide +kernel
theorem dX5_faultCause_19 : decode cX5_faultCause 19 = .ok (.getfield 217, 3) := by decide +kernel
theorem dX5_faultCause_22 : decode cX5_faultCause 22 = .ok (.ifCond .ne 13, 3) := by decide +kernel
theorem dX5_faultCause_25 : decode cX5_faultCause 25 = .ok (.new 157, 3) := by decide +kernel
theorem dX5_faultCause_28 : decode cX5_faultCause 28 = .ok (.dup, 1) := by decide +kernel
theorem dX5_faultCause_29 : decode cX5_faultCause 29 = .ok (.ldc 220, 2) := by decide +kernel
theorem dX5_faultCause_31 : decode cX5_faultCause 31 = .ok (.invokespecial 161, 3) := by decide +kernel
theorem dX5_faultCause_34 : decode cX5_faultCause 34 = .ok (.athrow, 1) := by decide +kernel
theorem dX5_faultCause_35 : decode cX5_faultCause 35 = .ok (.aload_n 0, 1) := by decide +kernel
theorem dX5_faultCause_36 : decode cX5_faultCause 36 = .ok (.getfield 40, 3) := by decide +kernel
theorem dX5_faultCause_39 : decode cX5_faultCause 39 = .ok (.getfield 225, 3) := by decide +kernel
theorem dX5_faultCause_42 : decode cX5_faultCause 42 = .ok (.ireturn, 1) := by decide +kernel
set_option maxRecDepth 20000 in
theorem ggX5_play_X4_run : GoodIn wsX5_play wsX4_run := goodIn_r _ [11, 12, 13, 14, 15, 16, 17, 18, 19, 20, 21, 22, 23, 24, 25, 26, 27, 28, 29, 30, 31, 32, 33, 34, 35, 36, 37, 38, 39, 40, 41, 42, 43, 44, 45, 46, 47, 48, 49, 50, 51, 52, 53, 54, 55, 56, 57, 58, 59, 60, 61, 62, 63, 64, 65, 66, 67, 68, 69, 70, 71, 72, 73, 74, 75, 76, 77, 78, 79, 80, 81, 82, 83, 84, 85, 86, 87, 88, 89, 90, 91, 92, 93, 94, 95, 96, 97, 98, 99, 100, 101, 102, 103, 104, 105, 106, 107, 108, 109, 110, 111, 112, 113, 114, 115, 116, 117, 118, 138, 139, 140, 141, 142, 143, 144, 145, 146, 147, 148, 149, 150, 151, 152, 153, 154, 155, 156, 157] rfl (by decide +kernel)
set_option maxRecDepth 20000 in
theorem gX5_play_X4_run : GoodIn wsX5_play (wsV RX5 213 RX4 yX4_run wsX4_run) := goodIn_app (goodIn_of _ (by decide +kernel)) ggX5_play_X4_run
set_option maxRecDepth 20000 in
theorem ggX5_play_X0_push : GoodIn wsX5_play wsX0_push := goodIn_r _ [123, 124, 125, 126, 127, 128, 122, 129, 130, 19, 20, 21, 22, 23, 24, 25, 26, 27, 28, 29, 30, 31, 32, 158, 159, 151, 152, 153, 154, 155, 156, 157] rfl (by decide +kernel)
set_option maxRecDepth 20000 in
theorem gX5_play_X0_push : GoodIn wsX5_play (wsV RX5 55 RX0 yX0_push wsX0_push) := goodIn_app (goodIn_of _ (by decide +kernel)) ggX5_play_X0_push
set_option maxRecDepth 20000 in
theorem ggX5_play_X2_copyFrom : GoodIn wsX5_play wsX2_copyFrom := goodIn_r _ [22, 23, 24, 25, 26, 27, 28, 29, 30, 31, 21, 32, 151, 152, 153, 154, 155, 156, 157] rfl (by decide +kernel)
set_option maxRecDepth 20000 in
theorem gX5_play_X2_copyFrom : GoodIn wsX5_play (wsV RX5 188 RX2 yX2_copyFrom wsX2_copyFrom) := goodIn_app (goodIn_of _ (by decide +kernel)) ggX5_play_X2_copyFrom
theorem dX5_play_0 : decode cX5_play 0 = .ok (.aload_n 0, 1) := by decide +kernel
theorem dX5_play_1 : decode cX5_play 1 = .ok (.getfield 40, 3) := by decide +kernel
theorem dX5_play_4 : decode cX5_play 4 = .ok (.aload_n 0, 1) := by decide +kernel
theorem dX5_play_5 : decode cX5_play 5 = .ok (.getfield 33, 3) := by decide +kernel
theorem dX5_play_8 : decode cX5_play 8 = .ok (.aload_n 0, 1) := by decide +kernel
theorem dX5_play_9 : decode cX5_play 9 = .ok (.getfield 10, 3) := by decide +kernel
theorem dX5_play_12 : decode cX5_play 12 = .ok (.invokevirtual 213, 3) := by decide +kernel
theorem dX5_play_15 : decode cX5_play 15 = .ok (.aload_n 0, 1) := by decide +kernel
theorem dX5_play_16 : decode cX5_play 16 = .ok (.getfield 40, 3) := by decide +kernel
theorem dX5_play_19 : decode cX5_play 19 = .ok (.getfield 217, 3) := by decide +kernel
theorem dX5_play_22 : decode cX5_play 22 = .ok (.ifCond .eq 13, 3) := by decide +kernel
theorem dX5_play_25 : decode cX5_play 25 = .ok (.new 92, 3) := by decide +kernel
theorem dX5_play_28 : decode cX5_play 28 = .ok (.dup, 1) := by decide +kernel
theorem dX5_play_29 : decode cX5_play 29 = .ok (.ldc 228, 2) := by decide +kernel
theorem dX5_play_31 : decode cX5_play 31 = .ok (.invokespecial 96, 3) := by decide +kernel
theorem dX5_play_34 : decode cX5_play 34 = .ok (.athrow, 1) := by decide +kernel
theorem dX5_play_35 : decode cX5_play 35 = .ok (.aload_n 0, 1) := by decide +kernel
theorem dX5_play_36 : decode cX5_play 36 = .ok (.getfield 26, 3) := by decide +kernel
theorem dX5_play_39 : decode cX5_play 39 = .ok (.aload_n 0, 1) := by decide +kernel
theorem dX5_play_40 : decode cX5_play 40 = .ok (.getfield 10, 3) := by decide +kernel
theorem dX5_play_43 : decode cX5_play 43 = .ok (.invokevirtual 55, 3) := by decide +kernel
theorem dX5_play_46 : decode cX5_play 46 = .ok (.aload_n 0, 1) := by decide +kernel
theorem dX5_play_47 : decode cX5_play 47 = .ok (.getfield 10, 3) := by decide +kernel
theorem dX5_play_50 : decode cX5_play 50 = .ok (.aload_n 0, 1) := by decide +kernel
theorem dX5_play_51 : decode cX5_play 51 = .ok (.getfield 40, 3) := by decide +kernel
theorem dX5_play_54 : decode cX5_play 54 = .ok (.getfield 230, 3) := by decide +kernel
theorem dX5_play_57 : decode cX5_play 57 = .ok (.invokevirtual 188, 3) := by decide +kernel
theorem dX5_play_60 : decode cX5_play 60 = .ok (.aload_n 0, 1) := by decide +kernel
theorem dX5_play_61 : decode cX5_play 61 = .ok (.getfield 40, 3) := by decide +kernel
theorem dX5_play_64 : decode cX5_play 64 = .ok (.getfield 233, 3) := by decide +kernel
theorem dX5_play_67 : decode cX5_play 67 = .ok (.ireturn, 1) := by decide +kernel
theorem dX5_isInRow_0 : decode cX5_isInRow 0 = .ok (.iload_n 0, 1) := by decide +kernel
theorem dX5_isInRow_1 : decode cX5_isInRow 1 = .ok (.iconst 1, 1) := by decide +kernel
theorem dX5_isInRow_2 : decode cX5_isInRow 2 = .ok (.if_icmp .lt 13, 3) := by decide +kernel
theorem dX5_isInRow_5 : decode cX5_isInRow 5 = .ok (.iload_n 0, 1) := by decide +kernel
theorem dX5_isInRow_6 : decode cX5_isInRow 6 = .ok (.bipush 48, 2) := by decide +kernel
theorem dX5_isInRow_8 : decode cX5_isInRow 8 = .ok (.if_icmp .gt 7, 3) := by decide +kernel
theorem dX5_isInRow_11 : decode cX5_isInRow 11 = .ok (.iconst 1, 1) := by decide +kernel
theorem dX5_isInRow_12 : decode cX5_isInRow 12 = .ok (.goto 4, 3) := by decide +kernel
theorem dX5_isInRow_15 : decode cX5_isInRow 15 = .ok (.iconst 0, 1) := by decide +kernel
theorem dX5_isInRow_16 : decode cX5_isInRow 16 = .ok (.ireturn, 1) := by decide +kernel
theorem dX5_isStretch_0 : decode cX5_isStretch 0 = .ok (.iload_n 0, 1) := by decide +kernel
theorem dX5_isStretch_1 : decode cX5_isStretch 1 = .ok (.iconst 1, 1) := by decide +kernel
theorem dX5_isStretch_2 : decode cX5_isStretch 2 = .ok (.if_icmp .lt 18, 3) := by decide +kernel
theorem dX5_isStretch_5 : decode cX5_isStretch 5 = .ok (.iload_n 0, 1) := by decide +kernel
theorem dX5_isStretch_6 : decode cX5_isStretch 6 = .ok (.iload_n 1, 1) := by decide +kernel
theorem dX5_isStretch_7 : decode cX5_isStretch 7 = .ok (.if_icmp .gt 13, 3) := by decide +kernel
theorem dX5_isStretch_10 : decode cX5_isStretch 10 = .ok (.iload_n 1, 1) := by decide +kernel
theorem dX5_isStretch_11 : decode cX5_isStretch 11 = .ok (.bipush 48, 2) := by decide +kernel
theorem dX5_isStretch_13 : decode cX5_isStretch 13 = .ok (.if_icmp .gt 7, 3) := by decide +kernel
theorem dX5_isStretch_16 : decode cX5_isStretch 16 = .ok (.iconst 1, 1) := by decide +kernel
theorem dX5_isStretch_17 : decode cX5_isStretch 17 = .ok (.goto 4, 3) := by decide +kernel
theorem dX5_isStretch_20 : decode cX5_isStretch 20 = .ok (.iconst 0, 1) := by decide +kernel
theorem dX5_isStretch_21 : decode cX5_isStretch 21 = .ok (.ireturn, 1) := by decide +kernel
theorem dX5_isKind_0 : decode cX5_isKind 0 = .ok (.iload_n 0, 1) := by decide +kernel
theorem dX5_isKind_1 : decode cX5_isKind 1 = .ok (.ifCond .eq 8, 3) := by decide +kernel
theorem dX5_isKind_4 : decode cX5_isKind 4 = .ok (.iload_n 0, 1) := by decide +kernel
theorem dX5_isKind_5 : decode cX5_isKind 5 = .ok (.iconst 1, 1) := by decide +kernel
theorem dX5_isKind_6 : decode cX5_isKind 6 = .ok (.if_icmp .ne 7, 3) := by decide +kernel
theorem dX5_isKind_9 : decode cX5_isKind 9 = .ok (.iconst 1, 1) := by decide +kernel
theorem dX5_isKind_10 : decode cX5_isKind 10 = .ok (.goto 4, 3) := by decide +kernel
theorem dX5_isKind_13 : decode cX5_isKind 13 = .ok (.iconst 0, 1) := by decide +kernel
theorem dX5_isKind_14 : decode cX5_isKind 14 = .ok (.ireturn, 1) := by decide +kernel
theorem dX5_bit_0 : decode cX5_bit 0 = .ok (.lconst 1, 1) := by decide +kernel
theorem dX5_bit_1 : decode cX5_bit 1 = .ok (.iload_n 0, 1) := by decide +kernel
theorem dX5_bit_2 : decode cX5_bit 2 = .ok (.lshl, 1) := by decide +kernel
theorem dX5_bit_3 : decode cX5_bit 3 = .ok (.lreturn, 1) := by decide +kernel
theorem dX5_contains_0 : decode cX5_contains 0 = .ok (.lload_n 0, 1) := by decide +kernel
theorem dX5_contains_1 : decode cX5_contains 1 = .ok (.iload_n 2, 1) := by decide +kernel
theorem dX5_contains_2 : decode cX5_contains 2 = .ok (.lushr, 1) := by decide +kernel
theorem dX5_contains_3 : decode cX5_contains 3 = .ok (.lconst 1, 1) := by decide +kernel
theorem dX5_contains_4 : decode cX5_contains 4 = .ok (.land, 1) := by decide +kernel
theorem dX5_contains_5 : decode cX5_contains 5 = .ok (.lconst 0, 1) := by decide +kernel
theorem dX5_contains_6 : decode cX5_contains 6 = .ok (.lcmp, 1) := by decide +kernel
theorem dX5_contains_7 : decode cX5_contains 7 = .ok (.ifCond .eq 7, 3) := by decide +kernel
theorem dX5_contains_10 : decode cX5_contains 10 = .ok (.iconst 1, 1) := by decide +kernel
theorem dX5_contains_11 : decode cX5_contains 11 = .ok (.goto 4, 3) := by decide +kernel
theorem dX5_contains_14 : decode cX5_contains 14 = .ok (.iconst 0, 1) := by decide +kernel
theorem dX5_contains_15 : decode cX5_contains 15 = .ok (.ireturn, 1) := by decide +kernel
theorem dX5_countAt_0 : decode cX5_countAt 0 = .ok (.iload_n 1, 1) := by decide +kernel
theorem dX5_countAt_1 : decode cX5_countAt 1 = .ok (.ifCond .lt 15, 3) := by decide +kernel
theorem dX5_countAt_4 : decode cX5_countAt 4 = .ok (.iload_n 1, 1) := by decide +kernel
theorem dX5_countAt_5 : decode cX5_countAt 5 = .ok (.aload_n 0, 1) := by decide +kernel
theorem dX5_countAt_6 : decode cX5_countAt 6 = .ok (.arraylength, 1) := by decide +kernel
theorem dX5_countAt_7 : decode cX5_countAt 7 = .ok (.if_icmp .ge 9, 3) := by decide +kernel
theorem dX5_countAt_10 : decode cX5_countAt 10 = .ok (.aload_n 0, 1) := by decide +kernel
theorem dX5_countAt_11 : decode cX5_countAt 11 = .ok (.iload_n 1, 1) := by decide +kernel
theorem dX5_countAt_12 : decode cX5_countAt 12 = .ok (.iaload, 1) := by decide +kernel
theorem dX5_countAt_13 : decode cX5_countAt 13 = .ok (.goto 4, 3) := by decide +kernel
theorem dX5_countAt_16 : decode cX5_countAt 16 = .ok (.iconst 0, 1) := by decide +kernel
theorem dX5_countAt_17 : decode cX5_countAt 17 = .ok (.ireturn, 1) := by decide +kernel
theorem dX5_countUp_0 : decode cX5_countUp 0 = .ok (.iload_n 1, 1) := by decide +kernel
theorem dX5_countUp_1 : decode cX5_countUp 1 = .ok (.ifCond .lt 16, 3) := by decide +kernel
theorem dX5_countUp_4 : decode cX5_countUp 4 = .ok (.iload_n 1, 1) := by decide +kernel
theorem dX5_countUp_5 : decode cX5_countUp 5 = .ok (.aload_n 0, 1) := by decide +kernel
theorem dX5_countUp_6 : decode cX5_countUp 6 = .ok (.arraylength, 1) := by decide +kernel
theorem dX5_countUp_7 : decode cX5_countUp 7 = .ok (.if_icmp .ge 10, 3) := by decide +kernel
theorem dX5_countUp_10 : decode cX5_countUp 10 = .ok (.aload_n 0, 1) := by decide +kernel
theorem dX5_countUp_11 : decode cX5_countUp 11 = .ok (.iload_n 1, 1) := by decide +kernel
theorem dX5_countUp_12 : decode cX5_countUp 12 = .ok (.dup2, 1) := by decide +kernel
theorem dX5_countUp_13 : decode cX5_countUp 13 = .ok (.iaload, 1) := by decide +kernel
theorem dX5_countUp_14 : decode cX5_countUp 14 = .ok (.iconst 1, 1) := by decide +kernel
theorem dX5_countUp_15 : decode cX5_countUp 15 = .ok (.iadd, 1) := by decide +kernel
theorem dX5_countUp_16 : decode cX5_countUp 16 = .ok (.iastore, 1) := by decide +kernel
theorem dX5_countUp_17 : decode cX5_countUp 17 = .ok (.return_, 1) := by decide +kernel
theorem dX5_divides_0 : decode cX5_divides 0 = .ok (.iload_n 0, 1) := by decide +kernel
theorem dX5_divides_1 : decode cX5_divides 1 = .ok (.ifCond .le 13, 3) := by decide +kernel
theorem dX5_divides_4 : decode cX5_divides 4 = .ok (.iload_n 1, 1) := by decide +kernel
theorem dX5_divides_5 : decode cX5_divides 5 = .ok (.iload_n 0, 1) := by decide +kernel
theorem dX5_divides_6 : decode cX5_divides 6 = .ok (.irem, 1) := by decide +kernel
theorem dX5_divides_7 : decode cX5_divides 7 = .ok (.ifCond .ne 7, 3) := by decide +kernel
theorem dX5_divides_10 : decode cX5_divides 10 = .ok (.iconst 1, 1) := by decide +kernel
theorem dX5_divides_11 : decode cX5_divides 11 = .ok (.goto 4, 3) := by decide +kernel
theorem dX5_divides_14 : decode cX5_divides 14 = .ok (.iconst 0, 1) := by decide +kernel
theorem dX5_divides_15 : decode cX5_divides 15 = .ok (.ireturn, 1) := by decide +kernel
theorem dX5_timesInRow_0 : decode cX5_timesInRow 0 = .ok (.iload_n 0, 1) := by decide +kernel
theorem dX5_timesInRow_1 : decode cX5_timesInRow 1 = .ok (.ifCond .le 10, 3) := by decide +kernel
theorem dX5_timesInRow_4 : decode cX5_timesInRow 4 = .ok (.bipush 48, 2) := by decide +kernel
theorem dX5_timesInRow_6 : decode cX5_timesInRow 6 = .ok (.iload_n 0, 1) := by decide +kernel
theorem dX5_timesInRow_7 : decode cX5_timesInRow 7 = .ok (.idiv, 1) := by decide +kernel
theorem dX5_timesInRow_8 : decode cX5_timesInRow 8 = .ok (.goto 4, 3) := by decide +kernel
theorem dX5_timesInRow_11 : decode cX5_timesInRow 11 = .ok (.iconst 0, 1) := by decide +kernel
theorem dX5_timesInRow_12 : decode cX5_timesInRow 12 = .ok (.ireturn, 1) := by decide +kernel
set_option maxRecDepth 20000 in
theorem ggX5_multiplesOf_X5_timesInRow : GoodIn wsX5_multiplesOf wsX5_timesInRow := goodIn_r _ [4] rfl (by decide +kernel)
set_option maxRecDepth 20000 in
theorem gX5_multiplesOf_X5_timesInRow : GoodIn wsX5_multiplesOf (va_wsS RX5 236 yX5_timesInRow wsX5_timesInRow) := goodIn_app (goodIn_of _ (by decide +kernel)) ggX5_multiplesOf_X5_timesInRow
set_option maxRecDepth 20000 in
theorem ggX5_multiplesOf_X5_bit : GoodIn wsX5_multiplesOf wsX5_bit := goodIn_r _ [7] rfl (by decide +kernel)
set_option maxRecDepth 20000 in
theorem gX5_multiplesOf_X5_bit : GoodIn wsX5_multiplesOf (va_wsS RX5 106 yX5_bit wsX5_bit) := goodIn_app (goodIn_of _ (by decide +kernel)) ggX5_multiplesOf_X5_bit
theorem dX5_multiplesOf_0 : decode cX5_multiplesOf 0 = .ok (.lconst 0, 1) := by decide +kernel
theorem dX5_multiplesOf_1 : decode cX5_multiplesOf 1 = .ok (.lstore_n 1, 1) := by decide +kernel
theorem dX5_multiplesOf_2 : decode cX5_multiplesOf 2 = .ok (.iload_n 0, 1) := by decide +kernel
theorem dX5_multiplesOf_3 : decode cX5_multiplesOf 3 = .ok (.invokestatic 236, 3) := by decide +kernel
theorem dX5_multiplesOf_6 : decode cX5_multiplesOf 6 = .ok (.istore_n 3, 1) := by decide +kernel
theorem dX5_multiplesOf_7 : decode cX5_multiplesOf 7 = .ok (.iconst 1, 1) := by decide +kernel
theorem dX5_multiplesOf_8 : decode cX5_multiplesOf 8 = .ok (.istore 4, 2) := by decide +kernel
theorem dX5_multiplesOf_10 : decode cX5_multiplesOf 10 = .ok (.iload 4, 2) := by decide +kernel
theorem dX5_multiplesOf_12 : decode cX5_multiplesOf 12 = .ok (.iload_n 3, 1) := by decide +kernel
theorem dX5_multiplesOf_13 : decode cX5_multiplesOf 13 = .ok (.if_icmp .gt 19, 3) := by decide +kernel
theorem dX5_multiplesOf_16 : decode cX5_multiplesOf 16 = .ok (.lload_n 1, 1) := by decide +kernel
theorem dX5_multiplesOf_17 : decode cX5_multiplesOf 17 = .ok (.iload 4, 2) := by decide +kernel
theorem dX5_multiplesOf_19 : decode cX5_multiplesOf 19 = .ok (.iload_n 0, 1) := by decide +kernel
theorem dX5_multiplesOf_20 : decode cX5_multiplesOf 20 = .ok (.imul, 1) := by decide +kernel
theorem dX5_multiplesOf_21 : decode cX5_multiplesOf 21 = .ok (.invokestatic 106, 3) := by decide +kernel
theorem dX5_multiplesOf_24 : decode cX5_multiplesOf 24 = .ok (.lor, 1) := by decide +kernel
theorem dX5_multiplesOf_25 : decode cX5_multiplesOf 25 = .ok (.lstore_n 1, 1) := by decide +kernel
theorem dX5_multiplesOf_26 : decode cX5_multiplesOf 26 = .ok (.iinc 4 1, 3) := by decide +kernel
theorem dX5_multiplesOf_29 : decode cX5_multiplesOf 29 = .ok (.goto (-19), 3) := by decide +kernel
theorem dX5_multiplesOf_32 : decode cX5_multiplesOf 32 = .ok (.lload_n 1, 1) := by decide +kernel
theorem dX5_multiplesOf_33 : decode cX5_multiplesOf 33 = .ok (.lreturn, 1) := by decide +kernel
set_option maxRecDepth 20000 in
theorem ggX5_isClosingByDivisors_X5_contains : GoodIn wsX5_isClosingByDivisors wsX5_contains := goodIn_r _ [5] rfl (by decide +kernel)
set_option maxRecDepth 20000 in
theorem gX5_isClosingByDivisors_X5_contains : GoodIn wsX5_isClosingByDivisors (va_wsS RX5 88 yX5_contains wsX5_contains) := goodIn_app (goodIn_of _ (by decide +kernel)) ggX5_isClosingByDivisors_X5_contains
set_option maxRecDepth 20000 in
theorem ggX5_isClosingByDivisors_X5_divides : GoodIn wsX5_isClosingByDivisors wsX5_divides := goodIn_r _ [8] rfl (by decide +kernel)
set_option maxRecDepth 20000 in
theorem gX5_isClosingByDivisors_X5_divides : GoodIn wsX5_isClosingByDivisors (va_wsS RX5 154 yX5_divides wsX5_divides) := goodIn_app (goodIn_of _ (by decide +kernel)) ggX5_isClosingByDivisors_X5_divides
set_option maxRecDepth 20000 in
theorem ggX5_isClosingByDivisors_X5_isSquareFree : GoodIn wsX5_isClosingByDivisors wsX5_isSquareFree := goodIn_r _ [11, 6, 7, 4, 8] rfl (by decide +kernel)
set_option maxRecDepth 20000 in
theorem gX5_isClosingByDivisors_X5_isSquareFree : GoodIn wsX5_isClosingByDivisors (va_wsS RX5 239 yX5_isSquareFree wsX5_isSquareFree) := goodIn_app (goodIn_of _ (by decide +kernel)) ggX5_isClosingByDivisors_X5_isSquareFree
theorem dX5_isClosingByDivisors_0 : decode cX5_isClosingByDivisors 0 = .ok (.iconst 0, 1) := by decide +kernel
theorem dX5_isClosingByDivisors_1 : decode cX5_isClosingByDivisors 1 = .ok (.istore_n 2, 1) := by decide +kernel
theorem dX5_isClosingByDivisors_2 : decode cX5_isClosingByDivisors 2 = .ok (.iconst 1, 1) := by decide +kernel
theorem dX5_isClosingByDivisors_3 : decode cX5_isClosingByDivisors 3 = .ok (.istore_n 3, 1) := by decide +kernel
theorem dX5_isClosingByDivisors_4 : decode cX5_isClosingByDivisors 4 = .ok (.iload_n 3, 1) := by decide +kernel
theorem dX5_isClosingByDivisors_5 : decode cX5_isClosingByDivisors 5 = .ok (.bipush 48, 2) := by decide +kernel
theorem dX5_isClosingByDivisors_7 : decode cX5_isClosingByDivisors 7 = .ok (.if_icmp .gt 50, 3) := by decide +kernel
theorem dX5_isClosingByDivisors_10 : decode cX5_isClosingByDivisors 10 = .ok (.aload_n 0, 1) := by decide +kernel
theorem dX5_isClosingByDivisors_11 : decode cX5_isClosingByDivisors 11 = .ok (.getfield 10, 3) := by decide +kernel
theorem dX5_isClosingByDivisors_14 : decode cX5_isClosingByDivisors 14 = .ok (.getfield 63, 3) := by decide +kernel
theorem dX5_isClosingByDivisors_17 : decode cX5_isClosingByDivisors 17 = .ok (.iload_n 3, 1) := by decide +kernel
theorem dX5_isClosingByDivisors_18 : decode cX5_isClosingByDivisors 18 = .ok (.invokestatic 88, 3) := by decide +kernel
theorem dX5_isClosingByDivisors_21 : decode cX5_isClosingByDivisors 21 = .ok (.ifCond .eq 30, 3) := by decide +kernel
theorem dX5_isClosingByDivisors_24 : decode cX5_isClosingByDivisors 24 = .ok (.iload_n 3, 1) := by decide +kernel
theorem dX5_isClosingByDivisors_25 : decode cX5_isClosingByDivisors 25 = .ok (.iload_n 1, 1) := by decide +kernel
theorem dX5_isClosingByDivisors_26 : decode cX5_isClosingByDivisors 26 = .ok (.invokestatic 154, 3) := by decide +kernel
theorem dX5_isClosingByDivisors_29 : decode cX5_isClosingByDivisors 29 = .ok (.ifCond .eq 22, 3) := by decide +kernel
theorem dX5_isClosingByDivisors_32 : decode cX5_isClosingByDivisors 32 = .ok (.iload_n 1, 1) := by decide +kernel
theorem dX5_isClosingByDivisors_33 : decode cX5_isClosingByDivisors 33 = .ok (.iload_n 3, 1) := by decide +kernel
theorem dX5_isClosingByDivisors_34 : decode cX5_isClosingByDivisors 34 = .ok (.idiv, 1) := by decide +kernel
theorem dX5_isClosingByDivisors_35 : decode cX5_isClosingByDivisors 35 = .ok (.invokestatic 239, 3) := by decide +kernel
theorem dX5_isClosingByDivisors_38 : decode cX5_isClosingByDivisors 38 = .ok (.ifCond .eq 13, 3) := by decide +kernel
theorem dX5_isClosingByDivisors_41 : decode cX5_isClosingByDivisors 41 = .ok (.iload_n 2, 1) := by decide +kernel
theorem dX5_isClosingByDivisors_42 : decode cX5_isClosingByDivisors 42 = .ok (.ifCond .ne 7, 3) := by decide +kernel
theorem dX5_isClosingByDivisors_45 : decode cX5_isClosingByDivisors 45 = .ok (.iconst 1, 1) := by decide +kernel
theorem dX5_isClosingByDivisors_46 : decode cX5_isClosingByDivisors 46 = .ok (.goto 4, 3) := by decide +kernel
theorem dX5_isClosingByDivisors_49 : decode cX5_isClosingByDivisors 49 = .ok (.iconst 0, 1) := by decide +kernel
theorem dX5_isClosingByDivisors_50 : decode cX5_isClosingByDivisors 50 = .ok (.istore_n 2, 1) := by decide +kernel
theorem dX5_isClosingByDivisors_51 : decode cX5_isClosingByDivisors 51 = .ok (.iinc 3 1, 3) := by decide +kernel
theorem dX5_isClosingByDivisors_54 : decode cX5_isClosingByDivisors 54 = .ok (.goto (-50), 3) := by decide +kernel
theorem dX5_isClosingByDivisors_57 : decode cX5_isClosingByDivisors 57 = .ok (.iload_n 2, 1) := by decide +kernel
theorem dX5_isClosingByDivisors_58 : decode cX5_isClosingByDivisors 58 = .ok (.ireturn, 1) := by decide +kernel
set_option maxRecDepth 20000 in
theorem ggX5_isSquareFree_X5_divides : GoodIn wsX5_isSquareFree wsX5_divides := goodIn_r _ [4] rfl (by decide +kernel)
set_option maxRecDepth 20000 in
theorem gX5_isSquareFree_X5_divides : GoodIn wsX5_isSquareFree (va_wsS RX5 154 yX5_divides wsX5_divides) := goodIn_app (goodIn_of _ (by decide +kernel)) ggX5_isSquareFree_X5_divides
theorem dX5_isSquareFree_0 : decode cX5_isSquareFree 0 = .ok (.iconst 2, 1) := by decide +kernel
theorem dX5_isSquareFree_1 : decode cX5_isSquareFree 1 = .ok (.istore_n 1, 1) := by decide +kernel
theorem dX5_isSquareFree_2 : decode cX5_isSquareFree 2 = .ok (.iload_n 1, 1) := by decide +kernel
theorem dX5_isSquareFree_3 : decode cX5_isSquareFree 3 = .ok (.bipush 6, 2) := by decide +kernel
theorem dX5_isSquareFree_5 : decode cX5_isSquareFree 5 = .ok (.if_icmp .gt 21, 3) := by decide +kernel
theorem dX5_isSquareFree_8 : decode cX5_isSquareFree 8 = .ok (.iload_n 1, 1) := by decide +kernel
theorem dX5_isSquareFree_9 : decode cX5_isSquareFree 9 = .ok (.iload_n 1, 1) := by decide +kernel
theorem dX5_isSquareFree_10 : decode cX5_isSquareFree 10 = .ok (.imul, 1) := by decide +kernel
theorem dX5_isSquareFree_11 : decode cX5_isSquareFree 11 = .ok (.iload_n 0, 1) := by decide +kernel
theorem dX5_isSquareFree_12 : decode cX5_isSquareFree 12 = .ok (.invokestatic 154, 3) := by decide +kernel
theorem dX5_isSquareFree_15 : decode cX5_isSquareFree 15 = .ok (.ifCond .eq 5, 3) := by decide +kernel
theorem dX5_isSquareFree_18 : decode cX5_isSquareFree 18 = .ok (.iconst 0, 1) := by decide +kernel
theorem dX5_isSquareFree_19 : decode cX5_isSquareFree 19 = .ok (.ireturn, 1) := by decide +kernel
theorem dX5_isSquareFree_20 : decode cX5_isSquareFree 20 = .ok (.iinc 1 1, 3) := by decide +kernel
theorem dX5_isSquareFree_23 : decode cX5_isSquareFree 23 = .ok (.goto (-21), 3) := by decide +kernel
theorem dX5_isSquareFree_26 : decode cX5_isSquareFree 26 = .ok (.iconst 1, 1) := by decide +kernel
theorem dX5_isSquareFree_27 : decode cX5_isSquareFree 27 = .ok (.ireturn, 1) := by decide +kernel
set_option maxRecDepth 20000 in
theorem ggX5_bitsOf_X5_bit : GoodIn wsX5_bitsOf wsX5_bit := goodIn_r _ [5] rfl (by decide +kernel)
set_option maxRecDepth 20000 in
theorem gX5_bitsOf_X5_bit : GoodIn wsX5_bitsOf (va_wsS RX5 106 yX5_bit wsX5_bit) := goodIn_app (goodIn_of _ (by decide +kernel)) ggX5_bitsOf_X5_bit
theorem dX5_bitsOf_0 : decode cX5_bitsOf 0 = .ok (.dload_n 0, 1) := by decide +kernel
theorem dX5_bitsOf_1 : decode cX5_bitsOf 1 = .ok (.dconst 0, 1) := by decide +kernel
theorem dX5_bitsOf_2 : decode cX5_bitsOf 2 = .ok (.dcmp .l, 1) := by decide +kernel
theorem dX5_bitsOf_3 : decode cX5_bitsOf 3 = .ok (.ifCond .gt 5, 3) := by decide +kernel
theorem dX5_bitsOf_6 : decode cX5_bitsOf 6 = .ok (.lconst 0, 1) := by decide +kernel
theorem dX5_bitsOf_7 : decode cX5_bitsOf 7 = .ok (.lreturn, 1) := by decide +kernel
theorem dX5_bitsOf_8 : decode cX5_bitsOf 8 = .ok (.dload_n 0, 1) := by decide +kernel
theorem dX5_bitsOf_9 : decode cX5_bitsOf 9 = .ok (.dstore 4, 2) := by decide +kernel
theorem dX5_bitsOf_11 : decode cX5_bitsOf 11 = .ok (.iconst 0, 1) := by decide +kernel
theorem dX5_bitsOf_12 : decode cX5_bitsOf 12 = .ok (.istore 6, 2) := by decide +kernel
theorem dX5_bitsOf_14 : decode cX5_bitsOf 14 = .ok (.iconst 0, 1) := by decide +kernel
theorem dX5_bitsOf_15 : decode cX5_bitsOf 15 = .ok (.istore 7, 2) := by decide +kernel
theorem dX5_bitsOf_17 : decode cX5_bitsOf 17 = .ok (.iload 7, 2) := by decide +kernel
theorem dX5_bitsOf_19 : decode cX5_bitsOf 19 = .ok (.bipush 100, 2) := by decide +kernel
theorem dX5_bitsOf_21 : decode cX5_bitsOf 21 = .ok (.if_icmp .ge 27, 3) := by decide +kernel
theorem dX5_bitsOf_24 : decode cX5_bitsOf 24 = .ok (.dload 4, 2) := by decide +kernel
theorem dX5_bitsOf_26 : decode cX5_bitsOf 26 = .ok (.dconst 1, 1) := by decide +kernel
theorem dX5_bitsOf_27 : decode cX5_bitsOf 27 = .ok (.dcmp .g, 1) := by decide +kernel
theorem dX5_bitsOf_28 : decode cX5_bitsOf 28 = .ok (.ifCond .ge 20, 3) := by decide +kernel
theorem dX5_bitsOf_31 : decode cX5_bitsOf 31 = .ok (.dload 4, 2) := by decide +kernel
theorem dX5_bitsOf_33 : decode cX5_bitsOf 33 = .ok (.ldc2_w 242, 3) := by decide +kernel
theorem dX5_bitsOf_36 : decode cX5_bitsOf 36 = .ok (.dmul, 1) := by decide +kernel
theorem dX5_bitsOf_37 : decode cX5_bitsOf 37 = .ok (.dstore 4, 2) := by decide +kernel
theorem dX5_bitsOf_39 : decode cX5_bitsOf 39 = .ok (.iinc 6 (-1), 3) := by decide +kernel
theorem dX5_bitsOf_42 : decode cX5_bitsOf 42 = .ok (.iinc 7 1, 3) := by decide +kernel
theorem dX5_bitsOf_45 : decode cX5_bitsOf 45 = .ok (.goto (-28), 3) := by decide +kernel
theorem dX5_bitsOf_48 : decode cX5_bitsOf 48 = .ok (.iconst 0, 1) := by decide +kernel
theorem dX5_bitsOf_49 : decode cX5_bitsOf 49 = .ok (.istore 7, 2) := by decide +kernel
theorem dX5_bitsOf_51 : decode cX5_bitsOf 51 = .ok (.iload 7, 2) := by decide +kernel
theorem dX5_bitsOf_53 : decode cX5_bitsOf 53 = .ok (.bipush 100, 2) := by decide +kernel
theorem dX5_bitsOf_55 : decode cX5_bitsOf 55 = .ok (.if_icmp .ge 29, 3) := by decide +kernel
theorem dX5_bitsOf_58 : decode cX5_bitsOf 58 = .ok (.dload 4, 2) := by decide +kernel
theorem dX5_bitsOf_60 : decode cX5_bitsOf 60 = .ok (.ldc2_w 242, 3) := by decide +kernel
theorem dX5_bitsOf_63 : decode cX5_bitsOf 63 = .ok (.dcmp .l, 1) := by decide +kernel
theorem dX5_bitsOf_64 : decode cX5_bitsOf 64 = .ok (.ifCond .lt 20, 3) := by decide +kernel
theorem dX5_bitsOf_67 : decode cX5_bitsOf 67 = .ok (.dload 4, 2) := by decide +kernel
theorem dX5_bitsOf_69 : decode cX5_bitsOf 69 = .ok (.ldc2_w 242, 3) := by decide +kernel
theorem dX5_bitsOf_72 : decode cX5_bitsOf 72 = .ok (.ddiv, 1) := by decide +kernel
theorem dX5_bitsOf_73 : decode cX5_bitsOf 73 = .ok (.dstore 4, 2) := by decide +kernel
theorem dX5_bitsOf_75 : decode cX5_bitsOf 75 = .ok (.iinc 6 1, 3) := by decide +kernel
theorem dX5_bitsOf_78 : decode cX5_bitsOf 78 = .ok (.iinc 7 1, 3) := by decide +kernel
theorem dX5_bitsOf_81 : decode cX5_bitsOf 81 = .ok (.goto (-30), 3) := by decide +kernel
theorem dX5_bitsOf_84 : decode cX5_bitsOf 84 = .ok (.dload 4, 2) := by decide +kernel
theorem dX5_bitsOf_86 : decode cX5_bitsOf 86 = .ok (.dconst 1, 1) := by decide +kernel
theorem dX5_bitsOf_87 : decode cX5_bitsOf 87 = .ok (.dsub, 1) := by decide +kernel
theorem dX5_bitsOf_88 : decode cX5_bitsOf 88 = .ok (.iload_n 2, 1) := by decide +kernel
theorem dX5_bitsOf_89 : decode cX5_bitsOf 89 = .ok (.invokestatic 106, 3) := by decide +kernel
theorem dX5_bitsOf_92 : decode cX5_bitsOf 92 = .ok (.l2d, 1) := by decide +kernel
theorem dX5_bitsOf_93 : decode cX5_bitsOf 93 = .ok (.dmul, 1) := by decide +kernel
theorem dX5_bitsOf_94 : decode cX5_bitsOf 94 = .ok (.d2l, 1) := by decide +kernel
theorem dX5_bitsOf_95 : decode cX5_bitsOf 95 = .ok (.lstore 7, 2) := by decide +kernel
theorem dX5_bitsOf_97 : decode cX5_bitsOf 97 = .ok (.iload 6, 2) := by decide +kernel
theorem dX5_bitsOf_99 : decode cX5_bitsOf 99 = .ok (.iload_n 3, 1) := by decide +kernel
theorem dX5_bitsOf_100 : decode cX5_bitsOf 100 = .ok (.iadd, 1) := by decide +kernel
theorem dX5_bitsOf_101 : decode cX5_bitsOf 101 = .ok (.i2l, 1) := by decide +kernel
theorem dX5_bitsOf_102 : decode cX5_bitsOf 102 = .ok (.iload_n 2, 1) := by decide +kernel
theorem dX5_bitsOf_103 : decode cX5_bitsOf 103 = .ok (.lshl, 1) := by decide +kernel
theorem dX5_bitsOf_104 : decode cX5_bitsOf 104 = .ok (.lload 7, 2) := by decide +kernel
theorem dX5_bitsOf_106 : decode cX5_bitsOf 106 = .ok (.lor, 1) := by decide +kernel
theorem dX5_bitsOf_107 : decode cX5_bitsOf 107 = .ok (.lreturn, 1) := by decide +kernel
theorem dJ13_bitCount_95d88_0 : decode cJ13_bitCount_95d88 0 = .ok (.lload_n 0, 1) := by decide +kernel
theorem dJ13_bitCount_95d88_1 : decode cJ13_bitCount_95d88 1 = .ok (.lload_n 0, 1) := by decide +kernel
theorem dJ13_bitCount_95d88_2 : decode cJ13_bitCount_95d88 2 = .ok (.iconst 1, 1) := by decide +kernel
theorem dJ13_bitCount_95d88_3 : decode cJ13_bitCount_95d88 3 = .ok (.lushr, 1) := by decide +kernel
theorem dJ13_bitCount_95d88_4 : decode cJ13_bitCount_95d88 4 = .ok (.ldc2_w 314, 3) := by decide +kernel
theorem dJ13_bitCount_95d88_7 : decode cJ13_bitCount_95d88 7 = .ok (.land, 1) := by decide +kernel
theorem dJ13_bitCount_95d88_8 : decode cJ13_bitCount_95d88 8 = .ok (.lsub, 1) := by decide +kernel
theorem dJ13_bitCount_95d88_9 : decode cJ13_bitCount_95d88 9 = .ok (.lstore_n 0, 1) := by decide +kernel
theorem dJ13_bitCount_95d88_10 : decode cJ13_bitCount_95d88 10 = .ok (.lload_n 0, 1) := by decide +kernel
theorem dJ13_bitCount_95d88_11 : decode cJ13_bitCount_95d88 11 = .ok (.ldc2_w 316, 3) := by decide +kernel
theorem dJ13_bitCount_95d88_14 : decode cJ13_bitCount_95d88 14 = .ok (.land, 1) := by decide +kernel
theorem dJ13_bitCount_95d88_15 : decode cJ13_bitCount_95d88 15 = .ok (.lload_n 0, 1) := by decide +kernel
theorem dJ13_bitCount_95d88_16 : decode cJ13_bitCount_95d88 16 = .ok (.iconst 2, 1) := by decide +kernel
theorem dJ13_bitCount_95d88_17 : decode cJ13_bitCount_95d88 17 = .ok (.lushr, 1) := by decide +kernel
theorem dJ13_bitCount_95d88_18 : decode cJ13_bitCount_95d88 18 = .ok (.ldc2_w 316, 3) := by decide +kernel
theorem dJ13_bitCount_95d88_21 : decode cJ13_bitCount_95d88 21 = .ok (.land, 1) := by decide +kernel
theorem dJ13_bitCount_95d88_22 : decode cJ13_bitCount_95d88 22 = .ok (.ladd, 1) := by decide +kernel
theorem dJ13_bitCount_95d88_23 : decode cJ13_bitCount_95d88 23 = .ok (.lstore_n 0, 1) := by decide +kernel
theorem dJ13_bitCount_95d88_24 : decode cJ13_bitCount_95d88 24 = .ok (.lload_n 0, 1) := by decide +kernel
theorem dJ13_bitCount_95d88_25 : decode cJ13_bitCount_95d88 25 = .ok (.lload_n 0, 1) := by decide +kernel
theorem dJ13_bitCount_95d88_26 : decode cJ13_bitCount_95d88 26 = .ok (.iconst 4, 1) := by decide +kernel
theorem dJ13_bitCount_95d88_27 : decode cJ13_bitCount_95d88 27 = .ok (.lushr, 1) := by decide +kernel
theorem dJ13_bitCount_95d88_28 : decode cJ13_bitCount_95d88 28 = .ok (.ladd, 1) := by decide +kernel
theorem dJ13_bitCount_95d88_29 : decode cJ13_bitCount_95d88 29 = .ok (.ldc2_w 318, 3) := by decide +kernel
theorem dJ13_bitCount_95d88_32 : decode cJ13_bitCount_95d88 32 = .ok (.land, 1) := by decide +kernel
theorem dJ13_bitCount_95d88_33 : decode cJ13_bitCount_95d88 33 = .ok (.lstore_n 0, 1) := by decide +kernel
theorem dJ13_bitCount_95d88_34 : decode cJ13_bitCount_95d88 34 = .ok (.lload_n 0, 1) := by decide +kernel
theorem dJ13_bitCount_95d88_35 : decode cJ13_bitCount_95d88 35 = .ok (.lload_n 0, 1) := by decide +kernel
theorem dJ13_bitCount_95d88_36 : decode cJ13_bitCount_95d88 36 = .ok (.bipush 8, 2) := by decide +kernel
theorem dJ13_bitCount_95d88_38 : decode cJ13_bitCount_95d88 38 = .ok (.lushr, 1) := by decide +kernel
theorem dJ13_bitCount_95d88_39 : decode cJ13_bitCount_95d88 39 = .ok (.ladd, 1) := by decide +kernel
theorem dJ13_bitCount_95d88_40 : decode cJ13_bitCount_95d88 40 = .ok (.lstore_n 0, 1) := by decide +kernel
theorem dJ13_bitCount_95d88_41 : decode cJ13_bitCount_95d88 41 = .ok (.lload_n 0, 1) := by decide +kernel
theorem dJ13_bitCount_95d88_42 : decode cJ13_bitCount_95d88 42 = .ok (.lload_n 0, 1) := by decide +kernel
theorem dJ13_bitCount_95d88_43 : decode cJ13_bitCount_95d88 43 = .ok (.bipush 16, 2) := by decide +kernel
theorem dJ13_bitCount_95d88_45 : decode cJ13_bitCount_95d88 45 = .ok (.lushr, 1) := by decide +kernel
theorem dJ13_bitCount_95d88_46 : decode cJ13_bitCount_95d88 46 = .ok (.ladd, 1) := by decide +kernel
theorem dJ13_bitCount_95d88_47 : decode cJ13_bitCount_95d88 47 = .ok (.lstore_n 0, 1) := by decide +kernel
theorem dJ13_bitCount_95d88_48 : decode cJ13_bitCount_95d88 48 = .ok (.lload_n 0, 1) := by decide +kernel
theorem dJ13_bitCount_95d88_49 : decode cJ13_bitCount_95d88 49 = .ok (.lload_n 0, 1) := by decide +kernel
theorem dJ13_bitCount_95d88_50 : decode cJ13_bitCount_95d88 50 = .ok (.bipush 32, 2) := by decide +kernel
theorem dJ13_bitCount_95d88_52 : decode cJ13_bitCount_95d88 52 = .ok (.lushr, 1) := by decide +kernel
theorem dJ13_bitCount_95d88_53 : decode cJ13_bitCount_95d88 53 = .ok (.ladd, 1) := by decide +kernel
theorem dJ13_bitCount_95d88_54 : decode cJ13_bitCount_95d88 54 = .ok (.lstore_n 0, 1) := by decide +kernel
theorem dJ13_bitCount_95d88_55 : decode cJ13_bitCount_95d88 55 = .ok (.lload_n 0, 1) := by decide +kernel
theorem dJ13_bitCount_95d88_56 : decode cJ13_bitCount_95d88 56 = .ok (.l2i, 1) := by decide +kernel
theorem dJ13_bitCount_95d88_57 : decode cJ13_bitCount_95d88 57 = .ok (.bipush 127, 2) := by decide +kernel
theorem dJ13_bitCount_95d88_59 : decode cJ13_bitCount_95d88 59 = .ok (.iand, 1) := by decide +kernel
theorem dJ13_bitCount_95d88_60 : decode cJ13_bitCount_95d88 60 = .ok (.ireturn, 1) := by decide +kernel
theorem dL_lot_0 : decode cL_lot 0 = .ok (.iload_n 1, 1) := by decide +kernel
theorem dL_lot_1 : decode cL_lot 1 = .ok (.aload_n 0, 1) := by decide +kernel
theorem dL_lot_2 : decode cL_lot 2 = .ok (.arraylength, 1) := by decide +kernel
theorem dL_lot_3 : decode cL_lot 3 = .ok (.if_icmp .ge 9, 3) := by decide +kernel
theorem dL_lot_6 : decode cL_lot 6 = .ok (.aload_n 0, 1) := by decide +kernel
theorem dL_lot_7 : decode cL_lot 7 = .ok (.iload_n 1, 1) := by decide +kernel
theorem dL_lot_8 : decode cL_lot 8 = .ok (.iaload, 1) := by decide +kernel
theorem dL_lot_9 : decode cL_lot 9 = .ok (.goto 15, 3) := by decide +kernel
theorem dL_lot_12 : decode cL_lot 12 = .ok (.ldc 7, 2) := by decide +kernel
theorem dL_lot_14 : decode cL_lot 14 = .ok (.iload_n 1, 1) := by decide +kernel
theorem dL_lot_15 : decode cL_lot 15 = .ok (.sipush 6131, 3) := by decide +kernel
theorem dL_lot_18 : decode cL_lot 18 = .ok (.iadd, 1) := by decide +kernel
theorem dL_lot_19 : decode cL_lot 19 = .ok (.imul, 1) := by decide +kernel
theorem dL_lot_20 : decode cL_lot 20 = .ok (.sipush 5869, 3) := by decide +kernel
theorem dL_lot_23 : decode cL_lot 23 = .ok (.iadd, 1) := by decide +kernel
theorem dL_lot_24 : decode cL_lot 24 = .ok (.ireturn, 1) := by decide +kernel
theorem dL_low_0 : decode cL_low 0 = .ok (.iload_n 0, 1) := by decide +kernel
theorem dL_low_1 : decode cL_low 1 = .ok (.ldc 8, 2) := by decide +kernel
theorem dL_low_3 : decode cL_low 3 = .ok (.iand, 1) := by decide +kernel
theorem dL_low_4 : decode cL_low 4 = .ok (.iload_n 1, 1) := by decide +kernel
theorem dL_low_5 : decode cL_low 5 = .ok (.irem, 1) := by decide +kernel
theorem dL_low_6 : decode cL_low 6 = .ok (.ireturn, 1) := by decide +kernel
set_option maxRecDepth 20000 in
theorem ggL_pass_X5_pass : GoodIn wsL_pass wsX5_pass := goodIn_ca (goodIn_r _ [6, 7, 8, 9, 10, 11, 12, 5, 13, 14, 15, 16, 17, 18, 19, 20, 21, 22, 23, 24, 25, 26, 27, 28, 29, 30, 31, 32, 33, 34, 35, 36, 37, 38, 39, 40, 41, 42, 43, 44, 45, 46, 47, 48, 49, 50, 51, 52, 53, 54, 55, 56, 57, 58, 59, 60, 61, 62, 63, 64, 65, 66, 67, 68, 69, 70, 71, 72, 73, 74, 75, 76, 77] rfl (by decide +kernel)) (goodIn_sub (fun _ h => List.mem_cons_of_mem _ (List.mem_append_right _ h)) (by decide +kernel))
set_option maxRecDepth 20000 in
theorem gL_pass_X5_pass : GoodIn wsL_pass (wsV RL 9 RX5 yX5_pass wsX5_pass) := goodIn_app (goodIn_of _ (by decide +kernel)) ggL_pass_X5_pass
theorem dL_pass_0 : decode cL_pass 0 = .ok (.aload_n 0, 1) := by decide +kernel
theorem dL_pass_1 : decode cL_pass 1 = .ok (.iload_n 1, 1) := by decide +kernel
theorem dL_pass_2 : decode cL_pass 2 = .ok (.invokevirtual 9, 3) := by decide +kernel
theorem dL_pass_5 : decode cL_pass 5 = .ok (.ireturn, 1) := by decide +kernel
theorem dL_pass_6 : decode cL_pass 6 = .ok (.astore_n 2, 1) := by decide +kernel
theorem dL_pass_7 : decode cL_pass 7 = .ok (.bipush (-102), 2) := by decide +kernel
theorem dL_pass_9 : decode cL_pass 9 = .ok (.ireturn, 1) := by decide +kernel
set_option maxRecDepth 20000 in
theorem ggL_passRow_X5_passRow : GoodIn wsL_passRow wsX5_passRow := goodIn_ca (goodIn_r _ [6, 7, 8, 9, 10, 11, 12, 5, 13, 14, 15, 16, 17, 18, 19, 20, 21, 22, 23, 24, 25, 26, 27, 28, 29, 30, 31, 32, 33, 34, 35, 36, 37, 38, 39, 40, 41, 42, 43, 44, 45, 46, 47, 48, 49, 50, 51, 52, 53, 54, 55, 56, 57, 58, 59, 60, 61, 62, 63, 64, 65, 66, 67, 68, 69, 70, 71, 72, 73, 74] rfl (by decide +kernel)) (goodIn_sub (fun _ h => List.mem_cons_of_mem _ (List.mem_append_right _ h)) (by decide +kernel))
set_option maxRecDepth 20000 in
theorem gL_passRow_X5_passRow : GoodIn wsL_passRow (wsV RL 17 RX5 yX5_passRow wsX5_passRow) := goodIn_app (goodIn_of _ (by decide +kernel)) ggL_passRow_X5_passRow
theorem dL_passRow_0 : decode cL_passRow 0 = .ok (.aload_n 0, 1) := by decide +kernel
theorem dL_passRow_1 : decode cL_passRow 1 = .ok (.iload_n 1, 1) := by decide +kernel
theorem dL_passRow_2 : decode cL_passRow 2 = .ok (.iload_n 2, 1) := by decide +kernel
theorem dL_passRow_3 : decode cL_passRow 3 = .ok (.invokevirtual 17, 3) := by decide +kernel
theorem dL_passRow_6 : decode cL_passRow 6 = .ok (.ireturn, 1) := by decide +kernel
theorem dL_passRow_7 : decode cL_passRow 7 = .ok (.astore_n 3, 1) := by decide +kernel
theorem dL_passRow_8 : decode cL_passRow 8 = .ok (.bipush (-102), 2) := by decide +kernel
theorem dL_passRow_10 : decode cL_passRow 10 = .ok (.ireturn, 1) := by decide +kernel
set_option maxRecDepth 20000 in
theorem ggL_turnDoor_X5_turnDoor : GoodIn wsL_turnDoor wsX5_turnDoor := goodIn_ca (goodIn_ca (goodIn_r _ [7, 8, 9, 10, 11, 12, 13, 14, 15, 6, 16, 17, 18, 19, 20, 21, 22, 23, 24, 25, 26, 27, 28, 29, 30, 31, 32, 33, 34, 35, 36, 37, 38, 39, 40, 41, 42, 43, 44, 45, 46, 47, 48, 49, 50, 51, 52, 53, 54, 55, 56, 57, 58, 59, 60, 61, 62, 63, 64, 65, 66, 67, 68] rfl (by decide +kernel)) (goodIn_sub (fun _ h => List.mem_cons_of_mem _ (List.mem_append_left _ (List.mem_append_right _ h))) (by decide +kernel))) (goodIn_sub (fun _ h => List.mem_cons_of_mem _ (List.mem_append_right _ h)) (by decide +kernel))
set_option maxRecDepth 20000 in
theorem gL_turnDoor_X5_turnDoor : GoodIn wsL_turnDoor (wsV RL 21 RX5 yX5_turnDoor wsX5_turnDoor) := goodIn_app (goodIn_of _ (by decide +kernel)) ggL_turnDoor_X5_turnDoor
theorem dL_turnDoor_0 : decode cL_turnDoor 0 = .ok (.iconst 0, 1) := by decide +kernel
theorem dL_turnDoor_1 : decode cL_turnDoor 1 = .ok (.istore_n 2, 1) := by decide +kernel
theorem dL_turnDoor_2 : decode cL_turnDoor 2 = .ok (.aload_n 0, 1) := by decide +kernel
theorem dL_turnDoor_3 : decode cL_turnDoor 3 = .ok (.iload_n 1, 1) := by decide +kernel
theorem dL_turnDoor_4 : decode cL_turnDoor 4 = .ok (.invokevirtual 21, 3) := by decide +kernel
theorem dL_turnDoor_7 : decode cL_turnDoor 7 = .ok (.istore_n 2, 1) := by decide +kernel
theorem dL_turnDoor_8 : decode cL_turnDoor 8 = .ok (.goto 11, 3) := by decide +kernel
theorem dL_turnDoor_11 : decode cL_turnDoor 11 = .ok (.astore_n 3, 1) := by decide +kernel
theorem dL_turnDoor_12 : decode cL_turnDoor 12 = .ok (.bipush (-102), 2) := by decide +kernel
theorem dL_turnDoor_14 : decode cL_turnDoor 14 = .ok (.ireturn, 1) := by decide +kernel
theorem dL_turnDoor_15 : decode cL_turnDoor 15 = .ok (.astore_n 3, 1) := by decide +kernel
theorem dL_turnDoor_16 : decode cL_turnDoor 16 = .ok (.bipush (-103), 2) := by decide +kernel
theorem dL_turnDoor_18 : decode cL_turnDoor 18 = .ok (.ireturn, 1) := by decide +kernel
theorem dL_turnDoor_19 : decode cL_turnDoor 19 = .ok (.iload_n 2, 1) := by decide +kernel
theorem dL_turnDoor_20 : decode cL_turnDoor 20 = .ok (.ifCond .eq 7, 3) := by decide +kernel
theorem dL_turnDoor_23 : decode cL_turnDoor 23 = .ok (.iconst 1, 1) := by decide +kernel
theorem dL_turnDoor_24 : decode cL_turnDoor 24 = .ok (.goto 4, 3) := by decide +kernel
theorem dL_turnDoor_27 : decode cL_turnDoor 27 = .ok (.iconst 0, 1) := by decide +kernel
theorem dL_turnDoor_28 : decode cL_turnDoor 28 = .ok (.ireturn, 1) := by decide +kernel
set_option maxRecDepth 20000 in
theorem ggL_turnLock_X5_turnLock : GoodIn wsL_turnLock wsX5_turnLock := goodIn_ca (goodIn_r _ [6, 7, 8, 9, 10, 11, 12, 5, 13, 14, 15, 16, 17, 18, 19, 20, 21, 22, 23, 24, 25, 26, 27, 28, 29, 30, 31, 32, 33, 34, 35, 36, 37, 38, 39, 40, 41, 42, 43, 44, 45, 46, 47, 48, 49, 50, 51, 52, 53, 54, 55, 56, 57, 58, 59, 60, 61, 62, 63] rfl (by decide +kernel)) (goodIn_sub (fun _ h => List.mem_cons_of_mem _ (List.mem_append_right _ h)) (by decide +kernel))
set_option maxRecDepth 20000 in
theorem gL_turnLock_X5_turnLock : GoodIn wsL_turnLock (wsV RL 27 RX5 yX5_turnLock wsX5_turnLock) := goodIn_app (goodIn_of _ (by decide +kernel)) ggL_turnLock_X5_turnLock
theorem dL_turnLock_0 : decode cL_turnLock 0 = .ok (.iconst 0, 1) := by decide +kernel
theorem dL_turnLock_1 : decode cL_turnLock 1 = .ok (.istore_n 2, 1) := by decide +kernel
theorem dL_turnLock_2 : decode cL_turnLock 2 = .ok (.aload_n 0, 1) := by decide +kernel
theorem dL_turnLock_3 : decode cL_turnLock 3 = .ok (.iload_n 1, 1) := by decide +kernel
theorem dL_turnLock_4 : decode cL_turnLock 4 = .ok (.invokevirtual 27, 3) := by decide +kernel
