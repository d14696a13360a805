theorem dX5_closingPasses_51 : decode cX5_closingPasses 51 = .ok (.lload_n 3, 1) := by decide +kernel
theorem dX5_closingPasses_52 : decode cX5_closingPasses 52 = .ok (.lreturn, 1) := by decide +kernel
set_option maxRecDepth 20000 in
theorem ggX5_closingByDivisors_X5_isClosingByDivisors : GoodIn wsX5_closingByDivisors wsX5_isClosingByDivisors := goodIn_r _ [5, 6, 7, 8, 4, 9, 10, 11, 12, 13, 14, 15, 19, 20, 21, 22, 23, 24, 25, 26, 27, 28, 29, 30, 31] (by decide +kernel) (by decide +kernel)
set_option maxRecDepth 20000 in
theorem gX5_closingByDivisors_X5_isClosingByDivisors : GoodIn wsX5_closingByDivisors (wsV RX5 165 RX5 yX5_isClosingByDivisors wsX5_isClosingByDivisors) := goodIn_app (goodIn_of _ (by decide +kernel)) ggX5_closingByDivisors_X5_isClosingByDivisors
set_option maxRecDepth 20000 in
theorem ggX5_closingByDivisors_X5_bit : GoodIn wsX5_closingByDivisors wsX5_bit := goodIn_r _ [18] (by decide +kernel) (by decide +kernel)
set_option maxRecDepth 20000 in
theorem gX5_closingByDivisors_X5_bit : GoodIn wsX5_closingByDivisors (va_wsS RX5 106 yX5_bit wsX5_bit) := goodIn_app (goodIn_of _ (by decide +kernel)) ggX5_closingByDivisors_X5_bit
theorem dX5_closingByDivisors_0 : decode cX5_closingByDivisors 0 = .ok (.lconst 0, 1) := by decide +kernel
theorem dX5_closingByDivisors_1 : decode cX5_closingByDivisors 1 = .ok (.lstore_n 1, 1) := by decide +kernel
theorem dX5_closingByDivisors_2 : decode cX5_closingByDivisors 2 = .ok (.iconst 1, 1) := by decide +kernel
theorem dX5_closingByDivisors_3 : decode cX5_closingByDivisors 3 = .ok (.istore_n 3, 1) := by decide +kernel
theorem dX5_closingByDivisors_4 : decode cX5_closingByDivisors 4 = .ok (.iload_n 3, 1) := by decide +kernel
theorem dX5_closingByDivisors_5 : decode cX5_closingByDivisors 5 = .ok (.bipush 48, 2) := by decide +kernel
theorem dX5_closingByDivisors_7 : decode cX5_closingByDivisors 7 = .ok (.if_icmp .gt 24, 3) := by decide +kernel
theorem dX5_closingByDivisors_10 : decode cX5_closingByDivisors 10 = .ok (.aload_n 0, 1) := by decide +kernel
theorem dX5_closingByDivisors_11 : decode cX5_closingByDivisors 11 = .ok (.iload_n 3, 1) := by decide +kernel
theorem dX5_closingByDivisors_12 : decode cX5_closingByDivisors 12 = .ok (.invokevirtual 165, 3) := by decide +kernel
theorem dX5_closingByDivisors_15 : decode cX5_closingByDivisors 15 = .ok (.ifCond .eq 10, 3) := by decide +kernel
theorem dX5_closingByDivisors_18 : decode cX5_closingByDivisors 18 = .ok (.lload_n 1, 1) := by decide +kernel
theorem dX5_closingByDivisors_19 : decode cX5_closingByDivisors 19 = .ok (.iload_n 3, 1) := by decide +kernel
theorem dX5_closingByDivisors_20 : decode cX5_closingByDivisors 20 = .ok (.invokestatic 106, 3) := by decide +kernel
theorem dX5_closingByDivisors_23 : decode cX5_closingByDivisors 23 = .ok (.lor, 1) := by decide +kernel
theorem dX5_closingByDivisors_24 : decode cX5_closingByDivisors 24 = .ok (.lstore_n 1, 1) := by decide +kernel
theorem dX5_closingByDivisors_25 : decode cX5_closingByDivisors 25 = .ok (.iinc 3 1, 3) := by decide +kernel
theorem dX5_closingByDivisors_28 : decode cX5_closingByDivisors 28 = .ok (.goto (-24), 3) := by decide +kernel
theorem dX5_closingByDivisors_31 : decode cX5_closingByDivisors 31 = .ok (.lload_n 1, 1) := by decide +kernel
theorem dX5_closingByDivisors_32 : decode cX5_closingByDivisors 32 = .ok (.lreturn, 1) := by decide +kernel
set_option maxRecDepth 20000 in
theorem ggX5_passesToClose_X5_closingPasses : GoodIn wsX5_passesToClose wsX5_closingPasses := goodIn_r _ [5, 6, 7, 8, 4, 9, 10, 11, 12, 13, 14, 15, 16, 17, 18, 26, 27, 28, 29, 30, 31, 32, 33, 34, 35, 36, 37, 38] (by decide +kernel) (by decide +kernel)
set_option maxRecDepth 20000 in
theorem gX5_passesToClose_X5_closingPasses : GoodIn wsX5_passesToClose (wsV RX5 168 RX5 yX5_closingPasses wsX5_closingPasses) := goodIn_app (goodIn_of _ (by decide +kernel)) ggX5_passesToClose_X5_closingPasses
set_option maxRecDepth 20000 in
theorem ggX5_passesToClose_J13_bitCount_95d88 : GoodIn wsX5_passesToClose wsJ13_bitCount_95d88 := goodIn_r _ [22, 23, 24, 25] (by decide +kernel) (by decide +kernel)
set_option maxRecDepth 20000 in
theorem gX5_passesToClose_J13_bitCount_95d88 : GoodIn wsX5_passesToClose (va_wsS RX5 67 yJ13_bitCount_95d88 wsJ13_bitCount_95d88) := goodIn_app (goodIn_of _ (by decide +kernel)) ggX5_passesToClose_J13_bitCount_95d88
theorem dX5_passesToClose_0 : decode cX5_passesToClose 0 = .ok (.aload_n 0, 1) := by decide +kernel
theorem dX5_passesToClose_1 : decode cX5_passesToClose 1 = .ok (.invokevirtual 168, 3) := by decide +kernel
theorem dX5_passesToClose_4 : decode cX5_passesToClose 4 = .ok (.invokestatic 67, 3) := by decide +kernel
theorem dX5_passesToClose_7 : decode cX5_passesToClose 7 = .ok (.ireturn, 1) := by decide +kernel
set_option maxRecDepth 20000 in
theorem ggX5_wouldBeOpen_X5_isStretch : GoodIn wsX5_wouldBeOpen wsX5_isStretch := goodIn_r _ [7] (by decide +kernel) (by decide +kernel)
set_option maxRecDepth 20000 in
theorem gX5_wouldBeOpen_X5_isStretch : GoodIn wsX5_wouldBeOpen (va_wsS RX5 73 yX5_isStretch wsX5_isStretch) := goodIn_app (goodIn_of _ (by decide +kernel)) ggX5_wouldBeOpen_X5_isStretch
set_option maxRecDepth 20000 in
theorem ggX5_wouldBeOpen_X5_contains : GoodIn wsX5_wouldBeOpen wsX5_contains := goodIn_r _ [10] (by decide +kernel) (by decide +kernel)
set_option maxRecDepth 20000 in
theorem gX5_wouldBeOpen_X5_contains : GoodIn wsX5_wouldBeOpen (va_wsS RX5 88 yX5_contains wsX5_contains) := goodIn_app (goodIn_of _ (by decide +kernel)) ggX5_wouldBeOpen_X5_contains
set_option maxRecDepth 20000 in
theorem ggX5_wouldBeOpen_X2_turnedBy : GoodIn wsX5_wouldBeOpen wsX2_turnedBy := goodIn_r _ [15, 16, 17, 18, 6, 19, 20, 21, 22, 23, 24, 25, 39, 40, 41, 42, 43, 44, 45] (by decide +kernel) (by decide +kernel)
set_option maxRecDepth 20000 in
theorem gX5_wouldBeOpen_X2_turnedBy : GoodIn wsX5_wouldBeOpen (wsV RX5 172 RX2 yX2_turnedBy wsX2_turnedBy) := goodIn_app (goodIn_of _ (by decide +kernel)) ggX5_wouldBeOpen_X2_turnedBy
set_option maxRecDepth 20000 in
theorem ggX5_wouldBeOpen_J13_bitCount_95d88 : GoodIn wsX5_wouldBeOpen wsJ13_bitCount_95d88 := goodIn_r _ [29, 30, 31, 32] (by decide +kernel) (by decide +kernel)
set_option maxRecDepth 20000 in
theorem gX5_wouldBeOpen_J13_bitCount_95d88 : GoodIn wsX5_wouldBeOpen (va_wsS RX5 67 yJ13_bitCount_95d88 wsJ13_bitCount_95d88) := goodIn_app (goodIn_of _ (by decide +kernel)) ggX5_wouldBeOpen_J13_bitCount_95d88
theorem dX5_wouldBeOpen_0 : decode cX5_wouldBeOpen 0 = .ok (.iload_n 1, 1) := by decide +kernel
theorem dX5_wouldBeOpen_1 : decode cX5_wouldBeOpen 1 = .ok (.iload_n 2, 1) := by decide +kernel
theorem dX5_wouldBeOpen_2 : decode cX5_wouldBeOpen 2 = .ok (.invokestatic 73, 3) := by decide +kernel
theorem dX5_wouldBeOpen_5 : decode cX5_wouldBeOpen 5 = .ok (.ifCond .ne 13, 3) := by decide +kernel
theorem dX5_wouldBeOpen_8 : decode cX5_wouldBeOpen 8 = .ok (.new 48, 3) := by decide +kernel
theorem dX5_wouldBeOpen_11 : decode cX5_wouldBeOpen 11 = .ok (.dup, 1) := by decide +kernel
theorem dX5_wouldBeOpen_12 : decode cX5_wouldBeOpen 12 = .ok (.ldc 77, 2) := by decide +kernel
theorem dX5_wouldBeOpen_14 : decode cX5_wouldBeOpen 14 = .ok (.invokespecial 52, 3) := by decide +kernel
theorem dX5_wouldBeOpen_17 : decode cX5_wouldBeOpen 17 = .ok (.athrow, 1) := by decide +kernel
theorem dX5_wouldBeOpen_18 : decode cX5_wouldBeOpen 18 = .ok (.aload_n 0, 1) := by decide +kernel
theorem dX5_wouldBeOpen_19 : decode cX5_wouldBeOpen 19 = .ok (.getfield 10, 3) := by decide +kernel
theorem dX5_wouldBeOpen_22 : decode cX5_wouldBeOpen 22 = .ok (.getfield 63, 3) := by decide +kernel
theorem dX5_wouldBeOpen_25 : decode cX5_wouldBeOpen 25 = .ok (.lstore_n 3, 1) := by decide +kernel
theorem dX5_wouldBeOpen_26 : decode cX5_wouldBeOpen 26 = .ok (.iload_n 1, 1) := by decide +kernel
theorem dX5_wouldBeOpen_27 : decode cX5_wouldBeOpen 27 = .ok (.istore 5, 2) := by decide +kernel
theorem dX5_wouldBeOpen_29 : decode cX5_wouldBeOpen 29 = .ok (.iload 5, 2) := by decide +kernel
theorem dX5_wouldBeOpen_31 : decode cX5_wouldBeOpen 31 = .ok (.iload_n 2, 1) := by decide +kernel
theorem dX5_wouldBeOpen_32 : decode cX5_wouldBeOpen 32 = .ok (.if_icmp .gt 43, 3) := by decide +kernel
theorem dX5_wouldBeOpen_35 : decode cX5_wouldBeOpen 35 = .ok (.iload 5, 2) := by decide +kernel
theorem dX5_wouldBeOpen_37 : decode cX5_wouldBeOpen 37 = .ok (.bipush 48, 2) := by decide +kernel
theorem dX5_wouldBeOpen_39 : decode cX5_wouldBeOpen 39 = .ok (.if_icmp .gt 36, 3) := by decide +kernel
theorem dX5_wouldBeOpen_42 : decode cX5_wouldBeOpen 42 = .ok (.aload_n 0, 1) := by decide +kernel
theorem dX5_wouldBeOpen_43 : decode cX5_wouldBeOpen 43 = .ok (.getfield 10, 3) := by decide +kernel
theorem dX5_wouldBeOpen_46 : decode cX5_wouldBeOpen 46 = .ok (.getfield 103, 3) := by decide +kernel
theorem dX5_wouldBeOpen_49 : decode cX5_wouldBeOpen 49 = .ok (.iload 5, 2) := by decide +kernel
theorem dX5_wouldBeOpen_51 : decode cX5_wouldBeOpen 51 = .ok (.invokestatic 88, 3) := by decide +kernel
theorem dX5_wouldBeOpen_54 : decode cX5_wouldBeOpen 54 = .ok (.ifCond .ne 15, 3) := by decide +kernel
theorem dX5_wouldBeOpen_57 : decode cX5_wouldBeOpen 57 = .ok (.lload_n 3, 1) := by decide +kernel
theorem dX5_wouldBeOpen_58 : decode cX5_wouldBeOpen 58 = .ok (.aload_n 0, 1) := by decide +kernel
theorem dX5_wouldBeOpen_59 : decode cX5_wouldBeOpen 59 = .ok (.getfield 10, 3) := by decide +kernel
theorem dX5_wouldBeOpen_62 : decode cX5_wouldBeOpen 62 = .ok (.iload 5, 2) := by decide +kernel
theorem dX5_wouldBeOpen_64 : decode cX5_wouldBeOpen 64 = .ok (.invokevirtual 172, 3) := by decide +kernel
theorem dX5_wouldBeOpen_67 : decode cX5_wouldBeOpen 67 = .ok (.lxor, 1) := by decide +kernel
theorem dX5_wouldBeOpen_68 : decode cX5_wouldBeOpen 68 = .ok (.lstore_n 3, 1) := by decide +kernel
theorem dX5_wouldBeOpen_69 : decode cX5_wouldBeOpen 69 = .ok (.iinc 5 1, 3) := by decide +kernel
theorem dX5_wouldBeOpen_72 : decode cX5_wouldBeOpen 72 = .ok (.goto (-43), 3) := by decide +kernel
theorem dX5_wouldBeOpen_75 : decode cX5_wouldBeOpen 75 = .ok (.lload_n 3, 1) := by decide +kernel
theorem dX5_wouldBeOpen_76 : decode cX5_wouldBeOpen 76 = .ok (.invokestatic 67, 3) := by decide +kernel
theorem dX5_wouldBeOpen_79 : decode cX5_wouldBeOpen 79 = .ok (.ireturn, 1) := by decide +kernel
set_option maxRecDepth 20000 in
theorem ggX5_bestPass_X2_turnedBy : GoodIn wsX5_bestPass wsX2_turnedBy := goodIn_r _ [6, 7, 8, 9, 10, 11, 12, 13, 14, 15, 16, 17, 31, 32, 33, 34, 35, 36, 37] (by decide +kernel) (by decide +kernel)
set_option maxRecDepth 20000 in
theorem gX5_bestPass_X2_turnedBy : GoodIn wsX5_bestPass (wsV RX5 172 RX2 yX2_turnedBy wsX2_turnedBy) := goodIn_app (goodIn_of _ (by decide +kernel)) ggX5_bestPass_X2_turnedBy
set_option maxRecDepth 20000 in
theorem ggX5_bestPass_J13_bitCount_95d88 : GoodIn wsX5_bestPass wsJ13_bitCount_95d88 := goodIn_r _ [21, 22, 23, 24] (by decide +kernel) (by decide +kernel)
set_option maxRecDepth 20000 in
theorem gX5_bestPass_J13_bitCount_95d88 : GoodIn wsX5_bestPass (va_wsS RX5 67 yJ13_bitCount_95d88 wsJ13_bitCount_95d88) := goodIn_app (goodIn_of _ (by decide +kernel)) ggX5_bestPass_J13_bitCount_95d88
theorem dX5_bestPass_0 : decode cX5_bestPass 0 = .ok (.iconst 1, 1) := by decide +kernel
theorem dX5_bestPass_1 : decode cX5_bestPass 1 = .ok (.istore_n 1, 1) := by decide +kernel
theorem dX5_bestPass_2 : decode cX5_bestPass 2 = .ok (.bipush 49, 2) := by decide +kernel
theorem dX5_bestPass_4 : decode cX5_bestPass 4 = .ok (.istore_n 2, 1) := by decide +kernel
theorem dX5_bestPass_5 : decode cX5_bestPass 5 = .ok (.iconst 1, 1) := by decide +kernel
theorem dX5_bestPass_6 : decode cX5_bestPass 6 = .ok (.istore_n 3, 1) := by decide +kernel
theorem dX5_bestPass_7 : decode cX5_bestPass 7 = .ok (.iload_n 3, 1) := by decide +kernel
theorem dX5_bestPass_8 : decode cX5_bestPass 8 = .ok (.bipush 48, 2) := by decide +kernel
theorem dX5_bestPass_10 : decode cX5_bestPass 10 = .ok (.if_icmp .gt 41, 3) := by decide +kernel
theorem dX5_bestPass_13 : decode cX5_bestPass 13 = .ok (.aload_n 0, 1) := by decide +kernel
theorem dX5_bestPass_14 : decode cX5_bestPass 14 = .ok (.getfield 10, 3) := by decide +kernel
theorem dX5_bestPass_17 : decode cX5_bestPass 17 = .ok (.getfield 63, 3) := by decide +kernel
theorem dX5_bestPass_20 : decode cX5_bestPass 20 = .ok (.aload_n 0, 1) := by decide +kernel
theorem dX5_bestPass_21 : decode cX5_bestPass 21 = .ok (.getfield 10, 3) := by decide +kernel
theorem dX5_bestPass_24 : decode cX5_bestPass 24 = .ok (.iload_n 3, 1) := by decide +kernel
theorem dX5_bestPass_25 : decode cX5_bestPass 25 = .ok (.invokevirtual 172, 3) := by decide +kernel
theorem dX5_bestPass_28 : decode cX5_bestPass 28 = .ok (.lxor, 1) := by decide +kernel
theorem dX5_bestPass_29 : decode cX5_bestPass 29 = .ok (.invokestatic 67, 3) := by decide +kernel
theorem dX5_bestPass_32 : decode cX5_bestPass 32 = .ok (.istore 4, 2) := by decide +kernel
theorem dX5_bestPass_34 : decode cX5_bestPass 34 = .ok (.iload 4, 2) := by decide +kernel
theorem dX5_bestPass_36 : decode cX5_bestPass 36 = .ok (.iload_n 2, 1) := by decide +kernel
theorem dX5_bestPass_37 : decode cX5_bestPass 37 = .ok (.if_icmp .ge 8, 3) := by decide +kernel
theorem dX5_bestPass_40 : decode cX5_bestPass 40 = .ok (.iload 4, 2) := by decide +kernel
theorem dX5_bestPass_42 : decode cX5_bestPass 42 = .ok (.istore_n 2, 1) := by decide +kernel
theorem dX5_bestPass_43 : decode cX5_bestPass 43 = .ok (.iload_n 3, 1) := by decide +kernel
theorem dX5_bestPass_44 : decode cX5_bestPass 44 = .ok (.istore_n 1, 1) := by decide +kernel
theorem dX5_bestPass_45 : decode cX5_bestPass 45 = .ok (.iinc 3 1, 3) := by decide +kernel
theorem dX5_bestPass_48 : decode cX5_bestPass 48 = .ok (.goto (-41), 3) := by decide +kernel
theorem dX5_bestPass_51 : decode cX5_bestPass 51 = .ok (.iload_n 1, 1) := by decide +kernel
theorem dX5_bestPass_52 : decode cX5_bestPass 52 = .ok (.ireturn, 1) := by decide +kernel
set_option maxRecDepth 20000 in
theorem ggX5_whyNot_X5_isInRow : GoodIn wsX5_whyNot wsX5_isInRow := goodIn_r _ [7] (by decide +kernel) (by decide +kernel)
set_option maxRecDepth 20000 in
theorem gX5_whyNot_X5_isInRow : GoodIn wsX5_whyNot (va_wsS RX5 44 yX5_isInRow wsX5_isInRow) := goodIn_app (goodIn_of _ (by decide +kernel)) ggX5_whyNot_X5_isInRow
set_option maxRecDepth 20000 in
theorem ggX5_whyNot_X5_isKind : GoodIn wsX5_whyNot wsX5_isKind := goodIn_r _ [10] (by decide +kernel) (by decide +kernel)
set_option maxRecDepth 20000 in
theorem gX5_whyNot_X5_isKind : GoodIn wsX5_whyNot (va_wsS RX5 110 yX5_isKind wsX5_isKind) := goodIn_app (goodIn_of _ (by decide +kernel)) ggX5_whyNot_X5_isKind
set_option maxRecDepth 20000 in
theorem ggX5_whyNot_X2_reasonAgainst : GoodIn wsX5_whyNot wsX2_reasonAgainst := goodIn_r _ [15, 16, 17, 18, 6, 19, 20, 21, 14, 22, 29, 30, 31, 32, 33, 34, 35] (by decide +kernel) (by decide +kernel)
set_option maxRecDepth 20000 in
theorem gX5_whyNot_X2_reasonAgainst : GoodIn wsX5_whyNot (wsV RX5 115 RX2 yX2_reasonAgainst wsX2_reasonAgainst) := goodIn_app (goodIn_of _ (by decide +kernel)) ggX5_whyNot_X2_reasonAgainst
theorem dX5_whyNot_0 : decode cX5_whyNot 0 = .ok (.iload_n 1, 1) := by decide +kernel
theorem dX5_whyNot_1 : decode cX5_whyNot 1 = .ok (.invokestatic 44, 3) := by decide +kernel
theorem dX5_whyNot_4 : decode cX5_whyNot 4 = .ok (.ifCond .eq 10, 3) := by decide +kernel
theorem dX5_whyNot_7 : decode cX5_whyNot 7 = .ok (.iload_n 2, 1) := by decide +kernel
theorem dX5_whyNot_8 : decode cX5_whyNot 8 = .ok (.invokestatic 110, 3) := by decide +kernel
theorem dX5_whyNot_11 : decode cX5_whyNot 11 = .ok (.ifCond .ne 13, 3) := by decide +kernel
theorem dX5_whyNot_14 : decode cX5_whyNot 14 = .ok (.new 48, 3) := by decide +kernel
theorem dX5_whyNot_17 : decode cX5_whyNot 17 = .ok (.dup, 1) := by decide +kernel
theorem dX5_whyNot_18 : decode cX5_whyNot 18 = .ok (.ldc 113, 2) := by decide +kernel
theorem dX5_whyNot_20 : decode cX5_whyNot 20 = .ok (.invokespecial 52, 3) := by decide +kernel
theorem dX5_whyNot_23 : decode cX5_whyNot 23 = .ok (.athrow, 1) := by decide +kernel
theorem dX5_whyNot_24 : decode cX5_whyNot 24 = .ok (.aload_n 0, 1) := by decide +kernel
theorem dX5_whyNot_25 : decode cX5_whyNot 25 = .ok (.getfield 10, 3) := by decide +kernel
theorem dX5_whyNot_28 : decode cX5_whyNot 28 = .ok (.iload_n 1, 1) := by decide +kernel
theorem dX5_whyNot_29 : decode cX5_whyNot 29 = .ok (.iload_n 2, 1) := by decide +kernel
theorem dX5_whyNot_30 : decode cX5_whyNot 30 = .ok (.invokevirtual 115, 3) := by decide +kernel
theorem dX5_whyNot_33 : decode cX5_whyNot 33 = .ok (.ireturn, 1) := by decide +kernel
set_option maxRecDepth 20000 in
theorem ggX5_thingAt_X5_isInRow : GoodIn wsX5_thingAt wsX5_isInRow := goodIn_r _ [9] (by decide +kernel) (by decide +kernel)
set_option maxRecDepth 20000 in
theorem gX5_thingAt_X5_isInRow : GoodIn wsX5_thingAt (va_wsS RX5 44 yX5_isInRow wsX5_isInRow) := goodIn_app (goodIn_of _ (by decide +kernel)) ggX5_thingAt_X5_isInRow
set_option maxRecDepth 20000 in
theorem ggX5_thingAt_X5_contains : GoodIn wsX5_thingAt wsX5_contains := goodIn_r _ [12] (by decide +kernel) (by decide +kernel)
set_option maxRecDepth 20000 in
theorem gX5_thingAt_X5_contains : GoodIn wsX5_thingAt (va_wsS RX5 88 yX5_contains wsX5_contains) := goodIn_app (goodIn_of _ (by decide +kernel)) ggX5_thingAt_X5_contains
set_option maxRecDepth 20000 in
theorem ggX5_thingAt_X2_kindAt : GoodIn wsX5_thingAt wsX2_kindAt := goodIn_r _ [17, 18, 11, 8, 12, 25, 26, 27, 28, 29, 30, 31] (by decide +kernel) (by decide +kernel)
set_option maxRecDepth 20000 in
theorem gX5_thingAt_X2_kindAt : GoodIn wsX5_thingAt (wsV RX5 134 RX2 yX2_kindAt wsX2_kindAt) := goodIn_app (goodIn_of _ (by decide +kernel)) ggX5_thingAt_X2_kindAt
theorem dX5_thingAt_0 : decode cX5_thingAt 0 = .ok (.iload_n 1, 1) := by decide +kernel
theorem dX5_thingAt_1 : decode cX5_thingAt 1 = .ok (.invokestatic 44, 3) := by decide +kernel
theorem dX5_thingAt_4 : decode cX5_thingAt 4 = .ok (.ifCond .ne 13, 3) := by decide +kernel
theorem dX5_thingAt_7 : decode cX5_thingAt 7 = .ok (.new 48, 3) := by decide +kernel
theorem dX5_thingAt_10 : decode cX5_thingAt 10 = .ok (.dup, 1) := by decide +kernel
theorem dX5_thingAt_11 : decode cX5_thingAt 11 = .ok (.ldc 83, 2) := by decide +kernel
theorem dX5_thingAt_13 : decode cX5_thingAt 13 = .ok (.invokespecial 52, 3) := by decide +kernel
theorem dX5_thingAt_16 : decode cX5_thingAt 16 = .ok (.athrow, 1) := by decide +kernel
theorem dX5_thingAt_17 : decode cX5_thingAt 17 = .ok (.aload_n 0, 1) := by decide +kernel
theorem dX5_thingAt_18 : decode cX5_thingAt 18 = .ok (.getfield 10, 3) := by decide +kernel
theorem dX5_thingAt_21 : decode cX5_thingAt 21 = .ok (.getfield 129, 3) := by decide +kernel
theorem dX5_thingAt_24 : decode cX5_thingAt 24 = .ok (.iload_n 1, 1) := by decide +kernel
theorem dX5_thingAt_25 : decode cX5_thingAt 25 = .ok (.invokestatic 88, 3) := by decide +kernel
theorem dX5_thingAt_28 : decode cX5_thingAt 28 = .ok (.ifCond .ne 13, 3) := by decide +kernel
theorem dX5_thingAt_31 : decode cX5_thingAt 31 = .ok (.new 157, 3) := by decide +kernel
theorem dX5_thingAt_34 : decode cX5_thingAt 34 = .ok (.dup, 1) := by decide +kernel
theorem dX5_thingAt_35 : decode cX5_thingAt 35 = .ok (.ldc 132, 2) := by decide +kernel
theorem dX5_thingAt_37 : decode cX5_thingAt 37 = .ok (.invokespecial 161, 3) := by decide +kernel
theorem dX5_thingAt_40 : decode cX5_thingAt 40 = .ok (.athrow, 1) := by decide +kernel
theorem dX5_thingAt_41 : decode cX5_thingAt 41 = .ok (.aload_n 0, 1) := by decide +kernel
theorem dX5_thingAt_42 : decode cX5_thingAt 42 = .ok (.getfield 10, 3) := by decide +kernel
theorem dX5_thingAt_45 : decode cX5_thingAt 45 = .ok (.iload_n 1, 1) := by decide +kernel
theorem dX5_thingAt_46 : decode cX5_thingAt 46 = .ok (.invokevirtual 134, 3) := by decide +kernel
theorem dX5_thingAt_49 : decode cX5_thingAt 49 = .ok (.ireturn, 1) := by decide +kernel
set_option maxRecDepth 20000 in
theorem ggX5_thingsOf_X5_isKind : GoodIn wsX5_thingsOf wsX5_isKind := goodIn_r _ [7] (by decide +kernel) (by decide +kernel)
set_option maxRecDepth 20000 in
theorem gX5_thingsOf_X5_isKind : GoodIn wsX5_thingsOf (va_wsS RX5 110 yX5_isKind wsX5_isKind) := goodIn_app (goodIn_of _ (by decide +kernel)) ggX5_thingsOf_X5_isKind
set_option maxRecDepth 20000 in
theorem ggX5_thingsOf_X2_doorsWith : GoodIn wsX5_thingsOf wsX2_doorsWith := goodIn_r _ [12, 13, 14, 15, 29, 30, 31, 32, 33, 34, 35] (by decide +kernel) (by decide +kernel)
set_option maxRecDepth 20000 in
theorem gX5_thingsOf_X2_doorsWith : GoodIn wsX5_thingsOf (wsV RX5 124 RX2 yX2_doorsWith wsX2_doorsWith) := goodIn_app (goodIn_of _ (by decide +kernel)) ggX5_thingsOf_X2_doorsWith
set_option maxRecDepth 20000 in
theorem ggX5_thingsOf_J13_bitCount_95d88 : GoodIn wsX5_thingsOf wsJ13_bitCount_95d88 := goodIn_r _ [19, 20, 21, 22] (by decide +kernel) (by decide +kernel)
set_option maxRecDepth 20000 in
theorem gX5_thingsOf_J13_bitCount_95d88 : GoodIn wsX5_thingsOf (va_wsS RX5 67 yJ13_bitCount_95d88 wsJ13_bitCount_95d88) := goodIn_app (goodIn_of _ (by decide +kernel)) ggX5_thingsOf_J13_bitCount_95d88
theorem dX5_thingsOf_0 : decode cX5_thingsOf 0 = .ok (.iload_n 1, 1) := by decide +kernel
theorem dX5_thingsOf_1 : decode cX5_thingsOf 1 = .ok (.invokestatic 110, 3) := by decide +kernel
theorem dX5_thingsOf_4 : decode cX5_thingsOf 4 = .ok (.ifCond .ne 13, 3) := by decide +kernel
theorem dX5_thingsOf_7 : decode cX5_thingsOf 7 = .ok (.new 48, 3) := by decide +kernel
theorem dX5_thingsOf_10 : decode cX5_thingsOf 10 = .ok (.dup, 1) := by decide +kernel
theorem dX5_thingsOf_11 : decode cX5_thingsOf 11 = .ok (.ldc 175, 2) := by decide +kernel
theorem dX5_thingsOf_13 : decode cX5_thingsOf 13 = .ok (.invokespecial 52, 3) := by decide +kernel
theorem dX5_thingsOf_16 : decode cX5_thingsOf 16 = .ok (.athrow, 1) := by decide +kernel
theorem dX5_thingsOf_17 : decode cX5_thingsOf 17 = .ok (.aload_n 0, 1) := by decide +kernel
theorem dX5_thingsOf_18 : decode cX5_thingsOf 18 = .ok (.getfield 10, 3) := by decide +kernel
theorem dX5_thingsOf_21 : decode cX5_thingsOf 21 = .ok (.iload_n 1, 1) := by decide +kernel
theorem dX5_thingsOf_22 : decode cX5_thingsOf 22 = .ok (.invokevirtual 124, 3) := by decide +kernel
theorem dX5_thingsOf_25 : decode cX5_thingsOf 25 = .ok (.invokestatic 67, 3) := by decide +kernel
theorem dX5_thingsOf_28 : decode cX5_thingsOf 28 = .ok (.ireturn, 1) := by decide +kernel
set_option maxRecDepth 20000 in
theorem ggX5_shutAway_J13_bitCount_95d88 : GoodIn wsX5_shutAway wsJ13_bitCount_95d88 := goodIn_r _ [6, 7, 8, 9] (by decide +kernel) (by decide +kernel)
set_option maxRecDepth 20000 in
theorem gX5_shutAway_J13_bitCount_95d88 : GoodIn wsX5_shutAway (va_wsS RX5 67 yJ13_bitCount_95d88 wsJ13_bitCount_95d88) := goodIn_app (goodIn_of _ (by decide +kernel)) ggX5_shutAway_J13_bitCount_95d88
theorem dX5_shutAway_0 : decode cX5_shutAway 0 = .ok (.aload_n 0, 1) := by decide +kernel
theorem dX5_shutAway_1 : decode cX5_shutAway 1 = .ok (.getfield 10, 3) := by decide +kernel
theorem dX5_shutAway_4 : decode cX5_shutAway 4 = .ok (.getfield 129, 3) := by decide +kernel
theorem dX5_shutAway_7 : decode cX5_shutAway 7 = .ok (.aload_n 0, 1) := by decide +kernel
theorem dX5_shutAway_8 : decode cX5_shutAway 8 = .ok (.getfield 10, 3) := by decide +kernel
theorem dX5_shutAway_11 : decode cX5_shutAway 11 = .ok (.getfield 63, 3) := by decide +kernel
theorem dX5_shutAway_14 : decode cX5_shutAway 14 = .ok (.ldc2_w 177, 3) := by decide +kernel
theorem dX5_shutAway_17 : decode cX5_shutAway 17 = .ok (.lxor, 1) := by decide +kernel
theorem dX5_shutAway_18 : decode cX5_shutAway 18 = .ok (.land, 1) := by decide +kernel
theorem dX5_shutAway_19 : decode cX5_shutAway 19 = .ok (.invokestatic 67, 3) := by decide +kernel
theorem dX5_shutAway_22 : decode cX5_shutAway 22 = .ok (.ireturn, 1) := by decide +kernel
set_option maxRecDepth 20000 in
theorem ggX5_share_J13_bitCount_95d88 : GoodIn wsX5_share wsJ13_bitCount_95d88 := goodIn_r _ [6, 7, 8, 9] (by decide +kernel) (by decide +kernel)
set_option maxRecDepth 20000 in
theorem gX5_share_J13_bitCount_95d88 : GoodIn wsX5_share (va_wsS RX5 67 yJ13_bitCount_95d88 wsJ13_bitCount_95d88) := goodIn_app (goodIn_of _ (by decide +kernel)) ggX5_share_J13_bitCount_95d88
theorem dX5_share_0 : decode cX5_share 0 = .ok (.aload_n 0, 1) := by decide +kernel
theorem dX5_share_1 : decode cX5_share 1 = .ok (.getfield 10, 3) := by decide +kernel
theorem dX5_share_4 : decode cX5_share 4 = .ok (.getfield 63, 3) := by decide +kernel
theorem dX5_share_7 : decode cX5_share 7 = .ok (.invokestatic 67, 3) := by decide +kernel
theorem dX5_share_10 : decode cX5_share 10 = .ok (.i2f, 1) := by decide +kernel
theorem dX5_share_11 : decode cX5_share 11 = .ok (.ldc 179, 2) := by decide +kernel
theorem dX5_share_13 : decode cX5_share 13 = .ok (.fdiv, 1) := by decide +kernel
theorem dX5_share_14 : decode cX5_share 14 = .ok (.freturn, 1) := by decide +kernel
set_option maxRecDepth 20000 in
theorem ggX5_shareBits_X5_share : GoodIn wsX5_shareBits wsX5_share := goodIn_r _ [5, 6, 7, 8, 9, 10, 11, 12, 13, 14, 22, 23, 24, 25, 26, 27, 28, 29, 30, 31, 32, 33, 34] (by decide +kernel) (by decide +kernel)
set_option maxRecDepth 20000 in
theorem gX5_shareBits_X5_share : GoodIn wsX5_shareBits (wsV RX5 180 RX5 yX5_share wsX5_share) := goodIn_app (goodIn_of _ (by decide +kernel)) ggX5_shareBits_X5_share
set_option maxRecDepth 20000 in
theorem ggX5_shareBits_X5_bitsOf : GoodIn wsX5_shareBits wsX5_bitsOf := goodIn_r _ [17, 18, 19, 20, 4, 21] (by decide +kernel) (by decide +kernel)
set_option maxRecDepth 20000 in
theorem gX5_shareBits_X5_bitsOf : GoodIn wsX5_shareBits (va_wsS RX5 184 yX5_bitsOf wsX5_bitsOf) := goodIn_app (goodIn_of _ (by decide +kernel)) ggX5_shareBits_X5_bitsOf
theorem dX5_shareBits_0 : decode cX5_shareBits 0 = .ok (.aload_n 0, 1) := by decide +kernel
theorem dX5_shareBits_1 : decode cX5_shareBits 1 = .ok (.invokevirtual 180, 3) := by decide +kernel
theorem dX5_shareBits_4 : decode cX5_shareBits 4 = .ok (.f2d, 1) := by decide +kernel
theorem dX5_shareBits_5 : decode cX5_shareBits 5 = .ok (.bipush 23, 2) := by decide +kernel
theorem dX5_shareBits_7 : decode cX5_shareBits 7 = .ok (.bipush 127, 2) := by decide +kernel
theorem dX5_shareBits_9 : decode cX5_shareBits 9 = .ok (.invokestatic 184, 3) := by decide +kernel
theorem dX5_shareBits_12 : decode cX5_shareBits 12 = .ok (.l2i, 1) := by decide +kernel
theorem dX5_shareBits_13 : decode cX5_shareBits 13 = .ok (.ireturn, 1) := by decide +kernel
set_option maxRecDepth 20000 in
theorem ggX5_sumOfParts_X5_contains : GoodIn wsX5_sumOfParts wsX5_contains := goodIn_r _ [5] (by decide +kernel) (by decide +kernel)
set_option maxRecDepth 20000 in
theorem gX5_sumOfParts_X5_contains : GoodIn wsX5_sumOfParts (va_wsS RX5 88 yX5_contains wsX5_contains) := goodIn_app (goodIn_of _ (by decide +kernel)) ggX5_sumOfParts_X5_contains
theorem dX5_sumOfParts_0 : decode cX5_sumOfParts 0 = .ok (.fconst 0, 1) := by decide +kernel
theorem dX5_sumOfParts_1 : decode cX5_sumOfParts 1 = .ok (.fstore_n 1, 1) := by decide +kernel
theorem dX5_sumOfParts_2 : decode cX5_sumOfParts 2 = .ok (.iconst 1, 1) := by decide +kernel
theorem dX5_sumOfParts_3 : decode cX5_sumOfParts 3 = .ok (.istore_n 2, 1) := by decide +kernel
theorem dX5_sumOfParts_4 : decode cX5_sumOfParts 4 = .ok (.iload_n 2, 1) := by decide +kernel
theorem dX5_sumOfParts_5 : decode cX5_sumOfParts 5 = .ok (.bipush 48, 2) := by decide +kernel
theorem dX5_sumOfParts_7 : decode cX5_sumOfParts 7 = .ok (.if_icmp .gt 30, 3) := by decide +kernel
theorem dX5_sumOfParts_10 : decode cX5_sumOfParts 10 = .ok (.aload_n 0, 1) := by decide +kernel
theorem dX5_sumOfParts_11 : decode cX5_sumOfParts 11 = .ok (.getfield 10, 3) := by decide +kernel
theorem dX5_sumOfParts_14 : decode cX5_sumOfParts 14 = .ok (.getfield 63, 3) := by decide +kernel
theorem dX5_sumOfParts_17 : decode cX5_sumOfParts 17 = .ok (.iload_n 2, 1) := by decide +kernel
theorem dX5_sumOfParts_18 : decode cX5_sumOfParts 18 = .ok (.invokestatic 88, 3) := by decide +kernel
theorem dX5_sumOfParts_21 : decode cX5_sumOfParts 21 = .ok (.ifCond .eq 10, 3) := by decide +kernel
theorem dX5_sumOfParts_24 : decode cX5_sumOfParts 24 = .ok (.fload_n 1, 1) := by decide +kernel
theorem dX5_sumOfParts_25 : decode cX5_sumOfParts 25 = .ok (.fconst 1, 1) := by decide +kernel
theorem dX5_sumOfParts_26 : decode cX5_sumOfParts 26 = .ok (.iload_n 2, 1) := by decide +kernel
theorem dX5_sumOfParts_27 : decode cX5_sumOfParts 27 = .ok (.i2f, 1) := by decide +kernel
theorem dX5_sumOfParts_28 : decode cX5_sumOfParts 28 = .ok (.fdiv, 1) := by decide +kernel
theorem dX5_sumOfParts_29 : decode cX5_sumOfParts 29 = .ok (.fadd, 1) := by decide +kernel
theorem dX5_sumOfParts_30 : decode cX5_sumOfParts 30 = .ok (.fstore_n 1, 1) := by decide +kernel
theorem dX5_sumOfParts_31 : decode cX5_sumOfParts 31 = .ok (.iinc 2 1, 3) := by decide +kernel
theorem dX5_sumOfParts_34 : decode cX5_sumOfParts 34 = .ok (.goto (-30), 3) := by decide +kernel
theorem dX5_sumOfParts_37 : decode cX5_sumOfParts 37 = .ok (.fload_n 1, 1) := by decide +kernel
theorem dX5_sumOfParts_38 : decode cX5_sumOfParts 38 = .ok (.freturn, 1) := by decide +kernel
set_option maxRecDepth 20000 in
theorem ggX5_sumBits_X5_contains : GoodIn wsX5_sumBits wsX5_contains := goodIn_r _ [5] (by decide +kernel) (by decide +kernel)
set_option maxRecDepth 20000 in
theorem gX5_sumBits_X5_contains : GoodIn wsX5_sumBits (va_wsS RX5 88 yX5_contains wsX5_contains) := goodIn_app (goodIn_of _ (by decide +kernel)) ggX5_sumBits_X5_contains
set_option maxRecDepth 20000 in
theorem ggX5_sumBits_X5_bitsOf : GoodIn wsX5_sumBits wsX5_bitsOf := goodIn_r _ [8, 9, 10, 11, 4, 12] (by decide +kernel) (by decide +kernel)
set_option maxRecDepth 20000 in
theorem gX5_sumBits_X5_bitsOf : GoodIn wsX5_sumBits (va_wsS RX5 184 yX5_bitsOf wsX5_bitsOf) := goodIn_app (goodIn_of _ (by decide +kernel)) ggX5_sumBits_X5_bitsOf
theorem dX5_sumBits_0 : decode cX5_sumBits 0 = .ok (.dconst 0, 1) := by decide +kernel
theorem dX5_sumBits_1 : decode cX5_sumBits 1 = .ok (.dstore_n 1, 1) := by decide +kernel
theorem dX5_sumBits_2 : decode cX5_sumBits 2 = .ok (.iconst 1, 1) := by decide +kernel
theorem dX5_sumBits_3 : decode cX5_sumBits 3 = .ok (.istore_n 3, 1) := by decide +kernel
theorem dX5_sumBits_4 : decode cX5_sumBits 4 = .ok (.iload_n 3, 1) := by decide +kernel
theorem dX5_sumBits_5 : decode cX5_sumBits 5 = .ok (.bipush 48, 2) := by decide +kernel
theorem dX5_sumBits_7 : decode cX5_sumBits 7 = .ok (.if_icmp .gt 30, 3) := by decide +kernel
theorem dX5_sumBits_10 : decode cX5_sumBits 10 = .ok (.aload_n 0, 1) := by decide +kernel
theorem dX5_sumBits_11 : decode cX5_sumBits 11 = .ok (.getfield 10, 3) := by decide +kernel
theorem dX5_sumBits_14 : decode cX5_sumBits 14 = .ok (.getfield 63, 3) := by decide +kernel
theorem dX5_sumBits_17 : decode cX5_sumBits 17 = .ok (.iload_n 3, 1) := by decide +kernel
theorem dX5_sumBits_18 : decode cX5_sumBits 18 = .ok (.invokestatic 88, 3) := by decide +kernel
theorem dX5_sumBits_21 : decode cX5_sumBits 21 = .ok (.ifCond .eq 10, 3) := by decide +kernel
theorem dX5_sumBits_24 : decode cX5_sumBits 24 = .ok (.dload_n 1, 1) := by decide +kernel
theorem dX5_sumBits_25 : decode cX5_sumBits 25 = .ok (.dconst 1, 1) := by decide +kernel
theorem dX5_sumBits_26 : decode cX5_sumBits 26 = .ok (.iload_n 3, 1) := by decide +kernel
theorem dX5_sumBits_27 : decode cX5_sumBits 27 = .ok (.i2d, 1) := by decide +kernel
theorem dX5_sumBits_28 : decode cX5_sumBits 28 = .ok (.ddiv, 1) := by decide +kernel
theorem dX5_sumBits_29 : decode cX5_sumBits 29 = .ok (.dadd, 1) := by decide +kernel
theorem dX5_sumBits_30 : decode cX5_sumBits 30 = .ok (.dstore_n 1, 1) := by decide +kernel
theorem dX5_sumBits_31 : decode cX5_sumBits 31 = .ok (.iinc 3 1, 3) := by decide +kernel
theorem dX5_sumBits_34 : decode cX5_sumBits 34 = .ok (.goto (-30), 3) := by decide +kernel
theorem dX5_sumBits_37 : decode cX5_sumBits 37 = .ok (.dload_n 1, 1) := by decide +kernel
theorem dX5_sumBits_38 : decode cX5_sumBits 38 = .ok (.bipush 52, 2) := by decide +kernel
theorem dX5_sumBits_40 : decode cX5_sumBits 40 = .ok (.sipush 1023, 3) := by decide +kernel
theorem dX5_sumBits_43 : decode cX5_sumBits 43 = .ok (.invokestatic 184, 3) := by decide +kernel
theorem dX5_sumBits_46 : decode cX5_sumBits 46 = .ok (.lreturn, 1) := by decide +kernel
set_option maxRecDepth 20000 in
theorem ggX5_turnsInAll_X5_countAt : GoodIn wsX5_turnsInAll wsX5_countAt := goodIn_r _ [5] (by decide +kernel) (by decide +kernel)
set_option maxRecDepth 20000 in
theorem gX5_turnsInAll_X5_countAt : GoodIn wsX5_turnsInAll (va_wsS RX5 145 yX5_countAt wsX5_countAt) := goodIn_app (goodIn_of _ (by decide +kernel)) ggX5_turnsInAll_X5_countAt
theorem dX5_turnsInAll_0 : decode cX5_turnsInAll 0 = .ok (.iconst 0, 1) := by decide +kernel
theorem dX5_turnsInAll_1 : decode cX5_turnsInAll 1 = .ok (.istore_n 1, 1) := by decide +kernel
theorem dX5_turnsInAll_2 : decode cX5_turnsInAll 2 = .ok (.iconst 1, 1) := by decide +kernel
theorem dX5_turnsInAll_3 : decode cX5_turnsInAll 3 = .ok (.istore_n 2, 1) := by decide +kernel
theorem dX5_turnsInAll_4 : decode cX5_turnsInAll 4 = .ok (.iload_n 2, 1) := by decide +kernel
theorem dX5_turnsInAll_5 : decode cX5_turnsInAll 5 = .ok (.bipush 48, 2) := by decide +kernel
theorem dX5_turnsInAll_7 : decode cX5_turnsInAll 7 = .ok (.if_icmp .gt 23, 3) := by decide +kernel
theorem dX5_turnsInAll_10 : decode cX5_turnsInAll 10 = .ok (.iload_n 1, 1) := by decide +kernel
theorem dX5_turnsInAll_11 : decode cX5_turnsInAll 11 = .ok (.aload_n 0, 1) := by decide +kernel
theorem dX5_turnsInAll_12 : decode cX5_turnsInAll 12 = .ok (.getfield 10, 3) := by decide +kernel
theorem dX5_turnsInAll_15 : decode cX5_turnsInAll 15 = .ok (.getfield 141, 3) := by decide +kernel
theorem dX5_turnsInAll_18 : decode cX5_turnsInAll 18 = .ok (.iload_n 2, 1) := by decide +kernel
theorem dX5_turnsInAll_19 : decode cX5_turnsInAll 19 = .ok (.invokestatic 145, 3) := by decide +kernel
theorem dX5_turnsInAll_22 : decode cX5_turnsInAll 22 = .ok (.iadd, 1) := by decide +kernel
theorem dX5_turnsInAll_23 : decode cX5_turnsInAll 23 = .ok (.istore_n 1, 1) := by decide +kernel
theorem dX5_turnsInAll_24 : decode cX5_turnsInAll 24 = .ok (.iinc 2 1, 3) := by decide +kernel
theorem dX5_turnsInAll_27 : decode cX5_turnsInAll 27 = .ok (.goto (-23), 3) := by decide +kernel
theorem dX5_turnsInAll_30 : decode cX5_turnsInAll 30 = .ok (.iload_n 1, 1) := by decide +kernel
theorem dX5_turnsInAll_31 : decode cX5_turnsInAll 31 = .ok (.ireturn, 1) := by decide +kernel
set_option maxRecDepth 20000 in
theorem ggX5_keep_X2_copyFrom : GoodIn wsX5_keep wsX2_copyFrom := goodIn_r _ [8, 9, 10, 11, 12, 13, 14, 15, 16, 17, 7, 18, 32, 33, 34, 35, 36, 37, 38] (by decide +kernel) (by decide +kernel)
set_option maxRecDepth 20000 in
theorem gX5_keep_X2_copyFrom : GoodIn wsX5_keep (wsV RX5 188 RX2 yX2_copyFrom wsX2_copyFrom) := goodIn_app (goodIn_of _ (by decide +kernel)) ggX5_keep_X2_copyFrom
set_option maxRecDepth 20000 in
theorem ggX5_keep_J13_bitCount_95d88 : GoodIn wsX5_keep wsJ13_bitCount_95d88 := goodIn_r _ [22, 23, 24, 25] (by decide +kernel) (by decide +kernel)
set_option maxRecDepth 20000 in
theorem gX5_keep_J13_bitCount_95d88 : GoodIn wsX5_keep (va_wsS RX5 67 yJ13_bitCount_95d88 wsJ13_bitCount_95d88) := goodIn_app (goodIn_of _ (by decide +kernel)) ggX5_keep_J13_bitCount_95d88
theorem dX5_keep_0 : decode cX5_keep 0 = .ok (.aload_n 0, 1) := by decide +kernel
theorem dX5_keep_1 : decode cX5_keep 1 = .ok (.getfield 16, 3) := by decide +kernel
theorem dX5_keep_4 : decode cX5_keep 4 = .ok (.aload_n 0, 1) := by decide +kernel
theorem dX5_keep_5 : decode cX5_keep 5 = .ok (.getfield 10, 3) := by decide +kernel
theorem dX5_keep_8 : decode cX5_keep 8 = .ok (.invokevirtual 188, 3) := by decide +kernel
theorem dX5_keep_11 : decode cX5_keep 11 = .ok (.aload_n 0, 1) := by decide +kernel
theorem dX5_keep_12 : decode cX5_keep 12 = .ok (.iconst 1, 1) := by decide +kernel
theorem dX5_keep_13 : decode cX5_keep 13 = .ok (.putfield 19, 3) := by decide +kernel
theorem dX5_keep_16 : decode cX5_keep 16 = .ok (.aload_n 0, 1) := by decide +kernel
theorem dX5_keep_17 : decode cX5_keep 17 = .ok (.getfield 10, 3) := by decide +kernel
theorem dX5_keep_20 : decode cX5_keep 20 = .ok (.getfield 63, 3) := by decide +kernel
theorem dX5_keep_23 : decode cX5_keep 23 = .ok (.invokestatic 67, 3) := by decide +kernel
theorem dX5_keep_26 : decode cX5_keep 26 = .ok (.ireturn, 1) := by decide +kernel
set_option maxRecDepth 20000 in
theorem ggX5_goBack_X0_push : GoodIn wsX5_goBack wsX0_push := goodIn_r _ [11, 12, 13, 14, 15, 16, 10, 17, 18, 19, 20, 21, 22, 23, 24, 25, 26, 27, 28, 29, 30, 31, 32, 54, 55, 47, 48, 49, 50, 51, 52, 53] (by decide +kernel) (by decide +kernel)
set_option maxRecDepth 20000 in
theorem gX5_goBack_X0_push : GoodIn wsX5_goBack (wsV RX5 55 RX0 yX0_push wsX0_push) := goodIn_app (goodIn_of _ (by decide +kernel)) ggX5_goBack_X0_push
set_option maxRecDepth 20000 in
theorem ggX5_goBack_X2_copyFrom : GoodIn wsX5_goBack wsX2_copyFrom := goodIn_r _ [22, 23, 24, 25, 26, 27, 28, 29, 30, 31, 21, 32, 47, 48, 49, 50, 51, 52, 53] (by decide +kernel) (by decide +kernel)
set_option maxRecDepth 20000 in
theorem gX5_goBack_X2_copyFrom : GoodIn wsX5_goBack (wsV RX5 188 RX2 yX2_copyFrom wsX2_copyFrom) := goodIn_app (goodIn_of _ (by decide +kernel)) ggX5_goBack_X2_copyFrom
set_option maxRecDepth 20000 in
theorem ggX5_goBack_J13_bitCount_95d88 : GoodIn wsX5_goBack wsJ13_bitCount_95d88 := goodIn_r _ [37, 38, 39, 40] (by decide +kernel) (by decide +kernel)
set_option maxRecDepth 20000 in
theorem gX5_goBack_J13_bitCount_95d88 : GoodIn wsX5_goBack (va_wsS RX5 67 yJ13_bitCount_95d88 wsJ13_bitCount_95d88) := goodIn_app (goodIn_of _ (by decide +kernel)) ggX5_goBack_J13_bitCount_95d88
theorem dX5_goBack_0 : decode cX5_goBack 0 = .ok (.aload_n 0, 1) := by decide +kernel
theorem dX5_goBack_1 : decode cX5_goBack 1 = .ok (.getfield 19, 3) := by decide +kernel
theorem dX5_goBack_4 : decode cX5_goBack 4 = .ok (.ifCond .ne 13, 3) := by decide +kernel
theorem dX5_goBack_7 : decode cX5_goBack 7 = .ok (.new 92, 3) := by decide +kernel
theorem dX5_goBack_10 : decode cX5_goBack 10 = .ok (.dup, 1) := by decide +kernel
theorem dX5_goBack_11 : decode cX5_goBack 11 = .ok (.ldc 191, 2) := by decide +kernel
theorem dX5_goBack_13 : decode cX5_goBack 13 = .ok (.invokespecial 96, 3) := by decide +kernel
theorem dX5_goBack_16 : decode cX5_goBack 16 = .ok (.athrow, 1) := by decide +kernel
theorem dX5_goBack_17 : decode cX5_goBack 17 = .ok (.aload_n 0, 1) := by decide +kernel
theorem dX5_goBack_18 : decode cX5_goBack 18 = .ok (.getfield 26, 3) := by decide +kernel
theorem dX5_goBack_21 : decode cX5_goBack 21 = .ok (.aload_n 0, 1) := by decide +kernel
theorem dX5_goBack_22 : decode cX5_goBack 22 = .ok (.getfield 10, 3) := by decide +kernel
theorem dX5_goBack_25 : decode cX5_goBack 25 = .ok (.invokevirtual 55, 3) := by decide +kernel
theorem dX5_goBack_28 : decode cX5_goBack 28 = .ok (.aload_n 0, 1) := by decide +kernel
theorem dX5_goBack_29 : decode cX5_goBack 29 = .ok (.getfield 10, 3) := by decide +kernel
theorem dX5_goBack_32 : decode cX5_goBack 32 = .ok (.aload_n 0, 1) := by decide +kernel
theorem dX5_goBack_33 : decode cX5_goBack 33 = .ok (.getfield 16, 3) := by decide +kernel
theorem dX5_goBack_36 : decode cX5_goBack 36 = .ok (.invokevirtual 188, 3) := by decide +kernel
theorem dX5_goBack_39 : decode cX5_goBack 39 = .ok (.aload_n 0, 1) := by decide +kernel
theorem dX5_goBack_40 : decode cX5_goBack 40 = .ok (.getfield 10, 3) := by decide +kernel
theorem dX5_goBack_43 : decode cX5_goBack 43 = .ok (.getfield 63, 3) := by decide +kernel
theorem dX5_goBack_46 : decode cX5_goBack 46 = .ok (.invokestatic 67, 3) := by decide +kernel
theorem dX5_goBack_49 : decode cX5_goBack 49 = .ok (.ireturn, 1) := by decide +kernel
theorem dX5_states_0 : decode cX5_states 0 = .ok (.aload_n 0, 1) := by decide +kernel
theorem dX5_states_1 : decode cX5_states 1 = .ok (.getfield 26, 3) := by decide +kernel
theorem dX5_states_4 : decode cX5_states 4 = .ok (.getfield 193, 3) := by decide +kernel
theorem dX5_states_7 : decode cX5_states 7 = .ok (.ireturn, 1) := by decide +kernel
set_option maxRecDepth 20000 in
theorem ggX5_undo_X0_popInto : GoodIn wsX5_undo wsX0_popInto := goodIn_r _ [9, 10, 11, 12, 13, 14, 15, 16, 17, 18, 19, 20, 21, 22, 23, 24, 25, 26, 33, 34, 35, 36, 37, 38, 39, 40, 41] (by decide +kernel) (by decide +kernel)
set_option maxRecDepth 20000 in
theorem gX5_undo_X0_popInto : GoodIn wsX5_undo (wsV RX5 199 RX0 yX0_popInto wsX0_popInto) := goodIn_app (goodIn_of _ (by decide +kernel)) ggX5_undo_X0_popInto
theorem dX5_undo_0 : decode cX5_undo 0 = .ok (.aload_n 0, 1) := by decide +kernel
theorem dX5_undo_1 : decode cX5_undo 1 = .ok (.getfield 26, 3) := by decide +kernel
theorem dX5_undo_4 : decode cX5_undo 4 = .ok (.getfield 193, 3) := by decide +kernel
theorem dX5_undo_7 : decode cX5_undo 7 = .ok (.ifCond .ne 13, 3) := by decide +kernel
theorem dX5_undo_10 : decode cX5_undo 10 = .ok (.new 92, 3) := by decide +kernel
theorem dX5_undo_13 : decode cX5_undo 13 = .ok (.dup, 1) := by decide +kernel
theorem dX5_undo_14 : decode cX5_undo 14 = .ok (.ldc 197, 2) := by decide +kernel
theorem dX5_undo_16 : decode cX5_undo 16 = .ok (.invokespecial 96, 3) := by decide +kernel
theorem dX5_undo_19 : decode cX5_undo 19 = .ok (.athrow, 1) := by decide +kernel
theorem dX5_undo_20 : decode cX5_undo 20 = .ok (.aload_n 0, 1) := by decide +kernel
theorem dX5_undo_21 : decode cX5_undo 21 = .ok (.getfield 26, 3) := by decide +kernel
theorem dX5_undo_24 : decode cX5_undo 24 = .ok (.aload_n 0, 1) := by decide +kernel
theorem dX5_undo_25 : decode cX5_undo 25 = .ok (.getfield 10, 3) := by decide +kernel
theorem dX5_undo_28 : decode cX5_undo 28 = .ok (.invokevirtual 199, 3) := by decide +kernel
theorem dX5_undo_31 : decode cX5_undo 31 = .ok (.aload_n 0, 1) := by decide +kernel
theorem dX5_undo_32 : decode cX5_undo 32 = .ok (.getfield 26, 3) := by decide +kernel
theorem dX5_undo_35 : decode cX5_undo 35 = .ok (.getfield 193, 3) := by decide +kernel
theorem dX5_undo_38 : decode cX5_undo 38 = .ok (.ireturn, 1) := by decide +kernel
set_option maxRecDepth 20000 in
theorem ggX5_type_X3_append : GoodIn wsX5_type wsX3_append := goodIn_r _ [10, 11, 12, 19, 20] (by decide +kernel) (by decide +kernel)
set_option maxRecDepth 20000 in
theorem gX5_type_X3_append : GoodIn wsX5_type (wsV RX5 209 RX3 yX3_append wsX3_append) := goodIn_app (goodIn_of _ (by decide +kernel)) ggX5_type_X3_append
theorem dX5_type_0 : decode cX5_type 0 = .ok (.iload_n 1, 1) := by decide +kernel
theorem dX5_type_1 : decode cX5_type 1 = .ok (.bipush 32, 2) := by decide +kernel
theorem dX5_type_3 : decode cX5_type 3 = .ok (.if_icmp .lt 9, 3) := by decide +kernel
theorem dX5_type_6 : decode cX5_type 6 = .ok (.iload_n 1, 1) := by decide +kernel
theorem dX5_type_7 : decode cX5_type 7 = .ok (.bipush 126, 2) := by decide +kernel
theorem dX5_type_9 : decode cX5_type 9 = .ok (.if_icmp .le 13, 3) := by decide +kernel
theorem dX5_type_12 : decode cX5_type 12 = .ok (.new 48, 3) := by decide +kernel
theorem dX5_type_15 : decode cX5_type 15 = .ok (.dup, 1) := by decide +kernel
theorem dX5_type_16 : decode cX5_type 16 = .ok (.ldc 202, 2) := by decide +kernel
theorem dX5_type_18 : decode cX5_type 18 = .ok (.invokespecial 52, 3) := by decide +kernel
theorem dX5_type_21 : decode cX5_type 21 = .ok (.athrow, 1) := by decide +kernel
theorem dX5_type_22 : decode cX5_type 22 = .ok (.aload_n 0, 1) := by decide +kernel
theorem dX5_type_23 : decode cX5_type 23 = .ok (.getfield 33, 3) := by decide +kernel
theorem dX5_type_26 : decode cX5_type 26 = .ok (.getfield 204, 3) := by decide +kernel
theorem dX5_type_29 : decode cX5_type 29 = .ok (.bipush 60, 2) := by decide +kernel
theorem dX5_type_31 : decode cX5_type 31 = .ok (.if_icmp .lt 13, 3) := by decide +kernel
theorem dX5_type_34 : decode cX5_type 34 = .ok (.new 92, 3) := by decide +kernel
theorem dX5_type_37 : decode cX5_type 37 = .ok (.dup, 1) := by decide +kernel
theorem dX5_type_38 : decode cX5_type 38 = .ok (.ldc 207, 2) := by decide +kernel
theorem dX5_type_40 : decode cX5_type 40 = .ok (.invokespecial 96, 3) := by decide +kernel
theorem dX5_type_43 : decode cX5_type 43 = .ok (.athrow, 1) := by decide +kernel
theorem dX5_type_44 : decode cX5_type 44 = .ok (.aload_n 0, 1) := by decide +kernel
theorem dX5_type_45 : decode cX5_type 45 = .ok (.getfield 33, 3) := by decide +kernel
theorem dX5_type_48 : decode cX5_type 48 = .ok (.iload_n 1, 1) := by decide +kernel
theorem dX5_type_49 : decode cX5_type 49 = .ok (.i2c, 1) := by decide +kernel
theorem dX5_type_50 : decode cX5_type 50 = .ok (.invokevirtual 209, 3) := by decide +kernel
theorem dX5_type_53 : decode cX5_type 53 = .ok (.aload_n 0, 1) := by decide +kernel
theorem dX5_type_54 : decode cX5_type 54 = .ok (.getfield 33, 3) := by decide +kernel
theorem dX5_type_57 : decode cX5_type 57 = .ok (.getfield 204, 3) := by decide +kernel
theorem dX5_type_60 : decode cX5_type 60 = .ok (.ireturn, 1) := by decide +kernel
theorem dX5_clearText_0 : decode cX5_clearText 0 = .ok (.aload_n 0, 1) := by decide +kernel
theorem dX5_clearText_1 : decode cX5_clearText 1 = .ok (.getfield 33, 3) := by decide +kernel
theorem dX5_clearText_4 : decode cX5_clearText 4 = .ok (.getfield 204, 3) := by decide +kernel
theorem dX5_clearText_7 : decode cX5_clearText 7 = .ok (.istore_n 1, 1) := by decide +kernel
theorem dX5_clearText_8 : decode cX5_clearText 8 = .ok (.aload_n 0, 1) := by decide +kernel
theorem dX5_clearText_9 : decode cX5_clearText 9 = .ok (.getfield 33, 3) := by decide +kernel
theorem dX5_clearText_12 : decode cX5_clearText 12 = .ok (.iconst 0, 1) := by decide +kernel
theorem dX5_clearText_13 : decode cX5_clearText 13 = .ok (.putfield 204, 3) := by decide +kernel
theorem dX5_clearText_16 : decode cX5_clearText 16 = .ok (.iload_n 1, 1) := by decide +kernel
theorem dX5_clearText_17 : decode cX5_clearText 17 = .ok (.ireturn, 1) := by decide +kernel
set_option maxRecDepth 20000 in
theorem ggX5_faultPosition_X4_run : GoodIn wsX5_faultPosition wsX4_run := goodIn_r _ [10, 11, 12, 13, 14, 15, 16, 17, 18, 19, 20, 21, 22, 23, 24, 25, 26, 27, 28, 29, 30, 31, 32, 33, 34, 35, 36, 37, 38, 39, 40, 41, 42, 43, 44, 45, 46, 47, 48, 49, 50, 51, 52, 53, 54, 55, 56, 57, 58, 59, 60, 61, 62, 63, 64, 65, 66, 67, 68, 69, 70, 71, 72, 73, 74, 75, 76, 77, 78, 79, 80, 81, 82, 83, 84, 85, 86, 87, 88, 89, 90, 91, 92, 93, 94, 95, 96, 97, 98, 99, 100, 101, 102, 103, 104, 105, 106, 107, 108, 109, 110, 111, 112, 113, 114, 115, 116, 117, 124, 125, 126, 127, 128, 129, 130, 131, 132, 133, 134, 135, 136, 137, 138, 139, 140, 141, 142, 143] (by decide +kernel) (by decide +kernel)
set_option maxRecDepth 20000 in
theorem gX5_faultPosition_X4_run : GoodIn wsX5_faultPosition (wsV RX5 213 RX4 yX4_run wsX4_run) := goodIn_app (goodIn_of _ (by decide +kernel)) ggX5_faultPosition_X4_run
theorem dX5_faultPosition_0 : decode cX5_faultPosition 0 = .ok (.aload_n 0, 1) := by decide +kernel
theorem dX5_faultPosition_1 : decode cX5_faultPosition 1 = .ok (.getfield 40, 3) := by decide +kernel
theorem dX5_faultPosition_4 : decode cX5_faultPosition 4 = .ok (.aload_n 0, 1) := by decide +kernel
theorem dX5_faultPosition_5 : decode cX5_faultPosition 5 = .ok (.getfield 33, 3) := by decide +kernel
theorem dX5_faultPosition_8 : decode cX5_faultPosition 8 = .ok (.aload_n 0, 1) := by decide +kernel
theorem dX5_faultPosition_9 : decode cX5_faultPosition 9 = .ok (.getfield 10, 3) := by decide +kernel
theorem dX5_faultPosition_12 : decode cX5_faultPosition 12 = .ok (.invokevirtual 213, 3) := by decide +kernel
theorem dX5_faultPosition_15 : decode cX5_faultPosition 15 = .ok (.aload_n 0, 1) := by decide +kernel
theorem dX5_faultPosition_16 : decode cX5_faultPosition 16 = .ok (.getfield 40, 3) := by decide +kernel
theorem dX5_faultPosition_19 : decode cX5_faultPosition 19 = .ok (.getfield 217, 3) := by decide +kernel
theorem dX5_faultPosition_22 : decode cX5_faultPosition 22 = .ok (.ifCond .ne 13, 3) := by decide +kernel
theorem dX5_faultPosition_25 : decode cX5_faultPosition 25 = .ok (.new 157, 3) := by decide +kernel
theorem dX5_faultPosition_28 : decode cX5_faultPosition 28 = .ok (.dup, 1) := by decide +kernel
theorem dX5_faultPosition_29 : decode cX5_faultPosition 29 = .ok (.ldc 220, 2) := by decide +kernel
theorem dX5_faultPosition_31 : decode cX5_faultPosition 31 = .ok (.invokespecial 161, 3) := by decide +kernel
theorem dX5_faultPosition_34 : decode cX5_faultPosition 34 = .ok (.athrow, 1) := by decide +kernel
theorem dX5_faultPosition_35 : decode cX5_faultPosition 35 = .ok (.aload_n 0, 1) := by decide +kernel
theorem dX5_faultPosition_36 : decode cX5_faultPosition 36 = .ok (.getfield 40, 3) := by decide +kernel
theorem dX5_faultPosition_39 : decode cX5_faultPosition 39 = .ok (.getfield 222, 3) := by decide +kernel
theorem dX5_faultPosition_42 : decode cX5_faultPosition 42 = .ok (.ireturn, 1) := by decide +kernel
set_option maxRecDepth 20000 in
theorem ggX5_faultReason_X4_run : GoodIn wsX5_faultReason wsX4_run := goodIn_r _ [10, 11, 12, 13, 14, 15, 16, 17, 18, 19, 20, 21, 22, 23, 24, 25, 26, 27, 28, 29, 30, 31, 32, 33, 34, 35, 36, 37, 38, 39, 40, 41, 42, 43, 44, 45, 46, 47, 48, 49, 50, 51, 52, 53, 54, 55, 56, 57, 58, 59, 60, 61, 62, 63, 64, 65, 66, 67, 68, 69, 70, 71, 72, 73, 74, 75, 76, 77, 78, 79, 80, 81, 82, 83, 84, 85, 86, 87, 88, 89, 90, 91, 92, 93, 94, 95, 96, 97, 98, 99, 100, 101, 102, 103, 104, 105, 106, 107, 108, 109, 110, 111, 112, 113, 114, 115, 116, 117, 124, 125, 126, 127, 128, 129, 130, 131, 132, 133, 134, 135, 136, 137, 138, 139, 140, 141, 142, 143] (by decide +kernel) (by decide +kernel)
set_option maxRecDepth 20000 in
theorem gX5_faultReason_X4_run : GoodIn wsX5_faultReason (wsV RX5 213 RX4 yX4_run wsX4_run) := goodIn_app (goodIn_of _ (by decide +kernel)) ggX5_faultReason_X4_run
theorem dX5_faultReason_0 : decode cX5_faultReason 0 = .ok (.aload_n 0, 1) := by decide +kernel
theorem dX5_faultReason_1 : decode cX5_faultReason 1 = .ok (.getfield 40, 3) := by decide +kernel
theorem dX5_faultReason_4 : decode cX5_faultReason 4 = .ok (.aload_n 0, 1) := by decide +kernel
theorem dX5_faultReason_5 : decode cX5_faultReason 5 = .ok (.getfield 33, 3) := by decide +kernel
theorem dX5_faultReason_8 : decode cX5_faultReason 8 = .ok (.aload_n 0, 1) := by decide +kernel
theorem dX5_faultReason_9 : decode cX5_faultReason 9 = .ok (.getfield 10, 3) := by decide +kernel
theorem dX5_faultReason_12 : decode cX5_faultReason 12 = .ok (.invokevirtual 213, 3) := by decide +kernel
theorem dX5_faultReason_15 : decode cX5_faultReason 15 = .ok (.aload_n 0, 1) := by decide +kernel
theorem dX5_faultReason_16 : decode cX5_faultReason 16 = .ok (.getfield 40, 3) := by decide +kernel
theorem dX5_faultReason_19 : decode cX5_faultReason 19 = .ok (.getfield 217, 3) := by decide +kernel
theorem dX5_faultReason_22 : decode cX5_faultReason 22 = .ok (.ifCond .ne 13, 3) := by decide +kernel
theorem dX5_faultReason_25 : decode cX5_faultReason 25 = .ok (.new 157, 3) := by decide +kernel
theorem dX5_faultReason_28 : decode cX5_faultReason 28 = .ok (.dup, 1) := by decide +kernel
theorem dX5_faultReason_29 : decode cX5_faultReason 29 = .ok (.ldc 220, 2) := by decide +kernel
theorem dX5_faultReason_31 : decode cX5_faultReason 31 = .ok (.invokespecial 161, 3) := by decide +kernel
theorem dX5_faultReason_34 : decode cX5_faultReason 34 = .ok (.athrow, 1) := by decide +kernel
theorem dX5_faultReason_35 : decode cX5_faultReason 35 = .ok (.aload_n 0, 1) := by decide +kernel
theorem dX5_faultReason_36 : decode cX5_faultReason 36 = .ok (.getfield 40, 3) := by decide +kernel
theorem dX5_faultReason_39 : decode cX5_faultReason 39 = .ok (.getfield 217, 3) := by decide +kernel
theorem dX5_faultReason_42 : decode cX5_faultReason 42 = .ok (.ireturn, 1) := by decide +kernel
set_option maxRecDepth 20000 in
theorem ggX5_faultCause_X4_run : GoodIn wsX5_faultCause wsX4_run := goodIn_r _ [10, 11, 12, 13, 14, 15, 16, 17, 18, 19, 20, 21, 22, 23, 24, 25, 26, 27, 28, 29, 30, 31, 32, 33, 34, 35, 36, 37, 38, 39, 40, 41, 42, 43, 44, 45, 46, 47, 48, 49, 50, 51, 52, 53, 54, 55, 56, 57, 58, 59, 60, 61, 62, 63, 64, 65, 66, 67, 68, 69, 70, 71, 72, 73, 74, 75, 76, 77, 78, 79, 80, 81, 82, 83, 84, 85, 86, 87, 88, 89, 90, 91, 92, 93, 94, 95, 96, 97, 98, 99, 100, 101, 102, 103, 104, 105, 106, 107, 108, 109, 110, 111, 112, 113, 114, 115, 116, 117, 124, 125, 126, 127, 128, 129, 130, 131, 132, 133, 134, 135, 136, 137, 138, 139, 140, 141, 142, 143] (by decide +kernel) (by decide +kernel)
set_option maxRecDepth 20000 in
theorem gX5_faultCause_X4_run : GoodIn wsX5_faultCause (wsV RX5 213 RX4 yX4_run wsX4_run) := goodIn_app (goodIn_of _ (by decide +kernel)) ggX5_faultCause_X4_run
theorem dX5_faultCause_0 : decode cX5_faultCause 0 = .ok (.aload_n 0, 1) := by decide +kernel
theorem dX5_faultCause_1 : decode cX5_faultCause 1 = .ok (.getfield 40, 3) := by decide +kernel
theorem dX5_faultCause_4 : decode cX5_faultCause 4 = .ok (.aload_n 0, 1) := by decide +kernel
theorem dX5_faultCause_5 : decode cX5_faultCause 5 = .ok (.getfield 33, 3) := by decide +kernel
theorem dX5_faultCause_8 : decode cX5_faultCause 8 = .ok (.aload_n 0, 1) := by decide +kernel
theorem dX5_faultCause_9 : decode cX5_faultCause 9 = .ok (.getfield 10, 3) := by decide +kernel
theorem dX5_faultCause_12 : decode cX5_faultCause 12 = .ok (.invokevirtual 213, 3) := by decide +kernel
theorem dX5_faultCause_15 : decode cX5_faultCause 15 = .ok (.aload_n 0, 1) := by decide +kernel
theorem dX5_faultCause_16 : decode cX5_faultCause 16 = .ok (.getfield 40, 3) := by decide +kernel
theorem dX5_faultCause_19 : decode cX5_faultCause 19 = .ok (.getfield 217, 3) := by decide +kernel
theorem dX5_faultCause_22 : decode cX5_faultCause 22 = .ok (.ifCond .ne 13, 3) := by decide +kernel
theorem dX5_faultCause_25 : decode cX5_faultCause 25 = .ok (.new 157, 3) := by decide +kernel
theorem dX5_faultCause_28 : decode cX5_faultCause 28 = .ok (.dup, 1) := by decide +kernel
theorem dX5_faultCause_29 : decode cX5_faultCause 29 = .ok (.ldc 220, 2) := by decide +kernel
theorem dX5_faultCause_31 : decode cX5_faultCause 31 = .ok (.invokespecial 161, 3) := by decide +kernel
theorem dX5_faultCause_34 : decode cX5_faultCause 34 = .ok (.athrow, 1) := by decide +kernel
theorem dX5_faultCause_35 : decode cX5_faultCause 35 = .ok (.aload_n 0, 1) := by decide +kernel
theorem dX5_faultCause_36 : decode cX5_faultCause 36 = .ok (.getfield 40, 3) := by decide +kernel
theorem dX5_faultCause_39 : decode cX5_faultCause 39 = .ok (.getfield 225, 3) := by decide +kernel
theorem dX5_faultCause_42 : decode cX5_faultCause 42 = .ok (.ireturn, 1) := by decide +kernel
set_option maxRecDepth 20000 in
theorem ggX5_play_X4_run : GoodIn wsX5_play wsX4_run := goodIn_r _ [11, 12, 13, 14, 15, 16, 17, 18, 19, 20, 21, 22, 23, 24, 25, 26, 27, 28, 29, 30, 31, 32, 33, 34, 35, 36, 37, 38, 39, 40, 41, 42, 43, 44, 45, 46, 47, 48, 49, 50, 51, 52, 53, 54, 55, 56, 57, 58, 59, 60, 61, 62, 63, 64, 65, 66, 67, 68, 69, 70, 71, 72, 73, 74, 75, 76, 77, 78, 79, 80, 81, 82, 83, 84, 85, 86, 87, 88, 89, 90, 91, 92, 93, 94, 95, 96, 97, 98, 99, 100, 101, 102, 103, 104, 105, 106, 107, 108, 109, 110, 111, 112, 113, 114, 115, 116, 117, 118, 138, 139, 140, 141, 142, 143, 144, 145, 146, 147, 148, 149, 150, 151, 152, 153, 154, 155, 156, 157] (by decide +kernel) (by decide +kernel)
set_option maxRecDepth 20000 in
theorem gX5_play_X4_run : GoodIn wsX5_play (wsV RX5 213 RX4 yX4_run wsX4_run) := goodIn_app (goodIn_of _ (by decide +kernel)) ggX5_play_X4_run
set_option maxRecDepth 20000 in
theorem ggX5_play_X0_push : GoodIn wsX5_play wsX0_push := goodIn_r _ [123, 124, 125, 126, 127, 128, 122, 129, 130, 19, 20, 21, 22, 23, 24, 25, 26, 27, 28, 29, 30, 31, 32, 158, 159, 151, 152, 153, 154, 155, 156, 157] (by decide +kernel) (by decide +kernel)
set_option maxRecDepth 20000 in
theorem gX5_play_X0_push : GoodIn wsX5_play (wsV RX5 55 RX0 yX0_push wsX0_push) := goodIn_app (goodIn_of _ (by decide +kernel)) ggX5_play_X0_push
set_option maxRecDepth 20000 in
theorem ggX5_play_X2_copyFrom : GoodIn wsX5_play wsX2_copyFrom := goodIn_r _ [22, 23, 24, 25, 26, 27, 28, 29, 30, 31, 21, 32, 151, 152, 153, 154, 155, 156, 157] (by decide +kernel) (by decide +kernel)
set_option maxRecDepth 20000 in
theorem gX5_play_X2_copyFrom : GoodIn wsX5_play (wsV RX5 188 RX2 yX2_copyFrom wsX2_copyFrom) := goodIn_app (goodIn_of _ (by decide +kernel)) ggX5_play_X2_copyFrom
theorem dX5_play_0 : decode cX5_play 0 = .ok (.aload_n 0, 1) := by decide +kernel
theorem dX5_play_1 : decode cX5_play 1 = .ok (.getfield 40, 3) := by decide +kernel
theorem dX5_play_4 : decode cX5_play 4 = .ok (.aload_n 0, 1) := by decide +kernel
theorem dX5_play_5 : decode cX5_play 5 = .ok (.getfield 33, 3) := by decide +kernel
theorem dX5_play_8 : decode cX5_play 8 = .ok (.aload_n 0, 1) := by decide +kernel
theorem dX5_play_9 : decode cX5_play 9 = .ok (.getfield 10, 3) := by decide +kernel
theorem dX5_play_12 : decode cX5_play 12 = .ok (.invokevirtual 213, 3) := by decide +kernel
theorem dX5_play_15 : decode cX5_play 15 = .ok (.aload_n 0, 1) := by decide +kernel
theorem dX5_play_16 : decode cX5_play 16 = .ok (.getfield 40, 3) := by decide +kernel
theorem dX5_play_19 : decode cX5_play 19 = .ok (.getfield 217, 3) := by decide +kernel
theorem dX5_play_22 : decode cX5_play 22 = .ok (.ifCond .eq 13, 3) := by decide +kernel
theorem dX5_play_25 : decode cX5_play 25 = .ok (.new 92, 3) := by decide +kernel
theorem dX5_play_28 : decode cX5_play 28 = .ok (.dup, 1) := by decide +kernel
theorem dX5_play_29 : decode cX5_play 29 = .ok (.ldc 228, 2) := by decide +kernel
theorem dX5_play_31 : decode cX5_play 31 = .ok (.invokespecial 96, 3) := by decide +kernel
theorem dX5_play_34 : decode cX5_play 34 = .ok (.athrow, 1) := by decide +kernel
theorem dX5_play_35 : decode cX5_play 35 = .ok (.aload_n 0, 1) := by decide +kernel
theorem dX5_play_36 : decode cX5_play 36 = .ok (.getfield 26, 3) := by decide +kernel
theorem dX5_play_39 : decode cX5_play 39 = .ok (.aload_n 0, 1) := by decide +kernel
theorem dX5_play_40 : decode cX5_play 40 = .ok (.getfield 10, 3) := by decide +kernel
theorem dX5_play_43 : decode cX5_play 43 = .ok (.invokevirtual 55, 3) := by decide +kernel
theorem dX5_play_46 : decode cX5_play 46 = .ok (.aload_n 0, 1) := by decide +kernel
theorem dX5_play_47 : decode cX5_play 47 = .ok (.getfield 10, 3) := by decide +kernel
theorem dX5_play_50 : decode cX5_play 50 = .ok (.aload_n 0, 1) := by decide +kernel
theorem dX5_play_51 : decode cX5_play 51 = .ok (.getfield 40, 3) := by decide +kernel
theorem dX5_play_54 : decode cX5_play 54 = .ok (.getfield 230, 3) := by decide +kernel
theorem dX5_play_57 : decode cX5_play 57 = .ok (.invokevirtual 188, 3) := by decide +kernel
theorem dX5_play_60 : decode cX5_play 60 = .ok (.aload_n 0, 1) := by decide +kernel
theorem dX5_play_61 : decode cX5_play 61 = .ok (.getfield 40, 3) := by decide +kernel
theorem dX5_play_64 : decode cX5_play 64 = .ok (.getfield 233, 3) := by decide +kernel
theorem dX5_play_67 : decode cX5_play 67 = .ok (.ireturn, 1) := by decide +kernel
theorem dX5_isInRow_0 : decode cX5_isInRow 0 = .ok (.iload_n 0, 1) := by decide +kernel
theorem dX5_isInRow_1 : decode cX5_isInRow 1 = .ok (.iconst 1, 1) := by decide +kernel
theorem dX5_isInRow_2 : decode cX5_isInRow 2 = .ok (.if_icmp .lt 13, 3) := by decide +kernel
theorem dX5_isInRow_5 : decode cX5_isInRow 5 = .ok (.iload_n 0, 1) := by decide +kernel
theorem dX5_isInRow_6 : decode cX5_isInRow 6 = .ok (.bipush 48, 2) := by decide +kernel
theorem dX5_isInRow_8 : decode cX5_isInRow 8 = .ok (.if_icmp .gt 7, 3) := by decide +kernel
theorem dX5_isInRow_11 : decode cX5_isInRow 11 = .ok (.iconst 1, 1) := by decide +kernel
theorem dX5_isInRow_12 : decode cX5_isInRow 12 = .ok (.goto 4, 3) := by decide +kernel
theorem dX5_isInRow_15 : decode cX5_isInRow 15 = .ok (.iconst 0, 1) := by decide +kernel
theorem dX5_isInRow_16 : decode cX5_isInRow 16 = .ok (.ireturn, 1) := by decide +kernel
theorem dX5_isStretch_0 : decode cX5_isStretch 0 = .ok (.iload_n 0, 1) := by decide +kernel
theorem dX5_isStretch_1 : decode cX5_isStretch 1 = .ok (.iconst 1, 1) := by decide +kernel
theorem dX5_isStretch_2 : decode cX5_isStretch 2 = .ok (.if_icmp .lt 18, 3) := by decide +kernel
theorem dX5_isStretch_5 : decode cX5_isStretch 5 = .ok (.iload_n 0, 1) := by decide +kernel
theorem dX5_isStretch_6 : decode cX5_isStretch 6 = .ok (.iload_n 1, 1) := by decide +kernel
theorem dX5_isStretch_7 : decode cX5_isStretch 7 = .ok (.if_icmp .gt 13, 3) := by decide +kernel
theorem dX5_isStretch_10 : decode cX5_isStretch 10 = .ok (.iload_n 1, 1) := by decide +kernel
theorem dX5_isStretch_11 : decode cX5_isStretch 11 = .ok (.bipush 48, 2) := by decide +kernel
theorem dX5_isStretch_13 : decode cX5_isStretch 13 = .ok (.if_icmp .gt 7, 3) := by decide +kernel
theorem dX5_isStretch_16 : decode cX5_isStretch 16 = .ok (.iconst 1, 1) := by decide +kernel
theorem dX5_isStretch_17 : decode cX5_isStretch 17 = .ok (.goto 4, 3) := by decide +kernel
theorem dX5_isStretch_20 : decode cX5_isStretch 20 = .ok (.iconst 0, 1) := by decide +kernel
theorem dX5_isStretch_21 : decode cX5_isStretch 21 = .ok (.ireturn, 1) := by decide +kernel
theorem dX5_isKind_0 : decode cX5_isKind 0 = .ok (.iload_n 0, 1) := by decide +kernel
theorem dX5_isKind_1 : decode cX5_isKind 1 = .ok (.ifCond .eq 8, 3) := by decide +kernel
theorem dX5_isKind_4 : decode cX5_isKind 4 = .ok (.iload_n 0, 1) := by decide +kernel
theorem dX5_isKind_5 : decode cX5_isKind 5 = .ok (.iconst 1, 1) := by decide +kernel
theorem dX5_isKind_6 : decode cX5_isKind 6 = .ok (.if_icmp .ne 7, 3) := by decide +kernel
theorem dX5_isKind_9 : decode cX5_isKind 9 = .ok (.iconst 1, 1) := by decide +kernel
theorem dX5_isKind_10 : decode cX5_isKind 10 = .ok (.goto 4, 3) := by decide +kernel
theorem dX5_isKind_13 : decode cX5_isKind 13 = .ok (.iconst 0, 1) := by decide +kernel
theorem dX5_isKind_14 : decode cX5_isKind 14 = .ok (.ireturn, 1) := by decide +kernel
theorem dX5_bit_0 : decode cX5_bit 0 = .ok (.lconst 1, 1) := by decide +kernel
theorem dX5_bit_1 : decode cX5_bit 1 = .ok (.iload_n 0, 1) := by decide +kernel
theorem dX5_bit_2 : decode cX5_bit 2 = .ok (.lshl, 1) := by decide +kernel
theorem dX5_bit_3 : decode cX5_bit 3 = .ok (.lreturn, 1) := by decide +kernel
theorem dX5_contains_0 : decode cX5_contains 0 = .ok (.lload_n 0, 1) := by decide +kernel
theorem dX5_contains_1 : decode cX5_contains 1 = .ok (.iload_n 2, 1) := by decide +kernel
theorem dX5_contains_2 : decode cX5_contains 2 = .ok (.lushr, 1) := by decide +kernel
theorem dX5_contains_3 : decode cX5_contains 3 = .ok (.lconst 1, 1) := by decide +kernel
theorem dX5_contains_4 : decode cX5_contains 4 = .ok (.land, 1) := by decide +kernel
theorem dX5_contains_5 : decode cX5_contains 5 = .ok (.lconst 0, 1) := by decide +kernel
theorem dX5_contains_6 : decode cX5_contains 6 = .ok (.lcmp, 1) := by decide +kernel
theorem dX5_contains_7 : decode cX5_contains 7 = .ok (.ifCond .eq 7, 3) := by decide +kernel
theorem dX5_contains_10 : decode cX5_contains 10 = .ok (.iconst 1, 1) := by decide +kernel
theorem dX5_contains_11 : decode cX5_contains 11 = .ok (.goto 4, 3) := by decide +kernel
theorem dX5_contains_14 : decode cX5_contains 14 = .ok (.iconst 0, 1) := by decide +kernel
theorem dX5_contains_15 : decode cX5_contains 15 = .ok (.ireturn, 1) := by decide +kernel
theorem dX5_countAt_0 : decode cX5_countAt 0 = .ok (.iload_n 1, 1) := by decide +kernel
theorem dX5_countAt_1 : decode cX5_countAt 1 = .ok (.ifCond .lt 15, 3) := by decide +kernel
theorem dX5_countAt_4 : decode cX5_countAt 4 = .ok (.iload_n 1, 1) := by decide +kernel
theorem dX5_countAt_5 : decode cX5_countAt 5 = .ok (.aload_n 0, 1) := by decide +kernel
theorem dX5_countAt_6 : decode cX5_countAt 6 = .ok (.arraylength, 1) := by decide +kernel
theorem dX5_countAt_7 : decode cX5_countAt 7 = .ok (.if_icmp .ge 9, 3) := by decide +kernel
theorem dX5_countAt_10 : decode cX5_countAt 10 = .ok (.aload_n 0, 1) := by decide +kernel
theorem dX5_countAt_11 : decode cX5_countAt 11 = .ok (.iload_n 1, 1) := by decide +kernel
theorem dX5_countAt_12 : decode cX5_countAt 12 = .ok (.iaload, 1) := by decide +kernel
theorem dX5_countAt_13 : decode cX5_countAt 13 = .ok (.goto 4, 3) := by decide +kernel
theorem dX5_countAt_16 : decode cX5_countAt 16 = .ok (.iconst 0, 1) := by decide +kernel
theorem dX5_countAt_17 : decode cX5_countAt 17 = .ok (.ireturn, 1) := by decide +kernel
theorem dX5_countUp_0 : decode cX5_countUp 0 = .ok (.iload_n 1, 1) := by decide +kernel
theorem dX5_countUp_1 : decode cX5_countUp 1 = .ok (.ifCond .lt 16, 3) := by decide +kernel
theorem dX5_countUp_4 : decode cX5_countUp 4 = .ok (.iload_n 1, 1) := by decide +kernel
theorem dX5_countUp_5 : decode cX5_countUp 5 = .ok (.aload_n 0, 1) := by decide +kernel
theorem dX5_countUp_6 : decode cX5_countUp 6 = .ok (.arraylength, 1) := by decide +kernel
theorem dX5_countUp_7 : decode cX5_countUp 7 = .ok (.if_icmp .ge 10, 3) := by decide +kernel
theorem dX5_countUp_10 : decode cX5_countUp 10 = .ok (.aload_n 0, 1) := by decide +kernel
theorem dX5_countUp_11 : decode cX5_countUp 11 = .ok (.iload_n 1, 1) := by decide +kernel
theorem dX5_countUp_12 : decode cX5_countUp 12 = .ok (.dup2, 1) := by decide +kernel
theorem dX5_countUp_13 : decode cX5_countUp 13 = .ok (.iaload, 1) := by decide +kernel
theorem dX5_countUp_14 : decode cX5_countUp 14 = .ok (.iconst 1, 1) := by decide +kernel
theorem dX5_countUp_15 : decode cX5_countUp 15 = .ok (.iadd, 1) := by decide +kernel
theorem dX5_countUp_16 : decode cX5_countUp 16 = .ok (.iastore, 1) := by decide +kernel
theorem dX5_countUp_17 : decode cX5_countUp 17 = .ok (.return_, 1) := by decide +kernel
theorem dX5_divides_0 : decode cX5_divides 0 = .ok (.iload_n 0, 1) := by decide +kernel
theorem dX5_divides_1 : decode cX5_divides 1 = .ok (.ifCond .le 13, 3) := by decide +kernel
theorem dX5_divides_4 : decode cX5_divides 4 = .ok (.iload_n 1, 1) := by decide +kernel
theorem dX5_divides_5 : decode cX5_divides 5 = .ok (.iload_n 0, 1) := by decide +kernel
theorem dX5_divides_6 : decode cX5_divides 6 = .ok (.irem, 1) := by decide +kernel
theorem dX5_divides_7 : decode cX5_divides 7 = .ok (.ifCond .ne 7, 3) := by decide +kernel
theorem dX5_divides_10 : decode cX5_divides 10 = .ok (.iconst 1, 1) := by decide +kernel
theorem dX5_divides_11 : decode cX5_divides 11 = .ok (.goto 4, 3) := by decide +kernel
theorem dX5_divides_14 : decode cX5_divides 14 = .ok (.iconst 0, 1) := by decide +kernel
theorem dX5_divides_15 : decode cX5_divides 15 = .ok (.ireturn, 1) := by decide +kernel
theorem dX5_timesInRow_0 : decode cX5_timesInRow 0 = .ok (.iload_n 0, 1) := by decide +kernel
theorem dX5_timesInRow_1 : decode cX5_timesInRow 1 = .ok (.ifCond .le 10, 3) := by decide +kernel
theorem dX5_timesInRow_4 : decode cX5_timesInRow 4 = .ok (.bipush 48, 2) := by decide +kernel
theorem dX5_timesInRow_6 : decode cX5_timesInRow 6 = .ok (.iload_n 0, 1) := by decide +kernel
theorem dX5_timesInRow_7 : decode cX5_timesInRow 7 = .ok (.idiv, 1) := by decide +kernel
theorem dX5_timesInRow_8 : decode cX5_timesInRow 8 = .ok (.goto 4, 3) := by decide +kernel
theorem dX5_timesInRow_11 : decode cX5_timesInRow 11 = .ok (.iconst 0, 1) := by decide +kernel
theorem dX5_timesInRow_12 : decode cX5_timesInRow 12 = .ok (.ireturn, 1) := by decide +kernel
set_option maxRecDepth 20000 in
theorem ggX5_multiplesOf_X5_timesInRow : GoodIn wsX5_multiplesOf wsX5_timesInRow := goodIn_r _ [4] (by decide +kernel) (by decide +kernel)
set_option maxRecDepth 20000 in
theorem gX5_multiplesOf_X5_timesInRow : GoodIn wsX5_multiplesOf (va_wsS RX5 236 yX5_timesInRow wsX5_timesInRow) := goodIn_app (goodIn_of _ (by decide +kernel)) ggX5_multiplesOf_X5_timesInRow
set_option maxRecDepth 20000 in
theorem ggX5_multiplesOf_X5_bit : GoodIn wsX5_multiplesOf wsX5_bit := goodIn_r _ [7] (by decide +kernel) (by decide +kernel)
set_option maxRecDepth 20000 in
theorem gX5_multiplesOf_X5_bit : GoodIn wsX5_multiplesOf (va_wsS RX5 106 yX5_bit wsX5_bit) := goodIn_app (goodIn_of _ (by decide +kernel)) ggX5_multiplesOf_X5_bit
theorem dX5_multiplesOf_0 : decode cX5_multiplesOf 0 = .ok (.lconst 0, 1) := by decide +kernel
theorem dX5_multiplesOf_1 : decode cX5_multiplesOf 1 = .ok (.lstore_n 1, 1) := by decide +kernel
theorem dX5_multiplesOf_2 : decode cX5_multiplesOf 2 = .ok (.iload_n 0, 1) := by decide +kernel
theorem dX5_multiplesOf_3 : decode cX5_multiplesOf 3 = .ok (.invokestatic 236, 3) := by decide +kernel
theorem dX5_multiplesOf_6 : decode cX5_multiplesOf 6 = .ok (.istore_n 3, 1) := by decide +kernel
theorem dX5_multiplesOf_7 : decode cX5_multiplesOf 7 = .ok (.iconst 1, 1) := by decide +kernel
theorem dX5_multiplesOf_8 : decode cX5_multiplesOf 8 = .ok (.istore 4, 2) := by decide +kernel
theorem dX5_multiplesOf_10 : decode cX5_multiplesOf 10 = .ok (.iload 4, 2) := by decide +kernel
theorem dX5_multiplesOf_12 : decode cX5_multiplesOf 12 = .ok (.iload_n 3, 1) := by decide +kernel
theorem dX5_multiplesOf_13 : decode cX5_multiplesOf 13 = .ok (.if_icmp .gt 19, 3) := by decide +kernel
theorem dX5_multiplesOf_16 : decode cX5_multiplesOf 16 = .ok (.lload_n 1, 1) := by decide +kernel
theorem dX5_multiplesOf_17 : decode cX5_multiplesOf 17 = .ok (.iload 4, 2) := by decide +kernel
theorem dX5_multiplesOf_19 : decode cX5_multiplesOf 19 = .ok (.iload_n 0, 1) := by decide +kernel
theorem dX5_multiplesOf_20 : decode cX5_multiplesOf 20 = .ok (.imul, 1) := by decide +kernel
theorem dX5_multiplesOf_21 : decode cX5_multiplesOf 21 = .ok (.invokestatic 106, 3) := by decide +kernel
theorem dX5_multiplesOf_24 : decode cX5_multiplesOf 24 = .ok (.lor, 1) := by decide +kernel
theorem dX5_multiplesOf_25 : decode cX5_multiplesOf 25 = .ok (.lstore_n 1, 1) := by decide +kernel
theorem dX5_multiplesOf_26 : decode cX5_multiplesOf 26 = .ok (.iinc 4 1, 3) := by decide +kernel
theorem dX5_multiplesOf_29 : decode cX5_multiplesOf 29 = .ok (.goto (-19), 3) := by decide +kernel
theorem dX5_multiplesOf_32 : decode cX5_multiplesOf 32 = .ok (.lload_n 1, 1) := by decide +kernel
theorem dX5_multiplesOf_33 : decode cX5_multiplesOf 33 = .ok (.lreturn, 1) := by decide +kernel
set_option maxRecDepth 20000 in
theorem ggX5_isClosingByDivisors_X5_contains : GoodIn wsX5_isClosingByDivisors wsX5_contains := goodIn_r _ [5] (by decide +kernel) (by decide +kernel)
set_option maxRecDepth 20000 in
theorem gX5_isClosingByDivisors_X5_contains : GoodIn wsX5_isClosingByDivisors (va_wsS RX5 88 yX5_contains wsX5_contains) := goodIn_app (goodIn_of _ (by decide +kernel)) ggX5_isClosingByDivisors_X5_contains
set_option maxRecDepth 20000 in
theorem ggX5_isClosingByDivisors_X5_divides : GoodIn wsX5_isClosingByDivisors wsX5_divides := goodIn_r _ [8] (by decide +kernel) (by decide +kernel)
set_option maxRecDepth 20000 in
theorem gX5_isClosingByDivisors_X5_divides : GoodIn wsX5_isClosingByDivisors (va_wsS RX5 154 yX5_divides wsX5_divides) := goodIn_app (goodIn_of _ (by decide +kernel)) ggX5_isClosingByDivisors_X5_divides
set_option maxRecDepth 20000 in
theorem ggX5_isClosingByDivisors_X5_isSquareFree : GoodIn wsX5_isClosingByDivisors wsX5_isSquareFree := goodIn_r _ [11, 6, 7, 4, 8] (by decide +kernel) (by decide +kernel)
set_option maxRecDepth 20000 in
theorem gX5_isClosingByDivisors_X5_isSquareFree : GoodIn wsX5_isClosingByDivisors (va_wsS RX5 239 yX5_isSquareFree wsX5_isSquareFree) := goodIn_app (goodIn_of _ (by decide +kernel)) ggX5_isClosingByDivisors_X5_isSquareFree
theorem dX5_isClosingByDivisors_0 : decode cX5_isClosingByDivisors 0 = .ok (.iconst 0, 1) := by decide +kernel
theorem dX5_isClosingByDivisors_1 : decode cX5_isClosingByDivisors 1 = .ok (.istore_n 2, 1) := by decide +kernel
theorem dX5_isClosingByDivisors_2 : decode cX5_isClosingByDivisors 2 = .ok (.iconst 1, 1) := by decide +kernel
theorem dX5_isClosingByDivisors_3 : decode cX5_isClosingByDivisors 3 = .ok (.istore_n 3, 1) := by decide +kernel
theorem dX5_isClosingByDivisors_4 : decode cX5_isClosingByDivisors 4 = .ok (.iload_n 3, 1) := by decide +kernel
theorem dX5_isClosingByDivisors_5 : decode cX5_isClosingByDivisors 5 = .ok (.bipush 48, 2) := by decide +kernel
theorem dX5_isClosingByDivisors_7 : decode cX5_isClosingByDivisors 7 = .ok (.if_icmp .gt 50, 3) := by decide +kernel
theorem dX5_isClosingByDivisors_10 : decode cX5_isClosingByDivisors 10 = .ok (.aload_n 0, 1) := by decide +kernel
theorem dX5_isClosingByDivisors_11 : decode cX5_isClosingByDivisors 11 = .ok (.getfield 10, 3) := by decide +kernel
theorem dX5_isClosingByDivisors_14 : decode cX5_isClosingByDivisors 14 = .ok (.getfield 63, 3) := by decide +kernel
theorem dX5_isClosingByDivisors_17 : decode cX5_isClosingByDivisors 17 = .ok (.iload_n 3, 1) := by decide +kernel
theorem dX5_isClosingByDivisors_18 : decode cX5_isClosingByDivisors 18 = .ok (.invokestatic 88, 3) := by decide +kernel
theorem dX5_isClosingByDivisors_21 : decode cX5_isClosingByDivisors 21 = .ok (.ifCond .eq 30, 3) := by decide +kernel
theorem dX5_isClosingByDivisors_24 : decode cX5_isClosingByDivisors 24 = .ok (.iload_n 3, 1) := by decide +kernel
theorem dX5_isClosingByDivisors_25 : decode cX5_isClosingByDivisors 25 = .ok (.iload_n 1, 1) := by decide +kernel
theorem dX5_isClosingByDivisors_26 : decode cX5_isClosingByDivisors 26 = .ok (.invokestatic 154, 3) := by decide +kernel
theorem dX5_isClosingByDivisors_29 : decode cX5_isClosingByDivisors 29 = .ok (.ifCond .eq 22, 3) := by decide +kernel
theorem dX5_isClosingByDivisors_32 : decode cX5_isClosingByDivisors 32 = .ok (.iload_n 1, 1) := by decide +kernel
theorem dX5_isClosingByDivisors_33 : decode cX5_isClosingByDivisors 33 = .ok (.iload_n 3, 1) := by decide +kernel
theorem dX5_isClosingByDivisors_34 : decode cX5_isClosingByDivisors 34 = .ok (.idiv, 1) := by decide +kernel
theorem dX5_isClosingByDivisors_35 : decode cX5_isClosingByDivisors 35 = .ok (.invokestatic 239, 3) := by decide +kernel
theorem dX5_isClosingByDivisors_38 : decode cX5_isClosingByDivisors 38 = .ok (.ifCond .eq 13, 3) := by decide +kernel
theorem dX5_isClosingByDivisors_41 : decode cX5_isClosingByDivisors 41 = .ok (.iload_n 2, 1) := by decide +kernel
theorem dX5_isClosingByDivisors_42 : decode cX5_isClosingByDivisors 42 = .ok (.ifCond .ne 7, 3) := by decide +kernel
theorem dX5_isClosingByDivisors_45 : decode cX5_isClosingByDivisors 45 = .ok (.iconst 1, 1) := by decide +kernel
theorem dX5_isClosingByDivisors_46 : decode cX5_isClosingByDivisors 46 = .ok (.goto 4, 3) := by decide +kernel
theorem dX5_isClosingByDivisors_49 : decode cX5_isClosingByDivisors 49 = .ok (.iconst 0, 1) := by decide +kernel
theorem dX5_isClosingByDivisors_50 : decode cX5_isClosingByDivisors 50 = .ok (.istore_n 2, 1) := by decide +kernel
theorem dX5_isClosingByDivisors_51 : decode cX5_isClosingByDivisors 51 = .ok (.iinc 3 1, 3) := by decide +kernel
theorem dX5_isClosingByDivisors_54 : decode cX5_isClosingByDivisors 54 = .ok (.goto (-50), 3) := by decide +kernel
theorem dX5_isClosingByDivisors_57 : decode cX5_isClosingByDivisors 57 = .ok (.iload_n 2, 1) := by decide +kernel
theorem dX5_isClosingByDivisors_58 : decode cX5_isClosingByDivisors 58 = .ok (.ireturn, 1) := by decide +kernel
set_option maxRecDepth 20000 in
theorem ggX5_isSquareFree_X5_divides : GoodIn wsX5_isSquareFree wsX5_divides := goodIn_r _ [4] (by decide +kernel) (by decide +kernel)
set_option maxRecDepth 20000 in
theorem gX5_isSquareFree_X5_divides : GoodIn wsX5_isSquareFree (va_wsS RX5 154 yX5_divides wsX5_divides) := goodIn_app (goodIn_of _ (by decide +kernel)) ggX5_isSquareFree_X5_divides
theorem dX5_isSquareFree_0 : decode cX5_isSquareFree 0 = .ok (.iconst 2, 1) := by decide +kernel
theorem dX5_isSquareFree_1 : decode cX5_isSquareFree 1 = .ok (.istore_n 1, 1) := by decide +kernel
theorem dX5_isSquareFree_2 : decode cX5_isSquareFree 2 = .ok (.iload_n 1, 1) := by decide +kernel
theorem dX5_isSquareFree_3 : decode cX5_isSquareFree 3 = .ok (.bipush 6, 2) := by decide +kernel
theorem dX5_isSquareFree_5 : decode cX5_isSquareFree 5 = .ok (.if_icmp .gt 21, 3) := by decide +kernel
theorem dX5_isSquareFree_8 : decode cX5_isSquareFree 8 = .ok (.iload_n 1, 1) := by decide +kernel
theorem dX5_isSquareFree_9 : decode cX5_isSquareFree 9 = .ok (.iload_n 1, 1) := by decide +kernel
theorem dX5_isSquareFree_10 : decode cX5_isSquareFree 10 = .ok (.imul, 1) := by decide +kernel
theorem dX5_isSquareFree_11 : decode cX5_isSquareFree 11 = .ok (.iload_n 0, 1) := by decide +kernel
theorem dX5_isSquareFree_12 : decode cX5_isSquareFree 12 = .ok (.invokestatic 154, 3) := by decide +kernel
theorem dX5_isSquareFree_15 : decode cX5_isSquareFree 15 = .ok (.ifCond .eq 5, 3) := by decide +kernel
theorem dX5_isSquareFree_18 : decode cX5_isSquareFree 18 = .ok (.iconst 0, 1) := by decide +kernel
theorem dX5_isSquareFree_19 : decode cX5_isSquareFree 19 = .ok (.ireturn, 1) := by decide +kernel
theorem dX5_isSquareFree_20 : decode cX5_isSquareFree 20 = .ok (.iinc 1 1, 3) := by decide +kernel
theorem dX5_isSquareFree_23 : decode cX5_isSquareFree 23 = .ok (.goto (-21), 3) := by decide +kernel
theorem dX5_isSquareFree_26 : decode cX5_isSquareFree 26 = .ok (.iconst 1, 1) := by decide +kernel
theorem dX5_isSquareFree_27 : decode cX5_isSquareFree 27 = .ok (.ireturn, 1) := by decide +kernel
set_option maxRecDepth 20000 in
theorem ggX5_bitsOf_X5_bit : GoodIn wsX5_bitsOf wsX5_bit := goodIn_r _ [5] (by decide +kernel) (by decide +kernel)
set_option maxRecDepth 20000 in
theorem gX5_bitsOf_X5_bit : GoodIn wsX5_bitsOf (va_wsS RX5 106 yX5_bit wsX5_bit) := goodIn_app (goodIn_of _ (by decide +kernel)) ggX5_bitsOf_X5_bit
theorem dX5_bitsOf_0 : decode cX5_bitsOf 0 = .ok (.dload_n 0, 1) := by decide +kernel
theorem dX5_bitsOf_1 : decode cX5_bitsOf 1 = .ok (.dconst 0, 1) := by decide +kernel
theorem dX5_bitsOf_2 : decode cX5_bitsOf 2 = .ok (.dcmp .l, 1) := by decide +kernel
theorem dX5_bitsOf_3 : decode cX5_bitsOf 3 = .ok (.ifCond .gt 5, 3) := by decide +kernel
theorem dX5_bitsOf_6 : decode cX5_bitsOf 6 = .ok (.lconst 0, 1) := by decide +kernel
theorem dX5_bitsOf_7 : decode cX5_bitsOf 7 = .ok (.lreturn, 1) := by decide +kernel
theorem dX5_bitsOf_8 : decode cX5_bitsOf 8 = .ok (.dload_n 0, 1) := by decide +kernel
theorem dX5_bitsOf_9 : decode cX5_bitsOf 9 = .ok (.dstore 4, 2) := by decide +kernel
theorem dX5_bitsOf_11 : decode cX5_bitsOf 11 = .ok (.iconst 0, 1) := by decide +kernel
theorem dX5_bitsOf_12 : decode cX5_bitsOf 12 = .ok (.istore 6, 2) := by decide +kernel
theorem dX5_bitsOf_14 : decode cX5_bitsOf 14 = .ok (.iconst 0, 1) := by decide +kernel
theorem dX5_bitsOf_15 : decode cX5_bitsOf 15 = .ok (.istore 7, 2) := by decide +kernel
theorem dX5_bitsOf_17 : decode cX5_bitsOf 17 = .ok (.iload 7, 2) := by decide +kernel
theorem dX5_bitsOf_19 : decode cX5_bitsOf 19 = .ok (.bipush 100, 2) := by decide +kernel
theorem dX5_bitsOf_21 : decode cX5_bitsOf 21 = .ok (.if_icmp .ge 27, 3) := by decide +kernel
theorem dX5_bitsOf_24 : decode cX5_bitsOf 24 = .ok (.dload 4, 2) := by decide +kernel
theorem dX5_bitsOf_26 : decode cX5_bitsOf 26 = .ok (.dconst 1, 1) := by decide +kernel
theorem dX5_bitsOf_27 : decode cX5_bitsOf 27 = .ok (.dcmp .g, 1) := by decide +kernel
theorem dX5_bitsOf_28 : decode cX5_bitsOf 28 = .ok (.ifCond .ge 20, 3) := by decide +kernel
theorem dX5_bitsOf_31 : decode cX5_bitsOf 31 = .ok (.dload 4, 2) := by decide +kernel
theorem dX5_bitsOf_33 : decode cX5_bitsOf 33 = .ok (.ldc2_w 242, 3) := by decide +kernel
theorem dX5_bitsOf_36 : decode cX5_bitsOf 36 = .ok (.dmul, 1) := by decide +kernel
theorem dX5_bitsOf_37 : decode cX5_bitsOf 37 = .ok (.dstore 4, 2) := by decide +kernel
theorem dX5_bitsOf_39 : decode cX5_bitsOf 39 = .ok (.iinc 6 (-1), 3) := by decide +kernel
theorem dX5_bitsOf_42 : decode cX5_bitsOf 42 = .ok (.iinc 7 1, 3) := by decide +kernel
theorem dX5_bitsOf_45 : decode cX5_bitsOf 45 = .ok (.goto (-28), 3) := by decide +kernel
theorem dX5_bitsOf_48 : decode cX5_bitsOf 48 = .ok (.iconst 0, 1) := by decide +kernel
theorem dX5_bitsOf_49 : decode cX5_bitsOf 49 = .ok (.istore 7, 2) := by decide +kernel
theorem dX5_bitsOf_51 : decode cX5_bitsOf 51 = .ok (.iload 7, 2) := by decide +kernel
theorem dX5_bitsOf_53 : decode cX5_bitsOf 53 = .ok (.bipush 100, 2) := by decide +kernel
theorem dX5_bitsOf_55 : decode cX5_bitsOf 55 = .ok (.if_icmp .ge 29, 3) := by decide +kernel
theorem dX5_bitsOf_58 : decode cX5_bitsOf 58 = .ok (.dload 4, 2) := by decide +kernel
theorem dX5_bitsOf_60 : decode cX5_bitsOf 60 = .ok (.ldc2_w 242, 3) := by decide +kernel
theorem dX5_bitsOf_63 : decode cX5_bitsOf 63 = .ok (.dcmp .l, 1) := by decide +kernel
theorem dX5_bitsOf_64 : decode cX5_bitsOf 64 = .ok (.ifCond .lt 20, 3) := by decide +kernel
theorem dX5_bitsOf_67 : decode cX5_bitsOf 67 = .ok (.dload 4, 2) := by decide +kernel
theorem dX5_bitsOf_69 : decode cX5_bitsOf 69 = .ok (.ldc2_w 242, 3) := by decide +kernel
theorem dX5_bitsOf_72 : decode cX5_bitsOf 72 = .ok (.ddiv, 1) := by decide +kernel
theorem dX5_bitsOf_73 : decode cX5_bitsOf 73 = .ok (.dstore 4, 2) := by decide +kernel
theorem dX5_bitsOf_75 : decode cX5_bitsOf 75 = .ok (.iinc 6 1, 3) := by decide +kernel
theorem dX5_bitsOf_78 : decode cX5_bitsOf 78 = .ok (.iinc 7 1, 3) := by decide +kernel
theorem dX5_bitsOf_81 : decode cX5_bitsOf 81 = .ok (.goto (-30), 3) := by decide +kernel
theorem dX5_bitsOf_84 : decode cX5_bitsOf 84 = .ok (.dload 4, 2) := by decide +kernel
theorem dX5_bitsOf_86 : decode cX5_bitsOf 86 = .ok (.dconst 1, 1) := by decide +kernel
theorem dX5_bitsOf_87 : decode cX5_bitsOf 87 = .ok (.dsub, 1) := by decide +kernel
theorem dX5_bitsOf_88 : decode cX5_bitsOf 88 = .ok (.iload_n 2, 1) := by decide +kernel
theorem dX5_bitsOf_89 : decode cX5_bitsOf 89 = .ok (.invokestatic 106, 3) := by decide +kernel
theorem dX5_bitsOf_92 : decode cX5_bitsOf 92 = .ok (.l2d, 1) := by decide +kernel
theorem dX5_bitsOf_93 : decode cX5_bitsOf 93 = .ok (.dmul, 1) := by decide +kernel
theorem dX5_bitsOf_94 : decode cX5_bitsOf 94 = .ok (.d2l, 1) := by decide +kernel
theorem dX5_bitsOf_95 : decode cX5_bitsOf 95 = .ok (.lstore 7, 2) := by decide +kernel
theorem dX5_bitsOf_97 : decode cX5_bitsOf 97 = .ok (.iload 6, 2) := by decide +kernel
theorem dX5_bitsOf_99 : decode cX5_bitsOf 99 = .ok (.iload_n 3, 1) := by decide +kernel
theorem dX5_bitsOf_100 : decode cX5_bitsOf 100 = .ok (.iadd, 1) := by decide +kernel
theorem dX5_bitsOf_101 : decode cX5_bitsOf 101 = .ok (.i2l, 1) := by decide +kernel
theorem dX5_bitsOf_102 : decode cX5_bitsOf 102 = .ok (.iload_n 2, 1) := by decide +kernel
theorem dX5_bitsOf_103 : decode cX5_bitsOf 103 = .ok (.lshl, 1) := by decide +kernel
theorem dX5_bitsOf_104 : decode cX5_bitsOf 104 = .ok (.lload 7, 2) := by decide +kernel
theorem dX5_bitsOf_106 : decode cX5_bitsOf 106 = .ok (.lor, 1) := by decide +kernel
theorem dX5_bitsOf_107 : decode cX5_bitsOf 107 = .ok (.lreturn, 1) := by decide +kernel
theorem dX6_init_0 : decode cX6_init 0 = .ok (.aload_n 0, 1) := by decide +kernel
theorem dX6_init_1 : decode cX6_init 1 = .ok (.invokespecial 1, 3) := by decide +kernel
theorem dX6_init_4 : decode cX6_init 4 = .ok (.aload_n 0, 1) := by decide +kernel
theorem dX6_init_5 : decode cX6_init 5 = .ok (.sipush 288, 3) := by decide +kernel
theorem dX6_init_8 : decode cX6_init 8 = .ok (.newarray .int, 2) := by decide +kernel
theorem dX6_init_10 : decode cX6_init 10 = .ok (.putfield 7, 3) := by decide +kernel
theorem dX6_init_13 : decode cX6_init 13 = .ok (.aload_n 0, 1) := by decide +kernel
theorem dX6_init_14 : decode cX6_init 14 = .ok (.sipush 288, 3) := by decide +kernel
theorem dX6_init_17 : decode cX6_init 17 = .ok (.newarray .int, 2) := by decide +kernel
theorem dX6_init_19 : decode cX6_init 19 = .ok (.putfield 13, 3) := by decide +kernel
theorem dX6_init_22 : decode cX6_init 22 = .ok (.aload_n 0, 1) := by decide +kernel
theorem dX6_init_23 : decode cX6_init 23 = .ok (.sipush 288, 3) := by decide +kernel
theorem dX6_init_26 : decode cX6_init 26 = .ok (.newarray .int, 2) := by decide +kernel
theorem dX6_init_28 : decode cX6_init 28 = .ok (.putfield 16, 3) := by decide +kernel
theorem dX6_init_31 : decode cX6_init 31 = .ok (.aload_n 0, 1) := by decide +kernel
theorem dX6_init_32 : decode cX6_init 32 = .ok (.sipush 288, 3) := by decide +kernel
theorem dX6_init_35 : decode cX6_init 35 = .ok (.newarray .int, 2) := by decide +kernel
theorem dX6_init_37 : decode cX6_init 37 = .ok (.putfield 19, 3) := by decide +kernel
theorem dX6_init_40 : decode cX6_init 40 = .ok (.aload_n 0, 1) := by decide +kernel
theorem dX6_init_41 : decode cX6_init 41 = .ok (.sipush 1152, 3) := by decide +kernel
theorem dX6_init_44 : decode cX6_init 44 = .ok (.newarray .int, 2) := by decide +kernel
theorem dX6_init_46 : decode cX6_init 46 = .ok (.putfield 22, 3) := by decide +kernel
theorem dX6_init_49 : decode cX6_init 49 = .ok (.aload_n 0, 1) := by decide +kernel
theorem dX6_init_50 : decode cX6_init 50 = .ok (.bipush 60, 2) := by decide +kernel
theorem dX6_init_52 : decode cX6_init 52 = .ok (.newarray .int, 2) := by decide +kernel
theorem dX6_init_54 : decode cX6_init 54 = .ok (.putfield 25, 3) := by decide +kernel
theorem dX6_init_57 : decode cX6_init 57 = .ok (.return_, 1) := by decide +kernel
theorem dX6_thrown_0 : decode cX6_thrown 0 = .ok (.aload_n 0, 1) := by decide +kernel
theorem dX6_thrown_1 : decode cX6_thrown 1 = .ok (.getfield 28, 3) := by decide +kernel
theorem dX6_thrown_4 : decode cX6_thrown 4 = .ok (.ireturn, 1) := by decide +kernel
theorem dX6_fails_0 : decode cX6_fails 0 = .ok (.aload_n 0, 1) := by decide +kernel
theorem dX6_fails_1 : decode cX6_fails 1 = .ok (.iload_n 1, 1) := by decide +kernel
theorem dX6_fails_2 : decode cX6_fails 2 = .ok (.putfield 28, 3) := by decide +kernel
theorem dX6_fails_5 : decode cX6_fails 5 = .ok (.iconst 0, 1) := by decide +kernel
theorem dX6_fails_6 : decode cX6_fails 6 = .ok (.ireturn, 1) := by decide +kernel
theorem dX6_in_0 : decode cX6_in 0 = .ok (.iload_n 0, 1) := by decide +kernel
theorem dX6_in_1 : decode cX6_in 1 = .ok (.iload_n 1, 1) := by decide +kernel
theorem dX6_in_2 : decode cX6_in 2 = .ok (.if_icmp .lt 12, 3) := by decide +kernel
theorem dX6_in_5 : decode cX6_in 5 = .ok (.iload_n 0, 1) := by decide +kernel
theorem dX6_in_6 : decode cX6_in 6 = .ok (.iload_n 2, 1) := by decide +kernel
theorem dX6_in_7 : decode cX6_in 7 = .ok (.if_icmp .gt 7, 3) := by decide +kernel
theorem dX6_in_10 : decode cX6_in 10 = .ok (.iconst 1, 1) := by decide +kernel
theorem dX6_in_11 : decode cX6_in 11 = .ok (.goto 4, 3) := by decide +kernel
theorem dX6_in_14 : decode cX6_in 14 = .ok (.iconst 0, 1) := by decide +kernel
theorem dX6_in_15 : decode cX6_in 15 = .ok (.ireturn, 1) := by decide +kernel
theorem dX6_copies_0 : decode cX6_copies 0 = .ok (.iconst 0, 1) := by decide +kernel
theorem dX6_copies_1 : decode cX6_copies 1 = .ok (.istore 4, 2) := by decide +kernel
theorem dX6_copies_3 : decode cX6_copies 3 = .ok (.iload 4, 2) := by decide +kernel
theorem dX6_copies_5 : decode cX6_copies 5 = .ok (.sipush 288, 3) := by decide +kernel
theorem dX6_copies_8 : decode cX6_copies 8 = .ok (.if_icmp .ge 21, 3) := by decide +kernel
theorem dX6_copies_11 : decode cX6_copies 11 = .ok (.aload_n 2, 1) := by decide +kernel
theorem dX6_copies_12 : decode cX6_copies 12 = .ok (.iload_n 3, 1) := by decide +kernel
theorem dX6_copies_13 : decode cX6_copies 13 = .ok (.iload 4, 2) := by decide +kernel
theorem dX6_copies_15 : decode cX6_copies 15 = .ok (.iadd, 1) := by decide +kernel
theorem dX6_copies_16 : decode cX6_copies 16 = .ok (.aload_n 0, 1) := by decide +kernel
theorem dX6_copies_17 : decode cX6_copies 17 = .ok (.iload_n 1, 1) := by decide +kernel
theorem dX6_copies_18 : decode cX6_copies 18 = .ok (.iload 4, 2) := by decide +kernel
theorem dX6_copies_20 : decode cX6_copies 20 = .ok (.iadd, 1) := by decide +kernel
theorem dX6_copies_21 : decode cX6_copies 21 = .ok (.iaload, 1) := by decide +kernel
theorem dX6_copies_22 : decode cX6_copies 22 = .ok (.iastore, 1) := by decide +kernel
theorem dX6_copies_23 : decode cX6_copies 23 = .ok (.iinc 4 1, 3) := by decide +kernel
theorem dX6_copies_26 : decode cX6_copies 26 = .ok (.goto (-23), 3) := by decide +kernel
theorem dX6_copies_29 : decode cX6_copies 29 = .ok (.return_, 1) := by decide +kernel
set_option maxRecDepth 20000 in
theorem ggX6_begins_X6_copies : GoodIn wsX6_begins wsX6_copies := goodIn_r _ [7] (by decide +kernel) (by decide +kernel)
set_option maxRecDepth 20000 in
theorem gX6_begins_X6_copies : GoodIn wsX6_begins (va_wsS RX6 32 yX6_copies wsX6_copies) := goodIn_app (goodIn_of _ (by decide +kernel)) ggX6_begins_X6_copies
theorem dX6_begins_0 : decode cX6_begins 0 = .ok (.aload_n 0, 1) := by decide +kernel
theorem dX6_begins_1 : decode cX6_begins 1 = .ok (.iconst 0, 1) := by decide +kernel
theorem dX6_begins_2 : decode cX6_begins 2 = .ok (.putfield 28, 3) := by decide +kernel
theorem dX6_begins_5 : decode cX6_begins 5 = .ok (.aload_n 0, 1) := by decide +kernel
theorem dX6_begins_6 : decode cX6_begins 6 = .ok (.getfield 7, 3) := by decide +kernel
theorem dX6_begins_9 : decode cX6_begins 9 = .ok (.iconst 0, 1) := by decide +kernel
theorem dX6_begins_10 : decode cX6_begins 10 = .ok (.aload_n 0, 1) := by decide +kernel
theorem dX6_begins_11 : decode cX6_begins 11 = .ok (.getfield 13, 3) := by decide +kernel
theorem dX6_begins_14 : decode cX6_begins 14 = .ok (.iconst 0, 1) := by decide +kernel
theorem dX6_begins_15 : decode cX6_begins 15 = .ok (.invokestatic 32, 3) := by decide +kernel
theorem dX6_begins_18 : decode cX6_begins 18 = .ok (.return_, 1) := by decide +kernel
set_option maxRecDepth 20000 in
theorem ggX6_records_X6_copies : GoodIn wsX6_records wsX6_copies := goodIn_r _ [7] (by decide +kernel) (by decide +kernel)
set_option maxRecDepth 20000 in
theorem gX6_records_X6_copies : GoodIn wsX6_records (va_wsS RX6 32 yX6_copies wsX6_copies) := goodIn_app (goodIn_of _ (by decide +kernel)) ggX6_records_X6_copies
theorem dX6_records_0 : decode cX6_records 0 = .ok (.aload_n 0, 1) := by decide +kernel
theorem dX6_records_1 : decode cX6_records 1 = .ok (.getfield 36, 3) := by decide +kernel
theorem dX6_records_4 : decode cX6_records 4 = .ok (.iconst 4, 1) := by decide +kernel
theorem dX6_records_5 : decode cX6_records 5 = .ok (.if_icmp .ne 44, 3) := by decide +kernel
theorem dX6_records_8 : decode cX6_records 8 = .ok (.iconst 0, 1) := by decide +kernel
theorem dX6_records_9 : decode cX6_records 9 = .ok (.istore_n 1, 1) := by decide +kernel
theorem dX6_records_10 : decode cX6_records 10 = .ok (.iload_n 1, 1) := by decide +kernel
theorem dX6_records_11 : decode cX6_records 11 = .ok (.sipush 864, 3) := by decide +kernel
theorem dX6_records_14 : decode cX6_records 14 = .ok (.if_icmp .ge 25, 3) := by decide +kernel
theorem dX6_records_17 : decode cX6_records 17 = .ok (.aload_n 0, 1) := by decide +kernel
theorem dX6_records_18 : decode cX6_records 18 = .ok (.getfield 22, 3) := by decide +kernel
theorem dX6_records_21 : decode cX6_records 21 = .ok (.iload_n 1, 1) := by decide +kernel
theorem dX6_records_22 : decode cX6_records 22 = .ok (.aload_n 0, 1) := by decide +kernel
theorem dX6_records_23 : decode cX6_records 23 = .ok (.getfield 22, 3) := by decide +kernel
theorem dX6_records_26 : decode cX6_records 26 = .ok (.iload_n 1, 1) := by decide +kernel
theorem dX6_records_27 : decode cX6_records 27 = .ok (.sipush 288, 3) := by decide +kernel
theorem dX6_records_30 : decode cX6_records 30 = .ok (.iadd, 1) := by decide +kernel
theorem dX6_records_31 : decode cX6_records 31 = .ok (.iaload, 1) := by decide +kernel
theorem dX6_records_32 : decode cX6_records 32 = .ok (.iastore, 1) := by decide +kernel
theorem dX6_records_33 : decode cX6_records 33 = .ok (.iinc 1 1, 3) := by decide +kernel
theorem dX6_records_36 : decode cX6_records 36 = .ok (.goto (-26), 3) := by decide +kernel
theorem dX6_records_39 : decode cX6_records 39 = .ok (.aload_n 0, 1) := by decide +kernel
theorem dX6_records_40 : decode cX6_records 40 = .ok (.dup, 1) := by decide +kernel
theorem dX6_records_41 : decode cX6_records 41 = .ok (.getfield 36, 3) := by decide +kernel
theorem dX6_records_44 : decode cX6_records 44 = .ok (.iconst 1, 1) := by decide +kernel
theorem dX6_records_45 : decode cX6_records 45 = .ok (.isub, 1) := by decide +kernel
theorem dX6_records_46 : decode cX6_records 46 = .ok (.putfield 36, 3) := by decide +kernel
theorem dX6_records_49 : decode cX6_records 49 = .ok (.aload_n 0, 1) := by decide +kernel
theorem dX6_records_50 : decode cX6_records 50 = .ok (.getfield 13, 3) := by decide +kernel
theorem dX6_records_53 : decode cX6_records 53 = .ok (.iconst 0, 1) := by decide +kernel
theorem dX6_records_54 : decode cX6_records 54 = .ok (.aload_n 0, 1) := by decide +kernel
theorem dX6_records_55 : decode cX6_records 55 = .ok (.getfield 22, 3) := by decide +kernel
theorem dX6_records_58 : decode cX6_records 58 = .ok (.sipush 288, 3) := by decide +kernel
theorem dX6_records_61 : decode cX6_records 61 = .ok (.aload_n 0, 1) := by decide +kernel
theorem dX6_records_62 : decode cX6_records 62 = .ok (.getfield 36, 3) := by decide +kernel
theorem dX6_records_65 : decode cX6_records 65 = .ok (.imul, 1) := by decide +kernel
theorem dX6_records_66 : decode cX6_records 66 = .ok (.invokestatic 32, 3) := by decide +kernel
theorem dX6_records_69 : decode cX6_records 69 = .ok (.aload_n 0, 1) := by decide +kernel
theorem dX6_records_70 : decode cX6_records 70 = .ok (.dup, 1) := by decide +kernel
theorem dX6_records_71 : decode cX6_records 71 = .ok (.getfield 36, 3) := by decide +kernel
theorem dX6_records_74 : decode cX6_records 74 = .ok (.iconst 1, 1) := by decide +kernel
theorem dX6_records_75 : decode cX6_records 75 = .ok (.iadd, 1) := by decide +kernel
theorem dX6_records_76 : decode cX6_records 76 = .ok (.putfield 36, 3) := by decide +kernel
theorem dX6_records_79 : decode cX6_records 79 = .ok (.return_, 1) := by decide +kernel
set_option maxRecDepth 20000 in
theorem ggX6_ends_X6_fails : GoodIn wsX6_ends wsX6_fails := goodIn_r _ [5, 6, 17, 18, 19, 20, 21, 22, 23, 24, 25, 26, 27, 28, 29, 30, 31, 32, 33, 34] (by decide +kernel) (by decide +kernel)
set_option maxRecDepth 20000 in
theorem gX6_ends_X6_fails : GoodIn wsX6_ends (wsV RX6 39 RX6 yX6_fails wsX6_fails) := goodIn_app (goodIn_of _ (by decide +kernel)) ggX6_ends_X6_fails
set_option maxRecDepth 20000 in
theorem ggX6_ends_X6_records : GoodIn wsX6_ends wsX6_records := goodIn_r _ [10, 11, 12, 13, 14, 15, 4, 16, 17, 18, 19, 20, 21, 22, 23, 24, 25, 26, 27, 28, 29, 30, 31, 32, 33, 34] (by decide +kernel) (by decide +kernel)
set_option maxRecDepth 20000 in
theorem gX6_ends_X6_records : GoodIn wsX6_ends (wsV RX6 43 RX6 yX6_records wsX6_records) := goodIn_app (goodIn_of _ (by decide +kernel)) ggX6_ends_X6_records
theorem dX6_ends_0 : decode cX6_ends 0 = .ok (.iload_n 1, 1) := by decide +kernel
theorem dX6_ends_1 : decode cX6_ends 1 = .ok (.bipush (-11), 2) := by decide +kernel
theorem dX6_ends_3 : decode cX6_ends 3 = .ok (.if_icmp .ne 9, 3) := by decide +kernel
theorem dX6_ends_6 : decode cX6_ends 6 = .ok (.aload_n 0, 1) := by decide +kernel
theorem dX6_ends_7 : decode cX6_ends 7 = .ok (.iconst 1, 1) := by decide +kernel
theorem dX6_ends_8 : decode cX6_ends 8 = .ok (.invokevirtual 39, 3) := by decide +kernel
theorem dX6_ends_11 : decode cX6_ends 11 = .ok (.ireturn, 1) := by decide +kernel
theorem dX6_ends_12 : decode cX6_ends 12 = .ok (.iload_n 1, 1) := by decide +kernel
theorem dX6_ends_13 : decode cX6_ends 13 = .ok (.bipush (-12), 2) := by decide +kernel
theorem dX6_ends_15 : decode cX6_ends 15 = .ok (.if_icmp .ne 9, 3) := by decide +kernel
theorem dX6_ends_18 : decode cX6_ends 18 = .ok (.aload_n 0, 1) := by decide +kernel
theorem dX6_ends_19 : decode cX6_ends 19 = .ok (.iconst 2, 1) := by decide +kernel
theorem dX6_ends_20 : decode cX6_ends 20 = .ok (.invokevirtual 39, 3) := by decide +kernel
theorem dX6_ends_23 : decode cX6_ends 23 = .ok (.ireturn, 1) := by decide +kernel
theorem dX6_ends_24 : decode cX6_ends 24 = .ok (.aload_n 0, 1) := by decide +kernel
theorem dX6_ends_25 : decode cX6_ends 25 = .ok (.invokevirtual 43, 3) := by decide +kernel
theorem dX6_ends_28 : decode cX6_ends 28 = .ok (.iload_n 1, 1) := by decide +kernel
theorem dX6_ends_29 : decode cX6_ends 29 = .ok (.ireturn, 1) := by decide +kernel
set_option maxRecDepth 20000 in
theorem ggX6_isDoor_X6_in : GoodIn wsX6_isDoor wsX6_in := goodIn_r _ [4] (by decide +kernel) (by decide +kernel)
set_option maxRecDepth 20000 in
theorem gX6_isDoor_X6_in : GoodIn wsX6_isDoor (va_wsS RX6 46 yX6_in wsX6_in) := goodIn_app (goodIn_of _ (by decide +kernel)) ggX6_isDoor_X6_in
theorem dX6_isDoor_0 : decode cX6_isDoor 0 = .ok (.iload_n 0, 1) := by decide +kernel
theorem dX6_isDoor_1 : decode cX6_isDoor 1 = .ok (.iconst 1, 1) := by decide +kernel
theorem dX6_isDoor_2 : decode cX6_isDoor 2 = .ok (.bipush 48, 2) := by decide +kernel
theorem dX6_isDoor_4 : decode cX6_isDoor 4 = .ok (.invokestatic 46, 3) := by decide +kernel
theorem dX6_isDoor_7 : decode cX6_isDoor 7 = .ok (.ireturn, 1) := by decide +kernel
theorem dX6_isKind_0 : decode cX6_isKind 0 = .ok (.iload_n 0, 1) := by decide +kernel
theorem dX6_isKind_1 : decode cX6_isKind 1 = .ok (.ifCond .eq 8, 3) := by decide +kernel
theorem dX6_isKind_4 : decode cX6_isKind 4 = .ok (.iload_n 0, 1) := by decide +kernel
theorem dX6_isKind_5 : decode cX6_isKind 5 = .ok (.iconst 1, 1) := by decide +kernel
theorem dX6_isKind_6 : decode cX6_isKind 6 = .ok (.if_icmp .ne 7, 3) := by decide +kernel
theorem dX6_isKind_9 : decode cX6_isKind 9 = .ok (.iconst 1, 1) := by decide +kernel
theorem dX6_isKind_10 : decode cX6_isKind 10 = .ok (.goto 4, 3) := by decide +kernel
theorem dX6_isKind_13 : decode cX6_isKind 13 = .ok (.iconst 0, 1) := by decide +kernel
theorem dX6_isKind_14 : decode cX6_isKind 14 = .ok (.ireturn, 1) := by decide +kernel
theorem dX6_of_0 : decode cX6_of 0 = .ok (.aload_n 0, 1) := by decide +kernel
theorem dX6_of_1 : decode cX6_of 1 = .ok (.getfield 7, 3) := by decide +kernel
theorem dX6_of_4 : decode cX6_of 4 = .ok (.iload_n 2, 1) := by decide +kernel
theorem dX6_of_5 : decode cX6_of 5 = .ok (.iload_n 1, 1) := by decide +kernel
theorem dX6_of_6 : decode cX6_of 6 = .ok (.iadd, 1) := by decide +kernel
theorem dX6_of_7 : decode cX6_of 7 = .ok (.iconst 1, 1) := by decide +kernel
theorem dX6_of_8 : decode cX6_of 8 = .ok (.isub, 1) := by decide +kernel
theorem dX6_of_9 : decode cX6_of 9 = .ok (.iaload, 1) := by decide +kernel
theorem dX6_of_10 : decode cX6_of 10 = .ok (.ireturn, 1) := by decide +kernel
theorem dX6_lays_0 : decode cX6_lays 0 = .ok (.aload_n 0, 1) := by decide +kernel
theorem dX6_lays_1 : decode cX6_lays 1 = .ok (.getfield 7, 3) := by decide +kernel
theorem dX6_lays_4 : decode cX6_lays 4 = .ok (.iload_n 2, 1) := by decide +kernel
theorem dX6_lays_5 : decode cX6_lays 5 = .ok (.iload_n 1, 1) := by decide +kernel
theorem dX6_lays_6 : decode cX6_lays 6 = .ok (.iadd, 1) := by decide +kernel
theorem dX6_lays_7 : decode cX6_lays 7 = .ok (.iconst 1, 1) := by decide +kernel
theorem dX6_lays_8 : decode cX6_lays 8 = .ok (.isub, 1) := by decide +kernel
theorem dX6_lays_9 : decode cX6_lays 9 = .ok (.iload_n 3, 1) := by decide +kernel
theorem dX6_lays_10 : decode cX6_lays 10 = .ok (.iastore, 1) := by decide +kernel
theorem dX6_lays_11 : decode cX6_lays 11 = .ok (.return_, 1) := by decide +kernel
set_option maxRecDepth 20000 in
theorem ggX6_sum_X6_of : GoodIn wsX6_sum wsX6_of := goodIn_r _ [5, 6, 7, 8, 9, 10, 11, 12, 13, 14, 15, 16, 17, 18, 19, 20, 21, 22, 23, 24] (by decide +kernel) (by decide +kernel)
set_option maxRecDepth 20000 in
theorem gX6_sum_X6_of : GoodIn wsX6_sum (wsV RX6 50 RX6 yX6_of wsX6_of) := goodIn_app (goodIn_of _ (by decide +kernel)) ggX6_sum_X6_of
theorem dX6_sum_0 : decode cX6_sum 0 = .ok (.iconst 0, 1) := by decide +kernel
theorem dX6_sum_1 : decode cX6_sum 1 = .ok (.istore_n 2, 1) := by decide +kernel
theorem dX6_sum_2 : decode cX6_sum 2 = .ok (.iconst 1, 1) := by decide +kernel
theorem dX6_sum_3 : decode cX6_sum 3 = .ok (.istore_n 3, 1) := by decide +kernel
theorem dX6_sum_4 : decode cX6_sum 4 = .ok (.iload_n 3, 1) := by decide +kernel
theorem dX6_sum_5 : decode cX6_sum 5 = .ok (.bipush 48, 2) := by decide +kernel
theorem dX6_sum_7 : decode cX6_sum 7 = .ok (.if_icmp .gt 18, 3) := by decide +kernel
theorem dX6_sum_10 : decode cX6_sum 10 = .ok (.iload_n 2, 1) := by decide +kernel
theorem dX6_sum_11 : decode cX6_sum 11 = .ok (.aload_n 0, 1) := by decide +kernel
theorem dX6_sum_12 : decode cX6_sum 12 = .ok (.iload_n 3, 1) := by decide +kernel
theorem dX6_sum_13 : decode cX6_sum 13 = .ok (.iload_n 1, 1) := by decide +kernel
theorem dX6_sum_14 : decode cX6_sum 14 = .ok (.invokevirtual 50, 3) := by decide +kernel
theorem dX6_sum_17 : decode cX6_sum 17 = .ok (.iadd, 1) := by decide +kernel
theorem dX6_sum_18 : decode cX6_sum 18 = .ok (.istore_n 2, 1) := by decide +kernel
theorem dX6_sum_19 : decode cX6_sum 19 = .ok (.iinc 3 1, 3) := by decide +kernel
theorem dX6_sum_22 : decode cX6_sum 22 = .ok (.goto (-18), 3) := by decide +kernel
theorem dX6_sum_25 : decode cX6_sum 25 = .ok (.iload_n 2, 1) := by decide +kernel
theorem dX6_sum_26 : decode cX6_sum 26 = .ok (.ireturn, 1) := by decide +kernel
set_option maxRecDepth 20000 in
theorem ggX6_turns_X6_of : GoodIn wsX6_turns wsX6_of := goodIn_r _ [5, 6, 11, 12, 13, 14, 15, 16, 17, 18, 19, 20, 21, 22, 23, 24, 25, 26, 27, 28] (by decide +kernel) (by decide +kernel)
set_option maxRecDepth 20000 in
theorem gX6_turns_X6_of : GoodIn wsX6_turns (wsV RX6 50 RX6 yX6_of wsX6_of) := goodIn_app (goodIn_of _ (by decide +kernel)) ggX6_turns_X6_of
set_option maxRecDepth 20000 in
theorem ggX6_turns_X6_lays : GoodIn wsX6_turns wsX6_lays := goodIn_r _ [10, 6, 11, 12, 13, 14, 15, 16, 17, 18, 19, 20, 21, 22, 23, 24, 25, 26, 27, 28] (by decide +kernel) (by decide +kernel)
set_option maxRecDepth 20000 in
theorem gX6_turns_X6_lays : GoodIn wsX6_turns (wsV RX6 54 RX6 yX6_lays wsX6_lays) := goodIn_app (goodIn_of _ (by decide +kernel)) ggX6_turns_X6_lays
theorem dX6_turns_0 : decode cX6_turns 0 = .ok (.aload_n 0, 1) := by decide +kernel
theorem dX6_turns_1 : decode cX6_turns 1 = .ok (.iload_n 1, 1) := by decide +kernel
theorem dX6_turns_2 : decode cX6_turns 2 = .ok (.iconst 0, 1) := by decide +kernel
theorem dX6_turns_3 : decode cX6_turns 3 = .ok (.iconst 1, 1) := by decide +kernel
theorem dX6_turns_4 : decode cX6_turns 4 = .ok (.aload_n 0, 1) := by decide +kernel
theorem dX6_turns_5 : decode cX6_turns 5 = .ok (.iload_n 1, 1) := by decide +kernel
theorem dX6_turns_6 : decode cX6_turns 6 = .ok (.iconst 0, 1) := by decide +kernel
theorem dX6_turns_7 : decode cX6_turns 7 = .ok (.invokevirtual 50, 3) := by decide +kernel
theorem dX6_turns_10 : decode cX6_turns 10 = .ok (.isub, 1) := by decide +kernel
theorem dX6_turns_11 : decode cX6_turns 11 = .ok (.invokevirtual 54, 3) := by decide +kernel
theorem dX6_turns_14 : decode cX6_turns 14 = .ok (.aload_n 0, 1) := by decide +kernel
theorem dX6_turns_15 : decode cX6_turns 15 = .ok (.iload_n 1, 1) := by decide +kernel
theorem dX6_turns_16 : decode cX6_turns 16 = .ok (.bipush 96, 2) := by decide +kernel
theorem dX6_turns_18 : decode cX6_turns 18 = .ok (.aload_n 0, 1) := by decide +kernel
theorem dX6_turns_19 : decode cX6_turns 19 = .ok (.iload_n 1, 1) := by decide +kernel
theorem dX6_turns_20 : decode cX6_turns 20 = .ok (.bipush 96, 2) := by decide +kernel
theorem dX6_turns_22 : decode cX6_turns 22 = .ok (.invokevirtual 50, 3) := by decide +kernel
theorem dX6_turns_25 : decode cX6_turns 25 = .ok (.iconst 1, 1) := by decide +kernel
theorem dX6_turns_26 : decode cX6_turns 26 = .ok (.iadd, 1) := by decide +kernel
theorem dX6_turns_27 : decode cX6_turns 27 = .ok (.invokevirtual 54, 3) := by decide +kernel
theorem dX6_turns_30 : decode cX6_turns 30 = .ok (.return_, 1) := by decide +kernel
set_option maxRecDepth 20000 in
theorem ggX6_passes_X6_of : GoodIn wsX6_passes wsX6_of := goodIn_r _ [5, 6, 15, 16, 17, 18, 19, 20, 21, 22, 23, 24, 25, 26, 27, 28, 29, 30, 31, 32] (by decide +kernel) (by decide +kernel)
set_option maxRecDepth 20000 in
theorem gX6_passes_X6_of : GoodIn wsX6_passes (wsV RX6 50 RX6 yX6_of wsX6_of) := goodIn_app (goodIn_of _ (by decide +kernel)) ggX6_passes_X6_of
set_option maxRecDepth 20000 in
theorem ggX6_passes_X6_turns : GoodIn wsX6_passes wsX6_turns := goodIn_r _ [10, 1, 2, 3, 4, 5, 6, 11, 12, 13, 14, 15, 16, 17, 18, 19, 20, 21, 22, 23, 24, 25, 26, 27, 28, 29, 30, 31, 32] (by decide +kernel) (by decide +kernel)
set_option maxRecDepth 20000 in
theorem gX6_passes_X6_turns : GoodIn wsX6_passes (wsV RX6 58 RX6 yX6_turns wsX6_turns) := goodIn_app (goodIn_of _ (by decide +kernel)) ggX6_passes_X6_turns
set_option maxRecDepth 20000 in
theorem ggX6_passes_X6_lays : GoodIn wsX6_passes wsX6_lays := goodIn_r _ [14, 6, 15, 16, 17, 18, 19, 20, 21, 22, 23, 24, 25, 26, 27, 28, 29, 30, 31, 32] (by decide +kernel) (by decide +kernel)
set_option maxRecDepth 20000 in
theorem gX6_passes_X6_lays : GoodIn wsX6_passes (wsV RX6 54 RX6 yX6_lays wsX6_lays) := goodIn_app (goodIn_of _ (by decide +kernel)) ggX6_passes_X6_lays
theorem dX6_passes_0 : decode cX6_passes 0 = .ok (.iload_n 1, 1) := by decide +kernel
theorem dX6_passes_1 : decode cX6_passes 1 = .ok (.istore_n 2, 1) := by decide +kernel
theorem dX6_passes_2 : decode cX6_passes 2 = .ok (.iload_n 2, 1) := by decide +kernel
theorem dX6_passes_3 : decode cX6_passes 3 = .ok (.bipush 48, 2) := by decide +kernel
theorem dX6_passes_5 : decode cX6_passes 5 = .ok (.if_icmp .gt 25, 3) := by decide +kernel
theorem dX6_passes_8 : decode cX6_passes 8 = .ok (.aload_n 0, 1) := by decide +kernel
theorem dX6_passes_9 : decode cX6_passes 9 = .ok (.iload_n 2, 1) := by decide +kernel
theorem dX6_passes_10 : decode cX6_passes 10 = .ok (.bipush 48, 2) := by decide +kernel
theorem dX6_passes_12 : decode cX6_passes 12 = .ok (.invokevirtual 50, 3) := by decide +kernel
theorem dX6_passes_15 : decode cX6_passes 15 = .ok (.ifCond .ne 8, 3) := by decide +kernel
theorem dX6_passes_18 : decode cX6_passes 18 = .ok (.aload_n 0, 1) := by decide +kernel
theorem dX6_passes_19 : decode cX6_passes 19 = .ok (.iload_n 2, 1) := by decide +kernel
theorem dX6_passes_20 : decode cX6_passes 20 = .ok (.invokevirtual 58, 3) := by decide +kernel
theorem dX6_passes_23 : decode cX6_passes 23 = .ok (.iload_n 2, 1) := by decide +kernel
theorem dX6_passes_24 : decode cX6_passes 24 = .ok (.iload_n 1, 1) := by decide +kernel
theorem dX6_passes_25 : decode cX6_passes 25 = .ok (.iadd, 1) := by decide +kernel
theorem dX6_passes_26 : decode cX6_passes 26 = .ok (.istore_n 2, 1) := by decide +kernel
theorem dX6_passes_27 : decode cX6_passes 27 = .ok (.goto (-25), 3) := by decide +kernel
theorem dX6_passes_30 : decode cX6_passes 30 = .ok (.aload_n 0, 1) := by decide +kernel
theorem dX6_passes_31 : decode cX6_passes 31 = .ok (.iload_n 1, 1) := by decide +kernel
theorem dX6_passes_32 : decode cX6_passes 32 = .ok (.sipush 192, 3) := by decide +kernel
theorem dX6_passes_35 : decode cX6_passes 35 = .ok (.aload_n 0, 1) := by decide +kernel
theorem dX6_passes_36 : decode cX6_passes 36 = .ok (.iload_n 1, 1) := by decide +kernel
theorem dX6_passes_37 : decode cX6_passes 37 = .ok (.sipush 192, 3) := by decide +kernel
theorem dX6_passes_40 : decode cX6_passes 40 = .ok (.invokevirtual 50, 3) := by decide +kernel
theorem dX6_passes_43 : decode cX6_passes 43 = .ok (.iconst 1, 1) := by decide +kernel
theorem dX6_passes_44 : decode cX6_passes 44 = .ok (.iadd, 1) := by decide +kernel
theorem dX6_passes_45 : decode cX6_passes 45 = .ok (.invokevirtual 54, 3) := by decide +kernel
theorem dX6_passes_48 : decode cX6_passes 48 = .ok (.return_, 1) := by decide +kernel
set_option maxRecDepth 20000 in
theorem ggX6_passesRow_X6_of : GoodIn wsX6_passesRow wsX6_of := goodIn_r _ [5, 6, 19, 20, 21, 22, 23, 24, 25, 26, 27, 28, 29, 30, 31, 32, 33, 34, 35, 36] (by decide +kernel) (by decide +kernel)
set_option maxRecDepth 20000 in
theorem gX6_passesRow_X6_of : GoodIn wsX6_passesRow (wsV RX6 50 RX6 yX6_of wsX6_of) := goodIn_app (goodIn_of _ (by decide +kernel)) ggX6_passesRow_X6_of
set_option maxRecDepth 20000 in
theorem ggX6_passesRow_X6_passes : GoodIn wsX6_passesRow wsX6_passes := goodIn_r _ [10, 1, 2, 3, 4, 5, 6, 11, 12, 13, 14, 15, 16, 17, 18, 19, 20, 21, 22, 23, 24, 25, 26, 27, 28, 29, 30, 31, 32, 33, 34, 35, 36] (by decide +kernel) (by decide +kernel)
set_option maxRecDepth 20000 in
theorem gX6_passesRow_X6_passes : GoodIn wsX6_passesRow (wsV RX6 62 RX6 yX6_passes wsX6_passes) := goodIn_app (goodIn_of _ (by decide +kernel)) ggX6_passesRow_X6_passes
theorem dX6_passesRow_0 : decode cX6_passesRow 0 = .ok (.iconst 0, 1) := by decide +kernel
theorem dX6_passesRow_1 : decode cX6_passesRow 1 = .ok (.istore_n 3, 1) := by decide +kernel
theorem dX6_passesRow_2 : decode cX6_passesRow 2 = .ok (.iload_n 1, 1) := by decide +kernel
theorem dX6_passesRow_3 : decode cX6_passesRow 3 = .ok (.istore 4, 2) := by decide +kernel
theorem dX6_passesRow_5 : decode cX6_passesRow 5 = .ok (.iload 4, 2) := by decide +kernel
theorem dX6_passesRow_7 : decode cX6_passesRow 7 = .ok (.iload_n 2, 1) := by decide +kernel
theorem dX6_passesRow_8 : decode cX6_passesRow 8 = .ok (.if_icmp .gt 30, 3) := by decide +kernel
theorem dX6_passesRow_11 : decode cX6_passesRow 11 = .ok (.aload_n 0, 1) := by decide +kernel
theorem dX6_passesRow_12 : decode cX6_passesRow 12 = .ok (.iload 4, 2) := by decide +kernel
theorem dX6_passesRow_14 : decode cX6_passesRow 14 = .ok (.sipush 144, 3) := by decide +kernel
theorem dX6_passesRow_17 : decode cX6_passesRow 17 = .ok (.invokevirtual 50, 3) := by decide +kernel
theorem dX6_passesRow_20 : decode cX6_passesRow 20 = .ok (.ifCond .ne 12, 3) := by decide +kernel
theorem dX6_passesRow_23 : decode cX6_passesRow 23 = .ok (.aload_n 0, 1) := by decide +kernel
theorem dX6_passesRow_24 : decode cX6_passesRow 24 = .ok (.iload 4, 2) := by decide +kernel
theorem dX6_passesRow_26 : decode cX6_passesRow 26 = .ok (.invokevirtual 62, 3) := by decide +kernel
theorem dX6_passesRow_29 : decode cX6_passesRow 29 = .ok (.iinc 3 1, 3) := by decide +kernel
theorem dX6_passesRow_32 : decode cX6_passesRow 32 = .ok (.iinc 4 1, 3) := by decide +kernel
theorem dX6_passesRow_35 : decode cX6_passesRow 35 = .ok (.goto (-30), 3) := by decide +kernel
theorem dX6_passesRow_38 : decode cX6_passesRow 38 = .ok (.iload_n 3, 1) := by decide +kernel
theorem dX6_passesRow_39 : decode cX6_passesRow 39 = .ok (.ireturn, 1) := by decide +kernel
set_option maxRecDepth 20000 in
theorem ggX6_things_X6_of : GoodIn wsX6_things wsX6_of := goodIn_r _ [5, 6, 7, 8, 9, 10, 11, 12, 13, 14, 15, 16, 17, 18, 19, 20, 21, 22, 23, 24] (by decide +kernel) (by decide +kernel)
set_option maxRecDepth 20000 in
theorem gX6_things_X6_of : GoodIn wsX6_things (wsV RX6 50 RX6 yX6_of wsX6_of) := goodIn_app (goodIn_of _ (by decide +kernel)) ggX6_things_X6_of
theorem dX6_things_0 : decode cX6_things 0 = .ok (.iconst 0, 1) := by decide +kernel
theorem dX6_things_1 : decode cX6_things 1 = .ok (.istore_n 2, 1) := by decide +kernel
theorem dX6_things_2 : decode cX6_things 2 = .ok (.iconst 1, 1) := by decide +kernel
theorem dX6_things_3 : decode cX6_things 3 = .ok (.istore_n 3, 1) := by decide +kernel
theorem dX6_things_4 : decode cX6_things 4 = .ok (.iload_n 3, 1) := by decide +kernel
theorem dX6_things_5 : decode cX6_things 5 = .ok (.bipush 48, 2) := by decide +kernel
theorem dX6_things_7 : decode cX6_things 7 = .ok (.if_icmp .gt 31, 3) := by decide +kernel
theorem dX6_things_10 : decode cX6_things 10 = .ok (.iload_n 2, 1) := by decide +kernel
theorem dX6_things_11 : decode cX6_things 11 = .ok (.aload_n 0, 1) := by decide +kernel
theorem dX6_things_12 : decode cX6_things 12 = .ok (.iload_n 3, 1) := by decide +kernel
theorem dX6_things_13 : decode cX6_things 13 = .ok (.sipush 240, 3) := by decide +kernel
theorem dX6_things_16 : decode cX6_things 16 = .ok (.invokevirtual 50, 3) := by decide +kernel
theorem dX6_things_19 : decode cX6_things 19 = .ok (.iload_n 1, 1) := by decide +kernel
theorem dX6_things_20 : decode cX6_things 20 = .ok (.iconst 1, 1) := by decide +kernel
theorem dX6_things_21 : decode cX6_things 21 = .ok (.iadd, 1) := by decide +kernel
theorem dX6_things_22 : decode cX6_things 22 = .ok (.if_icmp .ne 7, 3) := by decide +kernel
theorem dX6_things_25 : decode cX6_things 25 = .ok (.iconst 1, 1) := by decide +kernel
theorem dX6_things_26 : decode cX6_things 26 = .ok (.goto 4, 3) := by decide +kernel
theorem dX6_things_29 : decode cX6_things 29 = .ok (.iconst 0, 1) := by decide +kernel
theorem dX6_things_30 : decode cX6_things 30 = .ok (.iadd, 1) := by decide +kernel
theorem dX6_things_31 : decode cX6_things 31 = .ok (.istore_n 2, 1) := by decide +kernel
theorem dX6_things_32 : decode cX6_things 32 = .ok (.iinc 3 1, 3) := by decide +kernel
theorem dX6_things_35 : decode cX6_things 35 = .ok (.goto (-31), 3) := by decide +kernel
theorem dX6_things_38 : decode cX6_things 38 = .ok (.iload_n 2, 1) := by decide +kernel
theorem dX6_things_39 : decode cX6_things 39 = .ok (.ireturn, 1) := by decide +kernel
set_option maxRecDepth 20000 in
theorem ggX6_reason_X6_of : GoodIn wsX6_reason wsX6_of := goodIn_r _ [5, 6, 10, 11, 12, 13, 14, 15, 16, 17, 18, 19, 20, 21, 22, 23, 24, 25, 26, 27] (by decide +kernel) (by decide +kernel)
set_option maxRecDepth 20000 in
theorem gX6_reason_X6_of : GoodIn wsX6_reason (wsV RX6 50 RX6 yX6_of wsX6_of) := goodIn_app (goodIn_of _ (by decide +kernel)) ggX6_reason_X6_of
set_option maxRecDepth 20000 in
theorem ggX6_reason_X6_in : GoodIn wsX6_reason wsX6_in := goodIn_r _ [9] (by decide +kernel) (by decide +kernel)
set_option maxRecDepth 20000 in
theorem gX6_reason_X6_in : GoodIn wsX6_reason (va_wsS RX6 46 yX6_in wsX6_in) := goodIn_app (goodIn_of _ (by decide +kernel)) ggX6_reason_X6_in
theorem dX6_reason_0 : decode cX6_reason 0 = .ok (.aload_n 0, 1) := by decide +kernel
theorem dX6_reason_1 : decode cX6_reason 1 = .ok (.iload_n 1, 1) := by decide +kernel
theorem dX6_reason_2 : decode cX6_reason 2 = .ok (.iconst 0, 1) := by decide +kernel
theorem dX6_reason_3 : decode cX6_reason 3 = .ok (.invokevirtual 50, 3) := by decide +kernel
theorem dX6_reason_6 : decode cX6_reason 6 = .ok (.ifCond .ne 5, 3) := by decide +kernel
theorem dX6_reason_9 : decode cX6_reason 9 = .ok (.iconst 1, 1) := by decide +kernel
theorem dX6_reason_10 : decode cX6_reason 10 = .ok (.ireturn, 1) := by decide +kernel
theorem dX6_reason_11 : decode cX6_reason 11 = .ok (.iload_n 2, 1) := by decide +kernel
theorem dX6_reason_12 : decode cX6_reason 12 = .ok (.ifCond .ne 14, 3) := by decide +kernel
theorem dX6_reason_15 : decode cX6_reason 15 = .ok (.iload_n 1, 1) := by decide +kernel
theorem dX6_reason_16 : decode cX6_reason 16 = .ok (.bipush 17, 2) := by decide +kernel
theorem dX6_reason_18 : decode cX6_reason 18 = .ok (.bipush 32, 2) := by decide +kernel
theorem dX6_reason_20 : decode cX6_reason 20 = .ok (.invokestatic 46, 3) := by decide +kernel
theorem dX6_reason_23 : decode cX6_reason 23 = .ok (.ifCond .ne 14, 3) := by decide +kernel
theorem dX6_reason_26 : decode cX6_reason 26 = .ok (.iload_n 2, 1) := by decide +kernel
theorem dX6_reason_27 : decode cX6_reason 27 = .ok (.iconst 1, 1) := by decide +kernel
theorem dX6_reason_28 : decode cX6_reason 28 = .ok (.if_icmp .ne 13, 3) := by decide +kernel
theorem dX6_reason_31 : decode cX6_reason 31 = .ok (.iload_n 1, 1) := by decide +kernel
theorem dX6_reason_32 : decode cX6_reason 32 = .ok (.bipush 16, 2) := by decide +kernel
theorem dX6_reason_34 : decode cX6_reason 34 = .ok (.if_icmp .gt 7, 3) := by decide +kernel
theorem dX6_reason_37 : decode cX6_reason 37 = .ok (.iconst 1, 1) := by decide +kernel
theorem dX6_reason_38 : decode cX6_reason 38 = .ok (.goto 4, 3) := by decide +kernel
theorem dX6_reason_41 : decode cX6_reason 41 = .ok (.iconst 0, 1) := by decide +kernel
theorem dX6_reason_42 : decode cX6_reason 42 = .ok (.istore_n 3, 1) := by decide +kernel
theorem dX6_reason_43 : decode cX6_reason 43 = .ok (.aload_n 0, 1) := by decide +kernel
theorem dX6_reason_44 : decode cX6_reason 44 = .ok (.iload_n 1, 1) := by decide +kernel
theorem dX6_reason_45 : decode cX6_reason 45 = .ok (.sipush 240, 3) := by decide +kernel
theorem dX6_reason_48 : decode cX6_reason 48 = .ok (.invokevirtual 50, 3) := by decide +kernel
theorem dX6_reason_51 : decode cX6_reason 51 = .ok (.ifCond .le 7, 3) := by decide +kernel
theorem dX6_reason_54 : decode cX6_reason 54 = .ok (.iconst 2, 1) := by decide +kernel
theorem dX6_reason_55 : decode cX6_reason 55 = .ok (.goto 12, 3) := by decide +kernel
theorem dX6_reason_58 : decode cX6_reason 58 = .ok (.iload_n 3, 1) := by decide +kernel
theorem dX6_reason_59 : decode cX6_reason 59 = .ok (.ifCond .eq 7, 3) := by decide +kernel
theorem dX6_reason_62 : decode cX6_reason 62 = .ok (.iconst 3, 1) := by decide +kernel
theorem dX6_reason_63 : decode cX6_reason 63 = .ok (.goto 4, 3) := by decide +kernel
theorem dX6_reason_66 : decode cX6_reason 66 = .ok (.iconst 0, 1) := by decide +kernel
theorem dX6_reason_67 : decode cX6_reason 67 = .ok (.ireturn, 1) := by decide +kernel
set_option maxRecDepth 20000 in
theorem ggX6_goPass_X6_isDoor : GoodIn wsX6_goPass wsX6_isDoor := goodIn_r _ [4, 5, 6, 3, 7] (by decide +kernel) (by decide +kernel)
set_option maxRecDepth 20000 in
theorem gX6_goPass_X6_isDoor : GoodIn wsX6_goPass (va_wsS RX6 65 yX6_isDoor wsX6_isDoor) := goodIn_app (goodIn_of _ (by decide +kernel)) ggX6_goPass_X6_isDoor
set_option maxRecDepth 20000 in
theorem ggX6_goPass_X6_passes : GoodIn wsX6_goPass wsX6_passes := goodIn_r _ [11, 12, 13, 14, 3, 15, 16, 17, 18, 19, 20, 21, 22, 23, 24, 29, 30, 31, 32, 33, 34, 35, 36, 37, 38, 39, 40, 41, 42, 43, 44, 45, 46] (by decide +kernel) (by decide +kernel)
set_option maxRecDepth 20000 in
theorem gX6_goPass_X6_passes : GoodIn wsX6_goPass (wsV RX6 62 RX6 yX6_passes wsX6_passes) := goodIn_app (goodIn_of _ (by decide +kernel)) ggX6_goPass_X6_passes
set_option maxRecDepth 20000 in
theorem ggX6_goPass_X6_sum : GoodIn wsX6_goPass wsX6_sum := goodIn_r _ [28, 12, 13, 14, 3, 15, 16, 29, 30, 31, 32, 33, 34, 35, 36, 37, 38, 39, 40, 41, 42, 43, 44, 45, 46] (by decide +kernel) (by decide +kernel)
set_option maxRecDepth 20000 in
theorem gX6_goPass_X6_sum : GoodIn wsX6_goPass (wsV RX6 69 RX6 yX6_sum wsX6_sum) := goodIn_app (goodIn_of _ (by decide +kernel)) ggX6_goPass_X6_sum
theorem dX6_goPass_0 : decode cX6_goPass 0 = .ok (.iload_n 1, 1) := by decide +kernel
theorem dX6_goPass_1 : decode cX6_goPass 1 = .ok (.invokestatic 65, 3) := by decide +kernel
theorem dX6_goPass_4 : decode cX6_goPass 4 = .ok (.ifCond .ne 6, 3) := by decide +kernel
theorem dX6_goPass_7 : decode cX6_goPass 7 = .ok (.bipush (-11), 2) := by decide +kernel
theorem dX6_goPass_9 : decode cX6_goPass 9 = .ok (.ireturn, 1) := by decide +kernel
theorem dX6_goPass_10 : decode cX6_goPass 10 = .ok (.aload_n 0, 1) := by decide +kernel
theorem dX6_goPass_11 : decode cX6_goPass 11 = .ok (.iload_n 1, 1) := by decide +kernel
theorem dX6_goPass_12 : decode cX6_goPass 12 = .ok (.invokevirtual 62, 3) := by decide +kernel
theorem dX6_goPass_15 : decode cX6_goPass 15 = .ok (.aload_n 0, 1) := by decide +kernel
theorem dX6_goPass_16 : decode cX6_goPass 16 = .ok (.iconst 0, 1) := by decide +kernel
theorem dX6_goPass_17 : decode cX6_goPass 17 = .ok (.invokevirtual 69, 3) := by decide +kernel
theorem dX6_goPass_20 : decode cX6_goPass 20 = .ok (.ireturn, 1) := by decide +kernel
set_option maxRecDepth 20000 in
theorem ggX6_goRow_X6_isDoor : GoodIn wsX6_goRow wsX6_isDoor := goodIn_r _ [4, 5, 6, 3, 7] (by decide +kernel) (by decide +kernel)
set_option maxRecDepth 20000 in
theorem gX6_goRow_X6_isDoor : GoodIn wsX6_goRow (va_wsS RX6 65 yX6_isDoor wsX6_isDoor) := goodIn_app (goodIn_of _ (by decide +kernel)) ggX6_goRow_X6_isDoor
set_option maxRecDepth 20000 in
theorem ggX6_goRow_X6_in : GoodIn wsX6_goRow wsX6_in := goodIn_r _ [7] (by decide +kernel) (by decide +kernel)
set_option maxRecDepth 20000 in
theorem gX6_goRow_X6_in : GoodIn wsX6_goRow (va_wsS RX6 46 yX6_in wsX6_in) := goodIn_app (goodIn_of _ (by decide +kernel)) ggX6_goRow_X6_in
set_option maxRecDepth 20000 in
theorem ggX6_goRow_X6_passesRow : GoodIn wsX6_goRow wsX6_passesRow := goodIn_r _ [11, 12, 13, 14, 3, 15, 16, 17, 18, 19, 20, 21, 22, 23, 24, 25, 26, 27, 28, 29, 30, 31, 32, 33, 34, 35, 36, 37, 38, 39, 40, 41, 42, 43, 44, 45, 46] (by decide +kernel) (by decide +kernel)
set_option maxRecDepth 20000 in
theorem gX6_goRow_X6_passesRow : GoodIn wsX6_goRow (wsV RX6 72 RX6 yX6_passesRow wsX6_passesRow) := goodIn_app (goodIn_of _ (by decide +kernel)) ggX6_goRow_X6_passesRow
theorem dX6_goRow_0 : decode cX6_goRow 0 = .ok (.iload_n 1, 1) := by decide +kernel
theorem dX6_goRow_1 : decode cX6_goRow 1 = .ok (.invokestatic 65, 3) := by decide +kernel
theorem dX6_goRow_4 : decode cX6_goRow 4 = .ok (.ifCond .eq 13, 3) := by decide +kernel
theorem dX6_goRow_7 : decode cX6_goRow 7 = .ok (.iload_n 2, 1) := by decide +kernel
theorem dX6_goRow_8 : decode cX6_goRow 8 = .ok (.iload_n 1, 1) := by decide +kernel
theorem dX6_goRow_9 : decode cX6_goRow 9 = .ok (.bipush 48, 2) := by decide +kernel
theorem dX6_goRow_11 : decode cX6_goRow 11 = .ok (.invokestatic 46, 3) := by decide +kernel
theorem dX6_goRow_14 : decode cX6_goRow 14 = .ok (.ifCond .ne 6, 3) := by decide +kernel
theorem dX6_goRow_17 : decode cX6_goRow 17 = .ok (.bipush (-11), 2) := by decide +kernel
theorem dX6_goRow_19 : decode cX6_goRow 19 = .ok (.ireturn, 1) := by decide +kernel
theorem dX6_goRow_20 : decode cX6_goRow 20 = .ok (.aload_n 0, 1) := by decide +kernel
theorem dX6_goRow_21 : decode cX6_goRow 21 = .ok (.iload_n 1, 1) := by decide +kernel
theorem dX6_goRow_22 : decode cX6_goRow 22 = .ok (.iload_n 2, 1) := by decide +kernel
theorem dX6_goRow_23 : decode cX6_goRow 23 = .ok (.invokevirtual 72, 3) := by decide +kernel
theorem dX6_goRow_26 : decode cX6_goRow 26 = .ok (.ireturn, 1) := by decide +kernel
set_option maxRecDepth 20000 in
theorem ggX6_goDoor_X6_isDoor : GoodIn wsX6_goDoor wsX6_isDoor := goodIn_r _ [4, 5, 6, 3, 7] (by decide +kernel) (by decide +kernel)
set_option maxRecDepth 20000 in
theorem gX6_goDoor_X6_isDoor : GoodIn wsX6_goDoor (va_wsS RX6 65 yX6_isDoor wsX6_isDoor) := goodIn_app (goodIn_of _ (by decide +kernel)) ggX6_goDoor_X6_isDoor
set_option maxRecDepth 20000 in
theorem ggX6_goDoor_X6_of : GoodIn wsX6_goDoor wsX6_of := goodIn_r _ [11, 12, 21, 22, 23, 24, 25, 26, 27, 28, 29, 30, 31, 32, 33, 34, 35, 36, 37, 38] (by decide +kernel) (by decide +kernel)
set_option maxRecDepth 20000 in
theorem gX6_goDoor_X6_of : GoodIn wsX6_goDoor (wsV RX6 50 RX6 yX6_of wsX6_of) := goodIn_app (goodIn_of _ (by decide +kernel)) ggX6_goDoor_X6_of
set_option maxRecDepth 20000 in
theorem ggX6_goDoor_X6_turns : GoodIn wsX6_goDoor wsX6_turns := goodIn_r _ [16, 8, 9, 10, 3, 11, 12, 17, 18, 19, 20, 21, 22, 23, 24, 25, 26, 27, 28, 29, 30, 31, 32, 33, 34, 35, 36, 37, 38] (by decide +kernel) (by decide +kernel)
set_option maxRecDepth 20000 in
theorem gX6_goDoor_X6_turns : GoodIn wsX6_goDoor (wsV RX6 58 RX6 yX6_turns wsX6_turns) := goodIn_app (goodIn_of _ (by decide +kernel)) ggX6_goDoor_X6_turns
theorem dX6_goDoor_0 : decode cX6_goDoor 0 = .ok (.iload_n 1, 1) := by decide +kernel
theorem dX6_goDoor_1 : decode cX6_goDoor 1 = .ok (.invokestatic 65, 3) := by decide +kernel
theorem dX6_goDoor_4 : decode cX6_goDoor 4 = .ok (.ifCond .ne 6, 3) := by decide +kernel
theorem dX6_goDoor_7 : decode cX6_goDoor 7 = .ok (.bipush (-11), 2) := by decide +kernel
theorem dX6_goDoor_9 : decode cX6_goDoor 9 = .ok (.ireturn, 1) := by decide +kernel
theorem dX6_goDoor_10 : decode cX6_goDoor 10 = .ok (.aload_n 0, 1) := by decide +kernel
theorem dX6_goDoor_11 : decode cX6_goDoor 11 = .ok (.iload_n 1, 1) := by decide +kernel
theorem dX6_goDoor_12 : decode cX6_goDoor 12 = .ok (.bipush 48, 2) := by decide +kernel
theorem dX6_goDoor_14 : decode cX6_goDoor 14 = .ok (.invokevirtual 50, 3) := by decide +kernel
theorem dX6_goDoor_17 : decode cX6_goDoor 17 = .ok (.iconst 1, 1) := by decide +kernel
theorem dX6_goDoor_18 : decode cX6_goDoor 18 = .ok (.if_icmp .ne 6, 3) := by decide +kernel
theorem dX6_goDoor_21 : decode cX6_goDoor 21 = .ok (.bipush (-12), 2) := by decide +kernel
theorem dX6_goDoor_23 : decode cX6_goDoor 23 = .ok (.ireturn, 1) := by decide +kernel
theorem dX6_goDoor_24 : decode cX6_goDoor 24 = .ok (.aload_n 0, 1) := by decide +kernel
theorem dX6_goDoor_25 : decode cX6_goDoor 25 = .ok (.iload_n 1, 1) := by decide +kernel
theorem dX6_goDoor_26 : decode cX6_goDoor 26 = .ok (.invokevirtual 58, 3) := by decide +kernel
theorem dX6_goDoor_29 : decode cX6_goDoor 29 = .ok (.aload_n 0, 1) := by decide +kernel
theorem dX6_goDoor_30 : decode cX6_goDoor 30 = .ok (.iload_n 1, 1) := by decide +kernel
theorem dX6_goDoor_31 : decode cX6_goDoor 31 = .ok (.iconst 0, 1) := by decide +kernel
theorem dX6_goDoor_32 : decode cX6_goDoor 32 = .ok (.invokevirtual 50, 3) := by decide +kernel
theorem dX6_goDoor_35 : decode cX6_goDoor 35 = .ok (.ireturn, 1) := by decide +kernel
set_option maxRecDepth 20000 in
theorem ggX6_goTurn_X6_isDoor : GoodIn wsX6_goTurn wsX6_isDoor := goodIn_r _ [4, 5, 6, 3, 7] (by decide +kernel) (by decide +kernel)
set_option maxRecDepth 20000 in
theorem gX6_goTurn_X6_isDoor : GoodIn wsX6_goTurn (va_wsS RX6 65 yX6_isDoor wsX6_isDoor) := goodIn_app (goodIn_of _ (by decide +kernel)) ggX6_goTurn_X6_isDoor
set_option maxRecDepth 20000 in
theorem ggX6_goTurn_X6_of : GoodIn wsX6_goTurn wsX6_of := goodIn_r _ [11, 12, 17, 18, 19, 20, 21, 22, 23, 24, 25, 26, 27, 28, 29, 30, 31, 32, 33, 34] (by decide +kernel) (by decide +kernel)
set_option maxRecDepth 20000 in
theorem gX6_goTurn_X6_of : GoodIn wsX6_goTurn (wsV RX6 50 RX6 yX6_of wsX6_of) := goodIn_app (goodIn_of _ (by decide +kernel)) ggX6_goTurn_X6_of
set_option maxRecDepth 20000 in
theorem ggX6_goTurn_X6_lays : GoodIn wsX6_goTurn wsX6_lays := goodIn_r _ [16, 12, 17, 18, 19, 20, 21, 22, 23, 24, 25, 26, 27, 28, 29, 30, 31, 32, 33, 34] (by decide +kernel) (by decide +kernel)
set_option maxRecDepth 20000 in
theorem gX6_goTurn_X6_lays : GoodIn wsX6_goTurn (wsV RX6 54 RX6 yX6_lays wsX6_lays) := goodIn_app (goodIn_of _ (by decide +kernel)) ggX6_goTurn_X6_lays
theorem dX6_goTurn_0 : decode cX6_goTurn 0 = .ok (.iload_n 1, 1) := by decide +kernel
theorem dX6_goTurn_1 : decode cX6_goTurn 1 = .ok (.invokestatic 65, 3) := by decide +kernel
theorem dX6_goTurn_4 : decode cX6_goTurn 4 = .ok (.ifCond .ne 6, 3) := by decide +kernel
theorem dX6_goTurn_7 : decode cX6_goTurn 7 = .ok (.bipush (-11), 2) := by decide +kernel
theorem dX6_goTurn_9 : decode cX6_goTurn 9 = .ok (.ireturn, 1) := by decide +kernel
theorem dX6_goTurn_10 : decode cX6_goTurn 10 = .ok (.aload_n 0, 1) := by decide +kernel
theorem dX6_goTurn_11 : decode cX6_goTurn 11 = .ok (.iload_n 1, 1) := by decide +kernel
theorem dX6_goTurn_12 : decode cX6_goTurn 12 = .ok (.iload_n 2, 1) := by decide +kernel
theorem dX6_goTurn_13 : decode cX6_goTurn 13 = .ok (.iconst 1, 1) := by decide +kernel
theorem dX6_goTurn_14 : decode cX6_goTurn 14 = .ok (.aload_n 0, 1) := by decide +kernel
theorem dX6_goTurn_15 : decode cX6_goTurn 15 = .ok (.iload_n 1, 1) := by decide +kernel
theorem dX6_goTurn_16 : decode cX6_goTurn 16 = .ok (.iload_n 2, 1) := by decide +kernel
theorem dX6_goTurn_17 : decode cX6_goTurn 17 = .ok (.invokevirtual 50, 3) := by decide +kernel
theorem dX6_goTurn_20 : decode cX6_goTurn 20 = .ok (.isub, 1) := by decide +kernel
theorem dX6_goTurn_21 : decode cX6_goTurn 21 = .ok (.invokevirtual 54, 3) := by decide +kernel
theorem dX6_goTurn_24 : decode cX6_goTurn 24 = .ok (.aload_n 0, 1) := by decide +kernel
theorem dX6_goTurn_25 : decode cX6_goTurn 25 = .ok (.iload_n 1, 1) := by decide +kernel
theorem dX6_goTurn_26 : decode cX6_goTurn 26 = .ok (.iload_n 2, 1) := by decide +kernel
theorem dX6_goTurn_27 : decode cX6_goTurn 27 = .ok (.invokevirtual 50, 3) := by decide +kernel
theorem dX6_goTurn_30 : decode cX6_goTurn 30 = .ok (.ireturn, 1) := by decide +kernel
set_option maxRecDepth 20000 in
theorem ggX6_goStore_X6_isDoor : GoodIn wsX6_goStore wsX6_isDoor := goodIn_r _ [4, 5, 6, 3, 7] (by decide +kernel) (by decide +kernel)
set_option maxRecDepth 20000 in
theorem gX6_goStore_X6_isDoor : GoodIn wsX6_goStore (va_wsS RX6 65 yX6_isDoor wsX6_isDoor) := goodIn_app (goodIn_of _ (by decide +kernel)) ggX6_goStore_X6_isDoor
set_option maxRecDepth 20000 in
theorem ggX6_goStore_X6_isKind : GoodIn wsX6_goStore wsX6_isKind := goodIn_r _ [10] (by decide +kernel) (by decide +kernel)
set_option maxRecDepth 20000 in
theorem gX6_goStore_X6_isKind : GoodIn wsX6_goStore (va_wsS RX6 75 yX6_isKind wsX6_isKind) := goodIn_app (goodIn_of _ (by decide +kernel)) ggX6_goStore_X6_isKind
set_option maxRecDepth 20000 in
theorem ggX6_goStore_X6_reason : GoodIn wsX6_goStore wsX6_reason := goodIn_r _ [14, 15, 16, 17, 3, 18, 19, 5, 6, 7, 28, 29, 30, 31, 32, 33, 34, 35, 36, 37, 38, 39, 40, 41, 42, 43, 44, 45] (by decide +kernel) (by decide +kernel)
set_option maxRecDepth 20000 in
theorem gX6_goStore_X6_reason : GoodIn wsX6_goStore (wsV RX6 78 RX6 yX6_reason wsX6_reason) := goodIn_app (goodIn_of _ (by decide +kernel)) ggX6_goStore_X6_reason
set_option maxRecDepth 20000 in
theorem ggX6_goStore_X6_lays : GoodIn wsX6_goStore wsX6_lays := goodIn_r _ [23, 19, 28, 29, 30, 31, 32, 33, 34, 35, 36, 37, 38, 39, 40, 41, 42, 43, 44, 45] (by decide +kernel) (by decide +kernel)
set_option maxRecDepth 20000 in
theorem gX6_goStore_X6_lays : GoodIn wsX6_goStore (wsV RX6 54 RX6 yX6_lays wsX6_lays) := goodIn_app (goodIn_of _ (by decide +kernel)) ggX6_goStore_X6_lays
set_option maxRecDepth 20000 in
theorem ggX6_goStore_X6_things : GoodIn wsX6_goStore wsX6_things := goodIn_r _ [27, 15, 16, 17, 3, 18, 19, 28, 29, 30, 31, 32, 33, 34, 35, 36, 37, 38, 39, 40, 41, 42, 43, 44, 45] (by decide +kernel) (by decide +kernel)
set_option maxRecDepth 20000 in
theorem gX6_goStore_X6_things : GoodIn wsX6_goStore (wsV RX6 81 RX6 yX6_things wsX6_things) := goodIn_app (goodIn_of _ (by decide +kernel)) ggX6_goStore_X6_things
theorem dX6_goStore_0 : decode cX6_goStore 0 = .ok (.iload_n 1, 1) := by decide +kernel
theorem dX6_goStore_1 : decode cX6_goStore 1 = .ok (.invokestatic 65, 3) := by decide +kernel
theorem dX6_goStore_4 : decode cX6_goStore 4 = .ok (.ifCond .eq 10, 3) := by decide +kernel
theorem dX6_goStore_7 : decode cX6_goStore 7 = .ok (.iload_n 2, 1) := by decide +kernel
theorem dX6_goStore_8 : decode cX6_goStore 8 = .ok (.invokestatic 75, 3) := by decide +kernel
theorem dX6_goStore_11 : decode cX6_goStore 11 = .ok (.ifCond .ne 6, 3) := by decide +kernel
theorem dX6_goStore_14 : decode cX6_goStore 14 = .ok (.bipush (-11), 2) := by decide +kernel
theorem dX6_goStore_16 : decode cX6_goStore 16 = .ok (.ireturn, 1) := by decide +kernel
theorem dX6_goStore_17 : decode cX6_goStore 17 = .ok (.aload_n 0, 1) := by decide +kernel
theorem dX6_goStore_18 : decode cX6_goStore 18 = .ok (.iload_n 1, 1) := by decide +kernel
theorem dX6_goStore_19 : decode cX6_goStore 19 = .ok (.iload_n 2, 1) := by decide +kernel
theorem dX6_goStore_20 : decode cX6_goStore 20 = .ok (.invokevirtual 78, 3) := by decide +kernel
theorem dX6_goStore_23 : decode cX6_goStore 23 = .ok (.ifCond .le 6, 3) := by decide +kernel
theorem dX6_goStore_26 : decode cX6_goStore 26 = .ok (.bipush (-12), 2) := by decide +kernel
theorem dX6_goStore_28 : decode cX6_goStore 28 = .ok (.ireturn, 1) := by decide +kernel
theorem dX6_goStore_29 : decode cX6_goStore 29 = .ok (.aload_n 0, 1) := by decide +kernel
theorem dX6_goStore_30 : decode cX6_goStore 30 = .ok (.iload_n 1, 1) := by decide +kernel
theorem dX6_goStore_31 : decode cX6_goStore 31 = .ok (.sipush 240, 3) := by decide +kernel
theorem dX6_goStore_34 : decode cX6_goStore 34 = .ok (.iload_n 2, 1) := by decide +kernel
theorem dX6_goStore_35 : decode cX6_goStore 35 = .ok (.iconst 1, 1) := by decide +kernel
theorem dX6_goStore_36 : decode cX6_goStore 36 = .ok (.iadd, 1) := by decide +kernel
theorem dX6_goStore_37 : decode cX6_goStore 37 = .ok (.invokevirtual 54, 3) := by decide +kernel
theorem dX6_goStore_40 : decode cX6_goStore 40 = .ok (.aload_n 0, 1) := by decide +kernel
theorem dX6_goStore_41 : decode cX6_goStore 41 = .ok (.iload_n 2, 1) := by decide +kernel
theorem dX6_goStore_42 : decode cX6_goStore 42 = .ok (.invokevirtual 81, 3) := by decide +kernel
theorem dX6_goStore_45 : decode cX6_goStore 45 = .ok (.ireturn, 1) := by decide +kernel
set_option maxRecDepth 20000 in
theorem ggX6_goOut_X6_isDoor : GoodIn wsX6_goOut wsX6_isDoor := goodIn_r _ [4, 5, 6, 3, 7] (by decide +kernel) (by decide +kernel)
set_option maxRecDepth 20000 in
theorem gX6_goOut_X6_isDoor : GoodIn wsX6_goOut (va_wsS RX6 65 yX6_isDoor wsX6_isDoor) := goodIn_app (goodIn_of _ (by decide +kernel)) ggX6_goOut_X6_isDoor
set_option maxRecDepth 20000 in
theorem ggX6_goOut_X6_of : GoodIn wsX6_goOut wsX6_of := goodIn_r _ [11, 12, 17, 18, 19, 20, 21, 22, 23, 24, 25, 26, 27, 28, 29, 30, 31, 32, 33, 34] (by decide +kernel) (by decide +kernel)
set_option maxRecDepth 20000 in
theorem gX6_goOut_X6_of : GoodIn wsX6_goOut (wsV RX6 50 RX6 yX6_of wsX6_of) := goodIn_app (goodIn_of _ (by decide +kernel)) ggX6_goOut_X6_of
set_option maxRecDepth 20000 in
theorem ggX6_goOut_X6_lays : GoodIn wsX6_goOut wsX6_lays := goodIn_r _ [16, 12, 17, 18, 19, 20, 21, 22, 23, 24, 25, 26, 27, 28, 29, 30, 31, 32, 33, 34] (by decide +kernel) (by decide +kernel)
set_option maxRecDepth 20000 in
theorem gX6_goOut_X6_lays : GoodIn wsX6_goOut (wsV RX6 54 RX6 yX6_lays wsX6_lays) := goodIn_app (goodIn_of _ (by decide +kernel)) ggX6_goOut_X6_lays
theorem dX6_goOut_0 : decode cX6_goOut 0 = .ok (.iload_n 1, 1) := by decide +kernel
theorem dX6_goOut_1 : decode cX6_goOut 1 = .ok (.invokestatic 65, 3) := by decide +kernel
theorem dX6_goOut_4 : decode cX6_goOut 4 = .ok (.ifCond .ne 6, 3) := by decide +kernel
theorem dX6_goOut_7 : decode cX6_goOut 7 = .ok (.bipush (-11), 2) := by decide +kernel
theorem dX6_goOut_9 : decode cX6_goOut 9 = .ok (.ireturn, 1) := by decide +kernel
theorem dX6_goOut_10 : decode cX6_goOut 10 = .ok (.aload_n 0, 1) := by decide +kernel
theorem dX6_goOut_11 : decode cX6_goOut 11 = .ok (.iload_n 1, 1) := by decide +kernel
theorem dX6_goOut_12 : decode cX6_goOut 12 = .ok (.sipush 240, 3) := by decide +kernel
theorem dX6_goOut_15 : decode cX6_goOut 15 = .ok (.invokevirtual 50, 3) := by decide +kernel
theorem dX6_goOut_18 : decode cX6_goOut 18 = .ok (.iconst 1, 1) := by decide +kernel
theorem dX6_goOut_19 : decode cX6_goOut 19 = .ok (.isub, 1) := by decide +kernel
theorem dX6_goOut_20 : decode cX6_goOut 20 = .ok (.istore_n 2, 1) := by decide +kernel
theorem dX6_goOut_21 : decode cX6_goOut 21 = .ok (.aload_n 0, 1) := by decide +kernel
theorem dX6_goOut_22 : decode cX6_goOut 22 = .ok (.iload_n 1, 1) := by decide +kernel
theorem dX6_goOut_23 : decode cX6_goOut 23 = .ok (.iconst 0, 1) := by decide +kernel
theorem dX6_goOut_24 : decode cX6_goOut 24 = .ok (.invokevirtual 50, 3) := by decide +kernel
theorem dX6_goOut_27 : decode cX6_goOut 27 = .ok (.ifCond .eq 7, 3) := by decide +kernel
theorem dX6_goOut_30 : decode cX6_goOut 30 = .ok (.iload_n 2, 1) := by decide +kernel
theorem dX6_goOut_31 : decode cX6_goOut 31 = .ok (.ifCond .ge 6, 3) := by decide +kernel
theorem dX6_goOut_34 : decode cX6_goOut 34 = .ok (.bipush (-12), 2) := by decide +kernel
theorem dX6_goOut_36 : decode cX6_goOut 36 = .ok (.ireturn, 1) := by decide +kernel
theorem dX6_goOut_37 : decode cX6_goOut 37 = .ok (.aload_n 0, 1) := by decide +kernel
theorem dX6_goOut_38 : decode cX6_goOut 38 = .ok (.iload_n 1, 1) := by decide +kernel
theorem dX6_goOut_39 : decode cX6_goOut 39 = .ok (.sipush 240, 3) := by decide +kernel
theorem dX6_goOut_42 : decode cX6_goOut 42 = .ok (.iconst 0, 1) := by decide +kernel
theorem dX6_goOut_43 : decode cX6_goOut 43 = .ok (.invokevirtual 54, 3) := by decide +kernel
theorem dX6_goOut_46 : decode cX6_goOut 46 = .ok (.iload_n 2, 1) := by decide +kernel
theorem dX6_goOut_47 : decode cX6_goOut 47 = .ok (.ireturn, 1) := by decide +kernel
set_option maxRecDepth 20000 in
theorem ggX6_pass_X6_begins : GoodIn wsX6_pass wsX6_begins := goodIn_r _ [5, 6, 7, 8, 9, 10, 4, 11, 56, 57, 58, 59, 60, 61, 62, 63, 64, 65, 66, 67, 68, 69, 70, 71, 72, 73] (by decide +kernel) (by decide +kernel)
set_option maxRecDepth 20000 in
theorem gX6_pass_X6_begins : GoodIn wsX6_pass (wsV RX6 84 RX6 yX6_begins wsX6_begins) := goodIn_app (goodIn_of _ (by decide +kernel)) ggX6_pass_X6_begins
set_option maxRecDepth 20000 in
theorem ggX6_pass_X6_goPass : GoodIn wsX6_pass wsX6_goPass := goodIn_r _ [15, 16, 17, 4, 18, 19, 20, 21, 22, 23, 24, 25, 26, 27, 28, 29, 7, 30, 31, 32, 33, 34, 35, 36, 37, 38, 39, 40, 41, 56, 57, 58, 59, 60, 61, 62, 63, 64, 65, 66, 67, 68, 69, 70, 71, 72, 73] (by decide +kernel) (by decide +kernel)
set_option maxRecDepth 20000 in
theorem gX6_pass_X6_goPass : GoodIn wsX6_pass (wsV RX6 87 RX6 yX6_goPass wsX6_goPass) := goodIn_app (goodIn_of _ (by decide +kernel)) ggX6_pass_X6_goPass
set_option maxRecDepth 20000 in
theorem ggX6_pass_X6_ends : GoodIn wsX6_pass wsX6_ends := goodIn_r _ [45, 46, 47, 48, 4, 49, 6, 50, 51, 52, 53, 54, 55, 8, 9, 10, 11, 56, 57, 58, 59, 60, 61, 62, 63, 64, 65, 66, 67, 68, 69, 70, 71, 72, 73] (by decide +kernel) (by decide +kernel)
set_option maxRecDepth 20000 in
theorem gX6_pass_X6_ends : GoodIn wsX6_pass (wsV RX6 90 RX6 yX6_ends wsX6_ends) := goodIn_app (goodIn_of _ (by decide +kernel)) ggX6_pass_X6_ends
theorem dX6_pass_0 : decode cX6_pass 0 = .ok (.aload_n 0, 1) := by decide +kernel
theorem dX6_pass_1 : decode cX6_pass 1 = .ok (.invokevirtual 84, 3) := by decide +kernel
theorem dX6_pass_4 : decode cX6_pass 4 = .ok (.aload_n 0, 1) := by decide +kernel
theorem dX6_pass_5 : decode cX6_pass 5 = .ok (.aload_n 0, 1) := by decide +kernel
theorem dX6_pass_6 : decode cX6_pass 6 = .ok (.iload_n 1, 1) := by decide +kernel
theorem dX6_pass_7 : decode cX6_pass 7 = .ok (.invokevirtual 87, 3) := by decide +kernel
theorem dX6_pass_10 : decode cX6_pass 10 = .ok (.invokevirtual 90, 3) := by decide +kernel
theorem dX6_pass_13 : decode cX6_pass 13 = .ok (.ireturn, 1) := by decide +kernel
set_option maxRecDepth 20000 in
theorem ggX6_passRow_X6_begins : GoodIn wsX6_passRow wsX6_begins := goodIn_r _ [5, 6, 7, 8, 9, 10, 4, 11, 56, 57, 58, 59, 60, 61, 62, 63, 64, 65, 66, 67, 68, 69, 70, 71, 72, 73] (by decide +kernel) (by decide +kernel)
set_option maxRecDepth 20000 in
theorem gX6_passRow_X6_begins : GoodIn wsX6_passRow (wsV RX6 84 RX6 yX6_begins wsX6_begins) := goodIn_app (goodIn_of _ (by decide +kernel)) ggX6_passRow_X6_begins
set_option maxRecDepth 20000 in
theorem ggX6_passRow_X6_goRow : GoodIn wsX6_passRow wsX6_goRow := goodIn_r _ [15, 16, 17, 4, 18, 19, 20, 21, 22, 23, 24, 25, 26, 27, 28, 29, 7, 30, 31, 32, 33, 34, 35, 36, 37, 38, 39, 40, 41, 56, 57, 58, 59, 60, 61, 62, 63, 64, 65, 66, 67, 68, 69, 70, 71, 72, 73] (by decide +kernel) (by decide +kernel)
set_option maxRecDepth 20000 in
theorem gX6_passRow_X6_goRow : GoodIn wsX6_passRow (wsV RX6 93 RX6 yX6_goRow wsX6_goRow) := goodIn_app (goodIn_of _ (by decide +kernel)) ggX6_passRow_X6_goRow
set_option maxRecDepth 20000 in
theorem ggX6_passRow_X6_ends : GoodIn wsX6_passRow wsX6_ends := goodIn_r _ [45, 46, 47, 48, 4, 49, 6, 50, 51, 52, 53, 54, 55, 8, 9, 10, 11, 56, 57, 58, 59, 60, 61, 62, 63, 64, 65, 66, 67, 68, 69, 70, 71, 72, 73] (by decide +kernel) (by decide +kernel)
set_option maxRecDepth 20000 in
theorem gX6_passRow_X6_ends : GoodIn wsX6_passRow (wsV RX6 90 RX6 yX6_ends wsX6_ends) := goodIn_app (goodIn_of _ (by decide +kernel)) ggX6_passRow_X6_ends
theorem dX6_passRow_0 : decode cX6_passRow 0 = .ok (.aload_n 0, 1) := by decide +kernel
theorem dX6_passRow_1 : decode cX6_passRow 1 = .ok (.invokevirtual 84, 3) := by decide +kernel
theorem dX6_passRow_4 : decode cX6_passRow 4 = .ok (.aload_n 0, 1) := by decide +kernel
theorem dX6_passRow_5 : decode cX6_passRow 5 = .ok (.aload_n 0, 1) := by decide +kernel
theorem dX6_passRow_6 : decode cX6_passRow 6 = .ok (.iload_n 1, 1) := by decide +kernel
theorem dX6_passRow_7 : decode cX6_passRow 7 = .ok (.iload_n 2, 1) := by decide +kernel
theorem dX6_passRow_8 : decode cX6_passRow 8 = .ok (.invokevirtual 93, 3) := by decide +kernel
theorem dX6_passRow_11 : decode cX6_passRow 11 = .ok (.invokevirtual 90, 3) := by decide +kernel
theorem dX6_passRow_14 : decode cX6_passRow 14 = .ok (.ireturn, 1) := by decide +kernel
set_option maxRecDepth 20000 in
theorem ggX6_turnDoor_X6_begins : GoodIn wsX6_turnDoor wsX6_begins := goodIn_r _ [5, 6, 7, 8, 9, 10, 4, 11, 48, 49, 50, 51, 52, 53, 54, 55, 56, 57, 58, 59, 60, 61, 62, 63, 64, 65] (by decide +kernel) (by decide +kernel)
set_option maxRecDepth 20000 in
theorem gX6_turnDoor_X6_begins : GoodIn wsX6_turnDoor (wsV RX6 84 RX6 yX6_begins wsX6_begins) := goodIn_app (goodIn_of _ (by decide +kernel)) ggX6_turnDoor_X6_begins
set_option maxRecDepth 20000 in
theorem ggX6_turnDoor_X6_goDoor : GoodIn wsX6_turnDoor wsX6_goDoor := goodIn_r _ [15, 16, 17, 4, 18, 19, 20, 21, 22, 23, 24, 25, 7, 26, 27, 28, 29, 30, 31, 32, 33, 48, 49, 50, 51, 52, 53, 54, 55, 56, 57, 58, 59, 60, 61, 62, 63, 64, 65] (by decide +kernel) (by decide +kernel)
set_option maxRecDepth 20000 in
theorem gX6_turnDoor_X6_goDoor : GoodIn wsX6_turnDoor (wsV RX6 96 RX6 yX6_goDoor wsX6_goDoor) := goodIn_app (goodIn_of _ (by decide +kernel)) ggX6_turnDoor_X6_goDoor
set_option maxRecDepth 20000 in
theorem ggX6_turnDoor_X6_ends : GoodIn wsX6_turnDoor wsX6_ends := goodIn_r _ [37, 38, 39, 40, 4, 41, 6, 42, 43, 44, 45, 46, 47, 8, 9, 10, 11, 48, 49, 50, 51, 52, 53, 54, 55, 56, 57, 58, 59, 60, 61, 62, 63, 64, 65] (by decide +kernel) (by decide +kernel)
set_option maxRecDepth 20000 in
theorem gX6_turnDoor_X6_ends : GoodIn wsX6_turnDoor (wsV RX6 90 RX6 yX6_ends wsX6_ends) := goodIn_app (goodIn_of _ (by decide +kernel)) ggX6_turnDoor_X6_ends
theorem dX6_turnDoor_0 : decode cX6_turnDoor 0 = .ok (.aload_n 0, 1) := by decide +kernel
theorem dX6_turnDoor_1 : decode cX6_turnDoor 1 = .ok (.invokevirtual 84, 3) := by decide +kernel
theorem dX6_turnDoor_4 : decode cX6_turnDoor 4 = .ok (.aload_n 0, 1) := by decide +kernel
theorem dX6_turnDoor_5 : decode cX6_turnDoor 5 = .ok (.aload_n 0, 1) := by decide +kernel
theorem dX6_turnDoor_6 : decode cX6_turnDoor 6 = .ok (.iload_n 1, 1) := by decide +kernel
theorem dX6_turnDoor_7 : decode cX6_turnDoor 7 = .ok (.invokevirtual 96, 3) := by decide +kernel
theorem dX6_turnDoor_10 : decode cX6_turnDoor 10 = .ok (.invokevirtual 90, 3) := by decide +kernel
theorem dX6_turnDoor_13 : decode cX6_turnDoor 13 = .ok (.iconst 1, 1) := by decide +kernel
theorem dX6_turnDoor_14 : decode cX6_turnDoor 14 = .ok (.if_icmp .ne 7, 3) := by decide +kernel
theorem dX6_turnDoor_17 : decode cX6_turnDoor 17 = .ok (.iconst 1, 1) := by decide +kernel
theorem dX6_turnDoor_18 : decode cX6_turnDoor 18 = .ok (.goto 4, 3) := by decide +kernel
theorem dX6_turnDoor_21 : decode cX6_turnDoor 21 = .ok (.iconst 0, 1) := by decide +kernel
theorem dX6_turnDoor_22 : decode cX6_turnDoor 22 = .ok (.ireturn, 1) := by decide +kernel
set_option maxRecDepth 20000 in
theorem ggX6_turnLock_X6_begins : GoodIn wsX6_turnLock wsX6_begins := goodIn_r _ [5, 6, 7, 8, 9, 10, 4, 11, 44, 45, 46, 47, 48, 49, 50, 51, 52, 53, 54, 55, 56, 57, 58, 59, 60, 61] (by decide +kernel) (by decide +kernel)
set_option maxRecDepth 20000 in
theorem gX6_turnLock_X6_begins : GoodIn wsX6_turnLock (wsV RX6 84 RX6 yX6_begins wsX6_begins) := goodIn_app (goodIn_of _ (by decide +kernel)) ggX6_turnLock_X6_begins
set_option maxRecDepth 20000 in
theorem ggX6_turnLock_X6_goTurn : GoodIn wsX6_turnLock wsX6_goTurn := goodIn_r _ [15, 16, 17, 4, 18, 19, 20, 21, 22, 23, 24, 25, 7, 26, 27, 28, 29, 44, 45, 46, 47, 48, 49, 50, 51, 52, 53, 54, 55, 56, 57, 58, 59, 60, 61] (by decide +kernel) (by decide +kernel)
set_option maxRecDepth 20000 in
theorem gX6_turnLock_X6_goTurn : GoodIn wsX6_turnLock (wsV RX6 99 RX6 yX6_goTurn wsX6_goTurn) := goodIn_app (goodIn_of _ (by decide +kernel)) ggX6_turnLock_X6_goTurn
set_option maxRecDepth 20000 in
theorem ggX6_turnLock_X6_ends : GoodIn wsX6_turnLock wsX6_ends := goodIn_r _ [33, 34, 35, 36, 4, 37, 6, 38, 39, 40, 41, 42, 43, 8, 9, 10, 11, 44, 45, 46, 47, 48, 49, 50, 51, 52, 53, 54, 55, 56, 57, 58, 59, 60, 61] (by decide +kernel) (by decide +kernel)
set_option maxRecDepth 20000 in
theorem gX6_turnLock_X6_ends : GoodIn wsX6_turnLock (wsV RX6 90 RX6 yX6_ends wsX6_ends) := goodIn_app (goodIn_of _ (by decide +kernel)) ggX6_turnLock_X6_ends
theorem dX6_turnLock_0 : decode cX6_turnLock 0 = .ok (.aload_n 0, 1) := by decide +kernel
theorem dX6_turnLock_1 : decode cX6_turnLock 1 = .ok (.invokevirtual 84, 3) := by decide +kernel
theorem dX6_turnLock_4 : decode cX6_turnLock 4 = .ok (.aload_n 0, 1) := by decide +kernel
theorem dX6_turnLock_5 : decode cX6_turnLock 5 = .ok (.aload_n 0, 1) := by decide +kernel
theorem dX6_turnLock_6 : decode cX6_turnLock 6 = .ok (.iload_n 1, 1) := by decide +kernel
theorem dX6_turnLock_7 : decode cX6_turnLock 7 = .ok (.bipush 48, 2) := by decide +kernel
theorem dX6_turnLock_9 : decode cX6_turnLock 9 = .ok (.invokevirtual 99, 3) := by decide +kernel
theorem dX6_turnLock_12 : decode cX6_turnLock 12 = .ok (.invokevirtual 90, 3) := by decide +kernel
theorem dX6_turnLock_15 : decode cX6_turnLock 15 = .ok (.iconst 1, 1) := by decide +kernel
theorem dX6_turnLock_16 : decode cX6_turnLock 16 = .ok (.if_icmp .ne 7, 3) := by decide +kernel
theorem dX6_turnLock_19 : decode cX6_turnLock 19 = .ok (.iconst 1, 1) := by decide +kernel
theorem dX6_turnLock_20 : decode cX6_turnLock 20 = .ok (.goto 4, 3) := by decide +kernel
theorem dX6_turnLock_23 : decode cX6_turnLock 23 = .ok (.iconst 0, 1) := by decide +kernel
theorem dX6_turnLock_24 : decode cX6_turnLock 24 = .ok (.ireturn, 1) := by decide +kernel
set_option maxRecDepth 20000 in
theorem ggX6_turnSkip_X6_begins : GoodIn wsX6_turnSkip wsX6_begins := goodIn_r _ [5, 6, 7, 8, 9, 10, 4, 11, 44, 45, 46, 47, 48, 49, 50, 51, 52, 53, 54, 55, 56, 57, 58, 59, 60, 61] (by decide +kernel) (by decide +kernel)
set_option maxRecDepth 20000 in
theorem gX6_turnSkip_X6_begins : GoodIn wsX6_turnSkip (wsV RX6 84 RX6 yX6_begins wsX6_begins) := goodIn_app (goodIn_of _ (by decide +kernel)) ggX6_turnSkip_X6_begins
set_option maxRecDepth 20000 in
theorem ggX6_turnSkip_X6_goTurn : GoodIn wsX6_turnSkip wsX6_goTurn := goodIn_r _ [15, 16, 17, 4, 18, 19, 20, 21, 22, 23, 24, 25, 7, 26, 27, 28, 29, 44, 45, 46, 47, 48, 49, 50, 51, 52, 53, 54, 55, 56, 57, 58, 59, 60, 61] (by decide +kernel) (by decide +kernel)
set_option maxRecDepth 20000 in
theorem gX6_turnSkip_X6_goTurn : GoodIn wsX6_turnSkip (wsV RX6 99 RX6 yX6_goTurn wsX6_goTurn) := goodIn_app (goodIn_of _ (by decide +kernel)) ggX6_turnSkip_X6_goTurn
set_option maxRecDepth 20000 in
theorem ggX6_turnSkip_X6_ends : GoodIn wsX6_turnSkip wsX6_ends := goodIn_r _ [33, 34, 35, 36, 4, 37, 6, 38, 39, 40, 41, 42, 43, 8, 9, 10, 11, 44, 45, 46, 47, 48, 49, 50, 51, 52, 53, 54, 55, 56, 57, 58, 59, 60, 61] (by decide +kernel) (by decide +kernel)
set_option maxRecDepth 20000 in
theorem gX6_turnSkip_X6_ends : GoodIn wsX6_turnSkip (wsV RX6 90 RX6 yX6_ends wsX6_ends) := goodIn_app (goodIn_of _ (by decide +kernel)) ggX6_turnSkip_X6_ends
theorem dX6_turnSkip_0 : decode cX6_turnSkip 0 = .ok (.aload_n 0, 1) := by decide +kernel
theorem dX6_turnSkip_1 : decode cX6_turnSkip 1 = .ok (.invokevirtual 84, 3) := by decide +kernel
theorem dX6_turnSkip_4 : decode cX6_turnSkip 4 = .ok (.aload_n 0, 1) := by decide +kernel
theorem dX6_turnSkip_5 : decode cX6_turnSkip 5 = .ok (.aload_n 0, 1) := by decide +kernel
theorem dX6_turnSkip_6 : decode cX6_turnSkip 6 = .ok (.iload_n 1, 1) := by decide +kernel
theorem dX6_turnSkip_7 : decode cX6_turnSkip 7 = .ok (.sipush 144, 3) := by decide +kernel
theorem dX6_turnSkip_10 : decode cX6_turnSkip 10 = .ok (.invokevirtual 99, 3) := by decide +kernel
theorem dX6_turnSkip_13 : decode cX6_turnSkip 13 = .ok (.invokevirtual 90, 3) := by decide +kernel
theorem dX6_turnSkip_16 : decode cX6_turnSkip 16 = .ok (.iconst 1, 1) := by decide +kernel
theorem dX6_turnSkip_17 : decode cX6_turnSkip 17 = .ok (.if_icmp .ne 7, 3) := by decide +kernel
theorem dX6_turnSkip_20 : decode cX6_turnSkip 20 = .ok (.iconst 1, 1) := by decide +kernel
theorem dX6_turnSkip_21 : decode cX6_turnSkip 21 = .ok (.goto 4, 3) := by decide +kernel
theorem dX6_turnSkip_24 : decode cX6_turnSkip 24 = .ok (.iconst 0, 1) := by decide +kernel
theorem dX6_turnSkip_25 : decode cX6_turnSkip 25 = .ok (.ireturn, 1) := by decide +kernel
set_option maxRecDepth 20000 in
theorem ggX6_store_X6_begins : GoodIn wsX6_store wsX6_begins := goodIn_r _ [5, 6, 7, 8, 9, 10, 4, 11, 55, 56, 57, 58, 59, 60, 61, 62, 63, 64, 65, 66, 67, 68, 69, 70, 71, 72] (by decide +kernel) (by decide +kernel)
set_option maxRecDepth 20000 in
theorem gX6_store_X6_begins : GoodIn wsX6_store (wsV RX6 84 RX6 yX6_begins wsX6_begins) := goodIn_app (goodIn_of _ (by decide +kernel)) ggX6_store_X6_begins
set_option maxRecDepth 20000 in
theorem ggX6_store_X6_goStore : GoodIn wsX6_store wsX6_goStore := goodIn_r _ [15, 16, 17, 4, 18, 19, 20, 21, 22, 23, 24, 25, 26, 27, 28, 29, 30, 31, 32, 7, 33, 34, 35, 36, 37, 38, 39, 40, 55, 56, 57, 58, 59, 60, 61, 62, 63, 64, 65, 66, 67, 68, 69, 70, 71, 72] (by decide +kernel) (by decide +kernel)
set_option maxRecDepth 20000 in
theorem gX6_store_X6_goStore : GoodIn wsX6_store (wsV RX6 102 RX6 yX6_goStore wsX6_goStore) := goodIn_app (goodIn_of _ (by decide +kernel)) ggX6_store_X6_goStore
set_option maxRecDepth 20000 in
theorem ggX6_store_X6_ends : GoodIn wsX6_store wsX6_ends := goodIn_r _ [44, 45, 46, 47, 4, 48, 6, 49, 50, 51, 52, 53, 54, 8, 9, 10, 11, 55, 56, 57, 58, 59, 60, 61, 62, 63, 64, 65, 66, 67, 68, 69, 70, 71, 72] (by decide +kernel) (by decide +kernel)
set_option maxRecDepth 20000 in
theorem gX6_store_X6_ends : GoodIn wsX6_store (wsV RX6 90 RX6 yX6_ends wsX6_ends) := goodIn_app (goodIn_of _ (by decide +kernel)) ggX6_store_X6_ends
theorem dX6_store_0 : decode cX6_store 0 = .ok (.aload_n 0, 1) := by decide +kernel
theorem dX6_store_1 : decode cX6_store 1 = .ok (.invokevirtual 84, 3) := by decide +kernel
theorem dX6_store_4 : decode cX6_store 4 = .ok (.aload_n 0, 1) := by decide +kernel
theorem dX6_store_5 : decode cX6_store 5 = .ok (.aload_n 0, 1) := by decide +kernel
theorem dX6_store_6 : decode cX6_store 6 = .ok (.iload_n 1, 1) := by decide +kernel
theorem dX6_store_7 : decode cX6_store 7 = .ok (.iload_n 2, 1) := by decide +kernel
theorem dX6_store_8 : decode cX6_store 8 = .ok (.invokevirtual 102, 3) := by decide +kernel
theorem dX6_store_11 : decode cX6_store 11 = .ok (.invokevirtual 90, 3) := by decide +kernel
theorem dX6_store_14 : decode cX6_store 14 = .ok (.ireturn, 1) := by decide +kernel
set_option maxRecDepth 20000 in
theorem ggX6_takeOut_X6_begins : GoodIn wsX6_takeOut wsX6_begins := goodIn_r _ [5, 6, 7, 8, 9, 10, 4, 11, 44, 45, 46, 47, 48, 49, 50, 51, 52, 53, 54, 55, 56, 57, 58, 59, 60, 61] (by decide +kernel) (by decide +kernel)
set_option maxRecDepth 20000 in
theorem gX6_takeOut_X6_begins : GoodIn wsX6_takeOut (wsV RX6 84 RX6 yX6_begins wsX6_begins) := goodIn_app (goodIn_of _ (by decide +kernel)) ggX6_takeOut_X6_begins
set_option maxRecDepth 20000 in
theorem ggX6_takeOut_X6_goOut : GoodIn wsX6_takeOut wsX6_goOut := goodIn_r _ [15, 16, 17, 4, 18, 19, 20, 21, 22, 23, 24, 25, 7, 26, 27, 28, 29, 44, 45, 46, 47, 48, 49, 50, 51, 52, 53, 54, 55, 56, 57, 58, 59, 60, 61] (by decide +kernel) (by decide +kernel)
set_option maxRecDepth 20000 in
theorem gX6_takeOut_X6_goOut : GoodIn wsX6_takeOut (wsV RX6 105 RX6 yX6_goOut wsX6_goOut) := goodIn_app (goodIn_of _ (by decide +kernel)) ggX6_takeOut_X6_goOut
set_option maxRecDepth 20000 in
theorem ggX6_takeOut_X6_ends : GoodIn wsX6_takeOut wsX6_ends := goodIn_r _ [33, 34, 35, 36, 4, 37, 6, 38, 39, 40, 41, 42, 43, 8, 9, 10, 11, 44, 45, 46, 47, 48, 49, 50, 51, 52, 53, 54, 55, 56, 57, 58, 59, 60, 61] (by decide +kernel) (by decide +kernel)
set_option maxRecDepth 20000 in
theorem gX6_takeOut_X6_ends : GoodIn wsX6_takeOut (wsV RX6 90 RX6 yX6_ends wsX6_ends) := goodIn_app (goodIn_of _ (by decide +kernel)) ggX6_takeOut_X6_ends
theorem dX6_takeOut_0 : decode cX6_takeOut 0 = .ok (.aload_n 0, 1) := by decide +kernel
theorem dX6_takeOut_1 : decode cX6_takeOut 1 = .ok (.invokevirtual 84, 3) := by decide +kernel
theorem dX6_takeOut_4 : decode cX6_takeOut 4 = .ok (.aload_n 0, 1) := by decide +kernel
theorem dX6_takeOut_5 : decode cX6_takeOut 5 = .ok (.aload_n 0, 1) := by decide +kernel
theorem dX6_takeOut_6 : decode cX6_takeOut 6 = .ok (.iload_n 1, 1) := by decide +kernel
theorem dX6_takeOut_7 : decode cX6_takeOut 7 = .ok (.invokevirtual 105, 3) := by decide +kernel
theorem dX6_takeOut_10 : decode cX6_takeOut 10 = .ok (.invokevirtual 90, 3) := by decide +kernel
theorem dX6_takeOut_13 : decode cX6_takeOut 13 = .ok (.ireturn, 1) := by decide +kernel
set_option maxRecDepth 20000 in
theorem ggX6_undo_X6_fails : GoodIn wsX6_undo wsX6_fails := goodIn_r _ [9, 1, 13, 14, 15, 16, 17, 18, 19, 20, 21, 22, 23, 24, 25, 26, 27, 28, 29, 30] (by decide +kernel) (by decide +kernel)
set_option maxRecDepth 20000 in
theorem gX6_undo_X6_fails : GoodIn wsX6_undo (wsV RX6 39 RX6 yX6_fails wsX6_fails) := goodIn_app (goodIn_of _ (by decide +kernel)) ggX6_undo_X6_fails
set_option maxRecDepth 20000 in
theorem ggX6_undo_X6_copies : GoodIn wsX6_undo wsX6_copies := goodIn_r _ [12] (by decide +kernel) (by decide +kernel)
set_option maxRecDepth 20000 in
theorem gX6_undo_X6_copies : GoodIn wsX6_undo (va_wsS RX6 32 yX6_copies wsX6_copies) := goodIn_app (goodIn_of _ (by decide +kernel)) ggX6_undo_X6_copies
theorem dX6_undo_0 : decode cX6_undo 0 = .ok (.aload_n 0, 1) := by decide +kernel
theorem dX6_undo_1 : decode cX6_undo 1 = .ok (.iconst 0, 1) := by decide +kernel
theorem dX6_undo_2 : decode cX6_undo 2 = .ok (.putfield 28, 3) := by decide +kernel
theorem dX6_undo_5 : decode cX6_undo 5 = .ok (.aload_n 0, 1) := by decide +kernel
theorem dX6_undo_6 : decode cX6_undo 6 = .ok (.getfield 36, 3) := by decide +kernel
theorem dX6_undo_9 : decode cX6_undo 9 = .ok (.ifCond .ne 9, 3) := by decide +kernel
theorem dX6_undo_12 : decode cX6_undo 12 = .ok (.aload_n 0, 1) := by decide +kernel
theorem dX6_undo_13 : decode cX6_undo 13 = .ok (.iconst 1, 1) := by decide +kernel
theorem dX6_undo_14 : decode cX6_undo 14 = .ok (.invokevirtual 39, 3) := by decide +kernel
theorem dX6_undo_17 : decode cX6_undo 17 = .ok (.ireturn, 1) := by decide +kernel
theorem dX6_undo_18 : decode cX6_undo 18 = .ok (.aload_n 0, 1) := by decide +kernel
theorem dX6_undo_19 : decode cX6_undo 19 = .ok (.dup, 1) := by decide +kernel
theorem dX6_undo_20 : decode cX6_undo 20 = .ok (.getfield 36, 3) := by decide +kernel
theorem dX6_undo_23 : decode cX6_undo 23 = .ok (.iconst 1, 1) := by decide +kernel
theorem dX6_undo_24 : decode cX6_undo 24 = .ok (.isub, 1) := by decide +kernel
theorem dX6_undo_25 : decode cX6_undo 25 = .ok (.putfield 36, 3) := by decide +kernel
theorem dX6_undo_28 : decode cX6_undo 28 = .ok (.aload_n 0, 1) := by decide +kernel
theorem dX6_undo_29 : decode cX6_undo 29 = .ok (.getfield 22, 3) := by decide +kernel
theorem dX6_undo_32 : decode cX6_undo 32 = .ok (.sipush 288, 3) := by decide +kernel
theorem dX6_undo_35 : decode cX6_undo 35 = .ok (.aload_n 0, 1) := by decide +kernel
theorem dX6_undo_36 : decode cX6_undo 36 = .ok (.getfield 36, 3) := by decide +kernel
theorem dX6_undo_39 : decode cX6_undo 39 = .ok (.imul, 1) := by decide +kernel
theorem dX6_undo_40 : decode cX6_undo 40 = .ok (.aload_n 0, 1) := by decide +kernel
theorem dX6_undo_41 : decode cX6_undo 41 = .ok (.getfield 7, 3) := by decide +kernel
theorem dX6_undo_44 : decode cX6_undo 44 = .ok (.iconst 0, 1) := by decide +kernel
theorem dX6_undo_45 : decode cX6_undo 45 = .ok (.invokestatic 32, 3) := by decide +kernel
theorem dX6_undo_48 : decode cX6_undo 48 = .ok (.aload_n 0, 1) := by decide +kernel
theorem dX6_undo_49 : decode cX6_undo 49 = .ok (.getfield 36, 3) := by decide +kernel
theorem dX6_undo_52 : decode cX6_undo 52 = .ok (.ireturn, 1) := by decide +kernel
set_option maxRecDepth 20000 in
theorem ggX6_keep_X6_copies : GoodIn wsX6_keep wsX6_copies := goodIn_r _ [8] (by decide +kernel) (by decide +kernel)
