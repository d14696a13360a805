set_option maxRecDepth 20000 in
theorem ggX0_init_X2_init : GoodIn wsX0_init wsX2_init := goodIn_r _ [10, 11, 2, 3, 12, 13, 14, 17, 18, 19, 20, 21, 22, 23] rfl (by decide +kernel)
set_option maxRecDepth 20000 in
theorem gX0_init_X2_init : GoodIn wsX0_init (wsX2_init) := ggX0_init_X2_init
theorem dX0_init_0 : decode cX0_init 0 = .ok (.aload_n 0, 1) := by decide +kernel
theorem dX0_init_1 : decode cX0_init 1 = .ok (.invokespecial 3, 3) := by decide +kernel
theorem dX0_init_4 : decode cX0_init 4 = .ok (.aload_n 0, 1) := by decide +kernel
theorem dX0_init_5 : decode cX0_init 5 = .ok (.iconst 4, 1) := by decide +kernel
theorem dX0_init_6 : decode cX0_init 6 = .ok (.anewarray 9, 3) := by decide +kernel
theorem dX0_init_9 : decode cX0_init 9 = .ok (.putfield 11, 3) := by decide +kernel
theorem dX0_init_12 : decode cX0_init 12 = .ok (.iconst 0, 1) := by decide +kernel
theorem dX0_init_13 : decode cX0_init 13 = .ok (.istore_n 1, 1) := by decide +kernel
theorem dX0_init_14 : decode cX0_init 14 = .ok (.iload_n 1, 1) := by decide +kernel
theorem dX0_init_15 : decode cX0_init 15 = .ok (.aload_n 0, 1) := by decide +kernel
theorem dX0_init_16 : decode cX0_init 16 = .ok (.getfield 11, 3) := by decide +kernel
theorem dX0_init_19 : decode cX0_init 19 = .ok (.arraylength, 1) := by decide +kernel
theorem dX0_init_20 : decode cX0_init 20 = .ok (.if_icmp .ge 22, 3) := by decide +kernel
theorem dX0_init_23 : decode cX0_init 23 = .ok (.aload_n 0, 1) := by decide +kernel
theorem dX0_init_24 : decode cX0_init 24 = .ok (.getfield 11, 3) := by decide +kernel
theorem dX0_init_27 : decode cX0_init 27 = .ok (.iload_n 1, 1) := by decide +kernel
theorem dX0_init_28 : decode cX0_init 28 = .ok (.new 9, 3) := by decide +kernel
theorem dX0_init_31 : decode cX0_init 31 = .ok (.dup, 1) := by decide +kernel
theorem dX0_init_32 : decode cX0_init 32 = .ok (.invokespecial 17, 3) := by decide +kernel
theorem dX0_init_35 : decode cX0_init 35 = .ok (.aastore, 1) := by decide +kernel
theorem dX0_init_36 : decode cX0_init 36 = .ok (.iinc 1 1, 3) := by decide +kernel
theorem dX0_init_39 : decode cX0_init 39 = .ok (.goto (-25), 3) := by decide +kernel
theorem dX0_init_42 : decode cX0_init 42 = .ok (.return_, 1) := by decide +kernel
set_option maxRecDepth 20000 in
theorem ggX0_push_X0_dropOldest : GoodIn wsX0_push wsX0_dropOldest := goodIn_r _ [7, 2, 1, 23, 24] rfl (by decide +kernel)
set_option maxRecDepth 20000 in
theorem gX0_push_X0_dropOldest : GoodIn wsX0_push (wsV RX0 22 RX0 yX0_dropOldest wsX0_dropOldest) := goodIn_app (goodIn_of _ (by decide +kernel)) ggX0_push_X0_dropOldest
set_option maxRecDepth 20000 in
theorem ggX0_push_X2_copyFrom : GoodIn wsX0_push wsX2_copyFrom := goodIn_r _ [12, 13, 14, 15, 16, 17, 18, 19, 20, 21, 11, 22, 25, 26, 27, 28, 29, 30, 31] rfl (by decide +kernel)
set_option maxRecDepth 20000 in
theorem gX0_push_X2_copyFrom : GoodIn wsX0_push (wsV RX0 25 RX2 yX2_copyFrom wsX2_copyFrom) := goodIn_app (goodIn_of _ (by decide +kernel)) ggX0_push_X2_copyFrom
theorem dX0_push_0 : decode cX0_push 0 = .ok (.aload_n 0, 1) := by decide +kernel
theorem dX0_push_1 : decode cX0_push 1 = .ok (.getfield 18, 3) := by decide +kernel
theorem dX0_push_4 : decode cX0_push 4 = .ok (.aload_n 0, 1) := by decide +kernel
theorem dX0_push_5 : decode cX0_push 5 = .ok (.getfield 11, 3) := by decide +kernel
theorem dX0_push_8 : decode cX0_push 8 = .ok (.arraylength, 1) := by decide +kernel
theorem dX0_push_9 : decode cX0_push 9 = .ok (.if_icmp .lt 7, 3) := by decide +kernel
theorem dX0_push_12 : decode cX0_push 12 = .ok (.aload_n 0, 1) := by decide +kernel
theorem dX0_push_13 : decode cX0_push 13 = .ok (.invokevirtual 22, 3) := by decide +kernel
theorem dX0_push_16 : decode cX0_push 16 = .ok (.aload_n 0, 1) := by decide +kernel
theorem dX0_push_17 : decode cX0_push 17 = .ok (.getfield 18, 3) := by decide +kernel
theorem dX0_push_20 : decode cX0_push 20 = .ok (.ifCond .lt 27, 3) := by decide +kernel
theorem dX0_push_23 : decode cX0_push 23 = .ok (.aload_n 0, 1) := by decide +kernel
theorem dX0_push_24 : decode cX0_push 24 = .ok (.getfield 18, 3) := by decide +kernel
theorem dX0_push_27 : decode cX0_push 27 = .ok (.aload_n 0, 1) := by decide +kernel
theorem dX0_push_28 : decode cX0_push 28 = .ok (.getfield 11, 3) := by decide +kernel
theorem dX0_push_31 : decode cX0_push 31 = .ok (.arraylength, 1) := by decide +kernel
theorem dX0_push_32 : decode cX0_push 32 = .ok (.if_icmp .ge 15, 3) := by decide +kernel
theorem dX0_push_35 : decode cX0_push 35 = .ok (.aload_n 0, 1) := by decide +kernel
theorem dX0_push_36 : decode cX0_push 36 = .ok (.getfield 11, 3) := by decide +kernel
theorem dX0_push_39 : decode cX0_push 39 = .ok (.aload_n 0, 1) := by decide +kernel
theorem dX0_push_40 : decode cX0_push 40 = .ok (.getfield 18, 3) := by decide +kernel
theorem dX0_push_43 : decode cX0_push 43 = .ok (.aaload, 1) := by decide +kernel
theorem dX0_push_44 : decode cX0_push 44 = .ok (.goto 4, 3) := by decide +kernel
theorem dX0_push_47 : decode cX0_push 47 = .ok (.aconst_null, 1) := by decide +kernel
theorem dX0_push_48 : decode cX0_push 48 = .ok (.astore_n 2, 1) := by decide +kernel
theorem dX0_push_49 : decode cX0_push 49 = .ok (.aload_n 2, 1) := by decide +kernel
theorem dX0_push_50 : decode cX0_push 50 = .ok (.ifnull 18, 3) := by decide +kernel
theorem dX0_push_53 : decode cX0_push 53 = .ok (.aload_n 2, 1) := by decide +kernel
theorem dX0_push_54 : decode cX0_push 54 = .ok (.aload_n 1, 1) := by decide +kernel
theorem dX0_push_55 : decode cX0_push 55 = .ok (.invokevirtual 25, 3) := by decide +kernel
theorem dX0_push_58 : decode cX0_push 58 = .ok (.aload_n 0, 1) := by decide +kernel
theorem dX0_push_59 : decode cX0_push 59 = .ok (.dup, 1) := by decide +kernel
theorem dX0_push_60 : decode cX0_push 60 = .ok (.getfield 18, 3) := by decide +kernel
theorem dX0_push_63 : decode cX0_push 63 = .ok (.iconst 1, 1) := by decide +kernel
theorem dX0_push_64 : decode cX0_push 64 = .ok (.iadd, 1) := by decide +kernel
theorem dX0_push_65 : decode cX0_push 65 = .ok (.putfield 18, 3) := by decide +kernel
theorem dX0_push_68 : decode cX0_push 68 = .ok (.return_, 1) := by decide +kernel
theorem dX0_dropOldest_0 : decode cX0_dropOldest 0 = .ok (.aload_n 0, 1) := by decide +kernel
theorem dX0_dropOldest_1 : decode cX0_dropOldest 1 = .ok (.getfield 11, 3) := by decide +kernel
theorem dX0_dropOldest_4 : decode cX0_dropOldest 4 = .ok (.arraylength, 1) := by decide +kernel
theorem dX0_dropOldest_5 : decode cX0_dropOldest 5 = .ok (.ifCond .ne 4, 3) := by decide +kernel
theorem dX0_dropOldest_8 : decode cX0_dropOldest 8 = .ok (.return_, 1) := by decide +kernel
theorem dX0_dropOldest_9 : decode cX0_dropOldest 9 = .ok (.aload_n 0, 1) := by decide +kernel
theorem dX0_dropOldest_10 : decode cX0_dropOldest 10 = .ok (.getfield 11, 3) := by decide +kernel
theorem dX0_dropOldest_13 : decode cX0_dropOldest 13 = .ok (.iconst 0, 1) := by decide +kernel
theorem dX0_dropOldest_14 : decode cX0_dropOldest 14 = .ok (.aaload, 1) := by decide +kernel
theorem dX0_dropOldest_15 : decode cX0_dropOldest 15 = .ok (.astore_n 1, 1) := by decide +kernel
theorem dX0_dropOldest_16 : decode cX0_dropOldest 16 = .ok (.iconst 1, 1) := by decide +kernel
theorem dX0_dropOldest_17 : decode cX0_dropOldest 17 = .ok (.istore_n 2, 1) := by decide +kernel
theorem dX0_dropOldest_18 : decode cX0_dropOldest 18 = .ok (.iload_n 2, 1) := by decide +kernel
theorem dX0_dropOldest_19 : decode cX0_dropOldest 19 = .ok (.aload_n 0, 1) := by decide +kernel
theorem dX0_dropOldest_20 : decode cX0_dropOldest 20 = .ok (.getfield 11, 3) := by decide +kernel
theorem dX0_dropOldest_23 : decode cX0_dropOldest 23 = .ok (.arraylength, 1) := by decide +kernel
theorem dX0_dropOldest_24 : decode cX0_dropOldest 24 = .ok (.if_icmp .ge 23, 3) := by decide +kernel
theorem dX0_dropOldest_27 : decode cX0_dropOldest 27 = .ok (.aload_n 0, 1) := by decide +kernel
theorem dX0_dropOldest_28 : decode cX0_dropOldest 28 = .ok (.getfield 11, 3) := by decide +kernel
theorem dX0_dropOldest_31 : decode cX0_dropOldest 31 = .ok (.iload_n 2, 1) := by decide +kernel
theorem dX0_dropOldest_32 : decode cX0_dropOldest 32 = .ok (.iconst 1, 1) := by decide +kernel
theorem dX0_dropOldest_33 : decode cX0_dropOldest 33 = .ok (.isub, 1) := by decide +kernel
theorem dX0_dropOldest_34 : decode cX0_dropOldest 34 = .ok (.aload_n 0, 1) := by decide +kernel
theorem dX0_dropOldest_35 : decode cX0_dropOldest 35 = .ok (.getfield 11, 3) := by decide +kernel
theorem dX0_dropOldest_38 : decode cX0_dropOldest 38 = .ok (.iload_n 2, 1) := by decide +kernel
theorem dX0_dropOldest_39 : decode cX0_dropOldest 39 = .ok (.aaload, 1) := by decide +kernel
theorem dX0_dropOldest_40 : decode cX0_dropOldest 40 = .ok (.aastore, 1) := by decide +kernel
theorem dX0_dropOldest_41 : decode cX0_dropOldest 41 = .ok (.iinc 2 1, 3) := by decide +kernel
theorem dX0_dropOldest_44 : decode cX0_dropOldest 44 = .ok (.goto (-26), 3) := by decide +kernel
theorem dX0_dropOldest_47 : decode cX0_dropOldest 47 = .ok (.aload_n 0, 1) := by decide +kernel
theorem dX0_dropOldest_48 : decode cX0_dropOldest 48 = .ok (.getfield 11, 3) := by decide +kernel
theorem dX0_dropOldest_51 : decode cX0_dropOldest 51 = .ok (.aload_n 0, 1) := by decide +kernel
theorem dX0_dropOldest_52 : decode cX0_dropOldest 52 = .ok (.getfield 11, 3) := by decide +kernel
theorem dX0_dropOldest_55 : decode cX0_dropOldest 55 = .ok (.arraylength, 1) := by decide +kernel
theorem dX0_dropOldest_56 : decode cX0_dropOldest 56 = .ok (.iconst 1, 1) := by decide +kernel
theorem dX0_dropOldest_57 : decode cX0_dropOldest 57 = .ok (.isub, 1) := by decide +kernel
theorem dX0_dropOldest_58 : decode cX0_dropOldest 58 = .ok (.aload_n 1, 1) := by decide +kernel
theorem dX0_dropOldest_59 : decode cX0_dropOldest 59 = .ok (.aastore, 1) := by decide +kernel
theorem dX0_dropOldest_60 : decode cX0_dropOldest 60 = .ok (.aload_n 0, 1) := by decide +kernel
theorem dX0_dropOldest_61 : decode cX0_dropOldest 61 = .ok (.aload_n 0, 1) := by decide +kernel
theorem dX0_dropOldest_62 : decode cX0_dropOldest 62 = .ok (.getfield 11, 3) := by decide +kernel
theorem dX0_dropOldest_65 : decode cX0_dropOldest 65 = .ok (.arraylength, 1) := by decide +kernel
theorem dX0_dropOldest_66 : decode cX0_dropOldest 66 = .ok (.iconst 1, 1) := by decide +kernel
theorem dX0_dropOldest_67 : decode cX0_dropOldest 67 = .ok (.isub, 1) := by decide +kernel
theorem dX0_dropOldest_68 : decode cX0_dropOldest 68 = .ok (.putfield 18, 3) := by decide +kernel
theorem dX0_dropOldest_71 : decode cX0_dropOldest 71 = .ok (.return_, 1) := by decide +kernel
set_option maxRecDepth 20000 in
theorem ggX0_popInto_X2_copyFrom : GoodIn wsX0_popInto wsX2_copyFrom := goodIn_r _ [7, 8, 9, 10, 11, 12, 13, 14, 15, 16, 6, 17, 20, 21, 22, 23, 24, 25, 26] rfl (by decide +kernel)
set_option maxRecDepth 20000 in
theorem gX0_popInto_X2_copyFrom : GoodIn wsX0_popInto (wsV RX0 25 RX2 yX2_copyFrom wsX2_copyFrom) := goodIn_app (goodIn_of _ (by decide +kernel)) ggX0_popInto_X2_copyFrom
theorem dX0_popInto_0 : decode cX0_popInto 0 = .ok (.aload_n 0, 1) := by decide +kernel
theorem dX0_popInto_1 : decode cX0_popInto 1 = .ok (.getfield 18, 3) := by decide +kernel
theorem dX0_popInto_4 : decode cX0_popInto 4 = .ok (.iconst 1, 1) := by decide +kernel
theorem dX0_popInto_5 : decode cX0_popInto 5 = .ok (.if_icmp .lt 42, 3) := by decide +kernel
theorem dX0_popInto_8 : decode cX0_popInto 8 = .ok (.aload_n 0, 1) := by decide +kernel
theorem dX0_popInto_9 : decode cX0_popInto 9 = .ok (.getfield 18, 3) := by decide +kernel
theorem dX0_popInto_12 : decode cX0_popInto 12 = .ok (.aload_n 0, 1) := by decide +kernel
theorem dX0_popInto_13 : decode cX0_popInto 13 = .ok (.getfield 11, 3) := by decide +kernel
theorem dX0_popInto_16 : decode cX0_popInto 16 = .ok (.arraylength, 1) := by decide +kernel
theorem dX0_popInto_17 : decode cX0_popInto 17 = .ok (.if_icmp .gt 30, 3) := by decide +kernel
theorem dX0_popInto_20 : decode cX0_popInto 20 = .ok (.aload_n 1, 1) := by decide +kernel
theorem dX0_popInto_21 : decode cX0_popInto 21 = .ok (.ifnull 26, 3) := by decide +kernel
theorem dX0_popInto_24 : decode cX0_popInto 24 = .ok (.aload_n 0, 1) := by decide +kernel
theorem dX0_popInto_25 : decode cX0_popInto 25 = .ok (.dup, 1) := by decide +kernel
theorem dX0_popInto_26 : decode cX0_popInto 26 = .ok (.getfield 18, 3) := by decide +kernel
theorem dX0_popInto_29 : decode cX0_popInto 29 = .ok (.iconst 1, 1) := by decide +kernel
theorem dX0_popInto_30 : decode cX0_popInto 30 = .ok (.isub, 1) := by decide +kernel
theorem dX0_popInto_31 : decode cX0_popInto 31 = .ok (.putfield 18, 3) := by decide +kernel
theorem dX0_popInto_34 : decode cX0_popInto 34 = .ok (.aload_n 1, 1) := by decide +kernel
theorem dX0_popInto_35 : decode cX0_popInto 35 = .ok (.aload_n 0, 1) := by decide +kernel
theorem dX0_popInto_36 : decode cX0_popInto 36 = .ok (.getfield 11, 3) := by decide +kernel
theorem dX0_popInto_39 : decode cX0_popInto 39 = .ok (.aload_n 0, 1) := by decide +kernel
theorem dX0_popInto_40 : decode cX0_popInto 40 = .ok (.getfield 18, 3) := by decide +kernel
theorem dX0_popInto_43 : decode cX0_popInto 43 = .ok (.aaload, 1) := by decide +kernel
theorem dX0_popInto_44 : decode cX0_popInto 44 = .ok (.invokevirtual 25, 3) := by decide +kernel
theorem dX0_popInto_47 : decode cX0_popInto 47 = .ok (.return_, 1) := by decide +kernel
theorem dX1_init_0 : decode cX1_init 0 = .ok (.aload_n 0, 1) := by decide +kernel
theorem dX1_init_1 : decode cX1_init 1 = .ok (.invokespecial 3, 3) := by decide +kernel
theorem dX1_init_4 : decode cX1_init 4 = .ok (.return_, 1) := by decide +kernel
set_option maxRecDepth 20000 in
theorem ggX1_readFrom_X3_codeAt : GoodIn wsX1_readFrom wsX3_codeAt := goodIn_r _ [10, 11, 12, 36, 37] rfl (by decide +kernel)
set_option maxRecDepth 20000 in
theorem gX1_readFrom_X3_codeAt : GoodIn wsX1_readFrom (wsV RX1 15 RX3 yX3_codeAt wsX3_codeAt) := goodIn_app (goodIn_of _ (by decide +kernel)) ggX1_readFrom_X3_codeAt
set_option maxRecDepth 20000 in
theorem ggX1_readFrom_X1_isVerb : GoodIn wsX1_readFrom wsX1_isVerb := goodIn_r _ [16, 17, 18, 15, 19] rfl (by decide +kernel)
set_option maxRecDepth 20000 in
theorem gX1_readFrom_X1_isVerb : GoodIn wsX1_readFrom (va_wsS RX1 30 yX1_isVerb wsX1_isVerb) := goodIn_app (goodIn_of _ (by decide +kernel)) ggX1_readFrom_X1_isVerb
set_option maxRecDepth 20000 in
theorem ggX1_readFrom_X1_readNumber : GoodIn wsX1_readFrom wsX1_readNumber := goodIn_r _ [23, 1, 5, 6, 7, 8, 9, 10, 11, 12, 24, 25, 15, 26, 31, 32, 33, 34, 35, 36, 37] rfl (by decide +kernel)
set_option maxRecDepth 20000 in
theorem gX1_readFrom_X1_readNumber : GoodIn wsX1_readFrom (wsV RX1 34 RX1 yX1_readNumber wsX1_readNumber) := goodIn_app (goodIn_of _ (by decide +kernel)) ggX1_readFrom_X1_readNumber
set_option maxRecDepth 20000 in
theorem ggX1_readFrom_X1_takesTwoNumbers : GoodIn wsX1_readFrom wsX1_takesTwoNumbers := goodIn_r _ [19] rfl (by decide +kernel)
set_option maxRecDepth 20000 in
theorem gX1_readFrom_X1_takesTwoNumbers : GoodIn wsX1_readFrom (va_wsS RX1 41 yX1_takesTwoNumbers wsX1_takesTwoNumbers) := goodIn_app (goodIn_of _ (by decide +kernel)) ggX1_readFrom_X1_takesTwoNumbers
set_option maxRecDepth 20000 in
theorem ggX1_readFrom_X1_readSign : GoodIn wsX1_readFrom wsX1_readSign := goodIn_r _ [30, 1, 6, 7, 8, 9, 10, 11, 12, 31, 32, 33, 34, 35, 36, 37] rfl (by decide +kernel)
set_option maxRecDepth 20000 in
theorem gX1_readFrom_X1_readSign : GoodIn wsX1_readFrom (wsV RX1 44 RX1 yX1_readSign wsX1_readSign) := goodIn_app (goodIn_of _ (by decide +kernel)) ggX1_readFrom_X1_readSign
theorem dX1_readFrom_0 : decode cX1_readFrom 0 = .ok (.aload_n 0, 1) := by decide +kernel
theorem dX1_readFrom_1 : decode cX1_readFrom 1 = .ok (.iload_n 2, 1) := by decide +kernel
theorem dX1_readFrom_2 : decode cX1_readFrom 2 = .ok (.putfield 9, 3) := by decide +kernel
theorem dX1_readFrom_5 : decode cX1_readFrom 5 = .ok (.aload_n 0, 1) := by decide +kernel
theorem dX1_readFrom_6 : decode cX1_readFrom 6 = .ok (.aload_n 1, 1) := by decide +kernel
theorem dX1_readFrom_7 : decode cX1_readFrom 7 = .ok (.iload_n 2, 1) := by decide +kernel
theorem dX1_readFrom_8 : decode cX1_readFrom 8 = .ok (.invokevirtual 15, 3) := by decide +kernel
theorem dX1_readFrom_11 : decode cX1_readFrom 11 = .ok (.putfield 21, 3) := by decide +kernel
theorem dX1_readFrom_14 : decode cX1_readFrom 14 = .ok (.aload_n 0, 1) := by decide +kernel
theorem dX1_readFrom_15 : decode cX1_readFrom 15 = .ok (.iconst 0, 1) := by decide +kernel
theorem dX1_readFrom_16 : decode cX1_readFrom 16 = .ok (.putfield 24, 3) := by decide +kernel
theorem dX1_readFrom_19 : decode cX1_readFrom 19 = .ok (.aload_n 0, 1) := by decide +kernel
theorem dX1_readFrom_20 : decode cX1_readFrom 20 = .ok (.iconst 0, 1) := by decide +kernel
theorem dX1_readFrom_21 : decode cX1_readFrom 21 = .ok (.putfield 27, 3) := by decide +kernel
theorem dX1_readFrom_24 : decode cX1_readFrom 24 = .ok (.aload_n 0, 1) := by decide +kernel
theorem dX1_readFrom_25 : decode cX1_readFrom 25 = .ok (.getfield 21, 3) := by decide +kernel
theorem dX1_readFrom_28 : decode cX1_readFrom 28 = .ok (.invokestatic 30, 3) := by decide +kernel
theorem dX1_readFrom_31 : decode cX1_readFrom 31 = .ok (.ifCond .ne 5, 3) := by decide +kernel
theorem dX1_readFrom_34 : decode cX1_readFrom 34 = .ok (.iconst 0, 1) := by decide +kernel
theorem dX1_readFrom_35 : decode cX1_readFrom 35 = .ok (.ireturn, 1) := by decide +kernel
theorem dX1_readFrom_36 : decode cX1_readFrom 36 = .ok (.aload_n 0, 1) := by decide +kernel
theorem dX1_readFrom_37 : decode cX1_readFrom 37 = .ok (.dup, 1) := by decide +kernel
theorem dX1_readFrom_38 : decode cX1_readFrom 38 = .ok (.getfield 9, 3) := by decide +kernel
theorem dX1_readFrom_41 : decode cX1_readFrom 41 = .ok (.iconst 1, 1) := by decide +kernel
theorem dX1_readFrom_42 : decode cX1_readFrom 42 = .ok (.iadd, 1) := by decide +kernel
theorem dX1_readFrom_43 : decode cX1_readFrom 43 = .ok (.putfield 9, 3) := by decide +kernel
theorem dX1_readFrom_46 : decode cX1_readFrom 46 = .ok (.aload_n 0, 1) := by decide +kernel
theorem dX1_readFrom_47 : decode cX1_readFrom 47 = .ok (.aload_n 1, 1) := by decide +kernel
theorem dX1_readFrom_48 : decode cX1_readFrom 48 = .ok (.invokevirtual 34, 3) := by decide +kernel
theorem dX1_readFrom_51 : decode cX1_readFrom 51 = .ok (.ifCond .ne 5, 3) := by decide +kernel
theorem dX1_readFrom_54 : decode cX1_readFrom 54 = .ok (.iconst 0, 1) := by decide +kernel
theorem dX1_readFrom_55 : decode cX1_readFrom 55 = .ok (.ireturn, 1) := by decide +kernel
theorem dX1_readFrom_56 : decode cX1_readFrom 56 = .ok (.aload_n 0, 1) := by decide +kernel
theorem dX1_readFrom_57 : decode cX1_readFrom 57 = .ok (.aload_n 0, 1) := by decide +kernel
theorem dX1_readFrom_58 : decode cX1_readFrom 58 = .ok (.getfield 38, 3) := by decide +kernel
theorem dX1_readFrom_61 : decode cX1_readFrom 61 = .ok (.putfield 24, 3) := by decide +kernel
theorem dX1_readFrom_64 : decode cX1_readFrom 64 = .ok (.aload_n 0, 1) := by decide +kernel
theorem dX1_readFrom_65 : decode cX1_readFrom 65 = .ok (.getfield 21, 3) := by decide +kernel
theorem dX1_readFrom_68 : decode cX1_readFrom 68 = .ok (.invokestatic 41, 3) := by decide +kernel
theorem dX1_readFrom_71 : decode cX1_readFrom 71 = .ok (.ifCond .eq 31, 3) := by decide +kernel
theorem dX1_readFrom_74 : decode cX1_readFrom 74 = .ok (.aload_n 0, 1) := by decide +kernel
theorem dX1_readFrom_75 : decode cX1_readFrom 75 = .ok (.aload_n 1, 1) := by decide +kernel
theorem dX1_readFrom_76 : decode cX1_readFrom 76 = .ok (.bipush 44, 2) := by decide +kernel
theorem dX1_readFrom_78 : decode cX1_readFrom 78 = .ok (.invokevirtual 44, 3) := by decide +kernel
theorem dX1_readFrom_81 : decode cX1_readFrom 81 = .ok (.ifCond .eq 11, 3) := by decide +kernel
theorem dX1_readFrom_84 : decode cX1_readFrom 84 = .ok (.aload_n 0, 1) := by decide +kernel
theorem dX1_readFrom_85 : decode cX1_readFrom 85 = .ok (.aload_n 1, 1) := by decide +kernel
theorem dX1_readFrom_86 : decode cX1_readFrom 86 = .ok (.invokevirtual 34, 3) := by decide +kernel
theorem dX1_readFrom_89 : decode cX1_readFrom 89 = .ok (.ifCond .ne 5, 3) := by decide +kernel
theorem dX1_readFrom_92 : decode cX1_readFrom 92 = .ok (.iconst 0, 1) := by decide +kernel
theorem dX1_readFrom_93 : decode cX1_readFrom 93 = .ok (.ireturn, 1) := by decide +kernel
theorem dX1_readFrom_94 : decode cX1_readFrom 94 = .ok (.aload_n 0, 1) := by decide +kernel
theorem dX1_readFrom_95 : decode cX1_readFrom 95 = .ok (.aload_n 0, 1) := by decide +kernel
theorem dX1_readFrom_96 : decode cX1_readFrom 96 = .ok (.getfield 38, 3) := by decide +kernel
theorem dX1_readFrom_99 : decode cX1_readFrom 99 = .ok (.putfield 27, 3) := by decide +kernel
theorem dX1_readFrom_102 : decode cX1_readFrom 102 = .ok (.aload_n 0, 1) := by decide +kernel
theorem dX1_readFrom_103 : decode cX1_readFrom 103 = .ok (.aload_n 1, 1) := by decide +kernel
theorem dX1_readFrom_104 : decode cX1_readFrom 104 = .ok (.bipush 59, 2) := by decide +kernel
theorem dX1_readFrom_106 : decode cX1_readFrom 106 = .ok (.invokevirtual 44, 3) := by decide +kernel
theorem dX1_readFrom_109 : decode cX1_readFrom 109 = .ok (.ireturn, 1) := by decide +kernel
set_option maxRecDepth 20000 in
theorem ggX1_isVerb_X1_takesTwoNumbers : GoodIn wsX1_isVerb wsX1_takesTwoNumbers := goodIn_r _ [4] rfl (by decide +kernel)
set_option maxRecDepth 20000 in
theorem gX1_isVerb_X1_takesTwoNumbers : GoodIn wsX1_isVerb (va_wsS RX1 41 yX1_takesTwoNumbers wsX1_takesTwoNumbers) := goodIn_app (goodIn_of _ (by decide +kernel)) ggX1_isVerb_X1_takesTwoNumbers
theorem dX1_isVerb_0 : decode cX1_isVerb 0 = .ok (.iload_n 0, 1) := by decide +kernel
theorem dX1_isVerb_1 : decode cX1_isVerb 1 = .ok (.bipush 112, 2) := by decide +kernel
theorem dX1_isVerb_3 : decode cX1_isVerb 3 = .ok (.if_icmp .eq 22, 3) := by decide +kernel
theorem dX1_isVerb_6 : decode cX1_isVerb 6 = .ok (.iload_n 0, 1) := by decide +kernel
theorem dX1_isVerb_7 : decode cX1_isVerb 7 = .ok (.bipush 100, 2) := by decide +kernel
theorem dX1_isVerb_9 : decode cX1_isVerb 9 = .ok (.if_icmp .eq 16, 3) := by decide +kernel
theorem dX1_isVerb_12 : decode cX1_isVerb 12 = .ok (.iload_n 0, 1) := by decide +kernel
theorem dX1_isVerb_13 : decode cX1_isVerb 13 = .ok (.bipush 108, 2) := by decide +kernel
theorem dX1_isVerb_15 : decode cX1_isVerb 15 = .ok (.if_icmp .eq 10, 3) := by decide +kernel
theorem dX1_isVerb_18 : decode cX1_isVerb 18 = .ok (.iload_n 0, 1) := by decide +kernel
theorem dX1_isVerb_19 : decode cX1_isVerb 19 = .ok (.invokestatic 41, 3) := by decide +kernel
theorem dX1_isVerb_22 : decode cX1_isVerb 22 = .ok (.ifCond .eq 7, 3) := by decide +kernel
theorem dX1_isVerb_25 : decode cX1_isVerb 25 = .ok (.iconst 1, 1) := by decide +kernel
theorem dX1_isVerb_26 : decode cX1_isVerb 26 = .ok (.goto 4, 3) := by decide +kernel
theorem dX1_isVerb_29 : decode cX1_isVerb 29 = .ok (.iconst 0, 1) := by decide +kernel
theorem dX1_isVerb_30 : decode cX1_isVerb 30 = .ok (.ireturn, 1) := by decide +kernel
theorem dX1_takesTwoNumbers_0 : decode cX1_takesTwoNumbers 0 = .ok (.iload_n 0, 1) := by decide +kernel
theorem dX1_takesTwoNumbers_1 : decode cX1_takesTwoNumbers 1 = .ok (.bipush 114, 2) := by decide +kernel
theorem dX1_takesTwoNumbers_3 : decode cX1_takesTwoNumbers 3 = .ok (.if_icmp .eq 9, 3) := by decide +kernel
theorem dX1_takesTwoNumbers_6 : decode cX1_takesTwoNumbers 6 = .ok (.iload_n 0, 1) := by decide +kernel
theorem dX1_takesTwoNumbers_7 : decode cX1_takesTwoNumbers 7 = .ok (.bipush 116, 2) := by decide +kernel
theorem dX1_takesTwoNumbers_9 : decode cX1_takesTwoNumbers 9 = .ok (.if_icmp .ne 7, 3) := by decide +kernel
theorem dX1_takesTwoNumbers_12 : decode cX1_takesTwoNumbers 12 = .ok (.iconst 1, 1) := by decide +kernel
theorem dX1_takesTwoNumbers_13 : decode cX1_takesTwoNumbers 13 = .ok (.goto 4, 3) := by decide +kernel
theorem dX1_takesTwoNumbers_16 : decode cX1_takesTwoNumbers 16 = .ok (.iconst 0, 1) := by decide +kernel
theorem dX1_takesTwoNumbers_17 : decode cX1_takesTwoNumbers 17 = .ok (.ireturn, 1) := by decide +kernel
theorem dX1_isDigit_0 : decode cX1_isDigit 0 = .ok (.iload_n 0, 1) := by decide +kernel
theorem dX1_isDigit_1 : decode cX1_isDigit 1 = .ok (.bipush 48, 2) := by decide +kernel
theorem dX1_isDigit_3 : decode cX1_isDigit 3 = .ok (.if_icmp .lt 13, 3) := by decide +kernel
theorem dX1_isDigit_6 : decode cX1_isDigit 6 = .ok (.iload_n 0, 1) := by decide +kernel
theorem dX1_isDigit_7 : decode cX1_isDigit 7 = .ok (.bipush 57, 2) := by decide +kernel
theorem dX1_isDigit_9 : decode cX1_isDigit 9 = .ok (.if_icmp .gt 7, 3) := by decide +kernel
theorem dX1_isDigit_12 : decode cX1_isDigit 12 = .ok (.iconst 1, 1) := by decide +kernel
theorem dX1_isDigit_13 : decode cX1_isDigit 13 = .ok (.goto 4, 3) := by decide +kernel
theorem dX1_isDigit_16 : decode cX1_isDigit 16 = .ok (.iconst 0, 1) := by decide +kernel
theorem dX1_isDigit_17 : decode cX1_isDigit 17 = .ok (.ireturn, 1) := by decide +kernel
set_option maxRecDepth 20000 in
theorem ggX1_readSign_X3_codeAt : GoodIn wsX1_readSign wsX3_codeAt := goodIn_r _ [6, 7, 8, 14, 15] rfl (by decide +kernel)
set_option maxRecDepth 20000 in
theorem gX1_readSign_X3_codeAt : GoodIn wsX1_readSign (wsV RX1 15 RX3 yX3_codeAt wsX3_codeAt) := goodIn_app (goodIn_of _ (by decide +kernel)) ggX1_readSign_X3_codeAt
theorem dX1_readSign_0 : decode cX1_readSign 0 = .ok (.aload_n 1, 1) := by decide +kernel
theorem dX1_readSign_1 : decode cX1_readSign 1 = .ok (.aload_n 0, 1) := by decide +kernel
theorem dX1_readSign_2 : decode cX1_readSign 2 = .ok (.getfield 9, 3) := by decide +kernel
theorem dX1_readSign_5 : decode cX1_readSign 5 = .ok (.invokevirtual 15, 3) := by decide +kernel
theorem dX1_readSign_8 : decode cX1_readSign 8 = .ok (.iload_n 2, 1) := by decide +kernel
theorem dX1_readSign_9 : decode cX1_readSign 9 = .ok (.if_icmp .eq 5, 3) := by decide +kernel
theorem dX1_readSign_12 : decode cX1_readSign 12 = .ok (.iconst 0, 1) := by decide +kernel
theorem dX1_readSign_13 : decode cX1_readSign 13 = .ok (.ireturn, 1) := by decide +kernel
theorem dX1_readSign_14 : decode cX1_readSign 14 = .ok (.aload_n 0, 1) := by decide +kernel
theorem dX1_readSign_15 : decode cX1_readSign 15 = .ok (.dup, 1) := by decide +kernel
theorem dX1_readSign_16 : decode cX1_readSign 16 = .ok (.getfield 9, 3) := by decide +kernel
theorem dX1_readSign_19 : decode cX1_readSign 19 = .ok (.iconst 1, 1) := by decide +kernel
theorem dX1_readSign_20 : decode cX1_readSign 20 = .ok (.iadd, 1) := by decide +kernel
theorem dX1_readSign_21 : decode cX1_readSign 21 = .ok (.putfield 9, 3) := by decide +kernel
theorem dX1_readSign_24 : decode cX1_readSign 24 = .ok (.iconst 1, 1) := by decide +kernel
theorem dX1_readSign_25 : decode cX1_readSign 25 = .ok (.ireturn, 1) := by decide +kernel
set_option maxRecDepth 20000 in
theorem ggX1_readNumber_X3_codeAt : GoodIn wsX1_readNumber wsX3_codeAt := goodIn_r _ [7, 8, 9, 19, 20] rfl (by decide +kernel)
set_option maxRecDepth 20000 in
theorem gX1_readNumber_X3_codeAt : GoodIn wsX1_readNumber (wsV RX1 15 RX3 yX3_codeAt wsX3_codeAt) := goodIn_app (goodIn_of _ (by decide +kernel)) ggX1_readNumber_X3_codeAt
set_option maxRecDepth 20000 in
theorem ggX1_readNumber_X1_isDigit : GoodIn wsX1_readNumber wsX1_isDigit := goodIn_r _ [13] rfl (by decide +kernel)
set_option maxRecDepth 20000 in
theorem gX1_readNumber_X1_isDigit : GoodIn wsX1_readNumber (va_wsS RX1 48 yX1_isDigit wsX1_isDigit) := goodIn_app (goodIn_of _ (by decide +kernel)) ggX1_readNumber_X1_isDigit
theorem dX1_readNumber_0 : decode cX1_readNumber 0 = .ok (.aload_n 1, 1) := by decide +kernel
theorem dX1_readNumber_1 : decode cX1_readNumber 1 = .ok (.aload_n 0, 1) := by decide +kernel
theorem dX1_readNumber_2 : decode cX1_readNumber 2 = .ok (.getfield 9, 3) := by decide +kernel
theorem dX1_readNumber_5 : decode cX1_readNumber 5 = .ok (.invokevirtual 15, 3) := by decide +kernel
theorem dX1_readNumber_8 : decode cX1_readNumber 8 = .ok (.invokestatic 48, 3) := by decide +kernel
theorem dX1_readNumber_11 : decode cX1_readNumber 11 = .ok (.ifCond .ne 5, 3) := by decide +kernel
theorem dX1_readNumber_14 : decode cX1_readNumber 14 = .ok (.iconst 0, 1) := by decide +kernel
theorem dX1_readNumber_15 : decode cX1_readNumber 15 = .ok (.ireturn, 1) := by decide +kernel
theorem dX1_readNumber_16 : decode cX1_readNumber 16 = .ok (.aload_n 0, 1) := by decide +kernel
theorem dX1_readNumber_17 : decode cX1_readNumber 17 = .ok (.aload_n 1, 1) := by decide +kernel
theorem dX1_readNumber_18 : decode cX1_readNumber 18 = .ok (.aload_n 0, 1) := by decide +kernel
theorem dX1_readNumber_19 : decode cX1_readNumber 19 = .ok (.getfield 9, 3) := by decide +kernel
theorem dX1_readNumber_22 : decode cX1_readNumber 22 = .ok (.invokevirtual 15, 3) := by decide +kernel
theorem dX1_readNumber_25 : decode cX1_readNumber 25 = .ok (.bipush 48, 2) := by decide +kernel
theorem dX1_readNumber_27 : decode cX1_readNumber 27 = .ok (.isub, 1) := by decide +kernel
theorem dX1_readNumber_28 : decode cX1_readNumber 28 = .ok (.putfield 38, 3) := by decide +kernel
theorem dX1_readNumber_31 : decode cX1_readNumber 31 = .ok (.aload_n 0, 1) := by decide +kernel
theorem dX1_readNumber_32 : decode cX1_readNumber 32 = .ok (.dup, 1) := by decide +kernel
theorem dX1_readNumber_33 : decode cX1_readNumber 33 = .ok (.getfield 9, 3) := by decide +kernel
theorem dX1_readNumber_36 : decode cX1_readNumber 36 = .ok (.iconst 1, 1) := by decide +kernel
theorem dX1_readNumber_37 : decode cX1_readNumber 37 = .ok (.iadd, 1) := by decide +kernel
theorem dX1_readNumber_38 : decode cX1_readNumber 38 = .ok (.putfield 9, 3) := by decide +kernel
theorem dX1_readNumber_41 : decode cX1_readNumber 41 = .ok (.aload_n 1, 1) := by decide +kernel
theorem dX1_readNumber_42 : decode cX1_readNumber 42 = .ok (.aload_n 0, 1) := by decide +kernel
theorem dX1_readNumber_43 : decode cX1_readNumber 43 = .ok (.getfield 9, 3) := by decide +kernel
theorem dX1_readNumber_46 : decode cX1_readNumber 46 = .ok (.invokevirtual 15, 3) := by decide +kernel
theorem dX1_readNumber_49 : decode cX1_readNumber 49 = .ok (.invokestatic 48, 3) := by decide +kernel
theorem dX1_readNumber_52 : decode cX1_readNumber 52 = .ok (.ifCond .eq 36, 3) := by decide +kernel
theorem dX1_readNumber_55 : decode cX1_readNumber 55 = .ok (.aload_n 0, 1) := by decide +kernel
theorem dX1_readNumber_56 : decode cX1_readNumber 56 = .ok (.aload_n 0, 1) := by decide +kernel
theorem dX1_readNumber_57 : decode cX1_readNumber 57 = .ok (.getfield 38, 3) := by decide +kernel
theorem dX1_readNumber_60 : decode cX1_readNumber 60 = .ok (.bipush 10, 2) := by decide +kernel
theorem dX1_readNumber_62 : decode cX1_readNumber 62 = .ok (.imul, 1) := by decide +kernel
theorem dX1_readNumber_63 : decode cX1_readNumber 63 = .ok (.aload_n 1, 1) := by decide +kernel
theorem dX1_readNumber_64 : decode cX1_readNumber 64 = .ok (.aload_n 0, 1) := by decide +kernel
theorem dX1_readNumber_65 : decode cX1_readNumber 65 = .ok (.getfield 9, 3) := by decide +kernel
theorem dX1_readNumber_68 : decode cX1_readNumber 68 = .ok (.invokevirtual 15, 3) := by decide +kernel
theorem dX1_readNumber_71 : decode cX1_readNumber 71 = .ok (.iadd, 1) := by decide +kernel
theorem dX1_readNumber_72 : decode cX1_readNumber 72 = .ok (.bipush 48, 2) := by decide +kernel
theorem dX1_readNumber_74 : decode cX1_readNumber 74 = .ok (.isub, 1) := by decide +kernel
theorem dX1_readNumber_75 : decode cX1_readNumber 75 = .ok (.putfield 38, 3) := by decide +kernel
theorem dX1_readNumber_78 : decode cX1_readNumber 78 = .ok (.aload_n 0, 1) := by decide +kernel
theorem dX1_readNumber_79 : decode cX1_readNumber 79 = .ok (.dup, 1) := by decide +kernel
theorem dX1_readNumber_80 : decode cX1_readNumber 80 = .ok (.getfield 9, 3) := by decide +kernel
theorem dX1_readNumber_83 : decode cX1_readNumber 83 = .ok (.iconst 1, 1) := by decide +kernel
theorem dX1_readNumber_84 : decode cX1_readNumber 84 = .ok (.iadd, 1) := by decide +kernel
theorem dX1_readNumber_85 : decode cX1_readNumber 85 = .ok (.putfield 9, 3) := by decide +kernel
theorem dX1_readNumber_88 : decode cX1_readNumber 88 = .ok (.iconst 1, 1) := by decide +kernel
theorem dX1_readNumber_89 : decode cX1_readNumber 89 = .ok (.ireturn, 1) := by decide +kernel
set_option maxRecDepth 20000 in
theorem ggX1_causeAgainst_X5_isStretch : GoodIn wsX1_causeAgainst wsX5_isStretch := goodIn_r _ [6] rfl (by decide +kernel)
set_option maxRecDepth 20000 in
theorem gX1_causeAgainst_X5_isStretch_n51 : GoodIn wsX1_causeAgainst (wsX5_isStretch) := ggX1_causeAgainst_X5_isStretch
set_option maxRecDepth 20000 in
theorem ggX1_causeAgainst_X5_isInRow : GoodIn wsX1_causeAgainst wsX5_isInRow := goodIn_r _ [8] rfl (by decide +kernel)
set_option maxRecDepth 20000 in
theorem gX1_causeAgainst_X5_isInRow_n55 : GoodIn wsX1_causeAgainst (wsX5_isInRow) := ggX1_causeAgainst_X5_isInRow
set_option maxRecDepth 20000 in
theorem ggX1_causeAgainst_X5_contains : GoodIn wsX1_causeAgainst wsX5_contains := goodIn_r _ [10] rfl (by decide +kernel)
set_option maxRecDepth 20000 in
theorem gX1_causeAgainst_X5_contains_n64 : GoodIn wsX1_causeAgainst (wsX5_contains) := ggX1_causeAgainst_X5_contains
set_option maxRecDepth 20000 in
theorem ggX1_causeAgainst_X5_isKind : GoodIn wsX1_causeAgainst wsX5_isKind := goodIn_r _ [12] rfl (by decide +kernel)
set_option maxRecDepth 20000 in
theorem gX1_causeAgainst_X5_isKind_n68 : GoodIn wsX1_causeAgainst (wsX5_isKind) := ggX1_causeAgainst_X5_isKind
set_option maxRecDepth 20000 in
theorem ggX1_causeAgainst_X2_reasonAgainst : GoodIn wsX1_causeAgainst wsX2_reasonAgainst := goodIn_r _ [17, 18, 19, 9, 5, 10, 20, 21, 16, 22, 28, 29, 30, 31, 32, 33, 34] rfl (by decide +kernel)
set_option maxRecDepth 20000 in
theorem gX1_causeAgainst_X2_reasonAgainst : GoodIn wsX1_causeAgainst (wsV RX1 71 RX2 yX2_reasonAgainst wsX2_reasonAgainst) := goodIn_app (goodIn_of _ (by decide +kernel)) ggX1_causeAgainst_X2_reasonAgainst
theorem dX1_causeAgainst_0 : decode cX1_causeAgainst 0 = .ok (.aload_n 0, 1) := by decide +kernel
theorem dX1_causeAgainst_1 : decode cX1_causeAgainst 1 = .ok (.getfield 21, 3) := by decide +kernel
theorem dX1_causeAgainst_4 : decode cX1_causeAgainst 4 = .ok (.bipush 114, 2) := by decide +kernel
theorem dX1_causeAgainst_6 : decode cX1_causeAgainst 6 = .ok (.if_icmp .ne 23, 3) := by decide +kernel
theorem dX1_causeAgainst_9 : decode cX1_causeAgainst 9 = .ok (.aload_n 0, 1) := by decide +kernel
theorem dX1_causeAgainst_10 : decode cX1_causeAgainst 10 = .ok (.getfield 24, 3) := by decide +kernel
theorem dX1_causeAgainst_13 : decode cX1_causeAgainst 13 = .ok (.aload_n 0, 1) := by decide +kernel
theorem dX1_causeAgainst_14 : decode cX1_causeAgainst 14 = .ok (.getfield 27, 3) := by decide +kernel
theorem dX1_causeAgainst_17 : decode cX1_causeAgainst 17 = .ok (.invokestatic 51, 3) := by decide +kernel
theorem dX1_causeAgainst_20 : decode cX1_causeAgainst 20 = .ok (.ifCond .eq 7, 3) := by decide +kernel
theorem dX1_causeAgainst_23 : decode cX1_causeAgainst 23 = .ok (.iconst 0, 1) := by decide +kernel
theorem dX1_causeAgainst_24 : decode cX1_causeAgainst 24 = .ok (.goto 4, 3) := by decide +kernel
theorem dX1_causeAgainst_27 : decode cX1_causeAgainst 27 = .ok (.iconst 1, 1) := by decide +kernel
theorem dX1_causeAgainst_28 : decode cX1_causeAgainst 28 = .ok (.ireturn, 1) := by decide +kernel
theorem dX1_causeAgainst_29 : decode cX1_causeAgainst 29 = .ok (.aload_n 0, 1) := by decide +kernel
theorem dX1_causeAgainst_30 : decode cX1_causeAgainst 30 = .ok (.getfield 24, 3) := by decide +kernel
theorem dX1_causeAgainst_33 : decode cX1_causeAgainst 33 = .ok (.invokestatic 55, 3) := by decide +kernel
theorem dX1_causeAgainst_36 : decode cX1_causeAgainst 36 = .ok (.ifCond .ne 5, 3) := by decide +kernel
theorem dX1_causeAgainst_39 : decode cX1_causeAgainst 39 = .ok (.iconst 1, 1) := by decide +kernel
theorem dX1_causeAgainst_40 : decode cX1_causeAgainst 40 = .ok (.ireturn, 1) := by decide +kernel
theorem dX1_causeAgainst_41 : decode cX1_causeAgainst 41 = .ok (.aload_n 0, 1) := by decide +kernel
theorem dX1_causeAgainst_42 : decode cX1_causeAgainst 42 = .ok (.getfield 21, 3) := by decide +kernel
theorem dX1_causeAgainst_45 : decode cX1_causeAgainst 45 = .ok (.bipush 100, 2) := by decide +kernel
theorem dX1_causeAgainst_47 : decode cX1_causeAgainst 47 = .ok (.if_icmp .ne 23, 3) := by decide +kernel
theorem dX1_causeAgainst_50 : decode cX1_causeAgainst 50 = .ok (.aload_n 1, 1) := by decide +kernel
theorem dX1_causeAgainst_51 : decode cX1_causeAgainst 51 = .ok (.getfield 58, 3) := by decide +kernel
theorem dX1_causeAgainst_54 : decode cX1_causeAgainst 54 = .ok (.aload_n 0, 1) := by decide +kernel
theorem dX1_causeAgainst_55 : decode cX1_causeAgainst 55 = .ok (.getfield 24, 3) := by decide +kernel
theorem dX1_causeAgainst_58 : decode cX1_causeAgainst 58 = .ok (.invokestatic 64, 3) := by decide +kernel
theorem dX1_causeAgainst_61 : decode cX1_causeAgainst 61 = .ok (.ifCond .eq 7, 3) := by decide +kernel
theorem dX1_causeAgainst_64 : decode cX1_causeAgainst 64 = .ok (.iconst 2, 1) := by decide +kernel
theorem dX1_causeAgainst_65 : decode cX1_causeAgainst 65 = .ok (.goto 4, 3) := by decide +kernel
theorem dX1_causeAgainst_68 : decode cX1_causeAgainst 68 = .ok (.iconst 0, 1) := by decide +kernel
theorem dX1_causeAgainst_69 : decode cX1_causeAgainst 69 = .ok (.ireturn, 1) := by decide +kernel
theorem dX1_causeAgainst_70 : decode cX1_causeAgainst 70 = .ok (.aload_n 0, 1) := by decide +kernel
theorem dX1_causeAgainst_71 : decode cX1_causeAgainst 71 = .ok (.getfield 21, 3) := by decide +kernel
theorem dX1_causeAgainst_74 : decode cX1_causeAgainst 74 = .ok (.bipush 116, 2) := by decide +kernel
theorem dX1_causeAgainst_76 : decode cX1_causeAgainst 76 = .ok (.if_icmp .ne 36, 3) := by decide +kernel
theorem dX1_causeAgainst_79 : decode cX1_causeAgainst 79 = .ok (.aload_n 0, 1) := by decide +kernel
theorem dX1_causeAgainst_80 : decode cX1_causeAgainst 80 = .ok (.getfield 27, 3) := by decide +kernel
theorem dX1_causeAgainst_83 : decode cX1_causeAgainst 83 = .ok (.invokestatic 68, 3) := by decide +kernel
theorem dX1_causeAgainst_86 : decode cX1_causeAgainst 86 = .ok (.ifCond .ne 5, 3) := by decide +kernel
theorem dX1_causeAgainst_89 : decode cX1_causeAgainst 89 = .ok (.iconst 1, 1) := by decide +kernel
theorem dX1_causeAgainst_90 : decode cX1_causeAgainst 90 = .ok (.ireturn, 1) := by decide +kernel
theorem dX1_causeAgainst_91 : decode cX1_causeAgainst 91 = .ok (.aload_n 1, 1) := by decide +kernel
theorem dX1_causeAgainst_92 : decode cX1_causeAgainst 92 = .ok (.aload_n 0, 1) := by decide +kernel
theorem dX1_causeAgainst_93 : decode cX1_causeAgainst 93 = .ok (.getfield 24, 3) := by decide +kernel
theorem dX1_causeAgainst_96 : decode cX1_causeAgainst 96 = .ok (.aload_n 0, 1) := by decide +kernel
theorem dX1_causeAgainst_97 : decode cX1_causeAgainst 97 = .ok (.getfield 27, 3) := by decide +kernel
theorem dX1_causeAgainst_100 : decode cX1_causeAgainst 100 = .ok (.invokevirtual 71, 3) := by decide +kernel
theorem dX1_causeAgainst_103 : decode cX1_causeAgainst 103 = .ok (.ifCond .ne 7, 3) := by decide +kernel
theorem dX1_causeAgainst_106 : decode cX1_causeAgainst 106 = .ok (.iconst 0, 1) := by decide +kernel
theorem dX1_causeAgainst_107 : decode cX1_causeAgainst 107 = .ok (.goto 4, 3) := by decide +kernel
theorem dX1_causeAgainst_110 : decode cX1_causeAgainst 110 = .ok (.iconst 2, 1) := by decide +kernel
theorem dX1_causeAgainst_111 : decode cX1_causeAgainst 111 = .ok (.ireturn, 1) := by decide +kernel
theorem dX1_causeAgainst_112 : decode cX1_causeAgainst 112 = .ok (.iconst 0, 1) := by decide +kernel
theorem dX1_causeAgainst_113 : decode cX1_causeAgainst 113 = .ok (.ireturn, 1) := by decide +kernel
set_option maxRecDepth 20000 in
theorem ggX1_carryOut_X2_makePass : GoodIn wsX1_carryOut wsX2_makePass := goodIn_r _ [8, 9, 10, 11, 12, 13, 14, 15, 16, 17, 7, 18, 19, 20, 21, 22, 23, 24, 25, 48, 49, 50, 51, 52, 53, 54] rfl (by decide +kernel)
set_option maxRecDepth 20000 in
theorem gX1_carryOut_X2_makePass : GoodIn wsX1_carryOut (wsV RX1 75 RX2 yX2_makePass wsX2_makePass) := goodIn_app (goodIn_of _ (by decide +kernel)) ggX1_carryOut_X2_makePass
set_option maxRecDepth 20000 in
theorem ggX1_carryOut_X2_turn : GoodIn wsX1_carryOut wsX2_turn := goodIn_r _ [18, 19, 20, 21, 22, 11, 23, 24, 25, 10, 12, 48, 49, 50, 51, 52, 53, 54] rfl (by decide +kernel)
set_option maxRecDepth 20000 in
theorem gX1_carryOut_X2_turn : GoodIn wsX1_carryOut (wsV RX1 79 RX2 yX2_turn wsX2_turn) := goodIn_app (goodIn_of _ (by decide +kernel)) ggX1_carryOut_X2_turn
set_option maxRecDepth 20000 in
theorem ggX1_carryOut_X2_switchLock : GoodIn wsX1_carryOut wsX2_switchLock := goodIn_r _ [30, 19, 24, 11, 25, 48, 49, 50, 51, 52, 53, 54] rfl (by decide +kernel)
set_option maxRecDepth 20000 in
theorem gX1_carryOut_X2_switchLock : GoodIn wsX1_carryOut (wsV RX1 82 RX2 yX2_switchLock wsX2_switchLock) := goodIn_app (goodIn_of _ (by decide +kernel)) ggX1_carryOut_X2_switchLock
set_option maxRecDepth 20000 in
theorem ggX1_carryOut_X2_makePasses : GoodIn wsX1_carryOut wsX2_makePasses := goodIn_r _ [34, 35, 22, 11, 23, 36, 5, 6, 7, 8, 9, 10, 12, 13, 14, 15, 16, 17, 18, 19, 20, 21, 24, 25, 48, 49, 50, 51, 52, 53, 54] rfl (by decide +kernel)
set_option maxRecDepth 20000 in
theorem gX1_carryOut_X2_makePasses : GoodIn wsX1_carryOut (wsV RX1 85 RX2 yX2_makePasses wsX2_makePasses) := goodIn_app (goodIn_of _ (by decide +kernel)) ggX1_carryOut_X2_makePasses
set_option maxRecDepth 20000 in
theorem ggX1_carryOut_X2_put : GoodIn wsX1_carryOut wsX2_put := goodIn_r _ [40, 41, 42, 24, 11, 25, 48, 49, 50, 51, 52, 53, 54] rfl (by decide +kernel)
set_option maxRecDepth 20000 in
theorem gX1_carryOut_X2_put : GoodIn wsX1_carryOut (wsV RX1 88 RX2 yX2_put wsX2_put) := goodIn_app (goodIn_of _ (by decide +kernel)) ggX1_carryOut_X2_put
theorem dX1_carryOut_0 : decode cX1_carryOut 0 = .ok (.aload_n 0, 1) := by decide +kernel
theorem dX1_carryOut_1 : decode cX1_carryOut 1 = .ok (.getfield 21, 3) := by decide +kernel
theorem dX1_carryOut_4 : decode cX1_carryOut 4 = .ok (.bipush 112, 2) := by decide +kernel
theorem dX1_carryOut_6 : decode cX1_carryOut 6 = .ok (.if_icmp .ne 14, 3) := by decide +kernel
theorem dX1_carryOut_9 : decode cX1_carryOut 9 = .ok (.aload_n 1, 1) := by decide +kernel
theorem dX1_carryOut_10 : decode cX1_carryOut 10 = .ok (.aload_n 0, 1) := by decide +kernel
theorem dX1_carryOut_11 : decode cX1_carryOut 11 = .ok (.getfield 24, 3) := by decide +kernel
theorem dX1_carryOut_14 : decode cX1_carryOut 14 = .ok (.invokevirtual 75, 3) := by decide +kernel
theorem dX1_carryOut_17 : decode cX1_carryOut 17 = .ok (.goto 89, 3) := by decide +kernel
theorem dX1_carryOut_20 : decode cX1_carryOut 20 = .ok (.aload_n 0, 1) := by decide +kernel
theorem dX1_carryOut_21 : decode cX1_carryOut 21 = .ok (.getfield 21, 3) := by decide +kernel
theorem dX1_carryOut_24 : decode cX1_carryOut 24 = .ok (.bipush 100, 2) := by decide +kernel
theorem dX1_carryOut_26 : decode cX1_carryOut 26 = .ok (.if_icmp .ne 14, 3) := by decide +kernel
theorem dX1_carryOut_29 : decode cX1_carryOut 29 = .ok (.aload_n 1, 1) := by decide +kernel
theorem dX1_carryOut_30 : decode cX1_carryOut 30 = .ok (.aload_n 0, 1) := by decide +kernel
theorem dX1_carryOut_31 : decode cX1_carryOut 31 = .ok (.getfield 24, 3) := by decide +kernel
theorem dX1_carryOut_34 : decode cX1_carryOut 34 = .ok (.invokevirtual 79, 3) := by decide +kernel
theorem dX1_carryOut_37 : decode cX1_carryOut 37 = .ok (.goto 69, 3) := by decide +kernel
theorem dX1_carryOut_40 : decode cX1_carryOut 40 = .ok (.aload_n 0, 1) := by decide +kernel
theorem dX1_carryOut_41 : decode cX1_carryOut 41 = .ok (.getfield 21, 3) := by decide +kernel
theorem dX1_carryOut_44 : decode cX1_carryOut 44 = .ok (.bipush 108, 2) := by decide +kernel
theorem dX1_carryOut_46 : decode cX1_carryOut 46 = .ok (.if_icmp .ne 14, 3) := by decide +kernel
theorem dX1_carryOut_49 : decode cX1_carryOut 49 = .ok (.aload_n 1, 1) := by decide +kernel
theorem dX1_carryOut_50 : decode cX1_carryOut 50 = .ok (.aload_n 0, 1) := by decide +kernel
theorem dX1_carryOut_51 : decode cX1_carryOut 51 = .ok (.getfield 24, 3) := by decide +kernel
theorem dX1_carryOut_54 : decode cX1_carryOut 54 = .ok (.invokevirtual 82, 3) := by decide +kernel
theorem dX1_carryOut_57 : decode cX1_carryOut 57 = .ok (.goto 49, 3) := by decide +kernel
theorem dX1_carryOut_60 : decode cX1_carryOut 60 = .ok (.aload_n 0, 1) := by decide +kernel
theorem dX1_carryOut_61 : decode cX1_carryOut 61 = .ok (.getfield 21, 3) := by decide +kernel
theorem dX1_carryOut_64 : decode cX1_carryOut 64 = .ok (.bipush 114, 2) := by decide +kernel
theorem dX1_carryOut_66 : decode cX1_carryOut 66 = .ok (.if_icmp .ne 19, 3) := by decide +kernel
theorem dX1_carryOut_69 : decode cX1_carryOut 69 = .ok (.aload_n 1, 1) := by decide +kernel
theorem dX1_carryOut_70 : decode cX1_carryOut 70 = .ok (.aload_n 0, 1) := by decide +kernel
theorem dX1_carryOut_71 : decode cX1_carryOut 71 = .ok (.getfield 24, 3) := by decide +kernel
theorem dX1_carryOut_74 : decode cX1_carryOut 74 = .ok (.aload_n 0, 1) := by decide +kernel
theorem dX1_carryOut_75 : decode cX1_carryOut 75 = .ok (.getfield 27, 3) := by decide +kernel
theorem dX1_carryOut_78 : decode cX1_carryOut 78 = .ok (.invokevirtual 85, 3) := by decide +kernel
theorem dX1_carryOut_81 : decode cX1_carryOut 81 = .ok (.pop, 1) := by decide +kernel
theorem dX1_carryOut_82 : decode cX1_carryOut 82 = .ok (.goto 24, 3) := by decide +kernel
theorem dX1_carryOut_85 : decode cX1_carryOut 85 = .ok (.aload_n 0, 1) := by decide +kernel
theorem dX1_carryOut_86 : decode cX1_carryOut 86 = .ok (.getfield 21, 3) := by decide +kernel
theorem dX1_carryOut_89 : decode cX1_carryOut 89 = .ok (.bipush 116, 2) := by decide +kernel
theorem dX1_carryOut_91 : decode cX1_carryOut 91 = .ok (.if_icmp .ne 15, 3) := by decide +kernel
theorem dX1_carryOut_94 : decode cX1_carryOut 94 = .ok (.aload_n 1, 1) := by decide +kernel
theorem dX1_carryOut_95 : decode cX1_carryOut 95 = .ok (.aload_n 0, 1) := by decide +kernel
theorem dX1_carryOut_96 : decode cX1_carryOut 96 = .ok (.getfield 24, 3) := by decide +kernel
theorem dX1_carryOut_99 : decode cX1_carryOut 99 = .ok (.aload_n 0, 1) := by decide +kernel
theorem dX1_carryOut_100 : decode cX1_carryOut 100 = .ok (.getfield 27, 3) := by decide +kernel
theorem dX1_carryOut_103 : decode cX1_carryOut 103 = .ok (.invokevirtual 88, 3) := by decide +kernel
theorem dX1_carryOut_106 : decode cX1_carryOut 106 = .ok (.return_, 1) := by decide +kernel
theorem dX2_init_0 : decode cX2_init 0 = .ok (.aload_n 0, 1) := by decide +kernel
theorem dX2_init_1 : decode cX2_init 1 = .ok (.invokespecial 3, 3) := by decide +kernel
theorem dX2_init_4 : decode cX2_init 4 = .ok (.aload_n 0, 1) := by decide +kernel
theorem dX2_init_5 : decode cX2_init 5 = .ok (.bipush 49, 2) := by decide +kernel
theorem dX2_init_7 : decode cX2_init 7 = .ok (.newarray .int, 2) := by decide +kernel
theorem dX2_init_9 : decode cX2_init 9 = .ok (.putfield 9, 3) := by decide +kernel
theorem dX2_init_12 : decode cX2_init 12 = .ok (.aload_n 0, 1) := by decide +kernel
theorem dX2_init_13 : decode cX2_init 13 = .ok (.bipush 49, 2) := by decide +kernel
theorem dX2_init_15 : decode cX2_init 15 = .ok (.newarray .int, 2) := by decide +kernel
theorem dX2_init_17 : decode cX2_init 17 = .ok (.putfield 15, 3) := by decide +kernel
theorem dX2_init_20 : decode cX2_init 20 = .ok (.return_, 1) := by decide +kernel
set_option maxRecDepth 20000 in
theorem ggX2_copyFrom_X2_copyCounts : GoodIn wsX2_copyFrom wsX2_copyCounts := goodIn_r _ [11] rfl (by decide +kernel)
set_option maxRecDepth 20000 in
theorem gX2_copyFrom_X2_copyCounts : GoodIn wsX2_copyFrom (va_wsS RX2 34 yX2_copyCounts wsX2_copyCounts) := goodIn_app (goodIn_of _ (by decide +kernel)) ggX2_copyFrom_X2_copyCounts
theorem dX2_copyFrom_0 : decode cX2_copyFrom 0 = .ok (.aload_n 1, 1) := by decide +kernel
theorem dX2_copyFrom_1 : decode cX2_copyFrom 1 = .ok (.ifnonnull 4, 3) := by decide +kernel
theorem dX2_copyFrom_4 : decode cX2_copyFrom 4 = .ok (.return_, 1) := by decide +kernel
theorem dX2_copyFrom_5 : decode cX2_copyFrom 5 = .ok (.aload_n 0, 1) := by decide +kernel
theorem dX2_copyFrom_6 : decode cX2_copyFrom 6 = .ok (.aload_n 1, 1) := by decide +kernel
theorem dX2_copyFrom_7 : decode cX2_copyFrom 7 = .ok (.getfield 18, 3) := by decide +kernel
theorem dX2_copyFrom_10 : decode cX2_copyFrom 10 = .ok (.putfield 18, 3) := by decide +kernel
theorem dX2_copyFrom_13 : decode cX2_copyFrom 13 = .ok (.aload_n 0, 1) := by decide +kernel
theorem dX2_copyFrom_14 : decode cX2_copyFrom 14 = .ok (.aload_n 1, 1) := by decide +kernel
theorem dX2_copyFrom_15 : decode cX2_copyFrom 15 = .ok (.getfield 22, 3) := by decide +kernel
theorem dX2_copyFrom_18 : decode cX2_copyFrom 18 = .ok (.putfield 22, 3) := by decide +kernel
theorem dX2_copyFrom_21 : decode cX2_copyFrom 21 = .ok (.aload_n 0, 1) := by decide +kernel
theorem dX2_copyFrom_22 : decode cX2_copyFrom 22 = .ok (.aload_n 1, 1) := by decide +kernel
theorem dX2_copyFrom_23 : decode cX2_copyFrom 23 = .ok (.getfield 25, 3) := by decide +kernel
theorem dX2_copyFrom_26 : decode cX2_copyFrom 26 = .ok (.putfield 25, 3) := by decide +kernel
theorem dX2_copyFrom_29 : decode cX2_copyFrom 29 = .ok (.aload_n 0, 1) := by decide +kernel
theorem dX2_copyFrom_30 : decode cX2_copyFrom 30 = .ok (.aload_n 1, 1) := by decide +kernel
theorem dX2_copyFrom_31 : decode cX2_copyFrom 31 = .ok (.getfield 28, 3) := by decide +kernel
theorem dX2_copyFrom_34 : decode cX2_copyFrom 34 = .ok (.putfield 28, 3) := by decide +kernel
theorem dX2_copyFrom_37 : decode cX2_copyFrom 37 = .ok (.aload_n 0, 1) := by decide +kernel
theorem dX2_copyFrom_38 : decode cX2_copyFrom 38 = .ok (.aload_n 1, 1) := by decide +kernel
theorem dX2_copyFrom_39 : decode cX2_copyFrom 39 = .ok (.getfield 31, 3) := by decide +kernel
theorem dX2_copyFrom_42 : decode cX2_copyFrom 42 = .ok (.putfield 31, 3) := by decide +kernel
theorem dX2_copyFrom_45 : decode cX2_copyFrom 45 = .ok (.aload_n 1, 1) := by decide +kernel
theorem dX2_copyFrom_46 : decode cX2_copyFrom 46 = .ok (.getfield 9, 3) := by decide +kernel
theorem dX2_copyFrom_49 : decode cX2_copyFrom 49 = .ok (.aload_n 0, 1) := by decide +kernel
theorem dX2_copyFrom_50 : decode cX2_copyFrom 50 = .ok (.getfield 9, 3) := by decide +kernel
theorem dX2_copyFrom_53 : decode cX2_copyFrom 53 = .ok (.invokestatic 34, 3) := by decide +kernel
theorem dX2_copyFrom_56 : decode cX2_copyFrom 56 = .ok (.aload_n 1, 1) := by decide +kernel
theorem dX2_copyFrom_57 : decode cX2_copyFrom 57 = .ok (.getfield 15, 3) := by decide +kernel
theorem dX2_copyFrom_60 : decode cX2_copyFrom 60 = .ok (.aload_n 0, 1) := by decide +kernel
theorem dX2_copyFrom_61 : decode cX2_copyFrom 61 = .ok (.getfield 15, 3) := by decide +kernel
theorem dX2_copyFrom_64 : decode cX2_copyFrom 64 = .ok (.invokestatic 34, 3) := by decide +kernel
theorem dX2_copyFrom_67 : decode cX2_copyFrom 67 = .ok (.return_, 1) := by decide +kernel
theorem dX2_copyCounts_0 : decode cX2_copyCounts 0 = .ok (.iconst 0, 1) := by decide +kernel
theorem dX2_copyCounts_1 : decode cX2_copyCounts 1 = .ok (.istore_n 2, 1) := by decide +kernel
theorem dX2_copyCounts_2 : decode cX2_copyCounts 2 = .ok (.iload_n 2, 1) := by decide +kernel
theorem dX2_copyCounts_3 : decode cX2_copyCounts 3 = .ok (.aload_n 0, 1) := by decide +kernel
theorem dX2_copyCounts_4 : decode cX2_copyCounts 4 = .ok (.arraylength, 1) := by decide +kernel
theorem dX2_copyCounts_5 : decode cX2_copyCounts 5 = .ok (.if_icmp .ge 21, 3) := by decide +kernel
theorem dX2_copyCounts_8 : decode cX2_copyCounts 8 = .ok (.iload_n 2, 1) := by decide +kernel
theorem dX2_copyCounts_9 : decode cX2_copyCounts 9 = .ok (.aload_n 1, 1) := by decide +kernel
theorem dX2_copyCounts_10 : decode cX2_copyCounts 10 = .ok (.arraylength, 1) := by decide +kernel
theorem dX2_copyCounts_11 : decode cX2_copyCounts 11 = .ok (.if_icmp .ge 15, 3) := by decide +kernel
theorem dX2_copyCounts_14 : decode cX2_copyCounts 14 = .ok (.aload_n 1, 1) := by decide +kernel
theorem dX2_copyCounts_15 : decode cX2_copyCounts 15 = .ok (.iload_n 2, 1) := by decide +kernel
theorem dX2_copyCounts_16 : decode cX2_copyCounts 16 = .ok (.aload_n 0, 1) := by decide +kernel
theorem dX2_copyCounts_17 : decode cX2_copyCounts 17 = .ok (.iload_n 2, 1) := by decide +kernel
theorem dX2_copyCounts_18 : decode cX2_copyCounts 18 = .ok (.iaload, 1) := by decide +kernel
theorem dX2_copyCounts_19 : decode cX2_copyCounts 19 = .ok (.iastore, 1) := by decide +kernel
theorem dX2_copyCounts_20 : decode cX2_copyCounts 20 = .ok (.iinc 2 1, 3) := by decide +kernel
theorem dX2_copyCounts_23 : decode cX2_copyCounts 23 = .ok (.goto (-21), 3) := by decide +kernel
theorem dX2_copyCounts_26 : decode cX2_copyCounts 26 = .ok (.return_, 1) := by decide +kernel
set_option maxRecDepth 20000 in
theorem ggX2_turn_X5_contains : GoodIn wsX2_turn wsX5_contains := goodIn_r _ [6] rfl (by decide +kernel)
set_option maxRecDepth 20000 in
theorem gX2_turn_X5_contains_n38 : GoodIn wsX2_turn (wsX5_contains) := ggX2_turn_X5_contains
set_option maxRecDepth 20000 in
theorem ggX2_turn_X5_bit : GoodIn wsX2_turn wsX5_bit := goodIn_r _ [8] rfl (by decide +kernel)
set_option maxRecDepth 20000 in
theorem gX2_turn_X5_bit_n42 : GoodIn wsX2_turn (wsX5_bit) := ggX2_turn_X5_bit
set_option maxRecDepth 20000 in
theorem ggX2_turn_X5_countUp : GoodIn wsX2_turn wsX5_countUp := goodIn_r _ [10] rfl (by decide +kernel)
set_option maxRecDepth 20000 in
theorem gX2_turn_X5_countUp_n46 : GoodIn wsX2_turn (wsX5_countUp) := ggX2_turn_X5_countUp
theorem dX2_turn_0 : decode cX2_turn 0 = .ok (.aload_n 0, 1) := by decide +kernel
theorem dX2_turn_1 : decode cX2_turn 1 = .ok (.getfield 22, 3) := by decide +kernel
theorem dX2_turn_4 : decode cX2_turn 4 = .ok (.iload_n 1, 1) := by decide +kernel
theorem dX2_turn_5 : decode cX2_turn 5 = .ok (.invokestatic 38, 3) := by decide +kernel
theorem dX2_turn_8 : decode cX2_turn 8 = .ok (.ifCond .eq 4, 3) := by decide +kernel
theorem dX2_turn_11 : decode cX2_turn 11 = .ok (.return_, 1) := by decide +kernel
theorem dX2_turn_12 : decode cX2_turn 12 = .ok (.aload_n 0, 1) := by decide +kernel
theorem dX2_turn_13 : decode cX2_turn 13 = .ok (.dup, 1) := by decide +kernel
theorem dX2_turn_14 : decode cX2_turn 14 = .ok (.getfield 18, 3) := by decide +kernel
theorem dX2_turn_17 : decode cX2_turn 17 = .ok (.iload_n 1, 1) := by decide +kernel
theorem dX2_turn_18 : decode cX2_turn 18 = .ok (.invokestatic 42, 3) := by decide +kernel
theorem dX2_turn_21 : decode cX2_turn 21 = .ok (.lxor, 1) := by decide +kernel
theorem dX2_turn_22 : decode cX2_turn 22 = .ok (.putfield 18, 3) := by decide +kernel
theorem dX2_turn_25 : decode cX2_turn 25 = .ok (.aload_n 0, 1) := by decide +kernel
theorem dX2_turn_26 : decode cX2_turn 26 = .ok (.getfield 9, 3) := by decide +kernel
theorem dX2_turn_29 : decode cX2_turn 29 = .ok (.iload_n 1, 1) := by decide +kernel
theorem dX2_turn_30 : decode cX2_turn 30 = .ok (.invokestatic 46, 3) := by decide +kernel
theorem dX2_turn_33 : decode cX2_turn 33 = .ok (.return_, 1) := by decide +kernel
set_option maxRecDepth 20000 in
theorem ggX2_turnedBy_X5_multiplesOf : GoodIn wsX2_turnedBy wsX5_multiplesOf := goodIn_r _ [5, 6, 7, 4, 8, 9, 10, 11] rfl (by decide +kernel)
set_option maxRecDepth 20000 in
theorem gX2_turnedBy_X5_multiplesOf_n50 : GoodIn wsX2_turnedBy (wsX5_multiplesOf) := ggX2_turnedBy_X5_multiplesOf
theorem dX2_turnedBy_0 : decode cX2_turnedBy 0 = .ok (.iload_n 1, 1) := by decide +kernel
theorem dX2_turnedBy_1 : decode cX2_turnedBy 1 = .ok (.invokestatic 50, 3) := by decide +kernel
theorem dX2_turnedBy_4 : decode cX2_turnedBy 4 = .ok (.aload_n 0, 1) := by decide +kernel
theorem dX2_turnedBy_5 : decode cX2_turnedBy 5 = .ok (.getfield 22, 3) := by decide +kernel
theorem dX2_turnedBy_8 : decode cX2_turnedBy 8 = .ok (.ldc2_w 53, 3) := by decide +kernel
theorem dX2_turnedBy_11 : decode cX2_turnedBy 11 = .ok (.lxor, 1) := by decide +kernel
theorem dX2_turnedBy_12 : decode cX2_turnedBy 12 = .ok (.land, 1) := by decide +kernel
theorem dX2_turnedBy_13 : decode cX2_turnedBy 13 = .ok (.lreturn, 1) := by decide +kernel
set_option maxRecDepth 20000 in
theorem ggX2_makePass_X5_countUp : GoodIn wsX2_makePass wsX5_countUp := goodIn_r _ [4] rfl (by decide +kernel)
set_option maxRecDepth 20000 in
theorem gX2_makePass_X5_countUp_n46 : GoodIn wsX2_makePass (wsX5_countUp) := ggX2_makePass_X5_countUp
set_option maxRecDepth 20000 in
theorem ggX2_makePass_X5_timesInRow : GoodIn wsX2_makePass wsX5_timesInRow := goodIn_r _ [6] rfl (by decide +kernel)
set_option maxRecDepth 20000 in
theorem gX2_makePass_X5_timesInRow_n55 : GoodIn wsX2_makePass (wsX5_timesInRow) := ggX2_makePass_X5_timesInRow
set_option maxRecDepth 20000 in
theorem ggX2_makePass_X2_turn : GoodIn wsX2_makePass wsX2_turn := goodIn_r _ [11, 12, 13, 14, 15, 3, 16, 17, 18, 2, 4, 19, 20, 21, 22, 23, 24, 25] rfl (by decide +kernel)
set_option maxRecDepth 20000 in
theorem gX2_makePass_X2_turn : GoodIn wsX2_makePass (wsV RX2 59 RX2 yX2_turn wsX2_turn) := goodIn_app (goodIn_of _ (by decide +kernel)) ggX2_makePass_X2_turn
theorem dX2_makePass_0 : decode cX2_makePass 0 = .ok (.aload_n 0, 1) := by decide +kernel
theorem dX2_makePass_1 : decode cX2_makePass 1 = .ok (.getfield 15, 3) := by decide +kernel
theorem dX2_makePass_4 : decode cX2_makePass 4 = .ok (.iload_n 1, 1) := by decide +kernel
theorem dX2_makePass_5 : decode cX2_makePass 5 = .ok (.invokestatic 46, 3) := by decide +kernel
theorem dX2_makePass_8 : decode cX2_makePass 8 = .ok (.iload_n 1, 1) := by decide +kernel
theorem dX2_makePass_9 : decode cX2_makePass 9 = .ok (.invokestatic 55, 3) := by decide +kernel
theorem dX2_makePass_12 : decode cX2_makePass 12 = .ok (.istore_n 2, 1) := by decide +kernel
theorem dX2_makePass_13 : decode cX2_makePass 13 = .ok (.iconst 1, 1) := by decide +kernel
theorem dX2_makePass_14 : decode cX2_makePass 14 = .ok (.istore_n 3, 1) := by decide +kernel
theorem dX2_makePass_15 : decode cX2_makePass 15 = .ok (.iload_n 3, 1) := by decide +kernel
theorem dX2_makePass_16 : decode cX2_makePass 16 = .ok (.iload_n 2, 1) := by decide +kernel
theorem dX2_makePass_17 : decode cX2_makePass 17 = .ok (.if_icmp .gt 16, 3) := by decide +kernel
theorem dX2_makePass_20 : decode cX2_makePass 20 = .ok (.aload_n 0, 1) := by decide +kernel
theorem dX2_makePass_21 : decode cX2_makePass 21 = .ok (.iload_n 3, 1) := by decide +kernel
theorem dX2_makePass_22 : decode cX2_makePass 22 = .ok (.iload_n 1, 1) := by decide +kernel
theorem dX2_makePass_23 : decode cX2_makePass 23 = .ok (.imul, 1) := by decide +kernel
theorem dX2_makePass_24 : decode cX2_makePass 24 = .ok (.invokevirtual 59, 3) := by decide +kernel
theorem dX2_makePass_27 : decode cX2_makePass 27 = .ok (.iinc 3 1, 3) := by decide +kernel
theorem dX2_makePass_30 : decode cX2_makePass 30 = .ok (.goto (-15), 3) := by decide +kernel
theorem dX2_makePass_33 : decode cX2_makePass 33 = .ok (.return_, 1) := by decide +kernel
set_option maxRecDepth 20000 in
theorem ggX2_makePasses_X5_contains : GoodIn wsX2_makePasses wsX5_contains := goodIn_r _ [4] rfl (by decide +kernel)
set_option maxRecDepth 20000 in
theorem gX2_makePasses_X5_contains_n38 : GoodIn wsX2_makePasses (wsX5_contains) := ggX2_makePasses_X5_contains
set_option maxRecDepth 20000 in
theorem ggX2_makePasses_X2_makePass : GoodIn wsX2_makePasses wsX2_makePass := goodIn_r _ [9, 10, 11, 3, 12, 13, 14, 15, 16, 17, 8, 18, 19, 20, 21, 2, 4, 22, 23, 24, 25, 26, 27, 28, 29, 30] rfl (by decide +kernel)
set_option maxRecDepth 20000 in
theorem gX2_makePasses_X2_makePass : GoodIn wsX2_makePasses (wsV RX2 63 RX2 yX2_makePass wsX2_makePass) := goodIn_app (goodIn_of _ (by decide +kernel)) ggX2_makePasses_X2_makePass
theorem dX2_makePasses_0 : decode cX2_makePasses 0 = .ok (.iconst 0, 1) := by decide +kernel
theorem dX2_makePasses_1 : decode cX2_makePasses 1 = .ok (.istore_n 3, 1) := by decide +kernel
theorem dX2_makePasses_2 : decode cX2_makePasses 2 = .ok (.iload_n 1, 1) := by decide +kernel
theorem dX2_makePasses_3 : decode cX2_makePasses 3 = .ok (.istore 4, 2) := by decide +kernel
theorem dX2_makePasses_5 : decode cX2_makePasses 5 = .ok (.iload 4, 2) := by decide +kernel
theorem dX2_makePasses_7 : decode cX2_makePasses 7 = .ok (.iload_n 2, 1) := by decide +kernel
theorem dX2_makePasses_8 : decode cX2_makePasses 8 = .ok (.if_icmp .gt 37, 3) := by decide +kernel
theorem dX2_makePasses_11 : decode cX2_makePasses 11 = .ok (.iload 4, 2) := by decide +kernel
theorem dX2_makePasses_13 : decode cX2_makePasses 13 = .ok (.bipush 48, 2) := by decide +kernel
theorem dX2_makePasses_15 : decode cX2_makePasses 15 = .ok (.if_icmp .gt 30, 3) := by decide +kernel
theorem dX2_makePasses_18 : decode cX2_makePasses 18 = .ok (.aload_n 0, 1) := by decide +kernel
theorem dX2_makePasses_19 : decode cX2_makePasses 19 = .ok (.getfield 25, 3) := by decide +kernel
theorem dX2_makePasses_22 : decode cX2_makePasses 22 = .ok (.iload 4, 2) := by decide +kernel
theorem dX2_makePasses_24 : decode cX2_makePasses 24 = .ok (.invokestatic 38, 3) := by decide +kernel
theorem dX2_makePasses_27 : decode cX2_makePasses 27 = .ok (.ifCond .ne 12, 3) := by decide +kernel
theorem dX2_makePasses_30 : decode cX2_makePasses 30 = .ok (.aload_n 0, 1) := by decide +kernel
theorem dX2_makePasses_31 : decode cX2_makePasses 31 = .ok (.iload 4, 2) := by decide +kernel
theorem dX2_makePasses_33 : decode cX2_makePasses 33 = .ok (.invokevirtual 63, 3) := by decide +kernel
theorem dX2_makePasses_36 : decode cX2_makePasses 36 = .ok (.iinc 3 1, 3) := by decide +kernel
theorem dX2_makePasses_39 : decode cX2_makePasses 39 = .ok (.iinc 4 1, 3) := by decide +kernel
theorem dX2_makePasses_42 : decode cX2_makePasses 42 = .ok (.goto (-37), 3) := by decide +kernel
theorem dX2_makePasses_45 : decode cX2_makePasses 45 = .ok (.iload_n 3, 1) := by decide +kernel
theorem dX2_makePasses_46 : decode cX2_makePasses 46 = .ok (.ireturn, 1) := by decide +kernel
set_option maxRecDepth 20000 in
theorem ggX2_switchLock_X5_bit : GoodIn wsX2_switchLock wsX5_bit := goodIn_r _ [4] rfl (by decide +kernel)
set_option maxRecDepth 20000 in
theorem gX2_switchLock_X5_bit_n42 : GoodIn wsX2_switchLock (wsX5_bit) := ggX2_switchLock_X5_bit
theorem dX2_switchLock_0 : decode cX2_switchLock 0 = .ok (.aload_n 0, 1) := by decide +kernel
theorem dX2_switchLock_1 : decode cX2_switchLock 1 = .ok (.dup, 1) := by decide +kernel
theorem dX2_switchLock_2 : decode cX2_switchLock 2 = .ok (.getfield 22, 3) := by decide +kernel
theorem dX2_switchLock_5 : decode cX2_switchLock 5 = .ok (.iload_n 1, 1) := by decide +kernel
theorem dX2_switchLock_6 : decode cX2_switchLock 6 = .ok (.invokestatic 42, 3) := by decide +kernel
theorem dX2_switchLock_9 : decode cX2_switchLock 9 = .ok (.lxor, 1) := by decide +kernel
theorem dX2_switchLock_10 : decode cX2_switchLock 10 = .ok (.putfield 22, 3) := by decide +kernel
theorem dX2_switchLock_13 : decode cX2_switchLock 13 = .ok (.return_, 1) := by decide +kernel
set_option maxRecDepth 20000 in
theorem ggX2_reasonAgainst_X5_contains : GoodIn wsX2_reasonAgainst wsX5_contains := goodIn_r _ [5] rfl (by decide +kernel)
set_option maxRecDepth 20000 in
theorem gX2_reasonAgainst_X5_contains_n38 : GoodIn wsX2_reasonAgainst (wsX5_contains) := ggX2_reasonAgainst_X5_contains
set_option maxRecDepth 20000 in
theorem ggX2_reasonAgainst_X2_fits : GoodIn wsX2_reasonAgainst wsX2_fits := goodIn_r _ [9] rfl (by decide +kernel)
set_option maxRecDepth 20000 in
theorem gX2_reasonAgainst_X2_fits : GoodIn wsX2_reasonAgainst (va_wsS RX2 66 yX2_fits wsX2_fits) := goodIn_app (goodIn_of _ (by decide +kernel)) ggX2_reasonAgainst_X2_fits
theorem dX2_reasonAgainst_0 : decode cX2_reasonAgainst 0 = .ok (.aload_n 0, 1) := by decide +kernel
theorem dX2_reasonAgainst_1 : decode cX2_reasonAgainst 1 = .ok (.getfield 18, 3) := by decide +kernel
theorem dX2_reasonAgainst_4 : decode cX2_reasonAgainst 4 = .ok (.iload_n 1, 1) := by decide +kernel
theorem dX2_reasonAgainst_5 : decode cX2_reasonAgainst 5 = .ok (.invokestatic 38, 3) := by decide +kernel
theorem dX2_reasonAgainst_8 : decode cX2_reasonAgainst 8 = .ok (.ifCond .ne 5, 3) := by decide +kernel
theorem dX2_reasonAgainst_11 : decode cX2_reasonAgainst 11 = .ok (.iconst 1, 1) := by decide +kernel
theorem dX2_reasonAgainst_12 : decode cX2_reasonAgainst 12 = .ok (.ireturn, 1) := by decide +kernel
theorem dX2_reasonAgainst_13 : decode cX2_reasonAgainst 13 = .ok (.aload_n 0, 1) := by decide +kernel
theorem dX2_reasonAgainst_14 : decode cX2_reasonAgainst 14 = .ok (.getfield 28, 3) := by decide +kernel
theorem dX2_reasonAgainst_17 : decode cX2_reasonAgainst 17 = .ok (.iload_n 1, 1) := by decide +kernel
theorem dX2_reasonAgainst_18 : decode cX2_reasonAgainst 18 = .ok (.invokestatic 38, 3) := by decide +kernel
theorem dX2_reasonAgainst_21 : decode cX2_reasonAgainst 21 = .ok (.ifCond .eq 5, 3) := by decide +kernel
theorem dX2_reasonAgainst_24 : decode cX2_reasonAgainst 24 = .ok (.iconst 2, 1) := by decide +kernel
theorem dX2_reasonAgainst_25 : decode cX2_reasonAgainst 25 = .ok (.ireturn, 1) := by decide +kernel
theorem dX2_reasonAgainst_26 : decode cX2_reasonAgainst 26 = .ok (.iload_n 1, 1) := by decide +kernel
theorem dX2_reasonAgainst_27 : decode cX2_reasonAgainst 27 = .ok (.iload_n 2, 1) := by decide +kernel
theorem dX2_reasonAgainst_28 : decode cX2_reasonAgainst 28 = .ok (.invokestatic 66, 3) := by decide +kernel
theorem dX2_reasonAgainst_31 : decode cX2_reasonAgainst 31 = .ok (.ifCond .eq 7, 3) := by decide +kernel
theorem dX2_reasonAgainst_34 : decode cX2_reasonAgainst 34 = .ok (.iconst 0, 1) := by decide +kernel
theorem dX2_reasonAgainst_35 : decode cX2_reasonAgainst 35 = .ok (.goto 4, 3) := by decide +kernel
theorem dX2_reasonAgainst_38 : decode cX2_reasonAgainst 38 = .ok (.iconst 3, 1) := by decide +kernel
theorem dX2_reasonAgainst_39 : decode cX2_reasonAgainst 39 = .ok (.ireturn, 1) := by decide +kernel
theorem dX2_fits_0 : decode cX2_fits 0 = .ok (.iload_n 0, 1) := by decide +kernel
theorem dX2_fits_1 : decode cX2_fits 1 = .ok (.bipush 16, 2) := by decide +kernel
theorem dX2_fits_3 : decode cX2_fits 3 = .ok (.if_icmp .gt 13, 3) := by decide +kernel
theorem dX2_fits_6 : decode cX2_fits 6 = .ok (.iload_n 1, 1) := by decide +kernel
theorem dX2_fits_7 : decode cX2_fits 7 = .ok (.ifCond .ne 7, 3) := by decide +kernel
theorem dX2_fits_10 : decode cX2_fits 10 = .ok (.iconst 1, 1) := by decide +kernel
theorem dX2_fits_11 : decode cX2_fits 11 = .ok (.goto 4, 3) := by decide +kernel
theorem dX2_fits_14 : decode cX2_fits 14 = .ok (.iconst 0, 1) := by decide +kernel
theorem dX2_fits_15 : decode cX2_fits 15 = .ok (.ireturn, 1) := by decide +kernel
theorem dX2_fits_16 : decode cX2_fits 16 = .ok (.iload_n 0, 1) := by decide +kernel
theorem dX2_fits_17 : decode cX2_fits 17 = .ok (.bipush 32, 2) := by decide +kernel
theorem dX2_fits_19 : decode cX2_fits 19 = .ok (.if_icmp .gt 14, 3) := by decide +kernel
theorem dX2_fits_22 : decode cX2_fits 22 = .ok (.iload_n 1, 1) := by decide +kernel
theorem dX2_fits_23 : decode cX2_fits 23 = .ok (.iconst 1, 1) := by decide +kernel
theorem dX2_fits_24 : decode cX2_fits 24 = .ok (.if_icmp .ne 7, 3) := by decide +kernel
theorem dX2_fits_27 : decode cX2_fits 27 = .ok (.iconst 1, 1) := by decide +kernel
theorem dX2_fits_28 : decode cX2_fits 28 = .ok (.goto 4, 3) := by decide +kernel
theorem dX2_fits_31 : decode cX2_fits 31 = .ok (.iconst 0, 1) := by decide +kernel
theorem dX2_fits_32 : decode cX2_fits 32 = .ok (.ireturn, 1) := by decide +kernel
theorem dX2_fits_33 : decode cX2_fits 33 = .ok (.iconst 1, 1) := by decide +kernel
theorem dX2_fits_34 : decode cX2_fits 34 = .ok (.ireturn, 1) := by decide +kernel
set_option maxRecDepth 20000 in
theorem ggX2_put_X5_bit : GoodIn wsX2_put wsX5_bit := goodIn_r _ [5] rfl (by decide +kernel)
set_option maxRecDepth 20000 in
theorem gX2_put_X5_bit_n42 : GoodIn wsX2_put (wsX5_bit) := ggX2_put_X5_bit
theorem dX2_put_0 : decode cX2_put 0 = .ok (.aload_n 0, 1) := by decide +kernel
theorem dX2_put_1 : decode cX2_put 1 = .ok (.dup, 1) := by decide +kernel
theorem dX2_put_2 : decode cX2_put 2 = .ok (.getfield 28, 3) := by decide +kernel
theorem dX2_put_5 : decode cX2_put 5 = .ok (.iload_n 1, 1) := by decide +kernel
theorem dX2_put_6 : decode cX2_put 6 = .ok (.invokestatic 42, 3) := by decide +kernel
theorem dX2_put_9 : decode cX2_put 9 = .ok (.lor, 1) := by decide +kernel
theorem dX2_put_10 : decode cX2_put 10 = .ok (.putfield 28, 3) := by decide +kernel
theorem dX2_put_13 : decode cX2_put 13 = .ok (.iload_n 2, 1) := by decide +kernel
theorem dX2_put_14 : decode cX2_put 14 = .ok (.iconst 1, 1) := by decide +kernel
theorem dX2_put_15 : decode cX2_put 15 = .ok (.if_icmp .ne 16, 3) := by decide +kernel
theorem dX2_put_18 : decode cX2_put 18 = .ok (.aload_n 0, 1) := by decide +kernel
theorem dX2_put_19 : decode cX2_put 19 = .ok (.dup, 1) := by decide +kernel
theorem dX2_put_20 : decode cX2_put 20 = .ok (.getfield 31, 3) := by decide +kernel
theorem dX2_put_23 : decode cX2_put 23 = .ok (.iload_n 1, 1) := by decide +kernel
theorem dX2_put_24 : decode cX2_put 24 = .ok (.invokestatic 42, 3) := by decide +kernel
theorem dX2_put_27 : decode cX2_put 27 = .ok (.lor, 1) := by decide +kernel
theorem dX2_put_28 : decode cX2_put 28 = .ok (.putfield 31, 3) := by decide +kernel
theorem dX2_put_31 : decode cX2_put 31 = .ok (.return_, 1) := by decide +kernel
set_option maxRecDepth 20000 in
theorem ggX2_clear_X5_bit : GoodIn wsX2_clear wsX5_bit := goodIn_r _ [6] rfl (by decide +kernel)
set_option maxRecDepth 20000 in
theorem gX2_clear_X5_bit_n42 : GoodIn wsX2_clear (wsX5_bit) := ggX2_clear_X5_bit
theorem dX2_clear_0 : decode cX2_clear 0 = .ok (.aload_n 0, 1) := by decide +kernel
theorem dX2_clear_1 : decode cX2_clear 1 = .ok (.dup, 1) := by decide +kernel
theorem dX2_clear_2 : decode cX2_clear 2 = .ok (.getfield 28, 3) := by decide +kernel
theorem dX2_clear_5 : decode cX2_clear 5 = .ok (.iload_n 1, 1) := by decide +kernel
theorem dX2_clear_6 : decode cX2_clear 6 = .ok (.invokestatic 42, 3) := by decide +kernel
theorem dX2_clear_9 : decode cX2_clear 9 = .ok (.ldc2_w 53, 3) := by decide +kernel
theorem dX2_clear_12 : decode cX2_clear 12 = .ok (.lxor, 1) := by decide +kernel
theorem dX2_clear_13 : decode cX2_clear 13 = .ok (.land, 1) := by decide +kernel
theorem dX2_clear_14 : decode cX2_clear 14 = .ok (.putfield 28, 3) := by decide +kernel
theorem dX2_clear_17 : decode cX2_clear 17 = .ok (.aload_n 0, 1) := by decide +kernel
theorem dX2_clear_18 : decode cX2_clear 18 = .ok (.dup, 1) := by decide +kernel
theorem dX2_clear_19 : decode cX2_clear 19 = .ok (.getfield 31, 3) := by decide +kernel
theorem dX2_clear_22 : decode cX2_clear 22 = .ok (.iload_n 1, 1) := by decide +kernel
theorem dX2_clear_23 : decode cX2_clear 23 = .ok (.invokestatic 42, 3) := by decide +kernel
theorem dX2_clear_26 : decode cX2_clear 26 = .ok (.ldc2_w 53, 3) := by decide +kernel
theorem dX2_clear_29 : decode cX2_clear 29 = .ok (.lxor, 1) := by decide +kernel
theorem dX2_clear_30 : decode cX2_clear 30 = .ok (.land, 1) := by decide +kernel
theorem dX2_clear_31 : decode cX2_clear 31 = .ok (.putfield 31, 3) := by decide +kernel
theorem dX2_clear_34 : decode cX2_clear 34 = .ok (.return_, 1) := by decide +kernel
set_option maxRecDepth 20000 in
theorem ggX2_kindAt_X5_contains : GoodIn wsX2_kindAt wsX5_contains := goodIn_r _ [4] rfl (by decide +kernel)
set_option maxRecDepth 20000 in
theorem gX2_kindAt_X5_contains_n38 : GoodIn wsX2_kindAt (wsX5_contains) := ggX2_kindAt_X5_contains
theorem dX2_kindAt_0 : decode cX2_kindAt 0 = .ok (.aload_n 0, 1) := by decide +kernel
theorem dX2_kindAt_1 : decode cX2_kindAt 1 = .ok (.getfield 31, 3) := by decide +kernel
theorem dX2_kindAt_4 : decode cX2_kindAt 4 = .ok (.iload_n 1, 1) := by decide +kernel
theorem dX2_kindAt_5 : decode cX2_kindAt 5 = .ok (.invokestatic 38, 3) := by decide +kernel
theorem dX2_kindAt_8 : decode cX2_kindAt 8 = .ok (.ifCond .eq 7, 3) := by decide +kernel
theorem dX2_kindAt_11 : decode cX2_kindAt 11 = .ok (.iconst 1, 1) := by decide +kernel
theorem dX2_kindAt_12 : decode cX2_kindAt 12 = .ok (.goto 4, 3) := by decide +kernel
theorem dX2_kindAt_15 : decode cX2_kindAt 15 = .ok (.iconst 0, 1) := by decide +kernel
theorem dX2_kindAt_16 : decode cX2_kindAt 16 = .ok (.ireturn, 1) := by decide +kernel
theorem dX2_doorsWith_0 : decode cX2_doorsWith 0 = .ok (.iload_n 1, 1) := by decide +kernel
theorem dX2_doorsWith_1 : decode cX2_doorsWith 1 = .ok (.iconst 1, 1) := by decide +kernel
theorem dX2_doorsWith_2 : decode cX2_doorsWith 2 = .ok (.if_icmp .ne 10, 3) := by decide +kernel
theorem dX2_doorsWith_5 : decode cX2_doorsWith 5 = .ok (.aload_n 0, 1) := by decide +kernel
theorem dX2_doorsWith_6 : decode cX2_doorsWith 6 = .ok (.getfield 31, 3) := by decide +kernel
theorem dX2_doorsWith_9 : decode cX2_doorsWith 9 = .ok (.goto 16, 3) := by decide +kernel
theorem dX2_doorsWith_12 : decode cX2_doorsWith 12 = .ok (.aload_n 0, 1) := by decide +kernel
theorem dX2_doorsWith_13 : decode cX2_doorsWith 13 = .ok (.getfield 28, 3) := by decide +kernel
theorem dX2_doorsWith_16 : decode cX2_doorsWith 16 = .ok (.aload_n 0, 1) := by decide +kernel
theorem dX2_doorsWith_17 : decode cX2_doorsWith 17 = .ok (.getfield 31, 3) := by decide +kernel
theorem dX2_doorsWith_20 : decode cX2_doorsWith 20 = .ok (.ldc2_w 53, 3) := by decide +kernel
theorem dX2_doorsWith_23 : decode cX2_doorsWith 23 = .ok (.lxor, 1) := by decide +kernel
theorem dX2_doorsWith_24 : decode cX2_doorsWith 24 = .ok (.land, 1) := by decide +kernel
theorem dX2_doorsWith_25 : decode cX2_doorsWith 25 = .ok (.lreturn, 1) := by decide +kernel
theorem dX3_init_0 : decode cX3_init 0 = .ok (.aload_n 0, 1) := by decide +kernel
theorem dX3_init_1 : decode cX3_init 1 = .ok (.invokespecial 3, 3) := by decide +kernel
theorem dX3_init_4 : decode cX3_init 4 = .ok (.aload_n 0, 1) := by decide +kernel
theorem dX3_init_5 : decode cX3_init 5 = .ok (.bipush 60, 2) := by decide +kernel
theorem dX3_init_7 : decode cX3_init 7 = .ok (.newarray .char, 2) := by decide +kernel
theorem dX3_init_9 : decode cX3_init 9 = .ok (.putfield 9, 3) := by decide +kernel
theorem dX3_init_12 : decode cX3_init 12 = .ok (.return_, 1) := by decide +kernel
theorem dX3_append_0 : decode cX3_append 0 = .ok (.aload_n 0, 1) := by decide +kernel
theorem dX3_append_1 : decode cX3_append 1 = .ok (.getfield 15, 3) := by decide +kernel
theorem dX3_append_4 : decode cX3_append 4 = .ok (.ifCond .lt 35, 3) := by decide +kernel
theorem dX3_append_7 : decode cX3_append 7 = .ok (.aload_n 0, 1) := by decide +kernel
theorem dX3_append_8 : decode cX3_append 8 = .ok (.getfield 15, 3) := by decide +kernel
theorem dX3_append_11 : decode cX3_append 11 = .ok (.aload_n 0, 1) := by decide +kernel
theorem dX3_append_12 : decode cX3_append 12 = .ok (.getfield 9, 3) := by decide +kernel
theorem dX3_append_15 : decode cX3_append 15 = .ok (.arraylength, 1) := by decide +kernel
theorem dX3_append_16 : decode cX3_append 16 = .ok (.if_icmp .ge 23, 3) := by decide +kernel
theorem dX3_append_19 : decode cX3_append 19 = .ok (.aload_n 0, 1) := by decide +kernel
theorem dX3_append_20 : decode cX3_append 20 = .ok (.getfield 9, 3) := by decide +kernel
theorem dX3_append_23 : decode cX3_append 23 = .ok (.aload_n 0, 1) := by decide +kernel
theorem dX3_append_24 : decode cX3_append 24 = .ok (.getfield 15, 3) := by decide +kernel
theorem dX3_append_27 : decode cX3_append 27 = .ok (.iload_n 1, 1) := by decide +kernel
theorem dX3_append_28 : decode cX3_append 28 = .ok (.castore, 1) := by decide +kernel
theorem dX3_append_29 : decode cX3_append 29 = .ok (.aload_n 0, 1) := by decide +kernel
theorem dX3_append_30 : decode cX3_append 30 = .ok (.dup, 1) := by decide +kernel
theorem dX3_append_31 : decode cX3_append 31 = .ok (.getfield 15, 3) := by decide +kernel
theorem dX3_append_34 : decode cX3_append 34 = .ok (.iconst 1, 1) := by decide +kernel
theorem dX3_append_35 : decode cX3_append 35 = .ok (.iadd, 1) := by decide +kernel
theorem dX3_append_36 : decode cX3_append 36 = .ok (.putfield 15, 3) := by decide +kernel
theorem dX3_append_39 : decode cX3_append 39 = .ok (.return_, 1) := by decide +kernel
theorem dX3_codeAt_0 : decode cX3_codeAt 0 = .ok (.iload_n 1, 1) := by decide +kernel
theorem dX3_codeAt_1 : decode cX3_codeAt 1 = .ok (.ifCond .lt 20, 3) := by decide +kernel
theorem dX3_codeAt_4 : decode cX3_codeAt 4 = .ok (.iload_n 1, 1) := by decide +kernel
theorem dX3_codeAt_5 : decode cX3_codeAt 5 = .ok (.aload_n 0, 1) := by decide +kernel
theorem dX3_codeAt_6 : decode cX3_codeAt 6 = .ok (.getfield 15, 3) := by decide +kernel
theorem dX3_codeAt_9 : decode cX3_codeAt 9 = .ok (.if_icmp .ge 12, 3) := by decide +kernel
theorem dX3_codeAt_12 : decode cX3_codeAt 12 = .ok (.iload_n 1, 1) := by decide +kernel
theorem dX3_codeAt_13 : decode cX3_codeAt 13 = .ok (.aload_n 0, 1) := by decide +kernel
theorem dX3_codeAt_14 : decode cX3_codeAt 14 = .ok (.getfield 9, 3) := by decide +kernel
theorem dX3_codeAt_17 : decode cX3_codeAt 17 = .ok (.arraylength, 1) := by decide +kernel
theorem dX3_codeAt_18 : decode cX3_codeAt 18 = .ok (.if_icmp .lt 5, 3) := by decide +kernel
theorem dX3_codeAt_21 : decode cX3_codeAt 21 = .ok (.iconst (-1), 1) := by decide +kernel
theorem dX3_codeAt_22 : decode cX3_codeAt 22 = .ok (.ireturn, 1) := by decide +kernel
theorem dX3_codeAt_23 : decode cX3_codeAt 23 = .ok (.aload_n 0, 1) := by decide +kernel
theorem dX3_codeAt_24 : decode cX3_codeAt 24 = .ok (.getfield 9, 3) := by decide +kernel
theorem dX3_codeAt_27 : decode cX3_codeAt 27 = .ok (.iload_n 1, 1) := by decide +kernel
theorem dX3_codeAt_28 : decode cX3_codeAt 28 = .ok (.caload, 1) := by decide +kernel
theorem dX3_codeAt_29 : decode cX3_codeAt 29 = .ok (.ireturn, 1) := by decide +kernel
set_option maxRecDepth 20000 in
theorem ggX4_init_X2_init : GoodIn wsX4_init wsX2_init := goodIn_r _ [14, 15, 2, 3, 16, 17, 18, 22, 23, 24, 25, 26, 27, 28] rfl (by decide +kernel)
set_option maxRecDepth 20000 in
theorem gX4_init_X2_init : GoodIn wsX4_init (wsX2_init) := ggX4_init_X2_init
set_option maxRecDepth 20000 in
theorem ggX4_init_X1_init : GoodIn wsX4_init wsX1_init := goodIn_r _ [20, 21, 2, 3] rfl (by decide +kernel)
set_option maxRecDepth 20000 in
theorem gX4_init_X1_init_n20 : GoodIn wsX4_init (wsX1_init) := ggX4_init_X1_init
theorem dX4_init_0 : decode cX4_init 0 = .ok (.aload_n 0, 1) := by decide +kernel
theorem dX4_init_1 : decode cX4_init 1 = .ok (.invokespecial 3, 3) := by decide +kernel
theorem dX4_init_4 : decode cX4_init 4 = .ok (.aload_n 0, 1) := by decide +kernel
theorem dX4_init_5 : decode cX4_init 5 = .ok (.new 9, 3) := by decide +kernel
theorem dX4_init_8 : decode cX4_init 8 = .ok (.dup, 1) := by decide +kernel
theorem dX4_init_9 : decode cX4_init 9 = .ok (.invokespecial 11, 3) := by decide +kernel
theorem dX4_init_12 : decode cX4_init 12 = .ok (.putfield 12, 3) := by decide +kernel
theorem dX4_init_15 : decode cX4_init 15 = .ok (.aload_n 0, 1) := by decide +kernel
theorem dX4_init_16 : decode cX4_init 16 = .ok (.new 18, 3) := by decide +kernel
theorem dX4_init_19 : decode cX4_init 19 = .ok (.dup, 1) := by decide +kernel
theorem dX4_init_20 : decode cX4_init 20 = .ok (.invokespecial 20, 3) := by decide +kernel
theorem dX4_init_23 : decode cX4_init 23 = .ok (.putfield 21, 3) := by decide +kernel
theorem dX4_init_26 : decode cX4_init 26 = .ok (.return_, 1) := by decide +kernel
set_option maxRecDepth 20000 in
theorem ggX4_run_X2_copyFrom : GoodIn wsX4_run wsX2_copyFrom := goodIn_r _ [11, 12, 13, 14, 15, 16, 17, 18, 19, 20, 10, 21, 121, 122, 123, 124, 125, 126, 127] rfl (by decide +kernel)
set_option maxRecDepth 20000 in
theorem gX4_run_X2_copyFrom : GoodIn wsX4_run (wsV RX4 25 RX2 yX2_copyFrom wsX2_copyFrom) := goodIn_app (goodIn_of _ (by decide +kernel)) ggX4_run_X2_copyFrom
set_option maxRecDepth 20000 in
theorem ggX4_run_X1_readFrom : GoodIn wsX4_run wsX1_readFrom := goodIn_r _ [26, 27, 28, 29, 30, 31, 32, 33, 34, 35, 36, 37, 38, 39, 40, 25, 41, 42, 43, 44, 45, 46, 47, 48, 49, 50, 51, 52, 53, 54, 55, 116, 117, 118, 119, 120, 114, 115] rfl (by decide +kernel)
set_option maxRecDepth 20000 in
theorem gX4_run_X1_readFrom : GoodIn wsX4_run (wsV RX4 47 RX1 yX1_readFrom wsX1_readFrom) := goodIn_app (goodIn_of _ (by decide +kernel)) ggX4_run_X1_readFrom
set_option maxRecDepth 20000 in
theorem ggX4_run_X1_causeAgainst : GoodIn wsX4_run wsX1_causeAgainst := goodIn_r _ [59, 28, 29, 30, 60, 61, 62, 63, 64, 65, 66, 67, 68, 69, 70, 71, 10, 72, 12, 15, 73, 74, 75, 116, 117, 118, 119, 120, 121, 122, 123, 124, 125, 126, 127] rfl (by decide +kernel)
set_option maxRecDepth 20000 in
theorem gX4_run_X1_causeAgainst : GoodIn wsX4_run (wsV RX4 54 RX1 yX1_causeAgainst wsX1_causeAgainst) := goodIn_app (goodIn_of _ (by decide +kernel)) ggX4_run_X1_causeAgainst
set_option maxRecDepth 20000 in
theorem ggX4_run_X1_carryOut : GoodIn wsX4_run wsX1_carryOut := goodIn_r _ [79, 28, 29, 30, 80, 81, 82, 10, 83, 18, 84, 61, 85, 86, 87, 88, 89, 90, 91, 13, 12, 17, 65, 66, 92, 93, 94, 95, 96, 97, 98, 99, 100, 101, 102, 14, 103, 104, 105, 106, 107, 15, 16, 116, 117, 118, 119, 120, 121, 122, 123, 124, 125, 126, 127] rfl (by decide +kernel)
set_option maxRecDepth 20000 in
theorem gX4_run_X1_carryOut : GoodIn wsX4_run (wsV RX4 58 RX1 yX1_carryOut wsX1_carryOut) := goodIn_app (goodIn_of _ (by decide +kernel)) ggX4_run_X1_carryOut
theorem dX4_run_0 : decode cX4_run 0 = .ok (.aload_n 0, 1) := by decide +kernel
theorem dX4_run_1 : decode cX4_run 1 = .ok (.getfield 12, 3) := by decide +kernel
theorem dX4_run_4 : decode cX4_run 4 = .ok (.aload_n 2, 1) := by decide +kernel
theorem dX4_run_5 : decode cX4_run 5 = .ok (.invokevirtual 25, 3) := by decide +kernel
theorem dX4_run_8 : decode cX4_run 8 = .ok (.aload_n 0, 1) := by decide +kernel
theorem dX4_run_9 : decode cX4_run 9 = .ok (.iconst 0, 1) := by decide +kernel
theorem dX4_run_10 : decode cX4_run 10 = .ok (.putfield 29, 3) := by decide +kernel
theorem dX4_run_13 : decode cX4_run 13 = .ok (.aload_n 0, 1) := by decide +kernel
theorem dX4_run_14 : decode cX4_run 14 = .ok (.iconst 0, 1) := by decide +kernel
theorem dX4_run_15 : decode cX4_run 15 = .ok (.putfield 33, 3) := by decide +kernel
theorem dX4_run_18 : decode cX4_run 18 = .ok (.aload_n 0, 1) := by decide +kernel
theorem dX4_run_19 : decode cX4_run 19 = .ok (.iconst 0, 1) := by decide +kernel
theorem dX4_run_20 : decode cX4_run 20 = .ok (.putfield 36, 3) := by decide +kernel
theorem dX4_run_23 : decode cX4_run 23 = .ok (.aload_n 0, 1) := by decide +kernel
theorem dX4_run_24 : decode cX4_run 24 = .ok (.iconst 0, 1) := by decide +kernel
theorem dX4_run_25 : decode cX4_run 25 = .ok (.putfield 39, 3) := by decide +kernel
theorem dX4_run_28 : decode cX4_run 28 = .ok (.iconst 0, 1) := by decide +kernel
theorem dX4_run_29 : decode cX4_run 29 = .ok (.istore_n 3, 1) := by decide +kernel
theorem dX4_run_30 : decode cX4_run 30 = .ok (.iload_n 3, 1) := by decide +kernel
theorem dX4_run_31 : decode cX4_run 31 = .ok (.bipush 60, 2) := by decide +kernel
theorem dX4_run_33 : decode cX4_run 33 = .ok (.if_icmp .ge 117, 3) := by decide +kernel
theorem dX4_run_36 : decode cX4_run 36 = .ok (.aload_n 0, 1) := by decide +kernel
theorem dX4_run_37 : decode cX4_run 37 = .ok (.getfield 33, 3) := by decide +kernel
theorem dX4_run_40 : decode cX4_run 40 = .ok (.aload_n 1, 1) := by decide +kernel
theorem dX4_run_41 : decode cX4_run 41 = .ok (.getfield 42, 3) := by decide +kernel
theorem dX4_run_44 : decode cX4_run 44 = .ok (.if_icmp .ge 106, 3) := by decide +kernel
theorem dX4_run_47 : decode cX4_run 47 = .ok (.aload_n 0, 1) := by decide +kernel
theorem dX4_run_48 : decode cX4_run 48 = .ok (.getfield 21, 3) := by decide +kernel
theorem dX4_run_51 : decode cX4_run 51 = .ok (.aload_n 1, 1) := by decide +kernel
theorem dX4_run_52 : decode cX4_run 52 = .ok (.aload_n 0, 1) := by decide +kernel
theorem dX4_run_53 : decode cX4_run 53 = .ok (.getfield 33, 3) := by decide +kernel
theorem dX4_run_56 : decode cX4_run 56 = .ok (.invokevirtual 47, 3) := by decide +kernel
theorem dX4_run_59 : decode cX4_run 59 = .ok (.ifCond .ne 25, 3) := by decide +kernel
theorem dX4_run_62 : decode cX4_run 62 = .ok (.aload_n 0, 1) := by decide +kernel
theorem dX4_run_63 : decode cX4_run 63 = .ok (.iconst 1, 1) := by decide +kernel
theorem dX4_run_64 : decode cX4_run 64 = .ok (.putfield 36, 3) := by decide +kernel
theorem dX4_run_67 : decode cX4_run 67 = .ok (.aload_n 0, 1) := by decide +kernel
theorem dX4_run_68 : decode cX4_run 68 = .ok (.aload_n 0, 1) := by decide +kernel
theorem dX4_run_69 : decode cX4_run 69 = .ok (.getfield 21, 3) := by decide +kernel
theorem dX4_run_72 : decode cX4_run 72 = .ok (.getfield 51, 3) := by decide +kernel
theorem dX4_run_75 : decode cX4_run 75 = .ok (.aload_n 0, 1) := by decide +kernel
theorem dX4_run_76 : decode cX4_run 76 = .ok (.getfield 33, 3) := by decide +kernel
theorem dX4_run_79 : decode cX4_run 79 = .ok (.isub, 1) := by decide +kernel
theorem dX4_run_80 : decode cX4_run 80 = .ok (.putfield 39, 3) := by decide +kernel
theorem dX4_run_83 : decode cX4_run 83 = .ok (.return_, 1) := by decide +kernel
theorem dX4_run_84 : decode cX4_run 84 = .ok (.aload_n 0, 1) := by decide +kernel
theorem dX4_run_85 : decode cX4_run 85 = .ok (.aload_n 0, 1) := by decide +kernel
theorem dX4_run_86 : decode cX4_run 86 = .ok (.getfield 21, 3) := by decide +kernel
theorem dX4_run_89 : decode cX4_run 89 = .ok (.aload_n 0, 1) := by decide +kernel
theorem dX4_run_90 : decode cX4_run 90 = .ok (.getfield 12, 3) := by decide +kernel
theorem dX4_run_93 : decode cX4_run 93 = .ok (.invokevirtual 54, 3) := by decide +kernel
theorem dX4_run_96 : decode cX4_run 96 = .ok (.putfield 39, 3) := by decide +kernel
theorem dX4_run_99 : decode cX4_run 99 = .ok (.aload_n 0, 1) := by decide +kernel
theorem dX4_run_100 : decode cX4_run 100 = .ok (.getfield 39, 3) := by decide +kernel
theorem dX4_run_103 : decode cX4_run 103 = .ok (.ifCond .eq 9, 3) := by decide +kernel
theorem dX4_run_106 : decode cX4_run 106 = .ok (.aload_n 0, 1) := by decide +kernel
theorem dX4_run_107 : decode cX4_run 107 = .ok (.iconst 2, 1) := by decide +kernel
theorem dX4_run_108 : decode cX4_run 108 = .ok (.putfield 36, 3) := by decide +kernel
theorem dX4_run_111 : decode cX4_run 111 = .ok (.return_, 1) := by decide +kernel
theorem dX4_run_112 : decode cX4_run 112 = .ok (.aload_n 0, 1) := by decide +kernel
theorem dX4_run_113 : decode cX4_run 113 = .ok (.getfield 21, 3) := by decide +kernel
theorem dX4_run_116 : decode cX4_run 116 = .ok (.aload_n 0, 1) := by decide +kernel
theorem dX4_run_117 : decode cX4_run 117 = .ok (.getfield 12, 3) := by decide +kernel
theorem dX4_run_120 : decode cX4_run 120 = .ok (.invokevirtual 58, 3) := by decide +kernel
theorem dX4_run_123 : decode cX4_run 123 = .ok (.aload_n 0, 1) := by decide +kernel
theorem dX4_run_124 : decode cX4_run 124 = .ok (.aload_n 0, 1) := by decide +kernel
theorem dX4_run_125 : decode cX4_run 125 = .ok (.getfield 21, 3) := by decide +kernel
theorem dX4_run_128 : decode cX4_run 128 = .ok (.getfield 51, 3) := by decide +kernel
theorem dX4_run_131 : decode cX4_run 131 = .ok (.putfield 33, 3) := by decide +kernel
theorem dX4_run_134 : decode cX4_run 134 = .ok (.aload_n 0, 1) := by decide +kernel
theorem dX4_run_135 : decode cX4_run 135 = .ok (.dup, 1) := by decide +kernel
theorem dX4_run_136 : decode cX4_run 136 = .ok (.getfield 29, 3) := by decide +kernel
theorem dX4_run_139 : decode cX4_run 139 = .ok (.iconst 1, 1) := by decide +kernel
theorem dX4_run_140 : decode cX4_run 140 = .ok (.iadd, 1) := by decide +kernel
theorem dX4_run_141 : decode cX4_run 141 = .ok (.putfield 29, 3) := by decide +kernel
theorem dX4_run_144 : decode cX4_run 144 = .ok (.iinc 3 1, 3) := by decide +kernel
theorem dX4_run_147 : decode cX4_run 147 = .ok (.goto (-117), 3) := by decide +kernel
theorem dX4_run_150 : decode cX4_run 150 = .ok (.return_, 1) := by decide +kernel
set_option maxRecDepth 20000 in
theorem ggX5_init_X2_init : GoodIn wsX5_init wsX2_init := goodIn_r _ [24, 25, 2, 3, 26, 27, 28, 56, 57, 58, 59, 60, 61, 62] rfl (by decide +kernel)
set_option maxRecDepth 20000 in
theorem gX5_init_X2_init : GoodIn wsX5_init (wsX2_init) := ggX5_init_X2_init
set_option maxRecDepth 20000 in
theorem ggX5_init_X0_init : GoodIn wsX5_init wsX0_init := goodIn_r _ [31, 32, 2, 3, 33, 34, 5, 6, 35, 23, 24, 25, 26, 27, 28, 69, 70, 56, 57, 58, 59, 60, 61, 62] rfl (by decide +kernel)
set_option maxRecDepth 20000 in
theorem gX5_init_X0_init : GoodIn wsX5_init (wsX0_init) := ggX5_init_X0_init
set_option maxRecDepth 20000 in
theorem ggX5_init_X3_init : GoodIn wsX5_init wsX3_init := goodIn_r _ [38, 39, 2, 3, 40, 41, 71, 72] rfl (by decide +kernel)
set_option maxRecDepth 20000 in
theorem gX5_init_X3_init : GoodIn wsX5_init (wsX3_init) := ggX5_init_X3_init
set_option maxRecDepth 20000 in
theorem ggX5_init_X4_init : GoodIn wsX5_init wsX4_init := goodIn_r _ [44, 45, 2, 3, 46, 5, 6, 47, 48, 49, 50, 51, 52, 23, 24, 25, 26, 27, 28, 53, 54, 55, 56, 57, 58, 59, 60, 61, 62, 73, 74, 75, 76, 77, 78, 79, 80, 81, 82, 83] rfl (by decide +kernel)
set_option maxRecDepth 20000 in
theorem gX5_init_X4_init : GoodIn wsX5_init (wsX4_init) := ggX5_init_X4_init
theorem dX5_init_0 : decode cX5_init 0 = .ok (.aload_n 0, 1) := by decide +kernel
theorem dX5_init_1 : decode cX5_init 1 = .ok (.invokespecial 1, 3) := by decide +kernel
theorem dX5_init_4 : decode cX5_init 4 = .ok (.aload_n 0, 1) := by decide +kernel
theorem dX5_init_5 : decode cX5_init 5 = .ok (.new 7, 3) := by decide +kernel
theorem dX5_init_8 : decode cX5_init 8 = .ok (.dup, 1) := by decide +kernel
theorem dX5_init_9 : decode cX5_init 9 = .ok (.invokespecial 9, 3) := by decide +kernel
theorem dX5_init_12 : decode cX5_init 12 = .ok (.putfield 10, 3) := by decide +kernel
theorem dX5_init_15 : decode cX5_init 15 = .ok (.aload_n 0, 1) := by decide +kernel
theorem dX5_init_16 : decode cX5_init 16 = .ok (.new 7, 3) := by decide +kernel
theorem dX5_init_19 : decode cX5_init 19 = .ok (.dup, 1) := by decide +kernel
theorem dX5_init_20 : decode cX5_init 20 = .ok (.invokespecial 9, 3) := by decide +kernel
theorem dX5_init_23 : decode cX5_init 23 = .ok (.putfield 16, 3) := by decide +kernel
theorem dX5_init_26 : decode cX5_init 26 = .ok (.aload_n 0, 1) := by decide +kernel
theorem dX5_init_27 : decode cX5_init 27 = .ok (.iconst 0, 1) := by decide +kernel
theorem dX5_init_28 : decode cX5_init 28 = .ok (.putfield 19, 3) := by decide +kernel
theorem dX5_init_31 : decode cX5_init 31 = .ok (.aload_n 0, 1) := by decide +kernel
theorem dX5_init_32 : decode cX5_init 32 = .ok (.new 23, 3) := by decide +kernel
theorem dX5_init_35 : decode cX5_init 35 = .ok (.dup, 1) := by decide +kernel
theorem dX5_init_36 : decode cX5_init 36 = .ok (.invokespecial 25, 3) := by decide +kernel
theorem dX5_init_39 : decode cX5_init 39 = .ok (.putfield 26, 3) := by decide +kernel
theorem dX5_init_42 : decode cX5_init 42 = .ok (.aload_n 0, 1) := by decide +kernel
theorem dX5_init_43 : decode cX5_init 43 = .ok (.new 30, 3) := by decide +kernel
theorem dX5_init_46 : decode cX5_init 46 = .ok (.dup, 1) := by decide +kernel
theorem dX5_init_47 : decode cX5_init 47 = .ok (.invokespecial 32, 3) := by decide +kernel
theorem dX5_init_50 : decode cX5_init 50 = .ok (.putfield 33, 3) := by decide +kernel
theorem dX5_init_53 : decode cX5_init 53 = .ok (.aload_n 0, 1) := by decide +kernel
theorem dX5_init_54 : decode cX5_init 54 = .ok (.new 37, 3) := by decide +kernel
theorem dX5_init_57 : decode cX5_init 57 = .ok (.dup, 1) := by decide +kernel
theorem dX5_init_58 : decode cX5_init 58 = .ok (.invokespecial 39, 3) := by decide +kernel
theorem dX5_init_61 : decode cX5_init 61 = .ok (.putfield 40, 3) := by decide +kernel
theorem dX5_init_64 : decode cX5_init 64 = .ok (.return_, 1) := by decide +kernel
set_option maxRecDepth 20000 in
theorem ggX5_pass_X5_isInRow : GoodIn wsX5_pass wsX5_isInRow := goodIn_r _ [8] rfl (by decide +kernel)
set_option maxRecDepth 20000 in
theorem gX5_pass_X5_isInRow : GoodIn wsX5_pass (va_wsS RX5 44 yX5_isInRow wsX5_isInRow) := goodIn_app (goodIn_of _ (by decide +kernel)) ggX5_pass_X5_isInRow
set_option maxRecDepth 20000 in
theorem ggX5_pass_X0_push : GoodIn wsX5_pass wsX0_push := goodIn_r _ [13, 14, 15, 16, 17, 18, 12, 19, 20, 21, 22, 23, 24, 25, 26, 27, 28, 29, 30, 31, 32, 33, 34, 71, 72, 64, 65, 66, 67, 68, 69, 70] rfl (by decide +kernel)
set_option maxRecDepth 20000 in
theorem gX5_pass_X0_push : GoodIn wsX5_pass (wsV RX5 55 RX0 yX0_push wsX0_push) := goodIn_app (goodIn_of _ (by decide +kernel)) ggX5_pass_X0_push
set_option maxRecDepth 20000 in
theorem ggX5_pass_X2_makePass : GoodIn wsX5_pass wsX2_makePass := goodIn_r _ [38, 31, 39, 7, 40, 41, 42, 43, 44, 45, 23, 46, 26, 25, 30, 47, 48, 49, 50, 64, 65, 66, 67, 68, 69, 70] rfl (by decide +kernel)
set_option maxRecDepth 20000 in
theorem gX5_pass_X2_makePass : GoodIn wsX5_pass (wsV RX5 59 RX2 yX2_makePass wsX2_makePass) := goodIn_app (goodIn_of _ (by decide +kernel)) ggX5_pass_X2_makePass
set_option maxRecDepth 20000 in
theorem ggX5_pass_J13_bitCount_95d88 : GoodIn wsX5_pass wsJ13_bitCount_95d88 := goodIn_r _ [54, 55, 56, 57] rfl (by decide +kernel)
set_option maxRecDepth 20000 in
theorem gX5_pass_J13_bitCount_95d88 : GoodIn wsX5_pass (va_wsS RX5 67 yJ13_bitCount_95d88 wsJ13_bitCount_95d88) := goodIn_app (goodIn_of _ (by decide +kernel)) ggX5_pass_J13_bitCount_95d88
theorem dX5_pass_0 : decode cX5_pass 0 = .ok (.iload_n 1, 1) := by decide +kernel
theorem dX5_pass_1 : decode cX5_pass 1 = .ok (.invokestatic 44, 3) := by decide +kernel
theorem dX5_pass_4 : decode cX5_pass 4 = .ok (.ifCond .ne 13, 3) := by decide +kernel
theorem dX5_pass_7 : decode cX5_pass 7 = .ok (.new 48, 3) := by decide +kernel
theorem dX5_pass_10 : decode cX5_pass 10 = .ok (.dup, 1) := by decide +kernel
theorem dX5_pass_11 : decode cX5_pass 11 = .ok (.ldc 50, 2) := by decide +kernel
theorem dX5_pass_13 : decode cX5_pass 13 = .ok (.invokespecial 52, 3) := by decide +kernel
theorem dX5_pass_16 : decode cX5_pass 16 = .ok (.athrow, 1) := by decide +kernel
theorem dX5_pass_17 : decode cX5_pass 17 = .ok (.aload_n 0, 1) := by decide +kernel
theorem dX5_pass_18 : decode cX5_pass 18 = .ok (.getfield 26, 3) := by decide +kernel
theorem dX5_pass_21 : decode cX5_pass 21 = .ok (.aload_n 0, 1) := by decide +kernel
theorem dX5_pass_22 : decode cX5_pass 22 = .ok (.getfield 10, 3) := by decide +kernel
theorem dX5_pass_25 : decode cX5_pass 25 = .ok (.invokevirtual 55, 3) := by decide +kernel
theorem dX5_pass_28 : decode cX5_pass 28 = .ok (.aload_n 0, 1) := by decide +kernel
theorem dX5_pass_29 : decode cX5_pass 29 = .ok (.getfield 10, 3) := by decide +kernel
theorem dX5_pass_32 : decode cX5_pass 32 = .ok (.iload_n 1, 1) := by decide +kernel
theorem dX5_pass_33 : decode cX5_pass 33 = .ok (.invokevirtual 59, 3) := by decide +kernel
theorem dX5_pass_36 : decode cX5_pass 36 = .ok (.aload_n 0, 1) := by decide +kernel
theorem dX5_pass_37 : decode cX5_pass 37 = .ok (.getfield 10, 3) := by decide +kernel
theorem dX5_pass_40 : decode cX5_pass 40 = .ok (.getfield 63, 3) := by decide +kernel
theorem dX5_pass_43 : decode cX5_pass 43 = .ok (.invokestatic 67, 3) := by decide +kernel
theorem dX5_pass_46 : decode cX5_pass 46 = .ok (.ireturn, 1) := by decide +kernel
set_option maxRecDepth 20000 in
theorem ggX5_passRow_X5_isStretch : GoodIn wsX5_passRow wsX5_isStretch := goodIn_r _ [8] rfl (by decide +kernel)
set_option maxRecDepth 20000 in
theorem gX5_passRow_X5_isStretch : GoodIn wsX5_passRow (va_wsS RX5 73 yX5_isStretch wsX5_isStretch) := goodIn_app (goodIn_of _ (by decide +kernel)) ggX5_passRow_X5_isStretch
set_option maxRecDepth 20000 in
theorem ggX5_passRow_X0_push : GoodIn wsX5_passRow wsX0_push := goodIn_r _ [13, 14, 15, 16, 17, 18, 12, 19, 20, 21, 22, 23, 24, 25, 26, 27, 28, 29, 30, 31, 32, 33, 34, 61, 62, 63, 64, 65, 66, 67, 68, 69] rfl (by decide +kernel)
set_option maxRecDepth 20000 in
theorem gX5_passRow_X0_push : GoodIn wsX5_passRow (wsV RX5 55 RX0 yX0_push wsX0_push) := goodIn_app (goodIn_of _ (by decide +kernel)) ggX5_passRow_X0_push
set_option maxRecDepth 20000 in
theorem ggX5_passRow_X2_makePasses : GoodIn wsX5_passRow wsX2_makePasses := goodIn_r _ [38, 27, 39, 7, 40, 41, 42, 43, 23, 44, 31, 45, 46, 47, 48, 49, 50, 51, 52, 26, 25, 30, 53, 54, 63, 64, 65, 66, 67, 68, 69] rfl (by decide +kernel)
set_option maxRecDepth 20000 in
theorem gX5_passRow_X2_makePasses : GoodIn wsX5_passRow (wsV RX5 79 RX2 yX2_makePasses wsX2_makePasses) := goodIn_app (goodIn_of _ (by decide +kernel)) ggX5_passRow_X2_makePasses
theorem dX5_passRow_0 : decode cX5_passRow 0 = .ok (.iload_n 1, 1) := by decide +kernel
theorem dX5_passRow_1 : decode cX5_passRow 1 = .ok (.iload_n 2, 1) := by decide +kernel
theorem dX5_passRow_2 : decode cX5_passRow 2 = .ok (.invokestatic 73, 3) := by decide +kernel
theorem dX5_passRow_5 : decode cX5_passRow 5 = .ok (.ifCond .ne 13, 3) := by decide +kernel
theorem dX5_passRow_8 : decode cX5_passRow 8 = .ok (.new 48, 3) := by decide +kernel
theorem dX5_passRow_11 : decode cX5_passRow 11 = .ok (.dup, 1) := by decide +kernel
theorem dX5_passRow_12 : decode cX5_passRow 12 = .ok (.ldc 77, 2) := by decide +kernel
theorem dX5_passRow_14 : decode cX5_passRow 14 = .ok (.invokespecial 52, 3) := by decide +kernel
theorem dX5_passRow_17 : decode cX5_passRow 17 = .ok (.athrow, 1) := by decide +kernel
theorem dX5_passRow_18 : decode cX5_passRow 18 = .ok (.aload_n 0, 1) := by decide +kernel
theorem dX5_passRow_19 : decode cX5_passRow 19 = .ok (.getfield 26, 3) := by decide +kernel
theorem dX5_passRow_22 : decode cX5_passRow 22 = .ok (.aload_n 0, 1) := by decide +kernel
theorem dX5_passRow_23 : decode cX5_passRow 23 = .ok (.getfield 10, 3) := by decide +kernel
theorem dX5_passRow_26 : decode cX5_passRow 26 = .ok (.invokevirtual 55, 3) := by decide +kernel
theorem dX5_passRow_29 : decode cX5_passRow 29 = .ok (.aload_n 0, 1) := by decide +kernel
theorem dX5_passRow_30 : decode cX5_passRow 30 = .ok (.getfield 10, 3) := by decide +kernel
theorem dX5_passRow_33 : decode cX5_passRow 33 = .ok (.iload_n 1, 1) := by decide +kernel
theorem dX5_passRow_34 : decode cX5_passRow 34 = .ok (.iload_n 2, 1) := by decide +kernel
theorem dX5_passRow_35 : decode cX5_passRow 35 = .ok (.invokevirtual 79, 3) := by decide +kernel
theorem dX5_passRow_38 : decode cX5_passRow 38 = .ok (.ireturn, 1) := by decide +kernel
set_option maxRecDepth 20000 in
theorem ggX5_turnDoor_X5_isInRow : GoodIn wsX5_turnDoor wsX5_isInRow := goodIn_r _ [10] rfl (by decide +kernel)
set_option maxRecDepth 20000 in
theorem gX5_turnDoor_X5_isInRow : GoodIn wsX5_turnDoor (va_wsS RX5 44 yX5_isInRow wsX5_isInRow) := goodIn_app (goodIn_of _ (by decide +kernel)) ggX5_turnDoor_X5_isInRow
set_option maxRecDepth 20000 in
theorem ggX5_turnDoor_X5_contains : GoodIn wsX5_turnDoor wsX5_contains := goodIn_r _ [13] rfl (by decide +kernel)
set_option maxRecDepth 20000 in
theorem gX5_turnDoor_X5_contains : GoodIn wsX5_turnDoor (va_wsS RX5 88 yX5_contains wsX5_contains) := goodIn_app (goodIn_of _ (by decide +kernel)) ggX5_turnDoor_X5_contains
set_option maxRecDepth 20000 in
theorem ggX5_turnDoor_X0_push : GoodIn wsX5_turnDoor wsX0_push := goodIn_r _ [18, 19, 20, 21, 22, 23, 17, 24, 25, 26, 27, 28, 29, 30, 31, 32, 33, 34, 35, 36, 37, 38, 39, 61, 62, 54, 55, 56, 57, 58, 59, 60] rfl (by decide +kernel)
set_option maxRecDepth 20000 in
theorem gX5_turnDoor_X0_push : GoodIn wsX5_turnDoor (wsV RX5 55 RX0 yX0_push wsX0_push) := goodIn_app (goodIn_of _ (by decide +kernel)) ggX5_turnDoor_X0_push
set_option maxRecDepth 20000 in
theorem ggX5_turnDoor_X2_turn : GoodIn wsX5_turnDoor wsX2_turn := goodIn_r _ [43, 31, 30, 35, 12, 9, 13, 44, 45, 46, 47, 54, 55, 56, 57, 58, 59, 60] rfl (by decide +kernel)
set_option maxRecDepth 20000 in
theorem gX5_turnDoor_X2_turn : GoodIn wsX5_turnDoor (wsV RX5 97 RX2 yX2_turn wsX2_turn) := goodIn_app (goodIn_of _ (by decide +kernel)) ggX5_turnDoor_X2_turn
theorem dX5_turnDoor_0 : decode cX5_turnDoor 0 = .ok (.iload_n 1, 1) := by decide +kernel
theorem dX5_turnDoor_1 : decode cX5_turnDoor 1 = .ok (.invokestatic 44, 3) := by decide +kernel
theorem dX5_turnDoor_4 : decode cX5_turnDoor 4 = .ok (.ifCond .ne 13, 3) := by decide +kernel
theorem dX5_turnDoor_7 : decode cX5_turnDoor 7 = .ok (.new 48, 3) := by decide +kernel
theorem dX5_turnDoor_10 : decode cX5_turnDoor 10 = .ok (.dup, 1) := by decide +kernel
theorem dX5_turnDoor_11 : decode cX5_turnDoor 11 = .ok (.ldc 83, 2) := by decide +kernel
theorem dX5_turnDoor_13 : decode cX5_turnDoor 13 = .ok (.invokespecial 52, 3) := by decide +kernel
theorem dX5_turnDoor_16 : decode cX5_turnDoor 16 = .ok (.athrow, 1) := by decide +kernel
theorem dX5_turnDoor_17 : decode cX5_turnDoor 17 = .ok (.aload_n 0, 1) := by decide +kernel
theorem dX5_turnDoor_18 : decode cX5_turnDoor 18 = .ok (.getfield 10, 3) := by decide +kernel
theorem dX5_turnDoor_21 : decode cX5_turnDoor 21 = .ok (.getfield 85, 3) := by decide +kernel
theorem dX5_turnDoor_24 : decode cX5_turnDoor 24 = .ok (.iload_n 1, 1) := by decide +kernel
theorem dX5_turnDoor_25 : decode cX5_turnDoor 25 = .ok (.invokestatic 88, 3) := by decide +kernel
theorem dX5_turnDoor_28 : decode cX5_turnDoor 28 = .ok (.ifCond .eq 13, 3) := by decide +kernel
theorem dX5_turnDoor_31 : decode cX5_turnDoor 31 = .ok (.new 92, 3) := by decide +kernel
theorem dX5_turnDoor_34 : decode cX5_turnDoor 34 = .ok (.dup, 1) := by decide +kernel
theorem dX5_turnDoor_35 : decode cX5_turnDoor 35 = .ok (.ldc 94, 2) := by decide +kernel
theorem dX5_turnDoor_37 : decode cX5_turnDoor 37 = .ok (.invokespecial 96, 3) := by decide +kernel
theorem dX5_turnDoor_40 : decode cX5_turnDoor 40 = .ok (.athrow, 1) := by decide +kernel
theorem dX5_turnDoor_41 : decode cX5_turnDoor 41 = .ok (.aload_n 0, 1) := by decide +kernel
theorem dX5_turnDoor_42 : decode cX5_turnDoor 42 = .ok (.getfield 26, 3) := by decide +kernel
theorem dX5_turnDoor_45 : decode cX5_turnDoor 45 = .ok (.aload_n 0, 1) := by decide +kernel
theorem dX5_turnDoor_46 : decode cX5_turnDoor 46 = .ok (.getfield 10, 3) := by decide +kernel
theorem dX5_turnDoor_49 : decode cX5_turnDoor 49 = .ok (.invokevirtual 55, 3) := by decide +kernel
theorem dX5_turnDoor_52 : decode cX5_turnDoor 52 = .ok (.aload_n 0, 1) := by decide +kernel
theorem dX5_turnDoor_53 : decode cX5_turnDoor 53 = .ok (.getfield 10, 3) := by decide +kernel
theorem dX5_turnDoor_56 : decode cX5_turnDoor 56 = .ok (.iload_n 1, 1) := by decide +kernel
theorem dX5_turnDoor_57 : decode cX5_turnDoor 57 = .ok (.invokevirtual 97, 3) := by decide +kernel
theorem dX5_turnDoor_60 : decode cX5_turnDoor 60 = .ok (.aload_n 0, 1) := by decide +kernel
theorem dX5_turnDoor_61 : decode cX5_turnDoor 61 = .ok (.getfield 10, 3) := by decide +kernel
theorem dX5_turnDoor_64 : decode cX5_turnDoor 64 = .ok (.getfield 63, 3) := by decide +kernel
theorem dX5_turnDoor_67 : decode cX5_turnDoor 67 = .ok (.iload_n 1, 1) := by decide +kernel
theorem dX5_turnDoor_68 : decode cX5_turnDoor 68 = .ok (.invokestatic 88, 3) := by decide +kernel
theorem dX5_turnDoor_71 : decode cX5_turnDoor 71 = .ok (.ireturn, 1) := by decide +kernel
set_option maxRecDepth 20000 in
theorem ggX5_turnLock_X5_isInRow : GoodIn wsX5_turnLock wsX5_isInRow := goodIn_r _ [8] rfl (by decide +kernel)
set_option maxRecDepth 20000 in
theorem gX5_turnLock_X5_isInRow : GoodIn wsX5_turnLock (va_wsS RX5 44 yX5_isInRow wsX5_isInRow) := goodIn_app (goodIn_of _ (by decide +kernel)) ggX5_turnLock_X5_isInRow
set_option maxRecDepth 20000 in
theorem ggX5_turnLock_X0_push : GoodIn wsX5_turnLock wsX0_push := goodIn_r _ [13, 14, 15, 16, 17, 18, 12, 19, 20, 21, 22, 23, 24, 25, 26, 27, 28, 29, 30, 31, 32, 33, 34, 57, 58, 50, 51, 52, 53, 54, 55, 56] rfl (by decide +kernel)
set_option maxRecDepth 20000 in
theorem gX5_turnLock_X0_push : GoodIn wsX5_turnLock (wsV RX5 55 RX0 yX0_push wsX0_push) := goodIn_app (goodIn_of _ (by decide +kernel)) ggX5_turnLock_X0_push
set_option maxRecDepth 20000 in
theorem ggX5_turnLock_X2_switchLock : GoodIn wsX5_turnLock wsX2_switchLock := goodIn_r _ [38, 26, 39, 7, 40, 50, 51, 52, 53, 54, 55, 56] rfl (by decide +kernel)
set_option maxRecDepth 20000 in
theorem gX5_turnLock_X2_switchLock : GoodIn wsX5_turnLock (wsV RX5 100 RX2 yX2_switchLock wsX2_switchLock) := goodIn_app (goodIn_of _ (by decide +kernel)) ggX5_turnLock_X2_switchLock
set_option maxRecDepth 20000 in
theorem ggX5_turnLock_X5_contains : GoodIn wsX5_turnLock wsX5_contains := goodIn_r _ [43] rfl (by decide +kernel)
set_option maxRecDepth 20000 in
theorem gX5_turnLock_X5_contains : GoodIn wsX5_turnLock (va_wsS RX5 88 yX5_contains wsX5_contains) := goodIn_app (goodIn_of _ (by decide +kernel)) ggX5_turnLock_X5_contains
theorem dX5_turnLock_0 : decode cX5_turnLock 0 = .ok (.iload_n 1, 1) := by decide +kernel
theorem dX5_turnLock_1 : decode cX5_turnLock 1 = .ok (.invokestatic 44, 3) := by decide +kernel
theorem dX5_turnLock_4 : decode cX5_turnLock 4 = .ok (.ifCond .ne 13, 3) := by decide +kernel
theorem dX5_turnLock_7 : decode cX5_turnLock 7 = .ok (.new 48, 3) := by decide +kernel
theorem dX5_turnLock_10 : decode cX5_turnLock 10 = .ok (.dup, 1) := by decide +kernel
theorem dX5_turnLock_11 : decode cX5_turnLock 11 = .ok (.ldc 83, 2) := by decide +kernel
theorem dX5_turnLock_13 : decode cX5_turnLock 13 = .ok (.invokespecial 52, 3) := by decide +kernel
theorem dX5_turnLock_16 : decode cX5_turnLock 16 = .ok (.athrow, 1) := by decide +kernel
theorem dX5_turnLock_17 : decode cX5_turnLock 17 = .ok (.aload_n 0, 1) := by decide +kernel
theorem dX5_turnLock_18 : decode cX5_turnLock 18 = .ok (.getfield 26, 3) := by decide +kernel
theorem dX5_turnLock_21 : decode cX5_turnLock 21 = .ok (.aload_n 0, 1) := by decide +kernel
theorem dX5_turnLock_22 : decode cX5_turnLock 22 = .ok (.getfield 10, 3) := by decide +kernel
theorem dX5_turnLock_25 : decode cX5_turnLock 25 = .ok (.invokevirtual 55, 3) := by decide +kernel
theorem dX5_turnLock_28 : decode cX5_turnLock 28 = .ok (.aload_n 0, 1) := by decide +kernel
theorem dX5_turnLock_29 : decode cX5_turnLock 29 = .ok (.getfield 10, 3) := by decide +kernel
theorem dX5_turnLock_32 : decode cX5_turnLock 32 = .ok (.iload_n 1, 1) := by decide +kernel
theorem dX5_turnLock_33 : decode cX5_turnLock 33 = .ok (.invokevirtual 100, 3) := by decide +kernel
theorem dX5_turnLock_36 : decode cX5_turnLock 36 = .ok (.aload_n 0, 1) := by decide +kernel
theorem dX5_turnLock_37 : decode cX5_turnLock 37 = .ok (.getfield 10, 3) := by decide +kernel
theorem dX5_turnLock_40 : decode cX5_turnLock 40 = .ok (.getfield 85, 3) := by decide +kernel
theorem dX5_turnLock_43 : decode cX5_turnLock 43 = .ok (.iload_n 1, 1) := by decide +kernel
theorem dX5_turnLock_44 : decode cX5_turnLock 44 = .ok (.invokestatic 88, 3) := by decide +kernel
theorem dX5_turnLock_47 : decode cX5_turnLock 47 = .ok (.ireturn, 1) := by decide +kernel
set_option maxRecDepth 20000 in
theorem ggX5_turnSkip_X5_isInRow : GoodIn wsX5_turnSkip wsX5_isInRow := goodIn_r _ [8] rfl (by decide +kernel)
set_option maxRecDepth 20000 in
theorem gX5_turnSkip_X5_isInRow : GoodIn wsX5_turnSkip (va_wsS RX5 44 yX5_isInRow wsX5_isInRow) := goodIn_app (goodIn_of _ (by decide +kernel)) ggX5_turnSkip_X5_isInRow
set_option maxRecDepth 20000 in
theorem ggX5_turnSkip_X0_push : GoodIn wsX5_turnSkip wsX0_push := goodIn_r _ [13, 14, 15, 16, 17, 18, 12, 19, 20, 21, 22, 23, 24, 25, 26, 27, 28, 29, 30, 31, 32, 33, 34, 54, 55, 47, 48, 49, 50, 51, 52, 53] rfl (by decide +kernel)
set_option maxRecDepth 20000 in
theorem gX5_turnSkip_X0_push : GoodIn wsX5_turnSkip (wsV RX5 55 RX0 yX0_push wsX0_push) := goodIn_app (goodIn_of _ (by decide +kernel)) ggX5_turnSkip_X0_push
set_option maxRecDepth 20000 in
theorem ggX5_turnSkip_X5_bit : GoodIn wsX5_turnSkip wsX5_bit := goodIn_r _ [37] rfl (by decide +kernel)
set_option maxRecDepth 20000 in
theorem gX5_turnSkip_X5_bit : GoodIn wsX5_turnSkip (va_wsS RX5 106 yX5_bit wsX5_bit) := goodIn_app (goodIn_of _ (by decide +kernel)) ggX5_turnSkip_X5_bit
set_option maxRecDepth 20000 in
theorem ggX5_turnSkip_X5_contains : GoodIn wsX5_turnSkip wsX5_contains := goodIn_r _ [40] rfl (by decide +kernel)
set_option maxRecDepth 20000 in
theorem gX5_turnSkip_X5_contains : GoodIn wsX5_turnSkip (va_wsS RX5 88 yX5_contains wsX5_contains) := goodIn_app (goodIn_of _ (by decide +kernel)) ggX5_turnSkip_X5_contains
theorem dX5_turnSkip_0 : decode cX5_turnSkip 0 = .ok (.iload_n 1, 1) := by decide +kernel
theorem dX5_turnSkip_1 : decode cX5_turnSkip 1 = .ok (.invokestatic 44, 3) := by decide +kernel
theorem dX5_turnSkip_4 : decode cX5_turnSkip 4 = .ok (.ifCond .ne 13, 3) := by decide +kernel
theorem dX5_turnSkip_7 : decode cX5_turnSkip 7 = .ok (.new 48, 3) := by decide +kernel
theorem dX5_turnSkip_10 : decode cX5_turnSkip 10 = .ok (.dup, 1) := by decide +kernel
theorem dX5_turnSkip_11 : decode cX5_turnSkip 11 = .ok (.ldc 50, 2) := by decide +kernel
theorem dX5_turnSkip_13 : decode cX5_turnSkip 13 = .ok (.invokespecial 52, 3) := by decide +kernel
theorem dX5_turnSkip_16 : decode cX5_turnSkip 16 = .ok (.athrow, 1) := by decide +kernel
theorem dX5_turnSkip_17 : decode cX5_turnSkip 17 = .ok (.aload_n 0, 1) := by decide +kernel
theorem dX5_turnSkip_18 : decode cX5_turnSkip 18 = .ok (.getfield 26, 3) := by decide +kernel
theorem dX5_turnSkip_21 : decode cX5_turnSkip 21 = .ok (.aload_n 0, 1) := by decide +kernel
theorem dX5_turnSkip_22 : decode cX5_turnSkip 22 = .ok (.getfield 10, 3) := by decide +kernel
theorem dX5_turnSkip_25 : decode cX5_turnSkip 25 = .ok (.invokevirtual 55, 3) := by decide +kernel
theorem dX5_turnSkip_28 : decode cX5_turnSkip 28 = .ok (.aload_n 0, 1) := by decide +kernel
theorem dX5_turnSkip_29 : decode cX5_turnSkip 29 = .ok (.getfield 10, 3) := by decide +kernel
theorem dX5_turnSkip_32 : decode cX5_turnSkip 32 = .ok (.dup, 1) := by decide +kernel
theorem dX5_turnSkip_33 : decode cX5_turnSkip 33 = .ok (.getfield 103, 3) := by decide +kernel
theorem dX5_turnSkip_36 : decode cX5_turnSkip 36 = .ok (.iload_n 1, 1) := by decide +kernel
theorem dX5_turnSkip_37 : decode cX5_turnSkip 37 = .ok (.invokestatic 106, 3) := by decide +kernel
theorem dX5_turnSkip_40 : decode cX5_turnSkip 40 = .ok (.lxor, 1) := by decide +kernel
theorem dX5_turnSkip_41 : decode cX5_turnSkip 41 = .ok (.putfield 103, 3) := by decide +kernel
theorem dX5_turnSkip_44 : decode cX5_turnSkip 44 = .ok (.aload_n 0, 1) := by decide +kernel
theorem dX5_turnSkip_45 : decode cX5_turnSkip 45 = .ok (.getfield 10, 3) := by decide +kernel
theorem dX5_turnSkip_48 : decode cX5_turnSkip 48 = .ok (.getfield 103, 3) := by decide +kernel
theorem dX5_turnSkip_51 : decode cX5_turnSkip 51 = .ok (.iload_n 1, 1) := by decide +kernel
theorem dX5_turnSkip_52 : decode cX5_turnSkip 52 = .ok (.invokestatic 88, 3) := by decide +kernel
theorem dX5_turnSkip_55 : decode cX5_turnSkip 55 = .ok (.ireturn, 1) := by decide +kernel
set_option maxRecDepth 20000 in
theorem ggX5_store_X5_isInRow : GoodIn wsX5_store wsX5_isInRow := goodIn_r _ [10] rfl (by decide +kernel)
set_option maxRecDepth 20000 in
theorem gX5_store_X5_isInRow : GoodIn wsX5_store (va_wsS RX5 44 yX5_isInRow wsX5_isInRow) := goodIn_app (goodIn_of _ (by decide +kernel)) ggX5_store_X5_isInRow
set_option maxRecDepth 20000 in
theorem ggX5_store_X5_isKind : GoodIn wsX5_store wsX5_isKind := goodIn_r _ [13] rfl (by decide +kernel)
set_option maxRecDepth 20000 in
theorem gX5_store_X5_isKind : GoodIn wsX5_store (va_wsS RX5 110 yX5_isKind wsX5_isKind) := goodIn_app (goodIn_of _ (by decide +kernel)) ggX5_store_X5_isKind
set_option maxRecDepth 20000 in
theorem ggX5_store_X2_reasonAgainst : GoodIn wsX5_store wsX2_reasonAgainst := goodIn_r _ [18, 19, 20, 21, 9, 22, 23, 24, 17, 25, 73, 74, 75, 76, 77, 78, 79] rfl (by decide +kernel)
set_option maxRecDepth 20000 in
theorem gX5_store_X2_reasonAgainst : GoodIn wsX5_store (wsV RX5 115 RX2 yX2_reasonAgainst wsX2_reasonAgainst) := goodIn_app (goodIn_of _ (by decide +kernel)) ggX5_store_X2_reasonAgainst
set_option maxRecDepth 20000 in
theorem ggX5_store_X0_push : GoodIn wsX5_store wsX0_push := goodIn_r _ [30, 31, 32, 33, 34, 35, 29, 36, 37, 38, 39, 17, 40, 19, 41, 42, 20, 43, 44, 45, 46, 47, 48, 80, 81, 73, 74, 75, 76, 77, 78, 79] rfl (by decide +kernel)
set_option maxRecDepth 20000 in
theorem gX5_store_X0_push : GoodIn wsX5_store (wsV RX5 55 RX0 yX0_push wsX0_push) := goodIn_app (goodIn_of _ (by decide +kernel)) ggX5_store_X0_push
set_option maxRecDepth 20000 in
theorem ggX5_store_X2_put : GoodIn wsX5_store wsX2_put := goodIn_r _ [52, 20, 43, 53, 9, 54, 73, 74, 75, 76, 77, 78, 79] rfl (by decide +kernel)
set_option maxRecDepth 20000 in
theorem gX5_store_X2_put : GoodIn wsX5_store (wsV RX5 120 RX2 yX2_put wsX2_put) := goodIn_app (goodIn_of _ (by decide +kernel)) ggX5_store_X2_put
set_option maxRecDepth 20000 in
theorem ggX5_store_X2_doorsWith : GoodIn wsX5_store wsX2_doorsWith := goodIn_r _ [58, 43, 20, 59, 73, 74, 75, 76, 77, 78, 79] rfl (by decide +kernel)
set_option maxRecDepth 20000 in
theorem gX5_store_X2_doorsWith : GoodIn wsX5_store (wsV RX5 124 RX2 yX2_doorsWith wsX2_doorsWith) := goodIn_app (goodIn_of _ (by decide +kernel)) ggX5_store_X2_doorsWith
set_option maxRecDepth 20000 in
theorem ggX5_store_J13_bitCount_95d88 : GoodIn wsX5_store wsJ13_bitCount_95d88 := goodIn_r _ [63, 64, 65, 66] rfl (by decide +kernel)
set_option maxRecDepth 20000 in
theorem gX5_store_J13_bitCount_95d88 : GoodIn wsX5_store (va_wsS RX5 67 yJ13_bitCount_95d88 wsJ13_bitCount_95d88) := goodIn_app (goodIn_of _ (by decide +kernel)) ggX5_store_J13_bitCount_95d88
theorem dX5_store_0 : decode cX5_store 0 = .ok (.iload_n 1, 1) := by decide +kernel
theorem dX5_store_1 : decode cX5_store 1 = .ok (.invokestatic 44, 3) := by decide +kernel
theorem dX5_store_4 : decode cX5_store 4 = .ok (.ifCond .eq 10, 3) := by decide +kernel
theorem dX5_store_7 : decode cX5_store 7 = .ok (.iload_n 2, 1) := by decide +kernel
theorem dX5_store_8 : decode cX5_store 8 = .ok (.invokestatic 110, 3) := by decide +kernel
theorem dX5_store_11 : decode cX5_store 11 = .ok (.ifCond .ne 13, 3) := by decide +kernel
theorem dX5_store_14 : decode cX5_store 14 = .ok (.new 48, 3) := by decide +kernel
theorem dX5_store_17 : decode cX5_store 17 = .ok (.dup, 1) := by decide +kernel
theorem dX5_store_18 : decode cX5_store 18 = .ok (.ldc 113, 2) := by decide +kernel
theorem dX5_store_20 : decode cX5_store 20 = .ok (.invokespecial 52, 3) := by decide +kernel
theorem dX5_store_23 : decode cX5_store 23 = .ok (.athrow, 1) := by decide +kernel
theorem dX5_store_24 : decode cX5_store 24 = .ok (.aload_n 0, 1) := by decide +kernel
theorem dX5_store_25 : decode cX5_store 25 = .ok (.getfield 10, 3) := by decide +kernel
theorem dX5_store_28 : decode cX5_store 28 = .ok (.iload_n 1, 1) := by decide +kernel
theorem dX5_store_29 : decode cX5_store 29 = .ok (.iload_n 2, 1) := by decide +kernel
theorem dX5_store_30 : decode cX5_store 30 = .ok (.invokevirtual 115, 3) := by decide +kernel
theorem dX5_store_33 : decode cX5_store 33 = .ok (.ifCond .eq 13, 3) := by decide +kernel
theorem dX5_store_36 : decode cX5_store 36 = .ok (.new 92, 3) := by decide +kernel
theorem dX5_store_39 : decode cX5_store 39 = .ok (.dup, 1) := by decide +kernel
theorem dX5_store_40 : decode cX5_store 40 = .ok (.ldc 118, 2) := by decide +kernel
theorem dX5_store_42 : decode cX5_store 42 = .ok (.invokespecial 96, 3) := by decide +kernel
theorem dX5_store_45 : decode cX5_store 45 = .ok (.athrow, 1) := by decide +kernel
theorem dX5_store_46 : decode cX5_store 46 = .ok (.aload_n 0, 1) := by decide +kernel
theorem dX5_store_47 : decode cX5_store 47 = .ok (.getfield 26, 3) := by decide +kernel
theorem dX5_store_50 : decode cX5_store 50 = .ok (.aload_n 0, 1) := by decide +kernel
theorem dX5_store_51 : decode cX5_store 51 = .ok (.getfield 10, 3) := by decide +kernel
theorem dX5_store_54 : decode cX5_store 54 = .ok (.invokevirtual 55, 3) := by decide +kernel
theorem dX5_store_57 : decode cX5_store 57 = .ok (.aload_n 0, 1) := by decide +kernel
theorem dX5_store_58 : decode cX5_store 58 = .ok (.getfield 10, 3) := by decide +kernel
theorem dX5_store_61 : decode cX5_store 61 = .ok (.iload_n 1, 1) := by decide +kernel
theorem dX5_store_62 : decode cX5_store 62 = .ok (.iload_n 2, 1) := by decide +kernel
theorem dX5_store_63 : decode cX5_store 63 = .ok (.invokevirtual 120, 3) := by decide +kernel
theorem dX5_store_66 : decode cX5_store 66 = .ok (.aload_n 0, 1) := by decide +kernel
theorem dX5_store_67 : decode cX5_store 67 = .ok (.getfield 10, 3) := by decide +kernel
theorem dX5_store_70 : decode cX5_store 70 = .ok (.iload_n 2, 1) := by decide +kernel
theorem dX5_store_71 : decode cX5_store 71 = .ok (.invokevirtual 124, 3) := by decide +kernel
theorem dX5_store_74 : decode cX5_store 74 = .ok (.invokestatic 67, 3) := by decide +kernel
theorem dX5_store_77 : decode cX5_store 77 = .ok (.ireturn, 1) := by decide +kernel
set_option maxRecDepth 20000 in
theorem ggX5_takeOut_X5_isInRow : GoodIn wsX5_takeOut wsX5_isInRow := goodIn_r _ [10] rfl (by decide +kernel)
set_option maxRecDepth 20000 in
theorem gX5_takeOut_X5_isInRow : GoodIn wsX5_takeOut (va_wsS RX5 44 yX5_isInRow wsX5_isInRow) := goodIn_app (goodIn_of _ (by decide +kernel)) ggX5_takeOut_X5_isInRow
set_option maxRecDepth 20000 in
theorem ggX5_takeOut_X5_contains : GoodIn wsX5_takeOut wsX5_contains := goodIn_r _ [13] rfl (by decide +kernel)
set_option maxRecDepth 20000 in
theorem gX5_takeOut_X5_contains : GoodIn wsX5_takeOut (va_wsS RX5 88 yX5_contains wsX5_contains) := goodIn_app (goodIn_of _ (by decide +kernel)) ggX5_takeOut_X5_contains
set_option maxRecDepth 20000 in
theorem ggX5_takeOut_X2_kindAt : GoodIn wsX5_takeOut wsX2_kindAt := goodIn_r _ [18, 19, 12, 9, 13, 57, 58, 59, 60, 61, 62, 63] rfl (by decide +kernel)
set_option maxRecDepth 20000 in
theorem gX5_takeOut_X2_kindAt : GoodIn wsX5_takeOut (wsV RX5 134 RX2 yX2_kindAt wsX2_kindAt) := goodIn_app (goodIn_of _ (by decide +kernel)) ggX5_takeOut_X2_kindAt
set_option maxRecDepth 20000 in
theorem ggX5_takeOut_X0_push : GoodIn wsX5_takeOut wsX0_push := goodIn_r _ [24, 25, 26, 27, 28, 29, 23, 30, 31, 32, 33, 17, 34, 35, 36, 37, 38, 19, 39, 40, 41, 42, 43, 64, 65, 57, 58, 59, 60, 61, 62, 63] rfl (by decide +kernel)
set_option maxRecDepth 20000 in
theorem gX5_takeOut_X0_push : GoodIn wsX5_takeOut (wsV RX5 55 RX0 yX0_push wsX0_push) := goodIn_app (goodIn_of _ (by decide +kernel)) ggX5_takeOut_X0_push
set_option maxRecDepth 20000 in
theorem ggX5_takeOut_X2_clear : GoodIn wsX5_takeOut wsX2_clear := goodIn_r _ [47, 38, 48, 19, 49, 9, 50, 57, 58, 59, 60, 61, 62, 63] rfl (by decide +kernel)
set_option maxRecDepth 20000 in
theorem gX5_takeOut_X2_clear : GoodIn wsX5_takeOut (wsV RX5 138 RX2 yX2_clear wsX2_clear) := goodIn_app (goodIn_of _ (by decide +kernel)) ggX5_takeOut_X2_clear
theorem dX5_takeOut_0 : decode cX5_takeOut 0 = .ok (.iload_n 1, 1) := by decide +kernel
theorem dX5_takeOut_1 : decode cX5_takeOut 1 = .ok (.invokestatic 44, 3) := by decide +kernel
theorem dX5_takeOut_4 : decode cX5_takeOut 4 = .ok (.ifCond .ne 13, 3) := by decide +kernel
