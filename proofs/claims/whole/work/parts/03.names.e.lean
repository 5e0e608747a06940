theorem dX3_canLoad_25 : decode cX3_canLoad 25 = .ok (.aload_n 0, 1) := by decide +kernel
theorem dX3_canLoad_26 : decode cX3_canLoad 26 = .ok (.getfield 33, 3) := by decide +kernel
theorem dX3_canLoad_29 : decode cX3_canLoad 29 = .ok (.ifCond .ne 20, 3) := by decide +kernel
theorem dX3_canLoad_32 : decode cX3_canLoad 32 = .ok (.aload_n 0, 1) := by decide +kernel
theorem dX3_canLoad_33 : decode cX3_canLoad 33 = .ok (.iload_n 1, 1) := by decide +kernel
theorem dX3_canLoad_34 : decode cX3_canLoad 34 = .ok (.iload_n 2, 1) := by decide +kernel
theorem dX3_canLoad_35 : decode cX3_canLoad 35 = .ok (.iload_n 3, 1) := by decide +kernel
theorem dX3_canLoad_36 : decode cX3_canLoad 36 = .ok (.invokestatic 70, 3) := by decide +kernel
theorem dX3_canLoad_39 : decode cX3_canLoad 39 = .ok (.invokevirtual 94, 3) := by decide +kernel
theorem dX3_canLoad_42 : decode cX3_canLoad 42 = .ok (.ifCond .eq 7, 3) := by decide +kernel
theorem dX3_canLoad_45 : decode cX3_canLoad 45 = .ok (.iconst 1, 1) := by decide +kernel
theorem dX3_canLoad_46 : decode cX3_canLoad 46 = .ok (.goto 4, 3) := by decide +kernel
theorem dX3_canLoad_49 : decode cX3_canLoad 49 = .ok (.iconst 0, 1) := by decide +kernel
theorem dX3_canLoad_50 : decode cX3_canLoad 50 = .ok (.ireturn, 1) := by decide +kernel
set_option maxRecDepth 20000 in
theorem ggX3_put_X3_high : GoodIn wsX3_put wsX3_high := goodIn_r _ [8, 9, 10, 11, 12, 7, 13, 2, 14, 15, 16, 17, 3, 18, 19, 20, 21, 22, 23, 24, 25, 26, 27, 28, 29, 30] (by decide +kernel) (by decide +kernel)
set_option maxRecDepth 20000 in
theorem gX3_put_X3_high : GoodIn wsX3_put (wsV RX3 85 RX3 yX3_high wsX3_high) := goodIn_app (goodIn_of _ (by decide +kernel)) ggX3_put_X3_high
theorem dX3_put_0 : decode cX3_put 0 = .ok (.aload_n 0, 1) := by decide +kernel
theorem dX3_put_1 : decode cX3_put 1 = .ok (.getfield 16, 3) := by decide +kernel
theorem dX3_put_4 : decode cX3_put 4 = .ok (.iload_n 1, 1) := by decide +kernel
theorem dX3_put_5 : decode cX3_put 5 = .ok (.aload_n 0, 1) := by decide +kernel
theorem dX3_put_6 : decode cX3_put 6 = .ok (.iload_n 2, 1) := by decide +kernel
theorem dX3_put_7 : decode cX3_put 7 = .ok (.invokevirtual 85, 3) := by decide +kernel
theorem dX3_put_10 : decode cX3_put 10 = .ok (.iastore, 1) := by decide +kernel
theorem dX3_put_11 : decode cX3_put 11 = .ok (.aload_n 0, 1) := by decide +kernel
theorem dX3_put_12 : decode cX3_put 12 = .ok (.getfield 13, 3) := by decide +kernel
theorem dX3_put_15 : decode cX3_put 15 = .ok (.iload_n 1, 1) := by decide +kernel
theorem dX3_put_16 : decode cX3_put 16 = .ok (.iload_n 2, 1) := by decide +kernel
theorem dX3_put_17 : decode cX3_put 17 = .ok (.iastore, 1) := by decide +kernel
theorem dX3_put_18 : decode cX3_put 18 = .ok (.aload_n 0, 1) := by decide +kernel
theorem dX3_put_19 : decode cX3_put 19 = .ok (.getfield 9, 3) := by decide +kernel
theorem dX3_put_22 : decode cX3_put 22 = .ok (.iconst 5, 1) := by decide +kernel
theorem dX3_put_23 : decode cX3_put 23 = .ok (.iload_n 1, 1) := by decide +kernel
theorem dX3_put_24 : decode cX3_put 24 = .ok (.imul, 1) := by decide +kernel
theorem dX3_put_25 : decode cX3_put 25 = .ok (.iconst 4, 1) := by decide +kernel
theorem dX3_put_26 : decode cX3_put 26 = .ok (.iadd, 1) := by decide +kernel
theorem dX3_put_27 : decode cX3_put 27 = .ok (.iconst 1, 1) := by decide +kernel
theorem dX3_put_28 : decode cX3_put 28 = .ok (.iastore, 1) := by decide +kernel
theorem dX3_put_29 : decode cX3_put 29 = .ok (.return_, 1) := by decide +kernel
set_option maxRecDepth 20000 in
theorem ggX3_load_X3_isContainer : GoodIn wsX3_load wsX3_isContainer := goodIn_r _ [7, 8, 9, 10, 6, 11, 66, 67, 68, 69, 70, 71, 72, 73, 74, 75, 76, 77, 78] (by decide +kernel) (by decide +kernel)
set_option maxRecDepth 20000 in
theorem gX3_load_X3_isContainer : GoodIn wsX3_load (wsV RX3 63 RX3 yX3_isContainer wsX3_isContainer) := goodIn_app (goodIn_of _ (by decide +kernel)) ggX3_load_X3_isContainer
set_option maxRecDepth 20000 in
theorem ggX3_load_X3_isStack : GoodIn wsX3_load wsX3_isStack := goodIn_r _ [14, 9, 10, 6, 11] (by decide +kernel) (by decide +kernel)
set_option maxRecDepth 20000 in
theorem gX3_load_X3_isStack : GoodIn wsX3_load (va_wsS RX3 67 yX3_isStack wsX3_isStack) := goodIn_app (goodIn_of _ (by decide +kernel)) ggX3_load_X3_isStack
set_option maxRecDepth 20000 in
theorem ggX3_load_X3_fail : GoodIn wsX3_load wsX3_fail := goodIn_r _ [18, 1, 66, 67, 68, 69, 70, 71, 72, 73, 74, 75, 76, 77, 78] (by decide +kernel) (by decide +kernel)
set_option maxRecDepth 20000 in
theorem gX3_load_X3_fail : GoodIn wsX3_load (wsV RX3 51 RX3 yX3_fail wsX3_fail) := goodIn_app (goodIn_of _ (by decide +kernel)) ggX3_load_X3_fail
set_option maxRecDepth 20000 in
theorem ggX3_load_X3_stack : GoodIn wsX3_load wsX3_stack := goodIn_r _ [21] (by decide +kernel) (by decide +kernel)
set_option maxRecDepth 20000 in
theorem gX3_load_X3_stack : GoodIn wsX3_load (va_wsS RX3 70 yX3_stack wsX3_stack) := goodIn_app (goodIn_of _ (by decide +kernel)) ggX3_load_X3_stack
set_option maxRecDepth 20000 in
theorem ggX3_load_X3_isAllowed : GoodIn wsX3_load wsX3_isAllowed := goodIn_r _ [25, 26, 27, 28, 29, 8, 30, 31, 32, 33, 6, 34, 35, 36, 37, 38, 39, 40, 41, 42, 43, 44, 45, 46, 47, 48, 49, 50, 51, 52, 53, 54, 55, 56, 57, 58, 59, 60, 61, 66, 67, 68, 69, 70, 71, 72, 73, 74, 75, 76, 77, 78] (by decide +kernel) (by decide +kernel)
set_option maxRecDepth 20000 in
theorem gX3_load_X3_isAllowed : GoodIn wsX3_load (wsV RX3 94 RX3 yX3_isAllowed wsX3_isAllowed) := goodIn_app (goodIn_of _ (by decide +kernel)) ggX3_load_X3_isAllowed
set_option maxRecDepth 20000 in
theorem ggX3_load_X3_put : GoodIn wsX3_load wsX3_put := goodIn_r _ [65, 2, 30, 26, 35, 36, 37, 6, 38, 8, 39, 40, 41, 42, 31, 32, 33, 34, 66, 67, 68, 69, 70, 71, 72, 73, 74, 75, 76, 77, 78] (by decide +kernel) (by decide +kernel)
set_option maxRecDepth 20000 in
theorem gX3_load_X3_put : GoodIn wsX3_load (wsV RX3 97 RX3 yX3_put wsX3_put) := goodIn_app (goodIn_of _ (by decide +kernel)) ggX3_load_X3_put
theorem dX3_load_0 : decode cX3_load 0 = .ok (.aload_n 0, 1) := by decide +kernel
theorem dX3_load_1 : decode cX3_load 1 = .ok (.iconst 0, 1) := by decide +kernel
theorem dX3_load_2 : decode cX3_load 2 = .ok (.putfield 33, 3) := by decide +kernel
theorem dX3_load_5 : decode cX3_load 5 = .ok (.aload_n 0, 1) := by decide +kernel
theorem dX3_load_6 : decode cX3_load 6 = .ok (.iload_n 1, 1) := by decide +kernel
theorem dX3_load_7 : decode cX3_load 7 = .ok (.invokevirtual 63, 3) := by decide +kernel
theorem dX3_load_10 : decode cX3_load 10 = .ok (.ifCond .eq 11, 3) := by decide +kernel
theorem dX3_load_13 : decode cX3_load 13 = .ok (.iload_n 2, 1) := by decide +kernel
theorem dX3_load_14 : decode cX3_load 14 = .ok (.iload_n 3, 1) := by decide +kernel
theorem dX3_load_15 : decode cX3_load 15 = .ok (.invokestatic 67, 3) := by decide +kernel
theorem dX3_load_18 : decode cX3_load 18 = .ok (.ifCond .ne 9, 3) := by decide +kernel
theorem dX3_load_21 : decode cX3_load 21 = .ok (.aload_n 0, 1) := by decide +kernel
theorem dX3_load_22 : decode cX3_load 22 = .ok (.iconst 1, 1) := by decide +kernel
theorem dX3_load_23 : decode cX3_load 23 = .ok (.invokevirtual 51, 3) := by decide +kernel
theorem dX3_load_26 : decode cX3_load 26 = .ok (.ireturn, 1) := by decide +kernel
theorem dX3_load_27 : decode cX3_load 27 = .ok (.aload_n 0, 1) := by decide +kernel
theorem dX3_load_28 : decode cX3_load 28 = .ok (.iload_n 1, 1) := by decide +kernel
theorem dX3_load_29 : decode cX3_load 29 = .ok (.iload_n 2, 1) := by decide +kernel
theorem dX3_load_30 : decode cX3_load 30 = .ok (.iload_n 3, 1) := by decide +kernel
theorem dX3_load_31 : decode cX3_load 31 = .ok (.invokestatic 70, 3) := by decide +kernel
theorem dX3_load_34 : decode cX3_load 34 = .ok (.invokevirtual 94, 3) := by decide +kernel
theorem dX3_load_37 : decode cX3_load 37 = .ok (.ifCond .ne 9, 3) := by decide +kernel
theorem dX3_load_40 : decode cX3_load 40 = .ok (.aload_n 0, 1) := by decide +kernel
theorem dX3_load_41 : decode cX3_load 41 = .ok (.iconst 2, 1) := by decide +kernel
theorem dX3_load_42 : decode cX3_load 42 = .ok (.invokevirtual 51, 3) := by decide +kernel
theorem dX3_load_45 : decode cX3_load 45 = .ok (.ireturn, 1) := by decide +kernel
theorem dX3_load_46 : decode cX3_load 46 = .ok (.aload_n 0, 1) := by decide +kernel
theorem dX3_load_47 : decode cX3_load 47 = .ok (.iload_n 1, 1) := by decide +kernel
theorem dX3_load_48 : decode cX3_load 48 = .ok (.iload_n 2, 1) := by decide +kernel
theorem dX3_load_49 : decode cX3_load 49 = .ok (.iload_n 3, 1) := by decide +kernel
theorem dX3_load_50 : decode cX3_load 50 = .ok (.invokestatic 70, 3) := by decide +kernel
theorem dX3_load_53 : decode cX3_load 53 = .ok (.invokevirtual 97, 3) := by decide +kernel
theorem dX3_load_56 : decode cX3_load 56 = .ok (.aload_n 0, 1) := by decide +kernel
theorem dX3_load_57 : decode cX3_load 57 = .ok (.getfield 16, 3) := by decide +kernel
theorem dX3_load_60 : decode cX3_load 60 = .ok (.iload_n 1, 1) := by decide +kernel
theorem dX3_load_61 : decode cX3_load 61 = .ok (.iaload, 1) := by decide +kernel
theorem dX3_load_62 : decode cX3_load 62 = .ok (.ireturn, 1) := by decide +kernel
set_option maxRecDepth 20000 in
theorem ggX3_lift_X3_isStack : GoodIn wsX3_lift wsX3_isStack := goodIn_r _ [7, 8, 9, 6, 10] (by decide +kernel) (by decide +kernel)
set_option maxRecDepth 20000 in
theorem gX3_lift_X3_isStack : GoodIn wsX3_lift (va_wsS RX3 67 yX3_isStack wsX3_isStack) := goodIn_app (goodIn_of _ (by decide +kernel)) ggX3_lift_X3_isStack
set_option maxRecDepth 20000 in
theorem ggX3_lift_X3_fail : GoodIn wsX3_lift wsX3_fail := goodIn_r _ [14, 1, 37, 38, 39, 40, 41, 42, 43, 44, 45, 46, 47, 48, 49] (by decide +kernel) (by decide +kernel)
set_option maxRecDepth 20000 in
theorem gX3_lift_X3_fail : GoodIn wsX3_lift (wsV RX3 51 RX3 yX3_fail wsX3_fail) := goodIn_app (goodIn_of _ (by decide +kernel)) ggX3_lift_X3_fail
set_option maxRecDepth 20000 in
theorem ggX3_lift_X3_stack : GoodIn wsX3_lift wsX3_stack := goodIn_r _ [17] (by decide +kernel) (by decide +kernel)
set_option maxRecDepth 20000 in
theorem gX3_lift_X3_stack : GoodIn wsX3_lift (va_wsS RX3 70 yX3_stack wsX3_stack) := goodIn_app (goodIn_of _ (by decide +kernel)) ggX3_lift_X3_stack
set_option maxRecDepth 20000 in
theorem ggX3_lift_X3_high : GoodIn wsX3_lift wsX3_high := goodIn_r _ [21, 22, 23, 24, 25, 6, 26, 27, 28, 29, 30, 31, 2, 37, 38, 39, 40, 41, 42, 43, 44, 45, 46, 47, 48, 49] (by decide +kernel) (by decide +kernel)
set_option maxRecDepth 20000 in
theorem gX3_lift_X3_high : GoodIn wsX3_lift (wsV RX3 85 RX3 yX3_high wsX3_high) := goodIn_app (goodIn_of _ (by decide +kernel)) ggX3_lift_X3_high
set_option maxRecDepth 20000 in
theorem ggX3_lift_X3_find : GoodIn wsX3_lift wsX3_find := goodIn_r _ [35, 22, 36, 23, 24, 25, 6, 26, 27, 28, 29, 30, 31, 2, 37, 38, 39, 40, 41, 42, 43, 44, 45, 46, 47, 48, 49] (by decide +kernel) (by decide +kernel)
set_option maxRecDepth 20000 in
theorem gX3_lift_X3_find : GoodIn wsX3_lift (wsV RX3 101 RX3 yX3_find wsX3_find) := goodIn_app (goodIn_of _ (by decide +kernel)) ggX3_lift_X3_find
theorem dX3_lift_0 : decode cX3_lift 0 = .ok (.aload_n 0, 1) := by decide +kernel
theorem dX3_lift_1 : decode cX3_lift 1 = .ok (.iconst 0, 1) := by decide +kernel
theorem dX3_lift_2 : decode cX3_lift 2 = .ok (.putfield 33, 3) := by decide +kernel
theorem dX3_lift_5 : decode cX3_lift 5 = .ok (.iload_n 1, 1) := by decide +kernel
theorem dX3_lift_6 : decode cX3_lift 6 = .ok (.iload_n 2, 1) := by decide +kernel
theorem dX3_lift_7 : decode cX3_lift 7 = .ok (.invokestatic 67, 3) := by decide +kernel
theorem dX3_lift_10 : decode cX3_lift 10 = .ok (.ifCond .ne 9, 3) := by decide +kernel
theorem dX3_lift_13 : decode cX3_lift 13 = .ok (.aload_n 0, 1) := by decide +kernel
theorem dX3_lift_14 : decode cX3_lift 14 = .ok (.iconst 1, 1) := by decide +kernel
theorem dX3_lift_15 : decode cX3_lift 15 = .ok (.invokevirtual 51, 3) := by decide +kernel
theorem dX3_lift_18 : decode cX3_lift 18 = .ok (.ireturn, 1) := by decide +kernel
theorem dX3_lift_19 : decode cX3_lift 19 = .ok (.iload_n 1, 1) := by decide +kernel
theorem dX3_lift_20 : decode cX3_lift 20 = .ok (.iload_n 2, 1) := by decide +kernel
theorem dX3_lift_21 : decode cX3_lift 21 = .ok (.invokestatic 70, 3) := by decide +kernel
theorem dX3_lift_24 : decode cX3_lift 24 = .ok (.istore_n 3, 1) := by decide +kernel
theorem dX3_lift_25 : decode cX3_lift 25 = .ok (.aload_n 0, 1) := by decide +kernel
theorem dX3_lift_26 : decode cX3_lift 26 = .ok (.iload_n 3, 1) := by decide +kernel
theorem dX3_lift_27 : decode cX3_lift 27 = .ok (.invokevirtual 85, 3) := by decide +kernel
theorem dX3_lift_30 : decode cX3_lift 30 = .ok (.ifCond .ne 7, 3) := by decide +kernel
theorem dX3_lift_33 : decode cX3_lift 33 = .ok (.iconst (-1), 1) := by decide +kernel
theorem dX3_lift_34 : decode cX3_lift 34 = .ok (.goto 15, 3) := by decide +kernel
theorem dX3_lift_37 : decode cX3_lift 37 = .ok (.aload_n 0, 1) := by decide +kernel
theorem dX3_lift_38 : decode cX3_lift 38 = .ok (.iload_n 3, 1) := by decide +kernel
theorem dX3_lift_39 : decode cX3_lift 39 = .ok (.aload_n 0, 1) := by decide +kernel
theorem dX3_lift_40 : decode cX3_lift 40 = .ok (.iload_n 3, 1) := by decide +kernel
theorem dX3_lift_41 : decode cX3_lift 41 = .ok (.invokevirtual 85, 3) := by decide +kernel
theorem dX3_lift_44 : decode cX3_lift 44 = .ok (.iconst 1, 1) := by decide +kernel
theorem dX3_lift_45 : decode cX3_lift 45 = .ok (.isub, 1) := by decide +kernel
theorem dX3_lift_46 : decode cX3_lift 46 = .ok (.invokevirtual 101, 3) := by decide +kernel
theorem dX3_lift_49 : decode cX3_lift 49 = .ok (.istore 4, 2) := by decide +kernel
theorem dX3_lift_51 : decode cX3_lift 51 = .ok (.iload 4, 2) := by decide +kernel
theorem dX3_lift_53 : decode cX3_lift 53 = .ok (.iconst (-1), 1) := by decide +kernel
theorem dX3_lift_54 : decode cX3_lift 54 = .ok (.if_icmp .eq 21, 3) := by decide +kernel
theorem dX3_lift_57 : decode cX3_lift 57 = .ok (.aload_n 0, 1) := by decide +kernel
theorem dX3_lift_58 : decode cX3_lift 58 = .ok (.getfield 9, 3) := by decide +kernel
theorem dX3_lift_61 : decode cX3_lift 61 = .ok (.iconst 5, 1) := by decide +kernel
theorem dX3_lift_62 : decode cX3_lift 62 = .ok (.iload 4, 2) := by decide +kernel
theorem dX3_lift_64 : decode cX3_lift 64 = .ok (.imul, 1) := by decide +kernel
theorem dX3_lift_65 : decode cX3_lift 65 = .ok (.iconst 1, 1) := by decide +kernel
theorem dX3_lift_66 : decode cX3_lift 66 = .ok (.iadd, 1) := by decide +kernel
theorem dX3_lift_67 : decode cX3_lift 67 = .ok (.iaload, 1) := by decide +kernel
theorem dX3_lift_68 : decode cX3_lift 68 = .ok (.aload_n 0, 1) := by decide +kernel
theorem dX3_lift_69 : decode cX3_lift 69 = .ok (.getfield 54, 3) := by decide +kernel
theorem dX3_lift_72 : decode cX3_lift 72 = .ok (.if_icmp .eq 9, 3) := by decide +kernel
theorem dX3_lift_75 : decode cX3_lift 75 = .ok (.aload_n 0, 1) := by decide +kernel
theorem dX3_lift_76 : decode cX3_lift 76 = .ok (.iconst 2, 1) := by decide +kernel
theorem dX3_lift_77 : decode cX3_lift 77 = .ok (.invokevirtual 51, 3) := by decide +kernel
theorem dX3_lift_80 : decode cX3_lift 80 = .ok (.ireturn, 1) := by decide +kernel
theorem dX3_lift_81 : decode cX3_lift 81 = .ok (.aload_n 0, 1) := by decide +kernel
theorem dX3_lift_82 : decode cX3_lift 82 = .ok (.getfield 9, 3) := by decide +kernel
theorem dX3_lift_85 : decode cX3_lift 85 = .ok (.iconst 5, 1) := by decide +kernel
theorem dX3_lift_86 : decode cX3_lift 86 = .ok (.iload 4, 2) := by decide +kernel
theorem dX3_lift_88 : decode cX3_lift 88 = .ok (.imul, 1) := by decide +kernel
theorem dX3_lift_89 : decode cX3_lift 89 = .ok (.iconst 4, 1) := by decide +kernel
theorem dX3_lift_90 : decode cX3_lift 90 = .ok (.iadd, 1) := by decide +kernel
theorem dX3_lift_91 : decode cX3_lift 91 = .ok (.iconst 0, 1) := by decide +kernel
theorem dX3_lift_92 : decode cX3_lift 92 = .ok (.iastore, 1) := by decide +kernel
theorem dX3_lift_93 : decode cX3_lift 93 = .ok (.iload 4, 2) := by decide +kernel
theorem dX3_lift_95 : decode cX3_lift 95 = .ok (.ireturn, 1) := by decide +kernel
set_option maxRecDepth 20000 in
theorem ggX3_momentOf_X3_state : GoodIn wsX3_momentOf wsX3_state := goodIn_r _ [7, 8, 16, 17, 18, 19, 20, 21, 22, 23, 24, 25, 26, 27, 28] (by decide +kernel) (by decide +kernel)
set_option maxRecDepth 20000 in
theorem gX3_momentOf_X3_state : GoodIn wsX3_momentOf (wsV RX3 43 RX3 yX3_state wsX3_state) := goodIn_app (goodIn_of _ (by decide +kernel)) ggX3_momentOf_X3_state
set_option maxRecDepth 20000 in
theorem ggX3_momentOf_X3_heavy : GoodIn wsX3_momentOf wsX3_heavy := goodIn_r _ [12, 8, 16, 17, 18, 19, 20, 21, 22, 23, 24, 25, 26, 27, 28] (by decide +kernel) (by decide +kernel)
set_option maxRecDepth 20000 in
theorem gX3_momentOf_X3_heavy : GoodIn wsX3_momentOf (wsV RX3 82 RX3 yX3_heavy wsX3_heavy) := goodIn_app (goodIn_of _ (by decide +kernel)) ggX3_momentOf_X3_heavy
set_option maxRecDepth 20000 in
theorem ggX3_momentOf_X3_arm : GoodIn wsX3_momentOf wsX3_arm := goodIn_r _ [15] (by decide +kernel) (by decide +kernel)
set_option maxRecDepth 20000 in
theorem gX3_momentOf_X3_arm : GoodIn wsX3_momentOf (va_wsS RX3 104 yX3_arm wsX3_arm) := goodIn_app (goodIn_of _ (by decide +kernel)) ggX3_momentOf_X3_arm
theorem dX3_momentOf_0 : decode cX3_momentOf 0 = .ok (.iconst 0, 1) := by decide +kernel
theorem dX3_momentOf_1 : decode cX3_momentOf 1 = .ok (.istore_n 2, 1) := by decide +kernel
theorem dX3_momentOf_2 : decode cX3_momentOf 2 = .ok (.iconst 0, 1) := by decide +kernel
theorem dX3_momentOf_3 : decode cX3_momentOf 3 = .ok (.istore_n 3, 1) := by decide +kernel
theorem dX3_momentOf_4 : decode cX3_momentOf 4 = .ok (.iload_n 3, 1) := by decide +kernel
theorem dX3_momentOf_5 : decode cX3_momentOf 5 = .ok (.aload_n 0, 1) := by decide +kernel
theorem dX3_momentOf_6 : decode cX3_momentOf 6 = .ok (.getfield 36, 3) := by decide +kernel
theorem dX3_momentOf_9 : decode cX3_momentOf 9 = .ok (.if_icmp .ge 37, 3) := by decide +kernel
theorem dX3_momentOf_12 : decode cX3_momentOf 12 = .ok (.aload_n 0, 1) := by decide +kernel
theorem dX3_momentOf_13 : decode cX3_momentOf 13 = .ok (.iload_n 3, 1) := by decide +kernel
theorem dX3_momentOf_14 : decode cX3_momentOf 14 = .ok (.invokevirtual 43, 3) := by decide +kernel
theorem dX3_momentOf_17 : decode cX3_momentOf 17 = .ok (.iconst 1, 1) := by decide +kernel
theorem dX3_momentOf_18 : decode cX3_momentOf 18 = .ok (.if_icmp .ne 22, 3) := by decide +kernel
theorem dX3_momentOf_21 : decode cX3_momentOf 21 = .ok (.iload_n 2, 1) := by decide +kernel
theorem dX3_momentOf_22 : decode cX3_momentOf 22 = .ok (.aload_n 0, 1) := by decide +kernel
theorem dX3_momentOf_23 : decode cX3_momentOf 23 = .ok (.iload_n 3, 1) := by decide +kernel
theorem dX3_momentOf_24 : decode cX3_momentOf 24 = .ok (.invokevirtual 82, 3) := by decide +kernel
theorem dX3_momentOf_27 : decode cX3_momentOf 27 = .ok (.aload_n 0, 1) := by decide +kernel
theorem dX3_momentOf_28 : decode cX3_momentOf 28 = .ok (.getfield 13, 3) := by decide +kernel
theorem dX3_momentOf_31 : decode cX3_momentOf 31 = .ok (.iload_n 3, 1) := by decide +kernel
theorem dX3_momentOf_32 : decode cX3_momentOf 32 = .ok (.iaload, 1) := by decide +kernel
theorem dX3_momentOf_33 : decode cX3_momentOf 33 = .ok (.iload_n 1, 1) := by decide +kernel
theorem dX3_momentOf_34 : decode cX3_momentOf 34 = .ok (.invokestatic 104, 3) := by decide +kernel
theorem dX3_momentOf_37 : decode cX3_momentOf 37 = .ok (.imul, 1) := by decide +kernel
theorem dX3_momentOf_38 : decode cX3_momentOf 38 = .ok (.iadd, 1) := by decide +kernel
theorem dX3_momentOf_39 : decode cX3_momentOf 39 = .ok (.istore_n 2, 1) := by decide +kernel
theorem dX3_momentOf_40 : decode cX3_momentOf 40 = .ok (.iinc 3 1, 3) := by decide +kernel
theorem dX3_momentOf_43 : decode cX3_momentOf 43 = .ok (.goto (-39), 3) := by decide +kernel
theorem dX3_momentOf_46 : decode cX3_momentOf 46 = .ok (.iload_n 2, 1) := by decide +kernel
theorem dX3_momentOf_47 : decode cX3_momentOf 47 = .ok (.ireturn, 1) := by decide +kernel
theorem dX3_arm_0 : decode cX3_arm 0 = .ok (.iload_n 1, 1) := by decide +kernel
theorem dX3_arm_1 : decode cX3_arm 1 = .ok (.ifCond .eq 13, 3) := by decide +kernel
theorem dX3_arm_4 : decode cX3_arm 4 = .ok (.iconst 2, 1) := by decide +kernel
theorem dX3_arm_5 : decode cX3_arm 5 = .ok (.iload_n 0, 1) := by decide +kernel
theorem dX3_arm_6 : decode cX3_arm 6 = .ok (.iconst 5, 1) := by decide +kernel
theorem dX3_arm_7 : decode cX3_arm 7 = .ok (.idiv, 1) := by decide +kernel
theorem dX3_arm_8 : decode cX3_arm 8 = .ok (.imul, 1) := by decide +kernel
theorem dX3_arm_9 : decode cX3_arm 9 = .ok (.iconst 5, 1) := by decide +kernel
theorem dX3_arm_10 : decode cX3_arm 10 = .ok (.isub, 1) := by decide +kernel
theorem dX3_arm_11 : decode cX3_arm 11 = .ok (.goto 8, 3) := by decide +kernel
theorem dX3_arm_14 : decode cX3_arm 14 = .ok (.iload_n 0, 1) := by decide +kernel
theorem dX3_arm_15 : decode cX3_arm 15 = .ok (.iconst 5, 1) := by decide +kernel
theorem dX3_arm_16 : decode cX3_arm 16 = .ok (.irem, 1) := by decide +kernel
theorem dX3_arm_17 : decode cX3_arm 17 = .ok (.iconst 2, 1) := by decide +kernel
theorem dX3_arm_18 : decode cX3_arm 18 = .ok (.isub, 1) := by decide +kernel
theorem dX3_arm_19 : decode cX3_arm 19 = .ok (.ireturn, 1) := by decide +kernel
set_option maxRecDepth 20000 in
theorem ggX3_earlier_X3_isOn : GoodIn wsX3_earlier wsX3_isOn := goodIn_r _ [6, 7, 8, 9, 10, 5, 11, 12, 17, 18, 19, 20, 21, 22, 23, 24, 25, 26, 27, 28, 29] (by decide +kernel) (by decide +kernel)
set_option maxRecDepth 20000 in
theorem gX3_earlier_X3_isOn : GoodIn wsX3_earlier (wsV RX3 47 RX3 yX3_isOn wsX3_isOn) := goodIn_app (goodIn_of _ (by decide +kernel)) ggX3_earlier_X3_isOn
set_option maxRecDepth 20000 in
theorem ggX3_earlier_X3_to : GoodIn wsX3_earlier wsX3_to := goodIn_r _ [16, 12, 17, 18, 19, 20, 21, 22, 23, 24, 25, 26, 27, 28, 29] (by decide +kernel) (by decide +kernel)
set_option maxRecDepth 20000 in
theorem gX3_earlier_X3_to : GoodIn wsX3_earlier (wsV RX3 108 RX3 yX3_to wsX3_to) := goodIn_app (goodIn_of _ (by decide +kernel)) ggX3_earlier_X3_to
theorem dX3_earlier_0 : decode cX3_earlier 0 = .ok (.iconst 0, 1) := by decide +kernel
theorem dX3_earlier_1 : decode cX3_earlier 1 = .ok (.istore_n 3, 1) := by decide +kernel
theorem dX3_earlier_2 : decode cX3_earlier 2 = .ok (.iconst 0, 1) := by decide +kernel
theorem dX3_earlier_3 : decode cX3_earlier 3 = .ok (.istore 4, 2) := by decide +kernel
theorem dX3_earlier_5 : decode cX3_earlier 5 = .ok (.iload 4, 2) := by decide +kernel
theorem dX3_earlier_7 : decode cX3_earlier 7 = .ok (.aload_n 0, 1) := by decide +kernel
theorem dX3_earlier_8 : decode cX3_earlier 8 = .ok (.getfield 36, 3) := by decide +kernel
theorem dX3_earlier_11 : decode cX3_earlier 11 = .ok (.if_icmp .ge 37, 3) := by decide +kernel
theorem dX3_earlier_14 : decode cX3_earlier 14 = .ok (.iload_n 3, 1) := by decide +kernel
theorem dX3_earlier_15 : decode cX3_earlier 15 = .ok (.aload_n 0, 1) := by decide +kernel
theorem dX3_earlier_16 : decode cX3_earlier 16 = .ok (.iload 4, 2) := by decide +kernel
theorem dX3_earlier_18 : decode cX3_earlier 18 = .ok (.iload_n 1, 1) := by decide +kernel
theorem dX3_earlier_19 : decode cX3_earlier 19 = .ok (.invokevirtual 47, 3) := by decide +kernel
theorem dX3_earlier_22 : decode cX3_earlier 22 = .ok (.ifCond .eq 17, 3) := by decide +kernel
theorem dX3_earlier_25 : decode cX3_earlier 25 = .ok (.aload_n 0, 1) := by decide +kernel
theorem dX3_earlier_26 : decode cX3_earlier 26 = .ok (.iload 4, 2) := by decide +kernel
theorem dX3_earlier_28 : decode cX3_earlier 28 = .ok (.invokevirtual 108, 3) := by decide +kernel
theorem dX3_earlier_31 : decode cX3_earlier 31 = .ok (.iload_n 2, 1) := by decide +kernel
theorem dX3_earlier_32 : decode cX3_earlier 32 = .ok (.if_icmp .ge 7, 3) := by decide +kernel
theorem dX3_earlier_35 : decode cX3_earlier 35 = .ok (.iconst 1, 1) := by decide +kernel
theorem dX3_earlier_36 : decode cX3_earlier 36 = .ok (.goto 4, 3) := by decide +kernel
theorem dX3_earlier_39 : decode cX3_earlier 39 = .ok (.iconst 0, 1) := by decide +kernel
theorem dX3_earlier_40 : decode cX3_earlier 40 = .ok (.iadd, 1) := by decide +kernel
theorem dX3_earlier_41 : decode cX3_earlier 41 = .ok (.istore_n 3, 1) := by decide +kernel
theorem dX3_earlier_42 : decode cX3_earlier 42 = .ok (.iinc 4 1, 3) := by decide +kernel
theorem dX3_earlier_45 : decode cX3_earlier 45 = .ok (.goto (-40), 3) := by decide +kernel
theorem dX3_earlier_48 : decode cX3_earlier 48 = .ok (.iload_n 3, 1) := by decide +kernel
theorem dX3_earlier_49 : decode cX3_earlier 49 = .ok (.ireturn, 1) := by decide +kernel
set_option maxRecDepth 20000 in
theorem ggX3_choicesOf_X3_isAllowed : GoodIn wsX3_choicesOf wsX3_isAllowed := goodIn_r _ [5, 6, 7, 8, 9, 10, 11, 12, 13, 14, 4, 15, 16, 17, 18, 19, 20, 21, 22, 23, 24, 25, 26, 27, 28, 29, 30, 31, 32, 33, 34, 35, 36, 37, 38, 39, 40, 41, 42, 43, 44, 45, 46, 47, 48, 49, 50, 51, 52, 53, 54, 55] (by decide +kernel) (by decide +kernel)
set_option maxRecDepth 20000 in
theorem gX3_choicesOf_X3_isAllowed : GoodIn wsX3_choicesOf (wsV RX3 94 RX3 yX3_isAllowed wsX3_isAllowed) := goodIn_app (goodIn_of _ (by decide +kernel)) ggX3_choicesOf_X3_isAllowed
theorem dX3_choicesOf_0 : decode cX3_choicesOf 0 = .ok (.iconst 0, 1) := by decide +kernel
theorem dX3_choicesOf_1 : decode cX3_choicesOf 1 = .ok (.istore_n 2, 1) := by decide +kernel
theorem dX3_choicesOf_2 : decode cX3_choicesOf 2 = .ok (.iconst 0, 1) := by decide +kernel
theorem dX3_choicesOf_3 : decode cX3_choicesOf 3 = .ok (.istore_n 3, 1) := by decide +kernel
theorem dX3_choicesOf_4 : decode cX3_choicesOf 4 = .ok (.iload_n 3, 1) := by decide +kernel
theorem dX3_choicesOf_5 : decode cX3_choicesOf 5 = .ok (.bipush 30, 2) := by decide +kernel
theorem dX3_choicesOf_7 : decode cX3_choicesOf 7 = .ok (.if_icmp .ge 26, 3) := by decide +kernel
theorem dX3_choicesOf_10 : decode cX3_choicesOf 10 = .ok (.iload_n 2, 1) := by decide +kernel
theorem dX3_choicesOf_11 : decode cX3_choicesOf 11 = .ok (.aload_n 0, 1) := by decide +kernel
theorem dX3_choicesOf_12 : decode cX3_choicesOf 12 = .ok (.iload_n 1, 1) := by decide +kernel
theorem dX3_choicesOf_13 : decode cX3_choicesOf 13 = .ok (.iload_n 3, 1) := by decide +kernel
theorem dX3_choicesOf_14 : decode cX3_choicesOf 14 = .ok (.invokevirtual 94, 3) := by decide +kernel
theorem dX3_choicesOf_17 : decode cX3_choicesOf 17 = .ok (.ifCond .eq 7, 3) := by decide +kernel
theorem dX3_choicesOf_20 : decode cX3_choicesOf 20 = .ok (.iconst 1, 1) := by decide +kernel
theorem dX3_choicesOf_21 : decode cX3_choicesOf 21 = .ok (.goto 4, 3) := by decide +kernel
theorem dX3_choicesOf_24 : decode cX3_choicesOf 24 = .ok (.iconst 0, 1) := by decide +kernel
theorem dX3_choicesOf_25 : decode cX3_choicesOf 25 = .ok (.iadd, 1) := by decide +kernel
theorem dX3_choicesOf_26 : decode cX3_choicesOf 26 = .ok (.istore_n 2, 1) := by decide +kernel
theorem dX3_choicesOf_27 : decode cX3_choicesOf 27 = .ok (.iinc 3 1, 3) := by decide +kernel
theorem dX3_choicesOf_30 : decode cX3_choicesOf 30 = .ok (.goto (-26), 3) := by decide +kernel
theorem dX3_choicesOf_33 : decode cX3_choicesOf 33 = .ok (.iload_n 2, 1) := by decide +kernel
theorem dX3_choicesOf_34 : decode cX3_choicesOf 34 = .ok (.ireturn, 1) := by decide +kernel
set_option maxRecDepth 20000 in
theorem ggX3_isBetter_X3_to : GoodIn wsX3_isBetter wsX3_to := goodIn_r _ [9, 10, 36, 37, 38, 39, 40, 41, 42, 43, 44, 45, 46, 47, 48] (by decide +kernel) (by decide +kernel)
set_option maxRecDepth 20000 in
theorem gX3_isBetter_X3_to : GoodIn wsX3_isBetter (wsV RX3 108 RX3 yX3_to wsX3_to) := goodIn_app (goodIn_of _ (by decide +kernel)) ggX3_isBetter_X3_to
set_option maxRecDepth 20000 in
theorem ggX3_isBetter_X3_earlier : GoodIn wsX3_isBetter wsX3_earlier := goodIn_r _ [14, 15, 16, 17, 18, 8, 19, 20, 21, 22, 23, 24, 10, 5, 6, 7, 9, 36, 37, 38, 39, 40, 41, 42, 43, 44, 45, 46, 47, 48] (by decide +kernel) (by decide +kernel)
set_option maxRecDepth 20000 in
theorem gX3_isBetter_X3_earlier : GoodIn wsX3_isBetter (wsV RX3 111 RX3 yX3_earlier wsX3_earlier) := goodIn_app (goodIn_of _ (by decide +kernel)) ggX3_isBetter_X3_earlier
set_option maxRecDepth 20000 in
theorem ggX3_isBetter_X3_momentOf : GoodIn wsX3_isBetter wsX3_momentOf := goodIn_r _ [28, 15, 20, 21, 22, 23, 8, 24, 10, 29, 30, 31, 32, 33, 34, 35, 36, 37, 38, 39, 40, 41, 42, 43, 44, 45, 46, 47, 48] (by decide +kernel) (by decide +kernel)
set_option maxRecDepth 20000 in
theorem gX3_isBetter_X3_momentOf : GoodIn wsX3_isBetter (wsV RX3 114 RX3 yX3_momentOf wsX3_momentOf) := goodIn_app (goodIn_of _ (by decide +kernel)) ggX3_isBetter_X3_momentOf
set_option maxRecDepth 20000 in
theorem ggX3_isBetter_X3_heavy : GoodIn wsX3_isBetter wsX3_heavy := goodIn_r _ [32, 10, 36, 37, 38, 39, 40, 41, 42, 43, 44, 45, 46, 47, 48] (by decide +kernel) (by decide +kernel)
set_option maxRecDepth 20000 in
theorem gX3_isBetter_X3_heavy : GoodIn wsX3_isBetter (wsV RX3 82 RX3 yX3_heavy wsX3_heavy) := goodIn_app (goodIn_of _ (by decide +kernel)) ggX3_isBetter_X3_heavy
set_option maxRecDepth 20000 in
theorem ggX3_isBetter_X3_arm : GoodIn wsX3_isBetter wsX3_arm := goodIn_r _ [35] (by decide +kernel) (by decide +kernel)
set_option maxRecDepth 20000 in
theorem gX3_isBetter_X3_arm : GoodIn wsX3_isBetter (va_wsS RX3 104 yX3_arm wsX3_arm) := goodIn_app (goodIn_of _ (by decide +kernel)) ggX3_isBetter_X3_arm
theorem dX3_isBetter_0 : decode cX3_isBetter 0 = .ok (.aload_n 0, 1) := by decide +kernel
theorem dX3_isBetter_1 : decode cX3_isBetter 1 = .ok (.iload_n 2, 1) := by decide +kernel
theorem dX3_isBetter_2 : decode cX3_isBetter 2 = .ok (.aload_n 0, 1) := by decide +kernel
theorem dX3_isBetter_3 : decode cX3_isBetter 3 = .ok (.iload_n 1, 1) := by decide +kernel
theorem dX3_isBetter_4 : decode cX3_isBetter 4 = .ok (.invokevirtual 108, 3) := by decide +kernel
theorem dX3_isBetter_7 : decode cX3_isBetter 7 = .ok (.invokevirtual 111, 3) := by decide +kernel
theorem dX3_isBetter_10 : decode cX3_isBetter 10 = .ok (.aload_n 0, 1) := by decide +kernel
theorem dX3_isBetter_11 : decode cX3_isBetter 11 = .ok (.iload_n 3, 1) := by decide +kernel
theorem dX3_isBetter_12 : decode cX3_isBetter 12 = .ok (.aload_n 0, 1) := by decide +kernel
theorem dX3_isBetter_13 : decode cX3_isBetter 13 = .ok (.iload_n 1, 1) := by decide +kernel
theorem dX3_isBetter_14 : decode cX3_isBetter 14 = .ok (.invokevirtual 108, 3) := by decide +kernel
theorem dX3_isBetter_17 : decode cX3_isBetter 17 = .ok (.invokevirtual 111, 3) := by decide +kernel
theorem dX3_isBetter_20 : decode cX3_isBetter 20 = .ok (.isub, 1) := by decide +kernel
theorem dX3_isBetter_21 : decode cX3_isBetter 21 = .ok (.istore 4, 2) := by decide +kernel
theorem dX3_isBetter_23 : decode cX3_isBetter 23 = .ok (.iconst 0, 1) := by decide +kernel
theorem dX3_isBetter_24 : decode cX3_isBetter 24 = .ok (.istore 5, 2) := by decide +kernel
theorem dX3_isBetter_26 : decode cX3_isBetter 26 = .ok (.iload 5, 2) := by decide +kernel
theorem dX3_isBetter_28 : decode cX3_isBetter 28 = .ok (.iconst 2, 1) := by decide +kernel
theorem dX3_isBetter_29 : decode cX3_isBetter 29 = .ok (.if_icmp .ge 97, 3) := by decide +kernel
theorem dX3_isBetter_32 : decode cX3_isBetter 32 = .ok (.iload 4, 2) := by decide +kernel
theorem dX3_isBetter_34 : decode cX3_isBetter 34 = .ok (.ifCond .ne 92, 3) := by decide +kernel
theorem dX3_isBetter_37 : decode cX3_isBetter 37 = .ok (.aload_n 0, 1) := by decide +kernel
theorem dX3_isBetter_38 : decode cX3_isBetter 38 = .ok (.iload 5, 2) := by decide +kernel
theorem dX3_isBetter_40 : decode cX3_isBetter 40 = .ok (.iconst 1, 1) := by decide +kernel
theorem dX3_isBetter_41 : decode cX3_isBetter 41 = .ok (.if_icmp .ne 7, 3) := by decide +kernel
theorem dX3_isBetter_44 : decode cX3_isBetter 44 = .ok (.iconst 1, 1) := by decide +kernel
theorem dX3_isBetter_45 : decode cX3_isBetter 45 = .ok (.goto 4, 3) := by decide +kernel
theorem dX3_isBetter_48 : decode cX3_isBetter 48 = .ok (.iconst 0, 1) := by decide +kernel
theorem dX3_isBetter_49 : decode cX3_isBetter 49 = .ok (.invokevirtual 114, 3) := by decide +kernel
theorem dX3_isBetter_52 : decode cX3_isBetter 52 = .ok (.aload_n 0, 1) := by decide +kernel
theorem dX3_isBetter_53 : decode cX3_isBetter 53 = .ok (.iload_n 1, 1) := by decide +kernel
theorem dX3_isBetter_54 : decode cX3_isBetter 54 = .ok (.invokevirtual 82, 3) := by decide +kernel
theorem dX3_isBetter_57 : decode cX3_isBetter 57 = .ok (.iload_n 2, 1) := by decide +kernel
theorem dX3_isBetter_58 : decode cX3_isBetter 58 = .ok (.iload 5, 2) := by decide +kernel
theorem dX3_isBetter_60 : decode cX3_isBetter 60 = .ok (.iconst 1, 1) := by decide +kernel
theorem dX3_isBetter_61 : decode cX3_isBetter 61 = .ok (.if_icmp .ne 7, 3) := by decide +kernel
theorem dX3_isBetter_64 : decode cX3_isBetter 64 = .ok (.iconst 1, 1) := by decide +kernel
theorem dX3_isBetter_65 : decode cX3_isBetter 65 = .ok (.goto 4, 3) := by decide +kernel
theorem dX3_isBetter_68 : decode cX3_isBetter 68 = .ok (.iconst 0, 1) := by decide +kernel
theorem dX3_isBetter_69 : decode cX3_isBetter 69 = .ok (.invokestatic 104, 3) := by decide +kernel
theorem dX3_isBetter_72 : decode cX3_isBetter 72 = .ok (.imul, 1) := by decide +kernel
theorem dX3_isBetter_73 : decode cX3_isBetter 73 = .ok (.iadd, 1) := by decide +kernel
theorem dX3_isBetter_74 : decode cX3_isBetter 74 = .ok (.invokestatic 77, 3) := by decide +kernel
theorem dX3_isBetter_77 : decode cX3_isBetter 77 = .ok (.aload_n 0, 1) := by decide +kernel
theorem dX3_isBetter_78 : decode cX3_isBetter 78 = .ok (.iload 5, 2) := by decide +kernel
theorem dX3_isBetter_80 : decode cX3_isBetter 80 = .ok (.iconst 1, 1) := by decide +kernel
theorem dX3_isBetter_81 : decode cX3_isBetter 81 = .ok (.if_icmp .ne 7, 3) := by decide +kernel
theorem dX3_isBetter_84 : decode cX3_isBetter 84 = .ok (.iconst 1, 1) := by decide +kernel
theorem dX3_isBetter_85 : decode cX3_isBetter 85 = .ok (.goto 4, 3) := by decide +kernel
theorem dX3_isBetter_88 : decode cX3_isBetter 88 = .ok (.iconst 0, 1) := by decide +kernel
theorem dX3_isBetter_89 : decode cX3_isBetter 89 = .ok (.invokevirtual 114, 3) := by decide +kernel
theorem dX3_isBetter_92 : decode cX3_isBetter 92 = .ok (.aload_n 0, 1) := by decide +kernel
theorem dX3_isBetter_93 : decode cX3_isBetter 93 = .ok (.iload_n 1, 1) := by decide +kernel
theorem dX3_isBetter_94 : decode cX3_isBetter 94 = .ok (.invokevirtual 82, 3) := by decide +kernel
theorem dX3_isBetter_97 : decode cX3_isBetter 97 = .ok (.iload_n 3, 1) := by decide +kernel
theorem dX3_isBetter_98 : decode cX3_isBetter 98 = .ok (.iload 5, 2) := by decide +kernel
theorem dX3_isBetter_100 : decode cX3_isBetter 100 = .ok (.iconst 1, 1) := by decide +kernel
theorem dX3_isBetter_101 : decode cX3_isBetter 101 = .ok (.if_icmp .ne 7, 3) := by decide +kernel
theorem dX3_isBetter_104 : decode cX3_isBetter 104 = .ok (.iconst 1, 1) := by decide +kernel
theorem dX3_isBetter_105 : decode cX3_isBetter 105 = .ok (.goto 4, 3) := by decide +kernel
theorem dX3_isBetter_108 : decode cX3_isBetter 108 = .ok (.iconst 0, 1) := by decide +kernel
theorem dX3_isBetter_109 : decode cX3_isBetter 109 = .ok (.invokestatic 104, 3) := by decide +kernel
theorem dX3_isBetter_112 : decode cX3_isBetter 112 = .ok (.imul, 1) := by decide +kernel
theorem dX3_isBetter_113 : decode cX3_isBetter 113 = .ok (.iadd, 1) := by decide +kernel
theorem dX3_isBetter_114 : decode cX3_isBetter 114 = .ok (.invokestatic 77, 3) := by decide +kernel
theorem dX3_isBetter_117 : decode cX3_isBetter 117 = .ok (.isub, 1) := by decide +kernel
theorem dX3_isBetter_118 : decode cX3_isBetter 118 = .ok (.istore 4, 2) := by decide +kernel
theorem dX3_isBetter_120 : decode cX3_isBetter 120 = .ok (.iinc 5 1, 3) := by decide +kernel
theorem dX3_isBetter_123 : decode cX3_isBetter 123 = .ok (.goto (-97), 3) := by decide +kernel
theorem dX3_isBetter_126 : decode cX3_isBetter 126 = .ok (.iload 4, 2) := by decide +kernel
theorem dX3_isBetter_128 : decode cX3_isBetter 128 = .ok (.ifCond .ge 7, 3) := by decide +kernel
theorem dX3_isBetter_131 : decode cX3_isBetter 131 = .ok (.iconst 1, 1) := by decide +kernel
theorem dX3_isBetter_132 : decode cX3_isBetter 132 = .ok (.goto 4, 3) := by decide +kernel
theorem dX3_isBetter_135 : decode cX3_isBetter 135 = .ok (.iconst 0, 1) := by decide +kernel
theorem dX3_isBetter_136 : decode cX3_isBetter 136 = .ok (.ireturn, 1) := by decide +kernel
set_option maxRecDepth 20000 in
theorem ggX3_planOne_X3_choicesOf : GoodIn wsX3_planOne wsX3_choicesOf := goodIn_r _ [6, 7, 8, 9, 5, 10, 11, 12, 13, 14, 1, 15, 16, 17, 18, 19, 20, 21, 22, 23, 24, 25, 26, 27, 28, 29, 30, 31, 32, 33, 34, 35, 36, 37, 38, 39, 40, 41, 42, 43, 44, 45, 46, 71, 72, 73, 74, 75, 76, 77, 78, 79, 80, 81, 82, 83] (by decide +kernel) (by decide +kernel)
set_option maxRecDepth 20000 in
theorem gX3_planOne_X3_choicesOf : GoodIn wsX3_planOne (wsV RX3 118 RX3 yX3_choicesOf wsX3_choicesOf) := goodIn_app (goodIn_of _ (by decide +kernel)) ggX3_planOne_X3_choicesOf
set_option maxRecDepth 20000 in
theorem ggX3_planOne_X3_to : GoodIn wsX3_planOne wsX3_to := goodIn_r _ [50, 11, 71, 72, 73, 74, 75, 76, 77, 78, 79, 80, 81, 82, 83] (by decide +kernel) (by decide +kernel)
set_option maxRecDepth 20000 in
theorem gX3_planOne_X3_to : GoodIn wsX3_planOne (wsV RX3 108 RX3 yX3_to wsX3_to) := goodIn_app (goodIn_of _ (by decide +kernel)) ggX3_planOne_X3_to
set_option maxRecDepth 20000 in
theorem ggX3_planOne_X3_heavy : GoodIn wsX3_planOne wsX3_heavy := goodIn_r _ [35, 11, 71, 72, 73, 74, 75, 76, 77, 78, 79, 80, 81, 82, 83] (by decide +kernel) (by decide +kernel)
set_option maxRecDepth 20000 in
theorem gX3_planOne_X3_heavy : GoodIn wsX3_planOne (wsV RX3 82 RX3 yX3_heavy wsX3_heavy) := goodIn_app (goodIn_of _ (by decide +kernel)) ggX3_planOne_X3_heavy
set_option maxRecDepth 20000 in
theorem ggX3_planOne_X3_isAllowed : GoodIn wsX3_planOne wsX3_isAllowed := goodIn_r _ [10, 11, 12, 13, 14, 1, 15, 16, 17, 18, 5, 19, 20, 21, 22, 23, 24, 25, 26, 27, 28, 29, 30, 31, 32, 33, 34, 35, 36, 37, 38, 39, 40, 41, 42, 43, 44, 45, 46, 71, 72, 73, 74, 75, 76, 77, 78, 79, 80, 81, 82, 83] (by decide +kernel) (by decide +kernel)
set_option maxRecDepth 20000 in
theorem gX3_planOne_X3_isAllowed : GoodIn wsX3_planOne (wsV RX3 94 RX3 yX3_isAllowed wsX3_isAllowed) := goodIn_app (goodIn_of _ (by decide +kernel)) ggX3_planOne_X3_isAllowed
set_option maxRecDepth 20000 in
theorem ggX3_planOne_X3_isBetter : GoodIn wsX3_planOne wsX3_isBetter := goodIn_r _ [54, 43, 44, 45, 46, 47, 48, 49, 5, 50, 11, 55, 56, 57, 58, 1, 24, 25, 26, 27, 15, 16, 17, 18, 19, 59, 60, 61, 62, 32, 33, 34, 35, 63, 64, 65, 71, 72, 73, 74, 75, 76, 77, 78, 79, 80, 81, 82, 83] (by decide +kernel) (by decide +kernel)
set_option maxRecDepth 20000 in
theorem gX3_planOne_X3_isBetter : GoodIn wsX3_planOne (wsV RX3 121 RX3 yX3_isBetter wsX3_isBetter) := goodIn_app (goodIn_of _ (by decide +kernel)) ggX3_planOne_X3_isBetter
set_option maxRecDepth 20000 in
theorem ggX3_planOne_X3_put : GoodIn wsX3_planOne wsX3_put := goodIn_r _ [69, 70, 15, 11, 20, 21, 22, 5, 23, 1, 24, 25, 26, 27, 16, 17, 18, 19, 71, 72, 73, 74, 75, 76, 77, 78, 79, 80, 81, 82, 83] (by decide +kernel) (by decide +kernel)
set_option maxRecDepth 20000 in
theorem gX3_planOne_X3_put : GoodIn wsX3_planOne (wsV RX3 97 RX3 yX3_put wsX3_put) := goodIn_app (goodIn_of _ (by decide +kernel)) ggX3_planOne_X3_put
theorem dX3_planOne_0 : decode cX3_planOne 0 = .ok (.iconst (-1), 1) := by decide +kernel
theorem dX3_planOne_1 : decode cX3_planOne 1 = .ok (.istore_n 1, 1) := by decide +kernel
theorem dX3_planOne_2 : decode cX3_planOne 2 = .ok (.iconst 0, 1) := by decide +kernel
theorem dX3_planOne_3 : decode cX3_planOne 3 = .ok (.istore_n 2, 1) := by decide +kernel
theorem dX3_planOne_4 : decode cX3_planOne 4 = .ok (.iload_n 2, 1) := by decide +kernel
theorem dX3_planOne_5 : decode cX3_planOne 5 = .ok (.aload_n 0, 1) := by decide +kernel
theorem dX3_planOne_6 : decode cX3_planOne 6 = .ok (.getfield 36, 3) := by decide +kernel
theorem dX3_planOne_9 : decode cX3_planOne 9 = .ok (.if_icmp .ge 66, 3) := by decide +kernel
theorem dX3_planOne_12 : decode cX3_planOne 12 = .ok (.aload_n 0, 1) := by decide +kernel
theorem dX3_planOne_13 : decode cX3_planOne 13 = .ok (.iload_n 2, 1) := by decide +kernel
theorem dX3_planOne_14 : decode cX3_planOne 14 = .ok (.invokevirtual 118, 3) := by decide +kernel
theorem dX3_planOne_17 : decode cX3_planOne 17 = .ok (.ifCond .ne 6, 3) := by decide +kernel
theorem dX3_planOne_20 : decode cX3_planOne 20 = .ok (.goto 49, 3) := by decide +kernel
theorem dX3_planOne_23 : decode cX3_planOne 23 = .ok (.iload_n 1, 1) := by decide +kernel
theorem dX3_planOne_24 : decode cX3_planOne 24 = .ok (.iconst (-1), 1) := by decide +kernel
theorem dX3_planOne_25 : decode cX3_planOne 25 = .ok (.if_icmp .eq 42, 3) := by decide +kernel
theorem dX3_planOne_28 : decode cX3_planOne 28 = .ok (.aload_n 0, 1) := by decide +kernel
theorem dX3_planOne_29 : decode cX3_planOne 29 = .ok (.iload_n 2, 1) := by decide +kernel
theorem dX3_planOne_30 : decode cX3_planOne 30 = .ok (.invokevirtual 108, 3) := by decide +kernel
theorem dX3_planOne_33 : decode cX3_planOne 33 = .ok (.aload_n 0, 1) := by decide +kernel
theorem dX3_planOne_34 : decode cX3_planOne 34 = .ok (.iload_n 1, 1) := by decide +kernel
theorem dX3_planOne_35 : decode cX3_planOne 35 = .ok (.invokevirtual 108, 3) := by decide +kernel
theorem dX3_planOne_38 : decode cX3_planOne 38 = .ok (.if_icmp .gt 29, 3) := by decide +kernel
theorem dX3_planOne_41 : decode cX3_planOne 41 = .ok (.aload_n 0, 1) := by decide +kernel
theorem dX3_planOne_42 : decode cX3_planOne 42 = .ok (.iload_n 2, 1) := by decide +kernel
theorem dX3_planOne_43 : decode cX3_planOne 43 = .ok (.invokevirtual 108, 3) := by decide +kernel
theorem dX3_planOne_46 : decode cX3_planOne 46 = .ok (.aload_n 0, 1) := by decide +kernel
theorem dX3_planOne_47 : decode cX3_planOne 47 = .ok (.iload_n 1, 1) := by decide +kernel
theorem dX3_planOne_48 : decode cX3_planOne 48 = .ok (.invokevirtual 108, 3) := by decide +kernel
theorem dX3_planOne_51 : decode cX3_planOne 51 = .ok (.if_icmp .ne 18, 3) := by decide +kernel
theorem dX3_planOne_54 : decode cX3_planOne 54 = .ok (.aload_n 0, 1) := by decide +kernel
theorem dX3_planOne_55 : decode cX3_planOne 55 = .ok (.iload_n 2, 1) := by decide +kernel
theorem dX3_planOne_56 : decode cX3_planOne 56 = .ok (.invokevirtual 82, 3) := by decide +kernel
theorem dX3_planOne_59 : decode cX3_planOne 59 = .ok (.aload_n 0, 1) := by decide +kernel
theorem dX3_planOne_60 : decode cX3_planOne 60 = .ok (.iload_n 1, 1) := by decide +kernel
theorem dX3_planOne_61 : decode cX3_planOne 61 = .ok (.invokevirtual 82, 3) := by decide +kernel
theorem dX3_planOne_64 : decode cX3_planOne 64 = .ok (.if_icmp .le 5, 3) := by decide +kernel
theorem dX3_planOne_67 : decode cX3_planOne 67 = .ok (.iload_n 2, 1) := by decide +kernel
theorem dX3_planOne_68 : decode cX3_planOne 68 = .ok (.istore_n 1, 1) := by decide +kernel
theorem dX3_planOne_69 : decode cX3_planOne 69 = .ok (.iinc 2 1, 3) := by decide +kernel
theorem dX3_planOne_72 : decode cX3_planOne 72 = .ok (.goto (-68), 3) := by decide +kernel
theorem dX3_planOne_75 : decode cX3_planOne 75 = .ok (.iload_n 1, 1) := by decide +kernel
theorem dX3_planOne_76 : decode cX3_planOne 76 = .ok (.iconst (-1), 1) := by decide +kernel
theorem dX3_planOne_77 : decode cX3_planOne 77 = .ok (.if_icmp .ne 5, 3) := by decide +kernel
theorem dX3_planOne_80 : decode cX3_planOne 80 = .ok (.iconst 0, 1) := by decide +kernel
theorem dX3_planOne_81 : decode cX3_planOne 81 = .ok (.ireturn, 1) := by decide +kernel
theorem dX3_planOne_82 : decode cX3_planOne 82 = .ok (.iconst (-1), 1) := by decide +kernel
theorem dX3_planOne_83 : decode cX3_planOne 83 = .ok (.istore_n 2, 1) := by decide +kernel
theorem dX3_planOne_84 : decode cX3_planOne 84 = .ok (.iconst 0, 1) := by decide +kernel
theorem dX3_planOne_85 : decode cX3_planOne 85 = .ok (.istore_n 3, 1) := by decide +kernel
theorem dX3_planOne_86 : decode cX3_planOne 86 = .ok (.iload_n 3, 1) := by decide +kernel
theorem dX3_planOne_87 : decode cX3_planOne 87 = .ok (.bipush 30, 2) := by decide +kernel
theorem dX3_planOne_89 : decode cX3_planOne 89 = .ok (.if_icmp .ge 35, 3) := by decide +kernel
theorem dX3_planOne_92 : decode cX3_planOne 92 = .ok (.aload_n 0, 1) := by decide +kernel
theorem dX3_planOne_93 : decode cX3_planOne 93 = .ok (.iload_n 1, 1) := by decide +kernel
theorem dX3_planOne_94 : decode cX3_planOne 94 = .ok (.iload_n 3, 1) := by decide +kernel
theorem dX3_planOne_95 : decode cX3_planOne 95 = .ok (.invokevirtual 94, 3) := by decide +kernel
theorem dX3_planOne_98 : decode cX3_planOne 98 = .ok (.ifCond .eq 20, 3) := by decide +kernel
theorem dX3_planOne_101 : decode cX3_planOne 101 = .ok (.iload_n 2, 1) := by decide +kernel
theorem dX3_planOne_102 : decode cX3_planOne 102 = .ok (.iconst (-1), 1) := by decide +kernel
theorem dX3_planOne_103 : decode cX3_planOne 103 = .ok (.if_icmp .eq 13, 3) := by decide +kernel
theorem dX3_planOne_106 : decode cX3_planOne 106 = .ok (.aload_n 0, 1) := by decide +kernel
theorem dX3_planOne_107 : decode cX3_planOne 107 = .ok (.iload_n 1, 1) := by decide +kernel
theorem dX3_planOne_108 : decode cX3_planOne 108 = .ok (.iload_n 3, 1) := by decide +kernel
theorem dX3_planOne_109 : decode cX3_planOne 109 = .ok (.iload_n 2, 1) := by decide +kernel
theorem dX3_planOne_110 : decode cX3_planOne 110 = .ok (.invokevirtual 121, 3) := by decide +kernel
theorem dX3_planOne_113 : decode cX3_planOne 113 = .ok (.ifCond .eq 5, 3) := by decide +kernel
theorem dX3_planOne_116 : decode cX3_planOne 116 = .ok (.iload_n 3, 1) := by decide +kernel
theorem dX3_planOne_117 : decode cX3_planOne 117 = .ok (.istore_n 2, 1) := by decide +kernel
theorem dX3_planOne_118 : decode cX3_planOne 118 = .ok (.iinc 3 1, 3) := by decide +kernel
theorem dX3_planOne_121 : decode cX3_planOne 121 = .ok (.goto (-35), 3) := by decide +kernel
theorem dX3_planOne_124 : decode cX3_planOne 124 = .ok (.aload_n 0, 1) := by decide +kernel
theorem dX3_planOne_125 : decode cX3_planOne 125 = .ok (.iload_n 1, 1) := by decide +kernel
theorem dX3_planOne_126 : decode cX3_planOne 126 = .ok (.iload_n 2, 1) := by decide +kernel
theorem dX3_planOne_127 : decode cX3_planOne 127 = .ok (.invokevirtual 97, 3) := by decide +kernel
theorem dX3_planOne_130 : decode cX3_planOne 130 = .ok (.iconst 1, 1) := by decide +kernel
theorem dX3_planOne_131 : decode cX3_planOne 131 = .ok (.ireturn, 1) := by decide +kernel
set_option maxRecDepth 20000 in
theorem ggX3_plan_X3_planOne : GoodIn wsX3_plan wsX3_planOne := goodIn_r _ [6, 7, 8, 9, 10, 5, 11, 12, 13, 14, 15, 16, 17, 18, 19, 20, 21, 22, 23, 24, 25, 26, 27, 28, 29, 30, 31, 32, 33, 34, 35, 36, 37, 38, 39, 40, 41, 42, 43, 44, 45, 46, 47, 48, 49, 50, 51, 52, 53, 54, 55, 56, 57, 58, 59, 60, 61, 62, 63, 64, 65, 66, 67, 68, 69, 70, 71, 72, 73, 74, 75, 76, 77, 78, 79, 80, 81, 82, 83, 84, 85, 86, 87, 88] (by decide +kernel) (by decide +kernel)
set_option maxRecDepth 20000 in
theorem gX3_plan_X3_planOne : GoodIn wsX3_plan (wsV RX3 124 RX3 yX3_planOne wsX3_planOne) := goodIn_app (goodIn_of _ (by decide +kernel)) ggX3_plan_X3_planOne
theorem dX3_plan_0 : decode cX3_plan 0 = .ok (.aload_n 0, 1) := by decide +kernel
theorem dX3_plan_1 : decode cX3_plan 1 = .ok (.iconst 0, 1) := by decide +kernel
theorem dX3_plan_2 : decode cX3_plan 2 = .ok (.putfield 33, 3) := by decide +kernel
theorem dX3_plan_5 : decode cX3_plan 5 = .ok (.iconst 0, 1) := by decide +kernel
theorem dX3_plan_6 : decode cX3_plan 6 = .ok (.istore_n 1, 1) := by decide +kernel
theorem dX3_plan_7 : decode cX3_plan 7 = .ok (.aload_n 0, 1) := by decide +kernel
theorem dX3_plan_8 : decode cX3_plan 8 = .ok (.invokevirtual 124, 3) := by decide +kernel
theorem dX3_plan_11 : decode cX3_plan 11 = .ok (.ifCond .eq 9, 3) := by decide +kernel
theorem dX3_plan_14 : decode cX3_plan 14 = .ok (.iinc 1 1, 3) := by decide +kernel
theorem dX3_plan_17 : decode cX3_plan 17 = .ok (.goto (-10), 3) := by decide +kernel
theorem dX3_plan_20 : decode cX3_plan 20 = .ok (.iload_n 1, 1) := by decide +kernel
theorem dX3_plan_21 : decode cX3_plan 21 = .ok (.ireturn, 1) := by decide +kernel
set_option maxRecDepth 20000 in
theorem ggX3_weigh_X3_state : GoodIn wsX3_weigh wsX3_state := goodIn_r _ [9, 10, 15, 16, 17, 18, 19, 20, 21, 22, 23, 24, 25, 26, 27] (by decide +kernel) (by decide +kernel)
set_option maxRecDepth 20000 in
theorem gX3_weigh_X3_state : GoodIn wsX3_weigh (wsV RX3 43 RX3 yX3_state wsX3_state) := goodIn_app (goodIn_of _ (by decide +kernel)) ggX3_weigh_X3_state
set_option maxRecDepth 20000 in
theorem ggX3_weigh_X3_heavy : GoodIn wsX3_weigh wsX3_heavy := goodIn_r _ [14, 10, 15, 16, 17, 18, 19, 20, 21, 22, 23, 24, 25, 26, 27] (by decide +kernel) (by decide +kernel)
set_option maxRecDepth 20000 in
theorem gX3_weigh_X3_heavy : GoodIn wsX3_weigh (wsV RX3 82 RX3 yX3_heavy wsX3_heavy) := goodIn_app (goodIn_of _ (by decide +kernel)) ggX3_weigh_X3_heavy
theorem dX3_weigh_0 : decode cX3_weigh 0 = .ok (.aload_n 0, 1) := by decide +kernel
theorem dX3_weigh_1 : decode cX3_weigh 1 = .ok (.iconst 0, 1) := by decide +kernel
theorem dX3_weigh_2 : decode cX3_weigh 2 = .ok (.putfield 128, 3) := by decide +kernel
theorem dX3_weigh_5 : decode cX3_weigh 5 = .ok (.aload_n 0, 1) := by decide +kernel
theorem dX3_weigh_6 : decode cX3_weigh 6 = .ok (.iconst 0, 1) := by decide +kernel
theorem dX3_weigh_7 : decode cX3_weigh 7 = .ok (.putfield 131, 3) := by decide +kernel
theorem dX3_weigh_10 : decode cX3_weigh 10 = .ok (.iconst 0, 1) := by decide +kernel
theorem dX3_weigh_11 : decode cX3_weigh 11 = .ok (.istore_n 1, 1) := by decide +kernel
theorem dX3_weigh_12 : decode cX3_weigh 12 = .ok (.iload_n 1, 1) := by decide +kernel
theorem dX3_weigh_13 : decode cX3_weigh 13 = .ok (.aload_n 0, 1) := by decide +kernel
theorem dX3_weigh_14 : decode cX3_weigh 14 = .ok (.getfield 36, 3) := by decide +kernel
theorem dX3_weigh_17 : decode cX3_weigh 17 = .ok (.if_icmp .ge 60, 3) := by decide +kernel
theorem dX3_weigh_20 : decode cX3_weigh 20 = .ok (.aload_n 0, 1) := by decide +kernel
theorem dX3_weigh_21 : decode cX3_weigh 21 = .ok (.iload_n 1, 1) := by decide +kernel
theorem dX3_weigh_22 : decode cX3_weigh 22 = .ok (.invokevirtual 43, 3) := by decide +kernel
theorem dX3_weigh_25 : decode cX3_weigh 25 = .ok (.iconst 1, 1) := by decide +kernel
theorem dX3_weigh_26 : decode cX3_weigh 26 = .ok (.if_icmp .eq 6, 3) := by decide +kernel
theorem dX3_weigh_29 : decode cX3_weigh 29 = .ok (.goto 42, 3) := by decide +kernel
theorem dX3_weigh_32 : decode cX3_weigh 32 = .ok (.aload_n 0, 1) := by decide +kernel
theorem dX3_weigh_33 : decode cX3_weigh 33 = .ok (.dup, 1) := by decide +kernel
theorem dX3_weigh_34 : decode cX3_weigh 34 = .ok (.getfield 128, 3) := by decide +kernel
theorem dX3_weigh_37 : decode cX3_weigh 37 = .ok (.aload_n 0, 1) := by decide +kernel
theorem dX3_weigh_38 : decode cX3_weigh 38 = .ok (.iload_n 1, 1) := by decide +kernel
theorem dX3_weigh_39 : decode cX3_weigh 39 = .ok (.invokevirtual 82, 3) := by decide +kernel
theorem dX3_weigh_42 : decode cX3_weigh 42 = .ok (.iconst 2, 1) := by decide +kernel
theorem dX3_weigh_43 : decode cX3_weigh 43 = .ok (.aload_n 0, 1) := by decide +kernel
theorem dX3_weigh_44 : decode cX3_weigh 44 = .ok (.getfield 16, 3) := by decide +kernel
theorem dX3_weigh_47 : decode cX3_weigh 47 = .ok (.iload_n 1, 1) := by decide +kernel
theorem dX3_weigh_48 : decode cX3_weigh 48 = .ok (.iaload, 1) := by decide +kernel
theorem dX3_weigh_49 : decode cX3_weigh 49 = .ok (.imul, 1) := by decide +kernel
theorem dX3_weigh_50 : decode cX3_weigh 50 = .ok (.iconst 1, 1) := by decide +kernel
theorem dX3_weigh_51 : decode cX3_weigh 51 = .ok (.iadd, 1) := by decide +kernel
theorem dX3_weigh_52 : decode cX3_weigh 52 = .ok (.imul, 1) := by decide +kernel
theorem dX3_weigh_53 : decode cX3_weigh 53 = .ok (.iadd, 1) := by decide +kernel
theorem dX3_weigh_54 : decode cX3_weigh 54 = .ok (.putfield 128, 3) := by decide +kernel
theorem dX3_weigh_57 : decode cX3_weigh 57 = .ok (.aload_n 0, 1) := by decide +kernel
theorem dX3_weigh_58 : decode cX3_weigh 58 = .ok (.dup, 1) := by decide +kernel
theorem dX3_weigh_59 : decode cX3_weigh 59 = .ok (.getfield 131, 3) := by decide +kernel
theorem dX3_weigh_62 : decode cX3_weigh 62 = .ok (.aload_n 0, 1) := by decide +kernel
theorem dX3_weigh_63 : decode cX3_weigh 63 = .ok (.iload_n 1, 1) := by decide +kernel
theorem dX3_weigh_64 : decode cX3_weigh 64 = .ok (.invokevirtual 82, 3) := by decide +kernel
theorem dX3_weigh_67 : decode cX3_weigh 67 = .ok (.iadd, 1) := by decide +kernel
theorem dX3_weigh_68 : decode cX3_weigh 68 = .ok (.putfield 131, 3) := by decide +kernel
theorem dX3_weigh_71 : decode cX3_weigh 71 = .ok (.iinc 1 1, 3) := by decide +kernel
theorem dX3_weigh_74 : decode cX3_weigh 74 = .ok (.goto (-62), 3) := by decide +kernel
theorem dX3_weigh_77 : decode cX3_weigh 77 = .ok (.return_, 1) := by decide +kernel
set_option maxRecDepth 20000 in
theorem ggX3_steady_X3_weigh : GoodIn wsX3_steady wsX3_weigh := goodIn_r _ [13, 7, 8, 14, 15, 16, 17, 18, 12, 19, 20, 21, 22, 23, 24, 33, 34, 35, 36, 37, 38, 39, 40, 41, 42, 43, 44, 45] (by decide +kernel) (by decide +kernel)
set_option maxRecDepth 20000 in
theorem gX3_steady_X3_weigh : GoodIn wsX3_steady (wsV RX3 134 RX3 yX3_weigh wsX3_weigh) := goodIn_app (goodIn_of _ (by decide +kernel)) ggX3_steady_X3_weigh
set_option maxRecDepth 20000 in
theorem ggX3_steady_X3_momentOf : GoodIn wsX3_steady wsX3_momentOf := goodIn_r _ [28, 14, 29, 16, 17, 18, 12, 19, 20, 21, 22, 23, 24, 30, 31, 32, 33, 34, 35, 36, 37, 38, 39, 40, 41, 42, 43, 44, 45] (by decide +kernel) (by decide +kernel)
set_option maxRecDepth 20000 in
theorem gX3_steady_X3_momentOf : GoodIn wsX3_steady (wsV RX3 114 RX3 yX3_momentOf wsX3_momentOf) := goodIn_app (goodIn_of _ (by decide +kernel)) ggX3_steady_X3_momentOf
theorem dX3_steady_0 : decode cX3_steady 0 = .ok (.aload_n 0, 1) := by decide +kernel
theorem dX3_steady_1 : decode cX3_steady 1 = .ok (.invokevirtual 134, 3) := by decide +kernel
theorem dX3_steady_4 : decode cX3_steady 4 = .ok (.aload_n 0, 1) := by decide +kernel
theorem dX3_steady_5 : decode cX3_steady 5 = .ok (.iconst 0, 1) := by decide +kernel
theorem dX3_steady_6 : decode cX3_steady 6 = .ok (.invokevirtual 114, 3) := by decide +kernel
theorem dX3_steady_9 : decode cX3_steady 9 = .ok (.invokestatic 77, 3) := by decide +kernel
theorem dX3_steady_12 : decode cX3_steady 12 = .ok (.aload_n 0, 1) := by decide +kernel
theorem dX3_steady_13 : decode cX3_steady 13 = .ok (.getfield 27, 3) := by decide +kernel
theorem dX3_steady_16 : decode cX3_steady 16 = .ok (.if_icmp .gt 35, 3) := by decide +kernel
theorem dX3_steady_19 : decode cX3_steady 19 = .ok (.aload_n 0, 1) := by decide +kernel
theorem dX3_steady_20 : decode cX3_steady 20 = .ok (.iconst 1, 1) := by decide +kernel
theorem dX3_steady_21 : decode cX3_steady 21 = .ok (.invokevirtual 114, 3) := by decide +kernel
theorem dX3_steady_24 : decode cX3_steady 24 = .ok (.invokestatic 77, 3) := by decide +kernel
theorem dX3_steady_27 : decode cX3_steady 27 = .ok (.aload_n 0, 1) := by decide +kernel
theorem dX3_steady_28 : decode cX3_steady 28 = .ok (.getfield 30, 3) := by decide +kernel
theorem dX3_steady_31 : decode cX3_steady 31 = .ok (.if_icmp .gt 20, 3) := by decide +kernel
theorem dX3_steady_34 : decode cX3_steady 34 = .ok (.aload_n 0, 1) := by decide +kernel
theorem dX3_steady_35 : decode cX3_steady 35 = .ok (.getfield 128, 3) := by decide +kernel
theorem dX3_steady_38 : decode cX3_steady 38 = .ok (.iconst 5, 1) := by decide +kernel
theorem dX3_steady_39 : decode cX3_steady 39 = .ok (.aload_n 0, 1) := by decide +kernel
theorem dX3_steady_40 : decode cX3_steady 40 = .ok (.getfield 131, 3) := by decide +kernel
theorem dX3_steady_43 : decode cX3_steady 43 = .ok (.imul, 1) := by decide +kernel
theorem dX3_steady_44 : decode cX3_steady 44 = .ok (.if_icmp .gt 7, 3) := by decide +kernel
theorem dX3_steady_47 : decode cX3_steady 47 = .ok (.iconst 1, 1) := by decide +kernel
theorem dX3_steady_48 : decode cX3_steady 48 = .ok (.goto 4, 3) := by decide +kernel
theorem dX3_steady_51 : decode cX3_steady 51 = .ok (.iconst 0, 1) := by decide +kernel
theorem dX3_steady_52 : decode cX3_steady 52 = .ok (.ireturn, 1) := by decide +kernel
set_option maxRecDepth 20000 in
theorem ggX3_lowest_X3_isOn : GoodIn wsX3_lowest wsX3_isOn := goodIn_r _ [11, 12, 13, 14, 15, 10, 16, 17, 22, 23, 24, 25, 26, 27, 28, 29, 30, 31, 32, 33, 34] (by decide +kernel) (by decide +kernel)
set_option maxRecDepth 20000 in
theorem gX3_lowest_X3_isOn : GoodIn wsX3_lowest (wsV RX3 47 RX3 yX3_isOn wsX3_isOn) := goodIn_app (goodIn_of _ (by decide +kernel)) ggX3_lowest_X3_isOn
set_option maxRecDepth 20000 in
theorem ggX3_lowest_X3_to : GoodIn wsX3_lowest wsX3_to := goodIn_r _ [21, 17, 22, 23, 24, 25, 26, 27, 28, 29, 30, 31, 32, 33, 34] (by decide +kernel) (by decide +kernel)
set_option maxRecDepth 20000 in
theorem gX3_lowest_X3_to : GoodIn wsX3_lowest (wsV RX3 108 RX3 yX3_to wsX3_to) := goodIn_app (goodIn_of _ (by decide +kernel)) ggX3_lowest_X3_to
theorem dX3_lowest_0 : decode cX3_lowest 0 = .ok (.iconst 4, 1) := by decide +kernel
theorem dX3_lowest_1 : decode cX3_lowest 1 = .ok (.istore_n 3, 1) := by decide +kernel
theorem dX3_lowest_2 : decode cX3_lowest 2 = .ok (.iconst 0, 1) := by decide +kernel
theorem dX3_lowest_3 : decode cX3_lowest 3 = .ok (.istore 4, 2) := by decide +kernel
theorem dX3_lowest_5 : decode cX3_lowest 5 = .ok (.iload 4, 2) := by decide +kernel
theorem dX3_lowest_7 : decode cX3_lowest 7 = .ok (.aload_n 0, 1) := by decide +kernel
theorem dX3_lowest_8 : decode cX3_lowest 8 = .ok (.getfield 36, 3) := by decide +kernel
theorem dX3_lowest_11 : decode cX3_lowest 11 = .ok (.if_icmp .ge 41, 3) := by decide +kernel
theorem dX3_lowest_14 : decode cX3_lowest 14 = .ok (.aload_n 0, 1) := by decide +kernel
theorem dX3_lowest_15 : decode cX3_lowest 15 = .ok (.iload 4, 2) := by decide +kernel
theorem dX3_lowest_17 : decode cX3_lowest 17 = .ok (.iload_n 1, 1) := by decide +kernel
theorem dX3_lowest_18 : decode cX3_lowest 18 = .ok (.invokevirtual 47, 3) := by decide +kernel
theorem dX3_lowest_21 : decode cX3_lowest 21 = .ok (.ifCond .eq 25, 3) := by decide +kernel
theorem dX3_lowest_24 : decode cX3_lowest 24 = .ok (.aload_n 0, 1) := by decide +kernel
theorem dX3_lowest_25 : decode cX3_lowest 25 = .ok (.iload 4, 2) := by decide +kernel
theorem dX3_lowest_27 : decode cX3_lowest 27 = .ok (.invokevirtual 108, 3) := by decide +kernel
theorem dX3_lowest_30 : decode cX3_lowest 30 = .ok (.iload_n 2, 1) := by decide +kernel
theorem dX3_lowest_31 : decode cX3_lowest 31 = .ok (.if_icmp .ne 15, 3) := by decide +kernel
theorem dX3_lowest_34 : decode cX3_lowest 34 = .ok (.iload_n 3, 1) := by decide +kernel
theorem dX3_lowest_35 : decode cX3_lowest 35 = .ok (.aload_n 0, 1) := by decide +kernel
theorem dX3_lowest_36 : decode cX3_lowest 36 = .ok (.getfield 16, 3) := by decide +kernel
theorem dX3_lowest_39 : decode cX3_lowest 39 = .ok (.iload 4, 2) := by decide +kernel
theorem dX3_lowest_41 : decode cX3_lowest 41 = .ok (.iaload, 1) := by decide +kernel
theorem dX3_lowest_42 : decode cX3_lowest 42 = .ok (.invokestatic 137, 3) := by decide +kernel
theorem dX3_lowest_45 : decode cX3_lowest 45 = .ok (.istore_n 3, 1) := by decide +kernel
theorem dX3_lowest_46 : decode cX3_lowest 46 = .ok (.iinc 4 1, 3) := by decide +kernel
theorem dX3_lowest_49 : decode cX3_lowest 49 = .ok (.goto (-44), 3) := by decide +kernel
theorem dX3_lowest_52 : decode cX3_lowest 52 = .ok (.iload_n 3, 1) := by decide +kernel
theorem dX3_lowest_53 : decode cX3_lowest 53 = .ok (.ireturn, 1) := by decide +kernel
set_option maxRecDepth 20000 in
theorem ggX3_liftsAt_X3_state : GoodIn wsX3_liftsAt wsX3_state := goodIn_r _ [8, 9, 26, 27, 28, 29, 30, 31, 32, 33, 34, 35, 36, 37, 38] (by decide +kernel) (by decide +kernel)
set_option maxRecDepth 20000 in
theorem gX3_liftsAt_X3_state : GoodIn wsX3_liftsAt (wsV RX3 43 RX3 yX3_state wsX3_state) := goodIn_app (goodIn_of _ (by decide +kernel)) ggX3_liftsAt_X3_state
set_option maxRecDepth 20000 in
theorem ggX3_liftsAt_X3_to : GoodIn wsX3_liftsAt wsX3_to := goodIn_r _ [13, 9, 26, 27, 28, 29, 30, 31, 32, 33, 34, 35, 36, 37, 38] (by decide +kernel) (by decide +kernel)
set_option maxRecDepth 20000 in
theorem gX3_liftsAt_X3_to : GoodIn wsX3_liftsAt (wsV RX3 108 RX3 yX3_to wsX3_to) := goodIn_app (goodIn_of _ (by decide +kernel)) ggX3_liftsAt_X3_to
set_option maxRecDepth 20000 in
theorem ggX3_liftsAt_X3_lowest : GoodIn wsX3_liftsAt wsX3_lowest := goodIn_r _ [17, 1, 2, 18, 19, 20, 21, 22, 23, 24, 7, 25, 3, 4, 5, 6, 8, 9, 10, 11, 12, 13, 26, 27, 28, 29, 30, 31, 32, 33, 34, 35, 36, 37, 38] (by decide +kernel) (by decide +kernel)
set_option maxRecDepth 20000 in
theorem gX3_liftsAt_X3_lowest : GoodIn wsX3_liftsAt (wsV RX3 140 RX3 yX3_lowest wsX3_lowest) := goodIn_app (goodIn_of _ (by decide +kernel)) ggX3_liftsAt_X3_lowest
theorem dX3_liftsAt_0 : decode cX3_liftsAt 0 = .ok (.iconst 0, 1) := by decide +kernel
theorem dX3_liftsAt_1 : decode cX3_liftsAt 1 = .ok (.istore_n 2, 1) := by decide +kernel
theorem dX3_liftsAt_2 : decode cX3_liftsAt 2 = .ok (.iconst 0, 1) := by decide +kernel
theorem dX3_liftsAt_3 : decode cX3_liftsAt 3 = .ok (.istore_n 3, 1) := by decide +kernel
theorem dX3_liftsAt_4 : decode cX3_liftsAt 4 = .ok (.iload_n 3, 1) := by decide +kernel
theorem dX3_liftsAt_5 : decode cX3_liftsAt 5 = .ok (.aload_n 0, 1) := by decide +kernel
theorem dX3_liftsAt_6 : decode cX3_liftsAt 6 = .ok (.getfield 36, 3) := by decide +kernel
theorem dX3_liftsAt_9 : decode cX3_liftsAt 9 = .ok (.if_icmp .ge 55, 3) := by decide +kernel
theorem dX3_liftsAt_12 : decode cX3_liftsAt 12 = .ok (.iload_n 2, 1) := by decide +kernel
theorem dX3_liftsAt_13 : decode cX3_liftsAt 13 = .ok (.aload_n 0, 1) := by decide +kernel
theorem dX3_liftsAt_14 : decode cX3_liftsAt 14 = .ok (.iload_n 3, 1) := by decide +kernel
theorem dX3_liftsAt_15 : decode cX3_liftsAt 15 = .ok (.invokevirtual 43, 3) := by decide +kernel
theorem dX3_liftsAt_18 : decode cX3_liftsAt 18 = .ok (.iconst 1, 1) := by decide +kernel
theorem dX3_liftsAt_19 : decode cX3_liftsAt 19 = .ok (.if_icmp .ne 36, 3) := by decide +kernel
theorem dX3_liftsAt_22 : decode cX3_liftsAt 22 = .ok (.aload_n 0, 1) := by decide +kernel
theorem dX3_liftsAt_23 : decode cX3_liftsAt 23 = .ok (.iload_n 3, 1) := by decide +kernel
theorem dX3_liftsAt_24 : decode cX3_liftsAt 24 = .ok (.invokevirtual 108, 3) := by decide +kernel
theorem dX3_liftsAt_27 : decode cX3_liftsAt 27 = .ok (.iload_n 1, 1) := by decide +kernel
theorem dX3_liftsAt_28 : decode cX3_liftsAt 28 = .ok (.if_icmp .eq 27, 3) := by decide +kernel
theorem dX3_liftsAt_31 : decode cX3_liftsAt 31 = .ok (.aload_n 0, 1) := by decide +kernel
theorem dX3_liftsAt_32 : decode cX3_liftsAt 32 = .ok (.getfield 16, 3) := by decide +kernel
theorem dX3_liftsAt_35 : decode cX3_liftsAt 35 = .ok (.iload_n 3, 1) := by decide +kernel
theorem dX3_liftsAt_36 : decode cX3_liftsAt 36 = .ok (.iaload, 1) := by decide +kernel
theorem dX3_liftsAt_37 : decode cX3_liftsAt 37 = .ok (.aload_n 0, 1) := by decide +kernel
theorem dX3_liftsAt_38 : decode cX3_liftsAt 38 = .ok (.aload_n 0, 1) := by decide +kernel
theorem dX3_liftsAt_39 : decode cX3_liftsAt 39 = .ok (.getfield 13, 3) := by decide +kernel
theorem dX3_liftsAt_42 : decode cX3_liftsAt 42 = .ok (.iload_n 3, 1) := by decide +kernel
theorem dX3_liftsAt_43 : decode cX3_liftsAt 43 = .ok (.iaload, 1) := by decide +kernel
theorem dX3_liftsAt_44 : decode cX3_liftsAt 44 = .ok (.iload_n 1, 1) := by decide +kernel
theorem dX3_liftsAt_45 : decode cX3_liftsAt 45 = .ok (.invokevirtual 140, 3) := by decide +kernel
theorem dX3_liftsAt_48 : decode cX3_liftsAt 48 = .ok (.if_icmp .le 7, 3) := by decide +kernel
theorem dX3_liftsAt_51 : decode cX3_liftsAt 51 = .ok (.iconst 1, 1) := by decide +kernel
theorem dX3_liftsAt_52 : decode cX3_liftsAt 52 = .ok (.goto 4, 3) := by decide +kernel
theorem dX3_liftsAt_55 : decode cX3_liftsAt 55 = .ok (.iconst 0, 1) := by decide +kernel
theorem dX3_liftsAt_56 : decode cX3_liftsAt 56 = .ok (.iadd, 1) := by decide +kernel
theorem dX3_liftsAt_57 : decode cX3_liftsAt 57 = .ok (.istore_n 2, 1) := by decide +kernel
theorem dX3_liftsAt_58 : decode cX3_liftsAt 58 = .ok (.iinc 3 1, 3) := by decide +kernel
theorem dX3_liftsAt_61 : decode cX3_liftsAt 61 = .ok (.goto (-57), 3) := by decide +kernel
theorem dX3_liftsAt_64 : decode cX3_liftsAt 64 = .ok (.iload_n 2, 1) := by decide +kernel
theorem dX3_liftsAt_65 : decode cX3_liftsAt 65 = .ok (.ireturn, 1) := by decide +kernel
set_option maxRecDepth 20000 in
theorem ggX3_sail_X3_steady : GoodIn wsX3_sail wsX3_steady := goodIn_r _ [10, 11, 12, 13, 14, 15, 16, 17, 18, 19, 20, 21, 9, 22, 23, 5, 24, 25, 26, 27, 4, 28, 29, 30, 31, 32, 33, 34, 35, 36, 37, 38, 39, 71, 72, 73, 74, 75, 76, 77, 78, 79, 80, 81, 82, 83] (by decide +kernel) (by decide +kernel)
set_option maxRecDepth 20000 in
theorem gX3_sail_X3_steady : GoodIn wsX3_sail (wsV RX3 143 RX3 yX3_steady wsX3_steady) := goodIn_app (goodIn_of _ (by decide +kernel)) ggX3_sail_X3_steady
set_option maxRecDepth 20000 in
theorem ggX3_sail_X3_fail : GoodIn wsX3_sail wsX3_fail := goodIn_r _ [43, 1, 71, 72, 73, 74, 75, 76, 77, 78, 79, 80, 81, 82, 83] (by decide +kernel) (by decide +kernel)
set_option maxRecDepth 20000 in
theorem gX3_sail_X3_fail : GoodIn wsX3_sail (wsV RX3 51 RX3 yX3_fail wsX3_fail) := goodIn_app (goodIn_of _ (by decide +kernel)) ggX3_sail_X3_fail
set_option maxRecDepth 20000 in
theorem ggX3_sail_X3_liftsAt : GoodIn wsX3_sail wsX3_liftsAt := goodIn_r _ [47, 23, 5, 36, 24, 25, 26, 9, 27, 4, 48, 49, 50, 51, 52, 53, 54, 55, 56, 57, 13, 58, 59, 60, 61, 62, 71, 72, 73, 74, 75, 76, 77, 78, 79, 80, 81, 82, 83] (by decide +kernel) (by decide +kernel)
set_option maxRecDepth 20000 in
theorem gX3_sail_X3_liftsAt : GoodIn wsX3_sail (wsV RX3 146 RX3 yX3_liftsAt wsX3_liftsAt) := goodIn_app (goodIn_of _ (by decide +kernel)) ggX3_sail_X3_liftsAt
set_option maxRecDepth 20000 in
theorem ggX3_sail_X3_high : GoodIn wsX3_sail wsX3_high := goodIn_r _ [66, 23, 59, 60, 61, 9, 62, 36, 24, 25, 26, 27, 4, 71, 72, 73, 74, 75, 76, 77, 78, 79, 80, 81, 82, 83] (by decide +kernel) (by decide +kernel)
set_option maxRecDepth 20000 in
theorem gX3_sail_X3_high : GoodIn wsX3_sail (wsV RX3 85 RX3 yX3_high wsX3_high) := goodIn_app (goodIn_of _ (by decide +kernel)) ggX3_sail_X3_high
set_option maxRecDepth 20000 in
theorem ggX3_sail_X3_find : GoodIn wsX3_sail wsX3_find := goodIn_r _ [70, 23, 5, 59, 60, 61, 9, 62, 36, 24, 25, 26, 27, 4, 71, 72, 73, 74, 75, 76, 77, 78, 79, 80, 81, 82, 83] (by decide +kernel) (by decide +kernel)
set_option maxRecDepth 20000 in
theorem gX3_sail_X3_find : GoodIn wsX3_sail (wsV RX3 101 RX3 yX3_find wsX3_find) := goodIn_app (goodIn_of _ (by decide +kernel)) ggX3_sail_X3_find
set_option maxRecDepth 20000 in
theorem ggX3_sail_X3_to : GoodIn wsX3_sail wsX3_to := goodIn_r _ [51, 4, 71, 72, 73, 74, 75, 76, 77, 78, 79, 80, 81, 82, 83] (by decide +kernel) (by decide +kernel)
set_option maxRecDepth 20000 in
theorem gX3_sail_X3_to : GoodIn wsX3_sail (wsV RX3 108 RX3 yX3_to wsX3_to) := goodIn_app (goodIn_of _ (by decide +kernel)) ggX3_sail_X3_to
theorem dX3_sail_0 : decode cX3_sail 0 = .ok (.aload_n 0, 1) := by decide +kernel
theorem dX3_sail_1 : decode cX3_sail 1 = .ok (.iconst 0, 1) := by decide +kernel
theorem dX3_sail_2 : decode cX3_sail 2 = .ok (.putfield 33, 3) := by decide +kernel
theorem dX3_sail_5 : decode cX3_sail 5 = .ok (.aload_n 0, 1) := by decide +kernel
theorem dX3_sail_6 : decode cX3_sail 6 = .ok (.getfield 54, 3) := by decide +kernel
theorem dX3_sail_9 : decode cX3_sail 9 = .ok (.iconst 5, 1) := by decide +kernel
theorem dX3_sail_10 : decode cX3_sail 10 = .ok (.if_icmp .eq 10, 3) := by decide +kernel
theorem dX3_sail_13 : decode cX3_sail 13 = .ok (.aload_n 0, 1) := by decide +kernel
theorem dX3_sail_14 : decode cX3_sail 14 = .ok (.invokevirtual 143, 3) := by decide +kernel
theorem dX3_sail_17 : decode cX3_sail 17 = .ok (.ifCond .ne 9, 3) := by decide +kernel
theorem dX3_sail_20 : decode cX3_sail 20 = .ok (.aload_n 0, 1) := by decide +kernel
theorem dX3_sail_21 : decode cX3_sail 21 = .ok (.iconst 1, 1) := by decide +kernel
theorem dX3_sail_22 : decode cX3_sail 22 = .ok (.invokevirtual 51, 3) := by decide +kernel
theorem dX3_sail_25 : decode cX3_sail 25 = .ok (.ireturn, 1) := by decide +kernel
theorem dX3_sail_26 : decode cX3_sail 26 = .ok (.aload_n 0, 1) := by decide +kernel
theorem dX3_sail_27 : decode cX3_sail 27 = .ok (.dup, 1) := by decide +kernel
theorem dX3_sail_28 : decode cX3_sail 28 = .ok (.getfield 54, 3) := by decide +kernel
theorem dX3_sail_31 : decode cX3_sail 31 = .ok (.iconst 1, 1) := by decide +kernel
theorem dX3_sail_32 : decode cX3_sail 32 = .ok (.iadd, 1) := by decide +kernel
theorem dX3_sail_33 : decode cX3_sail 33 = .ok (.putfield 54, 3) := by decide +kernel
theorem dX3_sail_36 : decode cX3_sail 36 = .ok (.aload_n 0, 1) := by decide +kernel
theorem dX3_sail_37 : decode cX3_sail 37 = .ok (.aload_n 0, 1) := by decide +kernel
theorem dX3_sail_38 : decode cX3_sail 38 = .ok (.getfield 54, 3) := by decide +kernel
theorem dX3_sail_41 : decode cX3_sail 41 = .ok (.invokevirtual 146, 3) := by decide +kernel
theorem dX3_sail_44 : decode cX3_sail 44 = .ok (.istore_n 1, 1) := by decide +kernel
theorem dX3_sail_45 : decode cX3_sail 45 = .ok (.aload_n 0, 1) := by decide +kernel
theorem dX3_sail_46 : decode cX3_sail 46 = .ok (.dup, 1) := by decide +kernel
theorem dX3_sail_47 : decode cX3_sail 47 = .ok (.getfield 149, 3) := by decide +kernel
theorem dX3_sail_50 : decode cX3_sail 50 = .ok (.iload_n 1, 1) := by decide +kernel
theorem dX3_sail_51 : decode cX3_sail 51 = .ok (.iadd, 1) := by decide +kernel
theorem dX3_sail_52 : decode cX3_sail 52 = .ok (.putfield 149, 3) := by decide +kernel
theorem dX3_sail_55 : decode cX3_sail 55 = .ok (.iconst 0, 1) := by decide +kernel
theorem dX3_sail_56 : decode cX3_sail 56 = .ok (.istore_n 2, 1) := by decide +kernel
theorem dX3_sail_57 : decode cX3_sail 57 = .ok (.iload_n 2, 1) := by decide +kernel
theorem dX3_sail_58 : decode cX3_sail 58 = .ok (.bipush 30, 2) := by decide +kernel
theorem dX3_sail_60 : decode cX3_sail 60 = .ok (.if_icmp .ge 82, 3) := by decide +kernel
theorem dX3_sail_63 : decode cX3_sail 63 = .ok (.aload_n 0, 1) := by decide +kernel
theorem dX3_sail_64 : decode cX3_sail 64 = .ok (.iload_n 2, 1) := by decide +kernel
theorem dX3_sail_65 : decode cX3_sail 65 = .ok (.invokevirtual 85, 3) := by decide +kernel
theorem dX3_sail_68 : decode cX3_sail 68 = .ok (.istore_n 3, 1) := by decide +kernel
theorem dX3_sail_69 : decode cX3_sail 69 = .ok (.iconst 0, 1) := by decide +kernel
theorem dX3_sail_70 : decode cX3_sail 70 = .ok (.istore 4, 2) := by decide +kernel
theorem dX3_sail_72 : decode cX3_sail 72 = .ok (.iconst 0, 1) := by decide +kernel
theorem dX3_sail_73 : decode cX3_sail 73 = .ok (.istore 5, 2) := by decide +kernel
theorem dX3_sail_75 : decode cX3_sail 75 = .ok (.iload 5, 2) := by decide +kernel
theorem dX3_sail_77 : decode cX3_sail 77 = .ok (.iload_n 3, 1) := by decide +kernel
theorem dX3_sail_78 : decode cX3_sail 78 = .ok (.if_icmp .ge 58, 3) := by decide +kernel
theorem dX3_sail_81 : decode cX3_sail 81 = .ok (.aload_n 0, 1) := by decide +kernel
theorem dX3_sail_82 : decode cX3_sail 82 = .ok (.iload_n 2, 1) := by decide +kernel
theorem dX3_sail_83 : decode cX3_sail 83 = .ok (.iload 5, 2) := by decide +kernel
theorem dX3_sail_85 : decode cX3_sail 85 = .ok (.invokevirtual 101, 3) := by decide +kernel
theorem dX3_sail_88 : decode cX3_sail 88 = .ok (.istore 6, 2) := by decide +kernel
theorem dX3_sail_90 : decode cX3_sail 90 = .ok (.aload_n 0, 1) := by decide +kernel
theorem dX3_sail_91 : decode cX3_sail 91 = .ok (.iload 6, 2) := by decide +kernel
theorem dX3_sail_93 : decode cX3_sail 93 = .ok (.invokevirtual 108, 3) := by decide +kernel
theorem dX3_sail_96 : decode cX3_sail 96 = .ok (.aload_n 0, 1) := by decide +kernel
theorem dX3_sail_97 : decode cX3_sail 97 = .ok (.getfield 54, 3) := by decide +kernel
theorem dX3_sail_100 : decode cX3_sail 100 = .ok (.if_icmp .ne 18, 3) := by decide +kernel
theorem dX3_sail_103 : decode cX3_sail 103 = .ok (.aload_n 0, 1) := by decide +kernel
theorem dX3_sail_104 : decode cX3_sail 104 = .ok (.getfield 9, 3) := by decide +kernel
theorem dX3_sail_107 : decode cX3_sail 107 = .ok (.iconst 5, 1) := by decide +kernel
theorem dX3_sail_108 : decode cX3_sail 108 = .ok (.iload 6, 2) := by decide +kernel
theorem dX3_sail_110 : decode cX3_sail 110 = .ok (.imul, 1) := by decide +kernel
theorem dX3_sail_111 : decode cX3_sail 111 = .ok (.iconst 4, 1) := by decide +kernel
theorem dX3_sail_112 : decode cX3_sail 112 = .ok (.iadd, 1) := by decide +kernel
theorem dX3_sail_113 : decode cX3_sail 113 = .ok (.iconst 2, 1) := by decide +kernel
theorem dX3_sail_114 : decode cX3_sail 114 = .ok (.iastore, 1) := by decide +kernel
theorem dX3_sail_115 : decode cX3_sail 115 = .ok (.goto 15, 3) := by decide +kernel
theorem dX3_sail_118 : decode cX3_sail 118 = .ok (.aload_n 0, 1) := by decide +kernel
theorem dX3_sail_119 : decode cX3_sail 119 = .ok (.getfield 16, 3) := by decide +kernel
theorem dX3_sail_122 : decode cX3_sail 122 = .ok (.iload 6, 2) := by decide +kernel
theorem dX3_sail_124 : decode cX3_sail 124 = .ok (.iload 4, 2) := by decide +kernel
theorem dX3_sail_126 : decode cX3_sail 126 = .ok (.iastore, 1) := by decide +kernel
theorem dX3_sail_127 : decode cX3_sail 127 = .ok (.iinc 4 1, 3) := by decide +kernel
theorem dX3_sail_130 : decode cX3_sail 130 = .ok (.iinc 5 1, 3) := by decide +kernel
theorem dX3_sail_133 : decode cX3_sail 133 = .ok (.goto (-58), 3) := by decide +kernel
theorem dX3_sail_136 : decode cX3_sail 136 = .ok (.iinc 2 1, 3) := by decide +kernel
theorem dX3_sail_139 : decode cX3_sail 139 = .ok (.goto (-82), 3) := by decide +kernel
theorem dX3_sail_142 : decode cX3_sail 142 = .ok (.iload_n 1, 1) := by decide +kernel
theorem dX3_sail_143 : decode cX3_sail 143 = .ok (.ireturn, 1) := by decide +kernel
theorem dX3_port_0 : decode cX3_port 0 = .ok (.aload_n 0, 1) := by decide +kernel
theorem dX3_port_1 : decode cX3_port 1 = .ok (.iconst 0, 1) := by decide +kernel
theorem dX3_port_2 : decode cX3_port 2 = .ok (.putfield 33, 3) := by decide +kernel
theorem dX3_port_5 : decode cX3_port 5 = .ok (.aload_n 0, 1) := by decide +kernel
theorem dX3_port_6 : decode cX3_port 6 = .ok (.getfield 54, 3) := by decide +kernel
theorem dX3_port_9 : decode cX3_port 9 = .ok (.ireturn, 1) := by decide +kernel
set_option maxRecDepth 20000 in
theorem ggX3_at_X3_isStack : GoodIn wsX3_at wsX3_isStack := goodIn_r _ [5, 6, 7, 4, 8] (by decide +kernel) (by decide +kernel)
set_option maxRecDepth 20000 in
theorem gX3_at_X3_isStack : GoodIn wsX3_at (va_wsS RX3 67 yX3_isStack wsX3_isStack) := goodIn_app (goodIn_of _ (by decide +kernel)) ggX3_at_X3_isStack
set_option maxRecDepth 20000 in
theorem ggX3_at_X3_isIn : GoodIn wsX3_at wsX3_isIn := goodIn_r _ [8] (by decide +kernel) (by decide +kernel)
set_option maxRecDepth 20000 in
theorem gX3_at_X3_isIn : GoodIn wsX3_at (va_wsS RX3 39 yX3_isIn wsX3_isIn) := goodIn_app (goodIn_of _ (by decide +kernel)) ggX3_at_X3_isIn
set_option maxRecDepth 20000 in
theorem ggX3_at_X3_stack : GoodIn wsX3_at wsX3_stack := goodIn_r _ [11] (by decide +kernel) (by decide +kernel)
set_option maxRecDepth 20000 in
theorem gX3_at_X3_stack : GoodIn wsX3_at (va_wsS RX3 70 yX3_stack wsX3_stack) := goodIn_app (goodIn_of _ (by decide +kernel)) ggX3_at_X3_stack
set_option maxRecDepth 20000 in
theorem ggX3_at_X3_find : GoodIn wsX3_at wsX3_find := goodIn_r _ [15, 16, 17, 18, 19, 20, 4, 21, 22, 23, 24, 25, 26, 27, 32, 33, 34, 35, 36, 37, 38, 39, 40, 41, 42, 43, 44] (by decide +kernel) (by decide +kernel)
set_option maxRecDepth 20000 in
theorem gX3_at_X3_find : GoodIn wsX3_at (wsV RX3 101 RX3 yX3_find wsX3_find) := goodIn_app (goodIn_of _ (by decide +kernel)) ggX3_at_X3_find
set_option maxRecDepth 20000 in
theorem ggX3_at_X3_fail : GoodIn wsX3_at wsX3_fail := goodIn_r _ [31, 1, 32, 33, 34, 35, 36, 37, 38, 39, 40, 41, 42, 43, 44] (by decide +kernel) (by decide +kernel)
set_option maxRecDepth 20000 in
theorem gX3_at_X3_fail : GoodIn wsX3_at (wsV RX3 51 RX3 yX3_fail wsX3_fail) := goodIn_app (goodIn_of _ (by decide +kernel)) ggX3_at_X3_fail
theorem dX3_at_0 : decode cX3_at 0 = .ok (.aload_n 0, 1) := by decide +kernel
theorem dX3_at_1 : decode cX3_at 1 = .ok (.iconst 0, 1) := by decide +kernel
theorem dX3_at_2 : decode cX3_at 2 = .ok (.putfield 33, 3) := by decide +kernel
theorem dX3_at_5 : decode cX3_at 5 = .ok (.iload_n 1, 1) := by decide +kernel
theorem dX3_at_6 : decode cX3_at 6 = .ok (.iload_n 2, 1) := by decide +kernel
theorem dX3_at_7 : decode cX3_at 7 = .ok (.invokestatic 67, 3) := by decide +kernel
theorem dX3_at_10 : decode cX3_at 10 = .ok (.ifCond .eq 25, 3) := by decide +kernel
theorem dX3_at_13 : decode cX3_at 13 = .ok (.iload_n 3, 1) := by decide +kernel
theorem dX3_at_14 : decode cX3_at 14 = .ok (.iconst 0, 1) := by decide +kernel
theorem dX3_at_15 : decode cX3_at 15 = .ok (.iconst 3, 1) := by decide +kernel
theorem dX3_at_16 : decode cX3_at 16 = .ok (.invokestatic 39, 3) := by decide +kernel
theorem dX3_at_19 : decode cX3_at 19 = .ok (.ifCond .eq 16, 3) := by decide +kernel
theorem dX3_at_22 : decode cX3_at 22 = .ok (.aload_n 0, 1) := by decide +kernel
theorem dX3_at_23 : decode cX3_at 23 = .ok (.iload_n 1, 1) := by decide +kernel
theorem dX3_at_24 : decode cX3_at 24 = .ok (.iload_n 2, 1) := by decide +kernel
theorem dX3_at_25 : decode cX3_at 25 = .ok (.invokestatic 70, 3) := by decide +kernel
theorem dX3_at_28 : decode cX3_at 28 = .ok (.iload_n 3, 1) := by decide +kernel
theorem dX3_at_29 : decode cX3_at 29 = .ok (.invokevirtual 101, 3) := by decide +kernel
theorem dX3_at_32 : decode cX3_at 32 = .ok (.goto 8, 3) := by decide +kernel
theorem dX3_at_35 : decode cX3_at 35 = .ok (.aload_n 0, 1) := by decide +kernel
theorem dX3_at_36 : decode cX3_at 36 = .ok (.iconst 1, 1) := by decide +kernel
theorem dX3_at_37 : decode cX3_at 37 = .ok (.invokevirtual 51, 3) := by decide +kernel
theorem dX3_at_40 : decode cX3_at 40 = .ok (.ireturn, 1) := by decide +kernel
set_option maxRecDepth 20000 in
theorem ggX3_place_X3_state : GoodIn wsX3_place wsX3_state := goodIn_r _ [7, 8, 9, 10, 11, 12, 13, 14, 15, 16, 17, 18, 19, 20, 21] (by decide +kernel) (by decide +kernel)
set_option maxRecDepth 20000 in
theorem gX3_place_X3_state : GoodIn wsX3_place (wsV RX3 43 RX3 yX3_state wsX3_state) := goodIn_app (goodIn_of _ (by decide +kernel)) ggX3_place_X3_state
theorem dX3_place_0 : decode cX3_place 0 = .ok (.aload_n 0, 1) := by decide +kernel
theorem dX3_place_1 : decode cX3_place 1 = .ok (.iload_n 1, 1) := by decide +kernel
theorem dX3_place_2 : decode cX3_place 2 = .ok (.invokevirtual 43, 3) := by decide +kernel
theorem dX3_place_5 : decode cX3_place 5 = .ok (.iconst 1, 1) := by decide +kernel
theorem dX3_place_6 : decode cX3_place 6 = .ok (.if_icmp .ne 36, 3) := by decide +kernel
theorem dX3_place_9 : decode cX3_place 9 = .ok (.bipush 100, 2) := by decide +kernel
theorem dX3_place_11 : decode cX3_place 11 = .ok (.aload_n 0, 1) := by decide +kernel
theorem dX3_place_12 : decode cX3_place 12 = .ok (.getfield 13, 3) := by decide +kernel
theorem dX3_place_15 : decode cX3_place 15 = .ok (.iload_n 1, 1) := by decide +kernel
theorem dX3_place_16 : decode cX3_place 16 = .ok (.iaload, 1) := by decide +kernel
theorem dX3_place_17 : decode cX3_place 17 = .ok (.iconst 5, 1) := by decide +kernel
theorem dX3_place_18 : decode cX3_place 18 = .ok (.idiv, 1) := by decide +kernel
theorem dX3_place_19 : decode cX3_place 19 = .ok (.imul, 1) := by decide +kernel
theorem dX3_place_20 : decode cX3_place 20 = .ok (.bipush 10, 2) := by decide +kernel
theorem dX3_place_22 : decode cX3_place 22 = .ok (.aload_n 0, 1) := by decide +kernel
theorem dX3_place_23 : decode cX3_place 23 = .ok (.getfield 13, 3) := by decide +kernel
theorem dX3_place_26 : decode cX3_place 26 = .ok (.iload_n 1, 1) := by decide +kernel
theorem dX3_place_27 : decode cX3_place 27 = .ok (.iaload, 1) := by decide +kernel
theorem dX3_place_28 : decode cX3_place 28 = .ok (.iconst 5, 1) := by decide +kernel
theorem dX3_place_29 : decode cX3_place 29 = .ok (.irem, 1) := by decide +kernel
theorem dX3_place_30 : decode cX3_place 30 = .ok (.imul, 1) := by decide +kernel
theorem dX3_place_31 : decode cX3_place 31 = .ok (.iadd, 1) := by decide +kernel
theorem dX3_place_32 : decode cX3_place 32 = .ok (.aload_n 0, 1) := by decide +kernel
theorem dX3_place_33 : decode cX3_place 33 = .ok (.getfield 16, 3) := by decide +kernel
theorem dX3_place_36 : decode cX3_place 36 = .ok (.iload_n 1, 1) := by decide +kernel
theorem dX3_place_37 : decode cX3_place 37 = .ok (.iaload, 1) := by decide +kernel
theorem dX3_place_38 : decode cX3_place 38 = .ok (.iadd, 1) := by decide +kernel
theorem dX3_place_39 : decode cX3_place 39 = .ok (.goto 4, 3) := by decide +kernel
theorem dX3_place_42 : decode cX3_place 42 = .ok (.iconst (-1), 1) := by decide +kernel
theorem dX3_place_43 : decode cX3_place 43 = .ok (.ireturn, 1) := by decide +kernel
set_option maxRecDepth 20000 in
theorem ggX3_where_X3_isContainer : GoodIn wsX3_where wsX3_isContainer := goodIn_r _ [6, 7, 8, 9, 5, 10, 26, 27, 28, 29, 30, 31, 32, 33, 34, 35, 36, 37, 38] (by decide +kernel) (by decide +kernel)
set_option maxRecDepth 20000 in
theorem gX3_where_X3_isContainer : GoodIn wsX3_where (wsV RX3 63 RX3 yX3_isContainer wsX3_isContainer) := goodIn_app (goodIn_of _ (by decide +kernel)) ggX3_where_X3_isContainer
set_option maxRecDepth 20000 in
theorem ggX3_where_X3_place : GoodIn wsX3_where wsX3_place := goodIn_r _ [14, 15, 16, 17, 18, 19, 5, 20, 21, 26, 27, 28, 29, 30, 31, 32, 33, 34, 35, 36, 37, 38] (by decide +kernel) (by decide +kernel)
set_option maxRecDepth 20000 in
theorem gX3_where_X3_place : GoodIn wsX3_where (wsV RX3 152 RX3 yX3_place wsX3_place) := goodIn_app (goodIn_of _ (by decide +kernel)) ggX3_where_X3_place
set_option maxRecDepth 20000 in
theorem ggX3_where_X3_fail : GoodIn wsX3_where wsX3_fail := goodIn_r _ [25, 1, 26, 27, 28, 29, 30, 31, 32, 33, 34, 35, 36, 37, 38] (by decide +kernel) (by decide +kernel)
set_option maxRecDepth 20000 in
theorem gX3_where_X3_fail : GoodIn wsX3_where (wsV RX3 51 RX3 yX3_fail wsX3_fail) := goodIn_app (goodIn_of _ (by decide +kernel)) ggX3_where_X3_fail
theorem dX3_where_0 : decode cX3_where 0 = .ok (.aload_n 0, 1) := by decide +kernel
theorem dX3_where_1 : decode cX3_where 1 = .ok (.iconst 0, 1) := by decide +kernel
theorem dX3_where_2 : decode cX3_where 2 = .ok (.putfield 33, 3) := by decide +kernel
theorem dX3_where_5 : decode cX3_where 5 = .ok (.aload_n 0, 1) := by decide +kernel
theorem dX3_where_6 : decode cX3_where 6 = .ok (.iload_n 1, 1) := by decide +kernel
theorem dX3_where_7 : decode cX3_where 7 = .ok (.invokevirtual 63, 3) := by decide +kernel
theorem dX3_where_10 : decode cX3_where 10 = .ok (.ifCond .eq 11, 3) := by decide +kernel
theorem dX3_where_13 : decode cX3_where 13 = .ok (.aload_n 0, 1) := by decide +kernel
theorem dX3_where_14 : decode cX3_where 14 = .ok (.iload_n 1, 1) := by decide +kernel
theorem dX3_where_15 : decode cX3_where 15 = .ok (.invokevirtual 152, 3) := by decide +kernel
theorem dX3_where_18 : decode cX3_where 18 = .ok (.goto 8, 3) := by decide +kernel
theorem dX3_where_21 : decode cX3_where 21 = .ok (.aload_n 0, 1) := by decide +kernel
theorem dX3_where_22 : decode cX3_where 22 = .ok (.iconst 1, 1) := by decide +kernel
theorem dX3_where_23 : decode cX3_where 23 = .ok (.invokevirtual 51, 3) := by decide +kernel
theorem dX3_where_26 : decode cX3_where 26 = .ok (.ireturn, 1) := by decide +kernel
set_option maxRecDepth 20000 in
theorem ggX3_moment_X3_momentOf : GoodIn wsX3_moment wsX3_momentOf := goodIn_r _ [6, 7, 8, 9, 10, 11, 5, 12, 13, 14, 15, 16, 17, 18, 19, 20, 21, 22, 23, 24, 25, 26, 27, 28, 29, 30, 31, 32, 33] (by decide +kernel) (by decide +kernel)
set_option maxRecDepth 20000 in
theorem gX3_moment_X3_momentOf : GoodIn wsX3_moment (wsV RX3 114 RX3 yX3_momentOf wsX3_momentOf) := goodIn_app (goodIn_of _ (by decide +kernel)) ggX3_moment_X3_momentOf
theorem dX3_moment_0 : decode cX3_moment 0 = .ok (.aload_n 0, 1) := by decide +kernel
theorem dX3_moment_1 : decode cX3_moment 1 = .ok (.iconst 0, 1) := by decide +kernel
theorem dX3_moment_2 : decode cX3_moment 2 = .ok (.putfield 33, 3) := by decide +kernel
theorem dX3_moment_5 : decode cX3_moment 5 = .ok (.aload_n 0, 1) := by decide +kernel
theorem dX3_moment_6 : decode cX3_moment 6 = .ok (.iload_n 1, 1) := by decide +kernel
theorem dX3_moment_7 : decode cX3_moment 7 = .ok (.invokevirtual 114, 3) := by decide +kernel
theorem dX3_moment_10 : decode cX3_moment 10 = .ok (.ireturn, 1) := by decide +kernel
set_option maxRecDepth 20000 in
theorem ggX3_height_X3_weigh : GoodIn wsX3_height wsX3_weigh := goodIn_r _ [8, 3, 2, 9, 10, 11, 12, 13, 7, 14, 15, 16, 17, 18, 19, 20, 21, 22, 23, 24, 25, 26, 27, 28, 29, 30, 31, 32] (by decide +kernel) (by decide +kernel)
set_option maxRecDepth 20000 in
theorem gX3_height_X3_weigh : GoodIn wsX3_height (wsV RX3 134 RX3 yX3_weigh wsX3_weigh) := goodIn_app (goodIn_of _ (by decide +kernel)) ggX3_height_X3_weigh
theorem dX3_height_0 : decode cX3_height 0 = .ok (.aload_n 0, 1) := by decide +kernel
theorem dX3_height_1 : decode cX3_height 1 = .ok (.iconst 0, 1) := by decide +kernel
theorem dX3_height_2 : decode cX3_height 2 = .ok (.putfield 33, 3) := by decide +kernel
theorem dX3_height_5 : decode cX3_height 5 = .ok (.aload_n 0, 1) := by decide +kernel
theorem dX3_height_6 : decode cX3_height 6 = .ok (.invokevirtual 134, 3) := by decide +kernel
theorem dX3_height_9 : decode cX3_height 9 = .ok (.aload_n 0, 1) := by decide +kernel
theorem dX3_height_10 : decode cX3_height 10 = .ok (.getfield 131, 3) := by decide +kernel
theorem dX3_height_13 : decode cX3_height 13 = .ok (.ifCond .ne 7, 3) := by decide +kernel
theorem dX3_height_16 : decode cX3_height 16 = .ok (.dconst 0, 1) := by decide +kernel
theorem dX3_height_17 : decode cX3_height 17 = .ok (.goto 14, 3) := by decide +kernel
theorem dX3_height_20 : decode cX3_height 20 = .ok (.aload_n 0, 1) := by decide +kernel
theorem dX3_height_21 : decode cX3_height 21 = .ok (.getfield 128, 3) := by decide +kernel
theorem dX3_height_24 : decode cX3_height 24 = .ok (.i2d, 1) := by decide +kernel
theorem dX3_height_25 : decode cX3_height 25 = .ok (.aload_n 0, 1) := by decide +kernel
theorem dX3_height_26 : decode cX3_height 26 = .ok (.getfield 131, 3) := by decide +kernel
theorem dX3_height_29 : decode cX3_height 29 = .ok (.i2d, 1) := by decide +kernel
theorem dX3_height_30 : decode cX3_height 30 = .ok (.ddiv, 1) := by decide +kernel
theorem dX3_height_31 : decode cX3_height 31 = .ok (.dreturn, 1) := by decide +kernel
set_option maxRecDepth 20000 in
theorem ggX3_isSteady_X3_steady : GoodIn wsX3_isSteady wsX3_steady := goodIn_r _ [6, 7, 8, 9, 10, 11, 12, 13, 14, 15, 16, 17, 5, 18, 19, 20, 21, 22, 23, 24, 25, 26, 27, 28, 29, 30, 31, 32, 33, 34, 35, 36, 37, 38, 39, 40, 41, 42, 43, 44, 45, 46, 47, 48, 49, 50] (by decide +kernel) (by decide +kernel)
set_option maxRecDepth 20000 in
theorem gX3_isSteady_X3_steady : GoodIn wsX3_isSteady (wsV RX3 143 RX3 yX3_steady wsX3_steady) := goodIn_app (goodIn_of _ (by decide +kernel)) ggX3_isSteady_X3_steady
theorem dX3_isSteady_0 : decode cX3_isSteady 0 = .ok (.aload_n 0, 1) := by decide +kernel
theorem dX3_isSteady_1 : decode cX3_isSteady 1 = .ok (.iconst 0, 1) := by decide +kernel
theorem dX3_isSteady_2 : decode cX3_isSteady 2 = .ok (.putfield 33, 3) := by decide +kernel
theorem dX3_isSteady_5 : decode cX3_isSteady 5 = .ok (.aload_n 0, 1) := by decide +kernel
theorem dX3_isSteady_6 : decode cX3_isSteady 6 = .ok (.invokevirtual 143, 3) := by decide +kernel
theorem dX3_isSteady_9 : decode cX3_isSteady 9 = .ok (.ireturn, 1) := by decide +kernel
set_option maxRecDepth 20000 in
theorem ggX3_count_X3_state : GoodIn wsX3_count wsX3_state := goodIn_r _ [9, 3, 10, 11, 12, 13, 14, 15, 16, 17, 18, 19, 20, 21, 22] (by decide +kernel) (by decide +kernel)
set_option maxRecDepth 20000 in
theorem gX3_count_X3_state : GoodIn wsX3_count (wsV RX3 43 RX3 yX3_state wsX3_state) := goodIn_app (goodIn_of _ (by decide +kernel)) ggX3_count_X3_state
theorem dX3_count_0 : decode cX3_count 0 = .ok (.aload_n 0, 1) := by decide +kernel
theorem dX3_count_1 : decode cX3_count 1 = .ok (.iconst 0, 1) := by decide +kernel
theorem dX3_count_2 : decode cX3_count 2 = .ok (.putfield 33, 3) := by decide +kernel
theorem dX3_count_5 : decode cX3_count 5 = .ok (.iconst 0, 1) := by decide +kernel
theorem dX3_count_6 : decode cX3_count 6 = .ok (.istore_n 2, 1) := by decide +kernel
theorem dX3_count_7 : decode cX3_count 7 = .ok (.iconst 0, 1) := by decide +kernel
theorem dX3_count_8 : decode cX3_count 8 = .ok (.istore_n 3, 1) := by decide +kernel
theorem dX3_count_9 : decode cX3_count 9 = .ok (.iload_n 3, 1) := by decide +kernel
theorem dX3_count_10 : decode cX3_count 10 = .ok (.aload_n 0, 1) := by decide +kernel
theorem dX3_count_11 : decode cX3_count 11 = .ok (.getfield 36, 3) := by decide +kernel
theorem dX3_count_14 : decode cX3_count 14 = .ok (.if_icmp .ge 63, 3) := by decide +kernel
theorem dX3_count_17 : decode cX3_count 17 = .ok (.iload_n 2, 1) := by decide +kernel
theorem dX3_count_18 : decode cX3_count 18 = .ok (.iload_n 1, 1) := by decide +kernel
theorem dX3_count_19 : decode cX3_count 19 = .ok (.ifCond .eq 36, 3) := by decide +kernel
theorem dX3_count_22 : decode cX3_count 22 = .ok (.aload_n 0, 1) := by decide +kernel
theorem dX3_count_23 : decode cX3_count 23 = .ok (.iload_n 3, 1) := by decide +kernel
theorem dX3_count_24 : decode cX3_count 24 = .ok (.invokevirtual 43, 3) := by decide +kernel
theorem dX3_count_27 : decode cX3_count 27 = .ok (.ifCond .ne 24, 3) := by decide +kernel
theorem dX3_count_30 : decode cX3_count 30 = .ok (.aload_n 0, 1) := by decide +kernel
theorem dX3_count_31 : decode cX3_count 31 = .ok (.getfield 9, 3) := by decide +kernel
theorem dX3_count_34 : decode cX3_count 34 = .ok (.iconst 5, 1) := by decide +kernel
theorem dX3_count_35 : decode cX3_count 35 = .ok (.iload_n 3, 1) := by decide +kernel
theorem dX3_count_36 : decode cX3_count 36 = .ok (.imul, 1) := by decide +kernel
theorem dX3_count_37 : decode cX3_count 37 = .ok (.iconst 1, 1) := by decide +kernel
theorem dX3_count_38 : decode cX3_count 38 = .ok (.iadd, 1) := by decide +kernel
theorem dX3_count_39 : decode cX3_count 39 = .ok (.iaload, 1) := by decide +kernel
theorem dX3_count_40 : decode cX3_count 40 = .ok (.aload_n 0, 1) := by decide +kernel
theorem dX3_count_41 : decode cX3_count 41 = .ok (.getfield 54, 3) := by decide +kernel
theorem dX3_count_44 : decode cX3_count 44 = .ok (.if_icmp .ne 7, 3) := by decide +kernel
theorem dX3_count_47 : decode cX3_count 47 = .ok (.iconst 1, 1) := by decide +kernel
theorem dX3_count_48 : decode cX3_count 48 = .ok (.goto 21, 3) := by decide +kernel
theorem dX3_count_51 : decode cX3_count 51 = .ok (.iconst 0, 1) := by decide +kernel
theorem dX3_count_52 : decode cX3_count 52 = .ok (.goto 17, 3) := by decide +kernel
theorem dX3_count_55 : decode cX3_count 55 = .ok (.aload_n 0, 1) := by decide +kernel
theorem dX3_count_56 : decode cX3_count 56 = .ok (.iload_n 3, 1) := by decide +kernel
theorem dX3_count_57 : decode cX3_count 57 = .ok (.invokevirtual 43, 3) := by decide +kernel
theorem dX3_count_60 : decode cX3_count 60 = .ok (.iconst 1, 1) := by decide +kernel
theorem dX3_count_61 : decode cX3_count 61 = .ok (.if_icmp .ne 7, 3) := by decide +kernel
theorem dX3_count_64 : decode cX3_count 64 = .ok (.iconst 1, 1) := by decide +kernel
theorem dX3_count_65 : decode cX3_count 65 = .ok (.goto 4, 3) := by decide +kernel
theorem dX3_count_68 : decode cX3_count 68 = .ok (.iconst 0, 1) := by decide +kernel
theorem dX3_count_69 : decode cX3_count 69 = .ok (.iadd, 1) := by decide +kernel
theorem dX3_count_70 : decode cX3_count 70 = .ok (.istore_n 2, 1) := by decide +kernel
theorem dX3_count_71 : decode cX3_count 71 = .ok (.iinc 3 1, 3) := by decide +kernel
theorem dX3_count_74 : decode cX3_count 74 = .ok (.goto (-65), 3) := by decide +kernel
theorem dX3_count_77 : decode cX3_count 77 = .ok (.iload_n 2, 1) := by decide +kernel
theorem dX3_count_78 : decode cX3_count 78 = .ok (.ireturn, 1) := by decide +kernel
set_option maxRecDepth 20000 in
theorem ggX3_weight_X3_isIn : GoodIn wsX3_weight wsX3_isIn := goodIn_r _ [5] (by decide +kernel) (by decide +kernel)
set_option maxRecDepth 20000 in
theorem gX3_weight_X3_isIn : GoodIn wsX3_weight (va_wsS RX3 39 yX3_isIn wsX3_isIn) := goodIn_app (goodIn_of _ (by decide +kernel)) ggX3_weight_X3_isIn
set_option maxRecDepth 20000 in
theorem ggX3_weight_X3_fail : GoodIn wsX3_weight wsX3_fail := goodIn_r _ [9, 1, 32, 33, 34, 35, 36, 37, 38, 39, 40, 41, 42, 43, 44] (by decide +kernel) (by decide +kernel)
set_option maxRecDepth 20000 in
theorem gX3_weight_X3_fail : GoodIn wsX3_weight (wsV RX3 51 RX3 yX3_fail wsX3_fail) := goodIn_app (goodIn_of _ (by decide +kernel)) ggX3_weight_X3_fail
set_option maxRecDepth 20000 in
theorem ggX3_weight_X3_stack : GoodIn wsX3_weight wsX3_stack := goodIn_r _ [12] (by decide +kernel) (by decide +kernel)
set_option maxRecDepth 20000 in
theorem gX3_weight_X3_stack : GoodIn wsX3_weight (va_wsS RX3 70 yX3_stack wsX3_stack) := goodIn_app (goodIn_of _ (by decide +kernel)) ggX3_weight_X3_stack
set_option maxRecDepth 20000 in
theorem ggX3_weight_X3_weightOf : GoodIn wsX3_weight wsX3_weightOf := goodIn_r _ [16, 17, 18, 19, 20, 4, 21, 22, 23, 24, 25, 26, 27, 28, 29, 30, 31, 32, 33, 34, 35, 36, 37, 38, 39, 40, 41, 42, 43, 44] (by decide +kernel) (by decide +kernel)
set_option maxRecDepth 20000 in
theorem gX3_weight_X3_weightOf : GoodIn wsX3_weight (wsV RX3 88 RX3 yX3_weightOf wsX3_weightOf) := goodIn_app (goodIn_of _ (by decide +kernel)) ggX3_weight_X3_weightOf
theorem dX3_weight_0 : decode cX3_weight 0 = .ok (.aload_n 0, 1) := by decide +kernel
theorem dX3_weight_1 : decode cX3_weight 1 = .ok (.iconst 0, 1) := by decide +kernel
theorem dX3_weight_2 : decode cX3_weight 2 = .ok (.putfield 33, 3) := by decide +kernel
theorem dX3_weight_5 : decode cX3_weight 5 = .ok (.iload_n 1, 1) := by decide +kernel
theorem dX3_weight_6 : decode cX3_weight 6 = .ok (.iconst 0, 1) := by decide +kernel
theorem dX3_weight_7 : decode cX3_weight 7 = .ok (.iconst 5, 1) := by decide +kernel
theorem dX3_weight_8 : decode cX3_weight 8 = .ok (.invokestatic 39, 3) := by decide +kernel
theorem dX3_weight_11 : decode cX3_weight 11 = .ok (.ifCond .ne 9, 3) := by decide +kernel
theorem dX3_weight_14 : decode cX3_weight 14 = .ok (.aload_n 0, 1) := by decide +kernel
theorem dX3_weight_15 : decode cX3_weight 15 = .ok (.iconst 1, 1) := by decide +kernel
theorem dX3_weight_16 : decode cX3_weight 16 = .ok (.invokevirtual 51, 3) := by decide +kernel
theorem dX3_weight_19 : decode cX3_weight 19 = .ok (.ireturn, 1) := by decide +kernel
theorem dX3_weight_20 : decode cX3_weight 20 = .ok (.iconst 0, 1) := by decide +kernel
theorem dX3_weight_21 : decode cX3_weight 21 = .ok (.istore_n 2, 1) := by decide +kernel
theorem dX3_weight_22 : decode cX3_weight 22 = .ok (.iconst 0, 1) := by decide +kernel
theorem dX3_weight_23 : decode cX3_weight 23 = .ok (.istore_n 3, 1) := by decide +kernel
theorem dX3_weight_24 : decode cX3_weight 24 = .ok (.iload_n 3, 1) := by decide +kernel
theorem dX3_weight_25 : decode cX3_weight 25 = .ok (.iconst 5, 1) := by decide +kernel
theorem dX3_weight_26 : decode cX3_weight 26 = .ok (.if_icmp .ge 21, 3) := by decide +kernel
theorem dX3_weight_29 : decode cX3_weight 29 = .ok (.iload_n 2, 1) := by decide +kernel
theorem dX3_weight_30 : decode cX3_weight 30 = .ok (.aload_n 0, 1) := by decide +kernel
theorem dX3_weight_31 : decode cX3_weight 31 = .ok (.iload_n 1, 1) := by decide +kernel
theorem dX3_weight_32 : decode cX3_weight 32 = .ok (.iload_n 3, 1) := by decide +kernel
theorem dX3_weight_33 : decode cX3_weight 33 = .ok (.invokestatic 70, 3) := by decide +kernel
theorem dX3_weight_36 : decode cX3_weight 36 = .ok (.invokevirtual 88, 3) := by decide +kernel
theorem dX3_weight_39 : decode cX3_weight 39 = .ok (.iadd, 1) := by decide +kernel
theorem dX3_weight_40 : decode cX3_weight 40 = .ok (.istore_n 2, 1) := by decide +kernel
theorem dX3_weight_41 : decode cX3_weight 41 = .ok (.iinc 3 1, 3) := by decide +kernel
theorem dX3_weight_44 : decode cX3_weight 44 = .ok (.goto (-20), 3) := by decide +kernel
theorem dX3_weight_47 : decode cX3_weight 47 = .ok (.iload_n 2, 1) := by decide +kernel
theorem dX3_weight_48 : decode cX3_weight 48 = .ok (.ireturn, 1) := by decide +kernel
set_option maxRecDepth 20000 in
theorem ggX3_isBlocked_X3_isOn : GoodIn wsX3_isBlocked wsX3_isOn := goodIn_r _ [8, 2, 9, 10, 11, 7, 12, 13, 18, 19, 20, 21, 22, 23, 24, 25, 26, 27, 28, 29, 30] (by decide +kernel) (by decide +kernel)
set_option maxRecDepth 20000 in
theorem gX3_isBlocked_X3_isOn : GoodIn wsX3_isBlocked (wsV RX3 47 RX3 yX3_isOn wsX3_isOn) := goodIn_app (goodIn_of _ (by decide +kernel)) ggX3_isBlocked_X3_isOn
set_option maxRecDepth 20000 in
theorem ggX3_isBlocked_X3_to : GoodIn wsX3_isBlocked wsX3_to := goodIn_r _ [17, 13, 18, 19, 20, 21, 22, 23, 24, 25, 26, 27, 28, 29, 30] (by decide +kernel) (by decide +kernel)
set_option maxRecDepth 20000 in
theorem gX3_isBlocked_X3_to : GoodIn wsX3_isBlocked (wsV RX3 108 RX3 yX3_to wsX3_to) := goodIn_app (goodIn_of _ (by decide +kernel)) ggX3_isBlocked_X3_to
theorem dX3_isBlocked_0 : decode cX3_isBlocked 0 = .ok (.iconst 0, 1) := by decide +kernel
theorem dX3_isBlocked_1 : decode cX3_isBlocked 1 = .ok (.istore_n 2, 1) := by decide +kernel
theorem dX3_isBlocked_2 : decode cX3_isBlocked 2 = .ok (.iconst 0, 1) := by decide +kernel
theorem dX3_isBlocked_3 : decode cX3_isBlocked 3 = .ok (.istore_n 3, 1) := by decide +kernel
theorem dX3_isBlocked_4 : decode cX3_isBlocked 4 = .ok (.iload_n 3, 1) := by decide +kernel
theorem dX3_isBlocked_5 : decode cX3_isBlocked 5 = .ok (.aload_n 0, 1) := by decide +kernel
theorem dX3_isBlocked_6 : decode cX3_isBlocked 6 = .ok (.getfield 36, 3) := by decide +kernel
theorem dX3_isBlocked_9 : decode cX3_isBlocked 9 = .ok (.if_icmp .ge 61, 3) := by decide +kernel
theorem dX3_isBlocked_12 : decode cX3_isBlocked 12 = .ok (.iload_n 2, 1) := by decide +kernel
theorem dX3_isBlocked_13 : decode cX3_isBlocked 13 = .ok (.ifCond .ne 45, 3) := by decide +kernel
theorem dX3_isBlocked_16 : decode cX3_isBlocked 16 = .ok (.aload_n 0, 1) := by decide +kernel
theorem dX3_isBlocked_17 : decode cX3_isBlocked 17 = .ok (.iload_n 3, 1) := by decide +kernel
theorem dX3_isBlocked_18 : decode cX3_isBlocked 18 = .ok (.aload_n 0, 1) := by decide +kernel
theorem dX3_isBlocked_19 : decode cX3_isBlocked 19 = .ok (.getfield 13, 3) := by decide +kernel
theorem dX3_isBlocked_22 : decode cX3_isBlocked 22 = .ok (.iload_n 1, 1) := by decide +kernel
theorem dX3_isBlocked_23 : decode cX3_isBlocked 23 = .ok (.iaload, 1) := by decide +kernel
theorem dX3_isBlocked_24 : decode cX3_isBlocked 24 = .ok (.invokevirtual 47, 3) := by decide +kernel
theorem dX3_isBlocked_27 : decode cX3_isBlocked 27 = .ok (.ifCond .eq 35, 3) := by decide +kernel
theorem dX3_isBlocked_30 : decode cX3_isBlocked 30 = .ok (.aload_n 0, 1) := by decide +kernel
theorem dX3_isBlocked_31 : decode cX3_isBlocked 31 = .ok (.getfield 16, 3) := by decide +kernel
theorem dX3_isBlocked_34 : decode cX3_isBlocked 34 = .ok (.iload_n 3, 1) := by decide +kernel
theorem dX3_isBlocked_35 : decode cX3_isBlocked 35 = .ok (.iaload, 1) := by decide +kernel
theorem dX3_isBlocked_36 : decode cX3_isBlocked 36 = .ok (.aload_n 0, 1) := by decide +kernel
theorem dX3_isBlocked_37 : decode cX3_isBlocked 37 = .ok (.getfield 16, 3) := by decide +kernel
theorem dX3_isBlocked_40 : decode cX3_isBlocked 40 = .ok (.iload_n 1, 1) := by decide +kernel
theorem dX3_isBlocked_41 : decode cX3_isBlocked 41 = .ok (.iaload, 1) := by decide +kernel
theorem dX3_isBlocked_42 : decode cX3_isBlocked 42 = .ok (.if_icmp .le 20, 3) := by decide +kernel
theorem dX3_isBlocked_45 : decode cX3_isBlocked 45 = .ok (.aload_n 0, 1) := by decide +kernel
theorem dX3_isBlocked_46 : decode cX3_isBlocked 46 = .ok (.iload_n 3, 1) := by decide +kernel
theorem dX3_isBlocked_47 : decode cX3_isBlocked 47 = .ok (.invokevirtual 108, 3) := by decide +kernel
theorem dX3_isBlocked_50 : decode cX3_isBlocked 50 = .ok (.aload_n 0, 1) := by decide +kernel
theorem dX3_isBlocked_51 : decode cX3_isBlocked 51 = .ok (.iload_n 1, 1) := by decide +kernel
theorem dX3_isBlocked_52 : decode cX3_isBlocked 52 = .ok (.invokevirtual 108, 3) := by decide +kernel
theorem dX3_isBlocked_55 : decode cX3_isBlocked 55 = .ok (.if_icmp .le 7, 3) := by decide +kernel
theorem dX3_isBlocked_58 : decode cX3_isBlocked 58 = .ok (.iconst 1, 1) := by decide +kernel
theorem dX3_isBlocked_59 : decode cX3_isBlocked 59 = .ok (.goto 4, 3) := by decide +kernel
theorem dX3_isBlocked_62 : decode cX3_isBlocked 62 = .ok (.iconst 0, 1) := by decide +kernel
theorem dX3_isBlocked_63 : decode cX3_isBlocked 63 = .ok (.istore_n 2, 1) := by decide +kernel
theorem dX3_isBlocked_64 : decode cX3_isBlocked 64 = .ok (.iinc 3 1, 3) := by decide +kernel
theorem dX3_isBlocked_67 : decode cX3_isBlocked 67 = .ok (.goto (-63), 3) := by decide +kernel
theorem dX3_isBlocked_70 : decode cX3_isBlocked 70 = .ok (.iload_n 2, 1) := by decide +kernel
theorem dX3_isBlocked_71 : decode cX3_isBlocked 71 = .ok (.ireturn, 1) := by decide +kernel
set_option maxRecDepth 20000 in
theorem ggX3_blocked_X3_state : GoodIn wsX3_blocked wsX3_state := goodIn_r _ [7, 8, 23, 24, 25, 26, 27, 28, 29, 30, 31, 32, 33, 34, 35] (by decide +kernel) (by decide +kernel)
set_option maxRecDepth 20000 in
theorem gX3_blocked_X3_state : GoodIn wsX3_blocked (wsV RX3 43 RX3 yX3_state wsX3_state) := goodIn_app (goodIn_of _ (by decide +kernel)) ggX3_blocked_X3_state
set_option maxRecDepth 20000 in
theorem ggX3_blocked_X3_isBlocked : GoodIn wsX3_blocked wsX3_isBlocked := goodIn_r _ [12, 2, 13, 14, 15, 16, 17, 6, 18, 3, 4, 5, 7, 8, 19, 20, 21, 22, 23, 24, 25, 26, 27, 28, 29, 30, 31, 32, 33, 34, 35] (by decide +kernel) (by decide +kernel)
set_option maxRecDepth 20000 in
theorem gX3_blocked_X3_isBlocked : GoodIn wsX3_blocked (wsV RX3 155 RX3 yX3_isBlocked wsX3_isBlocked) := goodIn_app (goodIn_of _ (by decide +kernel)) ggX3_blocked_X3_isBlocked
theorem dX3_blocked_0 : decode cX3_blocked 0 = .ok (.aload_n 0, 1) := by decide +kernel
theorem dX3_blocked_1 : decode cX3_blocked 1 = .ok (.iconst 0, 1) := by decide +kernel
theorem dX3_blocked_2 : decode cX3_blocked 2 = .ok (.putfield 33, 3) := by decide +kernel
theorem dX3_blocked_5 : decode cX3_blocked 5 = .ok (.iconst 0, 1) := by decide +kernel
theorem dX3_blocked_6 : decode cX3_blocked 6 = .ok (.istore_n 1, 1) := by decide +kernel
theorem dX3_blocked_7 : decode cX3_blocked 7 = .ok (.iconst 0, 1) := by decide +kernel
theorem dX3_blocked_8 : decode cX3_blocked 8 = .ok (.istore_n 2, 1) := by decide +kernel
theorem dX3_blocked_9 : decode cX3_blocked 9 = .ok (.iload_n 2, 1) := by decide +kernel
theorem dX3_blocked_10 : decode cX3_blocked 10 = .ok (.aload_n 0, 1) := by decide +kernel
theorem dX3_blocked_11 : decode cX3_blocked 11 = .ok (.getfield 36, 3) := by decide +kernel
theorem dX3_blocked_14 : decode cX3_blocked 14 = .ok (.if_icmp .ge 34, 3) := by decide +kernel
theorem dX3_blocked_17 : decode cX3_blocked 17 = .ok (.iload_n 1, 1) := by decide +kernel
theorem dX3_blocked_18 : decode cX3_blocked 18 = .ok (.aload_n 0, 1) := by decide +kernel
theorem dX3_blocked_19 : decode cX3_blocked 19 = .ok (.iload_n 2, 1) := by decide +kernel
theorem dX3_blocked_20 : decode cX3_blocked 20 = .ok (.invokevirtual 43, 3) := by decide +kernel
theorem dX3_blocked_23 : decode cX3_blocked 23 = .ok (.iconst 1, 1) := by decide +kernel
theorem dX3_blocked_24 : decode cX3_blocked 24 = .ok (.if_icmp .ne 15, 3) := by decide +kernel
theorem dX3_blocked_27 : decode cX3_blocked 27 = .ok (.aload_n 0, 1) := by decide +kernel
theorem dX3_blocked_28 : decode cX3_blocked 28 = .ok (.iload_n 2, 1) := by decide +kernel
theorem dX3_blocked_29 : decode cX3_blocked 29 = .ok (.invokevirtual 155, 3) := by decide +kernel
theorem dX3_blocked_32 : decode cX3_blocked 32 = .ok (.ifCond .eq 7, 3) := by decide +kernel
theorem dX3_blocked_35 : decode cX3_blocked 35 = .ok (.iconst 1, 1) := by decide +kernel
theorem dX3_blocked_36 : decode cX3_blocked 36 = .ok (.goto 4, 3) := by decide +kernel
theorem dX3_blocked_39 : decode cX3_blocked 39 = .ok (.iconst 0, 1) := by decide +kernel
theorem dX3_blocked_40 : decode cX3_blocked 40 = .ok (.iadd, 1) := by decide +kernel
theorem dX3_blocked_41 : decode cX3_blocked 41 = .ok (.istore_n 1, 1) := by decide +kernel
theorem dX3_blocked_42 : decode cX3_blocked 42 = .ok (.iinc 2 1, 3) := by decide +kernel
theorem dX3_blocked_45 : decode cX3_blocked 45 = .ok (.goto (-36), 3) := by decide +kernel
theorem dX3_blocked_48 : decode cX3_blocked 48 = .ok (.iload_n 1, 1) := by decide +kernel
theorem dX3_blocked_49 : decode cX3_blocked 49 = .ok (.ireturn, 1) := by decide +kernel
set_option maxRecDepth 20000 in
theorem ggX3_lifts_X3_isIn : GoodIn wsX3_lifts wsX3_isIn := goodIn_r _ [5] (by decide +kernel) (by decide +kernel)
set_option maxRecDepth 20000 in
theorem gX3_lifts_X3_isIn : GoodIn wsX3_lifts (va_wsS RX3 39 yX3_isIn wsX3_isIn) := goodIn_app (goodIn_of _ (by decide +kernel)) ggX3_lifts_X3_isIn
set_option maxRecDepth 20000 in
theorem ggX3_lifts_X3_liftsAt : GoodIn wsX3_lifts wsX3_liftsAt := goodIn_r _ [9, 10, 11, 12, 13, 14, 15, 4, 16, 17, 18, 19, 20, 21, 22, 23, 24, 25, 26, 27, 28, 29, 30, 31, 32, 33, 38, 39, 40, 41, 42, 43, 44, 45, 46, 47, 48, 49, 50] (by decide +kernel) (by decide +kernel)
set_option maxRecDepth 20000 in
theorem gX3_lifts_X3_liftsAt : GoodIn wsX3_lifts (wsV RX3 146 RX3 yX3_liftsAt wsX3_liftsAt) := goodIn_app (goodIn_of _ (by decide +kernel)) ggX3_lifts_X3_liftsAt
set_option maxRecDepth 20000 in
theorem ggX3_lifts_X3_fail : GoodIn wsX3_lifts wsX3_fail := goodIn_r _ [37, 1, 38, 39, 40, 41, 42, 43, 44, 45, 46, 47, 48, 49, 50] (by decide +kernel) (by decide +kernel)
set_option maxRecDepth 20000 in
theorem gX3_lifts_X3_fail : GoodIn wsX3_lifts (wsV RX3 51 RX3 yX3_fail wsX3_fail) := goodIn_app (goodIn_of _ (by decide +kernel)) ggX3_lifts_X3_fail
theorem dX3_lifts_0 : decode cX3_lifts 0 = .ok (.aload_n 0, 1) := by decide +kernel
theorem dX3_lifts_1 : decode cX3_lifts 1 = .ok (.iconst 0, 1) := by decide +kernel
theorem dX3_lifts_2 : decode cX3_lifts 2 = .ok (.putfield 33, 3) := by decide +kernel
theorem dX3_lifts_5 : decode cX3_lifts 5 = .ok (.iload_n 1, 1) := by decide +kernel
theorem dX3_lifts_6 : decode cX3_lifts 6 = .ok (.iconst 0, 1) := by decide +kernel
theorem dX3_lifts_7 : decode cX3_lifts 7 = .ok (.iconst 5, 1) := by decide +kernel
theorem dX3_lifts_8 : decode cX3_lifts 8 = .ok (.invokestatic 39, 3) := by decide +kernel
theorem dX3_lifts_11 : decode cX3_lifts 11 = .ok (.ifCond .eq 11, 3) := by decide +kernel
theorem dX3_lifts_14 : decode cX3_lifts 14 = .ok (.aload_n 0, 1) := by decide +kernel
theorem dX3_lifts_15 : decode cX3_lifts 15 = .ok (.iload_n 1, 1) := by decide +kernel
theorem dX3_lifts_16 : decode cX3_lifts 16 = .ok (.invokevirtual 146, 3) := by decide +kernel
theorem dX3_lifts_19 : decode cX3_lifts 19 = .ok (.goto 8, 3) := by decide +kernel
theorem dX3_lifts_22 : decode cX3_lifts 22 = .ok (.aload_n 0, 1) := by decide +kernel
theorem dX3_lifts_23 : decode cX3_lifts 23 = .ok (.iconst 1, 1) := by decide +kernel
theorem dX3_lifts_24 : decode cX3_lifts 24 = .ok (.invokevirtual 51, 3) := by decide +kernel
theorem dX3_lifts_27 : decode cX3_lifts 27 = .ok (.ireturn, 1) := by decide +kernel
set_option maxRecDepth 20000 in
theorem ggX3_freePlugs_X3_high : GoodIn wsX3_freePlugs wsX3_high := goodIn_r _ [11, 12, 13, 14, 15, 10, 16, 17, 18, 19, 20, 21, 22, 23, 24, 25, 26, 27, 28, 29, 30, 31, 32, 33, 34, 35] (by decide +kernel) (by decide +kernel)
set_option maxRecDepth 20000 in
theorem gX3_freePlugs_X3_high : GoodIn wsX3_freePlugs (wsV RX3 85 RX3 yX3_high wsX3_high) := goodIn_app (goodIn_of _ (by decide +kernel)) ggX3_freePlugs_X3_high
theorem dX3_freePlugs_0 : decode cX3_freePlugs 0 = .ok (.aload_n 0, 1) := by decide +kernel
theorem dX3_freePlugs_1 : decode cX3_freePlugs 1 = .ok (.iconst 0, 1) := by decide +kernel
theorem dX3_freePlugs_2 : decode cX3_freePlugs 2 = .ok (.putfield 33, 3) := by decide +kernel
theorem dX3_freePlugs_5 : decode cX3_freePlugs 5 = .ok (.iconst 0, 1) := by decide +kernel
theorem dX3_freePlugs_6 : decode cX3_freePlugs 6 = .ok (.istore_n 1, 1) := by decide +kernel
theorem dX3_freePlugs_7 : decode cX3_freePlugs 7 = .ok (.iconst 0, 1) := by decide +kernel
theorem dX3_freePlugs_8 : decode cX3_freePlugs 8 = .ok (.istore_n 2, 1) := by decide +kernel
theorem dX3_freePlugs_9 : decode cX3_freePlugs 9 = .ok (.iload_n 2, 1) := by decide +kernel
theorem dX3_freePlugs_10 : decode cX3_freePlugs 10 = .ok (.bipush 30, 2) := by decide +kernel
theorem dX3_freePlugs_12 : decode cX3_freePlugs 12 = .ok (.if_icmp .ge 36, 3) := by decide +kernel
theorem dX3_freePlugs_15 : decode cX3_freePlugs 15 = .ok (.iload_n 1, 1) := by decide +kernel
theorem dX3_freePlugs_16 : decode cX3_freePlugs 16 = .ok (.aload_n 0, 1) := by decide +kernel
theorem dX3_freePlugs_17 : decode cX3_freePlugs 17 = .ok (.getfield 19, 3) := by decide +kernel
theorem dX3_freePlugs_20 : decode cX3_freePlugs 20 = .ok (.iload_n 2, 1) := by decide +kernel
theorem dX3_freePlugs_21 : decode cX3_freePlugs 21 = .ok (.baload, 1) := by decide +kernel
theorem dX3_freePlugs_22 : decode cX3_freePlugs 22 = .ok (.ifCond .eq 17, 3) := by decide +kernel
theorem dX3_freePlugs_25 : decode cX3_freePlugs 25 = .ok (.iconst 0, 1) := by decide +kernel
theorem dX3_freePlugs_26 : decode cX3_freePlugs 26 = .ok (.iconst 2, 1) := by decide +kernel
theorem dX3_freePlugs_27 : decode cX3_freePlugs 27 = .ok (.aload_n 0, 1) := by decide +kernel
theorem dX3_freePlugs_28 : decode cX3_freePlugs 28 = .ok (.iload_n 2, 1) := by decide +kernel
theorem dX3_freePlugs_29 : decode cX3_freePlugs 29 = .ok (.invokevirtual 85, 3) := by decide +kernel
theorem dX3_freePlugs_32 : decode cX3_freePlugs 32 = .ok (.isub, 1) := by decide +kernel
theorem dX3_freePlugs_33 : decode cX3_freePlugs 33 = .ok (.invokestatic 158, 3) := by decide +kernel
theorem dX3_freePlugs_36 : decode cX3_freePlugs 36 = .ok (.goto 4, 3) := by decide +kernel
theorem dX3_freePlugs_39 : decode cX3_freePlugs 39 = .ok (.iconst 0, 1) := by decide +kernel
theorem dX3_freePlugs_40 : decode cX3_freePlugs 40 = .ok (.iadd, 1) := by decide +kernel
theorem dX3_freePlugs_41 : decode cX3_freePlugs 41 = .ok (.istore_n 1, 1) := by decide +kernel
theorem dX3_freePlugs_42 : decode cX3_freePlugs 42 = .ok (.iinc 2 1, 3) := by decide +kernel
theorem dX3_freePlugs_45 : decode cX3_freePlugs 45 = .ok (.goto (-36), 3) := by decide +kernel
theorem dX3_freePlugs_48 : decode cX3_freePlugs 48 = .ok (.iload_n 1, 1) := by decide +kernel
theorem dX3_freePlugs_49 : decode cX3_freePlugs 49 = .ok (.ireturn, 1) := by decide +kernel
set_option maxRecDepth 20000 in
theorem ggX3_choices_X3_isContainer : GoodIn wsX3_choices wsX3_isContainer := goodIn_r _ [6, 7, 8, 9, 5, 10, 59, 60, 61, 62, 63, 64, 65, 66, 67, 68, 69, 70, 71] (by decide +kernel) (by decide +kernel)
set_option maxRecDepth 20000 in
theorem gX3_choices_X3_isContainer : GoodIn wsX3_choices (wsV RX3 63 RX3 yX3_isContainer wsX3_isContainer) := goodIn_app (goodIn_of _ (by decide +kernel)) ggX3_choices_X3_isContainer
set_option maxRecDepth 20000 in
theorem ggX3_choices_X3_choicesOf : GoodIn wsX3_choices wsX3_choicesOf := goodIn_r _ [14, 15, 16, 17, 5, 18, 19, 20, 21, 22, 7, 23, 24, 25, 26, 27, 28, 29, 30, 31, 32, 33, 34, 35, 36, 37, 38, 39, 40, 41, 42, 43, 44, 45, 46, 47, 48, 49, 50, 51, 52, 53, 54, 59, 60, 61, 62, 63, 64, 65, 66, 67, 68, 69, 70, 71] (by decide +kernel) (by decide +kernel)
set_option maxRecDepth 20000 in
theorem gX3_choices_X3_choicesOf : GoodIn wsX3_choices (wsV RX3 118 RX3 yX3_choicesOf wsX3_choicesOf) := goodIn_app (goodIn_of _ (by decide +kernel)) ggX3_choices_X3_choicesOf
set_option maxRecDepth 20000 in
theorem ggX3_choices_X3_fail : GoodIn wsX3_choices wsX3_fail := goodIn_r _ [58, 1, 59, 60, 61, 62, 63, 64, 65, 66, 67, 68, 69, 70, 71] (by decide +kernel) (by decide +kernel)
set_option maxRecDepth 20000 in
theorem gX3_choices_X3_fail : GoodIn wsX3_choices (wsV RX3 51 RX3 yX3_fail wsX3_fail) := goodIn_app (goodIn_of _ (by decide +kernel)) ggX3_choices_X3_fail
theorem dX3_choices_0 : decode cX3_choices 0 = .ok (.aload_n 0, 1) := by decide +kernel
theorem dX3_choices_1 : decode cX3_choices 1 = .ok (.iconst 0, 1) := by decide +kernel
theorem dX3_choices_2 : decode cX3_choices 2 = .ok (.putfield 33, 3) := by decide +kernel
theorem dX3_choices_5 : decode cX3_choices 5 = .ok (.aload_n 0, 1) := by decide +kernel
theorem dX3_choices_6 : decode cX3_choices 6 = .ok (.iload_n 1, 1) := by decide +kernel
theorem dX3_choices_7 : decode cX3_choices 7 = .ok (.invokevirtual 63, 3) := by decide +kernel
theorem dX3_choices_10 : decode cX3_choices 10 = .ok (.ifCond .eq 11, 3) := by decide +kernel
theorem dX3_choices_13 : decode cX3_choices 13 = .ok (.aload_n 0, 1) := by decide +kernel
theorem dX3_choices_14 : decode cX3_choices 14 = .ok (.iload_n 1, 1) := by decide +kernel
theorem dX3_choices_15 : decode cX3_choices 15 = .ok (.invokevirtual 118, 3) := by decide +kernel
theorem dX3_choices_18 : decode cX3_choices 18 = .ok (.goto 8, 3) := by decide +kernel
theorem dX3_choices_21 : decode cX3_choices 21 = .ok (.aload_n 0, 1) := by decide +kernel
theorem dX3_choices_22 : decode cX3_choices 22 = .ok (.iconst 1, 1) := by decide +kernel
theorem dX3_choices_23 : decode cX3_choices 23 = .ok (.invokevirtual 51, 3) := by decide +kernel
theorem dX3_choices_26 : decode cX3_choices 26 = .ok (.ireturn, 1) := by decide +kernel
theorem dX3_lifted_0 : decode cX3_lifted 0 = .ok (.aload_n 0, 1) := by decide +kernel
theorem dX3_lifted_1 : decode cX3_lifted 1 = .ok (.iconst 0, 1) := by decide +kernel
theorem dX3_lifted_2 : decode cX3_lifted 2 = .ok (.putfield 33, 3) := by decide +kernel
theorem dX3_lifted_5 : decode cX3_lifted 5 = .ok (.aload_n 0, 1) := by decide +kernel
theorem dX3_lifted_6 : decode cX3_lifted 6 = .ok (.getfield 149, 3) := by decide +kernel
theorem dX3_lifted_9 : decode cX3_lifted 9 = .ok (.ireturn, 1) := by decide +kernel
set_option maxRecDepth 20000 in
theorem ggX3_digest_X3_place : GoodIn wsX3_digest wsX3_place := goodIn_r _ [16, 17, 18, 19, 20, 21, 15, 22, 6, 34, 35, 36, 37, 38, 39, 40, 41, 42, 43, 44, 45, 46] (by decide +kernel) (by decide +kernel)
set_option maxRecDepth 20000 in
theorem gX3_digest_X3_place : GoodIn wsX3_digest (wsV RX3 152 RX3 yX3_place wsX3_place) := goodIn_app (goodIn_of _ (by decide +kernel)) ggX3_digest_X3_place
set_option maxRecDepth 20000 in
theorem ggX3_digest_X3_momentOf : GoodIn wsX3_digest wsX3_momentOf := goodIn_r _ [26, 5, 17, 19, 20, 21, 15, 22, 6, 27, 28, 29, 30, 31, 32, 33, 34, 35, 36, 37, 38, 39, 40, 41, 42, 43, 44, 45, 46] (by decide +kernel) (by decide +kernel)
set_option maxRecDepth 20000 in
theorem gX3_digest_X3_momentOf : GoodIn wsX3_digest (wsV RX3 114 RX3 yX3_momentOf wsX3_momentOf) := goodIn_app (goodIn_of _ (by decide +kernel)) ggX3_digest_X3_momentOf
theorem dX3_digest_0 : decode cX3_digest 0 = .ok (.aload_n 0, 1) := by decide +kernel
theorem dX3_digest_1 : decode cX3_digest 1 = .ok (.iconst 0, 1) := by decide +kernel
theorem dX3_digest_2 : decode cX3_digest 2 = .ok (.putfield 33, 3) := by decide +kernel
theorem dX3_digest_5 : decode cX3_digest 5 = .ok (.ldc2_w 161, 3) := by decide +kernel
theorem dX3_digest_8 : decode cX3_digest 8 = .ok (.aload_n 0, 1) := by decide +kernel
theorem dX3_digest_9 : decode cX3_digest 9 = .ok (.getfield 54, 3) := by decide +kernel
theorem dX3_digest_12 : decode cX3_digest 12 = .ok (.i2l, 1) := by decide +kernel
theorem dX3_digest_13 : decode cX3_digest 13 = .ok (.ladd, 1) := by decide +kernel
theorem dX3_digest_14 : decode cX3_digest 14 = .ok (.ldc2_w 163, 3) := by decide +kernel
theorem dX3_digest_17 : decode cX3_digest 17 = .ok (.lmul, 1) := by decide +kernel
theorem dX3_digest_18 : decode cX3_digest 18 = .ok (.aload_n 0, 1) := by decide +kernel
theorem dX3_digest_19 : decode cX3_digest 19 = .ok (.getfield 36, 3) := by decide +kernel
theorem dX3_digest_22 : decode cX3_digest 22 = .ok (.i2l, 1) := by decide +kernel
theorem dX3_digest_23 : decode cX3_digest 23 = .ok (.ladd, 1) := by decide +kernel
theorem dX3_digest_24 : decode cX3_digest 24 = .ok (.lstore_n 1, 1) := by decide +kernel
theorem dX3_digest_25 : decode cX3_digest 25 = .ok (.iconst 0, 1) := by decide +kernel
theorem dX3_digest_26 : decode cX3_digest 26 = .ok (.istore_n 3, 1) := by decide +kernel
theorem dX3_digest_27 : decode cX3_digest 27 = .ok (.iload_n 3, 1) := by decide +kernel
theorem dX3_digest_28 : decode cX3_digest 28 = .ok (.aload_n 0, 1) := by decide +kernel
theorem dX3_digest_29 : decode cX3_digest 29 = .ok (.getfield 36, 3) := by decide +kernel
theorem dX3_digest_32 : decode cX3_digest 32 = .ok (.if_icmp .ge 56, 3) := by decide +kernel
theorem dX3_digest_35 : decode cX3_digest 35 = .ok (.iconst 0, 1) := by decide +kernel
theorem dX3_digest_36 : decode cX3_digest 36 = .ok (.istore 4, 2) := by decide +kernel
theorem dX3_digest_38 : decode cX3_digest 38 = .ok (.iload 4, 2) := by decide +kernel
theorem dX3_digest_40 : decode cX3_digest 40 = .ok (.iconst 5, 1) := by decide +kernel
theorem dX3_digest_41 : decode cX3_digest 41 = .ok (.if_icmp .ge 28, 3) := by decide +kernel
theorem dX3_digest_44 : decode cX3_digest 44 = .ok (.lload_n 1, 1) := by decide +kernel
theorem dX3_digest_45 : decode cX3_digest 45 = .ok (.ldc2_w 163, 3) := by decide +kernel
theorem dX3_digest_48 : decode cX3_digest 48 = .ok (.lmul, 1) := by decide +kernel
theorem dX3_digest_49 : decode cX3_digest 49 = .ok (.aload_n 0, 1) := by decide +kernel
theorem dX3_digest_50 : decode cX3_digest 50 = .ok (.getfield 9, 3) := by decide +kernel
theorem dX3_digest_53 : decode cX3_digest 53 = .ok (.iconst 5, 1) := by decide +kernel
theorem dX3_digest_54 : decode cX3_digest 54 = .ok (.iload_n 3, 1) := by decide +kernel
theorem dX3_digest_55 : decode cX3_digest 55 = .ok (.imul, 1) := by decide +kernel
theorem dX3_digest_56 : decode cX3_digest 56 = .ok (.iload 4, 2) := by decide +kernel
theorem dX3_digest_58 : decode cX3_digest 58 = .ok (.iadd, 1) := by decide +kernel
theorem dX3_digest_59 : decode cX3_digest 59 = .ok (.iaload, 1) := by decide +kernel
theorem dX3_digest_60 : decode cX3_digest 60 = .ok (.i2l, 1) := by decide +kernel
theorem dX3_digest_61 : decode cX3_digest 61 = .ok (.ladd, 1) := by decide +kernel
theorem dX3_digest_62 : decode cX3_digest 62 = .ok (.lstore_n 1, 1) := by decide +kernel
theorem dX3_digest_63 : decode cX3_digest 63 = .ok (.iinc 4 1, 3) := by decide +kernel
theorem dX3_digest_66 : decode cX3_digest 66 = .ok (.goto (-28), 3) := by decide +kernel
theorem dX3_digest_69 : decode cX3_digest 69 = .ok (.lload_n 1, 1) := by decide +kernel
theorem dX3_digest_70 : decode cX3_digest 70 = .ok (.ldc2_w 163, 3) := by decide +kernel
theorem dX3_digest_73 : decode cX3_digest 73 = .ok (.lmul, 1) := by decide +kernel
theorem dX3_digest_74 : decode cX3_digest 74 = .ok (.aload_n 0, 1) := by decide +kernel
theorem dX3_digest_75 : decode cX3_digest 75 = .ok (.iload_n 3, 1) := by decide +kernel
theorem dX3_digest_76 : decode cX3_digest 76 = .ok (.invokevirtual 152, 3) := by decide +kernel
theorem dX3_digest_79 : decode cX3_digest 79 = .ok (.i2l, 1) := by decide +kernel
theorem dX3_digest_80 : decode cX3_digest 80 = .ok (.ladd, 1) := by decide +kernel
theorem dX3_digest_81 : decode cX3_digest 81 = .ok (.lstore_n 1, 1) := by decide +kernel
theorem dX3_digest_82 : decode cX3_digest 82 = .ok (.iinc 3 1, 3) := by decide +kernel
theorem dX3_digest_85 : decode cX3_digest 85 = .ok (.goto (-58), 3) := by decide +kernel
theorem dX3_digest_88 : decode cX3_digest 88 = .ok (.lload_n 1, 1) := by decide +kernel
theorem dX3_digest_89 : decode cX3_digest 89 = .ok (.ldc2_w 163, 3) := by decide +kernel
theorem dX3_digest_92 : decode cX3_digest 92 = .ok (.lmul, 1) := by decide +kernel
theorem dX3_digest_93 : decode cX3_digest 93 = .ok (.aload_n 0, 1) := by decide +kernel
theorem dX3_digest_94 : decode cX3_digest 94 = .ok (.getfield 23, 3) := by decide +kernel
theorem dX3_digest_97 : decode cX3_digest 97 = .ok (.i2l, 1) := by decide +kernel
theorem dX3_digest_98 : decode cX3_digest 98 = .ok (.ladd, 1) := by decide +kernel
theorem dX3_digest_99 : decode cX3_digest 99 = .ok (.ldc2_w 163, 3) := by decide +kernel
theorem dX3_digest_102 : decode cX3_digest 102 = .ok (.lmul, 1) := by decide +kernel
theorem dX3_digest_103 : decode cX3_digest 103 = .ok (.aload_n 0, 1) := by decide +kernel
theorem dX3_digest_104 : decode cX3_digest 104 = .ok (.getfield 27, 3) := by decide +kernel
