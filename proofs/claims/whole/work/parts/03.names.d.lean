theorem dX2_blocked_41 : decode cX2_blocked 41 = .ok (.iinc 4 1, 3) := by decide +kernel
theorem dX2_blocked_44 : decode cX2_blocked 44 = .ok (.goto (-31), 3) := by decide +kernel
theorem dX2_blocked_47 : decode cX2_blocked 47 = .ok (.iload_n 1, 1) := by decide +kernel
theorem dX2_blocked_48 : decode cX2_blocked 48 = .ok (.ireturn, 1) := by decide +kernel
set_option maxRecDepth 20000 in
theorem ggX2_lifts_X2_isWithin : GoodIn wsX2_lifts wsX2_isWithin := goodIn_r _ [7] (by decide +kernel) (by decide +kernel)
set_option maxRecDepth 20000 in
theorem gX2_lifts_X2_isWithin : GoodIn wsX2_lifts (va_wsS RX2 43 yX2_isWithin wsX2_isWithin) := goodIn_app (goodIn_of _ (by decide +kernel)) ggX2_lifts_X2_isWithin
set_option maxRecDepth 20000 in
theorem ggX2_lifts_X1_liftsFor : GoodIn wsX2_lifts wsX1_liftsFor := goodIn_r _ [12, 13, 14, 23, 24, 25, 26, 27, 28, 29, 30, 31, 32, 33, 34, 35] (by decide +kernel) (by decide +kernel)
set_option maxRecDepth 20000 in
theorem gX2_lifts_X1_liftsFor : GoodIn wsX2_lifts (wsV RX2 138 RX1 yX1_liftsFor wsX1_liftsFor) := goodIn_app (goodIn_of _ (by decide +kernel)) ggX2_lifts_X1_liftsFor
theorem dX2_lifts_0 : decode cX2_lifts 0 = .ok (.iload_n 1, 1) := by decide +kernel
theorem dX2_lifts_1 : decode cX2_lifts 1 = .ok (.iconst 0, 1) := by decide +kernel
theorem dX2_lifts_2 : decode cX2_lifts 2 = .ok (.iconst 5, 1) := by decide +kernel
theorem dX2_lifts_3 : decode cX2_lifts 3 = .ok (.invokestatic 43, 3) := by decide +kernel
theorem dX2_lifts_6 : decode cX2_lifts 6 = .ok (.ifCond .ne 13, 3) := by decide +kernel
theorem dX2_lifts_9 : decode cX2_lifts 9 = .ok (.new 68, 3) := by decide +kernel
theorem dX2_lifts_12 : decode cX2_lifts 12 = .ok (.dup, 1) := by decide +kernel
theorem dX2_lifts_13 : decode cX2_lifts 13 = .ok (.ldc 199, 2) := by decide +kernel
theorem dX2_lifts_15 : decode cX2_lifts 15 = .ok (.invokespecial 72, 3) := by decide +kernel
theorem dX2_lifts_18 : decode cX2_lifts 18 = .ok (.athrow, 1) := by decide +kernel
theorem dX2_lifts_19 : decode cX2_lifts 19 = .ok (.iconst 0, 1) := by decide +kernel
theorem dX2_lifts_20 : decode cX2_lifts 20 = .ok (.istore_n 2, 1) := by decide +kernel
theorem dX2_lifts_21 : decode cX2_lifts 21 = .ok (.aload_n 0, 1) := by decide +kernel
theorem dX2_lifts_22 : decode cX2_lifts 22 = .ok (.getfield 17, 3) := by decide +kernel
theorem dX2_lifts_25 : decode cX2_lifts 25 = .ok (.astore_n 3, 1) := by decide +kernel
theorem dX2_lifts_26 : decode cX2_lifts 26 = .ok (.aload_n 3, 1) := by decide +kernel
theorem dX2_lifts_27 : decode cX2_lifts 27 = .ok (.arraylength, 1) := by decide +kernel
theorem dX2_lifts_28 : decode cX2_lifts 28 = .ok (.istore 4, 2) := by decide +kernel
theorem dX2_lifts_30 : decode cX2_lifts 30 = .ok (.iconst 0, 1) := by decide +kernel
theorem dX2_lifts_31 : decode cX2_lifts 31 = .ok (.istore 5, 2) := by decide +kernel
theorem dX2_lifts_33 : decode cX2_lifts 33 = .ok (.iload 5, 2) := by decide +kernel
theorem dX2_lifts_35 : decode cX2_lifts 35 = .ok (.iload 4, 2) := by decide +kernel
theorem dX2_lifts_37 : decode cX2_lifts 37 = .ok (.if_icmp .ge 29, 3) := by decide +kernel
theorem dX2_lifts_40 : decode cX2_lifts 40 = .ok (.aload_n 3, 1) := by decide +kernel
theorem dX2_lifts_41 : decode cX2_lifts 41 = .ok (.iload 5, 2) := by decide +kernel
theorem dX2_lifts_43 : decode cX2_lifts 43 = .ok (.aaload, 1) := by decide +kernel
theorem dX2_lifts_44 : decode cX2_lifts 44 = .ok (.astore 6, 2) := by decide +kernel
theorem dX2_lifts_46 : decode cX2_lifts 46 = .ok (.aload 6, 2) := by decide +kernel
theorem dX2_lifts_48 : decode cX2_lifts 48 = .ok (.ifnull 12, 3) := by decide +kernel
theorem dX2_lifts_51 : decode cX2_lifts 51 = .ok (.iload_n 2, 1) := by decide +kernel
theorem dX2_lifts_52 : decode cX2_lifts 52 = .ok (.aload 6, 2) := by decide +kernel
theorem dX2_lifts_54 : decode cX2_lifts 54 = .ok (.iload_n 1, 1) := by decide +kernel
theorem dX2_lifts_55 : decode cX2_lifts 55 = .ok (.invokevirtual 138, 3) := by decide +kernel
theorem dX2_lifts_58 : decode cX2_lifts 58 = .ok (.iadd, 1) := by decide +kernel
theorem dX2_lifts_59 : decode cX2_lifts 59 = .ok (.istore_n 2, 1) := by decide +kernel
theorem dX2_lifts_60 : decode cX2_lifts 60 = .ok (.iinc 5 1, 3) := by decide +kernel
theorem dX2_lifts_63 : decode cX2_lifts 63 = .ok (.goto (-30), 3) := by decide +kernel
theorem dX2_lifts_66 : decode cX2_lifts 66 = .ok (.iload_n 2, 1) := by decide +kernel
theorem dX2_lifts_67 : decode cX2_lifts 67 = .ok (.ireturn, 1) := by decide +kernel
theorem dX2_freePlugs_0 : decode cX2_freePlugs 0 = .ok (.iconst 0, 1) := by decide +kernel
theorem dX2_freePlugs_1 : decode cX2_freePlugs 1 = .ok (.istore_n 1, 1) := by decide +kernel
theorem dX2_freePlugs_2 : decode cX2_freePlugs 2 = .ok (.aload_n 0, 1) := by decide +kernel
theorem dX2_freePlugs_3 : decode cX2_freePlugs 3 = .ok (.getfield 17, 3) := by decide +kernel
theorem dX2_freePlugs_6 : decode cX2_freePlugs 6 = .ok (.astore_n 2, 1) := by decide +kernel
theorem dX2_freePlugs_7 : decode cX2_freePlugs 7 = .ok (.aload_n 2, 1) := by decide +kernel
theorem dX2_freePlugs_8 : decode cX2_freePlugs 8 = .ok (.arraylength, 1) := by decide +kernel
theorem dX2_freePlugs_9 : decode cX2_freePlugs 9 = .ok (.istore_n 3, 1) := by decide +kernel
theorem dX2_freePlugs_10 : decode cX2_freePlugs 10 = .ok (.iconst 0, 1) := by decide +kernel
theorem dX2_freePlugs_11 : decode cX2_freePlugs 11 = .ok (.istore 4, 2) := by decide +kernel
theorem dX2_freePlugs_13 : decode cX2_freePlugs 13 = .ok (.iload 4, 2) := by decide +kernel
theorem dX2_freePlugs_15 : decode cX2_freePlugs 15 = .ok (.iload_n 3, 1) := by decide +kernel
theorem dX2_freePlugs_16 : decode cX2_freePlugs 16 = .ok (.if_icmp .ge 47, 3) := by decide +kernel
theorem dX2_freePlugs_19 : decode cX2_freePlugs 19 = .ok (.aload_n 2, 1) := by decide +kernel
theorem dX2_freePlugs_20 : decode cX2_freePlugs 20 = .ok (.iload 4, 2) := by decide +kernel
theorem dX2_freePlugs_22 : decode cX2_freePlugs 22 = .ok (.aaload, 1) := by decide +kernel
theorem dX2_freePlugs_23 : decode cX2_freePlugs 23 = .ok (.astore 5, 2) := by decide +kernel
theorem dX2_freePlugs_25 : decode cX2_freePlugs 25 = .ok (.aload 5, 2) := by decide +kernel
theorem dX2_freePlugs_27 : decode cX2_freePlugs 27 = .ok (.ifnull 30, 3) := by decide +kernel
theorem dX2_freePlugs_30 : decode cX2_freePlugs 30 = .ok (.aload 5, 2) := by decide +kernel
theorem dX2_freePlugs_32 : decode cX2_freePlugs 32 = .ok (.getfield 91, 3) := by decide +kernel
theorem dX2_freePlugs_35 : decode cX2_freePlugs 35 = .ok (.ifCond .eq 22, 3) := by decide +kernel
theorem dX2_freePlugs_38 : decode cX2_freePlugs 38 = .ok (.aload 5, 2) := by decide +kernel
theorem dX2_freePlugs_40 : decode cX2_freePlugs 40 = .ok (.getfield 201, 3) := by decide +kernel
theorem dX2_freePlugs_43 : decode cX2_freePlugs 43 = .ok (.iconst 2, 1) := by decide +kernel
theorem dX2_freePlugs_44 : decode cX2_freePlugs 44 = .ok (.if_icmp .ge 13, 3) := by decide +kernel
theorem dX2_freePlugs_47 : decode cX2_freePlugs 47 = .ok (.iload_n 1, 1) := by decide +kernel
theorem dX2_freePlugs_48 : decode cX2_freePlugs 48 = .ok (.iconst 2, 1) := by decide +kernel
theorem dX2_freePlugs_49 : decode cX2_freePlugs 49 = .ok (.aload 5, 2) := by decide +kernel
theorem dX2_freePlugs_51 : decode cX2_freePlugs 51 = .ok (.getfield 201, 3) := by decide +kernel
theorem dX2_freePlugs_54 : decode cX2_freePlugs 54 = .ok (.isub, 1) := by decide +kernel
theorem dX2_freePlugs_55 : decode cX2_freePlugs 55 = .ok (.iadd, 1) := by decide +kernel
theorem dX2_freePlugs_56 : decode cX2_freePlugs 56 = .ok (.istore_n 1, 1) := by decide +kernel
theorem dX2_freePlugs_57 : decode cX2_freePlugs 57 = .ok (.iinc 4 1, 3) := by decide +kernel
theorem dX2_freePlugs_60 : decode cX2_freePlugs 60 = .ok (.goto (-47), 3) := by decide +kernel
theorem dX2_freePlugs_63 : decode cX2_freePlugs 63 = .ok (.iload_n 1, 1) := by decide +kernel
theorem dX2_freePlugs_64 : decode cX2_freePlugs 64 = .ok (.ireturn, 1) := by decide +kernel
set_option maxRecDepth 20000 in
theorem ggX2_choices_X2_boxNumbered : GoodIn wsX2_choices wsX2_boxNumbered := goodIn_r _ [8, 9, 64, 65, 66, 67, 68, 69, 70, 71] (by decide +kernel) (by decide +kernel)
set_option maxRecDepth 20000 in
theorem gX2_choices_X2_boxNumbered : GoodIn wsX2_choices (wsV RX2 64 RX2 yX2_boxNumbered wsX2_boxNumbered) := goodIn_app (goodIn_of _ (by decide +kernel)) ggX2_choices_X2_boxNumbered
set_option maxRecDepth 20000 in
theorem ggX2_choices_X2_isLoadable : GoodIn wsX2_choices wsX2_isLoadable := goodIn_r _ [13, 14, 15, 16, 17, 18, 19, 20, 21, 22, 23, 24, 25, 26, 27, 28, 29, 30, 31, 32, 33, 34, 35, 36, 37, 38, 39, 40, 41, 42, 43, 44, 45, 46, 7, 47, 9, 48, 49, 50, 51, 52, 53, 54, 55, 56, 57, 58, 59, 60, 61, 62, 63, 64, 65, 66, 67, 68, 69, 70, 71, 72, 73, 74, 75, 76, 77, 78, 79, 80, 81, 82, 83, 84] (by decide +kernel) (by decide +kernel)
set_option maxRecDepth 20000 in
theorem gX2_choices_X2_isLoadable : GoodIn wsX2_choices (wsV RX2 97 RX2 yX2_isLoadable wsX2_isLoadable) := goodIn_app (goodIn_of _ (by decide +kernel)) ggX2_choices_X2_isLoadable
theorem dX2_choices_0 : decode cX2_choices 0 = .ok (.aload_n 0, 1) := by decide +kernel
theorem dX2_choices_1 : decode cX2_choices 1 = .ok (.iload_n 1, 1) := by decide +kernel
theorem dX2_choices_2 : decode cX2_choices 2 = .ok (.invokevirtual 64, 3) := by decide +kernel
theorem dX2_choices_5 : decode cX2_choices 5 = .ok (.astore_n 2, 1) := by decide +kernel
theorem dX2_choices_6 : decode cX2_choices 6 = .ok (.aload_n 2, 1) := by decide +kernel
theorem dX2_choices_7 : decode cX2_choices 7 = .ok (.ifnonnull 13, 3) := by decide +kernel
theorem dX2_choices_10 : decode cX2_choices 10 = .ok (.new 68, 3) := by decide +kernel
theorem dX2_choices_13 : decode cX2_choices 13 = .ok (.dup, 1) := by decide +kernel
theorem dX2_choices_14 : decode cX2_choices 14 = .ok (.ldc 150, 2) := by decide +kernel
theorem dX2_choices_16 : decode cX2_choices 16 = .ok (.invokespecial 72, 3) := by decide +kernel
theorem dX2_choices_19 : decode cX2_choices 19 = .ok (.athrow, 1) := by decide +kernel
theorem dX2_choices_20 : decode cX2_choices 20 = .ok (.iconst 0, 1) := by decide +kernel
theorem dX2_choices_21 : decode cX2_choices 21 = .ok (.istore_n 3, 1) := by decide +kernel
theorem dX2_choices_22 : decode cX2_choices 22 = .ok (.aload_n 0, 1) := by decide +kernel
theorem dX2_choices_23 : decode cX2_choices 23 = .ok (.getfield 17, 3) := by decide +kernel
theorem dX2_choices_26 : decode cX2_choices 26 = .ok (.astore 4, 2) := by decide +kernel
theorem dX2_choices_28 : decode cX2_choices 28 = .ok (.aload 4, 2) := by decide +kernel
theorem dX2_choices_30 : decode cX2_choices 30 = .ok (.arraylength, 1) := by decide +kernel
theorem dX2_choices_31 : decode cX2_choices 31 = .ok (.istore 5, 2) := by decide +kernel
theorem dX2_choices_33 : decode cX2_choices 33 = .ok (.iconst 0, 1) := by decide +kernel
theorem dX2_choices_34 : decode cX2_choices 34 = .ok (.istore 6, 2) := by decide +kernel
theorem dX2_choices_36 : decode cX2_choices 36 = .ok (.iload 6, 2) := by decide +kernel
theorem dX2_choices_38 : decode cX2_choices 38 = .ok (.iload 5, 2) := by decide +kernel
theorem dX2_choices_40 : decode cX2_choices 40 = .ok (.if_icmp .ge 29, 3) := by decide +kernel
theorem dX2_choices_43 : decode cX2_choices 43 = .ok (.aload 4, 2) := by decide +kernel
theorem dX2_choices_45 : decode cX2_choices 45 = .ok (.iload 6, 2) := by decide +kernel
theorem dX2_choices_47 : decode cX2_choices 47 = .ok (.aaload, 1) := by decide +kernel
theorem dX2_choices_48 : decode cX2_choices 48 = .ok (.astore 7, 2) := by decide +kernel
theorem dX2_choices_50 : decode cX2_choices 50 = .ok (.aload_n 0, 1) := by decide +kernel
theorem dX2_choices_51 : decode cX2_choices 51 = .ok (.aload_n 2, 1) := by decide +kernel
theorem dX2_choices_52 : decode cX2_choices 52 = .ok (.aload 7, 2) := by decide +kernel
theorem dX2_choices_54 : decode cX2_choices 54 = .ok (.invokevirtual 97, 3) := by decide +kernel
theorem dX2_choices_57 : decode cX2_choices 57 = .ok (.ifCond .eq 6, 3) := by decide +kernel
theorem dX2_choices_60 : decode cX2_choices 60 = .ok (.iinc 3 1, 3) := by decide +kernel
theorem dX2_choices_63 : decode cX2_choices 63 = .ok (.iinc 6 1, 3) := by decide +kernel
theorem dX2_choices_66 : decode cX2_choices 66 = .ok (.goto (-30), 3) := by decide +kernel
theorem dX2_choices_69 : decode cX2_choices 69 = .ok (.iload_n 3, 1) := by decide +kernel
theorem dX2_choices_70 : decode cX2_choices 70 = .ok (.ireturn, 1) := by decide +kernel
theorem dX2_lifted_0 : decode cX2_lifted 0 = .ok (.aload_n 0, 1) := by decide +kernel
theorem dX2_lifted_1 : decode cX2_lifted 1 = .ok (.getfield 37, 3) := by decide +kernel
theorem dX2_lifted_4 : decode cX2_lifted 4 = .ok (.ireturn, 1) := by decide +kernel
set_option maxRecDepth 20000 in
theorem ggX2_digest_X2_mix : GoodIn wsX2_digest wsX2_mix := goodIn_r _ [14, 15] (by decide +kernel) (by decide +kernel)
set_option maxRecDepth 20000 in
theorem gX2_digest_X2_mix : GoodIn wsX2_digest (va_wsS RX2 206 yX2_mix wsX2_mix) := goodIn_app (goodIn_of _ (by decide +kernel)) ggX2_digest_X2_mix
set_option maxRecDepth 20000 in
theorem ggX2_digest_X2_mixBox : GoodIn wsX2_digest wsX2_mixBox := goodIn_r _ [18, 19, 20, 21, 22, 23, 24, 25, 26, 27, 28, 29, 30, 31, 32, 33, 11, 12, 13, 14, 15, 34, 35, 36, 37, 38, 39, 40, 75, 76, 77, 78, 79, 80, 81, 82, 70, 71, 72, 73, 74] (by decide +kernel) (by decide +kernel)
set_option maxRecDepth 20000 in
theorem gX2_digest_X2_mixBox : GoodIn wsX2_digest (va_wsS RX2 210 yX2_mixBox wsX2_mixBox) := goodIn_app (goodIn_of _ (by decide +kernel)) ggX2_digest_X2_mixBox
set_option maxRecDepth 20000 in
theorem ggX2_digest_X2_moment : GoodIn wsX2_digest wsX2_moment := goodIn_r _ [44, 8, 45, 46, 47, 48, 49, 50, 51, 52, 53, 54, 55, 56, 57, 58, 59, 60, 61, 62, 63, 64, 65, 66, 67, 68, 69, 70, 71, 72, 73, 74, 75, 76, 77, 78, 79, 80, 81, 82] (by decide +kernel) (by decide +kernel)
set_option maxRecDepth 20000 in
theorem gX2_digest_X2_moment : GoodIn wsX2_digest (wsV RX2 172 RX2 yX2_moment wsX2_moment) := goodIn_app (goodIn_of _ (by decide +kernel)) ggX2_digest_X2_moment
theorem dX2_digest_0 : decode cX2_digest 0 = .ok (.ldc2_w 204, 3) := by decide +kernel
theorem dX2_digest_3 : decode cX2_digest 3 = .ok (.aload_n 0, 1) := by decide +kernel
theorem dX2_digest_4 : decode cX2_digest 4 = .ok (.getfield 25, 3) := by decide +kernel
theorem dX2_digest_7 : decode cX2_digest 7 = .ok (.i2l, 1) := by decide +kernel
theorem dX2_digest_8 : decode cX2_digest 8 = .ok (.invokestatic 206, 3) := by decide +kernel
theorem dX2_digest_11 : decode cX2_digest 11 = .ok (.lstore_n 1, 1) := by decide +kernel
theorem dX2_digest_12 : decode cX2_digest 12 = .ok (.lload_n 1, 1) := by decide +kernel
theorem dX2_digest_13 : decode cX2_digest 13 = .ok (.aload_n 0, 1) := by decide +kernel
theorem dX2_digest_14 : decode cX2_digest 14 = .ok (.getfield 21, 3) := by decide +kernel
theorem dX2_digest_17 : decode cX2_digest 17 = .ok (.i2l, 1) := by decide +kernel
theorem dX2_digest_18 : decode cX2_digest 18 = .ok (.invokestatic 206, 3) := by decide +kernel
theorem dX2_digest_21 : decode cX2_digest 21 = .ok (.lstore_n 1, 1) := by decide +kernel
theorem dX2_digest_22 : decode cX2_digest 22 = .ok (.aload_n 0, 1) := by decide +kernel
theorem dX2_digest_23 : decode cX2_digest 23 = .ok (.getfield 11, 3) := by decide +kernel
theorem dX2_digest_26 : decode cX2_digest 26 = .ok (.astore_n 3, 1) := by decide +kernel
theorem dX2_digest_27 : decode cX2_digest 27 = .ok (.aload_n 3, 1) := by decide +kernel
theorem dX2_digest_28 : decode cX2_digest 28 = .ok (.arraylength, 1) := by decide +kernel
theorem dX2_digest_29 : decode cX2_digest 29 = .ok (.istore 4, 2) := by decide +kernel
theorem dX2_digest_31 : decode cX2_digest 31 = .ok (.iconst 0, 1) := by decide +kernel
theorem dX2_digest_32 : decode cX2_digest 32 = .ok (.istore 5, 2) := by decide +kernel
theorem dX2_digest_34 : decode cX2_digest 34 = .ok (.iload 5, 2) := by decide +kernel
theorem dX2_digest_36 : decode cX2_digest 36 = .ok (.iload 4, 2) := by decide +kernel
theorem dX2_digest_38 : decode cX2_digest 38 = .ok (.if_icmp .ge 27, 3) := by decide +kernel
theorem dX2_digest_41 : decode cX2_digest 41 = .ok (.aload_n 3, 1) := by decide +kernel
theorem dX2_digest_42 : decode cX2_digest 42 = .ok (.iload 5, 2) := by decide +kernel
theorem dX2_digest_44 : decode cX2_digest 44 = .ok (.aaload, 1) := by decide +kernel
theorem dX2_digest_45 : decode cX2_digest 45 = .ok (.astore 6, 2) := by decide +kernel
theorem dX2_digest_47 : decode cX2_digest 47 = .ok (.aload 6, 2) := by decide +kernel
theorem dX2_digest_49 : decode cX2_digest 49 = .ok (.ifnull 10, 3) := by decide +kernel
theorem dX2_digest_52 : decode cX2_digest 52 = .ok (.lload_n 1, 1) := by decide +kernel
theorem dX2_digest_53 : decode cX2_digest 53 = .ok (.aload 6, 2) := by decide +kernel
theorem dX2_digest_55 : decode cX2_digest 55 = .ok (.invokestatic 210, 3) := by decide +kernel
theorem dX2_digest_58 : decode cX2_digest 58 = .ok (.lstore_n 1, 1) := by decide +kernel
theorem dX2_digest_59 : decode cX2_digest 59 = .ok (.iinc 5 1, 3) := by decide +kernel
theorem dX2_digest_62 : decode cX2_digest 62 = .ok (.goto (-28), 3) := by decide +kernel
theorem dX2_digest_65 : decode cX2_digest 65 = .ok (.lload_n 1, 1) := by decide +kernel
theorem dX2_digest_66 : decode cX2_digest 66 = .ok (.aload_n 0, 1) := by decide +kernel
theorem dX2_digest_67 : decode cX2_digest 67 = .ok (.getfield 28, 3) := by decide +kernel
theorem dX2_digest_70 : decode cX2_digest 70 = .ok (.i2l, 1) := by decide +kernel
theorem dX2_digest_71 : decode cX2_digest 71 = .ok (.invokestatic 206, 3) := by decide +kernel
theorem dX2_digest_74 : decode cX2_digest 74 = .ok (.aload_n 0, 1) := by decide +kernel
theorem dX2_digest_75 : decode cX2_digest 75 = .ok (.getfield 31, 3) := by decide +kernel
theorem dX2_digest_78 : decode cX2_digest 78 = .ok (.i2l, 1) := by decide +kernel
theorem dX2_digest_79 : decode cX2_digest 79 = .ok (.invokestatic 206, 3) := by decide +kernel
theorem dX2_digest_82 : decode cX2_digest 82 = .ok (.aload_n 0, 1) := by decide +kernel
theorem dX2_digest_83 : decode cX2_digest 83 = .ok (.getfield 34, 3) := by decide +kernel
theorem dX2_digest_86 : decode cX2_digest 86 = .ok (.i2l, 1) := by decide +kernel
theorem dX2_digest_87 : decode cX2_digest 87 = .ok (.invokestatic 206, 3) := by decide +kernel
theorem dX2_digest_90 : decode cX2_digest 90 = .ok (.lstore_n 1, 1) := by decide +kernel
theorem dX2_digest_91 : decode cX2_digest 91 = .ok (.aload_n 0, 1) := by decide +kernel
theorem dX2_digest_92 : decode cX2_digest 92 = .ok (.getfield 17, 3) := by decide +kernel
theorem dX2_digest_95 : decode cX2_digest 95 = .ok (.astore_n 3, 1) := by decide +kernel
theorem dX2_digest_96 : decode cX2_digest 96 = .ok (.aload_n 3, 1) := by decide +kernel
theorem dX2_digest_97 : decode cX2_digest 97 = .ok (.arraylength, 1) := by decide +kernel
theorem dX2_digest_98 : decode cX2_digest 98 = .ok (.istore 4, 2) := by decide +kernel
theorem dX2_digest_100 : decode cX2_digest 100 = .ok (.iconst 0, 1) := by decide +kernel
theorem dX2_digest_101 : decode cX2_digest 101 = .ok (.istore 5, 2) := by decide +kernel
theorem dX2_digest_103 : decode cX2_digest 103 = .ok (.iload 5, 2) := by decide +kernel
theorem dX2_digest_105 : decode cX2_digest 105 = .ok (.iload 4, 2) := by decide +kernel
theorem dX2_digest_107 : decode cX2_digest 107 = .ok (.if_icmp .ge 38, 3) := by decide +kernel
theorem dX2_digest_110 : decode cX2_digest 110 = .ok (.aload_n 3, 1) := by decide +kernel
theorem dX2_digest_111 : decode cX2_digest 111 = .ok (.iload 5, 2) := by decide +kernel
theorem dX2_digest_113 : decode cX2_digest 113 = .ok (.aaload, 1) := by decide +kernel
theorem dX2_digest_114 : decode cX2_digest 114 = .ok (.astore 6, 2) := by decide +kernel
theorem dX2_digest_116 : decode cX2_digest 116 = .ok (.aload 6, 2) := by decide +kernel
theorem dX2_digest_118 : decode cX2_digest 118 = .ok (.ifnull 21, 3) := by decide +kernel
theorem dX2_digest_121 : decode cX2_digest 121 = .ok (.lload_n 1, 1) := by decide +kernel
theorem dX2_digest_122 : decode cX2_digest 122 = .ok (.aload 6, 2) := by decide +kernel
theorem dX2_digest_124 : decode cX2_digest 124 = .ok (.getfield 91, 3) := by decide +kernel
theorem dX2_digest_127 : decode cX2_digest 127 = .ok (.ifCond .eq 7, 3) := by decide +kernel
theorem dX2_digest_130 : decode cX2_digest 130 = .ok (.lconst 1, 1) := by decide +kernel
theorem dX2_digest_131 : decode cX2_digest 131 = .ok (.goto 4, 3) := by decide +kernel
theorem dX2_digest_134 : decode cX2_digest 134 = .ok (.lconst 0, 1) := by decide +kernel
theorem dX2_digest_135 : decode cX2_digest 135 = .ok (.invokestatic 206, 3) := by decide +kernel
theorem dX2_digest_138 : decode cX2_digest 138 = .ok (.lstore_n 1, 1) := by decide +kernel
theorem dX2_digest_139 : decode cX2_digest 139 = .ok (.iinc 5 1, 3) := by decide +kernel
theorem dX2_digest_142 : decode cX2_digest 142 = .ok (.goto (-39), 3) := by decide +kernel
theorem dX2_digest_145 : decode cX2_digest 145 = .ok (.lload_n 1, 1) := by decide +kernel
theorem dX2_digest_146 : decode cX2_digest 146 = .ok (.aload_n 0, 1) := by decide +kernel
theorem dX2_digest_147 : decode cX2_digest 147 = .ok (.iconst 0, 1) := by decide +kernel
theorem dX2_digest_148 : decode cX2_digest 148 = .ok (.invokevirtual 172, 3) := by decide +kernel
theorem dX2_digest_151 : decode cX2_digest 151 = .ok (.i2l, 1) := by decide +kernel
theorem dX2_digest_152 : decode cX2_digest 152 = .ok (.invokestatic 206, 3) := by decide +kernel
theorem dX2_digest_155 : decode cX2_digest 155 = .ok (.aload_n 0, 1) := by decide +kernel
theorem dX2_digest_156 : decode cX2_digest 156 = .ok (.iconst 1, 1) := by decide +kernel
theorem dX2_digest_157 : decode cX2_digest 157 = .ok (.invokevirtual 172, 3) := by decide +kernel
theorem dX2_digest_160 : decode cX2_digest 160 = .ok (.i2l, 1) := by decide +kernel
theorem dX2_digest_161 : decode cX2_digest 161 = .ok (.invokestatic 206, 3) := by decide +kernel
theorem dX2_digest_164 : decode cX2_digest 164 = .ok (.aload_n 0, 1) := by decide +kernel
theorem dX2_digest_165 : decode cX2_digest 165 = .ok (.getfield 37, 3) := by decide +kernel
theorem dX2_digest_168 : decode cX2_digest 168 = .ok (.i2l, 1) := by decide +kernel
theorem dX2_digest_169 : decode cX2_digest 169 = .ok (.invokestatic 206, 3) := by decide +kernel
theorem dX2_digest_172 : decode cX2_digest 172 = .ok (.lreturn, 1) := by decide +kernel
theorem dX2_isWithin_0 : decode cX2_isWithin 0 = .ok (.iload_n 0, 1) := by decide +kernel
theorem dX2_isWithin_1 : decode cX2_isWithin 1 = .ok (.iload_n 1, 1) := by decide +kernel
theorem dX2_isWithin_2 : decode cX2_isWithin 2 = .ok (.if_icmp .lt 12, 3) := by decide +kernel
theorem dX2_isWithin_5 : decode cX2_isWithin 5 = .ok (.iload_n 0, 1) := by decide +kernel
theorem dX2_isWithin_6 : decode cX2_isWithin 6 = .ok (.iload_n 2, 1) := by decide +kernel
theorem dX2_isWithin_7 : decode cX2_isWithin 7 = .ok (.if_icmp .gt 7, 3) := by decide +kernel
theorem dX2_isWithin_10 : decode cX2_isWithin 10 = .ok (.iconst 1, 1) := by decide +kernel
theorem dX2_isWithin_11 : decode cX2_isWithin 11 = .ok (.goto 4, 3) := by decide +kernel
theorem dX2_isWithin_14 : decode cX2_isWithin 14 = .ok (.iconst 0, 1) := by decide +kernel
theorem dX2_isWithin_15 : decode cX2_isWithin 15 = .ok (.ireturn, 1) := by decide +kernel
theorem dX2_mix_0 : decode cX2_mix 0 = .ok (.lload_n 0, 1) := by decide +kernel
theorem dX2_mix_1 : decode cX2_mix 1 = .ok (.ldc2_w 214, 3) := by decide +kernel
theorem dX2_mix_4 : decode cX2_mix 4 = .ok (.lmul, 1) := by decide +kernel
theorem dX2_mix_5 : decode cX2_mix 5 = .ok (.lload_n 2, 1) := by decide +kernel
theorem dX2_mix_6 : decode cX2_mix 6 = .ok (.ladd, 1) := by decide +kernel
theorem dX2_mix_7 : decode cX2_mix 7 = .ok (.lreturn, 1) := by decide +kernel
set_option maxRecDepth 20000 in
theorem ggX2_mixBox_X0_tell : GoodIn wsX2_mixBox wsX0_tell := goodIn_r _ [5, 6, 7, 8, 9, 10, 11, 12, 4, 13, 14, 15, 28, 29, 30, 31, 32, 33, 34, 35] (by decide +kernel) (by decide +kernel)
set_option maxRecDepth 20000 in
theorem gX2_mixBox_X0_tell : GoodIn wsX2_mixBox (wsV RX2 73 RX0 yX0_tell wsX0_tell) := goodIn_app (goodIn_of _ (by decide +kernel)) ggX2_mixBox_X0_tell
set_option maxRecDepth 20000 in
theorem ggX2_mixBox_X2_mix : GoodIn wsX2_mixBox wsX2_mix := goodIn_r _ [19, 20] (by decide +kernel) (by decide +kernel)
set_option maxRecDepth 20000 in
theorem gX2_mixBox_X2_mix : GoodIn wsX2_mixBox (va_wsS RX2 206 yX2_mix wsX2_mix) := goodIn_app (goodIn_of _ (by decide +kernel)) ggX2_mixBox_X2_mix
set_option maxRecDepth 20000 in
theorem ggX2_mixBox_X0_place : GoodIn wsX2_mixBox wsX0_place := goodIn_r _ [24, 15, 25, 26, 27, 28, 29, 30, 31, 32, 33, 34, 35, 36, 37, 38, 39, 40] (by decide +kernel) (by decide +kernel)
set_option maxRecDepth 20000 in
theorem gX2_mixBox_X0_place : GoodIn wsX2_mixBox (wsV RX2 152 RX0 yX0_place wsX0_place) := goodIn_app (goodIn_of _ (by decide +kernel)) ggX2_mixBox_X0_place
theorem dX2_mixBox_0 : decode cX2_mixBox 0 = .ok (.lload_n 0, 1) := by decide +kernel
theorem dX2_mixBox_1 : decode cX2_mixBox 1 = .ok (.lstore_n 3, 1) := by decide +kernel
theorem dX2_mixBox_2 : decode cX2_mixBox 2 = .ok (.iconst 0, 1) := by decide +kernel
theorem dX2_mixBox_3 : decode cX2_mixBox 3 = .ok (.istore 5, 2) := by decide +kernel
theorem dX2_mixBox_5 : decode cX2_mixBox 5 = .ok (.iload 5, 2) := by decide +kernel
theorem dX2_mixBox_7 : decode cX2_mixBox 7 = .ok (.iconst 5, 1) := by decide +kernel
theorem dX2_mixBox_8 : decode cX2_mixBox 8 = .ok (.if_icmp .ge 21, 3) := by decide +kernel
theorem dX2_mixBox_11 : decode cX2_mixBox 11 = .ok (.lload_n 3, 1) := by decide +kernel
theorem dX2_mixBox_12 : decode cX2_mixBox 12 = .ok (.aload_n 2, 1) := by decide +kernel
theorem dX2_mixBox_13 : decode cX2_mixBox 13 = .ok (.iload 5, 2) := by decide +kernel
theorem dX2_mixBox_15 : decode cX2_mixBox 15 = .ok (.invokevirtual 73, 3) := by decide +kernel
theorem dX2_mixBox_18 : decode cX2_mixBox 18 = .ok (.i2l, 1) := by decide +kernel
theorem dX2_mixBox_19 : decode cX2_mixBox 19 = .ok (.invokestatic 206, 3) := by decide +kernel
theorem dX2_mixBox_22 : decode cX2_mixBox 22 = .ok (.lstore_n 3, 1) := by decide +kernel
theorem dX2_mixBox_23 : decode cX2_mixBox 23 = .ok (.iinc 5 1, 3) := by decide +kernel
theorem dX2_mixBox_26 : decode cX2_mixBox 26 = .ok (.goto (-21), 3) := by decide +kernel
theorem dX2_mixBox_29 : decode cX2_mixBox 29 = .ok (.lload_n 3, 1) := by decide +kernel
theorem dX2_mixBox_30 : decode cX2_mixBox 30 = .ok (.aload_n 2, 1) := by decide +kernel
theorem dX2_mixBox_31 : decode cX2_mixBox 31 = .ok (.invokevirtual 152, 3) := by decide +kernel
theorem dX2_mixBox_34 : decode cX2_mixBox 34 = .ok (.i2l, 1) := by decide +kernel
theorem dX2_mixBox_35 : decode cX2_mixBox 35 = .ok (.invokestatic 206, 3) := by decide +kernel
theorem dX2_mixBox_38 : decode cX2_mixBox 38 = .ok (.lreturn, 1) := by decide +kernel
theorem dX2_boxNumbered_0 : decode cX2_boxNumbered 0 = .ok (.iload_n 1, 1) := by decide +kernel
theorem dX2_boxNumbered_1 : decode cX2_boxNumbered 1 = .ok (.ifCond .lt 12, 3) := by decide +kernel
theorem dX2_boxNumbered_4 : decode cX2_boxNumbered 4 = .ok (.iload_n 1, 1) := by decide +kernel
theorem dX2_boxNumbered_5 : decode cX2_boxNumbered 5 = .ok (.aload_n 0, 1) := by decide +kernel
theorem dX2_boxNumbered_6 : decode cX2_boxNumbered 6 = .ok (.getfield 11, 3) := by decide +kernel
theorem dX2_boxNumbered_9 : decode cX2_boxNumbered 9 = .ok (.arraylength, 1) := by decide +kernel
theorem dX2_boxNumbered_10 : decode cX2_boxNumbered 10 = .ok (.if_icmp .lt 5, 3) := by decide +kernel
theorem dX2_boxNumbered_13 : decode cX2_boxNumbered 13 = .ok (.aconst_null, 1) := by decide +kernel
theorem dX2_boxNumbered_14 : decode cX2_boxNumbered 14 = .ok (.areturn, 1) := by decide +kernel
theorem dX2_boxNumbered_15 : decode cX2_boxNumbered 15 = .ok (.aload_n 0, 1) := by decide +kernel
theorem dX2_boxNumbered_16 : decode cX2_boxNumbered 16 = .ok (.getfield 11, 3) := by decide +kernel
theorem dX2_boxNumbered_19 : decode cX2_boxNumbered 19 = .ok (.iload_n 1, 1) := by decide +kernel
theorem dX2_boxNumbered_20 : decode cX2_boxNumbered 20 = .ok (.aaload, 1) := by decide +kernel
theorem dX2_boxNumbered_21 : decode cX2_boxNumbered 21 = .ok (.areturn, 1) := by decide +kernel
theorem dX2_numberOf_0 : decode cX2_numberOf 0 = .ok (.aload_n 0, 1) := by decide +kernel
theorem dX2_numberOf_1 : decode cX2_numberOf 1 = .ok (.ifnonnull 7, 3) := by decide +kernel
theorem dX2_numberOf_4 : decode cX2_numberOf 4 = .ok (.iconst (-1), 1) := by decide +kernel
theorem dX2_numberOf_5 : decode cX2_numberOf 5 = .ok (.goto 7, 3) := by decide +kernel
theorem dX2_numberOf_8 : decode cX2_numberOf 8 = .ok (.aload_n 0, 1) := by decide +kernel
theorem dX2_numberOf_9 : decode cX2_numberOf 9 = .ok (.getfield 216, 3) := by decide +kernel
theorem dX2_numberOf_12 : decode cX2_numberOf 12 = .ok (.ireturn, 1) := by decide +kernel
set_option maxRecDepth 20000 in
theorem ggX2_stackAt_X2_isWithin : GoodIn wsX2_stackAt wsX2_isWithin := goodIn_r _ [5] (by decide +kernel) (by decide +kernel)
set_option maxRecDepth 20000 in
theorem gX2_stackAt_X2_isWithin : GoodIn wsX2_stackAt (va_wsS RX2 43 yX2_isWithin wsX2_isWithin) := goodIn_app (goodIn_of _ (by decide +kernel)) ggX2_stackAt_X2_isWithin
theorem dX2_stackAt_0 : decode cX2_stackAt 0 = .ok (.iload_n 1, 1) := by decide +kernel
theorem dX2_stackAt_1 : decode cX2_stackAt 1 = .ok (.iconst 0, 1) := by decide +kernel
theorem dX2_stackAt_2 : decode cX2_stackAt 2 = .ok (.iconst 5, 1) := by decide +kernel
theorem dX2_stackAt_3 : decode cX2_stackAt 3 = .ok (.invokestatic 43, 3) := by decide +kernel
theorem dX2_stackAt_6 : decode cX2_stackAt 6 = .ok (.ifCond .eq 12, 3) := by decide +kernel
theorem dX2_stackAt_9 : decode cX2_stackAt 9 = .ok (.iload_n 2, 1) := by decide +kernel
theorem dX2_stackAt_10 : decode cX2_stackAt 10 = .ok (.iconst 0, 1) := by decide +kernel
theorem dX2_stackAt_11 : decode cX2_stackAt 11 = .ok (.iconst 4, 1) := by decide +kernel
theorem dX2_stackAt_12 : decode cX2_stackAt 12 = .ok (.invokestatic 43, 3) := by decide +kernel
theorem dX2_stackAt_15 : decode cX2_stackAt 15 = .ok (.ifCond .ne 5, 3) := by decide +kernel
theorem dX2_stackAt_18 : decode cX2_stackAt 18 = .ok (.aconst_null, 1) := by decide +kernel
theorem dX2_stackAt_19 : decode cX2_stackAt 19 = .ok (.areturn, 1) := by decide +kernel
theorem dX2_stackAt_20 : decode cX2_stackAt 20 = .ok (.iload_n 1, 1) := by decide +kernel
theorem dX2_stackAt_21 : decode cX2_stackAt 21 = .ok (.iconst 5, 1) := by decide +kernel
theorem dX2_stackAt_22 : decode cX2_stackAt 22 = .ok (.imul, 1) := by decide +kernel
theorem dX2_stackAt_23 : decode cX2_stackAt 23 = .ok (.iload_n 2, 1) := by decide +kernel
theorem dX2_stackAt_24 : decode cX2_stackAt 24 = .ok (.iadd, 1) := by decide +kernel
theorem dX2_stackAt_25 : decode cX2_stackAt 25 = .ok (.istore_n 3, 1) := by decide +kernel
theorem dX2_stackAt_26 : decode cX2_stackAt 26 = .ok (.iload_n 3, 1) := by decide +kernel
theorem dX2_stackAt_27 : decode cX2_stackAt 27 = .ok (.ifCond .lt 12, 3) := by decide +kernel
theorem dX2_stackAt_30 : decode cX2_stackAt 30 = .ok (.iload_n 3, 1) := by decide +kernel
theorem dX2_stackAt_31 : decode cX2_stackAt 31 = .ok (.aload_n 0, 1) := by decide +kernel
theorem dX2_stackAt_32 : decode cX2_stackAt 32 = .ok (.getfield 17, 3) := by decide +kernel
theorem dX2_stackAt_35 : decode cX2_stackAt 35 = .ok (.arraylength, 1) := by decide +kernel
theorem dX2_stackAt_36 : decode cX2_stackAt 36 = .ok (.if_icmp .lt 5, 3) := by decide +kernel
theorem dX2_stackAt_39 : decode cX2_stackAt 39 = .ok (.aconst_null, 1) := by decide +kernel
theorem dX2_stackAt_40 : decode cX2_stackAt 40 = .ok (.areturn, 1) := by decide +kernel
theorem dX2_stackAt_41 : decode cX2_stackAt 41 = .ok (.aload_n 0, 1) := by decide +kernel
theorem dX2_stackAt_42 : decode cX2_stackAt 42 = .ok (.getfield 17, 3) := by decide +kernel
theorem dX2_stackAt_45 : decode cX2_stackAt 45 = .ok (.iload_n 3, 1) := by decide +kernel
theorem dX2_stackAt_46 : decode cX2_stackAt 46 = .ok (.aaload, 1) := by decide +kernel
theorem dX2_stackAt_47 : decode cX2_stackAt 47 = .ok (.areturn, 1) := by decide +kernel
set_option maxRecDepth 20000 in
theorem ggX2_isLoadable_X0_waitsAt : GoodIn wsX2_isLoadable wsX0_waitsAt := goodIn_r _ [10, 11, 12, 13, 14, 9, 15, 16, 17, 66, 67, 68, 69, 70, 71, 72, 73] (by decide +kernel) (by decide +kernel)
set_option maxRecDepth 20000 in
theorem gX2_isLoadable_X0_waitsAt : GoodIn wsX2_isLoadable (wsV RX2 187 RX0 yX0_waitsAt wsX0_waitsAt) := goodIn_app (goodIn_of _ (by decide +kernel)) ggX2_isLoadable_X0_waitsAt
set_option maxRecDepth 20000 in
theorem ggX2_isLoadable_X1_weightSum : GoodIn wsX2_isLoadable wsX1_weightSum := goodIn_r _ [22, 23, 24, 61, 62, 63, 64, 65, 66, 67, 68, 69, 70, 71, 72, 73] (by decide +kernel) (by decide +kernel)
set_option maxRecDepth 20000 in
theorem gX2_isLoadable_X1_weightSum : GoodIn wsX2_isLoadable (wsV RX2 156 RX1 yX1_weightSum wsX1_weightSum) := goodIn_app (goodIn_of _ (by decide +kernel)) ggX2_isLoadable_X1_weightSum
set_option maxRecDepth 20000 in
theorem ggX2_isLoadable_X1_hasPowerOnNextTier : GoodIn wsX2_isLoadable wsX1_hasPowerOnNextTier := goodIn_r _ [28, 29, 30, 61, 62, 63, 64, 65] (by decide +kernel) (by decide +kernel)
set_option maxRecDepth 20000 in
theorem gX2_isLoadable_X1_hasPowerOnNextTier : GoodIn wsX2_isLoadable (wsV RX2 222 RX1 yX1_hasPowerOnNextTier wsX1_hasPowerOnNextTier) := goodIn_app (goodIn_of _ (by decide +kernel)) ggX2_isLoadable_X1_hasPowerOnNextTier
set_option maxRecDepth 20000 in
theorem ggX2_isLoadable_X2_isApartFromOthers : GoodIn wsX2_isLoadable wsX2_isApartFromOthers := goodIn_r _ [35, 36, 37, 5, 38, 39, 40, 9, 41, 42, 43, 44, 45, 21, 46, 47, 48, 49, 50, 51, 52, 53, 54, 55, 56, 57, 58, 59, 60, 66, 67, 68, 69, 70, 71, 72, 73, 61, 62, 63, 64, 65] (by decide +kernel) (by decide +kernel)
set_option maxRecDepth 20000 in
theorem gX2_isLoadable_X2_isApartFromOthers : GoodIn wsX2_isLoadable (wsV RX2 225 RX2 yX2_isApartFromOthers wsX2_isApartFromOthers) := goodIn_app (goodIn_of _ (by decide +kernel)) ggX2_isLoadable_X2_isApartFromOthers
theorem dX2_isLoadable_0 : decode cX2_isLoadable 0 = .ok (.aload_n 1, 1) := by decide +kernel
theorem dX2_isLoadable_1 : decode cX2_isLoadable 1 = .ok (.ifnull 70, 3) := by decide +kernel
theorem dX2_isLoadable_4 : decode cX2_isLoadable 4 = .ok (.aload_n 2, 1) := by decide +kernel
theorem dX2_isLoadable_5 : decode cX2_isLoadable 5 = .ok (.ifnull 66, 3) := by decide +kernel
theorem dX2_isLoadable_8 : decode cX2_isLoadable 8 = .ok (.aload_n 1, 1) := by decide +kernel
theorem dX2_isLoadable_9 : decode cX2_isLoadable 9 = .ok (.aload_n 0, 1) := by decide +kernel
theorem dX2_isLoadable_10 : decode cX2_isLoadable 10 = .ok (.getfield 25, 3) := by decide +kernel
theorem dX2_isLoadable_13 : decode cX2_isLoadable 13 = .ok (.invokevirtual 187, 3) := by decide +kernel
theorem dX2_isLoadable_16 : decode cX2_isLoadable 16 = .ok (.ifCond .eq 55, 3) := by decide +kernel
theorem dX2_isLoadable_19 : decode cX2_isLoadable 19 = .ok (.aload_n 2, 1) := by decide +kernel
theorem dX2_isLoadable_20 : decode cX2_isLoadable 20 = .ok (.getfield 201, 3) := by decide +kernel
theorem dX2_isLoadable_23 : decode cX2_isLoadable 23 = .ok (.iconst 4, 1) := by decide +kernel
theorem dX2_isLoadable_24 : decode cX2_isLoadable 24 = .ok (.if_icmp .ge 47, 3) := by decide +kernel
theorem dX2_isLoadable_27 : decode cX2_isLoadable 27 = .ok (.aload_n 2, 1) := by decide +kernel
theorem dX2_isLoadable_28 : decode cX2_isLoadable 28 = .ok (.invokevirtual 156, 3) := by decide +kernel
theorem dX2_isLoadable_31 : decode cX2_isLoadable 31 = .ok (.aload_n 1, 1) := by decide +kernel
theorem dX2_isLoadable_32 : decode cX2_isLoadable 32 = .ok (.getfield 169, 3) := by decide +kernel
theorem dX2_isLoadable_35 : decode cX2_isLoadable 35 = .ok (.iadd, 1) := by decide +kernel
theorem dX2_isLoadable_36 : decode cX2_isLoadable 36 = .ok (.aload_n 0, 1) := by decide +kernel
theorem dX2_isLoadable_37 : decode cX2_isLoadable 37 = .ok (.getfield 28, 3) := by decide +kernel
theorem dX2_isLoadable_40 : decode cX2_isLoadable 40 = .ok (.if_icmp .gt 31, 3) := by decide +kernel
theorem dX2_isLoadable_43 : decode cX2_isLoadable 43 = .ok (.aload_n 1, 1) := by decide +kernel
theorem dX2_isLoadable_44 : decode cX2_isLoadable 44 = .ok (.getfield 219, 3) := by decide +kernel
theorem dX2_isLoadable_47 : decode cX2_isLoadable 47 = .ok (.iconst 1, 1) := by decide +kernel
theorem dX2_isLoadable_48 : decode cX2_isLoadable 48 = .ok (.if_icmp .ne 10, 3) := by decide +kernel
theorem dX2_isLoadable_51 : decode cX2_isLoadable 51 = .ok (.aload_n 2, 1) := by decide +kernel
theorem dX2_isLoadable_52 : decode cX2_isLoadable 52 = .ok (.invokevirtual 222, 3) := by decide +kernel
theorem dX2_isLoadable_55 : decode cX2_isLoadable 55 = .ok (.ifCond .eq 16, 3) := by decide +kernel
theorem dX2_isLoadable_58 : decode cX2_isLoadable 58 = .ok (.aload_n 0, 1) := by decide +kernel
theorem dX2_isLoadable_59 : decode cX2_isLoadable 59 = .ok (.aload_n 1, 1) := by decide +kernel
theorem dX2_isLoadable_60 : decode cX2_isLoadable 60 = .ok (.aload_n 2, 1) := by decide +kernel
theorem dX2_isLoadable_61 : decode cX2_isLoadable 61 = .ok (.invokevirtual 225, 3) := by decide +kernel
theorem dX2_isLoadable_64 : decode cX2_isLoadable 64 = .ok (.ifCond .eq 7, 3) := by decide +kernel
theorem dX2_isLoadable_67 : decode cX2_isLoadable 67 = .ok (.iconst 1, 1) := by decide +kernel
theorem dX2_isLoadable_68 : decode cX2_isLoadable 68 = .ok (.goto 4, 3) := by decide +kernel
theorem dX2_isLoadable_71 : decode cX2_isLoadable 71 = .ok (.iconst 0, 1) := by decide +kernel
theorem dX2_isLoadable_72 : decode cX2_isLoadable 72 = .ok (.ireturn, 1) := by decide +kernel
set_option maxRecDepth 20000 in
theorem ggX2_isApartFromOthers_X0_isDangerous : GoodIn wsX2_isApartFromOthers wsX0_isDangerous := goodIn_r _ [8, 9, 29, 30, 31, 32, 33, 34, 35, 36] (by decide +kernel) (by decide +kernel)
set_option maxRecDepth 20000 in
theorem gX2_isApartFromOthers_X0_isDangerous : GoodIn wsX2_isApartFromOthers (wsV RX2 228 RX0 yX0_isDangerous wsX0_isDangerous) := goodIn_app (goodIn_of _ (by decide +kernel)) ggX2_isApartFromOthers_X0_isDangerous
set_option maxRecDepth 20000 in
theorem ggX2_isApartFromOthers_X1_isApartFrom : GoodIn wsX2_isApartFromOthers wsX1_isApartFrom := goodIn_r _ [14, 15, 16, 17, 18, 19, 20, 37, 38, 39, 40, 41] (by decide +kernel) (by decide +kernel)
set_option maxRecDepth 20000 in
theorem gX2_isApartFromOthers_X1_isApartFrom : GoodIn wsX2_isApartFromOthers (wsV RX2 231 RX1 yX1_isApartFrom wsX1_isApartFrom) := goodIn_app (goodIn_of _ (by decide +kernel)) ggX2_isApartFromOthers_X1_isApartFrom
theorem dX2_isApartFromOthers_0 : decode cX2_isApartFromOthers 0 = .ok (.aload_n 1, 1) := by decide +kernel
theorem dX2_isApartFromOthers_1 : decode cX2_isApartFromOthers 1 = .ok (.invokevirtual 228, 3) := by decide +kernel
theorem dX2_isApartFromOthers_4 : decode cX2_isApartFromOthers 4 = .ok (.ifCond .ne 5, 3) := by decide +kernel
theorem dX2_isApartFromOthers_7 : decode cX2_isApartFromOthers 7 = .ok (.iconst 1, 1) := by decide +kernel
theorem dX2_isApartFromOthers_8 : decode cX2_isApartFromOthers 8 = .ok (.ireturn, 1) := by decide +kernel
theorem dX2_isApartFromOthers_9 : decode cX2_isApartFromOthers 9 = .ok (.aload_n 0, 1) := by decide +kernel
theorem dX2_isApartFromOthers_10 : decode cX2_isApartFromOthers 10 = .ok (.getfield 11, 3) := by decide +kernel
theorem dX2_isApartFromOthers_13 : decode cX2_isApartFromOthers 13 = .ok (.astore_n 3, 1) := by decide +kernel
theorem dX2_isApartFromOthers_14 : decode cX2_isApartFromOthers 14 = .ok (.aload_n 3, 1) := by decide +kernel
theorem dX2_isApartFromOthers_15 : decode cX2_isApartFromOthers 15 = .ok (.arraylength, 1) := by decide +kernel
theorem dX2_isApartFromOthers_16 : decode cX2_isApartFromOthers 16 = .ok (.istore 4, 2) := by decide +kernel
theorem dX2_isApartFromOthers_18 : decode cX2_isApartFromOthers 18 = .ok (.iconst 0, 1) := by decide +kernel
theorem dX2_isApartFromOthers_19 : decode cX2_isApartFromOthers 19 = .ok (.istore 5, 2) := by decide +kernel
theorem dX2_isApartFromOthers_21 : decode cX2_isApartFromOthers 21 = .ok (.iload 5, 2) := by decide +kernel
theorem dX2_isApartFromOthers_23 : decode cX2_isApartFromOthers 23 = .ok (.iload 4, 2) := by decide +kernel
theorem dX2_isApartFromOthers_25 : decode cX2_isApartFromOthers 25 = .ok (.if_icmp .ge 62, 3) := by decide +kernel
theorem dX2_isApartFromOthers_28 : decode cX2_isApartFromOthers 28 = .ok (.aload_n 3, 1) := by decide +kernel
theorem dX2_isApartFromOthers_29 : decode cX2_isApartFromOthers 29 = .ok (.iload 5, 2) := by decide +kernel
theorem dX2_isApartFromOthers_31 : decode cX2_isApartFromOthers 31 = .ok (.aaload, 1) := by decide +kernel
theorem dX2_isApartFromOthers_32 : decode cX2_isApartFromOthers 32 = .ok (.astore 6, 2) := by decide +kernel
theorem dX2_isApartFromOthers_34 : decode cX2_isApartFromOthers 34 = .ok (.aload 6, 2) := by decide +kernel
theorem dX2_isApartFromOthers_36 : decode cX2_isApartFromOthers 36 = .ok (.ifnull 45, 3) := by decide +kernel
theorem dX2_isApartFromOthers_39 : decode cX2_isApartFromOthers 39 = .ok (.aload 6, 2) := by decide +kernel
theorem dX2_isApartFromOthers_41 : decode cX2_isApartFromOthers 41 = .ok (.getfield 165, 3) := by decide +kernel
theorem dX2_isApartFromOthers_44 : decode cX2_isApartFromOthers 44 = .ok (.ifnull 37, 3) := by decide +kernel
theorem dX2_isApartFromOthers_47 : decode cX2_isApartFromOthers 47 = .ok (.aload 6, 2) := by decide +kernel
theorem dX2_isApartFromOthers_49 : decode cX2_isApartFromOthers 49 = .ok (.invokevirtual 228, 3) := by decide +kernel
theorem dX2_isApartFromOthers_52 : decode cX2_isApartFromOthers 52 = .ok (.ifCond .eq 29, 3) := by decide +kernel
theorem dX2_isApartFromOthers_55 : decode cX2_isApartFromOthers 55 = .ok (.aload 6, 2) := by decide +kernel
theorem dX2_isApartFromOthers_57 : decode cX2_isApartFromOthers 57 = .ok (.getfield 219, 3) := by decide +kernel
theorem dX2_isApartFromOthers_60 : decode cX2_isApartFromOthers 60 = .ok (.aload_n 1, 1) := by decide +kernel
theorem dX2_isApartFromOthers_61 : decode cX2_isApartFromOthers 61 = .ok (.getfield 219, 3) := by decide +kernel
theorem dX2_isApartFromOthers_64 : decode cX2_isApartFromOthers 64 = .ok (.if_icmp .eq 17, 3) := by decide +kernel
theorem dX2_isApartFromOthers_67 : decode cX2_isApartFromOthers 67 = .ok (.aload 6, 2) := by decide +kernel
theorem dX2_isApartFromOthers_69 : decode cX2_isApartFromOthers 69 = .ok (.getfield 165, 3) := by decide +kernel
theorem dX2_isApartFromOthers_72 : decode cX2_isApartFromOthers 72 = .ok (.aload_n 2, 1) := by decide +kernel
theorem dX2_isApartFromOthers_73 : decode cX2_isApartFromOthers 73 = .ok (.invokevirtual 231, 3) := by decide +kernel
theorem dX2_isApartFromOthers_76 : decode cX2_isApartFromOthers 76 = .ok (.ifCond .ne 5, 3) := by decide +kernel
theorem dX2_isApartFromOthers_79 : decode cX2_isApartFromOthers 79 = .ok (.iconst 0, 1) := by decide +kernel
theorem dX2_isApartFromOthers_80 : decode cX2_isApartFromOthers 80 = .ok (.ireturn, 1) := by decide +kernel
theorem dX2_isApartFromOthers_81 : decode cX2_isApartFromOthers 81 = .ok (.iinc 5 1, 3) := by decide +kernel
theorem dX2_isApartFromOthers_84 : decode cX2_isApartFromOthers 84 = .ok (.goto (-63), 3) := by decide +kernel
theorem dX2_isApartFromOthers_87 : decode cX2_isApartFromOthers 87 = .ok (.iconst 1, 1) := by decide +kernel
theorem dX2_isApartFromOthers_88 : decode cX2_isApartFromOthers 88 = .ok (.ireturn, 1) := by decide +kernel
set_option maxRecDepth 20000 in
theorem ggX2_nextToLoad_X0_goesBefore : GoodIn wsX2_nextToLoad wsX0_goesBefore := goodIn_r _ [6, 7, 8, 76, 77, 78, 79, 80, 81, 82, 83] (by decide +kernel) (by decide +kernel)
set_option maxRecDepth 20000 in
theorem gX2_nextToLoad_X0_goesBefore : GoodIn wsX2_nextToLoad (wsV RX2 235 RX0 yX0_goesBefore wsX0_goesBefore) := goodIn_app (goodIn_of _ (by decide +kernel)) ggX2_nextToLoad_X0_goesBefore
set_option maxRecDepth 20000 in
theorem ggX2_nextToLoad_X2_hasChoice : GoodIn wsX2_nextToLoad wsX2_hasChoice := goodIn_r _ [13, 14, 15, 16, 17, 12, 18, 19, 20, 21, 22, 23, 24, 25, 26, 5, 27, 28, 29, 30, 31, 32, 33, 34, 35, 36, 37, 38, 39, 40, 41, 42, 43, 44, 45, 46, 47, 48, 49, 50, 51, 1, 52, 53, 54, 55, 56, 57, 58, 59, 60, 61, 62, 63, 64, 65, 66, 67, 68, 69, 70, 71, 72, 73, 74, 75, 84, 85, 86, 87, 88, 76, 77, 78, 79, 80, 81, 82, 83] (by decide +kernel) (by decide +kernel)
set_option maxRecDepth 20000 in
theorem gX2_nextToLoad_X2_hasChoice : GoodIn wsX2_nextToLoad (wsV RX2 239 RX2 yX2_hasChoice wsX2_hasChoice) := goodIn_app (goodIn_of _ (by decide +kernel)) ggX2_nextToLoad_X2_hasChoice
theorem dX2_nextToLoad_0 : decode cX2_nextToLoad 0 = .ok (.aconst_null, 1) := by decide +kernel
theorem dX2_nextToLoad_1 : decode cX2_nextToLoad 1 = .ok (.astore_n 1, 1) := by decide +kernel
theorem dX2_nextToLoad_2 : decode cX2_nextToLoad 2 = .ok (.aload_n 0, 1) := by decide +kernel
theorem dX2_nextToLoad_3 : decode cX2_nextToLoad 3 = .ok (.getfield 11, 3) := by decide +kernel
theorem dX2_nextToLoad_6 : decode cX2_nextToLoad 6 = .ok (.astore_n 2, 1) := by decide +kernel
theorem dX2_nextToLoad_7 : decode cX2_nextToLoad 7 = .ok (.aload_n 2, 1) := by decide +kernel
theorem dX2_nextToLoad_8 : decode cX2_nextToLoad 8 = .ok (.arraylength, 1) := by decide +kernel
theorem dX2_nextToLoad_9 : decode cX2_nextToLoad 9 = .ok (.istore_n 3, 1) := by decide +kernel
theorem dX2_nextToLoad_10 : decode cX2_nextToLoad 10 = .ok (.iconst 0, 1) := by decide +kernel
theorem dX2_nextToLoad_11 : decode cX2_nextToLoad 11 = .ok (.istore 4, 2) := by decide +kernel
theorem dX2_nextToLoad_13 : decode cX2_nextToLoad 13 = .ok (.iload 4, 2) := by decide +kernel
theorem dX2_nextToLoad_15 : decode cX2_nextToLoad 15 = .ok (.iload_n 3, 1) := by decide +kernel
theorem dX2_nextToLoad_16 : decode cX2_nextToLoad 16 = .ok (.if_icmp .ge 45, 3) := by decide +kernel
theorem dX2_nextToLoad_19 : decode cX2_nextToLoad 19 = .ok (.aload_n 2, 1) := by decide +kernel
theorem dX2_nextToLoad_20 : decode cX2_nextToLoad 20 = .ok (.iload 4, 2) := by decide +kernel
theorem dX2_nextToLoad_22 : decode cX2_nextToLoad 22 = .ok (.aaload, 1) := by decide +kernel
theorem dX2_nextToLoad_23 : decode cX2_nextToLoad 23 = .ok (.astore 5, 2) := by decide +kernel
theorem dX2_nextToLoad_25 : decode cX2_nextToLoad 25 = .ok (.aload 5, 2) := by decide +kernel
theorem dX2_nextToLoad_27 : decode cX2_nextToLoad 27 = .ok (.ifnull 28, 3) := by decide +kernel
theorem dX2_nextToLoad_30 : decode cX2_nextToLoad 30 = .ok (.aload_n 1, 1) := by decide +kernel
theorem dX2_nextToLoad_31 : decode cX2_nextToLoad 31 = .ok (.ifnull 12, 3) := by decide +kernel
theorem dX2_nextToLoad_34 : decode cX2_nextToLoad 34 = .ok (.aload 5, 2) := by decide +kernel
theorem dX2_nextToLoad_36 : decode cX2_nextToLoad 36 = .ok (.aload_n 1, 1) := by decide +kernel
theorem dX2_nextToLoad_37 : decode cX2_nextToLoad 37 = .ok (.invokevirtual 235, 3) := by decide +kernel
theorem dX2_nextToLoad_40 : decode cX2_nextToLoad 40 = .ok (.ifCond .eq 15, 3) := by decide +kernel
theorem dX2_nextToLoad_43 : decode cX2_nextToLoad 43 = .ok (.aload_n 0, 1) := by decide +kernel
theorem dX2_nextToLoad_44 : decode cX2_nextToLoad 44 = .ok (.aload 5, 2) := by decide +kernel
theorem dX2_nextToLoad_46 : decode cX2_nextToLoad 46 = .ok (.invokevirtual 239, 3) := by decide +kernel
theorem dX2_nextToLoad_49 : decode cX2_nextToLoad 49 = .ok (.ifCond .eq 6, 3) := by decide +kernel
theorem dX2_nextToLoad_52 : decode cX2_nextToLoad 52 = .ok (.aload 5, 2) := by decide +kernel
theorem dX2_nextToLoad_54 : decode cX2_nextToLoad 54 = .ok (.astore_n 1, 1) := by decide +kernel
theorem dX2_nextToLoad_55 : decode cX2_nextToLoad 55 = .ok (.iinc 4 1, 3) := by decide +kernel
theorem dX2_nextToLoad_58 : decode cX2_nextToLoad 58 = .ok (.goto (-45), 3) := by decide +kernel
theorem dX2_nextToLoad_61 : decode cX2_nextToLoad 61 = .ok (.aload_n 1, 1) := by decide +kernel
theorem dX2_nextToLoad_62 : decode cX2_nextToLoad 62 = .ok (.areturn, 1) := by decide +kernel
set_option maxRecDepth 20000 in
theorem ggX2_hasChoice_X2_isLoadable : GoodIn wsX2_hasChoice wsX2_isLoadable := goodIn_r _ [6, 7, 8, 9, 10, 11, 12, 13, 14, 15, 16, 17, 18, 19, 20, 21, 22, 23, 24, 25, 26, 27, 28, 29, 30, 31, 32, 33, 34, 35, 36, 37, 38, 39, 5, 40, 41, 42, 43, 44, 45, 46, 47, 48, 49, 50, 51, 52, 53, 54, 55, 56, 57, 58, 59, 60, 61, 62, 63, 64, 65, 66, 67, 68, 69, 70, 71, 72, 73, 74, 75, 76, 77, 78] (by decide +kernel) (by decide +kernel)
set_option maxRecDepth 20000 in
theorem gX2_hasChoice_X2_isLoadable : GoodIn wsX2_hasChoice (wsV RX2 97 RX2 yX2_isLoadable wsX2_isLoadable) := goodIn_app (goodIn_of _ (by decide +kernel)) ggX2_hasChoice_X2_isLoadable
theorem dX2_hasChoice_0 : decode cX2_hasChoice 0 = .ok (.aload_n 0, 1) := by decide +kernel
theorem dX2_hasChoice_1 : decode cX2_hasChoice 1 = .ok (.getfield 17, 3) := by decide +kernel
theorem dX2_hasChoice_4 : decode cX2_hasChoice 4 = .ok (.astore_n 2, 1) := by decide +kernel
theorem dX2_hasChoice_5 : decode cX2_hasChoice 5 = .ok (.aload_n 2, 1) := by decide +kernel
theorem dX2_hasChoice_6 : decode cX2_hasChoice 6 = .ok (.arraylength, 1) := by decide +kernel
theorem dX2_hasChoice_7 : decode cX2_hasChoice 7 = .ok (.istore_n 3, 1) := by decide +kernel
theorem dX2_hasChoice_8 : decode cX2_hasChoice 8 = .ok (.iconst 0, 1) := by decide +kernel
theorem dX2_hasChoice_9 : decode cX2_hasChoice 9 = .ok (.istore 4, 2) := by decide +kernel
theorem dX2_hasChoice_11 : decode cX2_hasChoice 11 = .ok (.iload 4, 2) := by decide +kernel
theorem dX2_hasChoice_13 : decode cX2_hasChoice 13 = .ok (.iload_n 3, 1) := by decide +kernel
theorem dX2_hasChoice_14 : decode cX2_hasChoice 14 = .ok (.if_icmp .ge 27, 3) := by decide +kernel
theorem dX2_hasChoice_17 : decode cX2_hasChoice 17 = .ok (.aload_n 2, 1) := by decide +kernel
theorem dX2_hasChoice_18 : decode cX2_hasChoice 18 = .ok (.iload 4, 2) := by decide +kernel
theorem dX2_hasChoice_20 : decode cX2_hasChoice 20 = .ok (.aaload, 1) := by decide +kernel
theorem dX2_hasChoice_21 : decode cX2_hasChoice 21 = .ok (.astore 5, 2) := by decide +kernel
theorem dX2_hasChoice_23 : decode cX2_hasChoice 23 = .ok (.aload_n 0, 1) := by decide +kernel
theorem dX2_hasChoice_24 : decode cX2_hasChoice 24 = .ok (.aload_n 1, 1) := by decide +kernel
theorem dX2_hasChoice_25 : decode cX2_hasChoice 25 = .ok (.aload 5, 2) := by decide +kernel
theorem dX2_hasChoice_27 : decode cX2_hasChoice 27 = .ok (.invokevirtual 97, 3) := by decide +kernel
theorem dX2_hasChoice_30 : decode cX2_hasChoice 30 = .ok (.ifCond .eq 5, 3) := by decide +kernel
theorem dX2_hasChoice_33 : decode cX2_hasChoice 33 = .ok (.iconst 1, 1) := by decide +kernel
theorem dX2_hasChoice_34 : decode cX2_hasChoice 34 = .ok (.ireturn, 1) := by decide +kernel
theorem dX2_hasChoice_35 : decode cX2_hasChoice 35 = .ok (.iinc 4 1, 3) := by decide +kernel
theorem dX2_hasChoice_38 : decode cX2_hasChoice 38 = .ok (.goto (-27), 3) := by decide +kernel
theorem dX2_hasChoice_41 : decode cX2_hasChoice 41 = .ok (.iconst 0, 1) := by decide +kernel
theorem dX2_hasChoice_42 : decode cX2_hasChoice 42 = .ok (.ireturn, 1) := by decide +kernel
set_option maxRecDepth 20000 in
theorem ggX2_bestStackFor_X2_moment : GoodIn wsX2_bestStackFor wsX2_moment := goodIn_r _ [12, 1, 13, 14, 15, 16, 17, 18, 19, 20, 21, 22, 23, 24, 25, 26, 27, 28, 29, 77, 78, 79, 80, 81, 82, 83, 84, 93, 94, 95, 96, 97, 85, 86, 87, 88, 89, 90, 91, 92] (by decide +kernel) (by decide +kernel)
set_option maxRecDepth 20000 in
theorem gX2_bestStackFor_X2_moment : GoodIn wsX2_bestStackFor (wsV RX2 172 RX2 yX2_moment wsX2_moment) := goodIn_app (goodIn_of _ (by decide +kernel)) ggX2_bestStackFor_X2_moment
set_option maxRecDepth 20000 in
theorem ggX2_bestStackFor_X2_isLoadable : GoodIn wsX2_bestStackFor wsX2_isLoadable := goodIn_r _ [33, 34, 35, 3, 36, 37, 38, 39, 40, 41, 42, 43, 44, 45, 46, 47, 48, 49, 13, 14, 15, 16, 17, 18, 19, 50, 51, 52, 53, 54, 55, 56, 57, 58, 11, 59, 60, 61, 62, 63, 64, 65, 66, 67, 68, 69, 70, 24, 71, 5, 6, 7, 29, 77, 78, 79, 80, 81, 82, 83, 84, 93, 94, 95, 96, 97, 85, 86, 87, 88, 89, 90, 91, 92] (by decide +kernel) (by decide +kernel)
set_option maxRecDepth 20000 in
theorem gX2_bestStackFor_X2_isLoadable : GoodIn wsX2_bestStackFor (wsV RX2 97 RX2 yX2_isLoadable wsX2_isLoadable) := goodIn_app (goodIn_of _ (by decide +kernel)) ggX2_bestStackFor_X2_isLoadable
set_option maxRecDepth 20000 in
theorem ggX2_bestStackFor_X1_countLandedBefore : GoodIn wsX2_bestStackFor wsX1_countLandedBefore := goodIn_r _ [75, 18, 76, 93, 94, 95, 96, 97, 85, 86, 87, 88, 89, 90, 91, 92] (by decide +kernel) (by decide +kernel)
set_option maxRecDepth 20000 in
theorem gX2_bestStackFor_X1_countLandedBefore : GoodIn wsX2_bestStackFor (wsV RX2 245 RX1 yX1_countLandedBefore wsX1_countLandedBefore) := goodIn_app (goodIn_of _ (by decide +kernel)) ggX2_bestStackFor_X1_countLandedBefore
set_option maxRecDepth 20000 in
theorem ggX2_bestStackFor_X1_listArm : GoodIn wsX2_bestStackFor wsX1_listArm := goodIn_r _ [28, 29, 93, 94, 95, 96, 97] (by decide +kernel) (by decide +kernel)
set_option maxRecDepth 20000 in
theorem gX2_bestStackFor_X1_listArm : GoodIn wsX2_bestStackFor (wsV RX2 162 RX1 yX1_listArm wsX1_listArm) := goodIn_app (goodIn_of _ (by decide +kernel)) ggX2_bestStackFor_X1_listArm
set_option maxRecDepth 20000 in
theorem ggX2_bestStackFor_X1_trimArm : GoodIn wsX2_bestStackFor wsX1_trimArm := goodIn_r _ [23, 24, 93, 94, 95, 96, 97] (by decide +kernel) (by decide +kernel)
set_option maxRecDepth 20000 in
theorem gX2_bestStackFor_X1_trimArm : GoodIn wsX2_bestStackFor (wsV RX2 159 RX1 yX1_trimArm wsX1_trimArm) := goodIn_app (goodIn_of _ (by decide +kernel)) ggX2_bestStackFor_X1_trimArm
theorem dX2_bestStackFor_0 : decode cX2_bestStackFor 0 = .ok (.aload_n 1, 1) := by decide +kernel
theorem dX2_bestStackFor_1 : decode cX2_bestStackFor 1 = .ok (.ifnonnull 5, 3) := by decide +kernel
theorem dX2_bestStackFor_4 : decode cX2_bestStackFor 4 = .ok (.aconst_null, 1) := by decide +kernel
theorem dX2_bestStackFor_5 : decode cX2_bestStackFor 5 = .ok (.areturn, 1) := by decide +kernel
theorem dX2_bestStackFor_6 : decode cX2_bestStackFor 6 = .ok (.aload_n 0, 1) := by decide +kernel
theorem dX2_bestStackFor_7 : decode cX2_bestStackFor 7 = .ok (.iconst 0, 1) := by decide +kernel
theorem dX2_bestStackFor_8 : decode cX2_bestStackFor 8 = .ok (.invokevirtual 172, 3) := by decide +kernel
theorem dX2_bestStackFor_11 : decode cX2_bestStackFor 11 = .ok (.istore_n 2, 1) := by decide +kernel
theorem dX2_bestStackFor_12 : decode cX2_bestStackFor 12 = .ok (.aload_n 0, 1) := by decide +kernel
theorem dX2_bestStackFor_13 : decode cX2_bestStackFor 13 = .ok (.iconst 1, 1) := by decide +kernel
theorem dX2_bestStackFor_14 : decode cX2_bestStackFor 14 = .ok (.invokevirtual 172, 3) := by decide +kernel
theorem dX2_bestStackFor_17 : decode cX2_bestStackFor 17 = .ok (.istore_n 3, 1) := by decide +kernel
theorem dX2_bestStackFor_18 : decode cX2_bestStackFor 18 = .ok (.aconst_null, 1) := by decide +kernel
theorem dX2_bestStackFor_19 : decode cX2_bestStackFor 19 = .ok (.astore 4, 2) := by decide +kernel
theorem dX2_bestStackFor_21 : decode cX2_bestStackFor 21 = .ok (.iconst 0, 1) := by decide +kernel
theorem dX2_bestStackFor_22 : decode cX2_bestStackFor 22 = .ok (.istore 5, 2) := by decide +kernel
theorem dX2_bestStackFor_24 : decode cX2_bestStackFor 24 = .ok (.iconst 0, 1) := by decide +kernel
theorem dX2_bestStackFor_25 : decode cX2_bestStackFor 25 = .ok (.istore 6, 2) := by decide +kernel
theorem dX2_bestStackFor_27 : decode cX2_bestStackFor 27 = .ok (.iconst 0, 1) := by decide +kernel
theorem dX2_bestStackFor_28 : decode cX2_bestStackFor 28 = .ok (.istore 7, 2) := by decide +kernel
theorem dX2_bestStackFor_30 : decode cX2_bestStackFor 30 = .ok (.aload_n 0, 1) := by decide +kernel
theorem dX2_bestStackFor_31 : decode cX2_bestStackFor 31 = .ok (.getfield 17, 3) := by decide +kernel
theorem dX2_bestStackFor_34 : decode cX2_bestStackFor 34 = .ok (.astore 8, 2) := by decide +kernel
theorem dX2_bestStackFor_36 : decode cX2_bestStackFor 36 = .ok (.aload 8, 2) := by decide +kernel
theorem dX2_bestStackFor_38 : decode cX2_bestStackFor 38 = .ok (.arraylength, 1) := by decide +kernel
theorem dX2_bestStackFor_39 : decode cX2_bestStackFor 39 = .ok (.istore 9, 2) := by decide +kernel
theorem dX2_bestStackFor_41 : decode cX2_bestStackFor 41 = .ok (.iconst 0, 1) := by decide +kernel
theorem dX2_bestStackFor_42 : decode cX2_bestStackFor 42 = .ok (.istore 10, 2) := by decide +kernel
theorem dX2_bestStackFor_44 : decode cX2_bestStackFor 44 = .ok (.iload 10, 2) := by decide +kernel
theorem dX2_bestStackFor_46 : decode cX2_bestStackFor 46 = .ok (.iload 9, 2) := by decide +kernel
theorem dX2_bestStackFor_48 : decode cX2_bestStackFor 48 = .ok (.if_icmp .ge 132, 3) := by decide +kernel
theorem dX2_bestStackFor_51 : decode cX2_bestStackFor 51 = .ok (.aload 8, 2) := by decide +kernel
theorem dX2_bestStackFor_53 : decode cX2_bestStackFor 53 = .ok (.iload 10, 2) := by decide +kernel
theorem dX2_bestStackFor_55 : decode cX2_bestStackFor 55 = .ok (.aaload, 1) := by decide +kernel
theorem dX2_bestStackFor_56 : decode cX2_bestStackFor 56 = .ok (.astore 11, 2) := by decide +kernel
theorem dX2_bestStackFor_58 : decode cX2_bestStackFor 58 = .ok (.aload 11, 2) := by decide +kernel
theorem dX2_bestStackFor_60 : decode cX2_bestStackFor 60 = .ok (.ifnull 114, 3) := by decide +kernel
theorem dX2_bestStackFor_63 : decode cX2_bestStackFor 63 = .ok (.aload_n 0, 1) := by decide +kernel
theorem dX2_bestStackFor_64 : decode cX2_bestStackFor 64 = .ok (.aload_n 1, 1) := by decide +kernel
theorem dX2_bestStackFor_65 : decode cX2_bestStackFor 65 = .ok (.aload 11, 2) := by decide +kernel
theorem dX2_bestStackFor_67 : decode cX2_bestStackFor 67 = .ok (.invokevirtual 97, 3) := by decide +kernel
theorem dX2_bestStackFor_70 : decode cX2_bestStackFor 70 = .ok (.ifCond .eq 104, 3) := by decide +kernel
theorem dX2_bestStackFor_73 : decode cX2_bestStackFor 73 = .ok (.aload 11, 2) := by decide +kernel
theorem dX2_bestStackFor_75 : decode cX2_bestStackFor 75 = .ok (.aload_n 1, 1) := by decide +kernel
theorem dX2_bestStackFor_76 : decode cX2_bestStackFor 76 = .ok (.getfield 242, 3) := by decide +kernel
theorem dX2_bestStackFor_79 : decode cX2_bestStackFor 79 = .ok (.invokevirtual 245, 3) := by decide +kernel
theorem dX2_bestStackFor_82 : decode cX2_bestStackFor 82 = .ok (.istore 12, 2) := by decide +kernel
theorem dX2_bestStackFor_84 : decode cX2_bestStackFor 84 = .ok (.iload_n 2, 1) := by decide +kernel
theorem dX2_bestStackFor_85 : decode cX2_bestStackFor 85 = .ok (.aload_n 1, 1) := by decide +kernel
theorem dX2_bestStackFor_86 : decode cX2_bestStackFor 86 = .ok (.getfield 169, 3) := by decide +kernel
theorem dX2_bestStackFor_89 : decode cX2_bestStackFor 89 = .ok (.aload 11, 2) := by decide +kernel
theorem dX2_bestStackFor_91 : decode cX2_bestStackFor 91 = .ok (.invokevirtual 162, 3) := by decide +kernel
theorem dX2_bestStackFor_94 : decode cX2_bestStackFor 94 = .ok (.imul, 1) := by decide +kernel
theorem dX2_bestStackFor_95 : decode cX2_bestStackFor 95 = .ok (.iadd, 1) := by decide +kernel
theorem dX2_bestStackFor_96 : decode cX2_bestStackFor 96 = .ok (.invokestatic 176, 3) := by decide +kernel
theorem dX2_bestStackFor_99 : decode cX2_bestStackFor 99 = .ok (.istore 13, 2) := by decide +kernel
theorem dX2_bestStackFor_101 : decode cX2_bestStackFor 101 = .ok (.iload_n 3, 1) := by decide +kernel
theorem dX2_bestStackFor_102 : decode cX2_bestStackFor 102 = .ok (.aload_n 1, 1) := by decide +kernel
theorem dX2_bestStackFor_103 : decode cX2_bestStackFor 103 = .ok (.getfield 169, 3) := by decide +kernel
theorem dX2_bestStackFor_106 : decode cX2_bestStackFor 106 = .ok (.aload 11, 2) := by decide +kernel
theorem dX2_bestStackFor_108 : decode cX2_bestStackFor 108 = .ok (.invokevirtual 159, 3) := by decide +kernel
theorem dX2_bestStackFor_111 : decode cX2_bestStackFor 111 = .ok (.imul, 1) := by decide +kernel
theorem dX2_bestStackFor_112 : decode cX2_bestStackFor 112 = .ok (.iadd, 1) := by decide +kernel
theorem dX2_bestStackFor_113 : decode cX2_bestStackFor 113 = .ok (.invokestatic 176, 3) := by decide +kernel
theorem dX2_bestStackFor_116 : decode cX2_bestStackFor 116 = .ok (.istore 14, 2) := by decide +kernel
theorem dX2_bestStackFor_118 : decode cX2_bestStackFor 118 = .ok (.aload 4, 2) := by decide +kernel
theorem dX2_bestStackFor_120 : decode cX2_bestStackFor 120 = .ok (.ifnull 38, 3) := by decide +kernel
theorem dX2_bestStackFor_123 : decode cX2_bestStackFor 123 = .ok (.iload 12, 2) := by decide +kernel
theorem dX2_bestStackFor_125 : decode cX2_bestStackFor 125 = .ok (.iload 5, 2) := by decide +kernel
theorem dX2_bestStackFor_127 : decode cX2_bestStackFor 127 = .ok (.if_icmp .lt 31, 3) := by decide +kernel
theorem dX2_bestStackFor_130 : decode cX2_bestStackFor 130 = .ok (.iload 12, 2) := by decide +kernel
theorem dX2_bestStackFor_132 : decode cX2_bestStackFor 132 = .ok (.iload 5, 2) := by decide +kernel
theorem dX2_bestStackFor_134 : decode cX2_bestStackFor 134 = .ok (.if_icmp .ne 40, 3) := by decide +kernel
theorem dX2_bestStackFor_137 : decode cX2_bestStackFor 137 = .ok (.iload 13, 2) := by decide +kernel
theorem dX2_bestStackFor_139 : decode cX2_bestStackFor 139 = .ok (.iload 6, 2) := by decide +kernel
theorem dX2_bestStackFor_141 : decode cX2_bestStackFor 141 = .ok (.if_icmp .lt 17, 3) := by decide +kernel
theorem dX2_bestStackFor_144 : decode cX2_bestStackFor 144 = .ok (.iload 13, 2) := by decide +kernel
theorem dX2_bestStackFor_146 : decode cX2_bestStackFor 146 = .ok (.iload 6, 2) := by decide +kernel
theorem dX2_bestStackFor_148 : decode cX2_bestStackFor 148 = .ok (.if_icmp .ne 26, 3) := by decide +kernel
theorem dX2_bestStackFor_151 : decode cX2_bestStackFor 151 = .ok (.iload 14, 2) := by decide +kernel
theorem dX2_bestStackFor_153 : decode cX2_bestStackFor 153 = .ok (.iload 7, 2) := by decide +kernel
theorem dX2_bestStackFor_155 : decode cX2_bestStackFor 155 = .ok (.if_icmp .ge 19, 3) := by decide +kernel
theorem dX2_bestStackFor_158 : decode cX2_bestStackFor 158 = .ok (.aload 11, 2) := by decide +kernel
theorem dX2_bestStackFor_160 : decode cX2_bestStackFor 160 = .ok (.astore 4, 2) := by decide +kernel
theorem dX2_bestStackFor_162 : decode cX2_bestStackFor 162 = .ok (.iload 12, 2) := by decide +kernel
theorem dX2_bestStackFor_164 : decode cX2_bestStackFor 164 = .ok (.istore 5, 2) := by decide +kernel
theorem dX2_bestStackFor_166 : decode cX2_bestStackFor 166 = .ok (.iload 13, 2) := by decide +kernel
theorem dX2_bestStackFor_168 : decode cX2_bestStackFor 168 = .ok (.istore 6, 2) := by decide +kernel
theorem dX2_bestStackFor_170 : decode cX2_bestStackFor 170 = .ok (.iload 14, 2) := by decide +kernel
theorem dX2_bestStackFor_172 : decode cX2_bestStackFor 172 = .ok (.istore 7, 2) := by decide +kernel
theorem dX2_bestStackFor_174 : decode cX2_bestStackFor 174 = .ok (.iinc 10 1, 3) := by decide +kernel
theorem dX2_bestStackFor_177 : decode cX2_bestStackFor 177 = .ok (.goto (-133), 3) := by decide +kernel
theorem dX2_bestStackFor_180 : decode cX2_bestStackFor 180 = .ok (.aload 4, 2) := by decide +kernel
theorem dX2_bestStackFor_182 : decode cX2_bestStackFor 182 = .ok (.areturn, 1) := by decide +kernel
theorem dX3_init_0 : decode cX3_init 0 = .ok (.aload_n 0, 1) := by decide +kernel
theorem dX3_init_1 : decode cX3_init 1 = .ok (.invokespecial 3, 3) := by decide +kernel
theorem dX3_init_4 : decode cX3_init 4 = .ok (.aload_n 0, 1) := by decide +kernel
theorem dX3_init_5 : decode cX3_init 5 = .ok (.sipush 200, 3) := by decide +kernel
theorem dX3_init_8 : decode cX3_init 8 = .ok (.newarray .int, 2) := by decide +kernel
theorem dX3_init_10 : decode cX3_init 10 = .ok (.putfield 9, 3) := by decide +kernel
theorem dX3_init_13 : decode cX3_init 13 = .ok (.aload_n 0, 1) := by decide +kernel
theorem dX3_init_14 : decode cX3_init 14 = .ok (.bipush 40, 2) := by decide +kernel
theorem dX3_init_16 : decode cX3_init 16 = .ok (.newarray .int, 2) := by decide +kernel
theorem dX3_init_18 : decode cX3_init 18 = .ok (.putfield 13, 3) := by decide +kernel
theorem dX3_init_21 : decode cX3_init 21 = .ok (.aload_n 0, 1) := by decide +kernel
theorem dX3_init_22 : decode cX3_init 22 = .ok (.bipush 40, 2) := by decide +kernel
theorem dX3_init_24 : decode cX3_init 24 = .ok (.newarray .int, 2) := by decide +kernel
theorem dX3_init_26 : decode cX3_init 26 = .ok (.putfield 16, 3) := by decide +kernel
theorem dX3_init_29 : decode cX3_init 29 = .ok (.aload_n 0, 1) := by decide +kernel
theorem dX3_init_30 : decode cX3_init 30 = .ok (.bipush 30, 2) := by decide +kernel
theorem dX3_init_32 : decode cX3_init 32 = .ok (.newarray .boolean, 2) := by decide +kernel
theorem dX3_init_34 : decode cX3_init 34 = .ok (.putfield 19, 3) := by decide +kernel
theorem dX3_init_37 : decode cX3_init 37 = .ok (.aload_n 0, 1) := by decide +kernel
theorem dX3_init_38 : decode cX3_init 38 = .ok (.bipush 60, 2) := by decide +kernel
theorem dX3_init_40 : decode cX3_init 40 = .ok (.putfield 23, 3) := by decide +kernel
theorem dX3_init_43 : decode cX3_init 43 = .ok (.aload_n 0, 1) := by decide +kernel
theorem dX3_init_44 : decode cX3_init 44 = .ok (.bipush 60, 2) := by decide +kernel
theorem dX3_init_46 : decode cX3_init 46 = .ok (.putfield 27, 3) := by decide +kernel
theorem dX3_init_49 : decode cX3_init 49 = .ok (.aload_n 0, 1) := by decide +kernel
theorem dX3_init_50 : decode cX3_init 50 = .ok (.sipush 200, 3) := by decide +kernel
theorem dX3_init_53 : decode cX3_init 53 = .ok (.putfield 30, 3) := by decide +kernel
theorem dX3_init_56 : decode cX3_init 56 = .ok (.bipush 10, 2) := by decide +kernel
theorem dX3_init_58 : decode cX3_init 58 = .ok (.istore_n 1, 1) := by decide +kernel
theorem dX3_init_59 : decode cX3_init 59 = .ok (.iload_n 1, 1) := by decide +kernel
theorem dX3_init_60 : decode cX3_init 60 = .ok (.bipush 20, 2) := by decide +kernel
theorem dX3_init_62 : decode cX3_init 62 = .ok (.if_icmp .ge 16, 3) := by decide +kernel
theorem dX3_init_65 : decode cX3_init 65 = .ok (.aload_n 0, 1) := by decide +kernel
theorem dX3_init_66 : decode cX3_init 66 = .ok (.getfield 19, 3) := by decide +kernel
theorem dX3_init_69 : decode cX3_init 69 = .ok (.iload_n 1, 1) := by decide +kernel
theorem dX3_init_70 : decode cX3_init 70 = .ok (.iconst 1, 1) := by decide +kernel
theorem dX3_init_71 : decode cX3_init 71 = .ok (.bastore, 1) := by decide +kernel
theorem dX3_init_72 : decode cX3_init 72 = .ok (.iinc 1 1, 3) := by decide +kernel
theorem dX3_init_75 : decode cX3_init 75 = .ok (.goto (-16), 3) := by decide +kernel
theorem dX3_init_78 : decode cX3_init 78 = .ok (.return_, 1) := by decide +kernel
theorem dX3_thrown_0 : decode cX3_thrown 0 = .ok (.aload_n 0, 1) := by decide +kernel
theorem dX3_thrown_1 : decode cX3_thrown 1 = .ok (.getfield 33, 3) := by decide +kernel
theorem dX3_thrown_4 : decode cX3_thrown 4 = .ok (.ireturn, 1) := by decide +kernel
theorem dX3_fail_0 : decode cX3_fail 0 = .ok (.aload_n 0, 1) := by decide +kernel
theorem dX3_fail_1 : decode cX3_fail 1 = .ok (.iload_n 1, 1) := by decide +kernel
theorem dX3_fail_2 : decode cX3_fail 2 = .ok (.putfield 33, 3) := by decide +kernel
theorem dX3_fail_5 : decode cX3_fail 5 = .ok (.iconst 0, 1) := by decide +kernel
theorem dX3_fail_6 : decode cX3_fail 6 = .ok (.ireturn, 1) := by decide +kernel
theorem dX3_isIn_0 : decode cX3_isIn 0 = .ok (.iload_n 0, 1) := by decide +kernel
theorem dX3_isIn_1 : decode cX3_isIn 1 = .ok (.iload_n 1, 1) := by decide +kernel
theorem dX3_isIn_2 : decode cX3_isIn 2 = .ok (.if_icmp .lt 12, 3) := by decide +kernel
theorem dX3_isIn_5 : decode cX3_isIn 5 = .ok (.iload_n 0, 1) := by decide +kernel
theorem dX3_isIn_6 : decode cX3_isIn 6 = .ok (.iload_n 2, 1) := by decide +kernel
theorem dX3_isIn_7 : decode cX3_isIn 7 = .ok (.if_icmp .gt 7, 3) := by decide +kernel
theorem dX3_isIn_10 : decode cX3_isIn 10 = .ok (.iconst 1, 1) := by decide +kernel
theorem dX3_isIn_11 : decode cX3_isIn 11 = .ok (.goto 4, 3) := by decide +kernel
theorem dX3_isIn_14 : decode cX3_isIn 14 = .ok (.iconst 0, 1) := by decide +kernel
theorem dX3_isIn_15 : decode cX3_isIn 15 = .ok (.ireturn, 1) := by decide +kernel
set_option maxRecDepth 20000 in
theorem ggX3_isContainer_X3_isIn : GoodIn wsX3_isContainer wsX3_isIn := goodIn_r _ [5] (by decide +kernel) (by decide +kernel)
set_option maxRecDepth 20000 in
theorem gX3_isContainer_X3_isIn : GoodIn wsX3_isContainer (va_wsS RX3 39 yX3_isIn wsX3_isIn) := goodIn_app (goodIn_of _ (by decide +kernel)) ggX3_isContainer_X3_isIn
theorem dX3_isContainer_0 : decode cX3_isContainer 0 = .ok (.iload_n 1, 1) := by decide +kernel
theorem dX3_isContainer_1 : decode cX3_isContainer 1 = .ok (.iconst 0, 1) := by decide +kernel
theorem dX3_isContainer_2 : decode cX3_isContainer 2 = .ok (.aload_n 0, 1) := by decide +kernel
theorem dX3_isContainer_3 : decode cX3_isContainer 3 = .ok (.getfield 36, 3) := by decide +kernel
theorem dX3_isContainer_6 : decode cX3_isContainer 6 = .ok (.iconst 1, 1) := by decide +kernel
theorem dX3_isContainer_7 : decode cX3_isContainer 7 = .ok (.isub, 1) := by decide +kernel
theorem dX3_isContainer_8 : decode cX3_isContainer 8 = .ok (.invokestatic 39, 3) := by decide +kernel
theorem dX3_isContainer_11 : decode cX3_isContainer 11 = .ok (.ireturn, 1) := by decide +kernel
set_option maxRecDepth 20000 in
theorem ggX3_isStack_X3_isIn : GoodIn wsX3_isStack wsX3_isIn := goodIn_r _ [4] (by decide +kernel) (by decide +kernel)
set_option maxRecDepth 20000 in
theorem gX3_isStack_X3_isIn : GoodIn wsX3_isStack (va_wsS RX3 39 yX3_isIn wsX3_isIn) := goodIn_app (goodIn_of _ (by decide +kernel)) ggX3_isStack_X3_isIn
theorem dX3_isStack_0 : decode cX3_isStack 0 = .ok (.iload_n 0, 1) := by decide +kernel
theorem dX3_isStack_1 : decode cX3_isStack 1 = .ok (.iconst 0, 1) := by decide +kernel
theorem dX3_isStack_2 : decode cX3_isStack 2 = .ok (.iconst 5, 1) := by decide +kernel
theorem dX3_isStack_3 : decode cX3_isStack 3 = .ok (.invokestatic 39, 3) := by decide +kernel
theorem dX3_isStack_6 : decode cX3_isStack 6 = .ok (.ifCond .eq 16, 3) := by decide +kernel
theorem dX3_isStack_9 : decode cX3_isStack 9 = .ok (.iload_n 1, 1) := by decide +kernel
theorem dX3_isStack_10 : decode cX3_isStack 10 = .ok (.iconst 0, 1) := by decide +kernel
theorem dX3_isStack_11 : decode cX3_isStack 11 = .ok (.iconst 4, 1) := by decide +kernel
theorem dX3_isStack_12 : decode cX3_isStack 12 = .ok (.invokestatic 39, 3) := by decide +kernel
theorem dX3_isStack_15 : decode cX3_isStack 15 = .ok (.ifCond .eq 7, 3) := by decide +kernel
theorem dX3_isStack_18 : decode cX3_isStack 18 = .ok (.iconst 1, 1) := by decide +kernel
theorem dX3_isStack_19 : decode cX3_isStack 19 = .ok (.goto 4, 3) := by decide +kernel
theorem dX3_isStack_22 : decode cX3_isStack 22 = .ok (.iconst 0, 1) := by decide +kernel
theorem dX3_isStack_23 : decode cX3_isStack 23 = .ok (.ireturn, 1) := by decide +kernel
theorem dX3_stack_0 : decode cX3_stack 0 = .ok (.iconst 5, 1) := by decide +kernel
theorem dX3_stack_1 : decode cX3_stack 1 = .ok (.iload_n 0, 1) := by decide +kernel
theorem dX3_stack_2 : decode cX3_stack 2 = .ok (.imul, 1) := by decide +kernel
theorem dX3_stack_3 : decode cX3_stack 3 = .ok (.iload_n 1, 1) := by decide +kernel
theorem dX3_stack_4 : decode cX3_stack 4 = .ok (.iadd, 1) := by decide +kernel
theorem dX3_stack_5 : decode cX3_stack 5 = .ok (.ireturn, 1) := by decide +kernel
theorem dX3_heavy_0 : decode cX3_heavy 0 = .ok (.aload_n 0, 1) := by decide +kernel
theorem dX3_heavy_1 : decode cX3_heavy 1 = .ok (.getfield 9, 3) := by decide +kernel
theorem dX3_heavy_4 : decode cX3_heavy 4 = .ok (.iconst 5, 1) := by decide +kernel
theorem dX3_heavy_5 : decode cX3_heavy 5 = .ok (.iload_n 1, 1) := by decide +kernel
theorem dX3_heavy_6 : decode cX3_heavy 6 = .ok (.imul, 1) := by decide +kernel
theorem dX3_heavy_7 : decode cX3_heavy 7 = .ok (.iaload, 1) := by decide +kernel
theorem dX3_heavy_8 : decode cX3_heavy 8 = .ok (.ireturn, 1) := by decide +kernel
theorem dX3_to_0 : decode cX3_to 0 = .ok (.aload_n 0, 1) := by decide +kernel
theorem dX3_to_1 : decode cX3_to 1 = .ok (.getfield 9, 3) := by decide +kernel
theorem dX3_to_4 : decode cX3_to 4 = .ok (.iconst 5, 1) := by decide +kernel
theorem dX3_to_5 : decode cX3_to 5 = .ok (.iload_n 1, 1) := by decide +kernel
theorem dX3_to_6 : decode cX3_to 6 = .ok (.imul, 1) := by decide +kernel
theorem dX3_to_7 : decode cX3_to 7 = .ok (.iconst 2, 1) := by decide +kernel
theorem dX3_to_8 : decode cX3_to 8 = .ok (.iadd, 1) := by decide +kernel
theorem dX3_to_9 : decode cX3_to 9 = .ok (.iaload, 1) := by decide +kernel
theorem dX3_to_10 : decode cX3_to 10 = .ok (.ireturn, 1) := by decide +kernel
theorem dX3_kind_0 : decode cX3_kind 0 = .ok (.aload_n 0, 1) := by decide +kernel
theorem dX3_kind_1 : decode cX3_kind 1 = .ok (.getfield 9, 3) := by decide +kernel
theorem dX3_kind_4 : decode cX3_kind 4 = .ok (.iconst 5, 1) := by decide +kernel
theorem dX3_kind_5 : decode cX3_kind 5 = .ok (.iload_n 1, 1) := by decide +kernel
theorem dX3_kind_6 : decode cX3_kind 6 = .ok (.imul, 1) := by decide +kernel
theorem dX3_kind_7 : decode cX3_kind 7 = .ok (.iconst 3, 1) := by decide +kernel
theorem dX3_kind_8 : decode cX3_kind 8 = .ok (.iadd, 1) := by decide +kernel
theorem dX3_kind_9 : decode cX3_kind 9 = .ok (.iaload, 1) := by decide +kernel
theorem dX3_kind_10 : decode cX3_kind 10 = .ok (.ireturn, 1) := by decide +kernel
theorem dX3_state_0 : decode cX3_state 0 = .ok (.aload_n 0, 1) := by decide +kernel
theorem dX3_state_1 : decode cX3_state 1 = .ok (.getfield 9, 3) := by decide +kernel
theorem dX3_state_4 : decode cX3_state 4 = .ok (.iconst 5, 1) := by decide +kernel
theorem dX3_state_5 : decode cX3_state 5 = .ok (.iload_n 1, 1) := by decide +kernel
theorem dX3_state_6 : decode cX3_state 6 = .ok (.imul, 1) := by decide +kernel
theorem dX3_state_7 : decode cX3_state 7 = .ok (.iconst 4, 1) := by decide +kernel
theorem dX3_state_8 : decode cX3_state 8 = .ok (.iadd, 1) := by decide +kernel
theorem dX3_state_9 : decode cX3_state 9 = .ok (.iaload, 1) := by decide +kernel
theorem dX3_state_10 : decode cX3_state 10 = .ok (.ireturn, 1) := by decide +kernel
set_option maxRecDepth 20000 in
theorem ggX3_isOn_X3_state : GoodIn wsX3_isOn wsX3_state := goodIn_r _ [6, 7, 8, 9, 10, 11, 12, 13, 14, 15, 16, 17, 18, 19, 20] (by decide +kernel) (by decide +kernel)
set_option maxRecDepth 20000 in
theorem gX3_isOn_X3_state : GoodIn wsX3_isOn (wsV RX3 43 RX3 yX3_state wsX3_state) := goodIn_app (goodIn_of _ (by decide +kernel)) ggX3_isOn_X3_state
theorem dX3_isOn_0 : decode cX3_isOn 0 = .ok (.aload_n 0, 1) := by decide +kernel
theorem dX3_isOn_1 : decode cX3_isOn 1 = .ok (.iload_n 1, 1) := by decide +kernel
theorem dX3_isOn_2 : decode cX3_isOn 2 = .ok (.invokevirtual 43, 3) := by decide +kernel
theorem dX3_isOn_5 : decode cX3_isOn 5 = .ok (.iconst 1, 1) := by decide +kernel
theorem dX3_isOn_6 : decode cX3_isOn 6 = .ok (.if_icmp .ne 17, 3) := by decide +kernel
theorem dX3_isOn_9 : decode cX3_isOn 9 = .ok (.aload_n 0, 1) := by decide +kernel
theorem dX3_isOn_10 : decode cX3_isOn 10 = .ok (.getfield 13, 3) := by decide +kernel
theorem dX3_isOn_13 : decode cX3_isOn 13 = .ok (.iload_n 1, 1) := by decide +kernel
theorem dX3_isOn_14 : decode cX3_isOn 14 = .ok (.iaload, 1) := by decide +kernel
theorem dX3_isOn_15 : decode cX3_isOn 15 = .ok (.iload_n 2, 1) := by decide +kernel
theorem dX3_isOn_16 : decode cX3_isOn 16 = .ok (.if_icmp .ne 7, 3) := by decide +kernel
theorem dX3_isOn_19 : decode cX3_isOn 19 = .ok (.iconst 1, 1) := by decide +kernel
theorem dX3_isOn_20 : decode cX3_isOn 20 = .ok (.goto 4, 3) := by decide +kernel
theorem dX3_isOn_23 : decode cX3_isOn 23 = .ok (.iconst 0, 1) := by decide +kernel
theorem dX3_isOn_24 : decode cX3_isOn 24 = .ok (.ireturn, 1) := by decide +kernel
set_option maxRecDepth 20000 in
theorem ggX3_high_X3_isOn : GoodIn wsX3_high wsX3_isOn := goodIn_r _ [6, 7, 8, 9, 10, 5, 11, 12, 13, 14, 15, 16, 17, 18, 19, 20, 21, 22, 23, 24, 25] (by decide +kernel) (by decide +kernel)
set_option maxRecDepth 20000 in
theorem gX3_high_X3_isOn : GoodIn wsX3_high (wsV RX3 47 RX3 yX3_isOn wsX3_isOn) := goodIn_app (goodIn_of _ (by decide +kernel)) ggX3_high_X3_isOn
theorem dX3_high_0 : decode cX3_high 0 = .ok (.iconst 0, 1) := by decide +kernel
theorem dX3_high_1 : decode cX3_high 1 = .ok (.istore_n 2, 1) := by decide +kernel
theorem dX3_high_2 : decode cX3_high 2 = .ok (.iconst 0, 1) := by decide +kernel
theorem dX3_high_3 : decode cX3_high 3 = .ok (.istore_n 3, 1) := by decide +kernel
theorem dX3_high_4 : decode cX3_high 4 = .ok (.iload_n 3, 1) := by decide +kernel
theorem dX3_high_5 : decode cX3_high 5 = .ok (.aload_n 0, 1) := by decide +kernel
theorem dX3_high_6 : decode cX3_high 6 = .ok (.getfield 36, 3) := by decide +kernel
theorem dX3_high_9 : decode cX3_high 9 = .ok (.if_icmp .ge 26, 3) := by decide +kernel
theorem dX3_high_12 : decode cX3_high 12 = .ok (.iload_n 2, 1) := by decide +kernel
theorem dX3_high_13 : decode cX3_high 13 = .ok (.aload_n 0, 1) := by decide +kernel
theorem dX3_high_14 : decode cX3_high 14 = .ok (.iload_n 3, 1) := by decide +kernel
theorem dX3_high_15 : decode cX3_high 15 = .ok (.iload_n 1, 1) := by decide +kernel
theorem dX3_high_16 : decode cX3_high 16 = .ok (.invokevirtual 47, 3) := by decide +kernel
theorem dX3_high_19 : decode cX3_high 19 = .ok (.ifCond .eq 7, 3) := by decide +kernel
theorem dX3_high_22 : decode cX3_high 22 = .ok (.iconst 1, 1) := by decide +kernel
theorem dX3_high_23 : decode cX3_high 23 = .ok (.goto 4, 3) := by decide +kernel
theorem dX3_high_26 : decode cX3_high 26 = .ok (.iconst 0, 1) := by decide +kernel
theorem dX3_high_27 : decode cX3_high 27 = .ok (.iadd, 1) := by decide +kernel
theorem dX3_high_28 : decode cX3_high 28 = .ok (.istore_n 2, 1) := by decide +kernel
theorem dX3_high_29 : decode cX3_high 29 = .ok (.iinc 3 1, 3) := by decide +kernel
theorem dX3_high_32 : decode cX3_high 32 = .ok (.goto (-28), 3) := by decide +kernel
theorem dX3_high_35 : decode cX3_high 35 = .ok (.iload_n 2, 1) := by decide +kernel
theorem dX3_high_36 : decode cX3_high 36 = .ok (.ireturn, 1) := by decide +kernel
set_option maxRecDepth 20000 in
theorem ggX3_find_X3_isOn : GoodIn wsX3_find wsX3_isOn := goodIn_r _ [7, 8, 9, 10, 11, 6, 12, 13, 14, 15, 16, 17, 18, 19, 20, 21, 22, 23, 24, 25, 26] (by decide +kernel) (by decide +kernel)
set_option maxRecDepth 20000 in
theorem gX3_find_X3_isOn : GoodIn wsX3_find (wsV RX3 47 RX3 yX3_isOn wsX3_isOn) := goodIn_app (goodIn_of _ (by decide +kernel)) ggX3_find_X3_isOn
theorem dX3_find_0 : decode cX3_find 0 = .ok (.iconst 0, 1) := by decide +kernel
theorem dX3_find_1 : decode cX3_find 1 = .ok (.istore_n 3, 1) := by decide +kernel
theorem dX3_find_2 : decode cX3_find 2 = .ok (.iload_n 3, 1) := by decide +kernel
theorem dX3_find_3 : decode cX3_find 3 = .ok (.aload_n 0, 1) := by decide +kernel
theorem dX3_find_4 : decode cX3_find 4 = .ok (.getfield 36, 3) := by decide +kernel
theorem dX3_find_7 : decode cX3_find 7 = .ok (.if_icmp .ge 30, 3) := by decide +kernel
theorem dX3_find_10 : decode cX3_find 10 = .ok (.aload_n 0, 1) := by decide +kernel
theorem dX3_find_11 : decode cX3_find 11 = .ok (.iload_n 3, 1) := by decide +kernel
theorem dX3_find_12 : decode cX3_find 12 = .ok (.iload_n 1, 1) := by decide +kernel
theorem dX3_find_13 : decode cX3_find 13 = .ok (.invokevirtual 47, 3) := by decide +kernel
theorem dX3_find_16 : decode cX3_find 16 = .ok (.ifCond .eq 15, 3) := by decide +kernel
theorem dX3_find_19 : decode cX3_find 19 = .ok (.aload_n 0, 1) := by decide +kernel
theorem dX3_find_20 : decode cX3_find 20 = .ok (.getfield 16, 3) := by decide +kernel
theorem dX3_find_23 : decode cX3_find 23 = .ok (.iload_n 3, 1) := by decide +kernel
theorem dX3_find_24 : decode cX3_find 24 = .ok (.iaload, 1) := by decide +kernel
theorem dX3_find_25 : decode cX3_find 25 = .ok (.iload_n 2, 1) := by decide +kernel
theorem dX3_find_26 : decode cX3_find 26 = .ok (.if_icmp .ne 5, 3) := by decide +kernel
theorem dX3_find_29 : decode cX3_find 29 = .ok (.iload_n 3, 1) := by decide +kernel
theorem dX3_find_30 : decode cX3_find 30 = .ok (.ireturn, 1) := by decide +kernel
theorem dX3_find_31 : decode cX3_find 31 = .ok (.iinc 3 1, 3) := by decide +kernel
theorem dX3_find_34 : decode cX3_find 34 = .ok (.goto (-32), 3) := by decide +kernel
theorem dX3_find_37 : decode cX3_find 37 = .ok (.iconst (-1), 1) := by decide +kernel
theorem dX3_find_38 : decode cX3_find 38 = .ok (.ireturn, 1) := by decide +kernel
set_option maxRecDepth 20000 in
theorem ggX3_addContainer_X3_isIn : GoodIn wsX3_addContainer wsX3_isIn := goodIn_r _ [13] (by decide +kernel) (by decide +kernel)
set_option maxRecDepth 20000 in
theorem gX3_addContainer_X3_isIn : GoodIn wsX3_addContainer (va_wsS RX3 39 yX3_isIn wsX3_isIn) := goodIn_app (goodIn_of _ (by decide +kernel)) ggX3_addContainer_X3_isIn
set_option maxRecDepth 20000 in
theorem ggX3_addContainer_X3_fail : GoodIn wsX3_addContainer wsX3_fail := goodIn_r _ [17, 1, 18, 19, 20, 21, 22, 23, 24, 25, 26, 27, 28, 29, 30] (by decide +kernel) (by decide +kernel)
set_option maxRecDepth 20000 in
theorem gX3_addContainer_X3_fail : GoodIn wsX3_addContainer (wsV RX3 51 RX3 yX3_fail wsX3_fail) := goodIn_app (goodIn_of _ (by decide +kernel)) ggX3_addContainer_X3_fail
theorem dX3_addContainer_0 : decode cX3_addContainer 0 = .ok (.aload_n 0, 1) := by decide +kernel
theorem dX3_addContainer_1 : decode cX3_addContainer 1 = .ok (.iconst 0, 1) := by decide +kernel
theorem dX3_addContainer_2 : decode cX3_addContainer 2 = .ok (.putfield 33, 3) := by decide +kernel
theorem dX3_addContainer_5 : decode cX3_addContainer 5 = .ok (.iload_n 1, 1) := by decide +kernel
theorem dX3_addContainer_6 : decode cX3_addContainer 6 = .ok (.iconst 1, 1) := by decide +kernel
theorem dX3_addContainer_7 : decode cX3_addContainer 7 = .ok (.bipush 30, 2) := by decide +kernel
theorem dX3_addContainer_9 : decode cX3_addContainer 9 = .ok (.invokestatic 39, 3) := by decide +kernel
theorem dX3_addContainer_12 : decode cX3_addContainer 12 = .ok (.ifCond .eq 33, 3) := by decide +kernel
theorem dX3_addContainer_15 : decode cX3_addContainer 15 = .ok (.iload_n 2, 1) := by decide +kernel
theorem dX3_addContainer_16 : decode cX3_addContainer 16 = .ok (.iconst 0, 1) := by decide +kernel
theorem dX3_addContainer_17 : decode cX3_addContainer 17 = .ok (.iconst 4, 1) := by decide +kernel
theorem dX3_addContainer_18 : decode cX3_addContainer 18 = .ok (.invokestatic 39, 3) := by decide +kernel
theorem dX3_addContainer_21 : decode cX3_addContainer 21 = .ok (.ifCond .eq 24, 3) := by decide +kernel
theorem dX3_addContainer_24 : decode cX3_addContainer 24 = .ok (.iload_n 3, 1) := by decide +kernel
theorem dX3_addContainer_25 : decode cX3_addContainer 25 = .ok (.iload_n 2, 1) := by decide +kernel
theorem dX3_addContainer_26 : decode cX3_addContainer 26 = .ok (.iconst 1, 1) := by decide +kernel
theorem dX3_addContainer_27 : decode cX3_addContainer 27 = .ok (.iadd, 1) := by decide +kernel
theorem dX3_addContainer_28 : decode cX3_addContainer 28 = .ok (.iconst 5, 1) := by decide +kernel
theorem dX3_addContainer_29 : decode cX3_addContainer 29 = .ok (.invokestatic 39, 3) := by decide +kernel
theorem dX3_addContainer_32 : decode cX3_addContainer 32 = .ok (.ifCond .eq 13, 3) := by decide +kernel
theorem dX3_addContainer_35 : decode cX3_addContainer 35 = .ok (.iload 4, 2) := by decide +kernel
theorem dX3_addContainer_37 : decode cX3_addContainer 37 = .ok (.iconst 0, 1) := by decide +kernel
theorem dX3_addContainer_38 : decode cX3_addContainer 38 = .ok (.iconst 4, 1) := by decide +kernel
theorem dX3_addContainer_39 : decode cX3_addContainer 39 = .ok (.invokestatic 39, 3) := by decide +kernel
theorem dX3_addContainer_42 : decode cX3_addContainer 42 = .ok (.ifCond .ne 9, 3) := by decide +kernel
theorem dX3_addContainer_45 : decode cX3_addContainer 45 = .ok (.aload_n 0, 1) := by decide +kernel
theorem dX3_addContainer_46 : decode cX3_addContainer 46 = .ok (.iconst 1, 1) := by decide +kernel
theorem dX3_addContainer_47 : decode cX3_addContainer 47 = .ok (.invokevirtual 51, 3) := by decide +kernel
theorem dX3_addContainer_50 : decode cX3_addContainer 50 = .ok (.ireturn, 1) := by decide +kernel
theorem dX3_addContainer_51 : decode cX3_addContainer 51 = .ok (.iload_n 2, 1) := by decide +kernel
theorem dX3_addContainer_52 : decode cX3_addContainer 52 = .ok (.aload_n 0, 1) := by decide +kernel
theorem dX3_addContainer_53 : decode cX3_addContainer 53 = .ok (.getfield 54, 3) := by decide +kernel
theorem dX3_addContainer_56 : decode cX3_addContainer 56 = .ok (.if_icmp .lt 12, 3) := by decide +kernel
theorem dX3_addContainer_59 : decode cX3_addContainer 59 = .ok (.aload_n 0, 1) := by decide +kernel
theorem dX3_addContainer_60 : decode cX3_addContainer 60 = .ok (.getfield 36, 3) := by decide +kernel
theorem dX3_addContainer_63 : decode cX3_addContainer 63 = .ok (.bipush 40, 2) := by decide +kernel
theorem dX3_addContainer_65 : decode cX3_addContainer 65 = .ok (.if_icmp .ne 9, 3) := by decide +kernel
theorem dX3_addContainer_68 : decode cX3_addContainer 68 = .ok (.aload_n 0, 1) := by decide +kernel
theorem dX3_addContainer_69 : decode cX3_addContainer 69 = .ok (.iconst 2, 1) := by decide +kernel
theorem dX3_addContainer_70 : decode cX3_addContainer 70 = .ok (.invokevirtual 51, 3) := by decide +kernel
theorem dX3_addContainer_73 : decode cX3_addContainer 73 = .ok (.ireturn, 1) := by decide +kernel
theorem dX3_addContainer_74 : decode cX3_addContainer 74 = .ok (.iconst 5, 1) := by decide +kernel
theorem dX3_addContainer_75 : decode cX3_addContainer 75 = .ok (.newarray .int, 2) := by decide +kernel
theorem dX3_addContainer_77 : decode cX3_addContainer 77 = .ok (.dup, 1) := by decide +kernel
theorem dX3_addContainer_78 : decode cX3_addContainer 78 = .ok (.iconst 0, 1) := by decide +kernel
theorem dX3_addContainer_79 : decode cX3_addContainer 79 = .ok (.iload_n 1, 1) := by decide +kernel
theorem dX3_addContainer_80 : decode cX3_addContainer 80 = .ok (.iastore, 1) := by decide +kernel
theorem dX3_addContainer_81 : decode cX3_addContainer 81 = .ok (.dup, 1) := by decide +kernel
theorem dX3_addContainer_82 : decode cX3_addContainer 82 = .ok (.iconst 1, 1) := by decide +kernel
theorem dX3_addContainer_83 : decode cX3_addContainer 83 = .ok (.iload_n 2, 1) := by decide +kernel
theorem dX3_addContainer_84 : decode cX3_addContainer 84 = .ok (.iastore, 1) := by decide +kernel
theorem dX3_addContainer_85 : decode cX3_addContainer 85 = .ok (.dup, 1) := by decide +kernel
theorem dX3_addContainer_86 : decode cX3_addContainer 86 = .ok (.iconst 2, 1) := by decide +kernel
theorem dX3_addContainer_87 : decode cX3_addContainer 87 = .ok (.iload_n 3, 1) := by decide +kernel
theorem dX3_addContainer_88 : decode cX3_addContainer 88 = .ok (.iastore, 1) := by decide +kernel
theorem dX3_addContainer_89 : decode cX3_addContainer 89 = .ok (.dup, 1) := by decide +kernel
theorem dX3_addContainer_90 : decode cX3_addContainer 90 = .ok (.iconst 3, 1) := by decide +kernel
theorem dX3_addContainer_91 : decode cX3_addContainer 91 = .ok (.iload 4, 2) := by decide +kernel
theorem dX3_addContainer_93 : decode cX3_addContainer 93 = .ok (.iastore, 1) := by decide +kernel
theorem dX3_addContainer_94 : decode cX3_addContainer 94 = .ok (.dup, 1) := by decide +kernel
theorem dX3_addContainer_95 : decode cX3_addContainer 95 = .ok (.iconst 4, 1) := by decide +kernel
theorem dX3_addContainer_96 : decode cX3_addContainer 96 = .ok (.iconst 0, 1) := by decide +kernel
theorem dX3_addContainer_97 : decode cX3_addContainer 97 = .ok (.iastore, 1) := by decide +kernel
theorem dX3_addContainer_98 : decode cX3_addContainer 98 = .ok (.astore 5, 2) := by decide +kernel
theorem dX3_addContainer_100 : decode cX3_addContainer 100 = .ok (.aload 5, 2) := by decide +kernel
theorem dX3_addContainer_102 : decode cX3_addContainer 102 = .ok (.iconst 0, 1) := by decide +kernel
theorem dX3_addContainer_103 : decode cX3_addContainer 103 = .ok (.aload_n 0, 1) := by decide +kernel
theorem dX3_addContainer_104 : decode cX3_addContainer 104 = .ok (.getfield 9, 3) := by decide +kernel
theorem dX3_addContainer_107 : decode cX3_addContainer 107 = .ok (.iconst 5, 1) := by decide +kernel
theorem dX3_addContainer_108 : decode cX3_addContainer 108 = .ok (.aload_n 0, 1) := by decide +kernel
theorem dX3_addContainer_109 : decode cX3_addContainer 109 = .ok (.getfield 36, 3) := by decide +kernel
theorem dX3_addContainer_112 : decode cX3_addContainer 112 = .ok (.imul, 1) := by decide +kernel
theorem dX3_addContainer_113 : decode cX3_addContainer 113 = .ok (.iconst 5, 1) := by decide +kernel
theorem dX3_addContainer_114 : decode cX3_addContainer 114 = .ok (.invokestatic 57, 3) := by decide +kernel
theorem dX3_addContainer_117 : decode cX3_addContainer 117 = .ok (.aload_n 0, 1) := by decide +kernel
theorem dX3_addContainer_118 : decode cX3_addContainer 118 = .ok (.dup, 1) := by decide +kernel
theorem dX3_addContainer_119 : decode cX3_addContainer 119 = .ok (.getfield 36, 3) := by decide +kernel
theorem dX3_addContainer_122 : decode cX3_addContainer 122 = .ok (.iconst 1, 1) := by decide +kernel
theorem dX3_addContainer_123 : decode cX3_addContainer 123 = .ok (.iadd, 1) := by decide +kernel
theorem dX3_addContainer_124 : decode cX3_addContainer 124 = .ok (.putfield 36, 3) := by decide +kernel
theorem dX3_addContainer_127 : decode cX3_addContainer 127 = .ok (.aload_n 0, 1) := by decide +kernel
theorem dX3_addContainer_128 : decode cX3_addContainer 128 = .ok (.getfield 36, 3) := by decide +kernel
theorem dX3_addContainer_131 : decode cX3_addContainer 131 = .ok (.iconst 1, 1) := by decide +kernel
theorem dX3_addContainer_132 : decode cX3_addContainer 132 = .ok (.isub, 1) := by decide +kernel
theorem dX3_addContainer_133 : decode cX3_addContainer 133 = .ok (.ireturn, 1) := by decide +kernel
set_option maxRecDepth 20000 in
theorem ggX3_container_X3_isContainer : GoodIn wsX3_container wsX3_isContainer := goodIn_r _ [7, 8, 9, 10, 6, 11, 16, 17, 18, 19, 20, 21, 22, 23, 24, 25, 26, 27, 28] (by decide +kernel) (by decide +kernel)
set_option maxRecDepth 20000 in
theorem gX3_container_X3_isContainer : GoodIn wsX3_container (wsV RX3 63 RX3 yX3_isContainer wsX3_isContainer) := goodIn_app (goodIn_of _ (by decide +kernel)) ggX3_container_X3_isContainer
set_option maxRecDepth 20000 in
theorem ggX3_container_X3_isIn : GoodIn wsX3_container wsX3_isIn := goodIn_r _ [11] (by decide +kernel) (by decide +kernel)
set_option maxRecDepth 20000 in
theorem gX3_container_X3_isIn : GoodIn wsX3_container (va_wsS RX3 39 yX3_isIn wsX3_isIn) := goodIn_app (goodIn_of _ (by decide +kernel)) ggX3_container_X3_isIn
set_option maxRecDepth 20000 in
theorem ggX3_container_X3_fail : GoodIn wsX3_container wsX3_fail := goodIn_r _ [15, 1, 16, 17, 18, 19, 20, 21, 22, 23, 24, 25, 26, 27, 28] (by decide +kernel) (by decide +kernel)
set_option maxRecDepth 20000 in
theorem gX3_container_X3_fail : GoodIn wsX3_container (wsV RX3 51 RX3 yX3_fail wsX3_fail) := goodIn_app (goodIn_of _ (by decide +kernel)) ggX3_container_X3_fail
theorem dX3_container_0 : decode cX3_container 0 = .ok (.aload_n 0, 1) := by decide +kernel
theorem dX3_container_1 : decode cX3_container 1 = .ok (.iconst 0, 1) := by decide +kernel
theorem dX3_container_2 : decode cX3_container 2 = .ok (.putfield 33, 3) := by decide +kernel
theorem dX3_container_5 : decode cX3_container 5 = .ok (.aload_n 0, 1) := by decide +kernel
theorem dX3_container_6 : decode cX3_container 6 = .ok (.iload_n 1, 1) := by decide +kernel
theorem dX3_container_7 : decode cX3_container 7 = .ok (.invokevirtual 63, 3) := by decide +kernel
theorem dX3_container_10 : decode cX3_container 10 = .ok (.ifCond .eq 25, 3) := by decide +kernel
theorem dX3_container_13 : decode cX3_container 13 = .ok (.iload_n 2, 1) := by decide +kernel
theorem dX3_container_14 : decode cX3_container 14 = .ok (.iconst 0, 1) := by decide +kernel
theorem dX3_container_15 : decode cX3_container 15 = .ok (.iconst 4, 1) := by decide +kernel
theorem dX3_container_16 : decode cX3_container 16 = .ok (.invokestatic 39, 3) := by decide +kernel
theorem dX3_container_19 : decode cX3_container 19 = .ok (.ifCond .eq 16, 3) := by decide +kernel
theorem dX3_container_22 : decode cX3_container 22 = .ok (.aload_n 0, 1) := by decide +kernel
theorem dX3_container_23 : decode cX3_container 23 = .ok (.getfield 9, 3) := by decide +kernel
theorem dX3_container_26 : decode cX3_container 26 = .ok (.iconst 5, 1) := by decide +kernel
theorem dX3_container_27 : decode cX3_container 27 = .ok (.iload_n 1, 1) := by decide +kernel
theorem dX3_container_28 : decode cX3_container 28 = .ok (.imul, 1) := by decide +kernel
theorem dX3_container_29 : decode cX3_container 29 = .ok (.iload_n 2, 1) := by decide +kernel
theorem dX3_container_30 : decode cX3_container 30 = .ok (.iadd, 1) := by decide +kernel
theorem dX3_container_31 : decode cX3_container 31 = .ok (.iaload, 1) := by decide +kernel
theorem dX3_container_32 : decode cX3_container 32 = .ok (.goto 8, 3) := by decide +kernel
theorem dX3_container_35 : decode cX3_container 35 = .ok (.aload_n 0, 1) := by decide +kernel
theorem dX3_container_36 : decode cX3_container 36 = .ok (.iconst 1, 1) := by decide +kernel
theorem dX3_container_37 : decode cX3_container 37 = .ok (.invokevirtual 51, 3) := by decide +kernel
theorem dX3_container_40 : decode cX3_container 40 = .ok (.ireturn, 1) := by decide +kernel
set_option maxRecDepth 20000 in
theorem ggX3_setLimits_X3_isIn : GoodIn wsX3_setLimits wsX3_isIn := goodIn_r _ [8] (by decide +kernel) (by decide +kernel)
set_option maxRecDepth 20000 in
theorem gX3_setLimits_X3_isIn : GoodIn wsX3_setLimits (va_wsS RX3 39 yX3_isIn wsX3_isIn) := goodIn_app (goodIn_of _ (by decide +kernel)) ggX3_setLimits_X3_isIn
set_option maxRecDepth 20000 in
theorem ggX3_setLimits_X3_fail : GoodIn wsX3_setLimits wsX3_fail := goodIn_r _ [12, 1, 13, 14, 15, 16, 17, 18, 19, 20, 21, 22, 23, 24, 25] (by decide +kernel) (by decide +kernel)
set_option maxRecDepth 20000 in
theorem gX3_setLimits_X3_fail : GoodIn wsX3_setLimits (wsV RX3 51 RX3 yX3_fail wsX3_fail) := goodIn_app (goodIn_of _ (by decide +kernel)) ggX3_setLimits_X3_fail
theorem dX3_setLimits_0 : decode cX3_setLimits 0 = .ok (.aload_n 0, 1) := by decide +kernel
theorem dX3_setLimits_1 : decode cX3_setLimits 1 = .ok (.iconst 0, 1) := by decide +kernel
theorem dX3_setLimits_2 : decode cX3_setLimits 2 = .ok (.putfield 33, 3) := by decide +kernel
theorem dX3_setLimits_5 : decode cX3_setLimits 5 = .ok (.iload_n 1, 1) := by decide +kernel
theorem dX3_setLimits_6 : decode cX3_setLimits 6 = .ok (.iconst 1, 1) := by decide +kernel
theorem dX3_setLimits_7 : decode cX3_setLimits 7 = .ok (.bipush 120, 2) := by decide +kernel
theorem dX3_setLimits_9 : decode cX3_setLimits 9 = .ok (.invokestatic 39, 3) := by decide +kernel
theorem dX3_setLimits_12 : decode cX3_setLimits 12 = .ok (.ifCond .eq 25, 3) := by decide +kernel
theorem dX3_setLimits_15 : decode cX3_setLimits 15 = .ok (.iload_n 2, 1) := by decide +kernel
theorem dX3_setLimits_16 : decode cX3_setLimits 16 = .ok (.iconst 0, 1) := by decide +kernel
theorem dX3_setLimits_17 : decode cX3_setLimits 17 = .ok (.sipush 1000, 3) := by decide +kernel
theorem dX3_setLimits_20 : decode cX3_setLimits 20 = .ok (.invokestatic 39, 3) := by decide +kernel
theorem dX3_setLimits_23 : decode cX3_setLimits 23 = .ok (.ifCond .eq 14, 3) := by decide +kernel
theorem dX3_setLimits_26 : decode cX3_setLimits 26 = .ok (.iload_n 3, 1) := by decide +kernel
theorem dX3_setLimits_27 : decode cX3_setLimits 27 = .ok (.iconst 0, 1) := by decide +kernel
theorem dX3_setLimits_28 : decode cX3_setLimits 28 = .ok (.sipush 1000, 3) := by decide +kernel
theorem dX3_setLimits_31 : decode cX3_setLimits 31 = .ok (.invokestatic 39, 3) := by decide +kernel
theorem dX3_setLimits_34 : decode cX3_setLimits 34 = .ok (.ifCond .ne 9, 3) := by decide +kernel
theorem dX3_setLimits_37 : decode cX3_setLimits 37 = .ok (.aload_n 0, 1) := by decide +kernel
theorem dX3_setLimits_38 : decode cX3_setLimits 38 = .ok (.iconst 1, 1) := by decide +kernel
theorem dX3_setLimits_39 : decode cX3_setLimits 39 = .ok (.invokevirtual 51, 3) := by decide +kernel
theorem dX3_setLimits_42 : decode cX3_setLimits 42 = .ok (.ireturn, 1) := by decide +kernel
theorem dX3_setLimits_43 : decode cX3_setLimits 43 = .ok (.aload_n 0, 1) := by decide +kernel
theorem dX3_setLimits_44 : decode cX3_setLimits 44 = .ok (.getfield 23, 3) := by decide +kernel
theorem dX3_setLimits_47 : decode cX3_setLimits 47 = .ok (.istore 4, 2) := by decide +kernel
theorem dX3_setLimits_49 : decode cX3_setLimits 49 = .ok (.aload_n 0, 1) := by decide +kernel
theorem dX3_setLimits_50 : decode cX3_setLimits 50 = .ok (.iload_n 1, 1) := by decide +kernel
theorem dX3_setLimits_51 : decode cX3_setLimits 51 = .ok (.putfield 23, 3) := by decide +kernel
theorem dX3_setLimits_54 : decode cX3_setLimits 54 = .ok (.aload_n 0, 1) := by decide +kernel
theorem dX3_setLimits_55 : decode cX3_setLimits 55 = .ok (.iload_n 2, 1) := by decide +kernel
theorem dX3_setLimits_56 : decode cX3_setLimits 56 = .ok (.putfield 27, 3) := by decide +kernel
theorem dX3_setLimits_59 : decode cX3_setLimits 59 = .ok (.aload_n 0, 1) := by decide +kernel
theorem dX3_setLimits_60 : decode cX3_setLimits 60 = .ok (.iload_n 3, 1) := by decide +kernel
theorem dX3_setLimits_61 : decode cX3_setLimits 61 = .ok (.putfield 30, 3) := by decide +kernel
theorem dX3_setLimits_64 : decode cX3_setLimits 64 = .ok (.iload 4, 2) := by decide +kernel
theorem dX3_setLimits_66 : decode cX3_setLimits 66 = .ok (.ireturn, 1) := by decide +kernel
set_option maxRecDepth 20000 in
theorem ggX3_setPlug_X3_isStack : GoodIn wsX3_setPlug wsX3_isStack := goodIn_r _ [7, 8, 9, 6, 10] (by decide +kernel) (by decide +kernel)
set_option maxRecDepth 20000 in
theorem gX3_setPlug_X3_isStack : GoodIn wsX3_setPlug (va_wsS RX3 67 yX3_isStack wsX3_isStack) := goodIn_app (goodIn_of _ (by decide +kernel)) ggX3_setPlug_X3_isStack
set_option maxRecDepth 20000 in
theorem ggX3_setPlug_X3_stack : GoodIn wsX3_setPlug wsX3_stack := goodIn_r _ [13] (by decide +kernel) (by decide +kernel)
set_option maxRecDepth 20000 in
theorem gX3_setPlug_X3_stack : GoodIn wsX3_setPlug (va_wsS RX3 70 yX3_stack wsX3_stack) := goodIn_app (goodIn_of _ (by decide +kernel)) ggX3_setPlug_X3_stack
set_option maxRecDepth 20000 in
theorem ggX3_setPlug_X3_isOn : GoodIn wsX3_setPlug wsX3_isOn := goodIn_r _ [17, 18, 19, 20, 21, 6, 22, 23, 28, 29, 30, 31, 32, 33, 34, 35, 36, 37, 38, 39, 40] (by decide +kernel) (by decide +kernel)
set_option maxRecDepth 20000 in
theorem gX3_setPlug_X3_isOn : GoodIn wsX3_setPlug (wsV RX3 47 RX3 yX3_isOn wsX3_isOn) := goodIn_app (goodIn_of _ (by decide +kernel)) ggX3_setPlug_X3_isOn
set_option maxRecDepth 20000 in
theorem ggX3_setPlug_X3_kind : GoodIn wsX3_setPlug wsX3_kind := goodIn_r _ [27, 23, 28, 29, 30, 31, 32, 33, 34, 35, 36, 37, 38, 39, 40] (by decide +kernel) (by decide +kernel)
set_option maxRecDepth 20000 in
theorem gX3_setPlug_X3_kind : GoodIn wsX3_setPlug (wsV RX3 74 RX3 yX3_kind wsX3_kind) := goodIn_app (goodIn_of _ (by decide +kernel)) ggX3_setPlug_X3_kind
theorem dX3_setPlug_0 : decode cX3_setPlug 0 = .ok (.aload_n 0, 1) := by decide +kernel
theorem dX3_setPlug_1 : decode cX3_setPlug 1 = .ok (.iload_n 1, 1) := by decide +kernel
theorem dX3_setPlug_2 : decode cX3_setPlug 2 = .ok (.iload_n 2, 1) := by decide +kernel
theorem dX3_setPlug_3 : decode cX3_setPlug 3 = .ok (.invokestatic 67, 3) := by decide +kernel
theorem dX3_setPlug_6 : decode cX3_setPlug 6 = .ok (.ifCond .eq 7, 3) := by decide +kernel
theorem dX3_setPlug_9 : decode cX3_setPlug 9 = .ok (.iconst 0, 1) := by decide +kernel
theorem dX3_setPlug_10 : decode cX3_setPlug 10 = .ok (.goto 4, 3) := by decide +kernel
theorem dX3_setPlug_13 : decode cX3_setPlug 13 = .ok (.iconst 1, 1) := by decide +kernel
theorem dX3_setPlug_14 : decode cX3_setPlug 14 = .ok (.putfield 33, 3) := by decide +kernel
theorem dX3_setPlug_17 : decode cX3_setPlug 17 = .ok (.aload_n 0, 1) := by decide +kernel
theorem dX3_setPlug_18 : decode cX3_setPlug 18 = .ok (.getfield 33, 3) := by decide +kernel
theorem dX3_setPlug_21 : decode cX3_setPlug 21 = .ok (.ifCond .eq 5, 3) := by decide +kernel
theorem dX3_setPlug_24 : decode cX3_setPlug 24 = .ok (.iconst 0, 1) := by decide +kernel
theorem dX3_setPlug_25 : decode cX3_setPlug 25 = .ok (.ireturn, 1) := by decide +kernel
theorem dX3_setPlug_26 : decode cX3_setPlug 26 = .ok (.iload_n 1, 1) := by decide +kernel
theorem dX3_setPlug_27 : decode cX3_setPlug 27 = .ok (.iload_n 2, 1) := by decide +kernel
theorem dX3_setPlug_28 : decode cX3_setPlug 28 = .ok (.invokestatic 70, 3) := by decide +kernel
theorem dX3_setPlug_31 : decode cX3_setPlug 31 = .ok (.istore 4, 2) := by decide +kernel
theorem dX3_setPlug_33 : decode cX3_setPlug 33 = .ok (.iconst 0, 1) := by decide +kernel
theorem dX3_setPlug_34 : decode cX3_setPlug 34 = .ok (.istore 5, 2) := by decide +kernel
theorem dX3_setPlug_36 : decode cX3_setPlug 36 = .ok (.iload 5, 2) := by decide +kernel
theorem dX3_setPlug_38 : decode cX3_setPlug 38 = .ok (.aload_n 0, 1) := by decide +kernel
theorem dX3_setPlug_39 : decode cX3_setPlug 39 = .ok (.getfield 36, 3) := by decide +kernel
theorem dX3_setPlug_42 : decode cX3_setPlug 42 = .ok (.if_icmp .ge 39, 3) := by decide +kernel
theorem dX3_setPlug_45 : decode cX3_setPlug 45 = .ok (.iload_n 3, 1) := by decide +kernel
theorem dX3_setPlug_46 : decode cX3_setPlug 46 = .ok (.ifCond .ne 29, 3) := by decide +kernel
theorem dX3_setPlug_49 : decode cX3_setPlug 49 = .ok (.aload_n 0, 1) := by decide +kernel
theorem dX3_setPlug_50 : decode cX3_setPlug 50 = .ok (.iload 5, 2) := by decide +kernel
theorem dX3_setPlug_52 : decode cX3_setPlug 52 = .ok (.iload 4, 2) := by decide +kernel
theorem dX3_setPlug_54 : decode cX3_setPlug 54 = .ok (.invokevirtual 47, 3) := by decide +kernel
theorem dX3_setPlug_57 : decode cX3_setPlug 57 = .ok (.ifCond .eq 18, 3) := by decide +kernel
theorem dX3_setPlug_60 : decode cX3_setPlug 60 = .ok (.aload_n 0, 1) := by decide +kernel
theorem dX3_setPlug_61 : decode cX3_setPlug 61 = .ok (.iload 5, 2) := by decide +kernel
theorem dX3_setPlug_63 : decode cX3_setPlug 63 = .ok (.invokevirtual 74, 3) := by decide +kernel
theorem dX3_setPlug_66 : decode cX3_setPlug 66 = .ok (.iconst 1, 1) := by decide +kernel
theorem dX3_setPlug_67 : decode cX3_setPlug 67 = .ok (.if_icmp .ne 8, 3) := by decide +kernel
theorem dX3_setPlug_70 : decode cX3_setPlug 70 = .ok (.aload_n 0, 1) := by decide +kernel
theorem dX3_setPlug_71 : decode cX3_setPlug 71 = .ok (.iconst 2, 1) := by decide +kernel
theorem dX3_setPlug_72 : decode cX3_setPlug 72 = .ok (.putfield 33, 3) := by decide +kernel
theorem dX3_setPlug_75 : decode cX3_setPlug 75 = .ok (.iinc 5 1, 3) := by decide +kernel
theorem dX3_setPlug_78 : decode cX3_setPlug 78 = .ok (.goto (-42), 3) := by decide +kernel
theorem dX3_setPlug_81 : decode cX3_setPlug 81 = .ok (.aload_n 0, 1) := by decide +kernel
theorem dX3_setPlug_82 : decode cX3_setPlug 82 = .ok (.getfield 33, 3) := by decide +kernel
theorem dX3_setPlug_85 : decode cX3_setPlug 85 = .ok (.ifCond .eq 5, 3) := by decide +kernel
theorem dX3_setPlug_88 : decode cX3_setPlug 88 = .ok (.iconst 0, 1) := by decide +kernel
theorem dX3_setPlug_89 : decode cX3_setPlug 89 = .ok (.ireturn, 1) := by decide +kernel
theorem dX3_setPlug_90 : decode cX3_setPlug 90 = .ok (.aload_n 0, 1) := by decide +kernel
theorem dX3_setPlug_91 : decode cX3_setPlug 91 = .ok (.getfield 19, 3) := by decide +kernel
theorem dX3_setPlug_94 : decode cX3_setPlug 94 = .ok (.iload 4, 2) := by decide +kernel
theorem dX3_setPlug_96 : decode cX3_setPlug 96 = .ok (.baload, 1) := by decide +kernel
theorem dX3_setPlug_97 : decode cX3_setPlug 97 = .ok (.istore 5, 2) := by decide +kernel
theorem dX3_setPlug_99 : decode cX3_setPlug 99 = .ok (.aload_n 0, 1) := by decide +kernel
theorem dX3_setPlug_100 : decode cX3_setPlug 100 = .ok (.getfield 19, 3) := by decide +kernel
theorem dX3_setPlug_103 : decode cX3_setPlug 103 = .ok (.iload 4, 2) := by decide +kernel
theorem dX3_setPlug_105 : decode cX3_setPlug 105 = .ok (.iload_n 3, 1) := by decide +kernel
theorem dX3_setPlug_106 : decode cX3_setPlug 106 = .ok (.bastore, 1) := by decide +kernel
theorem dX3_setPlug_107 : decode cX3_setPlug 107 = .ok (.iload 5, 2) := by decide +kernel
theorem dX3_setPlug_109 : decode cX3_setPlug 109 = .ok (.ireturn, 1) := by decide +kernel
theorem dX3_areApart_0 : decode cX3_areApart 0 = .ok (.iload_n 0, 1) := by decide +kernel
theorem dX3_areApart_1 : decode cX3_areApart 1 = .ok (.iconst 5, 1) := by decide +kernel
theorem dX3_areApart_2 : decode cX3_areApart 2 = .ok (.idiv, 1) := by decide +kernel
theorem dX3_areApart_3 : decode cX3_areApart 3 = .ok (.iload_n 1, 1) := by decide +kernel
theorem dX3_areApart_4 : decode cX3_areApart 4 = .ok (.iconst 5, 1) := by decide +kernel
theorem dX3_areApart_5 : decode cX3_areApart 5 = .ok (.idiv, 1) := by decide +kernel
theorem dX3_areApart_6 : decode cX3_areApart 6 = .ok (.isub, 1) := by decide +kernel
theorem dX3_areApart_7 : decode cX3_areApart 7 = .ok (.invokestatic 77, 3) := by decide +kernel
theorem dX3_areApart_10 : decode cX3_areApart 10 = .ok (.istore_n 2, 1) := by decide +kernel
theorem dX3_areApart_11 : decode cX3_areApart 11 = .ok (.iload_n 2, 1) := by decide +kernel
theorem dX3_areApart_12 : decode cX3_areApart 12 = .ok (.iconst 1, 1) := by decide +kernel
theorem dX3_areApart_13 : decode cX3_areApart 13 = .ok (.if_icmp .gt 22, 3) := by decide +kernel
theorem dX3_areApart_16 : decode cX3_areApart 16 = .ok (.iload_n 2, 1) := by decide +kernel
theorem dX3_areApart_17 : decode cX3_areApart 17 = .ok (.iconst 1, 1) := by decide +kernel
theorem dX3_areApart_18 : decode cX3_areApart 18 = .ok (.if_icmp .ne 21, 3) := by decide +kernel
theorem dX3_areApart_21 : decode cX3_areApart 21 = .ok (.iload_n 0, 1) := by decide +kernel
theorem dX3_areApart_22 : decode cX3_areApart 22 = .ok (.iconst 5, 1) := by decide +kernel
theorem dX3_areApart_23 : decode cX3_areApart 23 = .ok (.irem, 1) := by decide +kernel
theorem dX3_areApart_24 : decode cX3_areApart 24 = .ok (.iload_n 1, 1) := by decide +kernel
theorem dX3_areApart_25 : decode cX3_areApart 25 = .ok (.iconst 5, 1) := by decide +kernel
theorem dX3_areApart_26 : decode cX3_areApart 26 = .ok (.irem, 1) := by decide +kernel
theorem dX3_areApart_27 : decode cX3_areApart 27 = .ok (.isub, 1) := by decide +kernel
theorem dX3_areApart_28 : decode cX3_areApart 28 = .ok (.invokestatic 77, 3) := by decide +kernel
theorem dX3_areApart_31 : decode cX3_areApart 31 = .ok (.iconst 1, 1) := by decide +kernel
theorem dX3_areApart_32 : decode cX3_areApart 32 = .ok (.if_icmp .le 7, 3) := by decide +kernel
theorem dX3_areApart_35 : decode cX3_areApart 35 = .ok (.iconst 1, 1) := by decide +kernel
theorem dX3_areApart_36 : decode cX3_areApart 36 = .ok (.goto 4, 3) := by decide +kernel
theorem dX3_areApart_39 : decode cX3_areApart 39 = .ok (.iconst 0, 1) := by decide +kernel
theorem dX3_areApart_40 : decode cX3_areApart 40 = .ok (.ireturn, 1) := by decide +kernel
set_option maxRecDepth 20000 in
theorem ggX3_weightOf_X3_isOn : GoodIn wsX3_weightOf wsX3_isOn := goodIn_r _ [6, 7, 8, 9, 10, 5, 11, 12, 17, 18, 19, 20, 21, 22, 23, 24, 25, 26, 27, 28, 29] (by decide +kernel) (by decide +kernel)
set_option maxRecDepth 20000 in
theorem gX3_weightOf_X3_isOn : GoodIn wsX3_weightOf (wsV RX3 47 RX3 yX3_isOn wsX3_isOn) := goodIn_app (goodIn_of _ (by decide +kernel)) ggX3_weightOf_X3_isOn
set_option maxRecDepth 20000 in
theorem ggX3_weightOf_X3_heavy : GoodIn wsX3_weightOf wsX3_heavy := goodIn_r _ [16, 12, 17, 18, 19, 20, 21, 22, 23, 24, 25, 26, 27, 28, 29] (by decide +kernel) (by decide +kernel)
set_option maxRecDepth 20000 in
theorem gX3_weightOf_X3_heavy : GoodIn wsX3_weightOf (wsV RX3 82 RX3 yX3_heavy wsX3_heavy) := goodIn_app (goodIn_of _ (by decide +kernel)) ggX3_weightOf_X3_heavy
theorem dX3_weightOf_0 : decode cX3_weightOf 0 = .ok (.iconst 0, 1) := by decide +kernel
theorem dX3_weightOf_1 : decode cX3_weightOf 1 = .ok (.istore_n 2, 1) := by decide +kernel
theorem dX3_weightOf_2 : decode cX3_weightOf 2 = .ok (.iconst 0, 1) := by decide +kernel
theorem dX3_weightOf_3 : decode cX3_weightOf 3 = .ok (.istore_n 3, 1) := by decide +kernel
theorem dX3_weightOf_4 : decode cX3_weightOf 4 = .ok (.iload_n 3, 1) := by decide +kernel
theorem dX3_weightOf_5 : decode cX3_weightOf 5 = .ok (.aload_n 0, 1) := by decide +kernel
theorem dX3_weightOf_6 : decode cX3_weightOf 6 = .ok (.getfield 36, 3) := by decide +kernel
theorem dX3_weightOf_9 : decode cX3_weightOf 9 = .ok (.if_icmp .ge 30, 3) := by decide +kernel
theorem dX3_weightOf_12 : decode cX3_weightOf 12 = .ok (.iload_n 2, 1) := by decide +kernel
theorem dX3_weightOf_13 : decode cX3_weightOf 13 = .ok (.aload_n 0, 1) := by decide +kernel
theorem dX3_weightOf_14 : decode cX3_weightOf 14 = .ok (.iload_n 3, 1) := by decide +kernel
theorem dX3_weightOf_15 : decode cX3_weightOf 15 = .ok (.iload_n 1, 1) := by decide +kernel
theorem dX3_weightOf_16 : decode cX3_weightOf 16 = .ok (.invokevirtual 47, 3) := by decide +kernel
theorem dX3_weightOf_19 : decode cX3_weightOf 19 = .ok (.ifCond .eq 11, 3) := by decide +kernel
theorem dX3_weightOf_22 : decode cX3_weightOf 22 = .ok (.aload_n 0, 1) := by decide +kernel
theorem dX3_weightOf_23 : decode cX3_weightOf 23 = .ok (.iload_n 3, 1) := by decide +kernel
theorem dX3_weightOf_24 : decode cX3_weightOf 24 = .ok (.invokevirtual 82, 3) := by decide +kernel
theorem dX3_weightOf_27 : decode cX3_weightOf 27 = .ok (.goto 4, 3) := by decide +kernel
theorem dX3_weightOf_30 : decode cX3_weightOf 30 = .ok (.iconst 0, 1) := by decide +kernel
theorem dX3_weightOf_31 : decode cX3_weightOf 31 = .ok (.iadd, 1) := by decide +kernel
theorem dX3_weightOf_32 : decode cX3_weightOf 32 = .ok (.istore_n 2, 1) := by decide +kernel
theorem dX3_weightOf_33 : decode cX3_weightOf 33 = .ok (.iinc 3 1, 3) := by decide +kernel
theorem dX3_weightOf_36 : decode cX3_weightOf 36 = .ok (.goto (-32), 3) := by decide +kernel
theorem dX3_weightOf_39 : decode cX3_weightOf 39 = .ok (.iload_n 2, 1) := by decide +kernel
theorem dX3_weightOf_40 : decode cX3_weightOf 40 = .ok (.ireturn, 1) := by decide +kernel
set_option maxRecDepth 20000 in
theorem ggX3_isAllowed_X3_state : GoodIn wsX3_isAllowed wsX3_state := goodIn_r _ [11, 1, 39, 40, 41, 42, 43, 44, 45, 46, 47, 48, 49, 50, 51] (by decide +kernel) (by decide +kernel)
set_option maxRecDepth 20000 in
theorem gX3_isAllowed_X3_state : GoodIn wsX3_isAllowed (wsV RX3 43 RX3 yX3_state wsX3_state) := goodIn_app (goodIn_of _ (by decide +kernel)) ggX3_isAllowed_X3_state
set_option maxRecDepth 20000 in
theorem ggX3_isAllowed_X3_high : GoodIn wsX3_isAllowed wsX3_high := goodIn_r _ [15, 5, 16, 17, 18, 10, 19, 6, 7, 8, 9, 11, 1, 39, 40, 41, 42, 43, 44, 45, 46, 47, 48, 49, 50, 51] (by decide +kernel) (by decide +kernel)
set_option maxRecDepth 20000 in
theorem gX3_isAllowed_X3_high : GoodIn wsX3_isAllowed (wsV RX3 85 RX3 yX3_high wsX3_high) := goodIn_app (goodIn_of _ (by decide +kernel)) ggX3_isAllowed_X3_high
set_option maxRecDepth 20000 in
theorem ggX3_isAllowed_X3_weightOf : GoodIn wsX3_isAllowed wsX3_weightOf := goodIn_r _ [23, 5, 16, 17, 18, 10, 19, 6, 7, 8, 9, 11, 1, 24, 25, 26, 27, 39, 40, 41, 42, 43, 44, 45, 46, 47, 48, 49, 50, 51] (by decide +kernel) (by decide +kernel)
set_option maxRecDepth 20000 in
theorem gX3_isAllowed_X3_weightOf : GoodIn wsX3_isAllowed (wsV RX3 88 RX3 yX3_weightOf wsX3_weightOf) := goodIn_app (goodIn_of _ (by decide +kernel)) ggX3_isAllowed_X3_weightOf
set_option maxRecDepth 20000 in
theorem ggX3_isAllowed_X3_heavy : GoodIn wsX3_isAllowed wsX3_heavy := goodIn_r _ [27, 1, 39, 40, 41, 42, 43, 44, 45, 46, 47, 48, 49, 50, 51] (by decide +kernel) (by decide +kernel)
set_option maxRecDepth 20000 in
theorem gX3_isAllowed_X3_heavy : GoodIn wsX3_isAllowed (wsV RX3 82 RX3 yX3_heavy wsX3_heavy) := goodIn_app (goodIn_of _ (by decide +kernel)) ggX3_isAllowed_X3_heavy
set_option maxRecDepth 20000 in
theorem ggX3_isAllowed_X3_kind : GoodIn wsX3_isAllowed wsX3_kind := goodIn_r _ [31, 1, 39, 40, 41, 42, 43, 44, 45, 46, 47, 48, 49, 50, 51] (by decide +kernel) (by decide +kernel)
set_option maxRecDepth 20000 in
theorem gX3_isAllowed_X3_kind : GoodIn wsX3_isAllowed (wsV RX3 74 RX3 yX3_kind wsX3_kind) := goodIn_app (goodIn_of _ (by decide +kernel)) ggX3_isAllowed_X3_kind
set_option maxRecDepth 20000 in
theorem ggX3_isAllowed_X3_areApart : GoodIn wsX3_isAllowed wsX3_areApart := goodIn_r _ [34, 35, 36, 37, 38] (by decide +kernel) (by decide +kernel)
set_option maxRecDepth 20000 in
theorem gX3_isAllowed_X3_areApart : GoodIn wsX3_isAllowed (va_wsS RX3 91 yX3_areApart wsX3_areApart) := goodIn_app (goodIn_of _ (by decide +kernel)) ggX3_isAllowed_X3_areApart
theorem dX3_isAllowed_0 : decode cX3_isAllowed 0 = .ok (.aload_n 0, 1) := by decide +kernel
theorem dX3_isAllowed_1 : decode cX3_isAllowed 1 = .ok (.iload_n 1, 1) := by decide +kernel
theorem dX3_isAllowed_2 : decode cX3_isAllowed 2 = .ok (.invokevirtual 43, 3) := by decide +kernel
theorem dX3_isAllowed_5 : decode cX3_isAllowed 5 = .ok (.ifCond .ne 47, 3) := by decide +kernel
theorem dX3_isAllowed_8 : decode cX3_isAllowed 8 = .ok (.aload_n 0, 1) := by decide +kernel
theorem dX3_isAllowed_9 : decode cX3_isAllowed 9 = .ok (.getfield 9, 3) := by decide +kernel
theorem dX3_isAllowed_12 : decode cX3_isAllowed 12 = .ok (.iconst 5, 1) := by decide +kernel
theorem dX3_isAllowed_13 : decode cX3_isAllowed 13 = .ok (.iload_n 1, 1) := by decide +kernel
theorem dX3_isAllowed_14 : decode cX3_isAllowed 14 = .ok (.imul, 1) := by decide +kernel
theorem dX3_isAllowed_15 : decode cX3_isAllowed 15 = .ok (.iconst 1, 1) := by decide +kernel
theorem dX3_isAllowed_16 : decode cX3_isAllowed 16 = .ok (.iadd, 1) := by decide +kernel
theorem dX3_isAllowed_17 : decode cX3_isAllowed 17 = .ok (.iaload, 1) := by decide +kernel
theorem dX3_isAllowed_18 : decode cX3_isAllowed 18 = .ok (.aload_n 0, 1) := by decide +kernel
theorem dX3_isAllowed_19 : decode cX3_isAllowed 19 = .ok (.getfield 54, 3) := by decide +kernel
theorem dX3_isAllowed_22 : decode cX3_isAllowed 22 = .ok (.if_icmp .ne 30, 3) := by decide +kernel
theorem dX3_isAllowed_25 : decode cX3_isAllowed 25 = .ok (.aload_n 0, 1) := by decide +kernel
theorem dX3_isAllowed_26 : decode cX3_isAllowed 26 = .ok (.iload_n 2, 1) := by decide +kernel
theorem dX3_isAllowed_27 : decode cX3_isAllowed 27 = .ok (.invokevirtual 85, 3) := by decide +kernel
theorem dX3_isAllowed_30 : decode cX3_isAllowed 30 = .ok (.iconst 4, 1) := by decide +kernel
theorem dX3_isAllowed_31 : decode cX3_isAllowed 31 = .ok (.if_icmp .eq 21, 3) := by decide +kernel
theorem dX3_isAllowed_34 : decode cX3_isAllowed 34 = .ok (.aload_n 0, 1) := by decide +kernel
theorem dX3_isAllowed_35 : decode cX3_isAllowed 35 = .ok (.iload_n 2, 1) := by decide +kernel
theorem dX3_isAllowed_36 : decode cX3_isAllowed 36 = .ok (.invokevirtual 88, 3) := by decide +kernel
theorem dX3_isAllowed_39 : decode cX3_isAllowed 39 = .ok (.aload_n 0, 1) := by decide +kernel
theorem dX3_isAllowed_40 : decode cX3_isAllowed 40 = .ok (.iload_n 1, 1) := by decide +kernel
theorem dX3_isAllowed_41 : decode cX3_isAllowed 41 = .ok (.invokevirtual 82, 3) := by decide +kernel
theorem dX3_isAllowed_44 : decode cX3_isAllowed 44 = .ok (.iadd, 1) := by decide +kernel
theorem dX3_isAllowed_45 : decode cX3_isAllowed 45 = .ok (.aload_n 0, 1) := by decide +kernel
theorem dX3_isAllowed_46 : decode cX3_isAllowed 46 = .ok (.getfield 23, 3) := by decide +kernel
theorem dX3_isAllowed_49 : decode cX3_isAllowed 49 = .ok (.if_icmp .le 5, 3) := by decide +kernel
theorem dX3_isAllowed_52 : decode cX3_isAllowed 52 = .ok (.iconst 0, 1) := by decide +kernel
theorem dX3_isAllowed_53 : decode cX3_isAllowed 53 = .ok (.ireturn, 1) := by decide +kernel
theorem dX3_isAllowed_54 : decode cX3_isAllowed 54 = .ok (.aload_n 0, 1) := by decide +kernel
theorem dX3_isAllowed_55 : decode cX3_isAllowed 55 = .ok (.iload_n 1, 1) := by decide +kernel
theorem dX3_isAllowed_56 : decode cX3_isAllowed 56 = .ok (.invokevirtual 74, 3) := by decide +kernel
theorem dX3_isAllowed_59 : decode cX3_isAllowed 59 = .ok (.iconst 1, 1) := by decide +kernel
theorem dX3_isAllowed_60 : decode cX3_isAllowed 60 = .ok (.if_icmp .ne 23, 3) := by decide +kernel
theorem dX3_isAllowed_63 : decode cX3_isAllowed 63 = .ok (.aload_n 0, 1) := by decide +kernel
theorem dX3_isAllowed_64 : decode cX3_isAllowed 64 = .ok (.getfield 19, 3) := by decide +kernel
theorem dX3_isAllowed_67 : decode cX3_isAllowed 67 = .ok (.iload_n 2, 1) := by decide +kernel
theorem dX3_isAllowed_68 : decode cX3_isAllowed 68 = .ok (.baload, 1) := by decide +kernel
theorem dX3_isAllowed_69 : decode cX3_isAllowed 69 = .ok (.ifCond .eq 12, 3) := by decide +kernel
theorem dX3_isAllowed_72 : decode cX3_isAllowed 72 = .ok (.aload_n 0, 1) := by decide +kernel
theorem dX3_isAllowed_73 : decode cX3_isAllowed 73 = .ok (.iload_n 2, 1) := by decide +kernel
theorem dX3_isAllowed_74 : decode cX3_isAllowed 74 = .ok (.invokevirtual 85, 3) := by decide +kernel
theorem dX3_isAllowed_77 : decode cX3_isAllowed 77 = .ok (.iconst 2, 1) := by decide +kernel
theorem dX3_isAllowed_78 : decode cX3_isAllowed 78 = .ok (.if_icmp .lt 5, 3) := by decide +kernel
theorem dX3_isAllowed_81 : decode cX3_isAllowed 81 = .ok (.iconst 0, 1) := by decide +kernel
theorem dX3_isAllowed_82 : decode cX3_isAllowed 82 = .ok (.ireturn, 1) := by decide +kernel
theorem dX3_isAllowed_83 : decode cX3_isAllowed 83 = .ok (.iconst 1, 1) := by decide +kernel
theorem dX3_isAllowed_84 : decode cX3_isAllowed 84 = .ok (.istore_n 3, 1) := by decide +kernel
theorem dX3_isAllowed_85 : decode cX3_isAllowed 85 = .ok (.iconst 0, 1) := by decide +kernel
theorem dX3_isAllowed_86 : decode cX3_isAllowed 86 = .ok (.istore 4, 2) := by decide +kernel
theorem dX3_isAllowed_88 : decode cX3_isAllowed 88 = .ok (.iload 4, 2) := by decide +kernel
theorem dX3_isAllowed_90 : decode cX3_isAllowed 90 = .ok (.aload_n 0, 1) := by decide +kernel
theorem dX3_isAllowed_91 : decode cX3_isAllowed 91 = .ok (.getfield 36, 3) := by decide +kernel
theorem dX3_isAllowed_94 : decode cX3_isAllowed 94 = .ok (.if_icmp .ge 76, 3) := by decide +kernel
theorem dX3_isAllowed_97 : decode cX3_isAllowed 97 = .ok (.aload_n 0, 1) := by decide +kernel
theorem dX3_isAllowed_98 : decode cX3_isAllowed 98 = .ok (.iload_n 1, 1) := by decide +kernel
theorem dX3_isAllowed_99 : decode cX3_isAllowed 99 = .ok (.invokevirtual 74, 3) := by decide +kernel
theorem dX3_isAllowed_102 : decode cX3_isAllowed 102 = .ok (.iconst 2, 1) := by decide +kernel
theorem dX3_isAllowed_103 : decode cX3_isAllowed 103 = .ok (.if_icmp .lt 67, 3) := by decide +kernel
theorem dX3_isAllowed_106 : decode cX3_isAllowed 106 = .ok (.iload_n 3, 1) := by decide +kernel
theorem dX3_isAllowed_107 : decode cX3_isAllowed 107 = .ok (.ifCond .eq 55, 3) := by decide +kernel
theorem dX3_isAllowed_110 : decode cX3_isAllowed 110 = .ok (.aload_n 0, 1) := by decide +kernel
theorem dX3_isAllowed_111 : decode cX3_isAllowed 111 = .ok (.iload 4, 2) := by decide +kernel
theorem dX3_isAllowed_113 : decode cX3_isAllowed 113 = .ok (.invokevirtual 43, 3) := by decide +kernel
theorem dX3_isAllowed_116 : decode cX3_isAllowed 116 = .ok (.iconst 1, 1) := by decide +kernel
theorem dX3_isAllowed_117 : decode cX3_isAllowed 117 = .ok (.if_icmp .ne 41, 3) := by decide +kernel
theorem dX3_isAllowed_120 : decode cX3_isAllowed 120 = .ok (.aload_n 0, 1) := by decide +kernel
theorem dX3_isAllowed_121 : decode cX3_isAllowed 121 = .ok (.iload 4, 2) := by decide +kernel
theorem dX3_isAllowed_123 : decode cX3_isAllowed 123 = .ok (.invokevirtual 74, 3) := by decide +kernel
theorem dX3_isAllowed_126 : decode cX3_isAllowed 126 = .ok (.iconst 2, 1) := by decide +kernel
theorem dX3_isAllowed_127 : decode cX3_isAllowed 127 = .ok (.if_icmp .lt 31, 3) := by decide +kernel
theorem dX3_isAllowed_130 : decode cX3_isAllowed 130 = .ok (.aload_n 0, 1) := by decide +kernel
theorem dX3_isAllowed_131 : decode cX3_isAllowed 131 = .ok (.iload 4, 2) := by decide +kernel
theorem dX3_isAllowed_133 : decode cX3_isAllowed 133 = .ok (.invokevirtual 74, 3) := by decide +kernel
theorem dX3_isAllowed_136 : decode cX3_isAllowed 136 = .ok (.aload_n 0, 1) := by decide +kernel
theorem dX3_isAllowed_137 : decode cX3_isAllowed 137 = .ok (.iload_n 1, 1) := by decide +kernel
theorem dX3_isAllowed_138 : decode cX3_isAllowed 138 = .ok (.invokevirtual 74, 3) := by decide +kernel
theorem dX3_isAllowed_141 : decode cX3_isAllowed 141 = .ok (.if_icmp .eq 17, 3) := by decide +kernel
theorem dX3_isAllowed_144 : decode cX3_isAllowed 144 = .ok (.iload_n 2, 1) := by decide +kernel
theorem dX3_isAllowed_145 : decode cX3_isAllowed 145 = .ok (.aload_n 0, 1) := by decide +kernel
theorem dX3_isAllowed_146 : decode cX3_isAllowed 146 = .ok (.getfield 13, 3) := by decide +kernel
theorem dX3_isAllowed_149 : decode cX3_isAllowed 149 = .ok (.iload 4, 2) := by decide +kernel
theorem dX3_isAllowed_151 : decode cX3_isAllowed 151 = .ok (.iaload, 1) := by decide +kernel
theorem dX3_isAllowed_152 : decode cX3_isAllowed 152 = .ok (.invokestatic 91, 3) := by decide +kernel
theorem dX3_isAllowed_155 : decode cX3_isAllowed 155 = .ok (.ifCond .eq 7, 3) := by decide +kernel
theorem dX3_isAllowed_158 : decode cX3_isAllowed 158 = .ok (.iconst 1, 1) := by decide +kernel
theorem dX3_isAllowed_159 : decode cX3_isAllowed 159 = .ok (.goto 4, 3) := by decide +kernel
theorem dX3_isAllowed_162 : decode cX3_isAllowed 162 = .ok (.iconst 0, 1) := by decide +kernel
theorem dX3_isAllowed_163 : decode cX3_isAllowed 163 = .ok (.istore_n 3, 1) := by decide +kernel
theorem dX3_isAllowed_164 : decode cX3_isAllowed 164 = .ok (.iinc 4 1, 3) := by decide +kernel
theorem dX3_isAllowed_167 : decode cX3_isAllowed 167 = .ok (.goto (-79), 3) := by decide +kernel
theorem dX3_isAllowed_170 : decode cX3_isAllowed 170 = .ok (.iload_n 3, 1) := by decide +kernel
theorem dX3_isAllowed_171 : decode cX3_isAllowed 171 = .ok (.ireturn, 1) := by decide +kernel
set_option maxRecDepth 20000 in
theorem ggX3_canLoad_X3_isContainer : GoodIn wsX3_canLoad wsX3_isContainer := goodIn_r _ [6, 7, 8, 9, 5, 10, 57, 58, 59, 60, 61, 62, 63, 64, 65, 66, 67, 68, 69] (by decide +kernel) (by decide +kernel)
set_option maxRecDepth 20000 in
theorem gX3_canLoad_X3_isContainer : GoodIn wsX3_canLoad (wsV RX3 63 RX3 yX3_isContainer wsX3_isContainer) := goodIn_app (goodIn_of _ (by decide +kernel)) ggX3_canLoad_X3_isContainer
set_option maxRecDepth 20000 in
theorem ggX3_canLoad_X3_isStack : GoodIn wsX3_canLoad wsX3_isStack := goodIn_r _ [13, 8, 9, 5, 10] (by decide +kernel) (by decide +kernel)
set_option maxRecDepth 20000 in
theorem gX3_canLoad_X3_isStack : GoodIn wsX3_canLoad (va_wsS RX3 67 yX3_isStack wsX3_isStack) := goodIn_app (goodIn_of _ (by decide +kernel)) ggX3_canLoad_X3_isStack
set_option maxRecDepth 20000 in
theorem ggX3_canLoad_X3_stack : GoodIn wsX3_canLoad wsX3_stack := goodIn_r _ [16] (by decide +kernel) (by decide +kernel)
set_option maxRecDepth 20000 in
theorem gX3_canLoad_X3_stack : GoodIn wsX3_canLoad (va_wsS RX3 70 yX3_stack wsX3_stack) := goodIn_app (goodIn_of _ (by decide +kernel)) ggX3_canLoad_X3_stack
set_option maxRecDepth 20000 in
theorem ggX3_canLoad_X3_isAllowed : GoodIn wsX3_canLoad wsX3_isAllowed := goodIn_r _ [20, 21, 22, 23, 24, 7, 25, 26, 27, 28, 5, 29, 30, 31, 32, 33, 34, 35, 36, 37, 38, 39, 40, 41, 42, 43, 44, 45, 46, 47, 48, 49, 50, 51, 52, 53, 54, 55, 56, 57, 58, 59, 60, 61, 62, 63, 64, 65, 66, 67, 68, 69] (by decide +kernel) (by decide +kernel)
set_option maxRecDepth 20000 in
theorem gX3_canLoad_X3_isAllowed : GoodIn wsX3_canLoad (wsV RX3 94 RX3 yX3_isAllowed wsX3_isAllowed) := goodIn_app (goodIn_of _ (by decide +kernel)) ggX3_canLoad_X3_isAllowed
theorem dX3_canLoad_0 : decode cX3_canLoad 0 = .ok (.aload_n 0, 1) := by decide +kernel
theorem dX3_canLoad_1 : decode cX3_canLoad 1 = .ok (.aload_n 0, 1) := by decide +kernel
theorem dX3_canLoad_2 : decode cX3_canLoad 2 = .ok (.iload_n 1, 1) := by decide +kernel
theorem dX3_canLoad_3 : decode cX3_canLoad 3 = .ok (.invokevirtual 63, 3) := by decide +kernel
theorem dX3_canLoad_6 : decode cX3_canLoad 6 = .ok (.ifCond .eq 15, 3) := by decide +kernel
theorem dX3_canLoad_9 : decode cX3_canLoad 9 = .ok (.iload_n 2, 1) := by decide +kernel
theorem dX3_canLoad_10 : decode cX3_canLoad 10 = .ok (.iload_n 3, 1) := by decide +kernel
theorem dX3_canLoad_11 : decode cX3_canLoad 11 = .ok (.invokestatic 67, 3) := by decide +kernel
theorem dX3_canLoad_14 : decode cX3_canLoad 14 = .ok (.ifCond .eq 7, 3) := by decide +kernel
theorem dX3_canLoad_17 : decode cX3_canLoad 17 = .ok (.iconst 0, 1) := by decide +kernel
theorem dX3_canLoad_18 : decode cX3_canLoad 18 = .ok (.goto 4, 3) := by decide +kernel
theorem dX3_canLoad_21 : decode cX3_canLoad 21 = .ok (.iconst 1, 1) := by decide +kernel
theorem dX3_canLoad_22 : decode cX3_canLoad 22 = .ok (.putfield 33, 3) := by decide +kernel
