theorem dX2_lifts_22 : decode cX2_lifts 22 = .ok (.getfield 17, 3) := by decide +kernel
theorem dX2_lifts_25 : decode cX2_lifts 25 = .ok (.astore_n 3, 1) := by decide +kernel
theorem dX2_lifts_26 : decode cX2_lifts 26 = .ok (.aload_n 3, 1) := by decide +kernel
theorem dX2_lifts_27 : decode cX2_lifts 27 = .ok (.arraylength, 1) := by decide +kernel
theorem dX2_lifts_28 : decode cX2_lifts 28 = .ok (.istore 4, 2) := by decide +kernel
theorem dX2_lifts_30 : decode cX2_lifts 30 = .ok (.iconst 0, 1) := by decide +kernel
theorem dX2_lifts_31 : decode cX2_lifts 31 = .ok (.istore 5, 2) := by decide +kernel
theorem dX2_lifts_33 : decode cX2_lifts 33 = .ok (.iload 5, 2) := by decide +kernel
theorem dX2_lifts_35 : decode cX2_lifts 35 = .ok (.iload 4, 2) := by decide +kernel
theorem dX2_lifts_37 : decode cX2_lifts 37 = .ok (.if_icmp .ge 29, 3) := by decide +kernel
theorem dX2_lifts_40 : decode cX2_lifts 40 = .ok (.aload_n 3, 1) := by decide +kernel
theorem dX2_lifts_41 : decode cX2_lifts 41 = .ok (.iload 5, 2) := by decide +kernel
theorem dX2_lifts_43 : decode cX2_lifts 43 = .ok (.aaload, 1) := by decide +kernel
theorem dX2_lifts_44 : decode cX2_lifts 44 = .ok (.astore 6, 2) := by decide +kernel
theorem dX2_lifts_46 : decode cX2_lifts 46 = .ok (.aload 6, 2) := by decide +kernel
theorem dX2_lifts_48 : decode cX2_lifts 48 = .ok (.ifnull 12, 3) := by decide +kernel
theorem dX2_lifts_51 : decode cX2_lifts 51 = .ok (.iload_n 2, 1) := by decide +kernel
theorem dX2_lifts_52 : decode cX2_lifts 52 = .ok (.aload 6, 2) := by decide +kernel
theorem dX2_lifts_54 : decode cX2_lifts 54 = .ok (.iload_n 1, 1) := by decide +kernel
theorem dX2_lifts_55 : decode cX2_lifts 55 = .ok (.invokevirtual 138, 3) := by decide +kernel
theorem dX2_lifts_58 : decode cX2_lifts 58 = .ok (.iadd, 1) := by decide +kernel
theorem dX2_lifts_59 : decode cX2_lifts 59 = .ok (.istore_n 2, 1) := by decide +kernel
theorem dX2_lifts_60 : decode cX2_lifts 60 = .ok (.iinc 5 1, 3) := by decide +kernel
theorem dX2_lifts_63 : decode cX2_lifts 63 = .ok (.goto (-30), 3) := by decide +kernel
theorem dX2_lifts_66 : decode cX2_lifts 66 = .ok (.iload_n 2, 1) := by decide +kernel
theorem dX2_lifts_67 : decode cX2_lifts 67 = .ok (.ireturn, 1) := by decide +kernel
set_option maxRecDepth 20000 in
theorem ggX2_choices_X2_boxNumbered : GoodIn wsX2_choices wsX2_boxNumbered := goodIn_r _ [8, 9, 64, 65, 66, 67, 68, 69, 70, 71] (by decide +kernel) (by decide +kernel)
set_option maxRecDepth 20000 in
theorem gX2_choices_X2_boxNumbered : GoodIn wsX2_choices (wsV RX2 64 RX2 yX2_boxNumbered wsX2_boxNumbered) := goodIn_app (goodIn_of _ (by decide +kernel)) ggX2_choices_X2_boxNumbered
set_option maxRecDepth 20000 in
theorem ggX2_choices_X2_isLoadable : GoodIn wsX2_choices wsX2_isLoadable := goodIn_r _ [13, 14, 15, 16, 17, 18, 19, 20, 21, 22, 23, 24, 25, 26, 27, 28, 29, 30, 31, 32, 33, 34, 35, 36, 37, 38, 39, 40, 41, 42, 43, 44, 45, 46, 7, 47, 9, 48, 49, 50, 51, 52, 53, 54, 55, 56, 57, 58, 59, 60, 61, 62, 63, 64, 65, 66, 67, 68, 69, 70, 71, 72, 73, 74, 75, 76, 77, 78, 79, 80, 81, 82, 83, 84] (by decide +kernel) (by decide +kernel)
set_option maxRecDepth 20000 in
theorem gX2_choices_X2_isLoadable : GoodIn wsX2_choices (wsV RX2 97 RX2 yX2_isLoadable wsX2_isLoadable) := goodIn_app (goodIn_of _ (by decide +kernel)) ggX2_choices_X2_isLoadable
theorem dX2_choices_0 : decode cX2_choices 0 = .ok (.aload_n 0, 1) := by decide +kernel
theorem dX2_choices_1 : decode cX2_choices 1 = .ok (.iload_n 1, 1) := by decide +kernel
theorem dX2_choices_2 : decode cX2_choices 2 = .ok (.invokevirtual 64, 3) := by decide +kernel
theorem dX2_choices_5 : decode cX2_choices 5 = .ok (.astore_n 2, 1) := by decide +kernel
theorem dX2_choices_6 : decode cX2_choices 6 = .ok (.aload_n 2, 1) := by decide +kernel
theorem dX2_choices_7 : decode cX2_choices 7 = .ok (.ifnonnull 13, 3) := by decide +kernel
theorem dX2_choices_10 : decode cX2_choices 10 = .ok (.new 68, 3) := by decide +kernel
theorem dX2_choices_13 : decode cX2_choices 13 = .ok (.dup, 1) := by decide +kernel
theorem dX2_choices_14 : decode cX2_choices 14 = .ok (.ldc 150, 2) := by decide +kernel
theorem dX2_choices_16 : decode cX2_choices 16 = .ok (.invokespecial 72, 3) := by decide +kernel
theorem dX2_choices_19 : decode cX2_choices 19 = .ok (.athrow, 1) := by decide +kernel
theorem dX2_choices_20 : decode cX2_choices 20 = .ok (.iconst 0, 1) := by decide +kernel
theorem dX2_choices_21 : decode cX2_choices 21 = .ok (.istore_n 3, 1) := by decide +kernel
theorem dX2_choices_22 : decode cX2_choices 22 = .ok (.aload_n 0, 1) := by decide +kernel
theorem dX2_choices_23 : decode cX2_choices 23 = .ok (.getfield 17, 3) := by decide +kernel
theorem dX2_choices_26 : decode cX2_choices 26 = .ok (.astore 4, 2) := by decide +kernel
theorem dX2_choices_28 : decode cX2_choices 28 = .ok (.aload 4, 2) := by decide +kernel
theorem dX2_choices_30 : decode cX2_choices 30 = .ok (.arraylength, 1) := by decide +kernel
theorem dX2_choices_31 : decode cX2_choices 31 = .ok (.istore 5, 2) := by decide +kernel
theorem dX2_choices_33 : decode cX2_choices 33 = .ok (.iconst 0, 1) := by decide +kernel
theorem dX2_choices_34 : decode cX2_choices 34 = .ok (.istore 6, 2) := by decide +kernel
theorem dX2_choices_36 : decode cX2_choices 36 = .ok (.iload 6, 2) := by decide +kernel
theorem dX2_choices_38 : decode cX2_choices 38 = .ok (.iload 5, 2) := by decide +kernel
theorem dX2_choices_40 : decode cX2_choices 40 = .ok (.if_icmp .ge 29, 3) := by decide +kernel
theorem dX2_choices_43 : decode cX2_choices 43 = .ok (.aload 4, 2) := by decide +kernel
theorem dX2_choices_45 : decode cX2_choices 45 = .ok (.iload 6, 2) := by decide +kernel
theorem dX2_choices_47 : decode cX2_choices 47 = .ok (.aaload, 1) := by decide +kernel
theorem dX2_choices_48 : decode cX2_choices 48 = .ok (.astore 7, 2) := by decide +kernel
theorem dX2_choices_50 : decode cX2_choices 50 = .ok (.aload_n 0, 1) := by decide +kernel
theorem dX2_choices_51 : decode cX2_choices 51 = .ok (.aload_n 2, 1) := by decide +kernel
theorem dX2_choices_52 : decode cX2_choices 52 = .ok (.aload 7, 2) := by decide +kernel
theorem dX2_choices_54 : decode cX2_choices 54 = .ok (.invokevirtual 97, 3) := by decide +kernel
theorem dX2_choices_57 : decode cX2_choices 57 = .ok (.ifCond .eq 6, 3) := by decide +kernel
theorem dX2_choices_60 : decode cX2_choices 60 = .ok (.iinc 3 1, 3) := by decide +kernel
theorem dX2_choices_63 : decode cX2_choices 63 = .ok (.iinc 6 1, 3) := by decide +kernel
theorem dX2_choices_66 : decode cX2_choices 66 = .ok (.goto (-30), 3) := by decide +kernel
theorem dX2_choices_69 : decode cX2_choices 69 = .ok (.iload_n 3, 1) := by decide +kernel
theorem dX2_choices_70 : decode cX2_choices 70 = .ok (.ireturn, 1) := by decide +kernel
theorem dX2_isWithin_0 : decode cX2_isWithin 0 = .ok (.iload_n 0, 1) := by decide +kernel
theorem dX2_isWithin_1 : decode cX2_isWithin 1 = .ok (.iload_n 1, 1) := by decide +kernel
theorem dX2_isWithin_2 : decode cX2_isWithin 2 = .ok (.if_icmp .lt 12, 3) := by decide +kernel
theorem dX2_isWithin_5 : decode cX2_isWithin 5 = .ok (.iload_n 0, 1) := by decide +kernel
theorem dX2_isWithin_6 : decode cX2_isWithin 6 = .ok (.iload_n 2, 1) := by decide +kernel
theorem dX2_isWithin_7 : decode cX2_isWithin 7 = .ok (.if_icmp .gt 7, 3) := by decide +kernel
theorem dX2_isWithin_10 : decode cX2_isWithin 10 = .ok (.iconst 1, 1) := by decide +kernel
theorem dX2_isWithin_11 : decode cX2_isWithin 11 = .ok (.goto 4, 3) := by decide +kernel
theorem dX2_isWithin_14 : decode cX2_isWithin 14 = .ok (.iconst 0, 1) := by decide +kernel
theorem dX2_isWithin_15 : decode cX2_isWithin 15 = .ok (.ireturn, 1) := by decide +kernel
theorem dX2_boxNumbered_0 : decode cX2_boxNumbered 0 = .ok (.iload_n 1, 1) := by decide +kernel
theorem dX2_boxNumbered_1 : decode cX2_boxNumbered 1 = .ok (.ifCond .lt 12, 3) := by decide +kernel
theorem dX2_boxNumbered_4 : decode cX2_boxNumbered 4 = .ok (.iload_n 1, 1) := by decide +kernel
theorem dX2_boxNumbered_5 : decode cX2_boxNumbered 5 = .ok (.aload_n 0, 1) := by decide +kernel
theorem dX2_boxNumbered_6 : decode cX2_boxNumbered 6 = .ok (.getfield 11, 3) := by decide +kernel
theorem dX2_boxNumbered_9 : decode cX2_boxNumbered 9 = .ok (.arraylength, 1) := by decide +kernel
theorem dX2_boxNumbered_10 : decode cX2_boxNumbered 10 = .ok (.if_icmp .lt 5, 3) := by decide +kernel
theorem dX2_boxNumbered_13 : decode cX2_boxNumbered 13 = .ok (.aconst_null, 1) := by decide +kernel
theorem dX2_boxNumbered_14 : decode cX2_boxNumbered 14 = .ok (.areturn, 1) := by decide +kernel
theorem dX2_boxNumbered_15 : decode cX2_boxNumbered 15 = .ok (.aload_n 0, 1) := by decide +kernel
theorem dX2_boxNumbered_16 : decode cX2_boxNumbered 16 = .ok (.getfield 11, 3) := by decide +kernel
theorem dX2_boxNumbered_19 : decode cX2_boxNumbered 19 = .ok (.iload_n 1, 1) := by decide +kernel
theorem dX2_boxNumbered_20 : decode cX2_boxNumbered 20 = .ok (.aaload, 1) := by decide +kernel
theorem dX2_boxNumbered_21 : decode cX2_boxNumbered 21 = .ok (.areturn, 1) := by decide +kernel
theorem dX2_numberOf_0 : decode cX2_numberOf 0 = .ok (.aload_n 0, 1) := by decide +kernel
theorem dX2_numberOf_1 : decode cX2_numberOf 1 = .ok (.ifnonnull 7, 3) := by decide +kernel
theorem dX2_numberOf_4 : decode cX2_numberOf 4 = .ok (.iconst (-1), 1) := by decide +kernel
theorem dX2_numberOf_5 : decode cX2_numberOf 5 = .ok (.goto 7, 3) := by decide +kernel
theorem dX2_numberOf_8 : decode cX2_numberOf 8 = .ok (.aload_n 0, 1) := by decide +kernel
theorem dX2_numberOf_9 : decode cX2_numberOf 9 = .ok (.getfield 216, 3) := by decide +kernel
theorem dX2_numberOf_12 : decode cX2_numberOf 12 = .ok (.ireturn, 1) := by decide +kernel
set_option maxRecDepth 20000 in
theorem ggX2_stackAt_X2_isWithin : GoodIn wsX2_stackAt wsX2_isWithin := goodIn_r _ [5] (by decide +kernel) (by decide +kernel)
set_option maxRecDepth 20000 in
theorem gX2_stackAt_X2_isWithin : GoodIn wsX2_stackAt (va_wsS RX2 43 yX2_isWithin wsX2_isWithin) := goodIn_app (goodIn_of _ (by decide +kernel)) ggX2_stackAt_X2_isWithin
theorem dX2_stackAt_0 : decode cX2_stackAt 0 = .ok (.iload_n 1, 1) := by decide +kernel
theorem dX2_stackAt_1 : decode cX2_stackAt 1 = .ok (.iconst 0, 1) := by decide +kernel
theorem dX2_stackAt_2 : decode cX2_stackAt 2 = .ok (.iconst 5, 1) := by decide +kernel
theorem dX2_stackAt_3 : decode cX2_stackAt 3 = .ok (.invokestatic 43, 3) := by decide +kernel
theorem dX2_stackAt_6 : decode cX2_stackAt 6 = .ok (.ifCond .eq 12, 3) := by decide +kernel
theorem dX2_stackAt_9 : decode cX2_stackAt 9 = .ok (.iload_n 2, 1) := by decide +kernel
theorem dX2_stackAt_10 : decode cX2_stackAt 10 = .ok (.iconst 0, 1) := by decide +kernel
theorem dX2_stackAt_11 : decode cX2_stackAt 11 = .ok (.iconst 4, 1) := by decide +kernel
theorem dX2_stackAt_12 : decode cX2_stackAt 12 = .ok (.invokestatic 43, 3) := by decide +kernel
theorem dX2_stackAt_15 : decode cX2_stackAt 15 = .ok (.ifCond .ne 5, 3) := by decide +kernel
theorem dX2_stackAt_18 : decode cX2_stackAt 18 = .ok (.aconst_null, 1) := by decide +kernel
theorem dX2_stackAt_19 : decode cX2_stackAt 19 = .ok (.areturn, 1) := by decide +kernel
theorem dX2_stackAt_20 : decode cX2_stackAt 20 = .ok (.iload_n 1, 1) := by decide +kernel
theorem dX2_stackAt_21 : decode cX2_stackAt 21 = .ok (.iconst 5, 1) := by decide +kernel
theorem dX2_stackAt_22 : decode cX2_stackAt 22 = .ok (.imul, 1) := by decide +kernel
theorem dX2_stackAt_23 : decode cX2_stackAt 23 = .ok (.iload_n 2, 1) := by decide +kernel
theorem dX2_stackAt_24 : decode cX2_stackAt 24 = .ok (.iadd, 1) := by decide +kernel
theorem dX2_stackAt_25 : decode cX2_stackAt 25 = .ok (.istore_n 3, 1) := by decide +kernel
theorem dX2_stackAt_26 : decode cX2_stackAt 26 = .ok (.iload_n 3, 1) := by decide +kernel
theorem dX2_stackAt_27 : decode cX2_stackAt 27 = .ok (.ifCond .lt 12, 3) := by decide +kernel
theorem dX2_stackAt_30 : decode cX2_stackAt 30 = .ok (.iload_n 3, 1) := by decide +kernel
theorem dX2_stackAt_31 : decode cX2_stackAt 31 = .ok (.aload_n 0, 1) := by decide +kernel
theorem dX2_stackAt_32 : decode cX2_stackAt 32 = .ok (.getfield 17, 3) := by decide +kernel
theorem dX2_stackAt_35 : decode cX2_stackAt 35 = .ok (.arraylength, 1) := by decide +kernel
theorem dX2_stackAt_36 : decode cX2_stackAt 36 = .ok (.if_icmp .lt 5, 3) := by decide +kernel
theorem dX2_stackAt_39 : decode cX2_stackAt 39 = .ok (.aconst_null, 1) := by decide +kernel
theorem dX2_stackAt_40 : decode cX2_stackAt 40 = .ok (.areturn, 1) := by decide +kernel
theorem dX2_stackAt_41 : decode cX2_stackAt 41 = .ok (.aload_n 0, 1) := by decide +kernel
theorem dX2_stackAt_42 : decode cX2_stackAt 42 = .ok (.getfield 17, 3) := by decide +kernel
theorem dX2_stackAt_45 : decode cX2_stackAt 45 = .ok (.iload_n 3, 1) := by decide +kernel
theorem dX2_stackAt_46 : decode cX2_stackAt 46 = .ok (.aaload, 1) := by decide +kernel
theorem dX2_stackAt_47 : decode cX2_stackAt 47 = .ok (.areturn, 1) := by decide +kernel
set_option maxRecDepth 20000 in
theorem ggX2_isLoadable_X0_waitsAt : GoodIn wsX2_isLoadable wsX0_waitsAt := goodIn_r _ [10, 11, 12, 13, 14, 9, 15, 16, 17, 66, 67, 68, 69, 70, 71, 72, 73] (by decide +kernel) (by decide +kernel)
set_option maxRecDepth 20000 in
theorem gX2_isLoadable_X0_waitsAt : GoodIn wsX2_isLoadable (wsV RX2 187 RX0 yX0_waitsAt wsX0_waitsAt) := goodIn_app (goodIn_of _ (by decide +kernel)) ggX2_isLoadable_X0_waitsAt
set_option maxRecDepth 20000 in
theorem ggX2_isLoadable_X1_weightSum : GoodIn wsX2_isLoadable wsX1_weightSum := goodIn_r _ [22, 23, 24, 61, 62, 63, 64, 65, 66, 67, 68, 69, 70, 71, 72, 73] (by decide +kernel) (by decide +kernel)
set_option maxRecDepth 20000 in
theorem gX2_isLoadable_X1_weightSum : GoodIn wsX2_isLoadable (wsV RX2 156 RX1 yX1_weightSum wsX1_weightSum) := goodIn_app (goodIn_of _ (by decide +kernel)) ggX2_isLoadable_X1_weightSum
set_option maxRecDepth 20000 in
theorem ggX2_isLoadable_X1_hasPowerOnNextTier : GoodIn wsX2_isLoadable wsX1_hasPowerOnNextTier := goodIn_r _ [28, 29, 30, 61, 62, 63, 64, 65] (by decide +kernel) (by decide +kernel)
set_option maxRecDepth 20000 in
theorem gX2_isLoadable_X1_hasPowerOnNextTier : GoodIn wsX2_isLoadable (wsV RX2 222 RX1 yX1_hasPowerOnNextTier wsX1_hasPowerOnNextTier) := goodIn_app (goodIn_of _ (by decide +kernel)) ggX2_isLoadable_X1_hasPowerOnNextTier
set_option maxRecDepth 20000 in
theorem ggX2_isLoadable_X2_isApartFromOthers : GoodIn wsX2_isLoadable wsX2_isApartFromOthers := goodIn_r _ [35, 36, 37, 5, 38, 39, 40, 9, 41, 42, 43, 44, 45, 21, 46, 47, 48, 49, 50, 51, 52, 53, 54, 55, 56, 57, 58, 59, 60, 66, 67, 68, 69, 70, 71, 72, 73, 61, 62, 63, 64, 65] (by decide +kernel) (by decide +kernel)
set_option maxRecDepth 20000 in
theorem gX2_isLoadable_X2_isApartFromOthers : GoodIn wsX2_isLoadable (wsV RX2 225 RX2 yX2_isApartFromOthers wsX2_isApartFromOthers) := goodIn_app (goodIn_of _ (by decide +kernel)) ggX2_isLoadable_X2_isApartFromOthers
theorem dX2_isLoadable_0 : decode cX2_isLoadable 0 = .ok (.aload_n 1, 1) := by decide +kernel
theorem dX2_isLoadable_1 : decode cX2_isLoadable 1 = .ok (.ifnull 70, 3) := by decide +kernel
theorem dX2_isLoadable_4 : decode cX2_isLoadable 4 = .ok (.aload_n 2, 1) := by decide +kernel
theorem dX2_isLoadable_5 : decode cX2_isLoadable 5 = .ok (.ifnull 66, 3) := by decide +kernel
theorem dX2_isLoadable_8 : decode cX2_isLoadable 8 = .ok (.aload_n 1, 1) := by decide +kernel
theorem dX2_isLoadable_9 : decode cX2_isLoadable 9 = .ok (.aload_n 0, 1) := by decide +kernel
theorem dX2_isLoadable_10 : decode cX2_isLoadable 10 = .ok (.getfield 25, 3) := by decide +kernel
theorem dX2_isLoadable_13 : decode cX2_isLoadable 13 = .ok (.invokevirtual 187, 3) := by decide +kernel
theorem dX2_isLoadable_16 : decode cX2_isLoadable 16 = .ok (.ifCond .eq 55, 3) := by decide +kernel
theorem dX2_isLoadable_19 : decode cX2_isLoadable 19 = .ok (.aload_n 2, 1) := by decide +kernel
theorem dX2_isLoadable_20 : decode cX2_isLoadable 20 = .ok (.getfield 201, 3) := by decide +kernel
theorem dX2_isLoadable_23 : decode cX2_isLoadable 23 = .ok (.iconst 4, 1) := by decide +kernel
theorem dX2_isLoadable_24 : decode cX2_isLoadable 24 = .ok (.if_icmp .ge 47, 3) := by decide +kernel
theorem dX2_isLoadable_27 : decode cX2_isLoadable 27 = .ok (.aload_n 2, 1) := by decide +kernel
theorem dX2_isLoadable_28 : decode cX2_isLoadable 28 = .ok (.invokevirtual 156, 3) := by decide +kernel
theorem dX2_isLoadable_31 : decode cX2_isLoadable 31 = .ok (.aload_n 1, 1) := by decide +kernel
theorem dX2_isLoadable_32 : decode cX2_isLoadable 32 = .ok (.getfield 169, 3) := by decide +kernel
theorem dX2_isLoadable_35 : decode cX2_isLoadable 35 = .ok (.iadd, 1) := by decide +kernel
theorem dX2_isLoadable_36 : decode cX2_isLoadable 36 = .ok (.aload_n 0, 1) := by decide +kernel
theorem dX2_isLoadable_37 : decode cX2_isLoadable 37 = .ok (.getfield 28, 3) := by decide +kernel
theorem dX2_isLoadable_40 : decode cX2_isLoadable 40 = .ok (.if_icmp .gt 31, 3) := by decide +kernel
theorem dX2_isLoadable_43 : decode cX2_isLoadable 43 = .ok (.aload_n 1, 1) := by decide +kernel
theorem dX2_isLoadable_44 : decode cX2_isLoadable 44 = .ok (.getfield 219, 3) := by decide +kernel
theorem dX2_isLoadable_47 : decode cX2_isLoadable 47 = .ok (.iconst 1, 1) := by decide +kernel
theorem dX2_isLoadable_48 : decode cX2_isLoadable 48 = .ok (.if_icmp .ne 10, 3) := by decide +kernel
theorem dX2_isLoadable_51 : decode cX2_isLoadable 51 = .ok (.aload_n 2, 1) := by decide +kernel
theorem dX2_isLoadable_52 : decode cX2_isLoadable 52 = .ok (.invokevirtual 222, 3) := by decide +kernel
theorem dX2_isLoadable_55 : decode cX2_isLoadable 55 = .ok (.ifCond .eq 16, 3) := by decide +kernel
theorem dX2_isLoadable_58 : decode cX2_isLoadable 58 = .ok (.aload_n 0, 1) := by decide +kernel
theorem dX2_isLoadable_59 : decode cX2_isLoadable 59 = .ok (.aload_n 1, 1) := by decide +kernel
theorem dX2_isLoadable_60 : decode cX2_isLoadable 60 = .ok (.aload_n 2, 1) := by decide +kernel
theorem dX2_isLoadable_61 : decode cX2_isLoadable 61 = .ok (.invokevirtual 225, 3) := by decide +kernel
theorem dX2_isLoadable_64 : decode cX2_isLoadable 64 = .ok (.ifCond .eq 7, 3) := by decide +kernel
theorem dX2_isLoadable_67 : decode cX2_isLoadable 67 = .ok (.iconst 1, 1) := by decide +kernel
theorem dX2_isLoadable_68 : decode cX2_isLoadable 68 = .ok (.goto 4, 3) := by decide +kernel
theorem dX2_isLoadable_71 : decode cX2_isLoadable 71 = .ok (.iconst 0, 1) := by decide +kernel
theorem dX2_isLoadable_72 : decode cX2_isLoadable 72 = .ok (.ireturn, 1) := by decide +kernel
set_option maxRecDepth 20000 in
theorem ggX2_isApartFromOthers_X0_isDangerous : GoodIn wsX2_isApartFromOthers wsX0_isDangerous := goodIn_r _ [8, 9, 29, 30, 31, 32, 33, 34, 35, 36] (by decide +kernel) (by decide +kernel)
set_option maxRecDepth 20000 in
theorem gX2_isApartFromOthers_X0_isDangerous : GoodIn wsX2_isApartFromOthers (wsV RX2 228 RX0 yX0_isDangerous wsX0_isDangerous) := goodIn_app (goodIn_of _ (by decide +kernel)) ggX2_isApartFromOthers_X0_isDangerous
set_option maxRecDepth 20000 in
theorem ggX2_isApartFromOthers_X1_isApartFrom : GoodIn wsX2_isApartFromOthers wsX1_isApartFrom := goodIn_r _ [14, 15, 16, 17, 18, 19, 20, 37, 38, 39, 40, 41] (by decide +kernel) (by decide +kernel)
set_option maxRecDepth 20000 in
theorem gX2_isApartFromOthers_X1_isApartFrom : GoodIn wsX2_isApartFromOthers (wsV RX2 231 RX1 yX1_isApartFrom wsX1_isApartFrom) := goodIn_app (goodIn_of _ (by decide +kernel)) ggX2_isApartFromOthers_X1_isApartFrom
theorem dX2_isApartFromOthers_0 : decode cX2_isApartFromOthers 0 = .ok (.aload_n 1, 1) := by decide +kernel
theorem dX2_isApartFromOthers_1 : decode cX2_isApartFromOthers 1 = .ok (.invokevirtual 228, 3) := by decide +kernel
theorem dX2_isApartFromOthers_4 : decode cX2_isApartFromOthers 4 = .ok (.ifCond .ne 5, 3) := by decide +kernel
theorem dX2_isApartFromOthers_7 : decode cX2_isApartFromOthers 7 = .ok (.iconst 1, 1) := by decide +kernel
theorem dX2_isApartFromOthers_8 : decode cX2_isApartFromOthers 8 = .ok (.ireturn, 1) := by decide +kernel
theorem dX2_isApartFromOthers_9 : decode cX2_isApartFromOthers 9 = .ok (.aload_n 0, 1) := by decide +kernel
theorem dX2_isApartFromOthers_10 : decode cX2_isApartFromOthers 10 = .ok (.getfield 11, 3) := by decide +kernel
theorem dX2_isApartFromOthers_13 : decode cX2_isApartFromOthers 13 = .ok (.astore_n 3, 1) := by decide +kernel
theorem dX2_isApartFromOthers_14 : decode cX2_isApartFromOthers 14 = .ok (.aload_n 3, 1) := by decide +kernel
theorem dX2_isApartFromOthers_15 : decode cX2_isApartFromOthers 15 = .ok (.arraylength, 1) := by decide +kernel
theorem dX2_isApartFromOthers_16 : decode cX2_isApartFromOthers 16 = .ok (.istore 4, 2) := by decide +kernel
theorem dX2_isApartFromOthers_18 : decode cX2_isApartFromOthers 18 = .ok (.iconst 0, 1) := by decide +kernel
theorem dX2_isApartFromOthers_19 : decode cX2_isApartFromOthers 19 = .ok (.istore 5, 2) := by decide +kernel
theorem dX2_isApartFromOthers_21 : decode cX2_isApartFromOthers 21 = .ok (.iload 5, 2) := by decide +kernel
theorem dX2_isApartFromOthers_23 : decode cX2_isApartFromOthers 23 = .ok (.iload 4, 2) := by decide +kernel
theorem dX2_isApartFromOthers_25 : decode cX2_isApartFromOthers 25 = .ok (.if_icmp .ge 62, 3) := by decide +kernel
theorem dX2_isApartFromOthers_28 : decode cX2_isApartFromOthers 28 = .ok (.aload_n 3, 1) := by decide +kernel
theorem dX2_isApartFromOthers_29 : decode cX2_isApartFromOthers 29 = .ok (.iload 5, 2) := by decide +kernel
theorem dX2_isApartFromOthers_31 : decode cX2_isApartFromOthers 31 = .ok (.aaload, 1) := by decide +kernel
theorem dX2_isApartFromOthers_32 : decode cX2_isApartFromOthers 32 = .ok (.astore 6, 2) := by decide +kernel
theorem dX2_isApartFromOthers_34 : decode cX2_isApartFromOthers 34 = .ok (.aload 6, 2) := by decide +kernel
theorem dX2_isApartFromOthers_36 : decode cX2_isApartFromOthers 36 = .ok (.ifnull 45, 3) := by decide +kernel
theorem dX2_isApartFromOthers_39 : decode cX2_isApartFromOthers 39 = .ok (.aload 6, 2) := by decide +kernel
theorem dX2_isApartFromOthers_41 : decode cX2_isApartFromOthers 41 = .ok (.getfield 165, 3) := by decide +kernel
theorem dX2_isApartFromOthers_44 : decode cX2_isApartFromOthers 44 = .ok (.ifnull 37, 3) := by decide +kernel
theorem dX2_isApartFromOthers_47 : decode cX2_isApartFromOthers 47 = .ok (.aload 6, 2) := by decide +kernel
theorem dX2_isApartFromOthers_49 : decode cX2_isApartFromOthers 49 = .ok (.invokevirtual 228, 3) := by decide +kernel
theorem dX2_isApartFromOthers_52 : decode cX2_isApartFromOthers 52 = .ok (.ifCond .eq 29, 3) := by decide +kernel
theorem dX2_isApartFromOthers_55 : decode cX2_isApartFromOthers 55 = .ok (.aload 6, 2) := by decide +kernel
theorem dX2_isApartFromOthers_57 : decode cX2_isApartFromOthers 57 = .ok (.getfield 219, 3) := by decide +kernel
theorem dX2_isApartFromOthers_60 : decode cX2_isApartFromOthers 60 = .ok (.aload_n 1, 1) := by decide +kernel
theorem dX2_isApartFromOthers_61 : decode cX2_isApartFromOthers 61 = .ok (.getfield 219, 3) := by decide +kernel
theorem dX2_isApartFromOthers_64 : decode cX2_isApartFromOthers 64 = .ok (.if_icmp .eq 17, 3) := by decide +kernel
theorem dX2_isApartFromOthers_67 : decode cX2_isApartFromOthers 67 = .ok (.aload 6, 2) := by decide +kernel
theorem dX2_isApartFromOthers_69 : decode cX2_isApartFromOthers 69 = .ok (.getfield 165, 3) := by decide +kernel
theorem dX2_isApartFromOthers_72 : decode cX2_isApartFromOthers 72 = .ok (.aload_n 2, 1) := by decide +kernel
theorem dX2_isApartFromOthers_73 : decode cX2_isApartFromOthers 73 = .ok (.invokevirtual 231, 3) := by decide +kernel
theorem dX2_isApartFromOthers_76 : decode cX2_isApartFromOthers 76 = .ok (.ifCond .ne 5, 3) := by decide +kernel
theorem dX2_isApartFromOthers_79 : decode cX2_isApartFromOthers 79 = .ok (.iconst 0, 1) := by decide +kernel
theorem dX2_isApartFromOthers_80 : decode cX2_isApartFromOthers 80 = .ok (.ireturn, 1) := by decide +kernel
theorem dX2_isApartFromOthers_81 : decode cX2_isApartFromOthers 81 = .ok (.iinc 5 1, 3) := by decide +kernel
theorem dX2_isApartFromOthers_84 : decode cX2_isApartFromOthers 84 = .ok (.goto (-63), 3) := by decide +kernel
theorem dX2_isApartFromOthers_87 : decode cX2_isApartFromOthers 87 = .ok (.iconst 1, 1) := by decide +kernel
theorem dX2_isApartFromOthers_88 : decode cX2_isApartFromOthers 88 = .ok (.ireturn, 1) := by decide +kernel
set_option maxRecDepth 20000 in
theorem ggX2_nextToLoad_X0_goesBefore : GoodIn wsX2_nextToLoad wsX0_goesBefore := goodIn_r _ [6, 7, 8, 76, 77, 78, 79, 80, 81, 82, 83] (by decide +kernel) (by decide +kernel)
set_option maxRecDepth 20000 in
theorem gX2_nextToLoad_X0_goesBefore : GoodIn wsX2_nextToLoad (wsV RX2 235 RX0 yX0_goesBefore wsX0_goesBefore) := goodIn_app (goodIn_of _ (by decide +kernel)) ggX2_nextToLoad_X0_goesBefore
set_option maxRecDepth 20000 in
theorem ggX2_nextToLoad_X2_hasChoice : GoodIn wsX2_nextToLoad wsX2_hasChoice := goodIn_r _ [13, 14, 15, 16, 17, 12, 18, 19, 20, 21, 22, 23, 24, 25, 26, 5, 27, 28, 29, 30, 31, 32, 33, 34, 35, 36, 37, 38, 39, 40, 41, 42, 43, 44, 45, 46, 47, 48, 49, 50, 51, 1, 52, 53, 54, 55, 56, 57, 58, 59, 60, 61, 62, 63, 64, 65, 66, 67, 68, 69, 70, 71, 72, 73, 74, 75, 84, 85, 86, 87, 88, 76, 77, 78, 79, 80, 81, 82, 83] (by decide +kernel) (by decide +kernel)
set_option maxRecDepth 20000 in
theorem gX2_nextToLoad_X2_hasChoice : GoodIn wsX2_nextToLoad (wsV RX2 239 RX2 yX2_hasChoice wsX2_hasChoice) := goodIn_app (goodIn_of _ (by decide +kernel)) ggX2_nextToLoad_X2_hasChoice
theorem dX2_nextToLoad_0 : decode cX2_nextToLoad 0 = .ok (.aconst_null, 1) := by decide +kernel
theorem dX2_nextToLoad_1 : decode cX2_nextToLoad 1 = .ok (.astore_n 1, 1) := by decide +kernel
theorem dX2_nextToLoad_2 : decode cX2_nextToLoad 2 = .ok (.aload_n 0, 1) := by decide +kernel
theorem dX2_nextToLoad_3 : decode cX2_nextToLoad 3 = .ok (.getfield 11, 3) := by decide +kernel
theorem dX2_nextToLoad_6 : decode cX2_nextToLoad 6 = .ok (.astore_n 2, 1) := by decide +kernel
theorem dX2_nextToLoad_7 : decode cX2_nextToLoad 7 = .ok (.aload_n 2, 1) := by decide +kernel
theorem dX2_nextToLoad_8 : decode cX2_nextToLoad 8 = .ok (.arraylength, 1) := by decide +kernel
theorem dX2_nextToLoad_9 : decode cX2_nextToLoad 9 = .ok (.istore_n 3, 1) := by decide +kernel
theorem dX2_nextToLoad_10 : decode cX2_nextToLoad 10 = .ok (.iconst 0, 1) := by decide +kernel
theorem dX2_nextToLoad_11 : decode cX2_nextToLoad 11 = .ok (.istore 4, 2) := by decide +kernel
theorem dX2_nextToLoad_13 : decode cX2_nextToLoad 13 = .ok (.iload 4, 2) := by decide +kernel
theorem dX2_nextToLoad_15 : decode cX2_nextToLoad 15 = .ok (.iload_n 3, 1) := by decide +kernel
theorem dX2_nextToLoad_16 : decode cX2_nextToLoad 16 = .ok (.if_icmp .ge 45, 3) := by decide +kernel
theorem dX2_nextToLoad_19 : decode cX2_nextToLoad 19 = .ok (.aload_n 2, 1) := by decide +kernel
theorem dX2_nextToLoad_20 : decode cX2_nextToLoad 20 = .ok (.iload 4, 2) := by decide +kernel
theorem dX2_nextToLoad_22 : decode cX2_nextToLoad 22 = .ok (.aaload, 1) := by decide +kernel
theorem dX2_nextToLoad_23 : decode cX2_nextToLoad 23 = .ok (.astore 5, 2) := by decide +kernel
theorem dX2_nextToLoad_25 : decode cX2_nextToLoad 25 = .ok (.aload 5, 2) := by decide +kernel
theorem dX2_nextToLoad_27 : decode cX2_nextToLoad 27 = .ok (.ifnull 28, 3) := by decide +kernel
theorem dX2_nextToLoad_30 : decode cX2_nextToLoad 30 = .ok (.aload_n 1, 1) := by decide +kernel
theorem dX2_nextToLoad_31 : decode cX2_nextToLoad 31 = .ok (.ifnull 12, 3) := by decide +kernel
theorem dX2_nextToLoad_34 : decode cX2_nextToLoad 34 = .ok (.aload 5, 2) := by decide +kernel
theorem dX2_nextToLoad_36 : decode cX2_nextToLoad 36 = .ok (.aload_n 1, 1) := by decide +kernel
theorem dX2_nextToLoad_37 : decode cX2_nextToLoad 37 = .ok (.invokevirtual 235, 3) := by decide +kernel
theorem dX2_nextToLoad_40 : decode cX2_nextToLoad 40 = .ok (.ifCond .eq 15, 3) := by decide +kernel
theorem dX2_nextToLoad_43 : decode cX2_nextToLoad 43 = .ok (.aload_n 0, 1) := by decide +kernel
theorem dX2_nextToLoad_44 : decode cX2_nextToLoad 44 = .ok (.aload 5, 2) := by decide +kernel
theorem dX2_nextToLoad_46 : decode cX2_nextToLoad 46 = .ok (.invokevirtual 239, 3) := by decide +kernel
theorem dX2_nextToLoad_49 : decode cX2_nextToLoad 49 = .ok (.ifCond .eq 6, 3) := by decide +kernel
theorem dX2_nextToLoad_52 : decode cX2_nextToLoad 52 = .ok (.aload 5, 2) := by decide +kernel
theorem dX2_nextToLoad_54 : decode cX2_nextToLoad 54 = .ok (.astore_n 1, 1) := by decide +kernel
theorem dX2_nextToLoad_55 : decode cX2_nextToLoad 55 = .ok (.iinc 4 1, 3) := by decide +kernel
theorem dX2_nextToLoad_58 : decode cX2_nextToLoad 58 = .ok (.goto (-45), 3) := by decide +kernel
theorem dX2_nextToLoad_61 : decode cX2_nextToLoad 61 = .ok (.aload_n 1, 1) := by decide +kernel
theorem dX2_nextToLoad_62 : decode cX2_nextToLoad 62 = .ok (.areturn, 1) := by decide +kernel
set_option maxRecDepth 20000 in
theorem ggX2_hasChoice_X2_isLoadable : GoodIn wsX2_hasChoice wsX2_isLoadable := goodIn_r _ [6, 7, 8, 9, 10, 11, 12, 13, 14, 15, 16, 17, 18, 19, 20, 21, 22, 23, 24, 25, 26, 27, 28, 29, 30, 31, 32, 33, 34, 35, 36, 37, 38, 39, 5, 40, 41, 42, 43, 44, 45, 46, 47, 48, 49, 50, 51, 52, 53, 54, 55, 56, 57, 58, 59, 60, 61, 62, 63, 64, 65, 66, 67, 68, 69, 70, 71, 72, 73, 74, 75, 76, 77, 78] (by decide +kernel) (by decide +kernel)
set_option maxRecDepth 20000 in
theorem gX2_hasChoice_X2_isLoadable : GoodIn wsX2_hasChoice (wsV RX2 97 RX2 yX2_isLoadable wsX2_isLoadable) := goodIn_app (goodIn_of _ (by decide +kernel)) ggX2_hasChoice_X2_isLoadable
theorem dX2_hasChoice_0 : decode cX2_hasChoice 0 = .ok (.aload_n 0, 1) := by decide +kernel
theorem dX2_hasChoice_1 : decode cX2_hasChoice 1 = .ok (.getfield 17, 3) := by decide +kernel
theorem dX2_hasChoice_4 : decode cX2_hasChoice 4 = .ok (.astore_n 2, 1) := by decide +kernel
theorem dX2_hasChoice_5 : decode cX2_hasChoice 5 = .ok (.aload_n 2, 1) := by decide +kernel
theorem dX2_hasChoice_6 : decode cX2_hasChoice 6 = .ok (.arraylength, 1) := by decide +kernel
theorem dX2_hasChoice_7 : decode cX2_hasChoice 7 = .ok (.istore_n 3, 1) := by decide +kernel
theorem dX2_hasChoice_8 : decode cX2_hasChoice 8 = .ok (.iconst 0, 1) := by decide +kernel
theorem dX2_hasChoice_9 : decode cX2_hasChoice 9 = .ok (.istore 4, 2) := by decide +kernel
theorem dX2_hasChoice_11 : decode cX2_hasChoice 11 = .ok (.iload 4, 2) := by decide +kernel
theorem dX2_hasChoice_13 : decode cX2_hasChoice 13 = .ok (.iload_n 3, 1) := by decide +kernel
theorem dX2_hasChoice_14 : decode cX2_hasChoice 14 = .ok (.if_icmp .ge 27, 3) := by decide +kernel
theorem dX2_hasChoice_17 : decode cX2_hasChoice 17 = .ok (.aload_n 2, 1) := by decide +kernel
theorem dX2_hasChoice_18 : decode cX2_hasChoice 18 = .ok (.iload 4, 2) := by decide +kernel
theorem dX2_hasChoice_20 : decode cX2_hasChoice 20 = .ok (.aaload, 1) := by decide +kernel
theorem dX2_hasChoice_21 : decode cX2_hasChoice 21 = .ok (.astore 5, 2) := by decide +kernel
theorem dX2_hasChoice_23 : decode cX2_hasChoice 23 = .ok (.aload_n 0, 1) := by decide +kernel
theorem dX2_hasChoice_24 : decode cX2_hasChoice 24 = .ok (.aload_n 1, 1) := by decide +kernel
theorem dX2_hasChoice_25 : decode cX2_hasChoice 25 = .ok (.aload 5, 2) := by decide +kernel
theorem dX2_hasChoice_27 : decode cX2_hasChoice 27 = .ok (.invokevirtual 97, 3) := by decide +kernel
theorem dX2_hasChoice_30 : decode cX2_hasChoice 30 = .ok (.ifCond .eq 5, 3) := by decide +kernel
theorem dX2_hasChoice_33 : decode cX2_hasChoice 33 = .ok (.iconst 1, 1) := by decide +kernel
theorem dX2_hasChoice_34 : decode cX2_hasChoice 34 = .ok (.ireturn, 1) := by decide +kernel
theorem dX2_hasChoice_35 : decode cX2_hasChoice 35 = .ok (.iinc 4 1, 3) := by decide +kernel
theorem dX2_hasChoice_38 : decode cX2_hasChoice 38 = .ok (.goto (-27), 3) := by decide +kernel
theorem dX2_hasChoice_41 : decode cX2_hasChoice 41 = .ok (.iconst 0, 1) := by decide +kernel
theorem dX2_hasChoice_42 : decode cX2_hasChoice 42 = .ok (.ireturn, 1) := by decide +kernel
set_option maxRecDepth 20000 in
theorem ggX2_bestStackFor_X2_moment : GoodIn wsX2_bestStackFor wsX2_moment := goodIn_r _ [12, 1, 13, 14, 15, 16, 17, 18, 19, 20, 21, 22, 23, 24, 25, 26, 27, 28, 29, 77, 78, 79, 80, 81, 82, 83, 84, 93, 94, 95, 96, 97, 85, 86, 87, 88, 89, 90, 91, 92] (by decide +kernel) (by decide +kernel)
set_option maxRecDepth 20000 in
theorem gX2_bestStackFor_X2_moment : GoodIn wsX2_bestStackFor (wsV RX2 172 RX2 yX2_moment wsX2_moment) := goodIn_app (goodIn_of _ (by decide +kernel)) ggX2_bestStackFor_X2_moment
set_option maxRecDepth 20000 in
theorem ggX2_bestStackFor_X2_isLoadable : GoodIn wsX2_bestStackFor wsX2_isLoadable := goodIn_r _ [33, 34, 35, 3, 36, 37, 38, 39, 40, 41, 42, 43, 44, 45, 46, 47, 48, 49, 13, 14, 15, 16, 17, 18, 19, 50, 51, 52, 53, 54, 55, 56, 57, 58, 11, 59, 60, 61, 62, 63, 64, 65, 66, 67, 68, 69, 70, 24, 71, 5, 6, 7, 29, 77, 78, 79, 80, 81, 82, 83, 84, 93, 94, 95, 96, 97, 85, 86, 87, 88, 89, 90, 91, 92] (by decide +kernel) (by decide +kernel)
set_option maxRecDepth 20000 in
theorem gX2_bestStackFor_X2_isLoadable : GoodIn wsX2_bestStackFor (wsV RX2 97 RX2 yX2_isLoadable wsX2_isLoadable) := goodIn_app (goodIn_of _ (by decide +kernel)) ggX2_bestStackFor_X2_isLoadable
set_option maxRecDepth 20000 in
theorem ggX2_bestStackFor_X1_countLandedBefore : GoodIn wsX2_bestStackFor wsX1_countLandedBefore := goodIn_r _ [75, 18, 76, 93, 94, 95, 96, 97, 85, 86, 87, 88, 89, 90, 91, 92] (by decide +kernel) (by decide +kernel)
set_option maxRecDepth 20000 in
theorem gX2_bestStackFor_X1_countLandedBefore : GoodIn wsX2_bestStackFor (wsV RX2 245 RX1 yX1_countLandedBefore wsX1_countLandedBefore) := goodIn_app (goodIn_of _ (by decide +kernel)) ggX2_bestStackFor_X1_countLandedBefore
set_option maxRecDepth 20000 in
theorem ggX2_bestStackFor_X1_listArm : GoodIn wsX2_bestStackFor wsX1_listArm := goodIn_r _ [28, 29, 93, 94, 95, 96, 97] (by decide +kernel) (by decide +kernel)
set_option maxRecDepth 20000 in
theorem gX2_bestStackFor_X1_listArm : GoodIn wsX2_bestStackFor (wsV RX2 162 RX1 yX1_listArm wsX1_listArm) := goodIn_app (goodIn_of _ (by decide +kernel)) ggX2_bestStackFor_X1_listArm
set_option maxRecDepth 20000 in
theorem ggX2_bestStackFor_X1_trimArm : GoodIn wsX2_bestStackFor wsX1_trimArm := goodIn_r _ [23, 24, 93, 94, 95, 96, 97] (by decide +kernel) (by decide +kernel)
set_option maxRecDepth 20000 in
theorem gX2_bestStackFor_X1_trimArm : GoodIn wsX2_bestStackFor (wsV RX2 159 RX1 yX1_trimArm wsX1_trimArm) := goodIn_app (goodIn_of _ (by decide +kernel)) ggX2_bestStackFor_X1_trimArm
theorem dX2_bestStackFor_0 : decode cX2_bestStackFor 0 = .ok (.aload_n 1, 1) := by decide +kernel
theorem dX2_bestStackFor_1 : decode cX2_bestStackFor 1 = .ok (.ifnonnull 5, 3) := by decide +kernel
theorem dX2_bestStackFor_4 : decode cX2_bestStackFor 4 = .ok (.aconst_null, 1) := by decide +kernel
theorem dX2_bestStackFor_5 : decode cX2_bestStackFor 5 = .ok (.areturn, 1) := by decide +kernel
theorem dX2_bestStackFor_6 : decode cX2_bestStackFor 6 = .ok (.aload_n 0, 1) := by decide +kernel
theorem dX2_bestStackFor_7 : decode cX2_bestStackFor 7 = .ok (.iconst 0, 1) := by decide +kernel
theorem dX2_bestStackFor_8 : decode cX2_bestStackFor 8 = .ok (.invokevirtual 172, 3) := by decide +kernel
theorem dX2_bestStackFor_11 : decode cX2_bestStackFor 11 = .ok (.istore_n 2, 1) := by decide +kernel
theorem dX2_bestStackFor_12 : decode cX2_bestStackFor 12 = .ok (.aload_n 0, 1) := by decide +kernel
theorem dX2_bestStackFor_13 : decode cX2_bestStackFor 13 = .ok (.iconst 1, 1) := by decide +kernel
theorem dX2_bestStackFor_14 : decode cX2_bestStackFor 14 = .ok (.invokevirtual 172, 3) := by decide +kernel
theorem dX2_bestStackFor_17 : decode cX2_bestStackFor 17 = .ok (.istore_n 3, 1) := by decide +kernel
theorem dX2_bestStackFor_18 : decode cX2_bestStackFor 18 = .ok (.aconst_null, 1) := by decide +kernel
theorem dX2_bestStackFor_19 : decode cX2_bestStackFor 19 = .ok (.astore 4, 2) := by decide +kernel
theorem dX2_bestStackFor_21 : decode cX2_bestStackFor 21 = .ok (.iconst 0, 1) := by decide +kernel
theorem dX2_bestStackFor_22 : decode cX2_bestStackFor 22 = .ok (.istore 5, 2) := by decide +kernel
theorem dX2_bestStackFor_24 : decode cX2_bestStackFor 24 = .ok (.iconst 0, 1) := by decide +kernel
theorem dX2_bestStackFor_25 : decode cX2_bestStackFor 25 = .ok (.istore 6, 2) := by decide +kernel
theorem dX2_bestStackFor_27 : decode cX2_bestStackFor 27 = .ok (.iconst 0, 1) := by decide +kernel
theorem dX2_bestStackFor_28 : decode cX2_bestStackFor 28 = .ok (.istore 7, 2) := by decide +kernel
theorem dX2_bestStackFor_30 : decode cX2_bestStackFor 30 = .ok (.aload_n 0, 1) := by decide +kernel
theorem dX2_bestStackFor_31 : decode cX2_bestStackFor 31 = .ok (.getfield 17, 3) := by decide +kernel
theorem dX2_bestStackFor_34 : decode cX2_bestStackFor 34 = .ok (.astore 8, 2) := by decide +kernel
theorem dX2_bestStackFor_36 : decode cX2_bestStackFor 36 = .ok (.aload 8, 2) := by decide +kernel
theorem dX2_bestStackFor_38 : decode cX2_bestStackFor 38 = .ok (.arraylength, 1) := by decide +kernel
theorem dX2_bestStackFor_39 : decode cX2_bestStackFor 39 = .ok (.istore 9, 2) := by decide +kernel
theorem dX2_bestStackFor_41 : decode cX2_bestStackFor 41 = .ok (.iconst 0, 1) := by decide +kernel
theorem dX2_bestStackFor_42 : decode cX2_bestStackFor 42 = .ok (.istore 10, 2) := by decide +kernel
theorem dX2_bestStackFor_44 : decode cX2_bestStackFor 44 = .ok (.iload 10, 2) := by decide +kernel
theorem dX2_bestStackFor_46 : decode cX2_bestStackFor 46 = .ok (.iload 9, 2) := by decide +kernel
theorem dX2_bestStackFor_48 : decode cX2_bestStackFor 48 = .ok (.if_icmp .ge 132, 3) := by decide +kernel
theorem dX2_bestStackFor_51 : decode cX2_bestStackFor 51 = .ok (.aload 8, 2) := by decide +kernel
theorem dX2_bestStackFor_53 : decode cX2_bestStackFor 53 = .ok (.iload 10, 2) := by decide +kernel
theorem dX2_bestStackFor_55 : decode cX2_bestStackFor 55 = .ok (.aaload, 1) := by decide +kernel
theorem dX2_bestStackFor_56 : decode cX2_bestStackFor 56 = .ok (.astore 11, 2) := by decide +kernel
theorem dX2_bestStackFor_58 : decode cX2_bestStackFor 58 = .ok (.aload 11, 2) := by decide +kernel
theorem dX2_bestStackFor_60 : decode cX2_bestStackFor 60 = .ok (.ifnull 114, 3) := by decide +kernel
theorem dX2_bestStackFor_63 : decode cX2_bestStackFor 63 = .ok (.aload_n 0, 1) := by decide +kernel
theorem dX2_bestStackFor_64 : decode cX2_bestStackFor 64 = .ok (.aload_n 1, 1) := by decide +kernel
theorem dX2_bestStackFor_65 : decode cX2_bestStackFor 65 = .ok (.aload 11, 2) := by decide +kernel
theorem dX2_bestStackFor_67 : decode cX2_bestStackFor 67 = .ok (.invokevirtual 97, 3) := by decide +kernel
theorem dX2_bestStackFor_70 : decode cX2_bestStackFor 70 = .ok (.ifCond .eq 104, 3) := by decide +kernel
theorem dX2_bestStackFor_73 : decode cX2_bestStackFor 73 = .ok (.aload 11, 2) := by decide +kernel
theorem dX2_bestStackFor_75 : decode cX2_bestStackFor 75 = .ok (.aload_n 1, 1) := by decide +kernel
theorem dX2_bestStackFor_76 : decode cX2_bestStackFor 76 = .ok (.getfield 242, 3) := by decide +kernel
theorem dX2_bestStackFor_79 : decode cX2_bestStackFor 79 = .ok (.invokevirtual 245, 3) := by decide +kernel
theorem dX2_bestStackFor_82 : decode cX2_bestStackFor 82 = .ok (.istore 12, 2) := by decide +kernel
theorem dX2_bestStackFor_84 : decode cX2_bestStackFor 84 = .ok (.iload_n 2, 1) := by decide +kernel
theorem dX2_bestStackFor_85 : decode cX2_bestStackFor 85 = .ok (.aload_n 1, 1) := by decide +kernel
theorem dX2_bestStackFor_86 : decode cX2_bestStackFor 86 = .ok (.getfield 169, 3) := by decide +kernel
theorem dX2_bestStackFor_89 : decode cX2_bestStackFor 89 = .ok (.aload 11, 2) := by decide +kernel
theorem dX2_bestStackFor_91 : decode cX2_bestStackFor 91 = .ok (.invokevirtual 162, 3) := by decide +kernel
theorem dX2_bestStackFor_94 : decode cX2_bestStackFor 94 = .ok (.imul, 1) := by decide +kernel
theorem dX2_bestStackFor_95 : decode cX2_bestStackFor 95 = .ok (.iadd, 1) := by decide +kernel
theorem dX2_bestStackFor_96 : decode cX2_bestStackFor 96 = .ok (.invokestatic 176, 3) := by decide +kernel
theorem dX2_bestStackFor_99 : decode cX2_bestStackFor 99 = .ok (.istore 13, 2) := by decide +kernel
theorem dX2_bestStackFor_101 : decode cX2_bestStackFor 101 = .ok (.iload_n 3, 1) := by decide +kernel
theorem dX2_bestStackFor_102 : decode cX2_bestStackFor 102 = .ok (.aload_n 1, 1) := by decide +kernel
theorem dX2_bestStackFor_103 : decode cX2_bestStackFor 103 = .ok (.getfield 169, 3) := by decide +kernel
theorem dX2_bestStackFor_106 : decode cX2_bestStackFor 106 = .ok (.aload 11, 2) := by decide +kernel
theorem dX2_bestStackFor_108 : decode cX2_bestStackFor 108 = .ok (.invokevirtual 159, 3) := by decide +kernel
theorem dX2_bestStackFor_111 : decode cX2_bestStackFor 111 = .ok (.imul, 1) := by decide +kernel
theorem dX2_bestStackFor_112 : decode cX2_bestStackFor 112 = .ok (.iadd, 1) := by decide +kernel
theorem dX2_bestStackFor_113 : decode cX2_bestStackFor 113 = .ok (.invokestatic 176, 3) := by decide +kernel
theorem dX2_bestStackFor_116 : decode cX2_bestStackFor 116 = .ok (.istore 14, 2) := by decide +kernel
theorem dX2_bestStackFor_118 : decode cX2_bestStackFor 118 = .ok (.aload 4, 2) := by decide +kernel
theorem dX2_bestStackFor_120 : decode cX2_bestStackFor 120 = .ok (.ifnull 38, 3) := by decide +kernel
theorem dX2_bestStackFor_123 : decode cX2_bestStackFor 123 = .ok (.iload 12, 2) := by decide +kernel
theorem dX2_bestStackFor_125 : decode cX2_bestStackFor 125 = .ok (.iload 5, 2) := by decide +kernel
theorem dX2_bestStackFor_127 : decode cX2_bestStackFor 127 = .ok (.if_icmp .lt 31, 3) := by decide +kernel
theorem dX2_bestStackFor_130 : decode cX2_bestStackFor 130 = .ok (.iload 12, 2) := by decide +kernel
theorem dX2_bestStackFor_132 : decode cX2_bestStackFor 132 = .ok (.iload 5, 2) := by decide +kernel
theorem dX2_bestStackFor_134 : decode cX2_bestStackFor 134 = .ok (.if_icmp .ne 40, 3) := by decide +kernel
theorem dX2_bestStackFor_137 : decode cX2_bestStackFor 137 = .ok (.iload 13, 2) := by decide +kernel
theorem dX2_bestStackFor_139 : decode cX2_bestStackFor 139 = .ok (.iload 6, 2) := by decide +kernel
theorem dX2_bestStackFor_141 : decode cX2_bestStackFor 141 = .ok (.if_icmp .lt 17, 3) := by decide +kernel
theorem dX2_bestStackFor_144 : decode cX2_bestStackFor 144 = .ok (.iload 13, 2) := by decide +kernel
theorem dX2_bestStackFor_146 : decode cX2_bestStackFor 146 = .ok (.iload 6, 2) := by decide +kernel
theorem dX2_bestStackFor_148 : decode cX2_bestStackFor 148 = .ok (.if_icmp .ne 26, 3) := by decide +kernel
theorem dX2_bestStackFor_151 : decode cX2_bestStackFor 151 = .ok (.iload 14, 2) := by decide +kernel
theorem dX2_bestStackFor_153 : decode cX2_bestStackFor 153 = .ok (.iload 7, 2) := by decide +kernel
theorem dX2_bestStackFor_155 : decode cX2_bestStackFor 155 = .ok (.if_icmp .ge 19, 3) := by decide +kernel
theorem dX2_bestStackFor_158 : decode cX2_bestStackFor 158 = .ok (.aload 11, 2) := by decide +kernel
theorem dX2_bestStackFor_160 : decode cX2_bestStackFor 160 = .ok (.astore 4, 2) := by decide +kernel
theorem dX2_bestStackFor_162 : decode cX2_bestStackFor 162 = .ok (.iload 12, 2) := by decide +kernel
theorem dX2_bestStackFor_164 : decode cX2_bestStackFor 164 = .ok (.istore 5, 2) := by decide +kernel
theorem dX2_bestStackFor_166 : decode cX2_bestStackFor 166 = .ok (.iload 13, 2) := by decide +kernel
theorem dX2_bestStackFor_168 : decode cX2_bestStackFor 168 = .ok (.istore 6, 2) := by decide +kernel
theorem dX2_bestStackFor_170 : decode cX2_bestStackFor 170 = .ok (.iload 14, 2) := by decide +kernel
theorem dX2_bestStackFor_172 : decode cX2_bestStackFor 172 = .ok (.istore 7, 2) := by decide +kernel
theorem dX2_bestStackFor_174 : decode cX2_bestStackFor 174 = .ok (.iinc 10 1, 3) := by decide +kernel
theorem dX2_bestStackFor_177 : decode cX2_bestStackFor 177 = .ok (.goto (-133), 3) := by decide +kernel
theorem dX2_bestStackFor_180 : decode cX2_bestStackFor 180 = .ok (.aload 4, 2) := by decide +kernel
theorem dX2_bestStackFor_182 : decode cX2_bestStackFor 182 = .ok (.areturn, 1) := by decide +kernel
theorem dJ9_abs_0f7a4_0 : decode cJ9_abs_0f7a4 0 = .ok (.iload_n 0, 1) := by decide +kernel
theorem dJ9_abs_0f7a4_1 : decode cJ9_abs_0f7a4 1 = .ok (.ifCond .ge 8, 3) := by decide +kernel
theorem dJ9_abs_0f7a4_4 : decode cJ9_abs_0f7a4 4 = .ok (.iload_n 0, 1) := by decide +kernel
theorem dJ9_abs_0f7a4_5 : decode cJ9_abs_0f7a4 5 = .ok (.ineg, 1) := by decide +kernel
theorem dJ9_abs_0f7a4_6 : decode cJ9_abs_0f7a4 6 = .ok (.goto 4, 3) := by decide +kernel
theorem dJ9_abs_0f7a4_9 : decode cJ9_abs_0f7a4 9 = .ok (.iload_n 0, 1) := by decide +kernel
theorem dJ9_abs_0f7a4_10 : decode cJ9_abs_0f7a4 10 = .ok (.ireturn, 1) := by decide +kernel
theorem dJ9_min_7cf53_0 : decode cJ9_min_7cf53 0 = .ok (.iload_n 0, 1) := by decide +kernel
theorem dJ9_min_7cf53_1 : decode cJ9_min_7cf53 1 = .ok (.iload_n 1, 1) := by decide +kernel
theorem dJ9_min_7cf53_2 : decode cJ9_min_7cf53 2 = .ok (.if_icmp .gt 7, 3) := by decide +kernel
theorem dJ9_min_7cf53_5 : decode cJ9_min_7cf53 5 = .ok (.iload_n 0, 1) := by decide +kernel
theorem dJ9_min_7cf53_6 : decode cJ9_min_7cf53 6 = .ok (.goto 4, 3) := by decide +kernel
theorem dJ9_min_7cf53_9 : decode cJ9_min_7cf53 9 = .ok (.iload_n 1, 1) := by decide +kernel
theorem dJ9_min_7cf53_10 : decode cJ9_min_7cf53 10 = .ok (.ireturn, 1) := by decide +kernel
theorem dL_below_0 : decode cL_below 0 = .ok (.iload_n 0, 1) := by decide +kernel
theorem dL_below_1 : decode cL_below 1 = .ok (.ldc 7, 2) := by decide +kernel
theorem dL_below_3 : decode cL_below 3 = .ok (.iand, 1) := by decide +kernel
theorem dL_below_4 : decode cL_below 4 = .ok (.iload_n 1, 1) := by decide +kernel
theorem dL_below_5 : decode cL_below 5 = .ok (.irem, 1) := by decide +kernel
theorem dL_below_6 : decode cL_below 6 = .ok (.ireturn, 1) := by decide +kernel
theorem dL_cell_0 : decode cL_cell 0 = .ok (.iload_n 1, 1) := by decide +kernel
theorem dL_cell_1 : decode cL_cell 1 = .ok (.aload_n 0, 1) := by decide +kernel
theorem dL_cell_2 : decode cL_cell 2 = .ok (.arraylength, 1) := by decide +kernel
theorem dL_cell_3 : decode cL_cell 3 = .ok (.if_icmp .ge 9, 3) := by decide +kernel
theorem dL_cell_6 : decode cL_cell 6 = .ok (.aload_n 0, 1) := by decide +kernel
theorem dL_cell_7 : decode cL_cell 7 = .ok (.iload_n 1, 1) := by decide +kernel
theorem dL_cell_8 : decode cL_cell 8 = .ok (.iaload, 1) := by decide +kernel
theorem dL_cell_9 : decode cL_cell 9 = .ok (.goto 9, 3) := by decide +kernel
theorem dL_cell_12 : decode cL_cell 12 = .ok (.ldc 8, 2) := by decide +kernel
theorem dL_cell_14 : decode cL_cell 14 = .ok (.iload_n 1, 1) := by decide +kernel
theorem dL_cell_15 : decode cL_cell 15 = .ok (.iconst 3, 1) := by decide +kernel
theorem dL_cell_16 : decode cL_cell 16 = .ok (.iadd, 1) := by decide +kernel
theorem dL_cell_17 : decode cL_cell 17 = .ok (.imul, 1) := by decide +kernel
theorem dL_cell_18 : decode cL_cell 18 = .ok (.ireturn, 1) := by decide +kernel
theorem dL_fresh_0 : decode cL_fresh 0 = .ok (.sipush 360, 3) := by decide +kernel
theorem dL_fresh_3 : decode cL_fresh 3 = .ok (.newarray .int, 2) := by decide +kernel
theorem dL_fresh_5 : decode cL_fresh 5 = .ok (.astore_n 0, 1) := by decide +kernel
theorem dL_fresh_6 : decode cL_fresh 6 = .ok (.bipush 10, 2) := by decide +kernel
theorem dL_fresh_8 : decode cL_fresh 8 = .ok (.istore_n 1, 1) := by decide +kernel
theorem dL_fresh_9 : decode cL_fresh 9 = .ok (.iload_n 1, 1) := by decide +kernel
theorem dL_fresh_10 : decode cL_fresh 10 = .ok (.bipush 20, 2) := by decide +kernel
theorem dL_fresh_12 : decode cL_fresh 12 = .ok (.if_icmp .ge 17, 3) := by decide +kernel
theorem dL_fresh_15 : decode cL_fresh 15 = .ok (.aload_n 0, 1) := by decide +kernel
theorem dL_fresh_16 : decode cL_fresh 16 = .ok (.sipush 320, 3) := by decide +kernel
theorem dL_fresh_19 : decode cL_fresh 19 = .ok (.iload_n 1, 1) := by decide +kernel
theorem dL_fresh_20 : decode cL_fresh 20 = .ok (.iadd, 1) := by decide +kernel
theorem dL_fresh_21 : decode cL_fresh 21 = .ok (.iconst 1, 1) := by decide +kernel
theorem dL_fresh_22 : decode cL_fresh 22 = .ok (.iastore, 1) := by decide +kernel
theorem dL_fresh_23 : decode cL_fresh 23 = .ok (.iinc 1 1, 3) := by decide +kernel
theorem dL_fresh_26 : decode cL_fresh 26 = .ok (.goto (-17), 3) := by decide +kernel
theorem dL_fresh_29 : decode cL_fresh 29 = .ok (.aload_n 0, 1) := by decide +kernel
theorem dL_fresh_30 : decode cL_fresh 30 = .ok (.sipush 350, 3) := by decide +kernel
theorem dL_fresh_33 : decode cL_fresh 33 = .ok (.bipush 60, 2) := by decide +kernel
theorem dL_fresh_35 : decode cL_fresh 35 = .ok (.iastore, 1) := by decide +kernel
theorem dL_fresh_36 : decode cL_fresh 36 = .ok (.aload_n 0, 1) := by decide +kernel
theorem dL_fresh_37 : decode cL_fresh 37 = .ok (.sipush 351, 3) := by decide +kernel
theorem dL_fresh_40 : decode cL_fresh 40 = .ok (.bipush 60, 2) := by decide +kernel
theorem dL_fresh_42 : decode cL_fresh 42 = .ok (.iastore, 1) := by decide +kernel
theorem dL_fresh_43 : decode cL_fresh 43 = .ok (.aload_n 0, 1) := by decide +kernel
theorem dL_fresh_44 : decode cL_fresh 44 = .ok (.sipush 352, 3) := by decide +kernel
theorem dL_fresh_47 : decode cL_fresh 47 = .ok (.sipush 200, 3) := by decide +kernel
theorem dL_fresh_50 : decode cL_fresh 50 = .ok (.iastore, 1) := by decide +kernel
theorem dL_fresh_51 : decode cL_fresh 51 = .ok (.aload_n 0, 1) := by decide +kernel
theorem dL_fresh_52 : decode cL_fresh 52 = .ok (.areturn, 1) := by decide +kernel
set_option maxRecDepth 20000 in
theorem ggL_add_L_below : GoodIn wsL_add wsL_below := goodIn_r _ [9, 10] (by decide +kernel) (by decide +kernel)
set_option maxRecDepth 20000 in
theorem gL_add_L_below : GoodIn wsL_add (va_wsS RL 11 yL_below wsL_below) := goodIn_app (goodIn_of _ (by decide +kernel)) ggL_add_L_below
set_option maxRecDepth 20000 in
theorem ggL_add_X2_addContainer : GoodIn wsL_add wsX2_addContainer := goodIn_ca (goodIn_ca (goodIn_r _ [15, 16, 17, 18, 19, 20, 21, 22, 23, 24, 25, 26, 27, 14, 28, 29, 30, 31, 32, 33, 34, 35, 36, 37, 38, 39, 40, 41, 42, 43, 44, 45, 46, 47, 48, 49, 50, 51, 52, 53, 54, 55, 56, 57, 58] (by decide +kernel) (by decide +kernel)) (goodIn_sub (fun _ h => List.mem_cons_of_mem _ (List.mem_append_left _ (List.mem_append_right _ h))) (by decide +kernel))) (goodIn_sub (fun _ h => List.mem_cons_of_mem _ (List.mem_append_right _ h)) (by decide +kernel))
set_option maxRecDepth 20000 in
theorem gL_add_X2_addContainer : GoodIn wsL_add (wsV RL 20 RX2 yX2_addContainer wsX2_addContainer) := goodIn_app (goodIn_of _ (by decide +kernel)) ggL_add_X2_addContainer
theorem dL_add_0 : decode cL_add 0 = .ok (.iconst 1, 1) := by decide +kernel
theorem dL_add_1 : decode cL_add 1 = .ok (.iload_n 1, 1) := by decide +kernel
theorem dL_add_2 : decode cL_add 2 = .ok (.bipush 30, 2) := by decide +kernel
theorem dL_add_4 : decode cL_add 4 = .ok (.invokestatic 11, 3) := by decide +kernel
theorem dL_add_7 : decode cL_add 7 = .ok (.iadd, 1) := by decide +kernel
theorem dL_add_8 : decode cL_add 8 = .ok (.istore_n 3, 1) := by decide +kernel
theorem dL_add_9 : decode cL_add 9 = .ok (.iconst 4, 1) := by decide +kernel
theorem dL_add_10 : decode cL_add 10 = .ok (.aload_n 2, 1) := by decide +kernel
theorem dL_add_11 : decode cL_add 11 = .ok (.sipush 353, 3) := by decide +kernel
theorem dL_add_14 : decode cL_add 14 = .ok (.iaload, 1) := by decide +kernel
theorem dL_add_15 : decode cL_add 15 = .ok (.iload_n 1, 1) := by decide +kernel
theorem dL_add_16 : decode cL_add 16 = .ok (.iconst 2, 1) := by decide +kernel
theorem dL_add_17 : decode cL_add 17 = .ok (.ishr, 1) := by decide +kernel
theorem dL_add_18 : decode cL_add 18 = .ok (.iconst 3, 1) := by decide +kernel
theorem dL_add_19 : decode cL_add 19 = .ok (.invokestatic 11, 3) := by decide +kernel
theorem dL_add_22 : decode cL_add 22 = .ok (.iconst 2, 1) := by decide +kernel
theorem dL_add_23 : decode cL_add 23 = .ok (.idiv, 1) := by decide +kernel
theorem dL_add_24 : decode cL_add 24 = .ok (.iadd, 1) := by decide +kernel
theorem dL_add_25 : decode cL_add 25 = .ok (.invokestatic 15, 3) := by decide +kernel
theorem dL_add_28 : decode cL_add 28 = .ok (.istore 4, 2) := by decide +kernel
theorem dL_add_30 : decode cL_add 30 = .ok (.iload 4, 2) := by decide +kernel
theorem dL_add_32 : decode cL_add 32 = .ok (.iconst 1, 1) := by decide +kernel
theorem dL_add_33 : decode cL_add 33 = .ok (.iadd, 1) := by decide +kernel
theorem dL_add_34 : decode cL_add 34 = .ok (.iload_n 1, 1) := by decide +kernel
theorem dL_add_35 : decode cL_add 35 = .ok (.iconst 4, 1) := by decide +kernel
theorem dL_add_36 : decode cL_add 36 = .ok (.ishr, 1) := by decide +kernel
theorem dL_add_37 : decode cL_add 37 = .ok (.iconst 5, 1) := by decide +kernel
theorem dL_add_38 : decode cL_add 38 = .ok (.iload 4, 2) := by decide +kernel
theorem dL_add_40 : decode cL_add 40 = .ok (.isub, 1) := by decide +kernel
theorem dL_add_41 : decode cL_add 41 = .ok (.invokestatic 11, 3) := by decide +kernel
theorem dL_add_44 : decode cL_add 44 = .ok (.iadd, 1) := by decide +kernel
theorem dL_add_45 : decode cL_add 45 = .ok (.istore 5, 2) := by decide +kernel
theorem dL_add_47 : decode cL_add 47 = .ok (.iload_n 1, 1) := by decide +kernel
theorem dL_add_48 : decode cL_add 48 = .ok (.bipush 6, 2) := by decide +kernel
theorem dL_add_50 : decode cL_add 50 = .ok (.ishr, 1) := by decide +kernel
theorem dL_add_51 : decode cL_add 51 = .ok (.iconst 3, 1) := by decide +kernel
theorem dL_add_52 : decode cL_add 52 = .ok (.invokestatic 11, 3) := by decide +kernel
theorem dL_add_55 : decode cL_add 55 = .ok (.ifCond .le 7, 3) := by decide +kernel
theorem dL_add_58 : decode cL_add 58 = .ok (.iconst 0, 1) := by decide +kernel
theorem dL_add_59 : decode cL_add 59 = .ok (.goto 11, 3) := by decide +kernel
theorem dL_add_62 : decode cL_add 62 = .ok (.iload_n 1, 1) := by decide +kernel
theorem dL_add_63 : decode cL_add 63 = .ok (.bipush 7, 2) := by decide +kernel
theorem dL_add_65 : decode cL_add 65 = .ok (.ishr, 1) := by decide +kernel
theorem dL_add_66 : decode cL_add 66 = .ok (.iconst 5, 1) := by decide +kernel
theorem dL_add_67 : decode cL_add 67 = .ok (.invokestatic 11, 3) := by decide +kernel
theorem dL_add_70 : decode cL_add 70 = .ok (.istore 6, 2) := by decide +kernel
theorem dL_add_72 : decode cL_add 72 = .ok (.aload_n 2, 1) := by decide +kernel
theorem dL_add_73 : decode cL_add 73 = .ok (.sipush 355, 3) := by decide +kernel
theorem dL_add_76 : decode cL_add 76 = .ok (.iaload, 1) := by decide +kernel
theorem dL_add_77 : decode cL_add 77 = .ok (.istore 7, 2) := by decide +kernel
theorem dL_add_79 : decode cL_add 79 = .ok (.aload_n 2, 1) := by decide +kernel
theorem dL_add_80 : decode cL_add 80 = .ok (.sipush 353, 3) := by decide +kernel
theorem dL_add_83 : decode cL_add 83 = .ok (.iaload, 1) := by decide +kernel
theorem dL_add_84 : decode cL_add 84 = .ok (.iconst 4, 1) := by decide +kernel
theorem dL_add_85 : decode cL_add 85 = .ok (.if_icmp .le 5, 3) := by decide +kernel
theorem dL_add_88 : decode cL_add 88 = .ok (.iconst 0, 1) := by decide +kernel
theorem dL_add_89 : decode cL_add 89 = .ok (.ireturn, 1) := by decide +kernel
theorem dL_add_90 : decode cL_add 90 = .ok (.aload_n 0, 1) := by decide +kernel
theorem dL_add_91 : decode cL_add 91 = .ok (.iload_n 3, 1) := by decide +kernel
theorem dL_add_92 : decode cL_add 92 = .ok (.iload 4, 2) := by decide +kernel
theorem dL_add_94 : decode cL_add 94 = .ok (.iload 5, 2) := by decide +kernel
theorem dL_add_96 : decode cL_add 96 = .ok (.iload 6, 2) := by decide +kernel
theorem dL_add_98 : decode cL_add 98 = .ok (.invokevirtual 20, 3) := by decide +kernel
theorem dL_add_101 : decode cL_add 101 = .ok (.iload 7, 2) := by decide +kernel
theorem dL_add_103 : decode cL_add 103 = .ok (.if_icmp .eq 5, 3) := by decide +kernel
theorem dL_add_106 : decode cL_add 106 = .ok (.iconst (-1), 1) := by decide +kernel
theorem dL_add_107 : decode cL_add 107 = .ok (.ireturn, 1) := by decide +kernel
theorem dL_add_108 : decode cL_add 108 = .ok (.iconst 5, 1) := by decide +kernel
theorem dL_add_109 : decode cL_add 109 = .ok (.newarray .int, 2) := by decide +kernel
theorem dL_add_111 : decode cL_add 111 = .ok (.dup, 1) := by decide +kernel
theorem dL_add_112 : decode cL_add 112 = .ok (.iconst 0, 1) := by decide +kernel
theorem dL_add_113 : decode cL_add 113 = .ok (.iload_n 3, 1) := by decide +kernel
theorem dL_add_114 : decode cL_add 114 = .ok (.iastore, 1) := by decide +kernel
theorem dL_add_115 : decode cL_add 115 = .ok (.dup, 1) := by decide +kernel
theorem dL_add_116 : decode cL_add 116 = .ok (.iconst 1, 1) := by decide +kernel
theorem dL_add_117 : decode cL_add 117 = .ok (.iload 4, 2) := by decide +kernel
theorem dL_add_119 : decode cL_add 119 = .ok (.iastore, 1) := by decide +kernel
theorem dL_add_120 : decode cL_add 120 = .ok (.dup, 1) := by decide +kernel
theorem dL_add_121 : decode cL_add 121 = .ok (.iconst 2, 1) := by decide +kernel
theorem dL_add_122 : decode cL_add 122 = .ok (.iload 5, 2) := by decide +kernel
theorem dL_add_124 : decode cL_add 124 = .ok (.iastore, 1) := by decide +kernel
theorem dL_add_125 : decode cL_add 125 = .ok (.dup, 1) := by decide +kernel
theorem dL_add_126 : decode cL_add 126 = .ok (.iconst 3, 1) := by decide +kernel
theorem dL_add_127 : decode cL_add 127 = .ok (.iload 6, 2) := by decide +kernel
theorem dL_add_129 : decode cL_add 129 = .ok (.iastore, 1) := by decide +kernel
theorem dL_add_130 : decode cL_add 130 = .ok (.dup, 1) := by decide +kernel
theorem dL_add_131 : decode cL_add 131 = .ok (.iconst 4, 1) := by decide +kernel
theorem dL_add_132 : decode cL_add 132 = .ok (.iconst 0, 1) := by decide +kernel
theorem dL_add_133 : decode cL_add 133 = .ok (.iastore, 1) := by decide +kernel
theorem dL_add_134 : decode cL_add 134 = .ok (.astore 8, 2) := by decide +kernel
theorem dL_add_136 : decode cL_add 136 = .ok (.iconst 0, 1) := by decide +kernel
theorem dL_add_137 : decode cL_add 137 = .ok (.istore 9, 2) := by decide +kernel
theorem dL_add_139 : decode cL_add 139 = .ok (.iload 9, 2) := by decide +kernel
theorem dL_add_141 : decode cL_add 141 = .ok (.iconst 5, 1) := by decide +kernel
theorem dL_add_142 : decode cL_add 142 = .ok (.if_icmp .ge 23, 3) := by decide +kernel
theorem dL_add_145 : decode cL_add 145 = .ok (.aload_n 2, 1) := by decide +kernel
theorem dL_add_146 : decode cL_add 146 = .ok (.iconst 5, 1) := by decide +kernel
theorem dL_add_147 : decode cL_add 147 = .ok (.iload 7, 2) := by decide +kernel
theorem dL_add_149 : decode cL_add 149 = .ok (.imul, 1) := by decide +kernel
theorem dL_add_150 : decode cL_add 150 = .ok (.iload 9, 2) := by decide +kernel
theorem dL_add_152 : decode cL_add 152 = .ok (.iadd, 1) := by decide +kernel
theorem dL_add_153 : decode cL_add 153 = .ok (.aload 8, 2) := by decide +kernel
theorem dL_add_155 : decode cL_add 155 = .ok (.iload 9, 2) := by decide +kernel
theorem dL_add_157 : decode cL_add 157 = .ok (.iaload, 1) := by decide +kernel
theorem dL_add_158 : decode cL_add 158 = .ok (.iastore, 1) := by decide +kernel
theorem dL_add_159 : decode cL_add 159 = .ok (.iinc 9 1, 3) := by decide +kernel
theorem dL_add_162 : decode cL_add 162 = .ok (.goto (-23), 3) := by decide +kernel
theorem dL_add_165 : decode cL_add 165 = .ok (.aload_n 2, 1) := by decide +kernel
theorem dL_add_166 : decode cL_add 166 = .ok (.sipush 355, 3) := by decide +kernel
theorem dL_add_169 : decode cL_add 169 = .ok (.dup2, 1) := by decide +kernel
theorem dL_add_170 : decode cL_add 170 = .ok (.iaload, 1) := by decide +kernel
theorem dL_add_171 : decode cL_add 171 = .ok (.iconst 1, 1) := by decide +kernel
theorem dL_add_172 : decode cL_add 172 = .ok (.iadd, 1) := by decide +kernel
theorem dL_add_173 : decode cL_add 173 = .ok (.iastore, 1) := by decide +kernel
theorem dL_add_174 : decode cL_add 174 = .ok (.iconst 1, 1) := by decide +kernel
theorem dL_add_175 : decode cL_add 175 = .ok (.ireturn, 1) := by decide +kernel
set_option maxRecDepth 20000 in
theorem ggL_told_X2_load : GoodIn wsL_told wsX2_load := goodIn_ca (goodIn_ca (goodIn_r _ [6, 7, 8, 9, 10, 11, 12, 13, 14, 5, 15, 16, 17, 18, 19, 20, 21, 22, 23, 24, 25, 26, 27, 28, 29, 30, 31, 32, 33, 34, 35, 36, 37, 38, 39, 40, 41, 42, 43, 44, 45, 46, 47, 48, 49, 50, 51, 52, 53, 54, 55, 56, 57, 58, 59, 60, 61, 62, 63, 64, 65, 66, 67, 68, 69, 70, 71, 72, 73, 74, 75, 76, 77, 78, 79, 80, 81, 82, 83, 84, 85, 86, 87, 88, 89, 90, 91, 92, 93, 94, 95, 96, 97, 98, 99, 100, 101, 102, 103, 104, 105] (by decide +kernel) (by decide +kernel)) (goodIn_sub (fun _ h => List.mem_cons_of_mem _ (List.mem_append_left _ (List.mem_append_right _ h))) (by decide +kernel))) (goodIn_sub (fun _ h => List.mem_cons_of_mem _ (List.mem_append_right _ h)) (by decide +kernel))
set_option maxRecDepth 20000 in
theorem gL_told_X2_load : GoodIn wsL_told (wsV RL 68 RX2 yX2_load wsX2_load) := goodIn_app (goodIn_of _ (by decide +kernel)) ggL_told_X2_load
theorem dL_told_0 : decode cL_told 0 = .ok (.aload_n 0, 1) := by decide +kernel
theorem dL_told_1 : decode cL_told 1 = .ok (.iload_n 1, 1) := by decide +kernel
theorem dL_told_2 : decode cL_told 2 = .ok (.iload_n 2, 1) := by decide +kernel
theorem dL_told_3 : decode cL_told 3 = .ok (.iconst 5, 1) := by decide +kernel
theorem dL_told_4 : decode cL_told 4 = .ok (.idiv, 1) := by decide +kernel
theorem dL_told_5 : decode cL_told 5 = .ok (.iload_n 2, 1) := by decide +kernel
theorem dL_told_6 : decode cL_told 6 = .ok (.iconst 5, 1) := by decide +kernel
theorem dL_told_7 : decode cL_told 7 = .ok (.irem, 1) := by decide +kernel
theorem dL_told_8 : decode cL_told 8 = .ok (.invokevirtual 68, 3) := by decide +kernel
theorem dL_told_11 : decode cL_told 11 = .ok (.ireturn, 1) := by decide +kernel
theorem dL_told_12 : decode cL_told 12 = .ok (.astore_n 3, 1) := by decide +kernel
theorem dL_told_13 : decode cL_told 13 = .ok (.bipush (-3), 2) := by decide +kernel
theorem dL_told_15 : decode cL_told 15 = .ok (.ireturn, 1) := by decide +kernel
set_option maxRecDepth 20000 in
theorem ggL_law_X2_init : GoodIn wsL_law wsX2_init := goodIn_r _ [11, 12, 13, 14, 15, 16, 17, 18, 19, 20, 21, 22, 23, 24, 25, 26, 27, 28, 29, 30, 31, 32, 33, 34, 35, 36, 258, 259, 260, 261, 262, 263, 264, 265, 266, 267, 268, 269, 270] (by decide +kernel) (by decide +kernel)
set_option maxRecDepth 20000 in
theorem gL_law_X2_init : GoodIn wsL_law (wsX2_init) := ggL_law_X2_init
set_option maxRecDepth 20000 in
theorem ggL_law_L_cell : GoodIn wsL_law wsL_cell := goodIn_r _ [40, 41] (by decide +kernel) (by decide +kernel)
set_option maxRecDepth 20000 in
theorem gL_law_L_cell : GoodIn wsL_law (va_wsS RL 73 yL_cell wsL_cell) := goodIn_app (goodIn_of _ (by decide +kernel)) ggL_law_L_cell
set_option maxRecDepth 20000 in
theorem ggL_law_L_below : GoodIn wsL_law wsL_below := goodIn_r _ [44, 45] (by decide +kernel) (by decide +kernel)
set_option maxRecDepth 20000 in
theorem gL_law_L_below : GoodIn wsL_law (va_wsS RL 11 yL_below wsL_below) := goodIn_app (goodIn_of _ (by decide +kernel)) ggL_law_L_below
set_option maxRecDepth 20000 in
theorem ggL_law_X2_setLimits : GoodIn wsL_law wsX2_setLimits := goodIn_ca (goodIn_r _ [49, 50, 51, 21, 22, 23, 52, 53, 2, 54, 258, 259, 260, 261, 262, 263, 264, 265] (by decide +kernel) (by decide +kernel)) (goodIn_sub (fun _ h => List.mem_append_left _ (List.mem_append_left _ (List.mem_append_right _ h))) (by decide +kernel))
set_option maxRecDepth 20000 in
theorem gL_law_X2_setLimits : GoodIn wsL_law (wsV RL 76 RX2 yX2_setLimits wsX2_setLimits) := goodIn_app (goodIn_of _ (by decide +kernel)) ggL_law_X2_setLimits
set_option maxRecDepth 20000 in
theorem ggL_law_L_fresh : GoodIn wsL_law wsL_fresh := goodIn_r _ [57, 8] (by decide +kernel) (by decide +kernel)
set_option maxRecDepth 20000 in
theorem gL_law_L_fresh : GoodIn wsL_law (va_wsS RL 79 yL_fresh wsL_fresh) := goodIn_app (goodIn_of _ (by decide +kernel)) ggL_law_L_fresh
set_option maxRecDepth 20000 in
theorem ggL_law_L_add : GoodIn wsL_law wsL_add := goodIn_ca (goodIn_ca (goodIn_r _ [60, 61, 62, 5, 63, 8, 42, 43, 39, 44, 45, 64, 65, 66, 2, 67, 50, 51, 68, 69, 20, 19, 16, 15, 70, 71, 52, 53, 54, 72, 73, 74, 75, 13, 14, 76, 77, 78, 79, 80, 81, 82, 83, 258, 259, 260, 261, 262, 263, 264, 265, 271, 272, 273, 274, 275, 276, 277, 278] (by decide +kernel) (by decide +kernel)) (goodIn_sub (fun _ h => List.mem_append_left _ (List.mem_append_left _ (List.mem_append_right _ h))) (by decide +kernel))) (goodIn_sub (fun _ h => List.mem_append_left _ (List.mem_append_right _ h)) (by decide +kernel))
set_option maxRecDepth 20000 in
theorem gL_law_L_add : GoodIn wsL_law (va_wsS RL 83 yL_add wsL_add) := goodIn_app (goodIn_of _ (by decide +kernel)) ggL_law_L_add
set_option maxRecDepth 20000 in
theorem ggL_law_L_told : GoodIn wsL_law wsL_told := goodIn_ca (goodIn_ca (goodIn_r _ [86, 87, 88, 89, 90, 2, 91, 92, 93, 68, 69, 94, 95, 96, 97, 98, 16, 99, 100, 101, 102, 18, 52, 53, 54, 103, 104, 105, 106, 20, 107, 108, 21, 109, 110, 111, 112, 71, 113, 81, 114, 115, 116, 117, 76, 77, 118, 119, 120, 26, 121, 32, 122, 123, 124, 125, 126, 36, 33, 127, 128, 129, 130, 131, 132, 133, 134, 135, 83, 136, 137, 138, 139, 34, 140, 4, 5, 6, 35, 141, 142, 143, 144, 145, 146, 271, 272, 273, 274, 275, 276, 277, 278, 258, 259, 260, 261, 262, 263, 264, 265, 266, 267, 268, 269, 270] (by decide +kernel) (by decide +kernel)) (goodIn_sub (fun _ h => List.mem_append_right _ h) (by decide +kernel))) (goodIn_sub (fun _ h => List.mem_append_left _ (List.mem_append_right _ h)) (by decide +kernel))
set_option maxRecDepth 20000 in
theorem gL_law_L_told : GoodIn wsL_law (va_wsS RL 87 yL_told wsL_told) := goodIn_app (goodIn_of _ (by decide +kernel)) ggL_law_L_told
set_option maxRecDepth 20000 in
theorem ggL_law_X2_count : GoodIn wsL_law wsX2_count := goodIn_r _ [150, 16, 20, 131, 110, 111, 112, 71, 113, 81, 114, 115, 116, 117, 76, 77, 258, 259, 260, 261, 262, 263, 264, 265, 271, 272, 273, 274, 275, 276, 277, 278] (by decide +kernel) (by decide +kernel)
set_option maxRecDepth 20000 in
theorem gL_law_X2_count : GoodIn wsL_law (wsV RL 91 RX2 yX2_count wsX2_count) := goodIn_app (goodIn_of _ (by decide +kernel)) ggL_law_X2_count
set_option maxRecDepth 20000 in
theorem ggL_law_X2_plan : GoodIn wsL_law wsX2_plan := goodIn_r _ [154, 155, 156, 157, 2, 158, 16, 159, 160, 161, 71, 162, 82, 80, 163, 164, 165, 166, 18, 103, 104, 105, 106, 20, 107, 108, 21, 109, 110, 111, 112, 113, 81, 114, 115, 116, 117, 76, 77, 118, 119, 120, 26, 121, 32, 122, 123, 124, 125, 126, 36, 33, 127, 128, 129, 130, 131, 132, 133, 134, 135, 83, 136, 137, 138, 139, 34, 140, 4, 5, 6, 35, 167, 168, 169, 170, 171, 172, 173, 174, 175, 176, 177, 178, 179, 180, 181, 182, 183, 184, 185, 186, 187, 188, 189, 141, 142, 143, 144, 145, 146, 258, 259, 260, 261, 262, 263, 264, 265, 271, 272, 273, 274, 275, 276, 277, 278, 266, 267, 268, 269, 270] (by decide +kernel) (by decide +kernel)
set_option maxRecDepth 20000 in
theorem gL_law_X2_plan : GoodIn wsL_law (wsV RL 94 RX2 yX2_plan wsX2_plan) := goodIn_app (goodIn_of _ (by decide +kernel)) ggL_law_X2_plan
set_option maxRecDepth 20000 in
theorem ggL_law_X2_choices : GoodIn wsL_law wsX2_choices := goodIn_ca (goodIn_r _ [193, 92, 93, 18, 95, 96, 97, 2, 98, 16, 103, 104, 105, 106, 20, 107, 108, 21, 109, 110, 111, 112, 71, 113, 81, 114, 115, 116, 117, 76, 77, 118, 119, 120, 26, 121, 32, 122, 123, 124, 125, 126, 36, 33, 127, 128, 129, 130, 131, 132, 133, 134, 135, 83, 136, 137, 138, 139, 34, 140, 4, 5, 6, 35, 258, 259, 260, 261, 262, 263, 264, 265, 266, 267, 268, 269, 270, 271, 272, 273, 274, 275, 276, 277, 278] (by decide +kernel) (by decide +kernel)) (goodIn_sub (fun _ h => List.mem_append_right _ h) (by decide +kernel))
set_option maxRecDepth 20000 in
theorem gL_law_X2_choices : GoodIn wsL_law (wsV RL 97 RX2 yX2_choices wsX2_choices) := goodIn_app (goodIn_of _ (by decide +kernel)) ggL_law_X2_choices
set_option maxRecDepth 20000 in
theorem ggL_law_X2_at : GoodIn wsL_law wsX2_at := goodIn_ca (goodIn_r _ [197, 92, 93, 99, 100, 101, 2, 102, 18, 52, 53, 54, 198, 199, 200, 26, 201, 32, 202, 203, 204, 205, 258, 259, 260, 261, 262, 263, 264, 265, 266, 267, 268, 269, 270, 271, 272, 273, 274, 275, 276, 277, 278] (by decide +kernel) (by decide +kernel)) (goodIn_sub (fun _ h => List.mem_append_right _ h) (by decide +kernel))
set_option maxRecDepth 20000 in
theorem gL_law_X2_at : GoodIn wsL_law (wsV RL 54 RX2 yX2_at wsX2_at) := goodIn_app (goodIn_of _ (by decide +kernel)) ggL_law_X2_at
set_option maxRecDepth 20000 in
theorem ggL_law_X2_container : GoodIn wsL_law wsX2_container := goodIn_ca (goodIn_r _ [209, 92, 93, 95, 96, 97, 2, 98, 16, 52, 53, 54, 210, 211, 212, 71, 213, 80, 81, 82, 83, 114, 115, 116, 117, 76, 77, 258, 259, 260, 261, 262, 263, 264, 265, 271, 272, 273, 274, 275, 276, 277, 278] (by decide +kernel) (by decide +kernel)) (goodIn_sub (fun _ h => List.mem_append_right _ h) (by decide +kernel))
set_option maxRecDepth 20000 in
theorem gL_law_X2_container : GoodIn wsL_law (wsV RL 48 RX2 yX2_container wsX2_container) := goodIn_app (goodIn_of _ (by decide +kernel)) ggL_law_X2_container
set_option maxRecDepth 20000 in
theorem ggL_law_X2_port : GoodIn wsL_law wsX2_port := goodIn_r _ [217, 20, 258, 259, 260, 261, 262, 263, 264, 265] (by decide +kernel) (by decide +kernel)
set_option maxRecDepth 20000 in
theorem gL_law_X2_port : GoodIn wsL_law (wsV RL 58 RX2 yX2_port wsX2_port) := goodIn_app (goodIn_of _ (by decide +kernel)) ggL_law_X2_port
set_option maxRecDepth 20000 in
theorem ggL_law_X2_where : GoodIn wsL_law wsX2_where := goodIn_ca (goodIn_r _ [221, 92, 93, 95, 96, 97, 2, 98, 16, 222, 223, 224, 71, 225, 77, 226, 227, 78, 258, 259, 260, 261, 262, 263, 264, 265, 271, 272, 273, 274, 275, 276, 277, 278, 266, 267, 268, 269, 270] (by decide +kernel) (by decide +kernel)) (goodIn_sub (fun _ h => List.mem_append_right _ h) (by decide +kernel))
set_option maxRecDepth 20000 in
theorem gL_law_X2_where : GoodIn wsL_law (wsV RL 51 RX2 yX2_where wsX2_where) := goodIn_app (goodIn_of _ (by decide +kernel)) ggL_law_X2_where
set_option maxRecDepth 20000 in
theorem ggL_law_X2_moment : GoodIn wsL_law wsX2_moment := goodIn_r _ [176, 18, 118, 119, 120, 26, 121, 32, 122, 177, 178, 179, 180, 34, 181, 182, 183, 184, 35, 258, 259, 260, 261, 262, 263, 264, 265, 266, 267, 268, 269, 270, 271, 272, 273, 274, 275, 276, 277, 278] (by decide +kernel) (by decide +kernel)
set_option maxRecDepth 20000 in
theorem gL_law_X2_moment : GoodIn wsL_law (wsV RL 65 RX2 yX2_moment wsX2_moment) := goodIn_app (goodIn_of _ (by decide +kernel)) ggL_law_X2_moment
set_option maxRecDepth 20000 in
theorem ggL_law_X2_isSteady : GoodIn wsL_law wsX2_isSteady := goodIn_r _ [232, 172, 4, 5, 6, 22, 23, 233, 173, 174, 175, 2, 176, 18, 118, 119, 120, 26, 121, 32, 122, 177, 178, 179, 180, 34, 181, 182, 183, 184, 35, 234, 235, 236, 237, 16, 131, 108, 94, 258, 259, 260, 261, 262, 263, 264, 265, 266, 267, 268, 269, 270, 271, 272, 273, 274, 275, 276, 277, 278] (by decide +kernel) (by decide +kernel)
set_option maxRecDepth 20000 in
theorem gL_law_X2_isSteady : GoodIn wsL_law (wsV RL 100 RX2 yX2_isSteady wsX2_isSteady) := goodIn_app (goodIn_of _ (by decide +kernel)) ggL_law_X2_isSteady
set_option maxRecDepth 20000 in
theorem ggL_law_X2_height : GoodIn wsL_law wsX2_height := goodIn_r _ [237, 16, 131, 108, 94, 258, 259, 260, 261, 262, 263, 264, 265, 271, 272, 273, 274, 275, 276, 277, 278] (by decide +kernel) (by decide +kernel)
set_option maxRecDepth 20000 in
theorem gL_law_X2_height : GoodIn wsL_law (wsV RL 104 RX2 yX2_height wsX2_height) := goodIn_app (goodIn_of _ (by decide +kernel)) ggL_law_X2_height
set_option maxRecDepth 20000 in
theorem ggL_law_X2_lifts : GoodIn wsL_law wsX2_lifts := goodIn_ca (goodIn_r _ [242, 92, 93, 18, 52, 53, 2, 54, 243, 244, 245, 26, 246, 32, 189, 258, 259, 260, 261, 262, 263, 264, 265, 266, 267, 268, 269, 270, 271, 272, 273, 274, 275, 276, 277, 278] (by decide +kernel) (by decide +kernel)) (goodIn_sub (fun _ h => List.mem_append_right _ h) (by decide +kernel))
set_option maxRecDepth 20000 in
theorem gL_law_X2_lifts : GoodIn wsL_law (wsV RL 110 RX2 yX2_lifts wsX2_lifts) := goodIn_app (goodIn_of _ (by decide +kernel)) ggL_law_X2_lifts
set_option maxRecDepth 20000 in
theorem ggL_law_X2_sail : GoodIn wsL_law wsX2_sail := goodIn_ca (goodIn_r _ [250, 68, 69, 20, 18, 24, 251, 230, 231, 2, 232, 172, 4, 5, 6, 22, 23, 233, 173, 174, 175, 176, 118, 119, 120, 26, 121, 32, 122, 177, 178, 179, 180, 34, 181, 182, 183, 184, 35, 234, 235, 236, 237, 16, 131, 108, 94, 243, 244, 245, 246, 189, 252, 253, 254, 255, 33, 145, 256, 257, 142, 143, 144, 146, 258, 259, 260, 261, 262, 263, 264, 265, 266, 267, 268, 269, 270, 271, 272, 273, 274, 275, 276, 277, 278] (by decide +kernel) (by decide +kernel)) (goodIn_sub (fun _ h => List.mem_append_left _ (List.mem_append_right _ h)) (by decide +kernel))
set_option maxRecDepth 20000 in
theorem gL_law_X2_sail : GoodIn wsL_law (wsV RL 113 RX2 yX2_sail wsX2_sail) := goodIn_app (goodIn_of _ (by decide +kernel)) ggL_law_X2_sail
theorem dL_law_0 : decode cL_law 0 = .ok (.new 21, 3) := by decide +kernel
theorem dL_law_3 : decode cL_law 3 = .ok (.dup, 1) := by decide +kernel
theorem dL_law_4 : decode cL_law 4 = .ok (.invokespecial 72, 3) := by decide +kernel
theorem dL_law_7 : decode cL_law 7 = .ok (.astore_n 1, 1) := by decide +kernel
theorem dL_law_8 : decode cL_law 8 = .ok (.bipush 30, 2) := by decide +kernel
theorem dL_law_10 : decode cL_law 10 = .ok (.aload_n 0, 1) := by decide +kernel
theorem dL_law_11 : decode cL_law 11 = .ok (.bipush 15, 2) := by decide +kernel
theorem dL_law_13 : decode cL_law 13 = .ok (.invokestatic 73, 3) := by decide +kernel
theorem dL_law_16 : decode cL_law 16 = .ok (.bipush 60, 2) := by decide +kernel
theorem dL_law_18 : decode cL_law 18 = .ok (.invokestatic 11, 3) := by decide +kernel
theorem dL_law_21 : decode cL_law 21 = .ok (.iadd, 1) := by decide +kernel
theorem dL_law_22 : decode cL_law 22 = .ok (.istore_n 2, 1) := by decide +kernel
theorem dL_law_23 : decode cL_law 23 = .ok (.aload_n 1, 1) := by decide +kernel
theorem dL_law_24 : decode cL_law 24 = .ok (.iload_n 2, 1) := by decide +kernel
theorem dL_law_25 : decode cL_law 25 = .ok (.sipush 1000, 3) := by decide +kernel
theorem dL_law_28 : decode cL_law 28 = .ok (.sipush 1000, 3) := by decide +kernel
theorem dL_law_31 : decode cL_law 31 = .ok (.invokevirtual 76, 3) := by decide +kernel
theorem dL_law_34 : decode cL_law 34 = .ok (.pop, 1) := by decide +kernel
theorem dL_law_35 : decode cL_law 35 = .ok (.invokestatic 79, 3) := by decide +kernel
theorem dL_law_38 : decode cL_law 38 = .ok (.astore_n 3, 1) := by decide +kernel
theorem dL_law_39 : decode cL_law 39 = .ok (.aload_n 3, 1) := by decide +kernel
theorem dL_law_40 : decode cL_law 40 = .ok (.sipush 350, 3) := by decide +kernel
theorem dL_law_43 : decode cL_law 43 = .ok (.iload_n 2, 1) := by decide +kernel
theorem dL_law_44 : decode cL_law 44 = .ok (.iastore, 1) := by decide +kernel
theorem dL_law_45 : decode cL_law 45 = .ok (.iconst 0, 1) := by decide +kernel
theorem dL_law_46 : decode cL_law 46 = .ok (.istore 4, 2) := by decide +kernel
theorem dL_law_48 : decode cL_law 48 = .ok (.iload 4, 2) := by decide +kernel
theorem dL_law_50 : decode cL_law 50 = .ok (.bipush 18, 2) := by decide +kernel
theorem dL_law_52 : decode cL_law 52 = .ok (.if_icmp .ge 36, 3) := by decide +kernel
theorem dL_law_55 : decode cL_law 55 = .ok (.aload_n 1, 1) := by decide +kernel
theorem dL_law_56 : decode cL_law 56 = .ok (.aload_n 0, 1) := by decide +kernel
theorem dL_law_57 : decode cL_law 57 = .ok (.iload 4, 2) := by decide +kernel
theorem dL_law_59 : decode cL_law 59 = .ok (.bipush 16, 2) := by decide +kernel
theorem dL_law_61 : decode cL_law 61 = .ok (.irem, 1) := by decide +kernel
theorem dL_law_62 : decode cL_law 62 = .ok (.invokestatic 73, 3) := by decide +kernel
theorem dL_law_65 : decode cL_law 65 = .ok (.iload 4, 2) := by decide +kernel
theorem dL_law_67 : decode cL_law 67 = .ok (.bipush 16, 2) := by decide +kernel
theorem dL_law_69 : decode cL_law 69 = .ok (.idiv, 1) := by decide +kernel
theorem dL_law_70 : decode cL_law 70 = .ok (.iconst 4, 1) := by decide +kernel
theorem dL_law_71 : decode cL_law 71 = .ok (.imul, 1) := by decide +kernel
theorem dL_law_72 : decode cL_law 72 = .ok (.ishr, 1) := by decide +kernel
theorem dL_law_73 : decode cL_law 73 = .ok (.aload_n 3, 1) := by decide +kernel
theorem dL_law_74 : decode cL_law 74 = .ok (.invokestatic 83, 3) := by decide +kernel
theorem dL_law_77 : decode cL_law 77 = .ok (.ifCond .ge 5, 3) := by decide +kernel
theorem dL_law_80 : decode cL_law 80 = .ok (.iconst 0, 1) := by decide +kernel
theorem dL_law_81 : decode cL_law 81 = .ok (.ireturn, 1) := by decide +kernel
theorem dL_law_82 : decode cL_law 82 = .ok (.iinc 4 1, 3) := by decide +kernel
theorem dL_law_85 : decode cL_law 85 = .ok (.goto (-37), 3) := by decide +kernel
theorem dL_law_88 : decode cL_law 88 = .ok (.iconst 0, 1) := by decide +kernel
theorem dL_law_89 : decode cL_law 89 = .ok (.istore 4, 2) := by decide +kernel
theorem dL_law_91 : decode cL_law 91 = .ok (.iload 4, 2) := by decide +kernel
theorem dL_law_93 : decode cL_law 93 = .ok (.bipush 6, 2) := by decide +kernel
theorem dL_law_95 : decode cL_law 95 = .ok (.if_icmp .ge 41, 3) := by decide +kernel
theorem dL_law_98 : decode cL_law 98 = .ok (.aload_n 1, 1) := by decide +kernel
theorem dL_law_99 : decode cL_law 99 = .ok (.aload_n 0, 1) := by decide +kernel
theorem dL_law_100 : decode cL_law 100 = .ok (.iload 4, 2) := by decide +kernel
theorem dL_law_102 : decode cL_law 102 = .ok (.invokestatic 73, 3) := by decide +kernel
theorem dL_law_105 : decode cL_law 105 = .ok (.bipush 9, 2) := by decide +kernel
theorem dL_law_107 : decode cL_law 107 = .ok (.ishr, 1) := by decide +kernel
theorem dL_law_108 : decode cL_law 108 = .ok (.bipush 18, 2) := by decide +kernel
theorem dL_law_110 : decode cL_law 110 = .ok (.invokestatic 11, 3) := by decide +kernel
theorem dL_law_113 : decode cL_law 113 = .ok (.aload_n 0, 1) := by decide +kernel
theorem dL_law_114 : decode cL_law 114 = .ok (.iload 4, 2) := by decide +kernel
theorem dL_law_116 : decode cL_law 116 = .ok (.invokestatic 73, 3) := by decide +kernel
theorem dL_law_119 : decode cL_law 119 = .ok (.iconst 4, 1) := by decide +kernel
theorem dL_law_120 : decode cL_law 120 = .ok (.ishr, 1) := by decide +kernel
theorem dL_law_121 : decode cL_law 121 = .ok (.bipush 30, 2) := by decide +kernel
theorem dL_law_123 : decode cL_law 123 = .ok (.invokestatic 11, 3) := by decide +kernel
theorem dL_law_126 : decode cL_law 126 = .ok (.invokestatic 87, 3) := by decide +kernel
theorem dL_law_129 : decode cL_law 129 = .ok (.pop, 1) := by decide +kernel
theorem dL_law_130 : decode cL_law 130 = .ok (.iinc 4 1, 3) := by decide +kernel
theorem dL_law_133 : decode cL_law 133 = .ok (.goto (-42), 3) := by decide +kernel
theorem dL_law_136 : decode cL_law 136 = .ok (.iconst 0, 1) := by decide +kernel
theorem dL_law_137 : decode cL_law 137 = .ok (.istore 4, 2) := by decide +kernel
theorem dL_law_139 : decode cL_law 139 = .ok (.iload 4, 2) := by decide +kernel
theorem dL_law_141 : decode cL_law 141 = .ok (.iconst 5, 1) := by decide +kernel
theorem dL_law_142 : decode cL_law 142 = .ok (.if_icmp .ge 562, 3) := by decide +kernel
theorem dL_law_145 : decode cL_law 145 = .ok (.aload_n 1, 1) := by decide +kernel
theorem dL_law_146 : decode cL_law 146 = .ok (.iconst 0, 1) := by decide +kernel
theorem dL_law_147 : decode cL_law 147 = .ok (.invokevirtual 91, 3) := by decide +kernel
theorem dL_law_150 : decode cL_law 150 = .ok (.istore 5, 2) := by decide +kernel
theorem dL_law_152 : decode cL_law 152 = .ok (.aload_n 1, 1) := by decide +kernel
theorem dL_law_153 : decode cL_law 153 = .ok (.invokevirtual 94, 3) := by decide +kernel
theorem dL_law_156 : decode cL_law 156 = .ok (.istore 6, 2) := by decide +kernel
theorem dL_law_158 : decode cL_law 158 = .ok (.aload_n 1, 1) := by decide +kernel
theorem dL_law_159 : decode cL_law 159 = .ok (.iconst 0, 1) := by decide +kernel
theorem dL_law_160 : decode cL_law 160 = .ok (.invokevirtual 91, 3) := by decide +kernel
theorem dL_law_163 : decode cL_law 163 = .ok (.iload 5, 2) := by decide +kernel
theorem dL_law_165 : decode cL_law 165 = .ok (.iload 6, 2) := by decide +kernel
theorem dL_law_167 : decode cL_law 167 = .ok (.iadd, 1) := by decide +kernel
theorem dL_law_168 : decode cL_law 168 = .ok (.if_icmp .eq 5, 3) := by decide +kernel
theorem dL_law_171 : decode cL_law 171 = .ok (.iconst 0, 1) := by decide +kernel
theorem dL_law_172 : decode cL_law 172 = .ok (.ireturn, 1) := by decide +kernel
theorem dL_law_173 : decode cL_law 173 = .ok (.iconst 0, 1) := by decide +kernel
theorem dL_law_174 : decode cL_law 174 = .ok (.istore 7, 2) := by decide +kernel
theorem dL_law_176 : decode cL_law 176 = .ok (.iload 7, 2) := by decide +kernel
theorem dL_law_178 : decode cL_law 178 = .ok (.bipush 18, 2) := by decide +kernel
theorem dL_law_180 : decode cL_law 180 = .ok (.if_icmp .ge 20, 3) := by decide +kernel
theorem dL_law_183 : decode cL_law 183 = .ok (.aload_n 1, 1) := by decide +kernel
theorem dL_law_184 : decode cL_law 184 = .ok (.iload 7, 2) := by decide +kernel
theorem dL_law_186 : decode cL_law 186 = .ok (.invokevirtual 97, 3) := by decide +kernel
theorem dL_law_189 : decode cL_law 189 = .ok (.ifCond .eq 5, 3) := by decide +kernel
theorem dL_law_192 : decode cL_law 192 = .ok (.iconst 0, 1) := by decide +kernel
theorem dL_law_193 : decode cL_law 193 = .ok (.ireturn, 1) := by decide +kernel
theorem dL_law_194 : decode cL_law 194 = .ok (.iinc 7 1, 3) := by decide +kernel
theorem dL_law_197 : decode cL_law 197 = .ok (.goto (-21), 3) := by decide +kernel
theorem dL_law_200 : decode cL_law 200 = .ok (.iconst 0, 1) := by decide +kernel
theorem dL_law_201 : decode cL_law 201 = .ok (.istore 7, 2) := by decide +kernel
theorem dL_law_203 : decode cL_law 203 = .ok (.iconst 0, 1) := by decide +kernel
theorem dL_law_204 : decode cL_law 204 = .ok (.istore 8, 2) := by decide +kernel
theorem dL_law_206 : decode cL_law 206 = .ok (.iconst 0, 1) := by decide +kernel
theorem dL_law_207 : decode cL_law 207 = .ok (.istore 9, 2) := by decide +kernel
theorem dL_law_209 : decode cL_law 209 = .ok (.iload 9, 2) := by decide +kernel
theorem dL_law_211 : decode cL_law 211 = .ok (.bipush 30, 2) := by decide +kernel
theorem dL_law_213 : decode cL_law 213 = .ok (.if_icmp .ge 297, 3) := by decide +kernel
theorem dL_law_216 : decode cL_law 216 = .ok (.iconst 0, 1) := by decide +kernel
theorem dL_law_217 : decode cL_law 217 = .ok (.istore 10, 2) := by decide +kernel
theorem dL_law_219 : decode cL_law 219 = .ok (.iconst 0, 1) := by decide +kernel
theorem dL_law_220 : decode cL_law 220 = .ok (.istore 11, 2) := by decide +kernel
theorem dL_law_222 : decode cL_law 222 = .ok (.iconst 0, 1) := by decide +kernel
theorem dL_law_223 : decode cL_law 223 = .ok (.istore 12, 2) := by decide +kernel
theorem dL_law_225 : decode cL_law 225 = .ok (.iload 12, 2) := by decide +kernel
theorem dL_law_227 : decode cL_law 227 = .ok (.iconst 4, 1) := by decide +kernel
theorem dL_law_228 : decode cL_law 228 = .ok (.if_icmp .ge 268, 3) := by decide +kernel
theorem dL_law_231 : decode cL_law 231 = .ok (.aload_n 1, 1) := by decide +kernel
theorem dL_law_232 : decode cL_law 232 = .ok (.iload 9, 2) := by decide +kernel
theorem dL_law_234 : decode cL_law 234 = .ok (.iconst 5, 1) := by decide +kernel
theorem dL_law_235 : decode cL_law 235 = .ok (.idiv, 1) := by decide +kernel
theorem dL_law_236 : decode cL_law 236 = .ok (.iload 9, 2) := by decide +kernel
theorem dL_law_238 : decode cL_law 238 = .ok (.iconst 5, 1) := by decide +kernel
theorem dL_law_239 : decode cL_law 239 = .ok (.irem, 1) := by decide +kernel
theorem dL_law_240 : decode cL_law 240 = .ok (.iload 12, 2) := by decide +kernel
theorem dL_law_242 : decode cL_law 242 = .ok (.invokevirtual 54, 3) := by decide +kernel
theorem dL_law_245 : decode cL_law 245 = .ok (.istore 13, 2) := by decide +kernel
theorem dL_law_247 : decode cL_law 247 = .ok (.iload 13, 2) := by decide +kernel
theorem dL_law_249 : decode cL_law 249 = .ok (.ifCond .ge 9, 3) := by decide +kernel
theorem dL_law_252 : decode cL_law 252 = .ok (.iconst 1, 1) := by decide +kernel
theorem dL_law_253 : decode cL_law 253 = .ok (.istore 11, 2) := by decide +kernel
theorem dL_law_255 : decode cL_law 255 = .ok (.goto 235, 3) := by decide +kernel
theorem dL_law_258 : decode cL_law 258 = .ok (.iload 11, 2) := by decide +kernel
theorem dL_law_260 : decode cL_law 260 = .ok (.ifCond .ne 42, 3) := by decide +kernel
theorem dL_law_263 : decode cL_law 263 = .ok (.aload_n 1, 1) := by decide +kernel
theorem dL_law_264 : decode cL_law 264 = .ok (.iload 13, 2) := by decide +kernel
theorem dL_law_266 : decode cL_law 266 = .ok (.iconst 4, 1) := by decide +kernel
theorem dL_law_267 : decode cL_law 267 = .ok (.invokevirtual 48, 3) := by decide +kernel
theorem dL_law_270 : decode cL_law 270 = .ok (.iconst 1, 1) := by decide +kernel
theorem dL_law_271 : decode cL_law 271 = .ok (.if_icmp .ne 31, 3) := by decide +kernel
theorem dL_law_274 : decode cL_law 274 = .ok (.aload_n 1, 1) := by decide +kernel
theorem dL_law_275 : decode cL_law 275 = .ok (.iload 13, 2) := by decide +kernel
theorem dL_law_277 : decode cL_law 277 = .ok (.iconst 1, 1) := by decide +kernel
theorem dL_law_278 : decode cL_law 278 = .ok (.invokevirtual 48, 3) := by decide +kernel
theorem dL_law_281 : decode cL_law 281 = .ok (.aload_n 1, 1) := by decide +kernel
theorem dL_law_282 : decode cL_law 282 = .ok (.invokevirtual 58, 3) := by decide +kernel
theorem dL_law_285 : decode cL_law 285 = .ok (.if_icmp .gt 17, 3) := by decide +kernel
theorem dL_law_288 : decode cL_law 288 = .ok (.aload_n 1, 1) := by decide +kernel
theorem dL_law_289 : decode cL_law 289 = .ok (.iload 13, 2) := by decide +kernel
theorem dL_law_291 : decode cL_law 291 = .ok (.iconst 2, 1) := by decide +kernel
theorem dL_law_292 : decode cL_law 292 = .ok (.invokevirtual 48, 3) := by decide +kernel
theorem dL_law_295 : decode cL_law 295 = .ok (.aload_n 1, 1) := by decide +kernel
theorem dL_law_296 : decode cL_law 296 = .ok (.invokevirtual 58, 3) := by decide +kernel
theorem dL_law_299 : decode cL_law 299 = .ok (.if_icmp .gt 5, 3) := by decide +kernel
theorem dL_law_302 : decode cL_law 302 = .ok (.iconst 0, 1) := by decide +kernel
theorem dL_law_303 : decode cL_law 303 = .ok (.ireturn, 1) := by decide +kernel
theorem dL_law_304 : decode cL_law 304 = .ok (.iload 10, 2) := by decide +kernel
theorem dL_law_306 : decode cL_law 306 = .ok (.aload_n 1, 1) := by decide +kernel
theorem dL_law_307 : decode cL_law 307 = .ok (.iload 13, 2) := by decide +kernel
theorem dL_law_309 : decode cL_law 309 = .ok (.iconst 0, 1) := by decide +kernel
theorem dL_law_310 : decode cL_law 310 = .ok (.invokevirtual 48, 3) := by decide +kernel
theorem dL_law_313 : decode cL_law 313 = .ok (.iadd, 1) := by decide +kernel
theorem dL_law_314 : decode cL_law 314 = .ok (.istore 10, 2) := by decide +kernel
theorem dL_law_316 : decode cL_law 316 = .ok (.iinc 8 1, 3) := by decide +kernel
theorem dL_law_319 : decode cL_law 319 = .ok (.iload 7, 2) := by decide +kernel
theorem dL_law_321 : decode cL_law 321 = .ok (.aload_n 1, 1) := by decide +kernel
theorem dL_law_322 : decode cL_law 322 = .ok (.iload 13, 2) := by decide +kernel
theorem dL_law_324 : decode cL_law 324 = .ok (.iconst 0, 1) := by decide +kernel
theorem dL_law_325 : decode cL_law 325 = .ok (.invokevirtual 48, 3) := by decide +kernel
theorem dL_law_328 : decode cL_law 328 = .ok (.iload 9, 2) := by decide +kernel
theorem dL_law_330 : decode cL_law 330 = .ok (.iconst 5, 1) := by decide +kernel
theorem dL_law_331 : decode cL_law 331 = .ok (.irem, 1) := by decide +kernel
theorem dL_law_332 : decode cL_law 332 = .ok (.iconst 2, 1) := by decide +kernel
theorem dL_law_333 : decode cL_law 333 = .ok (.isub, 1) := by decide +kernel
theorem dL_law_334 : decode cL_law 334 = .ok (.imul, 1) := by decide +kernel
theorem dL_law_335 : decode cL_law 335 = .ok (.iadd, 1) := by decide +kernel
theorem dL_law_336 : decode cL_law 336 = .ok (.istore 7, 2) := by decide +kernel
theorem dL_law_338 : decode cL_law 338 = .ok (.aload_n 1, 1) := by decide +kernel
theorem dL_law_339 : decode cL_law 339 = .ok (.iload 13, 2) := by decide +kernel
theorem dL_law_341 : decode cL_law 341 = .ok (.iconst 3, 1) := by decide +kernel
theorem dL_law_342 : decode cL_law 342 = .ok (.invokevirtual 48, 3) := by decide +kernel
theorem dL_law_345 : decode cL_law 345 = .ok (.istore 14, 2) := by decide +kernel
theorem dL_law_347 : decode cL_law 347 = .ok (.iload 14, 2) := by decide +kernel
theorem dL_law_349 : decode cL_law 349 = .ok (.iconst 1, 1) := by decide +kernel
theorem dL_law_350 : decode cL_law 350 = .ok (.if_icmp .ne 27, 3) := by decide +kernel
theorem dL_law_353 : decode cL_law 353 = .ok (.iload 12, 2) := by decide +kernel
theorem dL_law_355 : decode cL_law 355 = .ok (.iconst 1, 1) := by decide +kernel
theorem dL_law_356 : decode cL_law 356 = .ok (.if_icmp .gt 19, 3) := by decide +kernel
theorem dL_law_359 : decode cL_law 359 = .ok (.iload 9, 2) := by decide +kernel
theorem dL_law_361 : decode cL_law 361 = .ok (.iconst 5, 1) := by decide +kernel
theorem dL_law_362 : decode cL_law 362 = .ok (.idiv, 1) := by decide +kernel
theorem dL_law_363 : decode cL_law 363 = .ok (.iconst 2, 1) := by decide +kernel
theorem dL_law_364 : decode cL_law 364 = .ok (.if_icmp .eq 13, 3) := by decide +kernel
theorem dL_law_367 : decode cL_law 367 = .ok (.iload 9, 2) := by decide +kernel
theorem dL_law_369 : decode cL_law 369 = .ok (.iconst 5, 1) := by decide +kernel
theorem dL_law_370 : decode cL_law 370 = .ok (.idiv, 1) := by decide +kernel
theorem dL_law_371 : decode cL_law 371 = .ok (.iconst 3, 1) := by decide +kernel
theorem dL_law_372 : decode cL_law 372 = .ok (.if_icmp .eq 5, 3) := by decide +kernel
theorem dL_law_375 : decode cL_law 375 = .ok (.iconst 0, 1) := by decide +kernel
theorem dL_law_376 : decode cL_law 376 = .ok (.ireturn, 1) := by decide +kernel
theorem dL_law_377 : decode cL_law 377 = .ok (.iconst 0, 1) := by decide +kernel
theorem dL_law_378 : decode cL_law 378 = .ok (.istore 15, 2) := by decide +kernel
theorem dL_law_380 : decode cL_law 380 = .ok (.iload 15, 2) := by decide +kernel
theorem dL_law_382 : decode cL_law 382 = .ok (.iload 13, 2) := by decide +kernel
theorem dL_law_384 : decode cL_law 384 = .ok (.if_icmp .ge 106, 3) := by decide +kernel
theorem dL_law_387 : decode cL_law 387 = .ok (.iload 14, 2) := by decide +kernel
theorem dL_law_389 : decode cL_law 389 = .ok (.iconst 1, 1) := by decide +kernel
theorem dL_law_390 : decode cL_law 390 = .ok (.if_icmp .le 100, 3) := by decide +kernel
theorem dL_law_393 : decode cL_law 393 = .ok (.aload_n 1, 1) := by decide +kernel
theorem dL_law_394 : decode cL_law 394 = .ok (.iload 15, 2) := by decide +kernel
theorem dL_law_396 : decode cL_law 396 = .ok (.invokevirtual 51, 3) := by decide +kernel
theorem dL_law_399 : decode cL_law 399 = .ok (.ifCond .lt 85, 3) := by decide +kernel
theorem dL_law_402 : decode cL_law 402 = .ok (.aload_n 1, 1) := by decide +kernel
theorem dL_law_403 : decode cL_law 403 = .ok (.iload 15, 2) := by decide +kernel
theorem dL_law_405 : decode cL_law 405 = .ok (.iconst 3, 1) := by decide +kernel
theorem dL_law_406 : decode cL_law 406 = .ok (.invokevirtual 48, 3) := by decide +kernel
theorem dL_law_409 : decode cL_law 409 = .ok (.iconst 2, 1) := by decide +kernel
theorem dL_law_410 : decode cL_law 410 = .ok (.if_icmp .lt 74, 3) := by decide +kernel
theorem dL_law_413 : decode cL_law 413 = .ok (.aload_n 1, 1) := by decide +kernel
theorem dL_law_414 : decode cL_law 414 = .ok (.iload 15, 2) := by decide +kernel
theorem dL_law_416 : decode cL_law 416 = .ok (.iconst 3, 1) := by decide +kernel
theorem dL_law_417 : decode cL_law 417 = .ok (.invokevirtual 48, 3) := by decide +kernel
theorem dL_law_420 : decode cL_law 420 = .ok (.iload 14, 2) := by decide +kernel
theorem dL_law_422 : decode cL_law 422 = .ok (.if_icmp .ne 6, 3) := by decide +kernel
theorem dL_law_425 : decode cL_law 425 = .ok (.goto 59, 3) := by decide +kernel
theorem dL_law_428 : decode cL_law 428 = .ok (.aload_n 1, 1) := by decide +kernel
theorem dL_law_429 : decode cL_law 429 = .ok (.iload 15, 2) := by decide +kernel
theorem dL_law_431 : decode cL_law 431 = .ok (.invokevirtual 51, 3) := by decide +kernel
theorem dL_law_434 : decode cL_law 434 = .ok (.bipush 100, 2) := by decide +kernel
theorem dL_law_436 : decode cL_law 436 = .ok (.idiv, 1) := by decide +kernel
theorem dL_law_437 : decode cL_law 437 = .ok (.iload 9, 2) := by decide +kernel
theorem dL_law_439 : decode cL_law 439 = .ok (.iconst 5, 1) := by decide +kernel
theorem dL_law_440 : decode cL_law 440 = .ok (.idiv, 1) := by decide +kernel
theorem dL_law_441 : decode cL_law 441 = .ok (.isub, 1) := by decide +kernel
theorem dL_law_442 : decode cL_law 442 = .ok (.invokestatic 34, 3) := by decide +kernel
theorem dL_law_445 : decode cL_law 445 = .ok (.istore 16, 2) := by decide +kernel
theorem dL_law_447 : decode cL_law 447 = .ok (.iload 16, 2) := by decide +kernel
theorem dL_law_449 : decode cL_law 449 = .ok (.ifCond .eq 33, 3) := by decide +kernel
theorem dL_law_452 : decode cL_law 452 = .ok (.iload 16, 2) := by decide +kernel
theorem dL_law_454 : decode cL_law 454 = .ok (.iconst 1, 1) := by decide +kernel
theorem dL_law_455 : decode cL_law 455 = .ok (.if_icmp .ne 29, 3) := by decide +kernel
theorem dL_law_458 : decode cL_law 458 = .ok (.aload_n 1, 1) := by decide +kernel
theorem dL_law_459 : decode cL_law 459 = .ok (.iload 15, 2) := by decide +kernel
theorem dL_law_461 : decode cL_law 461 = .ok (.invokevirtual 51, 3) := by decide +kernel
theorem dL_law_464 : decode cL_law 464 = .ok (.bipush 10, 2) := by decide +kernel
theorem dL_law_466 : decode cL_law 466 = .ok (.idiv, 1) := by decide +kernel
theorem dL_law_467 : decode cL_law 467 = .ok (.bipush 10, 2) := by decide +kernel
theorem dL_law_469 : decode cL_law 469 = .ok (.irem, 1) := by decide +kernel
theorem dL_law_470 : decode cL_law 470 = .ok (.iload 9, 2) := by decide +kernel
theorem dL_law_472 : decode cL_law 472 = .ok (.iconst 5, 1) := by decide +kernel
theorem dL_law_473 : decode cL_law 473 = .ok (.irem, 1) := by decide +kernel
theorem dL_law_474 : decode cL_law 474 = .ok (.isub, 1) := by decide +kernel
theorem dL_law_475 : decode cL_law 475 = .ok (.invokestatic 34, 3) := by decide +kernel
theorem dL_law_478 : decode cL_law 478 = .ok (.iconst 2, 1) := by decide +kernel
theorem dL_law_479 : decode cL_law 479 = .ok (.if_icmp .ge 5, 3) := by decide +kernel
theorem dL_law_482 : decode cL_law 482 = .ok (.iconst 0, 1) := by decide +kernel
theorem dL_law_483 : decode cL_law 483 = .ok (.ireturn, 1) := by decide +kernel
theorem dL_law_484 : decode cL_law 484 = .ok (.iinc 15 1, 3) := by decide +kernel
theorem dL_law_487 : decode cL_law 487 = .ok (.goto (-107), 3) := by decide +kernel
theorem dL_law_490 : decode cL_law 490 = .ok (.iinc 12 1, 3) := by decide +kernel
theorem dL_law_493 : decode cL_law 493 = .ok (.goto (-268), 3) := by decide +kernel
theorem dL_law_496 : decode cL_law 496 = .ok (.iload 10, 2) := by decide +kernel
theorem dL_law_498 : decode cL_law 498 = .ok (.iload_n 2, 1) := by decide +kernel
theorem dL_law_499 : decode cL_law 499 = .ok (.if_icmp .le 5, 3) := by decide +kernel
theorem dL_law_502 : decode cL_law 502 = .ok (.iconst 0, 1) := by decide +kernel
theorem dL_law_503 : decode cL_law 503 = .ok (.ireturn, 1) := by decide +kernel
theorem dL_law_504 : decode cL_law 504 = .ok (.iinc 9 1, 3) := by decide +kernel
theorem dL_law_507 : decode cL_law 507 = .ok (.goto (-298), 3) := by decide +kernel
theorem dL_law_510 : decode cL_law 510 = .ok (.iload 8, 2) := by decide +kernel
theorem dL_law_512 : decode cL_law 512 = .ok (.aload_n 1, 1) := by decide +kernel
theorem dL_law_513 : decode cL_law 513 = .ok (.iconst 0, 1) := by decide +kernel
theorem dL_law_514 : decode cL_law 514 = .ok (.invokevirtual 91, 3) := by decide +kernel
theorem dL_law_517 : decode cL_law 517 = .ok (.if_icmp .ne 13, 3) := by decide +kernel
theorem dL_law_520 : decode cL_law 520 = .ok (.iload 7, 2) := by decide +kernel
theorem dL_law_522 : decode cL_law 522 = .ok (.aload_n 1, 1) := by decide +kernel
theorem dL_law_523 : decode cL_law 523 = .ok (.iconst 0, 1) := by decide +kernel
theorem dL_law_524 : decode cL_law 524 = .ok (.invokevirtual 65, 3) := by decide +kernel
theorem dL_law_527 : decode cL_law 527 = .ok (.if_icmp .eq 5, 3) := by decide +kernel
theorem dL_law_530 : decode cL_law 530 = .ok (.iconst 0, 1) := by decide +kernel
theorem dL_law_531 : decode cL_law 531 = .ok (.ireturn, 1) := by decide +kernel
theorem dL_law_532 : decode cL_law 532 = .ok (.aload_n 1, 1) := by decide +kernel
theorem dL_law_533 : decode cL_law 533 = .ok (.invokevirtual 100, 3) := by decide +kernel
