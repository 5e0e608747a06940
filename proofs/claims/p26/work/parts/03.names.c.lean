theorem dX0_init_0 : decode cX0_init 0 = .ok (.aload_n 0, 1) := by decide +kernel
theorem dX0_init_1 : decode cX0_init 1 = .ok (.invokespecial 3, 3) := by decide +kernel
theorem dX0_init_4 : decode cX0_init 4 = .ok (.aload_n 0, 1) := by decide +kernel
theorem dX0_init_5 : decode cX0_init 5 = .ok (.iconst 0, 1) := by decide +kernel
theorem dX0_init_6 : decode cX0_init 6 = .ok (.putfield 9, 3) := by decide +kernel
theorem dX0_init_9 : decode cX0_init 9 = .ok (.aload_n 0, 1) := by decide +kernel
theorem dX0_init_10 : decode cX0_init 10 = .ok (.aconst_null, 1) := by decide +kernel
theorem dX0_init_11 : decode cX0_init 11 = .ok (.putfield 15, 3) := by decide +kernel
theorem dX0_init_14 : decode cX0_init 14 = .ok (.aload_n 0, 1) := by decide +kernel
theorem dX0_init_15 : decode cX0_init 15 = .ok (.iconst 0, 1) := by decide +kernel
theorem dX0_init_16 : decode cX0_init 16 = .ok (.putfield 19, 3) := by decide +kernel
theorem dX0_init_19 : decode cX0_init 19 = .ok (.aload_n 0, 1) := by decide +kernel
theorem dX0_init_20 : decode cX0_init 20 = .ok (.iload_n 1, 1) := by decide +kernel
theorem dX0_init_21 : decode cX0_init 21 = .ok (.putfield 23, 3) := by decide +kernel
theorem dX0_init_24 : decode cX0_init 24 = .ok (.aload_n 0, 1) := by decide +kernel
theorem dX0_init_25 : decode cX0_init 25 = .ok (.iload_n 2, 1) := by decide +kernel
theorem dX0_init_26 : decode cX0_init 26 = .ok (.putfield 26, 3) := by decide +kernel
theorem dX0_init_29 : decode cX0_init 29 = .ok (.aload_n 0, 1) := by decide +kernel
theorem dX0_init_30 : decode cX0_init 30 = .ok (.iload_n 3, 1) := by decide +kernel
theorem dX0_init_31 : decode cX0_init 31 = .ok (.putfield 29, 3) := by decide +kernel
theorem dX0_init_34 : decode cX0_init 34 = .ok (.aload_n 0, 1) := by decide +kernel
theorem dX0_init_35 : decode cX0_init 35 = .ok (.iload 4, 2) := by decide +kernel
theorem dX0_init_37 : decode cX0_init 37 = .ok (.putfield 32, 3) := by decide +kernel
theorem dX0_init_40 : decode cX0_init 40 = .ok (.aload_n 0, 1) := by decide +kernel
theorem dX0_init_41 : decode cX0_init 41 = .ok (.iload 5, 2) := by decide +kernel
theorem dX0_init_43 : decode cX0_init 43 = .ok (.putfield 35, 3) := by decide +kernel
theorem dX0_init_46 : decode cX0_init 46 = .ok (.return_, 1) := by decide +kernel
set_option maxRecDepth 20000 in
theorem ggX0_tell_X0_state : GoodIn wsX0_tell wsX0_state := goodIn_r _ [9, 10, 11, 12, 13, 14, 15, 16, 17, 18, 19] (by decide +kernel) (by decide +kernel)
set_option maxRecDepth 20000 in
theorem gX0_tell_X0_state : GoodIn wsX0_tell (wsV RX0 38 RX0 yX0_state wsX0_state) := goodIn_app (goodIn_of _ (by decide +kernel)) ggX0_tell_X0_state
theorem dX0_tell_0 : decode cX0_tell 0 = .ok (.iload_n 1, 1) := by decide +kernel
theorem dX0_tell_1 : decode cX0_tell 1 = .ok (.tableswitch 51 0 3 #[31, 36, 41, 46], 31) := by decide +kernel
theorem dX0_tell_32 : decode cX0_tell 32 = .ok (.aload_n 0, 1) := by decide +kernel
theorem dX0_tell_33 : decode cX0_tell 33 = .ok (.getfield 26, 3) := by decide +kernel
theorem dX0_tell_36 : decode cX0_tell 36 = .ok (.ireturn, 1) := by decide +kernel
theorem dX0_tell_37 : decode cX0_tell 37 = .ok (.aload_n 0, 1) := by decide +kernel
theorem dX0_tell_38 : decode cX0_tell 38 = .ok (.getfield 29, 3) := by decide +kernel
theorem dX0_tell_41 : decode cX0_tell 41 = .ok (.ireturn, 1) := by decide +kernel
theorem dX0_tell_42 : decode cX0_tell 42 = .ok (.aload_n 0, 1) := by decide +kernel
theorem dX0_tell_43 : decode cX0_tell 43 = .ok (.getfield 32, 3) := by decide +kernel
theorem dX0_tell_46 : decode cX0_tell 46 = .ok (.ireturn, 1) := by decide +kernel
theorem dX0_tell_47 : decode cX0_tell 47 = .ok (.aload_n 0, 1) := by decide +kernel
theorem dX0_tell_48 : decode cX0_tell 48 = .ok (.getfield 35, 3) := by decide +kernel
theorem dX0_tell_51 : decode cX0_tell 51 = .ok (.ireturn, 1) := by decide +kernel
theorem dX0_tell_52 : decode cX0_tell 52 = .ok (.aload_n 0, 1) := by decide +kernel
theorem dX0_tell_53 : decode cX0_tell 53 = .ok (.invokevirtual 38, 3) := by decide +kernel
theorem dX0_tell_56 : decode cX0_tell 56 = .ok (.ireturn, 1) := by decide +kernel
theorem dX0_state_0 : decode cX0_state 0 = .ok (.aload_n 0, 1) := by decide +kernel
theorem dX0_state_1 : decode cX0_state 1 = .ok (.getfield 9, 3) := by decide +kernel
theorem dX0_state_4 : decode cX0_state 4 = .ok (.ifCond .eq 5, 3) := by decide +kernel
theorem dX0_state_7 : decode cX0_state 7 = .ok (.iconst 2, 1) := by decide +kernel
theorem dX0_state_8 : decode cX0_state 8 = .ok (.ireturn, 1) := by decide +kernel
theorem dX0_state_9 : decode cX0_state 9 = .ok (.aload_n 0, 1) := by decide +kernel
theorem dX0_state_10 : decode cX0_state 10 = .ok (.getfield 15, 3) := by decide +kernel
theorem dX0_state_13 : decode cX0_state 13 = .ok (.ifnull 7, 3) := by decide +kernel
theorem dX0_state_16 : decode cX0_state 16 = .ok (.iconst 1, 1) := by decide +kernel
theorem dX0_state_17 : decode cX0_state 17 = .ok (.goto 4, 3) := by decide +kernel
theorem dX0_state_20 : decode cX0_state 20 = .ok (.iconst 0, 1) := by decide +kernel
theorem dX0_state_21 : decode cX0_state 21 = .ok (.ireturn, 1) := by decide +kernel
set_option maxRecDepth 20000 in
theorem ggX0_waitsAt_X0_state : GoodIn wsX0_waitsAt wsX0_state := goodIn_r _ [6, 7, 8, 9, 10, 11, 12, 13, 14, 15, 16] (by decide +kernel) (by decide +kernel)
set_option maxRecDepth 20000 in
theorem gX0_waitsAt_X0_state : GoodIn wsX0_waitsAt (wsV RX0 38 RX0 yX0_state wsX0_state) := goodIn_app (goodIn_of _ (by decide +kernel)) ggX0_waitsAt_X0_state
theorem dX0_waitsAt_0 : decode cX0_waitsAt 0 = .ok (.aload_n 0, 1) := by decide +kernel
theorem dX0_waitsAt_1 : decode cX0_waitsAt 1 = .ok (.invokevirtual 38, 3) := by decide +kernel
theorem dX0_waitsAt_4 : decode cX0_waitsAt 4 = .ok (.ifCond .ne 15, 3) := by decide +kernel
theorem dX0_waitsAt_7 : decode cX0_waitsAt 7 = .ok (.aload_n 0, 1) := by decide +kernel
theorem dX0_waitsAt_8 : decode cX0_waitsAt 8 = .ok (.getfield 29, 3) := by decide +kernel
theorem dX0_waitsAt_11 : decode cX0_waitsAt 11 = .ok (.iload_n 1, 1) := by decide +kernel
theorem dX0_waitsAt_12 : decode cX0_waitsAt 12 = .ok (.if_icmp .ne 7, 3) := by decide +kernel
theorem dX0_waitsAt_15 : decode cX0_waitsAt 15 = .ok (.iconst 1, 1) := by decide +kernel
theorem dX0_waitsAt_16 : decode cX0_waitsAt 16 = .ok (.goto 4, 3) := by decide +kernel
theorem dX0_waitsAt_19 : decode cX0_waitsAt 19 = .ok (.iconst 0, 1) := by decide +kernel
theorem dX0_waitsAt_20 : decode cX0_waitsAt 20 = .ok (.ireturn, 1) := by decide +kernel
theorem dX0_isDangerous_0 : decode cX0_isDangerous 0 = .ok (.aload_n 0, 1) := by decide +kernel
theorem dX0_isDangerous_1 : decode cX0_isDangerous 1 = .ok (.getfield 35, 3) := by decide +kernel
theorem dX0_isDangerous_4 : decode cX0_isDangerous 4 = .ok (.iconst 2, 1) := by decide +kernel
theorem dX0_isDangerous_5 : decode cX0_isDangerous 5 = .ok (.if_icmp .lt 7, 3) := by decide +kernel
theorem dX0_isDangerous_8 : decode cX0_isDangerous 8 = .ok (.iconst 1, 1) := by decide +kernel
theorem dX0_isDangerous_9 : decode cX0_isDangerous 9 = .ok (.goto 4, 3) := by decide +kernel
theorem dX0_isDangerous_12 : decode cX0_isDangerous 12 = .ok (.iconst 0, 1) := by decide +kernel
theorem dX0_isDangerous_13 : decode cX0_isDangerous 13 = .ok (.ireturn, 1) := by decide +kernel
theorem dX0_place_0 : decode cX0_place 0 = .ok (.aload_n 0, 1) := by decide +kernel
theorem dX0_place_1 : decode cX0_place 1 = .ok (.getfield 15, 3) := by decide +kernel
theorem dX0_place_4 : decode cX0_place 4 = .ok (.ifnonnull 7, 3) := by decide +kernel
theorem dX0_place_7 : decode cX0_place 7 = .ok (.iconst (-1), 1) := by decide +kernel
theorem dX0_place_8 : decode cX0_place 8 = .ok (.goto 29, 3) := by decide +kernel
theorem dX0_place_11 : decode cX0_place 11 = .ok (.bipush 100, 2) := by decide +kernel
theorem dX0_place_13 : decode cX0_place 13 = .ok (.aload_n 0, 1) := by decide +kernel
theorem dX0_place_14 : decode cX0_place 14 = .ok (.getfield 15, 3) := by decide +kernel
theorem dX0_place_17 : decode cX0_place 17 = .ok (.getfield 42, 3) := by decide +kernel
theorem dX0_place_20 : decode cX0_place 20 = .ok (.imul, 1) := by decide +kernel
theorem dX0_place_21 : decode cX0_place 21 = .ok (.bipush 10, 2) := by decide +kernel
theorem dX0_place_23 : decode cX0_place 23 = .ok (.aload_n 0, 1) := by decide +kernel
theorem dX0_place_24 : decode cX0_place 24 = .ok (.getfield 15, 3) := by decide +kernel
theorem dX0_place_27 : decode cX0_place 27 = .ok (.getfield 47, 3) := by decide +kernel
theorem dX0_place_30 : decode cX0_place 30 = .ok (.imul, 1) := by decide +kernel
theorem dX0_place_31 : decode cX0_place 31 = .ok (.iadd, 1) := by decide +kernel
theorem dX0_place_32 : decode cX0_place 32 = .ok (.aload_n 0, 1) := by decide +kernel
theorem dX0_place_33 : decode cX0_place 33 = .ok (.getfield 19, 3) := by decide +kernel
theorem dX0_place_36 : decode cX0_place 36 = .ok (.iadd, 1) := by decide +kernel
theorem dX0_place_37 : decode cX0_place 37 = .ok (.ireturn, 1) := by decide +kernel
theorem dX0_goesBefore_0 : decode cX0_goesBefore 0 = .ok (.aload_n 0, 1) := by decide +kernel
theorem dX0_goesBefore_1 : decode cX0_goesBefore 1 = .ok (.getfield 32, 3) := by decide +kernel
theorem dX0_goesBefore_4 : decode cX0_goesBefore 4 = .ok (.aload_n 1, 1) := by decide +kernel
theorem dX0_goesBefore_5 : decode cX0_goesBefore 5 = .ok (.getfield 32, 3) := by decide +kernel
theorem dX0_goesBefore_8 : decode cX0_goesBefore 8 = .ok (.if_icmp .gt 25, 3) := by decide +kernel
theorem dX0_goesBefore_11 : decode cX0_goesBefore 11 = .ok (.aload_n 0, 1) := by decide +kernel
theorem dX0_goesBefore_12 : decode cX0_goesBefore 12 = .ok (.getfield 32, 3) := by decide +kernel
theorem dX0_goesBefore_15 : decode cX0_goesBefore 15 = .ok (.aload_n 1, 1) := by decide +kernel
theorem dX0_goesBefore_16 : decode cX0_goesBefore 16 = .ok (.getfield 32, 3) := by decide +kernel
theorem dX0_goesBefore_19 : decode cX0_goesBefore 19 = .ok (.if_icmp .ne 18, 3) := by decide +kernel
theorem dX0_goesBefore_22 : decode cX0_goesBefore 22 = .ok (.aload_n 0, 1) := by decide +kernel
theorem dX0_goesBefore_23 : decode cX0_goesBefore 23 = .ok (.getfield 26, 3) := by decide +kernel
theorem dX0_goesBefore_26 : decode cX0_goesBefore 26 = .ok (.aload_n 1, 1) := by decide +kernel
theorem dX0_goesBefore_27 : decode cX0_goesBefore 27 = .ok (.getfield 26, 3) := by decide +kernel
theorem dX0_goesBefore_30 : decode cX0_goesBefore 30 = .ok (.if_icmp .le 7, 3) := by decide +kernel
theorem dX0_goesBefore_33 : decode cX0_goesBefore 33 = .ok (.iconst 1, 1) := by decide +kernel
theorem dX0_goesBefore_34 : decode cX0_goesBefore 34 = .ok (.goto 4, 3) := by decide +kernel
theorem dX0_goesBefore_37 : decode cX0_goesBefore 37 = .ok (.iconst 0, 1) := by decide +kernel
theorem dX0_goesBefore_38 : decode cX0_goesBefore 38 = .ok (.ireturn, 1) := by decide +kernel
theorem dX1_init_0 : decode cX1_init 0 = .ok (.aload_n 0, 1) := by decide +kernel
theorem dX1_init_1 : decode cX1_init 1 = .ok (.invokespecial 3, 3) := by decide +kernel
theorem dX1_init_4 : decode cX1_init 4 = .ok (.aload_n 0, 1) := by decide +kernel
theorem dX1_init_5 : decode cX1_init 5 = .ok (.iconst 4, 1) := by decide +kernel
theorem dX1_init_6 : decode cX1_init 6 = .ok (.anewarray 9, 3) := by decide +kernel
theorem dX1_init_9 : decode cX1_init 9 = .ok (.putfield 11, 3) := by decide +kernel
theorem dX1_init_12 : decode cX1_init 12 = .ok (.aload_n 0, 1) := by decide +kernel
theorem dX1_init_13 : decode cX1_init 13 = .ok (.iconst 0, 1) := by decide +kernel
theorem dX1_init_14 : decode cX1_init 14 = .ok (.putfield 17, 3) := by decide +kernel
theorem dX1_init_17 : decode cX1_init 17 = .ok (.aload_n 0, 1) := by decide +kernel
theorem dX1_init_18 : decode cX1_init 18 = .ok (.iload_n 1, 1) := by decide +kernel
theorem dX1_init_19 : decode cX1_init 19 = .ok (.putfield 21, 3) := by decide +kernel
theorem dX1_init_22 : decode cX1_init 22 = .ok (.aload_n 0, 1) := by decide +kernel
theorem dX1_init_23 : decode cX1_init 23 = .ok (.iload_n 2, 1) := by decide +kernel
theorem dX1_init_24 : decode cX1_init 24 = .ok (.putfield 24, 3) := by decide +kernel
theorem dX1_init_27 : decode cX1_init 27 = .ok (.aload_n 0, 1) := by decide +kernel
theorem dX1_init_28 : decode cX1_init 28 = .ok (.iload_n 3, 1) := by decide +kernel
theorem dX1_init_29 : decode cX1_init 29 = .ok (.putfield 27, 3) := by decide +kernel
theorem dX1_init_32 : decode cX1_init 32 = .ok (.return_, 1) := by decide +kernel
theorem dX1_listArm_0 : decode cX1_listArm 0 = .ok (.aload_n 0, 1) := by decide +kernel
theorem dX1_listArm_1 : decode cX1_listArm 1 = .ok (.getfield 24, 3) := by decide +kernel
theorem dX1_listArm_4 : decode cX1_listArm 4 = .ok (.iconst 2, 1) := by decide +kernel
theorem dX1_listArm_5 : decode cX1_listArm 5 = .ok (.isub, 1) := by decide +kernel
theorem dX1_listArm_6 : decode cX1_listArm 6 = .ok (.ireturn, 1) := by decide +kernel
theorem dX1_trimArm_0 : decode cX1_trimArm 0 = .ok (.iconst 2, 1) := by decide +kernel
theorem dX1_trimArm_1 : decode cX1_trimArm 1 = .ok (.aload_n 0, 1) := by decide +kernel
theorem dX1_trimArm_2 : decode cX1_trimArm 2 = .ok (.getfield 21, 3) := by decide +kernel
theorem dX1_trimArm_5 : decode cX1_trimArm 5 = .ok (.imul, 1) := by decide +kernel
theorem dX1_trimArm_6 : decode cX1_trimArm 6 = .ok (.iconst 5, 1) := by decide +kernel
theorem dX1_trimArm_7 : decode cX1_trimArm 7 = .ok (.isub, 1) := by decide +kernel
theorem dX1_trimArm_8 : decode cX1_trimArm 8 = .ok (.ireturn, 1) := by decide +kernel
theorem dX1_isApartFrom_0 : decode cX1_isApartFrom 0 = .ok (.aload_n 0, 1) := by decide +kernel
theorem dX1_isApartFrom_1 : decode cX1_isApartFrom 1 = .ok (.getfield 21, 3) := by decide +kernel
theorem dX1_isApartFrom_4 : decode cX1_isApartFrom 4 = .ok (.aload_n 1, 1) := by decide +kernel
theorem dX1_isApartFrom_5 : decode cX1_isApartFrom 5 = .ok (.getfield 21, 3) := by decide +kernel
theorem dX1_isApartFrom_8 : decode cX1_isApartFrom 8 = .ok (.isub, 1) := by decide +kernel
theorem dX1_isApartFrom_9 : decode cX1_isApartFrom 9 = .ok (.invokestatic 31, 3) := by decide +kernel
theorem dX1_isApartFrom_12 : decode cX1_isApartFrom 12 = .ok (.istore_n 2, 1) := by decide +kernel
theorem dX1_isApartFrom_13 : decode cX1_isApartFrom 13 = .ok (.iload_n 2, 1) := by decide +kernel
theorem dX1_isApartFrom_14 : decode cX1_isApartFrom 14 = .ok (.iconst 2, 1) := by decide +kernel
theorem dX1_isApartFrom_15 : decode cX1_isApartFrom 15 = .ok (.if_icmp .ge 24, 3) := by decide +kernel
theorem dX1_isApartFrom_18 : decode cX1_isApartFrom 18 = .ok (.iload_n 2, 1) := by decide +kernel
theorem dX1_isApartFrom_19 : decode cX1_isApartFrom 19 = .ok (.iconst 1, 1) := by decide +kernel
theorem dX1_isApartFrom_20 : decode cX1_isApartFrom 20 = .ok (.if_icmp .ne 23, 3) := by decide +kernel
theorem dX1_isApartFrom_23 : decode cX1_isApartFrom 23 = .ok (.aload_n 0, 1) := by decide +kernel
theorem dX1_isApartFrom_24 : decode cX1_isApartFrom 24 = .ok (.getfield 24, 3) := by decide +kernel
theorem dX1_isApartFrom_27 : decode cX1_isApartFrom 27 = .ok (.aload_n 1, 1) := by decide +kernel
theorem dX1_isApartFrom_28 : decode cX1_isApartFrom 28 = .ok (.getfield 24, 3) := by decide +kernel
theorem dX1_isApartFrom_31 : decode cX1_isApartFrom 31 = .ok (.isub, 1) := by decide +kernel
theorem dX1_isApartFrom_32 : decode cX1_isApartFrom 32 = .ok (.invokestatic 31, 3) := by decide +kernel
theorem dX1_isApartFrom_35 : decode cX1_isApartFrom 35 = .ok (.iconst 2, 1) := by decide +kernel
theorem dX1_isApartFrom_36 : decode cX1_isApartFrom 36 = .ok (.if_icmp .lt 7, 3) := by decide +kernel
theorem dX1_isApartFrom_39 : decode cX1_isApartFrom 39 = .ok (.iconst 1, 1) := by decide +kernel
theorem dX1_isApartFrom_40 : decode cX1_isApartFrom 40 = .ok (.goto 4, 3) := by decide +kernel
theorem dX1_isApartFrom_43 : decode cX1_isApartFrom 43 = .ok (.iconst 0, 1) := by decide +kernel
theorem dX1_isApartFrom_44 : decode cX1_isApartFrom 44 = .ok (.ireturn, 1) := by decide +kernel
theorem dX1_hasPowerOnNextTier_0 : decode cX1_hasPowerOnNextTier 0 = .ok (.aload_n 0, 1) := by decide +kernel
theorem dX1_hasPowerOnNextTier_1 : decode cX1_hasPowerOnNextTier 1 = .ok (.getfield 27, 3) := by decide +kernel
theorem dX1_hasPowerOnNextTier_4 : decode cX1_hasPowerOnNextTier 4 = .ok (.ifCond .eq 15, 3) := by decide +kernel
theorem dX1_hasPowerOnNextTier_7 : decode cX1_hasPowerOnNextTier 7 = .ok (.aload_n 0, 1) := by decide +kernel
theorem dX1_hasPowerOnNextTier_8 : decode cX1_hasPowerOnNextTier 8 = .ok (.getfield 17, 3) := by decide +kernel
theorem dX1_hasPowerOnNextTier_11 : decode cX1_hasPowerOnNextTier 11 = .ok (.iconst 2, 1) := by decide +kernel
theorem dX1_hasPowerOnNextTier_12 : decode cX1_hasPowerOnNextTier 12 = .ok (.if_icmp .ge 7, 3) := by decide +kernel
theorem dX1_hasPowerOnNextTier_15 : decode cX1_hasPowerOnNextTier 15 = .ok (.iconst 1, 1) := by decide +kernel
theorem dX1_hasPowerOnNextTier_16 : decode cX1_hasPowerOnNextTier 16 = .ok (.goto 4, 3) := by decide +kernel
theorem dX1_hasPowerOnNextTier_19 : decode cX1_hasPowerOnNextTier 19 = .ok (.iconst 0, 1) := by decide +kernel
theorem dX1_hasPowerOnNextTier_20 : decode cX1_hasPowerOnNextTier 20 = .ok (.ireturn, 1) := by decide +kernel
theorem dX1_onTier_0 : decode cX1_onTier 0 = .ok (.iload_n 1, 1) := by decide +kernel
theorem dX1_onTier_1 : decode cX1_onTier 1 = .ok (.ifCond .lt 12, 3) := by decide +kernel
theorem dX1_onTier_4 : decode cX1_onTier 4 = .ok (.iload_n 1, 1) := by decide +kernel
theorem dX1_onTier_5 : decode cX1_onTier 5 = .ok (.aload_n 0, 1) := by decide +kernel
theorem dX1_onTier_6 : decode cX1_onTier 6 = .ok (.getfield 11, 3) := by decide +kernel
theorem dX1_onTier_9 : decode cX1_onTier 9 = .ok (.arraylength, 1) := by decide +kernel
theorem dX1_onTier_10 : decode cX1_onTier 10 = .ok (.if_icmp .lt 5, 3) := by decide +kernel
theorem dX1_onTier_13 : decode cX1_onTier 13 = .ok (.aconst_null, 1) := by decide +kernel
theorem dX1_onTier_14 : decode cX1_onTier 14 = .ok (.areturn, 1) := by decide +kernel
theorem dX1_onTier_15 : decode cX1_onTier 15 = .ok (.aload_n 0, 1) := by decide +kernel
theorem dX1_onTier_16 : decode cX1_onTier 16 = .ok (.getfield 11, 3) := by decide +kernel
theorem dX1_onTier_19 : decode cX1_onTier 19 = .ok (.iload_n 1, 1) := by decide +kernel
theorem dX1_onTier_20 : decode cX1_onTier 20 = .ok (.aaload, 1) := by decide +kernel
theorem dX1_onTier_21 : decode cX1_onTier 21 = .ok (.areturn, 1) := by decide +kernel
theorem dX1_push_0 : decode cX1_push 0 = .ok (.aload_n 1, 1) := by decide +kernel
theorem dX1_push_1 : decode cX1_push 1 = .ok (.ifnull 22, 3) := by decide +kernel
theorem dX1_push_4 : decode cX1_push 4 = .ok (.aload_n 0, 1) := by decide +kernel
theorem dX1_push_5 : decode cX1_push 5 = .ok (.getfield 17, 3) := by decide +kernel
theorem dX1_push_8 : decode cX1_push 8 = .ok (.ifCond .lt 15, 3) := by decide +kernel
theorem dX1_push_11 : decode cX1_push 11 = .ok (.aload_n 0, 1) := by decide +kernel
theorem dX1_push_12 : decode cX1_push 12 = .ok (.getfield 17, 3) := by decide +kernel
theorem dX1_push_15 : decode cX1_push 15 = .ok (.aload_n 0, 1) := by decide +kernel
theorem dX1_push_16 : decode cX1_push 16 = .ok (.getfield 11, 3) := by decide +kernel
theorem dX1_push_19 : decode cX1_push 19 = .ok (.arraylength, 1) := by decide +kernel
theorem dX1_push_20 : decode cX1_push 20 = .ok (.if_icmp .lt 4, 3) := by decide +kernel
theorem dX1_push_23 : decode cX1_push 23 = .ok (.return_, 1) := by decide +kernel
theorem dX1_push_24 : decode cX1_push 24 = .ok (.aload_n 0, 1) := by decide +kernel
theorem dX1_push_25 : decode cX1_push 25 = .ok (.getfield 11, 3) := by decide +kernel
theorem dX1_push_28 : decode cX1_push 28 = .ok (.aload_n 0, 1) := by decide +kernel
theorem dX1_push_29 : decode cX1_push 29 = .ok (.getfield 17, 3) := by decide +kernel
theorem dX1_push_32 : decode cX1_push 32 = .ok (.aload_n 1, 1) := by decide +kernel
theorem dX1_push_33 : decode cX1_push 33 = .ok (.aastore, 1) := by decide +kernel
theorem dX1_push_34 : decode cX1_push 34 = .ok (.aload_n 1, 1) := by decide +kernel
theorem dX1_push_35 : decode cX1_push 35 = .ok (.aload_n 0, 1) := by decide +kernel
theorem dX1_push_36 : decode cX1_push 36 = .ok (.putfield 41, 3) := by decide +kernel
theorem dX1_push_39 : decode cX1_push 39 = .ok (.aload_n 1, 1) := by decide +kernel
theorem dX1_push_40 : decode cX1_push 40 = .ok (.aload_n 0, 1) := by decide +kernel
theorem dX1_push_41 : decode cX1_push 41 = .ok (.getfield 17, 3) := by decide +kernel
theorem dX1_push_44 : decode cX1_push 44 = .ok (.putfield 45, 3) := by decide +kernel
theorem dX1_push_47 : decode cX1_push 47 = .ok (.aload_n 0, 1) := by decide +kernel
theorem dX1_push_48 : decode cX1_push 48 = .ok (.dup, 1) := by decide +kernel
theorem dX1_push_49 : decode cX1_push 49 = .ok (.getfield 17, 3) := by decide +kernel
theorem dX1_push_52 : decode cX1_push 52 = .ok (.iconst 1, 1) := by decide +kernel
theorem dX1_push_53 : decode cX1_push 53 = .ok (.iadd, 1) := by decide +kernel
theorem dX1_push_54 : decode cX1_push 54 = .ok (.putfield 17, 3) := by decide +kernel
theorem dX1_push_57 : decode cX1_push 57 = .ok (.return_, 1) := by decide +kernel
set_option maxRecDepth 20000 in
theorem ggX1_land_X1_push : GoodIn wsX1_land wsX1_push := goodIn_r _ [10, 1, 2, 4, 11, 12, 13, 14, 15, 16, 17, 18, 19, 20, 21, 22, 23, 24] (by decide +kernel) (by decide +kernel)
set_option maxRecDepth 20000 in
theorem gX1_land_X1_push : GoodIn wsX1_land (wsV RX1 54 RX1 yX1_push wsX1_push) := goodIn_app (goodIn_of _ (by decide +kernel)) ggX1_land_X1_push
theorem dX1_land_0 : decode cX1_land 0 = .ok (.aload_n 0, 1) := by decide +kernel
theorem dX1_land_1 : decode cX1_land 1 = .ok (.iconst 0, 1) := by decide +kernel
theorem dX1_land_2 : decode cX1_land 2 = .ok (.putfield 17, 3) := by decide +kernel
theorem dX1_land_5 : decode cX1_land 5 = .ok (.iconst 0, 1) := by decide +kernel
theorem dX1_land_6 : decode cX1_land 6 = .ok (.istore_n 2, 1) := by decide +kernel
theorem dX1_land_7 : decode cX1_land 7 = .ok (.iload_n 2, 1) := by decide +kernel
theorem dX1_land_8 : decode cX1_land 8 = .ok (.aload_n 0, 1) := by decide +kernel
theorem dX1_land_9 : decode cX1_land 9 = .ok (.getfield 11, 3) := by decide +kernel
theorem dX1_land_12 : decode cX1_land 12 = .ok (.arraylength, 1) := by decide +kernel
theorem dX1_land_13 : decode cX1_land 13 = .ok (.if_icmp .ge 57, 3) := by decide +kernel
theorem dX1_land_16 : decode cX1_land 16 = .ok (.aload_n 0, 1) := by decide +kernel
theorem dX1_land_17 : decode cX1_land 17 = .ok (.getfield 11, 3) := by decide +kernel
theorem dX1_land_20 : decode cX1_land 20 = .ok (.iload_n 2, 1) := by decide +kernel
theorem dX1_land_21 : decode cX1_land 21 = .ok (.aaload, 1) := by decide +kernel
theorem dX1_land_22 : decode cX1_land 22 = .ok (.astore_n 3, 1) := by decide +kernel
theorem dX1_land_23 : decode cX1_land 23 = .ok (.aload_n 0, 1) := by decide +kernel
theorem dX1_land_24 : decode cX1_land 24 = .ok (.getfield 11, 3) := by decide +kernel
theorem dX1_land_27 : decode cX1_land 27 = .ok (.iload_n 2, 1) := by decide +kernel
theorem dX1_land_28 : decode cX1_land 28 = .ok (.aconst_null, 1) := by decide +kernel
theorem dX1_land_29 : decode cX1_land 29 = .ok (.aastore, 1) := by decide +kernel
theorem dX1_land_30 : decode cX1_land 30 = .ok (.aload_n 3, 1) := by decide +kernel
theorem dX1_land_31 : decode cX1_land 31 = .ok (.ifnull 24, 3) := by decide +kernel
theorem dX1_land_34 : decode cX1_land 34 = .ok (.aload_n 3, 1) := by decide +kernel
theorem dX1_land_35 : decode cX1_land 35 = .ok (.getfield 48, 3) := by decide +kernel
theorem dX1_land_38 : decode cX1_land 38 = .ok (.iload_n 1, 1) := by decide +kernel
theorem dX1_land_39 : decode cX1_land 39 = .ok (.if_icmp .ne 16, 3) := by decide +kernel
theorem dX1_land_42 : decode cX1_land 42 = .ok (.aload_n 3, 1) := by decide +kernel
theorem dX1_land_43 : decode cX1_land 43 = .ok (.aconst_null, 1) := by decide +kernel
theorem dX1_land_44 : decode cX1_land 44 = .ok (.putfield 41, 3) := by decide +kernel
theorem dX1_land_47 : decode cX1_land 47 = .ok (.aload_n 3, 1) := by decide +kernel
theorem dX1_land_48 : decode cX1_land 48 = .ok (.iconst 1, 1) := by decide +kernel
theorem dX1_land_49 : decode cX1_land 49 = .ok (.putfield 51, 3) := by decide +kernel
theorem dX1_land_52 : decode cX1_land 52 = .ok (.goto 12, 3) := by decide +kernel
theorem dX1_land_55 : decode cX1_land 55 = .ok (.aload_n 3, 1) := by decide +kernel
theorem dX1_land_56 : decode cX1_land 56 = .ok (.ifnull 8, 3) := by decide +kernel
theorem dX1_land_59 : decode cX1_land 59 = .ok (.aload_n 0, 1) := by decide +kernel
theorem dX1_land_60 : decode cX1_land 60 = .ok (.aload_n 3, 1) := by decide +kernel
theorem dX1_land_61 : decode cX1_land 61 = .ok (.invokevirtual 54, 3) := by decide +kernel
theorem dX1_land_64 : decode cX1_land 64 = .ok (.iinc 2 1, 3) := by decide +kernel
theorem dX1_land_67 : decode cX1_land 67 = .ok (.goto (-60), 3) := by decide +kernel
theorem dX1_land_70 : decode cX1_land 70 = .ok (.return_, 1) := by decide +kernel
theorem dX1_weightSum_0 : decode cX1_weightSum 0 = .ok (.iconst 0, 1) := by decide +kernel
theorem dX1_weightSum_1 : decode cX1_weightSum 1 = .ok (.istore_n 1, 1) := by decide +kernel
theorem dX1_weightSum_2 : decode cX1_weightSum 2 = .ok (.aload_n 0, 1) := by decide +kernel
theorem dX1_weightSum_3 : decode cX1_weightSum 3 = .ok (.getfield 11, 3) := by decide +kernel
theorem dX1_weightSum_6 : decode cX1_weightSum 6 = .ok (.astore_n 2, 1) := by decide +kernel
theorem dX1_weightSum_7 : decode cX1_weightSum 7 = .ok (.aload_n 2, 1) := by decide +kernel
theorem dX1_weightSum_8 : decode cX1_weightSum 8 = .ok (.arraylength, 1) := by decide +kernel
theorem dX1_weightSum_9 : decode cX1_weightSum 9 = .ok (.istore_n 3, 1) := by decide +kernel
theorem dX1_weightSum_10 : decode cX1_weightSum 10 = .ok (.iconst 0, 1) := by decide +kernel
theorem dX1_weightSum_11 : decode cX1_weightSum 11 = .ok (.istore 4, 2) := by decide +kernel
theorem dX1_weightSum_13 : decode cX1_weightSum 13 = .ok (.iload 4, 2) := by decide +kernel
theorem dX1_weightSum_15 : decode cX1_weightSum 15 = .ok (.iload_n 3, 1) := by decide +kernel
theorem dX1_weightSum_16 : decode cX1_weightSum 16 = .ok (.if_icmp .ge 28, 3) := by decide +kernel
theorem dX1_weightSum_19 : decode cX1_weightSum 19 = .ok (.aload_n 2, 1) := by decide +kernel
theorem dX1_weightSum_20 : decode cX1_weightSum 20 = .ok (.iload 4, 2) := by decide +kernel
theorem dX1_weightSum_22 : decode cX1_weightSum 22 = .ok (.aaload, 1) := by decide +kernel
theorem dX1_weightSum_23 : decode cX1_weightSum 23 = .ok (.astore 5, 2) := by decide +kernel
theorem dX1_weightSum_25 : decode cX1_weightSum 25 = .ok (.aload 5, 2) := by decide +kernel
theorem dX1_weightSum_27 : decode cX1_weightSum 27 = .ok (.ifnull 11, 3) := by decide +kernel
theorem dX1_weightSum_30 : decode cX1_weightSum 30 = .ok (.iload_n 1, 1) := by decide +kernel
theorem dX1_weightSum_31 : decode cX1_weightSum 31 = .ok (.aload 5, 2) := by decide +kernel
theorem dX1_weightSum_33 : decode cX1_weightSum 33 = .ok (.getfield 58, 3) := by decide +kernel
theorem dX1_weightSum_36 : decode cX1_weightSum 36 = .ok (.iadd, 1) := by decide +kernel
theorem dX1_weightSum_37 : decode cX1_weightSum 37 = .ok (.istore_n 1, 1) := by decide +kernel
theorem dX1_weightSum_38 : decode cX1_weightSum 38 = .ok (.iinc 4 1, 3) := by decide +kernel
theorem dX1_weightSum_41 : decode cX1_weightSum 41 = .ok (.goto (-28), 3) := by decide +kernel
theorem dX1_weightSum_44 : decode cX1_weightSum 44 = .ok (.iload_n 1, 1) := by decide +kernel
theorem dX1_weightSum_45 : decode cX1_weightSum 45 = .ok (.ireturn, 1) := by decide +kernel
theorem dX1_countLandedBefore_0 : decode cX1_countLandedBefore 0 = .ok (.iconst 0, 1) := by decide +kernel
theorem dX1_countLandedBefore_1 : decode cX1_countLandedBefore 1 = .ok (.istore_n 2, 1) := by decide +kernel
theorem dX1_countLandedBefore_2 : decode cX1_countLandedBefore 2 = .ok (.aload_n 0, 1) := by decide +kernel
theorem dX1_countLandedBefore_3 : decode cX1_countLandedBefore 3 = .ok (.getfield 11, 3) := by decide +kernel
theorem dX1_countLandedBefore_6 : decode cX1_countLandedBefore 6 = .ok (.astore_n 3, 1) := by decide +kernel
theorem dX1_countLandedBefore_7 : decode cX1_countLandedBefore 7 = .ok (.aload_n 3, 1) := by decide +kernel
theorem dX1_countLandedBefore_8 : decode cX1_countLandedBefore 8 = .ok (.arraylength, 1) := by decide +kernel
theorem dX1_countLandedBefore_9 : decode cX1_countLandedBefore 9 = .ok (.istore 4, 2) := by decide +kernel
theorem dX1_countLandedBefore_11 : decode cX1_countLandedBefore 11 = .ok (.iconst 0, 1) := by decide +kernel
theorem dX1_countLandedBefore_12 : decode cX1_countLandedBefore 12 = .ok (.istore 5, 2) := by decide +kernel
theorem dX1_countLandedBefore_14 : decode cX1_countLandedBefore 14 = .ok (.iload 5, 2) := by decide +kernel
theorem dX1_countLandedBefore_16 : decode cX1_countLandedBefore 16 = .ok (.iload 4, 2) := by decide +kernel
theorem dX1_countLandedBefore_18 : decode cX1_countLandedBefore 18 = .ok (.if_icmp .ge 32, 3) := by decide +kernel
theorem dX1_countLandedBefore_21 : decode cX1_countLandedBefore 21 = .ok (.aload_n 3, 1) := by decide +kernel
theorem dX1_countLandedBefore_22 : decode cX1_countLandedBefore 22 = .ok (.iload 5, 2) := by decide +kernel
theorem dX1_countLandedBefore_24 : decode cX1_countLandedBefore 24 = .ok (.aaload, 1) := by decide +kernel
theorem dX1_countLandedBefore_25 : decode cX1_countLandedBefore 25 = .ok (.astore 6, 2) := by decide +kernel
theorem dX1_countLandedBefore_27 : decode cX1_countLandedBefore 27 = .ok (.aload 6, 2) := by decide +kernel
theorem dX1_countLandedBefore_29 : decode cX1_countLandedBefore 29 = .ok (.ifnull 15, 3) := by decide +kernel
theorem dX1_countLandedBefore_32 : decode cX1_countLandedBefore 32 = .ok (.aload 6, 2) := by decide +kernel
theorem dX1_countLandedBefore_34 : decode cX1_countLandedBefore 34 = .ok (.getfield 48, 3) := by decide +kernel
theorem dX1_countLandedBefore_37 : decode cX1_countLandedBefore 37 = .ok (.iload_n 1, 1) := by decide +kernel
theorem dX1_countLandedBefore_38 : decode cX1_countLandedBefore 38 = .ok (.if_icmp .ge 6, 3) := by decide +kernel
theorem dX1_countLandedBefore_41 : decode cX1_countLandedBefore 41 = .ok (.iinc 2 1, 3) := by decide +kernel
theorem dX1_countLandedBefore_44 : decode cX1_countLandedBefore 44 = .ok (.iinc 5 1, 3) := by decide +kernel
theorem dX1_countLandedBefore_47 : decode cX1_countLandedBefore 47 = .ok (.goto (-33), 3) := by decide +kernel
theorem dX1_countLandedBefore_50 : decode cX1_countLandedBefore 50 = .ok (.iload_n 2, 1) := by decide +kernel
theorem dX1_countLandedBefore_51 : decode cX1_countLandedBefore 51 = .ok (.ireturn, 1) := by decide +kernel
theorem dX1_liftsFor_0 : decode cX1_liftsFor 0 = .ok (.iconst 0, 1) := by decide +kernel
theorem dX1_liftsFor_1 : decode cX1_liftsFor 1 = .ok (.istore_n 2, 1) := by decide +kernel
theorem dX1_liftsFor_2 : decode cX1_liftsFor 2 = .ok (.iconst 0, 1) := by decide +kernel
theorem dX1_liftsFor_3 : decode cX1_liftsFor 3 = .ok (.istore_n 3, 1) := by decide +kernel
theorem dX1_liftsFor_4 : decode cX1_liftsFor 4 = .ok (.aload_n 0, 1) := by decide +kernel
theorem dX1_liftsFor_5 : decode cX1_liftsFor 5 = .ok (.getfield 11, 3) := by decide +kernel
theorem dX1_liftsFor_8 : decode cX1_liftsFor 8 = .ok (.astore 4, 2) := by decide +kernel
theorem dX1_liftsFor_10 : decode cX1_liftsFor 10 = .ok (.aload 4, 2) := by decide +kernel
theorem dX1_liftsFor_12 : decode cX1_liftsFor 12 = .ok (.arraylength, 1) := by decide +kernel
theorem dX1_liftsFor_13 : decode cX1_liftsFor 13 = .ok (.istore 5, 2) := by decide +kernel
theorem dX1_liftsFor_15 : decode cX1_liftsFor 15 = .ok (.iconst 0, 1) := by decide +kernel
theorem dX1_liftsFor_16 : decode cX1_liftsFor 16 = .ok (.istore 6, 2) := by decide +kernel
theorem dX1_liftsFor_18 : decode cX1_liftsFor 18 = .ok (.iload 6, 2) := by decide +kernel
theorem dX1_liftsFor_20 : decode cX1_liftsFor 20 = .ok (.iload 5, 2) := by decide +kernel
theorem dX1_liftsFor_22 : decode cX1_liftsFor 22 = .ok (.if_icmp .ge 47, 3) := by decide +kernel
theorem dX1_liftsFor_25 : decode cX1_liftsFor 25 = .ok (.aload 4, 2) := by decide +kernel
theorem dX1_liftsFor_27 : decode cX1_liftsFor 27 = .ok (.iload 6, 2) := by decide +kernel
theorem dX1_liftsFor_29 : decode cX1_liftsFor 29 = .ok (.aaload, 1) := by decide +kernel
theorem dX1_liftsFor_30 : decode cX1_liftsFor 30 = .ok (.astore 7, 2) := by decide +kernel
theorem dX1_liftsFor_32 : decode cX1_liftsFor 32 = .ok (.aload 7, 2) := by decide +kernel
theorem dX1_liftsFor_34 : decode cX1_liftsFor 34 = .ok (.ifnull 17, 3) := by decide +kernel
theorem dX1_liftsFor_37 : decode cX1_liftsFor 37 = .ok (.aload 7, 2) := by decide +kernel
theorem dX1_liftsFor_39 : decode cX1_liftsFor 39 = .ok (.getfield 48, 3) := by decide +kernel
theorem dX1_liftsFor_42 : decode cX1_liftsFor 42 = .ok (.iload_n 1, 1) := by decide +kernel
theorem dX1_liftsFor_43 : decode cX1_liftsFor 43 = .ok (.if_icmp .ne 8, 3) := by decide +kernel
theorem dX1_liftsFor_46 : decode cX1_liftsFor 46 = .ok (.iconst 1, 1) := by decide +kernel
theorem dX1_liftsFor_47 : decode cX1_liftsFor 47 = .ok (.istore_n 3, 1) := by decide +kernel
theorem dX1_liftsFor_48 : decode cX1_liftsFor 48 = .ok (.goto 15, 3) := by decide +kernel
theorem dX1_liftsFor_51 : decode cX1_liftsFor 51 = .ok (.aload 7, 2) := by decide +kernel
theorem dX1_liftsFor_53 : decode cX1_liftsFor 53 = .ok (.ifnull 10, 3) := by decide +kernel
theorem dX1_liftsFor_56 : decode cX1_liftsFor 56 = .ok (.iload_n 3, 1) := by decide +kernel
theorem dX1_liftsFor_57 : decode cX1_liftsFor 57 = .ok (.ifCond .eq 6, 3) := by decide +kernel
theorem dX1_liftsFor_60 : decode cX1_liftsFor 60 = .ok (.iinc 2 1, 3) := by decide +kernel
theorem dX1_liftsFor_63 : decode cX1_liftsFor 63 = .ok (.iinc 6 1, 3) := by decide +kernel
theorem dX1_liftsFor_66 : decode cX1_liftsFor 66 = .ok (.goto (-48), 3) := by decide +kernel
theorem dX1_liftsFor_69 : decode cX1_liftsFor 69 = .ok (.iload_n 2, 1) := by decide +kernel
theorem dX1_liftsFor_70 : decode cX1_liftsFor 70 = .ok (.ireturn, 1) := by decide +kernel
set_option maxRecDepth 20000 in
theorem ggX2_init_X1_init : GoodIn wsX2_init wsX1_init := goodIn_r _ [18, 19, 2, 3, 20, 21, 22, 23, 24, 25, 34, 35, 36, 37, 38] (by decide +kernel) (by decide +kernel)
set_option maxRecDepth 20000 in
theorem gX2_init_X1_init : GoodIn wsX2_init (wsX1_init) := ggX2_init_X1_init
theorem dX2_init_0 : decode cX2_init 0 = .ok (.aload_n 0, 1) := by decide +kernel
theorem dX2_init_1 : decode cX2_init 1 = .ok (.invokespecial 1, 3) := by decide +kernel
theorem dX2_init_4 : decode cX2_init 4 = .ok (.aload_n 0, 1) := by decide +kernel
theorem dX2_init_5 : decode cX2_init 5 = .ok (.bipush 40, 2) := by decide +kernel
theorem dX2_init_7 : decode cX2_init 7 = .ok (.anewarray 9, 3) := by decide +kernel
theorem dX2_init_10 : decode cX2_init 10 = .ok (.putfield 11, 3) := by decide +kernel
theorem dX2_init_13 : decode cX2_init 13 = .ok (.aload_n 0, 1) := by decide +kernel
theorem dX2_init_14 : decode cX2_init 14 = .ok (.bipush 30, 2) := by decide +kernel
theorem dX2_init_16 : decode cX2_init 16 = .ok (.anewarray 15, 3) := by decide +kernel
theorem dX2_init_19 : decode cX2_init 19 = .ok (.putfield 17, 3) := by decide +kernel
theorem dX2_init_22 : decode cX2_init 22 = .ok (.aload_n 0, 1) := by decide +kernel
theorem dX2_init_23 : decode cX2_init 23 = .ok (.iconst 0, 1) := by decide +kernel
theorem dX2_init_24 : decode cX2_init 24 = .ok (.putfield 21, 3) := by decide +kernel
theorem dX2_init_27 : decode cX2_init 27 = .ok (.aload_n 0, 1) := by decide +kernel
theorem dX2_init_28 : decode cX2_init 28 = .ok (.iconst 0, 1) := by decide +kernel
theorem dX2_init_29 : decode cX2_init 29 = .ok (.putfield 25, 3) := by decide +kernel
theorem dX2_init_32 : decode cX2_init 32 = .ok (.aload_n 0, 1) := by decide +kernel
theorem dX2_init_33 : decode cX2_init 33 = .ok (.bipush 60, 2) := by decide +kernel
theorem dX2_init_35 : decode cX2_init 35 = .ok (.putfield 28, 3) := by decide +kernel
theorem dX2_init_38 : decode cX2_init 38 = .ok (.aload_n 0, 1) := by decide +kernel
theorem dX2_init_39 : decode cX2_init 39 = .ok (.bipush 60, 2) := by decide +kernel
theorem dX2_init_41 : decode cX2_init 41 = .ok (.putfield 31, 3) := by decide +kernel
theorem dX2_init_44 : decode cX2_init 44 = .ok (.aload_n 0, 1) := by decide +kernel
theorem dX2_init_45 : decode cX2_init 45 = .ok (.sipush 200, 3) := by decide +kernel
theorem dX2_init_48 : decode cX2_init 48 = .ok (.putfield 34, 3) := by decide +kernel
theorem dX2_init_51 : decode cX2_init 51 = .ok (.aload_n 0, 1) := by decide +kernel
theorem dX2_init_52 : decode cX2_init 52 = .ok (.iconst 0, 1) := by decide +kernel
theorem dX2_init_53 : decode cX2_init 53 = .ok (.putfield 37, 3) := by decide +kernel
theorem dX2_init_56 : decode cX2_init 56 = .ok (.iconst 0, 1) := by decide +kernel
theorem dX2_init_57 : decode cX2_init 57 = .ok (.istore_n 1, 1) := by decide +kernel
theorem dX2_init_58 : decode cX2_init 58 = .ok (.iload_n 1, 1) := by decide +kernel
theorem dX2_init_59 : decode cX2_init 59 = .ok (.aload_n 0, 1) := by decide +kernel
theorem dX2_init_60 : decode cX2_init 60 = .ok (.getfield 17, 3) := by decide +kernel
theorem dX2_init_63 : decode cX2_init 63 = .ok (.arraylength, 1) := by decide +kernel
theorem dX2_init_64 : decode cX2_init 64 = .ok (.if_icmp .ge 45, 3) := by decide +kernel
theorem dX2_init_67 : decode cX2_init 67 = .ok (.iload_n 1, 1) := by decide +kernel
theorem dX2_init_68 : decode cX2_init 68 = .ok (.iconst 5, 1) := by decide +kernel
theorem dX2_init_69 : decode cX2_init 69 = .ok (.idiv, 1) := by decide +kernel
theorem dX2_init_70 : decode cX2_init 70 = .ok (.istore_n 2, 1) := by decide +kernel
theorem dX2_init_71 : decode cX2_init 71 = .ok (.aload_n 0, 1) := by decide +kernel
theorem dX2_init_72 : decode cX2_init 72 = .ok (.getfield 17, 3) := by decide +kernel
theorem dX2_init_75 : decode cX2_init 75 = .ok (.iload_n 1, 1) := by decide +kernel
theorem dX2_init_76 : decode cX2_init 76 = .ok (.new 15, 3) := by decide +kernel
theorem dX2_init_79 : decode cX2_init 79 = .ok (.dup, 1) := by decide +kernel
theorem dX2_init_80 : decode cX2_init 80 = .ok (.iload_n 2, 1) := by decide +kernel
theorem dX2_init_81 : decode cX2_init 81 = .ok (.iload_n 1, 1) := by decide +kernel
theorem dX2_init_82 : decode cX2_init 82 = .ok (.iconst 5, 1) := by decide +kernel
theorem dX2_init_83 : decode cX2_init 83 = .ok (.irem, 1) := by decide +kernel
theorem dX2_init_84 : decode cX2_init 84 = .ok (.iload_n 2, 1) := by decide +kernel
theorem dX2_init_85 : decode cX2_init 85 = .ok (.iconst 2, 1) := by decide +kernel
theorem dX2_init_86 : decode cX2_init 86 = .ok (.if_icmp .eq 8, 3) := by decide +kernel
theorem dX2_init_89 : decode cX2_init 89 = .ok (.iload_n 2, 1) := by decide +kernel
theorem dX2_init_90 : decode cX2_init 90 = .ok (.iconst 3, 1) := by decide +kernel
theorem dX2_init_91 : decode cX2_init 91 = .ok (.if_icmp .ne 7, 3) := by decide +kernel
theorem dX2_init_94 : decode cX2_init 94 = .ok (.iconst 1, 1) := by decide +kernel
theorem dX2_init_95 : decode cX2_init 95 = .ok (.goto 4, 3) := by decide +kernel
theorem dX2_init_98 : decode cX2_init 98 = .ok (.iconst 0, 1) := by decide +kernel
theorem dX2_init_99 : decode cX2_init 99 = .ok (.invokespecial 40, 3) := by decide +kernel
theorem dX2_init_102 : decode cX2_init 102 = .ok (.aastore, 1) := by decide +kernel
theorem dX2_init_103 : decode cX2_init 103 = .ok (.iinc 1 1, 3) := by decide +kernel
theorem dX2_init_106 : decode cX2_init 106 = .ok (.goto (-48), 3) := by decide +kernel
theorem dX2_init_109 : decode cX2_init 109 = .ok (.return_, 1) := by decide +kernel
set_option maxRecDepth 20000 in
theorem ggX2_addContainer_X2_isWithin : GoodIn wsX2_addContainer wsX2_isWithin := goodIn_r _ [14] (by decide +kernel) (by decide +kernel)
set_option maxRecDepth 20000 in
theorem gX2_addContainer_X2_isWithin : GoodIn wsX2_addContainer (va_wsS RX2 43 yX2_isWithin wsX2_isWithin) := goodIn_app (goodIn_of _ (by decide +kernel)) ggX2_addContainer_X2_isWithin
set_option maxRecDepth 20000 in
theorem ggX2_addContainer_X0_init : GoodIn wsX2_addContainer wsX0_init := goodIn_r _ [17, 18, 19, 20, 21, 22, 23, 24, 25, 26, 27, 28, 37, 38, 39, 40, 41, 42, 43, 44] (by decide +kernel) (by decide +kernel)
set_option maxRecDepth 20000 in
theorem gX2_addContainer_X0_init : GoodIn wsX2_addContainer (wsX0_init) := ggX2_addContainer_X0_init
theorem dX2_addContainer_0 : decode cX2_addContainer 0 = .ok (.iload_n 1, 1) := by decide +kernel
theorem dX2_addContainer_1 : decode cX2_addContainer 1 = .ok (.iconst 1, 1) := by decide +kernel
theorem dX2_addContainer_2 : decode cX2_addContainer 2 = .ok (.bipush 30, 2) := by decide +kernel
theorem dX2_addContainer_4 : decode cX2_addContainer 4 = .ok (.invokestatic 43, 3) := by decide +kernel
theorem dX2_addContainer_7 : decode cX2_addContainer 7 = .ok (.ifCond .eq 32, 3) := by decide +kernel
theorem dX2_addContainer_10 : decode cX2_addContainer 10 = .ok (.iload_n 2, 1) := by decide +kernel
theorem dX2_addContainer_11 : decode cX2_addContainer 11 = .ok (.iconst 0, 1) := by decide +kernel
theorem dX2_addContainer_12 : decode cX2_addContainer 12 = .ok (.iconst 4, 1) := by decide +kernel
theorem dX2_addContainer_13 : decode cX2_addContainer 13 = .ok (.invokestatic 43, 3) := by decide +kernel
theorem dX2_addContainer_16 : decode cX2_addContainer 16 = .ok (.ifCond .eq 23, 3) := by decide +kernel
theorem dX2_addContainer_19 : decode cX2_addContainer 19 = .ok (.iload_n 3, 1) := by decide +kernel
theorem dX2_addContainer_20 : decode cX2_addContainer 20 = .ok (.iload_n 2, 1) := by decide +kernel
theorem dX2_addContainer_21 : decode cX2_addContainer 21 = .ok (.if_icmp .le 18, 3) := by decide +kernel
theorem dX2_addContainer_24 : decode cX2_addContainer 24 = .ok (.iload_n 3, 1) := by decide +kernel
theorem dX2_addContainer_25 : decode cX2_addContainer 25 = .ok (.iconst 5, 1) := by decide +kernel
theorem dX2_addContainer_26 : decode cX2_addContainer 26 = .ok (.if_icmp .gt 13, 3) := by decide +kernel
theorem dX2_addContainer_29 : decode cX2_addContainer 29 = .ok (.iload 4, 2) := by decide +kernel
theorem dX2_addContainer_31 : decode cX2_addContainer 31 = .ok (.iconst 0, 1) := by decide +kernel
theorem dX2_addContainer_32 : decode cX2_addContainer 32 = .ok (.iconst 4, 1) := by decide +kernel
theorem dX2_addContainer_33 : decode cX2_addContainer 33 = .ok (.invokestatic 43, 3) := by decide +kernel
theorem dX2_addContainer_36 : decode cX2_addContainer 36 = .ok (.ifCond .ne 13, 3) := by decide +kernel
theorem dX2_addContainer_39 : decode cX2_addContainer 39 = .ok (.new 47, 3) := by decide +kernel
theorem dX2_addContainer_42 : decode cX2_addContainer 42 = .ok (.dup, 1) := by decide +kernel
theorem dX2_addContainer_43 : decode cX2_addContainer 43 = .ok (.ldc 49, 2) := by decide +kernel
theorem dX2_addContainer_45 : decode cX2_addContainer 45 = .ok (.invokespecial 51, 3) := by decide +kernel
theorem dX2_addContainer_48 : decode cX2_addContainer 48 = .ok (.athrow, 1) := by decide +kernel
theorem dX2_addContainer_49 : decode cX2_addContainer 49 = .ok (.iload_n 2, 1) := by decide +kernel
theorem dX2_addContainer_50 : decode cX2_addContainer 50 = .ok (.aload_n 0, 1) := by decide +kernel
theorem dX2_addContainer_51 : decode cX2_addContainer 51 = .ok (.getfield 25, 3) := by decide +kernel
theorem dX2_addContainer_54 : decode cX2_addContainer 54 = .ok (.if_icmp .ge 13, 3) := by decide +kernel
theorem dX2_addContainer_57 : decode cX2_addContainer 57 = .ok (.new 54, 3) := by decide +kernel
theorem dX2_addContainer_60 : decode cX2_addContainer 60 = .ok (.dup, 1) := by decide +kernel
theorem dX2_addContainer_61 : decode cX2_addContainer 61 = .ok (.ldc 56, 2) := by decide +kernel
theorem dX2_addContainer_63 : decode cX2_addContainer 63 = .ok (.invokespecial 58, 3) := by decide +kernel
theorem dX2_addContainer_66 : decode cX2_addContainer 66 = .ok (.athrow, 1) := by decide +kernel
theorem dX2_addContainer_67 : decode cX2_addContainer 67 = .ok (.aload_n 0, 1) := by decide +kernel
theorem dX2_addContainer_68 : decode cX2_addContainer 68 = .ok (.getfield 21, 3) := by decide +kernel
theorem dX2_addContainer_71 : decode cX2_addContainer 71 = .ok (.ifCond .lt 15, 3) := by decide +kernel
theorem dX2_addContainer_74 : decode cX2_addContainer 74 = .ok (.aload_n 0, 1) := by decide +kernel
theorem dX2_addContainer_75 : decode cX2_addContainer 75 = .ok (.getfield 21, 3) := by decide +kernel
theorem dX2_addContainer_78 : decode cX2_addContainer 78 = .ok (.aload_n 0, 1) := by decide +kernel
theorem dX2_addContainer_79 : decode cX2_addContainer 79 = .ok (.getfield 11, 3) := by decide +kernel
theorem dX2_addContainer_82 : decode cX2_addContainer 82 = .ok (.arraylength, 1) := by decide +kernel
theorem dX2_addContainer_83 : decode cX2_addContainer 83 = .ok (.if_icmp .lt 13, 3) := by decide +kernel
theorem dX2_addContainer_86 : decode cX2_addContainer 86 = .ok (.new 54, 3) := by decide +kernel
theorem dX2_addContainer_89 : decode cX2_addContainer 89 = .ok (.dup, 1) := by decide +kernel
theorem dX2_addContainer_90 : decode cX2_addContainer 90 = .ok (.ldc 59, 2) := by decide +kernel
theorem dX2_addContainer_92 : decode cX2_addContainer 92 = .ok (.invokespecial 58, 3) := by decide +kernel
theorem dX2_addContainer_95 : decode cX2_addContainer 95 = .ok (.athrow, 1) := by decide +kernel
theorem dX2_addContainer_96 : decode cX2_addContainer 96 = .ok (.aload_n 0, 1) := by decide +kernel
theorem dX2_addContainer_97 : decode cX2_addContainer 97 = .ok (.getfield 21, 3) := by decide +kernel
theorem dX2_addContainer_100 : decode cX2_addContainer 100 = .ok (.istore 5, 2) := by decide +kernel
theorem dX2_addContainer_102 : decode cX2_addContainer 102 = .ok (.aload_n 0, 1) := by decide +kernel
theorem dX2_addContainer_103 : decode cX2_addContainer 103 = .ok (.getfield 11, 3) := by decide +kernel
theorem dX2_addContainer_106 : decode cX2_addContainer 106 = .ok (.iload 5, 2) := by decide +kernel
theorem dX2_addContainer_108 : decode cX2_addContainer 108 = .ok (.new 9, 3) := by decide +kernel
theorem dX2_addContainer_111 : decode cX2_addContainer 111 = .ok (.dup, 1) := by decide +kernel
theorem dX2_addContainer_112 : decode cX2_addContainer 112 = .ok (.iload 5, 2) := by decide +kernel
theorem dX2_addContainer_114 : decode cX2_addContainer 114 = .ok (.iload_n 1, 1) := by decide +kernel
theorem dX2_addContainer_115 : decode cX2_addContainer 115 = .ok (.iload_n 2, 1) := by decide +kernel
theorem dX2_addContainer_116 : decode cX2_addContainer 116 = .ok (.iload_n 3, 1) := by decide +kernel
theorem dX2_addContainer_117 : decode cX2_addContainer 117 = .ok (.iload 4, 2) := by decide +kernel
theorem dX2_addContainer_119 : decode cX2_addContainer 119 = .ok (.invokespecial 61, 3) := by decide +kernel
theorem dX2_addContainer_122 : decode cX2_addContainer 122 = .ok (.aastore, 1) := by decide +kernel
theorem dX2_addContainer_123 : decode cX2_addContainer 123 = .ok (.aload_n 0, 1) := by decide +kernel
theorem dX2_addContainer_124 : decode cX2_addContainer 124 = .ok (.iload 5, 2) := by decide +kernel
theorem dX2_addContainer_126 : decode cX2_addContainer 126 = .ok (.iconst 1, 1) := by decide +kernel
theorem dX2_addContainer_127 : decode cX2_addContainer 127 = .ok (.iadd, 1) := by decide +kernel
theorem dX2_addContainer_128 : decode cX2_addContainer 128 = .ok (.putfield 21, 3) := by decide +kernel
theorem dX2_addContainer_131 : decode cX2_addContainer 131 = .ok (.iload 5, 2) := by decide +kernel
theorem dX2_addContainer_133 : decode cX2_addContainer 133 = .ok (.ireturn, 1) := by decide +kernel
set_option maxRecDepth 20000 in
theorem ggX2_container_X2_boxNumbered : GoodIn wsX2_container wsX2_boxNumbered := goodIn_r _ [7, 8, 27, 28, 29, 30, 31, 32, 33, 34] (by decide +kernel) (by decide +kernel)
set_option maxRecDepth 20000 in
theorem gX2_container_X2_boxNumbered : GoodIn wsX2_container (wsV RX2 64 RX2 yX2_boxNumbered wsX2_boxNumbered) := goodIn_app (goodIn_of _ (by decide +kernel)) ggX2_container_X2_boxNumbered
set_option maxRecDepth 20000 in
theorem ggX2_container_X2_isWithin : GoodIn wsX2_container wsX2_isWithin := goodIn_r _ [11] (by decide +kernel) (by decide +kernel)
set_option maxRecDepth 20000 in
theorem gX2_container_X2_isWithin : GoodIn wsX2_container (va_wsS RX2 43 yX2_isWithin wsX2_isWithin) := goodIn_app (goodIn_of _ (by decide +kernel)) ggX2_container_X2_isWithin
set_option maxRecDepth 20000 in
theorem ggX2_container_X0_tell : GoodIn wsX2_container wsX0_tell := goodIn_r _ [16, 17, 18, 19, 20, 21, 22, 23, 15, 24, 25, 26, 35, 36, 37, 38, 39, 40, 41, 42] (by decide +kernel) (by decide +kernel)
set_option maxRecDepth 20000 in
theorem gX2_container_X0_tell : GoodIn wsX2_container (wsV RX2 73 RX0 yX0_tell wsX0_tell) := goodIn_app (goodIn_of _ (by decide +kernel)) ggX2_container_X0_tell
theorem dX2_container_0 : decode cX2_container 0 = .ok (.aload_n 0, 1) := by decide +kernel
theorem dX2_container_1 : decode cX2_container 1 = .ok (.iload_n 1, 1) := by decide +kernel
theorem dX2_container_2 : decode cX2_container 2 = .ok (.invokevirtual 64, 3) := by decide +kernel
theorem dX2_container_5 : decode cX2_container 5 = .ok (.astore_n 3, 1) := by decide +kernel
theorem dX2_container_6 : decode cX2_container 6 = .ok (.aload_n 3, 1) := by decide +kernel
theorem dX2_container_7 : decode cX2_container 7 = .ok (.ifnull 12, 3) := by decide +kernel
theorem dX2_container_10 : decode cX2_container 10 = .ok (.iload_n 2, 1) := by decide +kernel
theorem dX2_container_11 : decode cX2_container 11 = .ok (.iconst 0, 1) := by decide +kernel
theorem dX2_container_12 : decode cX2_container 12 = .ok (.iconst 4, 1) := by decide +kernel
theorem dX2_container_13 : decode cX2_container 13 = .ok (.invokestatic 43, 3) := by decide +kernel
theorem dX2_container_16 : decode cX2_container 16 = .ok (.ifCond .ne 13, 3) := by decide +kernel
theorem dX2_container_19 : decode cX2_container 19 = .ok (.new 68, 3) := by decide +kernel
theorem dX2_container_22 : decode cX2_container 22 = .ok (.dup, 1) := by decide +kernel
theorem dX2_container_23 : decode cX2_container 23 = .ok (.ldc 70, 2) := by decide +kernel
theorem dX2_container_25 : decode cX2_container 25 = .ok (.invokespecial 72, 3) := by decide +kernel
theorem dX2_container_28 : decode cX2_container 28 = .ok (.athrow, 1) := by decide +kernel
theorem dX2_container_29 : decode cX2_container 29 = .ok (.aload_n 3, 1) := by decide +kernel
theorem dX2_container_30 : decode cX2_container 30 = .ok (.iload_n 2, 1) := by decide +kernel
theorem dX2_container_31 : decode cX2_container 31 = .ok (.invokevirtual 73, 3) := by decide +kernel
theorem dX2_container_34 : decode cX2_container 34 = .ok (.ireturn, 1) := by decide +kernel
set_option maxRecDepth 20000 in
theorem ggX2_setLimits_X2_isWithin : GoodIn wsX2_setLimits wsX2_isWithin := goodIn_r _ [9] (by decide +kernel) (by decide +kernel)
set_option maxRecDepth 20000 in
theorem gX2_setLimits_X2_isWithin : GoodIn wsX2_setLimits (va_wsS RX2 43 yX2_isWithin wsX2_isWithin) := goodIn_app (goodIn_of _ (by decide +kernel)) ggX2_setLimits_X2_isWithin
theorem dX2_setLimits_0 : decode cX2_setLimits 0 = .ok (.iload_n 1, 1) := by decide +kernel
theorem dX2_setLimits_1 : decode cX2_setLimits 1 = .ok (.iconst 1, 1) := by decide +kernel
theorem dX2_setLimits_2 : decode cX2_setLimits 2 = .ok (.bipush 120, 2) := by decide +kernel
theorem dX2_setLimits_4 : decode cX2_setLimits 4 = .ok (.invokestatic 43, 3) := by decide +kernel
theorem dX2_setLimits_7 : decode cX2_setLimits 7 = .ok (.ifCond .eq 25, 3) := by decide +kernel
theorem dX2_setLimits_10 : decode cX2_setLimits 10 = .ok (.iload_n 2, 1) := by decide +kernel
theorem dX2_setLimits_11 : decode cX2_setLimits 11 = .ok (.iconst 0, 1) := by decide +kernel
theorem dX2_setLimits_12 : decode cX2_setLimits 12 = .ok (.sipush 1000, 3) := by decide +kernel
theorem dX2_setLimits_15 : decode cX2_setLimits 15 = .ok (.invokestatic 43, 3) := by decide +kernel
theorem dX2_setLimits_18 : decode cX2_setLimits 18 = .ok (.ifCond .eq 14, 3) := by decide +kernel
theorem dX2_setLimits_21 : decode cX2_setLimits 21 = .ok (.iload_n 3, 1) := by decide +kernel
theorem dX2_setLimits_22 : decode cX2_setLimits 22 = .ok (.iconst 0, 1) := by decide +kernel
theorem dX2_setLimits_23 : decode cX2_setLimits 23 = .ok (.sipush 1000, 3) := by decide +kernel
theorem dX2_setLimits_26 : decode cX2_setLimits 26 = .ok (.invokestatic 43, 3) := by decide +kernel
theorem dX2_setLimits_29 : decode cX2_setLimits 29 = .ok (.ifCond .ne 13, 3) := by decide +kernel
theorem dX2_setLimits_32 : decode cX2_setLimits 32 = .ok (.new 47, 3) := by decide +kernel
theorem dX2_setLimits_35 : decode cX2_setLimits 35 = .ok (.dup, 1) := by decide +kernel
theorem dX2_setLimits_36 : decode cX2_setLimits 36 = .ok (.ldc 77, 2) := by decide +kernel
theorem dX2_setLimits_38 : decode cX2_setLimits 38 = .ok (.invokespecial 51, 3) := by decide +kernel
theorem dX2_setLimits_41 : decode cX2_setLimits 41 = .ok (.athrow, 1) := by decide +kernel
theorem dX2_setLimits_42 : decode cX2_setLimits 42 = .ok (.aload_n 0, 1) := by decide +kernel
theorem dX2_setLimits_43 : decode cX2_setLimits 43 = .ok (.getfield 28, 3) := by decide +kernel
theorem dX2_setLimits_46 : decode cX2_setLimits 46 = .ok (.istore 4, 2) := by decide +kernel
theorem dX2_setLimits_48 : decode cX2_setLimits 48 = .ok (.aload_n 0, 1) := by decide +kernel
theorem dX2_setLimits_49 : decode cX2_setLimits 49 = .ok (.iload_n 1, 1) := by decide +kernel
theorem dX2_setLimits_50 : decode cX2_setLimits 50 = .ok (.putfield 28, 3) := by decide +kernel
theorem dX2_setLimits_53 : decode cX2_setLimits 53 = .ok (.aload_n 0, 1) := by decide +kernel
theorem dX2_setLimits_54 : decode cX2_setLimits 54 = .ok (.iload_n 2, 1) := by decide +kernel
theorem dX2_setLimits_55 : decode cX2_setLimits 55 = .ok (.putfield 31, 3) := by decide +kernel
theorem dX2_setLimits_58 : decode cX2_setLimits 58 = .ok (.aload_n 0, 1) := by decide +kernel
theorem dX2_setLimits_59 : decode cX2_setLimits 59 = .ok (.iload_n 3, 1) := by decide +kernel
theorem dX2_setLimits_60 : decode cX2_setLimits 60 = .ok (.putfield 34, 3) := by decide +kernel
theorem dX2_setLimits_63 : decode cX2_setLimits 63 = .ok (.iload 4, 2) := by decide +kernel
theorem dX2_setLimits_65 : decode cX2_setLimits 65 = .ok (.ireturn, 1) := by decide +kernel
set_option maxRecDepth 20000 in
theorem ggX2_load_X2_boxNumbered : GoodIn wsX2_load wsX2_boxNumbered := goodIn_r _ [10, 11, 88, 89, 90, 91, 92, 93, 94, 95] (by decide +kernel) (by decide +kernel)
set_option maxRecDepth 20000 in
theorem gX2_load_X2_boxNumbered : GoodIn wsX2_load (wsV RX2 64 RX2 yX2_boxNumbered wsX2_boxNumbered) := goodIn_app (goodIn_of _ (by decide +kernel)) ggX2_load_X2_boxNumbered
set_option maxRecDepth 20000 in
theorem ggX2_load_X2_stackAt : GoodIn wsX2_load wsX2_stackAt := goodIn_r _ [15, 16, 17, 18, 9, 19, 88, 89, 90, 91, 92, 93, 94, 95] (by decide +kernel) (by decide +kernel)
set_option maxRecDepth 20000 in
theorem gX2_load_X2_stackAt : GoodIn wsX2_load (wsV RX2 79 RX2 yX2_stackAt wsX2_stackAt) := goodIn_app (goodIn_of _ (by decide +kernel)) ggX2_load_X2_stackAt
set_option maxRecDepth 20000 in
theorem ggX2_load_X2_isLoadable : GoodIn wsX2_load wsX2_isLoadable := goodIn_r _ [23, 24, 25, 26, 27, 28, 29, 30, 31, 32, 33, 34, 35, 36, 37, 38, 39, 40, 41, 42, 43, 44, 45, 46, 47, 48, 49, 50, 51, 52, 53, 54, 55, 56, 9, 57, 11, 58, 59, 60, 61, 62, 63, 64, 65, 66, 67, 68, 69, 70, 71, 72, 73, 88, 89, 90, 91, 92, 93, 94, 95, 96, 97, 98, 99, 100, 80, 81, 82, 83, 84, 85, 86, 87] (by decide +kernel) (by decide +kernel)
set_option maxRecDepth 20000 in
theorem gX2_load_X2_isLoadable : GoodIn wsX2_load (wsV RX2 97 RX2 yX2_isLoadable wsX2_isLoadable) := goodIn_app (goodIn_of _ (by decide +kernel)) ggX2_load_X2_isLoadable
set_option maxRecDepth 20000 in
theorem ggX2_load_X1_push : GoodIn wsX2_load wsX1_push := goodIn_r _ [77, 53, 46, 78, 79, 96, 97, 98, 99, 100, 80, 81, 82, 83, 84, 85, 86, 87] (by decide +kernel) (by decide +kernel)
set_option maxRecDepth 20000 in
theorem gX2_load_X1_push : GoodIn wsX2_load (wsV RX2 103 RX1 yX1_push wsX1_push) := goodIn_app (goodIn_of _ (by decide +kernel)) ggX2_load_X1_push
theorem dX2_load_0 : decode cX2_load 0 = .ok (.aload_n 0, 1) := by decide +kernel
theorem dX2_load_1 : decode cX2_load 1 = .ok (.iload_n 1, 1) := by decide +kernel
theorem dX2_load_2 : decode cX2_load 2 = .ok (.invokevirtual 64, 3) := by decide +kernel
theorem dX2_load_5 : decode cX2_load 5 = .ok (.astore 4, 2) := by decide +kernel
theorem dX2_load_7 : decode cX2_load 7 = .ok (.aload_n 0, 1) := by decide +kernel
theorem dX2_load_8 : decode cX2_load 8 = .ok (.iload_n 2, 1) := by decide +kernel
theorem dX2_load_9 : decode cX2_load 9 = .ok (.iload_n 3, 1) := by decide +kernel
theorem dX2_load_10 : decode cX2_load 10 = .ok (.invokevirtual 79, 3) := by decide +kernel
theorem dX2_load_13 : decode cX2_load 13 = .ok (.astore 5, 2) := by decide +kernel
theorem dX2_load_15 : decode cX2_load 15 = .ok (.aload 4, 2) := by decide +kernel
theorem dX2_load_17 : decode cX2_load 17 = .ok (.ifnull 8, 3) := by decide +kernel
theorem dX2_load_20 : decode cX2_load 20 = .ok (.aload 5, 2) := by decide +kernel
theorem dX2_load_22 : decode cX2_load 22 = .ok (.ifnonnull 13, 3) := by decide +kernel
theorem dX2_load_25 : decode cX2_load 25 = .ok (.new 68, 3) := by decide +kernel
theorem dX2_load_28 : decode cX2_load 28 = .ok (.dup, 1) := by decide +kernel
theorem dX2_load_29 : decode cX2_load 29 = .ok (.ldc 95, 2) := by decide +kernel
theorem dX2_load_31 : decode cX2_load 31 = .ok (.invokespecial 72, 3) := by decide +kernel
theorem dX2_load_34 : decode cX2_load 34 = .ok (.athrow, 1) := by decide +kernel
theorem dX2_load_35 : decode cX2_load 35 = .ok (.aload_n 0, 1) := by decide +kernel
theorem dX2_load_36 : decode cX2_load 36 = .ok (.aload 4, 2) := by decide +kernel
theorem dX2_load_38 : decode cX2_load 38 = .ok (.aload 5, 2) := by decide +kernel
theorem dX2_load_40 : decode cX2_load 40 = .ok (.invokevirtual 97, 3) := by decide +kernel
theorem dX2_load_43 : decode cX2_load 43 = .ok (.ifCond .ne 13, 3) := by decide +kernel
theorem dX2_load_46 : decode cX2_load 46 = .ok (.new 54, 3) := by decide +kernel
theorem dX2_load_49 : decode cX2_load 49 = .ok (.dup, 1) := by decide +kernel
theorem dX2_load_50 : decode cX2_load 50 = .ok (.ldc 101, 2) := by decide +kernel
theorem dX2_load_52 : decode cX2_load 52 = .ok (.invokespecial 58, 3) := by decide +kernel
theorem dX2_load_55 : decode cX2_load 55 = .ok (.athrow, 1) := by decide +kernel
theorem dX2_load_56 : decode cX2_load 56 = .ok (.aload 5, 2) := by decide +kernel
theorem dX2_load_58 : decode cX2_load 58 = .ok (.aload 4, 2) := by decide +kernel
theorem dX2_load_60 : decode cX2_load 60 = .ok (.invokevirtual 103, 3) := by decide +kernel
theorem dX2_load_63 : decode cX2_load 63 = .ok (.aload 4, 2) := by decide +kernel
theorem dX2_load_65 : decode cX2_load 65 = .ok (.getfield 107, 3) := by decide +kernel
theorem dX2_load_68 : decode cX2_load 68 = .ok (.ireturn, 1) := by decide +kernel
set_option maxRecDepth 20000 in
theorem ggX2_plan_X2_nextToLoad : GoodIn wsX2_plan wsX2_nextToLoad := goodIn_r _ [5, 6, 7, 8, 9, 10, 11, 12, 13, 14, 15, 16, 4, 17, 18, 19, 20, 21, 22, 23, 24, 25, 26, 27, 28, 29, 30, 31, 32, 33, 34, 35, 36, 37, 38, 39, 40, 41, 42, 43, 44, 45, 46, 47, 48, 49, 50, 51, 52, 53, 54, 55, 56, 57, 58, 59, 60, 61, 62, 63, 64, 65, 66, 67, 68, 69, 70, 71, 101, 102, 103, 104, 105, 106, 107, 108, 109, 110, 111, 112, 113, 114, 115, 116, 117, 118, 119, 120, 121] (by decide +kernel) (by decide +kernel)
set_option maxRecDepth 20000 in
theorem gX2_plan_X2_nextToLoad : GoodIn wsX2_plan (wsV RX2 126 RX2 yX2_nextToLoad wsX2_nextToLoad) := goodIn_app (goodIn_of _ (by decide +kernel)) ggX2_plan_X2_nextToLoad
set_option maxRecDepth 20000 in
theorem ggX2_plan_X2_bestStackFor : GoodIn wsX2_plan wsX2_bestStackFor := goodIn_r _ [75, 18, 76, 25, 77, 68, 69, 70, 78, 79, 80, 4, 81, 39, 40, 41, 42, 43, 44, 45, 82, 83, 84, 85, 66, 86, 87, 88, 89, 71, 19, 20, 21, 22, 23, 24, 26, 27, 28, 29, 30, 10, 31, 32, 33, 34, 35, 36, 37, 38, 46, 47, 48, 49, 50, 51, 52, 53, 54, 55, 6, 56, 57, 58, 59, 60, 61, 62, 63, 64, 65, 67, 90, 91, 92, 93, 94, 101, 102, 103, 104, 105, 106, 107, 108, 109, 110, 111, 112, 113, 114, 115, 116, 117, 118, 119, 120, 121] (by decide +kernel) (by decide +kernel)
set_option maxRecDepth 20000 in
theorem gX2_plan_X2_bestStackFor : GoodIn wsX2_plan (wsV RX2 129 RX2 yX2_bestStackFor wsX2_bestStackFor) := goodIn_app (goodIn_of _ (by decide +kernel)) ggX2_plan_X2_bestStackFor
set_option maxRecDepth 20000 in
theorem ggX2_plan_X1_push : GoodIn wsX2_plan wsX1_push := goodIn_r _ [98, 51, 44, 99, 100, 117, 118, 119, 120, 121, 109, 110, 111, 112, 113, 114, 115, 116] (by decide +kernel) (by decide +kernel)
set_option maxRecDepth 20000 in
theorem gX2_plan_X1_push : GoodIn wsX2_plan (wsV RX2 103 RX1 yX1_push wsX1_push) := goodIn_app (goodIn_of _ (by decide +kernel)) ggX2_plan_X1_push
theorem dX2_plan_0 : decode cX2_plan 0 = .ok (.iconst 0, 1) := by decide +kernel
theorem dX2_plan_1 : decode cX2_plan 1 = .ok (.istore_n 1, 1) := by decide +kernel
theorem dX2_plan_2 : decode cX2_plan 2 = .ok (.iconst 0, 1) := by decide +kernel
theorem dX2_plan_3 : decode cX2_plan 3 = .ok (.istore_n 2, 1) := by decide +kernel
theorem dX2_plan_4 : decode cX2_plan 4 = .ok (.iload_n 2, 1) := by decide +kernel
theorem dX2_plan_5 : decode cX2_plan 5 = .ok (.bipush 40, 2) := by decide +kernel
theorem dX2_plan_7 : decode cX2_plan 7 = .ok (.if_icmp .ge 37, 3) := by decide +kernel
theorem dX2_plan_10 : decode cX2_plan 10 = .ok (.aload_n 0, 1) := by decide +kernel
theorem dX2_plan_11 : decode cX2_plan 11 = .ok (.invokevirtual 126, 3) := by decide +kernel
theorem dX2_plan_14 : decode cX2_plan 14 = .ok (.astore_n 3, 1) := by decide +kernel
theorem dX2_plan_15 : decode cX2_plan 15 = .ok (.aload_n 0, 1) := by decide +kernel
theorem dX2_plan_16 : decode cX2_plan 16 = .ok (.aload_n 3, 1) := by decide +kernel
theorem dX2_plan_17 : decode cX2_plan 17 = .ok (.invokevirtual 129, 3) := by decide +kernel
theorem dX2_plan_20 : decode cX2_plan 20 = .ok (.astore 4, 2) := by decide +kernel
theorem dX2_plan_22 : decode cX2_plan 22 = .ok (.aload 4, 2) := by decide +kernel
theorem dX2_plan_24 : decode cX2_plan 24 = .ok (.ifnonnull 5, 3) := by decide +kernel
theorem dX2_plan_27 : decode cX2_plan 27 = .ok (.iload_n 1, 1) := by decide +kernel
theorem dX2_plan_28 : decode cX2_plan 28 = .ok (.ireturn, 1) := by decide +kernel
theorem dX2_plan_29 : decode cX2_plan 29 = .ok (.aload 4, 2) := by decide +kernel
theorem dX2_plan_31 : decode cX2_plan 31 = .ok (.aload_n 3, 1) := by decide +kernel
theorem dX2_plan_32 : decode cX2_plan 32 = .ok (.invokevirtual 103, 3) := by decide +kernel
theorem dX2_plan_35 : decode cX2_plan 35 = .ok (.iinc 1 1, 3) := by decide +kernel
theorem dX2_plan_38 : decode cX2_plan 38 = .ok (.iinc 2 1, 3) := by decide +kernel
theorem dX2_plan_41 : decode cX2_plan 41 = .ok (.goto (-37), 3) := by decide +kernel
theorem dX2_plan_44 : decode cX2_plan 44 = .ok (.iload_n 1, 1) := by decide +kernel
theorem dX2_plan_45 : decode cX2_plan 45 = .ok (.ireturn, 1) := by decide +kernel
set_option maxRecDepth 20000 in
theorem ggX2_sail_X2_isSteady : GoodIn wsX2_sail wsX2_isSteady := goodIn_r _ [10, 11, 12, 13, 14, 15, 16, 17, 18, 19, 20, 9, 21, 4, 22, 23, 24, 25, 26, 27, 28, 29, 30, 31, 32, 33, 34, 35, 36, 37, 38, 39, 40, 41, 42, 43, 44, 45, 46, 64, 65, 66, 67, 68, 69, 70, 71, 72, 73, 74, 75, 76, 77, 78, 79, 80, 81, 82, 83, 84] (by decide +kernel) (by decide +kernel)
set_option maxRecDepth 20000 in
theorem gX2_sail_X2_isSteady : GoodIn wsX2_sail (wsV RX2 133 RX2 yX2_isSteady wsX2_isSteady) := goodIn_app (goodIn_of _ (by decide +kernel)) ggX2_sail_X2_isSteady
set_option maxRecDepth 20000 in
theorem ggX2_sail_X1_liftsFor : GoodIn wsX2_sail wsX1_liftsFor := goodIn_r _ [50, 27, 51, 72, 73, 74, 75, 76, 77, 78, 79, 80, 81, 82, 83, 84] (by decide +kernel) (by decide +kernel)
set_option maxRecDepth 20000 in
theorem gX2_sail_X1_liftsFor : GoodIn wsX2_sail (wsV RX2 138 RX1 yX1_liftsFor wsX1_liftsFor) := goodIn_app (goodIn_of _ (by decide +kernel)) ggX2_sail_X1_liftsFor
set_option maxRecDepth 20000 in
theorem ggX2_sail_X1_land : GoodIn wsX2_sail wsX1_land := goodIn_r _ [55, 56, 27, 51, 57, 58, 59, 60, 61, 25, 62, 63, 72, 73, 74, 75, 76, 77, 78, 79, 80, 81, 82, 83, 84] (by decide +kernel) (by decide +kernel)
set_option maxRecDepth 20000 in
theorem gX2_sail_X1_land : GoodIn wsX2_sail (wsV RX2 141 RX1 yX1_land wsX1_land) := goodIn_app (goodIn_of _ (by decide +kernel)) ggX2_sail_X1_land
theorem dX2_sail_0 : decode cX2_sail 0 = .ok (.aload_n 0, 1) := by decide +kernel
theorem dX2_sail_1 : decode cX2_sail 1 = .ok (.getfield 25, 3) := by decide +kernel
theorem dX2_sail_4 : decode cX2_sail 4 = .ok (.iconst 5, 1) := by decide +kernel
theorem dX2_sail_5 : decode cX2_sail 5 = .ok (.if_icmp .ge 10, 3) := by decide +kernel
theorem dX2_sail_8 : decode cX2_sail 8 = .ok (.aload_n 0, 1) := by decide +kernel
theorem dX2_sail_9 : decode cX2_sail 9 = .ok (.invokevirtual 133, 3) := by decide +kernel
theorem dX2_sail_12 : decode cX2_sail 12 = .ok (.ifCond .ne 13, 3) := by decide +kernel
theorem dX2_sail_15 : decode cX2_sail 15 = .ok (.new 54, 3) := by decide +kernel
theorem dX2_sail_18 : decode cX2_sail 18 = .ok (.dup, 1) := by decide +kernel
theorem dX2_sail_19 : decode cX2_sail 19 = .ok (.ldc 136, 2) := by decide +kernel
theorem dX2_sail_21 : decode cX2_sail 21 = .ok (.invokespecial 58, 3) := by decide +kernel
theorem dX2_sail_24 : decode cX2_sail 24 = .ok (.athrow, 1) := by decide +kernel
theorem dX2_sail_25 : decode cX2_sail 25 = .ok (.aload_n 0, 1) := by decide +kernel
theorem dX2_sail_26 : decode cX2_sail 26 = .ok (.dup, 1) := by decide +kernel
theorem dX2_sail_27 : decode cX2_sail 27 = .ok (.getfield 25, 3) := by decide +kernel
theorem dX2_sail_30 : decode cX2_sail 30 = .ok (.iconst 1, 1) := by decide +kernel
theorem dX2_sail_31 : decode cX2_sail 31 = .ok (.iadd, 1) := by decide +kernel
theorem dX2_sail_32 : decode cX2_sail 32 = .ok (.putfield 25, 3) := by decide +kernel
theorem dX2_sail_35 : decode cX2_sail 35 = .ok (.iconst 0, 1) := by decide +kernel
theorem dX2_sail_36 : decode cX2_sail 36 = .ok (.istore_n 1, 1) := by decide +kernel
theorem dX2_sail_37 : decode cX2_sail 37 = .ok (.aload_n 0, 1) := by decide +kernel
theorem dX2_sail_38 : decode cX2_sail 38 = .ok (.getfield 17, 3) := by decide +kernel
theorem dX2_sail_41 : decode cX2_sail 41 = .ok (.astore_n 2, 1) := by decide +kernel
theorem dX2_sail_42 : decode cX2_sail 42 = .ok (.aload_n 2, 1) := by decide +kernel
theorem dX2_sail_43 : decode cX2_sail 43 = .ok (.arraylength, 1) := by decide +kernel
theorem dX2_sail_44 : decode cX2_sail 44 = .ok (.istore_n 3, 1) := by decide +kernel
theorem dX2_sail_45 : decode cX2_sail 45 = .ok (.iconst 0, 1) := by decide +kernel
theorem dX2_sail_46 : decode cX2_sail 46 = .ok (.istore 4, 2) := by decide +kernel
theorem dX2_sail_48 : decode cX2_sail 48 = .ok (.iload 4, 2) := by decide +kernel
theorem dX2_sail_50 : decode cX2_sail 50 = .ok (.iload_n 3, 1) := by decide +kernel
theorem dX2_sail_51 : decode cX2_sail 51 = .ok (.if_icmp .ge 41, 3) := by decide +kernel
theorem dX2_sail_54 : decode cX2_sail 54 = .ok (.aload_n 2, 1) := by decide +kernel
theorem dX2_sail_55 : decode cX2_sail 55 = .ok (.iload 4, 2) := by decide +kernel
theorem dX2_sail_57 : decode cX2_sail 57 = .ok (.aaload, 1) := by decide +kernel
theorem dX2_sail_58 : decode cX2_sail 58 = .ok (.astore 5, 2) := by decide +kernel
theorem dX2_sail_60 : decode cX2_sail 60 = .ok (.aload 5, 2) := by decide +kernel
theorem dX2_sail_62 : decode cX2_sail 62 = .ok (.ifnull 24, 3) := by decide +kernel
theorem dX2_sail_65 : decode cX2_sail 65 = .ok (.iload_n 1, 1) := by decide +kernel
theorem dX2_sail_66 : decode cX2_sail 66 = .ok (.aload 5, 2) := by decide +kernel
theorem dX2_sail_68 : decode cX2_sail 68 = .ok (.aload_n 0, 1) := by decide +kernel
theorem dX2_sail_69 : decode cX2_sail 69 = .ok (.getfield 25, 3) := by decide +kernel
theorem dX2_sail_72 : decode cX2_sail 72 = .ok (.invokevirtual 138, 3) := by decide +kernel
theorem dX2_sail_75 : decode cX2_sail 75 = .ok (.iadd, 1) := by decide +kernel
theorem dX2_sail_76 : decode cX2_sail 76 = .ok (.istore_n 1, 1) := by decide +kernel
theorem dX2_sail_77 : decode cX2_sail 77 = .ok (.aload 5, 2) := by decide +kernel
theorem dX2_sail_79 : decode cX2_sail 79 = .ok (.aload_n 0, 1) := by decide +kernel
theorem dX2_sail_80 : decode cX2_sail 80 = .ok (.getfield 25, 3) := by decide +kernel
theorem dX2_sail_83 : decode cX2_sail 83 = .ok (.invokevirtual 141, 3) := by decide +kernel
theorem dX2_sail_86 : decode cX2_sail 86 = .ok (.iinc 4 1, 3) := by decide +kernel
theorem dX2_sail_89 : decode cX2_sail 89 = .ok (.goto (-41), 3) := by decide +kernel
theorem dX2_sail_92 : decode cX2_sail 92 = .ok (.aload_n 0, 1) := by decide +kernel
theorem dX2_sail_93 : decode cX2_sail 93 = .ok (.dup, 1) := by decide +kernel
theorem dX2_sail_94 : decode cX2_sail 94 = .ok (.getfield 37, 3) := by decide +kernel
theorem dX2_sail_97 : decode cX2_sail 97 = .ok (.iload_n 1, 1) := by decide +kernel
theorem dX2_sail_98 : decode cX2_sail 98 = .ok (.iadd, 1) := by decide +kernel
theorem dX2_sail_99 : decode cX2_sail 99 = .ok (.putfield 37, 3) := by decide +kernel
theorem dX2_sail_102 : decode cX2_sail 102 = .ok (.iload_n 1, 1) := by decide +kernel
theorem dX2_sail_103 : decode cX2_sail 103 = .ok (.ireturn, 1) := by decide +kernel
theorem dX2_port_0 : decode cX2_port 0 = .ok (.aload_n 0, 1) := by decide +kernel
theorem dX2_port_1 : decode cX2_port 1 = .ok (.getfield 25, 3) := by decide +kernel
theorem dX2_port_4 : decode cX2_port 4 = .ok (.ireturn, 1) := by decide +kernel
set_option maxRecDepth 20000 in
theorem ggX2_at_X2_stackAt : GoodIn wsX2_at wsX2_stackAt := goodIn_r _ [7, 8, 9, 10, 6, 11, 22, 23, 24, 25, 26, 27, 28, 29] (by decide +kernel) (by decide +kernel)
set_option maxRecDepth 20000 in
theorem gX2_at_X2_stackAt : GoodIn wsX2_at (wsV RX2 79 RX2 yX2_stackAt wsX2_stackAt) := goodIn_app (goodIn_of _ (by decide +kernel)) ggX2_at_X2_stackAt
set_option maxRecDepth 20000 in
theorem ggX2_at_X2_isWithin : GoodIn wsX2_at wsX2_isWithin := goodIn_r _ [11] (by decide +kernel) (by decide +kernel)
set_option maxRecDepth 20000 in
theorem gX2_at_X2_isWithin : GoodIn wsX2_at (va_wsS RX2 43 yX2_isWithin wsX2_isWithin) := goodIn_app (goodIn_of _ (by decide +kernel)) ggX2_at_X2_isWithin
set_option maxRecDepth 20000 in
theorem ggX2_at_X1_onTier : GoodIn wsX2_at wsX1_onTier := goodIn_r _ [16, 17, 30, 31, 32, 33, 34] (by decide +kernel) (by decide +kernel)
set_option maxRecDepth 20000 in
theorem gX2_at_X1_onTier : GoodIn wsX2_at (wsV RX2 147 RX1 yX1_onTier wsX1_onTier) := goodIn_app (goodIn_of _ (by decide +kernel)) ggX2_at_X1_onTier
set_option maxRecDepth 20000 in
theorem ggX2_at_X2_numberOf : GoodIn wsX2_at wsX2_numberOf := goodIn_r _ [20, 21, 35, 36, 37, 38, 39, 40, 41, 42] (by decide +kernel) (by decide +kernel)
set_option maxRecDepth 20000 in
theorem gX2_at_X2_numberOf : GoodIn wsX2_at (va_wsS RX2 122 yX2_numberOf wsX2_numberOf) := goodIn_app (goodIn_of _ (by decide +kernel)) ggX2_at_X2_numberOf
theorem dX2_at_0 : decode cX2_at 0 = .ok (.aload_n 0, 1) := by decide +kernel
theorem dX2_at_1 : decode cX2_at 1 = .ok (.iload_n 1, 1) := by decide +kernel
theorem dX2_at_2 : decode cX2_at 2 = .ok (.iload_n 2, 1) := by decide +kernel
theorem dX2_at_3 : decode cX2_at 3 = .ok (.invokevirtual 79, 3) := by decide +kernel
theorem dX2_at_6 : decode cX2_at 6 = .ok (.astore 4, 2) := by decide +kernel
theorem dX2_at_8 : decode cX2_at 8 = .ok (.aload 4, 2) := by decide +kernel
theorem dX2_at_10 : decode cX2_at 10 = .ok (.ifnull 12, 3) := by decide +kernel
theorem dX2_at_13 : decode cX2_at 13 = .ok (.iload_n 3, 1) := by decide +kernel
theorem dX2_at_14 : decode cX2_at 14 = .ok (.iconst 0, 1) := by decide +kernel
theorem dX2_at_15 : decode cX2_at 15 = .ok (.iconst 3, 1) := by decide +kernel
theorem dX2_at_16 : decode cX2_at 16 = .ok (.invokestatic 43, 3) := by decide +kernel
theorem dX2_at_19 : decode cX2_at 19 = .ok (.ifCond .ne 13, 3) := by decide +kernel
theorem dX2_at_22 : decode cX2_at 22 = .ok (.new 68, 3) := by decide +kernel
theorem dX2_at_25 : decode cX2_at 25 = .ok (.dup, 1) := by decide +kernel
theorem dX2_at_26 : decode cX2_at 26 = .ok (.ldc 145, 2) := by decide +kernel
theorem dX2_at_28 : decode cX2_at 28 = .ok (.invokespecial 72, 3) := by decide +kernel
theorem dX2_at_31 : decode cX2_at 31 = .ok (.athrow, 1) := by decide +kernel
theorem dX2_at_32 : decode cX2_at 32 = .ok (.aload 4, 2) := by decide +kernel
theorem dX2_at_34 : decode cX2_at 34 = .ok (.iload_n 3, 1) := by decide +kernel
theorem dX2_at_35 : decode cX2_at 35 = .ok (.invokevirtual 147, 3) := by decide +kernel
theorem dX2_at_38 : decode cX2_at 38 = .ok (.invokestatic 122, 3) := by decide +kernel
theorem dX2_at_41 : decode cX2_at 41 = .ok (.ireturn, 1) := by decide +kernel
set_option maxRecDepth 20000 in
theorem ggX2_where_X2_boxNumbered : GoodIn wsX2_where wsX2_boxNumbered := goodIn_r _ [7, 8, 18, 19, 20, 21, 22, 23, 24, 25] (by decide +kernel) (by decide +kernel)
set_option maxRecDepth 20000 in
theorem gX2_where_X2_boxNumbered : GoodIn wsX2_where (wsV RX2 64 RX2 yX2_boxNumbered wsX2_boxNumbered) := goodIn_app (goodIn_of _ (by decide +kernel)) ggX2_where_X2_boxNumbered
set_option maxRecDepth 20000 in
theorem ggX2_where_X0_place : GoodIn wsX2_where wsX0_place := goodIn_r _ [13, 14, 15, 16, 17, 26, 27, 28, 29, 30, 31, 32, 33, 34, 35, 36, 37, 38] (by decide +kernel) (by decide +kernel)
set_option maxRecDepth 20000 in
theorem gX2_where_X0_place : GoodIn wsX2_where (wsV RX2 152 RX0 yX0_place wsX0_place) := goodIn_app (goodIn_of _ (by decide +kernel)) ggX2_where_X0_place
theorem dX2_where_0 : decode cX2_where 0 = .ok (.aload_n 0, 1) := by decide +kernel
theorem dX2_where_1 : decode cX2_where 1 = .ok (.iload_n 1, 1) := by decide +kernel
theorem dX2_where_2 : decode cX2_where 2 = .ok (.invokevirtual 64, 3) := by decide +kernel
theorem dX2_where_5 : decode cX2_where 5 = .ok (.astore_n 2, 1) := by decide +kernel
theorem dX2_where_6 : decode cX2_where 6 = .ok (.aload_n 2, 1) := by decide +kernel
theorem dX2_where_7 : decode cX2_where 7 = .ok (.ifnonnull 13, 3) := by decide +kernel
theorem dX2_where_10 : decode cX2_where 10 = .ok (.new 68, 3) := by decide +kernel
theorem dX2_where_13 : decode cX2_where 13 = .ok (.dup, 1) := by decide +kernel
theorem dX2_where_14 : decode cX2_where 14 = .ok (.ldc 150, 2) := by decide +kernel
theorem dX2_where_16 : decode cX2_where 16 = .ok (.invokespecial 72, 3) := by decide +kernel
theorem dX2_where_19 : decode cX2_where 19 = .ok (.athrow, 1) := by decide +kernel
theorem dX2_where_20 : decode cX2_where 20 = .ok (.aload_n 2, 1) := by decide +kernel
theorem dX2_where_21 : decode cX2_where 21 = .ok (.invokevirtual 152, 3) := by decide +kernel
theorem dX2_where_24 : decode cX2_where 24 = .ok (.ireturn, 1) := by decide +kernel
set_option maxRecDepth 20000 in
theorem ggX2_moment_X1_weightSum : GoodIn wsX2_moment wsX1_weightSum := goodIn_r _ [6, 7, 8, 27, 28, 29, 30, 31, 32, 33, 34, 35, 36, 37, 38, 39] (by decide +kernel) (by decide +kernel)
set_option maxRecDepth 20000 in
theorem gX2_moment_X1_weightSum : GoodIn wsX2_moment (wsV RX2 156 RX1 yX1_weightSum wsX1_weightSum) := goodIn_app (goodIn_of _ (by decide +kernel)) ggX2_moment_X1_weightSum
set_option maxRecDepth 20000 in
theorem ggX2_moment_X1_trimArm : GoodIn wsX2_moment wsX1_trimArm := goodIn_r _ [12, 13, 27, 28, 29, 30, 31] (by decide +kernel) (by decide +kernel)
set_option maxRecDepth 20000 in
theorem gX2_moment_X1_trimArm : GoodIn wsX2_moment (wsV RX2 159 RX1 yX1_trimArm wsX1_trimArm) := goodIn_app (goodIn_of _ (by decide +kernel)) ggX2_moment_X1_trimArm
set_option maxRecDepth 20000 in
theorem ggX2_moment_X1_listArm : GoodIn wsX2_moment wsX1_listArm := goodIn_r _ [17, 18, 27, 28, 29, 30, 31] (by decide +kernel) (by decide +kernel)
set_option maxRecDepth 20000 in
theorem gX2_moment_X1_listArm : GoodIn wsX2_moment (wsV RX2 162 RX1 yX1_listArm wsX1_listArm) := goodIn_app (goodIn_of _ (by decide +kernel)) ggX2_moment_X1_listArm
theorem dX2_moment_0 : decode cX2_moment 0 = .ok (.iconst 0, 1) := by decide +kernel
theorem dX2_moment_1 : decode cX2_moment 1 = .ok (.istore_n 2, 1) := by decide +kernel
theorem dX2_moment_2 : decode cX2_moment 2 = .ok (.aload_n 0, 1) := by decide +kernel
theorem dX2_moment_3 : decode cX2_moment 3 = .ok (.getfield 17, 3) := by decide +kernel
theorem dX2_moment_6 : decode cX2_moment 6 = .ok (.astore_n 3, 1) := by decide +kernel
theorem dX2_moment_7 : decode cX2_moment 7 = .ok (.aload_n 3, 1) := by decide +kernel
theorem dX2_moment_8 : decode cX2_moment 8 = .ok (.arraylength, 1) := by decide +kernel
theorem dX2_moment_9 : decode cX2_moment 9 = .ok (.istore 4, 2) := by decide +kernel
theorem dX2_moment_11 : decode cX2_moment 11 = .ok (.iconst 0, 1) := by decide +kernel
theorem dX2_moment_12 : decode cX2_moment 12 = .ok (.istore 5, 2) := by decide +kernel
theorem dX2_moment_14 : decode cX2_moment 14 = .ok (.iload 5, 2) := by decide +kernel
theorem dX2_moment_16 : decode cX2_moment 16 = .ok (.iload 4, 2) := by decide +kernel
theorem dX2_moment_18 : decode cX2_moment 18 = .ok (.if_icmp .ge 46, 3) := by decide +kernel
theorem dX2_moment_21 : decode cX2_moment 21 = .ok (.aload_n 3, 1) := by decide +kernel
theorem dX2_moment_22 : decode cX2_moment 22 = .ok (.iload 5, 2) := by decide +kernel
theorem dX2_moment_24 : decode cX2_moment 24 = .ok (.aaload, 1) := by decide +kernel
theorem dX2_moment_25 : decode cX2_moment 25 = .ok (.astore 6, 2) := by decide +kernel
theorem dX2_moment_27 : decode cX2_moment 27 = .ok (.aload 6, 2) := by decide +kernel
theorem dX2_moment_29 : decode cX2_moment 29 = .ok (.ifnull 29, 3) := by decide +kernel
theorem dX2_moment_32 : decode cX2_moment 32 = .ok (.iload_n 2, 1) := by decide +kernel
theorem dX2_moment_33 : decode cX2_moment 33 = .ok (.aload 6, 2) := by decide +kernel
theorem dX2_moment_35 : decode cX2_moment 35 = .ok (.invokevirtual 156, 3) := by decide +kernel
theorem dX2_moment_38 : decode cX2_moment 38 = .ok (.iload_n 1, 1) := by decide +kernel
theorem dX2_moment_39 : decode cX2_moment 39 = .ok (.ifCond .eq 11, 3) := by decide +kernel
theorem dX2_moment_42 : decode cX2_moment 42 = .ok (.aload 6, 2) := by decide +kernel
theorem dX2_moment_44 : decode cX2_moment 44 = .ok (.invokevirtual 159, 3) := by decide +kernel
theorem dX2_moment_47 : decode cX2_moment 47 = .ok (.goto 8, 3) := by decide +kernel
theorem dX2_moment_50 : decode cX2_moment 50 = .ok (.aload 6, 2) := by decide +kernel
theorem dX2_moment_52 : decode cX2_moment 52 = .ok (.invokevirtual 162, 3) := by decide +kernel
theorem dX2_moment_55 : decode cX2_moment 55 = .ok (.imul, 1) := by decide +kernel
theorem dX2_moment_56 : decode cX2_moment 56 = .ok (.iadd, 1) := by decide +kernel
theorem dX2_moment_57 : decode cX2_moment 57 = .ok (.istore_n 2, 1) := by decide +kernel
theorem dX2_moment_58 : decode cX2_moment 58 = .ok (.iinc 5 1, 3) := by decide +kernel
theorem dX2_moment_61 : decode cX2_moment 61 = .ok (.goto (-47), 3) := by decide +kernel
theorem dX2_moment_64 : decode cX2_moment 64 = .ok (.iload_n 2, 1) := by decide +kernel
theorem dX2_moment_65 : decode cX2_moment 65 = .ok (.ireturn, 1) := by decide +kernel
theorem dX2_height_0 : decode cX2_height 0 = .ok (.iconst 0, 1) := by decide +kernel
theorem dX2_height_1 : decode cX2_height 1 = .ok (.istore_n 1, 1) := by decide +kernel
theorem dX2_height_2 : decode cX2_height 2 = .ok (.iconst 0, 1) := by decide +kernel
theorem dX2_height_3 : decode cX2_height 3 = .ok (.istore_n 2, 1) := by decide +kernel
theorem dX2_height_4 : decode cX2_height 4 = .ok (.aload_n 0, 1) := by decide +kernel
theorem dX2_height_5 : decode cX2_height 5 = .ok (.getfield 11, 3) := by decide +kernel
theorem dX2_height_8 : decode cX2_height 8 = .ok (.astore_n 3, 1) := by decide +kernel
theorem dX2_height_9 : decode cX2_height 9 = .ok (.aload_n 3, 1) := by decide +kernel
theorem dX2_height_10 : decode cX2_height 10 = .ok (.arraylength, 1) := by decide +kernel
theorem dX2_height_11 : decode cX2_height 11 = .ok (.istore 4, 2) := by decide +kernel
theorem dX2_height_13 : decode cX2_height 13 = .ok (.iconst 0, 1) := by decide +kernel
theorem dX2_height_14 : decode cX2_height 14 = .ok (.istore 5, 2) := by decide +kernel
theorem dX2_height_16 : decode cX2_height 16 = .ok (.iload 5, 2) := by decide +kernel
theorem dX2_height_18 : decode cX2_height 18 = .ok (.iload 4, 2) := by decide +kernel
theorem dX2_height_20 : decode cX2_height 20 = .ok (.if_icmp .ge 54, 3) := by decide +kernel
theorem dX2_height_23 : decode cX2_height 23 = .ok (.aload_n 3, 1) := by decide +kernel
theorem dX2_height_24 : decode cX2_height 24 = .ok (.iload 5, 2) := by decide +kernel
theorem dX2_height_26 : decode cX2_height 26 = .ok (.aaload, 1) := by decide +kernel
theorem dX2_height_27 : decode cX2_height 27 = .ok (.astore 6, 2) := by decide +kernel
theorem dX2_height_29 : decode cX2_height 29 = .ok (.aload 6, 2) := by decide +kernel
theorem dX2_height_31 : decode cX2_height 31 = .ok (.ifnull 37, 3) := by decide +kernel
theorem dX2_height_34 : decode cX2_height 34 = .ok (.aload 6, 2) := by decide +kernel
theorem dX2_height_36 : decode cX2_height 36 = .ok (.getfield 165, 3) := by decide +kernel
theorem dX2_height_39 : decode cX2_height 39 = .ok (.ifnull 29, 3) := by decide +kernel
theorem dX2_height_42 : decode cX2_height 42 = .ok (.iload_n 1, 1) := by decide +kernel
theorem dX2_height_43 : decode cX2_height 43 = .ok (.aload 6, 2) := by decide +kernel
theorem dX2_height_45 : decode cX2_height 45 = .ok (.getfield 169, 3) := by decide +kernel
theorem dX2_height_48 : decode cX2_height 48 = .ok (.iadd, 1) := by decide +kernel
theorem dX2_height_49 : decode cX2_height 49 = .ok (.istore_n 1, 1) := by decide +kernel
theorem dX2_height_50 : decode cX2_height 50 = .ok (.iload_n 2, 1) := by decide +kernel
theorem dX2_height_51 : decode cX2_height 51 = .ok (.aload 6, 2) := by decide +kernel
theorem dX2_height_53 : decode cX2_height 53 = .ok (.getfield 169, 3) := by decide +kernel
theorem dX2_height_56 : decode cX2_height 56 = .ok (.iconst 2, 1) := by decide +kernel
theorem dX2_height_57 : decode cX2_height 57 = .ok (.aload 6, 2) := by decide +kernel
theorem dX2_height_59 : decode cX2_height 59 = .ok (.getfield 107, 3) := by decide +kernel
theorem dX2_height_62 : decode cX2_height 62 = .ok (.imul, 1) := by decide +kernel
theorem dX2_height_63 : decode cX2_height 63 = .ok (.iconst 1, 1) := by decide +kernel
theorem dX2_height_64 : decode cX2_height 64 = .ok (.iadd, 1) := by decide +kernel
theorem dX2_height_65 : decode cX2_height 65 = .ok (.imul, 1) := by decide +kernel
theorem dX2_height_66 : decode cX2_height 66 = .ok (.iadd, 1) := by decide +kernel
theorem dX2_height_67 : decode cX2_height 67 = .ok (.istore_n 2, 1) := by decide +kernel
theorem dX2_height_68 : decode cX2_height 68 = .ok (.iinc 5 1, 3) := by decide +kernel
theorem dX2_height_71 : decode cX2_height 71 = .ok (.goto (-55), 3) := by decide +kernel
theorem dX2_height_74 : decode cX2_height 74 = .ok (.iload_n 1, 1) := by decide +kernel
theorem dX2_height_75 : decode cX2_height 75 = .ok (.ifCond .ne 5, 3) := by decide +kernel
theorem dX2_height_78 : decode cX2_height 78 = .ok (.dconst 0, 1) := by decide +kernel
theorem dX2_height_79 : decode cX2_height 79 = .ok (.dreturn, 1) := by decide +kernel
theorem dX2_height_80 : decode cX2_height 80 = .ok (.iload_n 2, 1) := by decide +kernel
theorem dX2_height_81 : decode cX2_height 81 = .ok (.i2d, 1) := by decide +kernel
theorem dX2_height_82 : decode cX2_height 82 = .ok (.iload_n 1, 1) := by decide +kernel
theorem dX2_height_83 : decode cX2_height 83 = .ok (.i2d, 1) := by decide +kernel
theorem dX2_height_84 : decode cX2_height 84 = .ok (.ddiv, 1) := by decide +kernel
theorem dX2_height_85 : decode cX2_height 85 = .ok (.dreturn, 1) := by decide +kernel
set_option maxRecDepth 20000 in
theorem ggX2_isSteady_X2_moment : GoodIn wsX2_isSteady wsX2_moment := goodIn_r _ [12, 13, 14, 15, 16, 17, 18, 19, 20, 21, 22, 23, 24, 25, 26, 27, 28, 29, 30, 39, 40, 41, 42, 43, 44, 45, 46, 47, 48, 49, 50, 51, 52, 53, 54, 55, 56, 57, 58, 59] (by decide +kernel) (by decide +kernel)
set_option maxRecDepth 20000 in
theorem gX2_isSteady_X2_moment : GoodIn wsX2_isSteady (wsV RX2 172 RX2 yX2_moment wsX2_moment) := goodIn_app (goodIn_of _ (by decide +kernel)) ggX2_isSteady_X2_moment
set_option maxRecDepth 20000 in
theorem ggX2_isSteady_X2_height : GoodIn wsX2_isSteady wsX2_height := goodIn_r _ [34, 35, 36, 37, 38, 39, 40, 41, 42, 43, 44, 45, 46, 52, 53, 54, 55, 56, 57, 58, 59] (by decide +kernel) (by decide +kernel)
set_option maxRecDepth 20000 in
theorem gX2_isSteady_X2_height : GoodIn wsX2_isSteady (wsV RX2 181 RX2 yX2_height wsX2_height) := goodIn_app (goodIn_of _ (by decide +kernel)) ggX2_isSteady_X2_height
theorem dX2_isSteady_0 : decode cX2_isSteady 0 = .ok (.aload_n 0, 1) := by decide +kernel
theorem dX2_isSteady_1 : decode cX2_isSteady 1 = .ok (.iconst 0, 1) := by decide +kernel
theorem dX2_isSteady_2 : decode cX2_isSteady 2 = .ok (.invokevirtual 172, 3) := by decide +kernel
theorem dX2_isSteady_5 : decode cX2_isSteady 5 = .ok (.invokestatic 176, 3) := by decide +kernel
theorem dX2_isSteady_8 : decode cX2_isSteady 8 = .ok (.aload_n 0, 1) := by decide +kernel
theorem dX2_isSteady_9 : decode cX2_isSteady 9 = .ok (.getfield 31, 3) := by decide +kernel
theorem dX2_isSteady_12 : decode cX2_isSteady 12 = .ok (.if_icmp .gt 33, 3) := by decide +kernel
theorem dX2_isSteady_15 : decode cX2_isSteady 15 = .ok (.aload_n 0, 1) := by decide +kernel
theorem dX2_isSteady_16 : decode cX2_isSteady 16 = .ok (.iconst 1, 1) := by decide +kernel
theorem dX2_isSteady_17 : decode cX2_isSteady 17 = .ok (.invokevirtual 172, 3) := by decide +kernel
theorem dX2_isSteady_20 : decode cX2_isSteady 20 = .ok (.invokestatic 176, 3) := by decide +kernel
theorem dX2_isSteady_23 : decode cX2_isSteady 23 = .ok (.aload_n 0, 1) := by decide +kernel
theorem dX2_isSteady_24 : decode cX2_isSteady 24 = .ok (.getfield 34, 3) := by decide +kernel
theorem dX2_isSteady_27 : decode cX2_isSteady 27 = .ok (.if_icmp .gt 18, 3) := by decide +kernel
theorem dX2_isSteady_30 : decode cX2_isSteady 30 = .ok (.aload_n 0, 1) := by decide +kernel
theorem dX2_isSteady_31 : decode cX2_isSteady 31 = .ok (.invokevirtual 181, 3) := by decide +kernel
theorem dX2_isSteady_34 : decode cX2_isSteady 34 = .ok (.ldc2_w 185, 3) := by decide +kernel
theorem dX2_isSteady_37 : decode cX2_isSteady 37 = .ok (.dcmp .g, 1) := by decide +kernel
theorem dX2_isSteady_38 : decode cX2_isSteady 38 = .ok (.ifCond .gt 7, 3) := by decide +kernel
theorem dX2_isSteady_41 : decode cX2_isSteady 41 = .ok (.iconst 1, 1) := by decide +kernel
theorem dX2_isSteady_42 : decode cX2_isSteady 42 = .ok (.goto 4, 3) := by decide +kernel
theorem dX2_isSteady_45 : decode cX2_isSteady 45 = .ok (.iconst 0, 1) := by decide +kernel
theorem dX2_isSteady_46 : decode cX2_isSteady 46 = .ok (.ireturn, 1) := by decide +kernel
set_option maxRecDepth 20000 in
theorem ggX2_count_X0_waitsAt : GoodIn wsX2_count wsX0_waitsAt := goodIn_r _ [8, 9, 10, 11, 12, 7, 13, 14, 15, 24, 25, 26, 27, 28, 29, 30, 31] (by decide +kernel) (by decide +kernel)
set_option maxRecDepth 20000 in
theorem gX2_count_X0_waitsAt : GoodIn wsX2_count (wsV RX2 187 RX0 yX0_waitsAt wsX0_waitsAt) := goodIn_app (goodIn_of _ (by decide +kernel)) ggX2_count_X0_waitsAt
theorem dX2_count_0 : decode cX2_count 0 = .ok (.iconst 0, 1) := by decide +kernel
theorem dX2_count_1 : decode cX2_count 1 = .ok (.istore_n 2, 1) := by decide +kernel
theorem dX2_count_2 : decode cX2_count 2 = .ok (.aload_n 0, 1) := by decide +kernel
theorem dX2_count_3 : decode cX2_count 3 = .ok (.getfield 11, 3) := by decide +kernel
theorem dX2_count_6 : decode cX2_count 6 = .ok (.astore_n 3, 1) := by decide +kernel
theorem dX2_count_7 : decode cX2_count 7 = .ok (.aload_n 3, 1) := by decide +kernel
theorem dX2_count_8 : decode cX2_count 8 = .ok (.arraylength, 1) := by decide +kernel
theorem dX2_count_9 : decode cX2_count 9 = .ok (.istore 4, 2) := by decide +kernel
theorem dX2_count_11 : decode cX2_count 11 = .ok (.iconst 0, 1) := by decide +kernel
theorem dX2_count_12 : decode cX2_count 12 = .ok (.istore 5, 2) := by decide +kernel
theorem dX2_count_14 : decode cX2_count 14 = .ok (.iload 5, 2) := by decide +kernel
theorem dX2_count_16 : decode cX2_count 16 = .ok (.iload 4, 2) := by decide +kernel
theorem dX2_count_18 : decode cX2_count 18 = .ok (.if_icmp .ge 50, 3) := by decide +kernel
theorem dX2_count_21 : decode cX2_count 21 = .ok (.aload_n 3, 1) := by decide +kernel
theorem dX2_count_22 : decode cX2_count 22 = .ok (.iload 5, 2) := by decide +kernel
theorem dX2_count_24 : decode cX2_count 24 = .ok (.aaload, 1) := by decide +kernel
theorem dX2_count_25 : decode cX2_count 25 = .ok (.astore 6, 2) := by decide +kernel
theorem dX2_count_27 : decode cX2_count 27 = .ok (.aload 6, 2) := by decide +kernel
theorem dX2_count_29 : decode cX2_count 29 = .ok (.ifnull 33, 3) := by decide +kernel
theorem dX2_count_32 : decode cX2_count 32 = .ok (.iload_n 1, 1) := by decide +kernel
theorem dX2_count_33 : decode cX2_count 33 = .ok (.ifCond .eq 18, 3) := by decide +kernel
theorem dX2_count_36 : decode cX2_count 36 = .ok (.aload 6, 2) := by decide +kernel
theorem dX2_count_38 : decode cX2_count 38 = .ok (.aload_n 0, 1) := by decide +kernel
theorem dX2_count_39 : decode cX2_count 39 = .ok (.getfield 25, 3) := by decide +kernel
theorem dX2_count_42 : decode cX2_count 42 = .ok (.invokevirtual 187, 3) := by decide +kernel
theorem dX2_count_45 : decode cX2_count 45 = .ok (.ifCond .eq 17, 3) := by decide +kernel
theorem dX2_count_48 : decode cX2_count 48 = .ok (.goto 11, 3) := by decide +kernel
theorem dX2_count_51 : decode cX2_count 51 = .ok (.aload 6, 2) := by decide +kernel
theorem dX2_count_53 : decode cX2_count 53 = .ok (.getfield 165, 3) := by decide +kernel
theorem dX2_count_56 : decode cX2_count 56 = .ok (.ifnull 6, 3) := by decide +kernel
theorem dX2_count_59 : decode cX2_count 59 = .ok (.iinc 2 1, 3) := by decide +kernel
theorem dX2_count_62 : decode cX2_count 62 = .ok (.iinc 5 1, 3) := by decide +kernel
theorem dX2_count_65 : decode cX2_count 65 = .ok (.goto (-51), 3) := by decide +kernel
theorem dX2_count_68 : decode cX2_count 68 = .ok (.iload_n 2, 1) := by decide +kernel
theorem dX2_count_69 : decode cX2_count 69 = .ok (.ireturn, 1) := by decide +kernel
set_option maxRecDepth 20000 in
theorem ggX2_lifts_X2_isWithin : GoodIn wsX2_lifts wsX2_isWithin := goodIn_r _ [7] (by decide +kernel) (by decide +kernel)
set_option maxRecDepth 20000 in
theorem gX2_lifts_X2_isWithin : GoodIn wsX2_lifts (va_wsS RX2 43 yX2_isWithin wsX2_isWithin) := goodIn_app (goodIn_of _ (by decide +kernel)) ggX2_lifts_X2_isWithin
set_option maxRecDepth 20000 in
theorem ggX2_lifts_X1_liftsFor : GoodIn wsX2_lifts wsX1_liftsFor := goodIn_r _ [12, 13, 14, 23, 24, 25, 26, 27, 28, 29, 30, 31, 32, 33, 34, 35] (by decide +kernel) (by decide +kernel)
set_option maxRecDepth 20000 in
theorem gX2_lifts_X1_liftsFor : GoodIn wsX2_lifts (wsV RX2 138 RX1 yX1_liftsFor wsX1_liftsFor) := goodIn_app (goodIn_of _ (by decide +kernel)) ggX2_lifts_X1_liftsFor
theorem dX2_lifts_0 : decode cX2_lifts 0 = .ok (.iload_n 1, 1) := by decide +kernel
theorem dX2_lifts_1 : decode cX2_lifts 1 = .ok (.iconst 0, 1) := by decide +kernel
theorem dX2_lifts_2 : decode cX2_lifts 2 = .ok (.iconst 5, 1) := by decide +kernel
theorem dX2_lifts_3 : decode cX2_lifts 3 = .ok (.invokestatic 43, 3) := by decide +kernel
theorem dX2_lifts_6 : decode cX2_lifts 6 = .ok (.ifCond .ne 13, 3) := by decide +kernel
theorem dX2_lifts_9 : decode cX2_lifts 9 = .ok (.new 68, 3) := by decide +kernel
theorem dX2_lifts_12 : decode cX2_lifts 12 = .ok (.dup, 1) := by decide +kernel
theorem dX2_lifts_13 : decode cX2_lifts 13 = .ok (.ldc 199, 2) := by decide +kernel
theorem dX2_lifts_15 : decode cX2_lifts 15 = .ok (.invokespecial 72, 3) := by decide +kernel
theorem dX2_lifts_18 : decode cX2_lifts 18 = .ok (.athrow, 1) := by decide +kernel
theorem dX2_lifts_19 : decode cX2_lifts 19 = .ok (.iconst 0, 1) := by decide +kernel
theorem dX2_lifts_20 : decode cX2_lifts 20 = .ok (.istore_n 2, 1) := by decide +kernel
theorem dX2_lifts_21 : decode cX2_lifts 21 = .ok (.aload_n 0, 1) := by decide +kernel
