abbrev rm_X1_listArm : Room := { frames := 0, cells := 0, slots := 0, locals := 0 }
abbrev po_X1_listArm (cA : Nat → ClassId) (ad : fw_Ad) (σ : St) (μ : fw_W) (k : Nat) : Int32 → fw_W → Prop := fun r w' => r = iI (((k % 5 : Nat) : Int) - ((2 : Nat) : Int)) ∧ w' = WC cA ad σ μ
set_option maxHeartbeats 4000000 in
set_option maxRecDepth 100000 in
theorem c_X1_listArm (l : Launch) (D : va_G) (cA : Nat → ClassId) (z : Nat) (ad : fw_Ad) (σ : St) (μ : fw_W) (k : Nat) (hI : Inv σ) (hk : k < 30) : Met l yX1_listArm wsX1_listArm rm_X1_listArm (va_Pc [.ref (ad 3 (k))] (fw_Pre D vwCl (fw_T cA) z ad (WC cA ad σ μ))) (fw_Qi D vwCl z ad (po_X1_listArm cA ad σ μ k)) 0 0 (fw_A z) := by
  refine Met.ofW (cc := cX1_listArm) (maxL := 1) (ret := (some .int)) (by decide) rfl ?_
  intro pg en s m args below meth cd s₁ B hml hv
  obtain ⟨hargs, hP, hK⟩ := hv
  have hx := B.exec
  have hb := B.bytes
  have hr := B.returns
  have hts := atoms_spec (ws := wsX1_listArm) B.pre
  have hown : s.vm.findClass RX1 = some m.cls := findClass_of_methodNamed B.named
  have hlocks := B.notSynchronized
  have hinX1 : ∀ w ∈ u_ws RX1 TX1 5, w ∈ wsX1_listArm := by decide +kernel
  have hf24 := hts (.fieldLink RX1 24 "StowagePlan$Stack" "row" "I") (by decide +kernel)
  have hl := lv_entry ([.ref (ad 3 (k))]) (n := 1) (Nat.le_of_ble_eq_true rfl)
  have hent : entryFrame m args 1 = entryFrame m ([.ref (ad 3 (k))] : List Value).toArray 1 := by rw [hargs]
  rw [hent, lg_entry_eq]
  generalize (lg_sl ([.ref (ad 3 (k))]) ++ List.replicate (1 - (lg_sl ([.ref (ad 3 (k))])).length) Slot.unset).toArray = ls at hl ⊢
  have hl : lv_has ls 1 [(0, .ref (ad 3 (k)))] := hl
  generalize hQ : MQ below (fw_Qi D vwCl z ad (po_X1_listArm cA ad σ μ k)) args s 0 0 (fw_A z) = Q
  generalize hH : s.heap = H at hP ⊢
  have hS : va_S (fw_A z) s.heap H [] := by rw [← hH]; exact va_S.rf
  generalize ([] : List Loc) = locs at hS ⊢
  refine lv_aload_n hx hb dX1_listArm_0 rfl (lv_at hl 0 rfl) ?_
  refine fw_get (ci := 1) (v := .int (iI ((k % 5 : Nat) : Int))) (C := RX1) (T := TX1) (N := 5) hx hb hts hinX1 hown hK hP (WC_3 hk) rfl 1 (by decide) hf24 (fun _ h9 => h9) rfl dX1_listArm_1 ?_
  have hh_1 := high_le hI k
  have hp_2 := hI.pl k
  refine lv_iconst (v := iI ((2 : Nat) : Int)) hx hb dX1_listArm_4 (by decide) ?_
  refine fw_isub (a := ((k % 5 : Nat) : Int)) (b := ((2 : Nat) : Int)) hx hb dX1_listArm_5 ?_
  subst hQ
  exact fw_iret hx hb hr hlocks dX1_listArm_6 hP hS ⟨rfl, rfl⟩

abbrev rm_X1_trimArm : Room := { frames := 0, cells := 0, slots := 0, locals := 0 }
abbrev po_X1_trimArm (cA : Nat → ClassId) (ad : fw_Ad) (σ : St) (μ : fw_W) (k : Nat) : Int32 → fw_W → Prop := fun r w' => r = iI (((2 * (k / 5) : Nat) : Int) - ((5 : Nat) : Int)) ∧ w' = WC cA ad σ μ
set_option maxHeartbeats 4000000 in
set_option maxRecDepth 100000 in
theorem c_X1_trimArm (l : Launch) (D : va_G) (cA : Nat → ClassId) (z : Nat) (ad : fw_Ad) (σ : St) (μ : fw_W) (k : Nat) (hI : Inv σ) (hk : k < 30) : Met l yX1_trimArm wsX1_trimArm rm_X1_trimArm (va_Pc [.ref (ad 3 (k))] (fw_Pre D vwCl (fw_T cA) z ad (WC cA ad σ μ))) (fw_Qi D vwCl z ad (po_X1_trimArm cA ad σ μ k)) 0 0 (fw_A z) := by
  refine Met.ofW (cc := cX1_trimArm) (maxL := 1) (ret := (some .int)) (by decide) rfl ?_
  intro pg en s m args below meth cd s₁ B hml hv
  obtain ⟨hargs, hP, hK⟩ := hv
  have hx := B.exec
  have hb := B.bytes
  have hr := B.returns
  have hts := atoms_spec (ws := wsX1_trimArm) B.pre
  have hown : s.vm.findClass RX1 = some m.cls := findClass_of_methodNamed B.named
  have hlocks := B.notSynchronized
  have hinX1 : ∀ w ∈ u_ws RX1 TX1 5, w ∈ wsX1_trimArm := by decide +kernel
  have hf21 := hts (.fieldLink RX1 21 "StowagePlan$Stack" "bay" "I") (by decide +kernel)
  have hl := lv_entry ([.ref (ad 3 (k))]) (n := 1) (Nat.le_of_ble_eq_true rfl)
  have hent : entryFrame m args 1 = entryFrame m ([.ref (ad 3 (k))] : List Value).toArray 1 := by rw [hargs]
  rw [hent, lg_entry_eq]
  generalize (lg_sl ([.ref (ad 3 (k))]) ++ List.replicate (1 - (lg_sl ([.ref (ad 3 (k))])).length) Slot.unset).toArray = ls at hl ⊢
  have hl : lv_has ls 1 [(0, .ref (ad 3 (k)))] := hl
  generalize hQ : MQ below (fw_Qi D vwCl z ad (po_X1_trimArm cA ad σ μ k)) args s 0 0 (fw_A z) = Q
  generalize hH : s.heap = H at hP ⊢
  have hS : va_S (fw_A z) s.heap H [] := by rw [← hH]; exact va_S.rf
  generalize ([] : List Loc) = locs at hS ⊢
  refine lv_iconst (v := iI ((2 : Nat) : Int)) hx hb dX1_trimArm_0 (by decide) ?_
  refine lv_aload_n hx hb dX1_trimArm_1 rfl (lv_at hl 0 rfl) ?_
  refine fw_get (ci := 1) (v := .int (iI ((k / 5 : Nat) : Int))) (C := RX1) (T := TX1) (N := 5) hx hb hts hinX1 hown hK hP (WC_3 hk) rfl 0 (by decide) hf21 (fun _ h9 => h9) rfl dX1_trimArm_2 ?_
  have hh_1 := high_le hI k
  have hp_2 := hI.pl k
  refine fw_imulN (a := 2) (b := k / 5) hx hb dX1_trimArm_5 ?_
  refine lv_iconst (v := iI ((5 : Nat) : Int)) hx hb dX1_trimArm_6 (by decide) ?_
  refine fw_isub (a := ((2 * (k / 5) : Nat) : Int)) (b := ((5 : Nat) : Int)) hx hb dX1_trimArm_7 ?_
  subst hQ
  exact fw_iret hx hb hr hlocks dX1_trimArm_8 hP hS ⟨rfl, rfl⟩

abbrev rm_X1_hasPowerOnNextTier : Room := { frames := 0, cells := 0, slots := 0, locals := 0 }
abbrev po_X1_hasPowerOnNextTier (cA : Nat → ClassId) (ad : fw_Ad) (σ : St) (μ : fw_W) (k : Nat) : Int32 → fw_W → Prop := fun r w' => r = iI (bI (decide (σ 7 k = 1 ∧ high σ k < 2))) ∧ w' = WC cA ad σ μ
set_option maxHeartbeats 4000000 in
set_option maxRecDepth 100000 in
theorem c_X1_hasPowerOnNextTier (l : Launch) (D : va_G) (cA : Nat → ClassId) (z : Nat) (ad : fw_Ad) (σ : St) (μ : fw_W) (k : Nat) (hI : Inv σ) (hk : k < 30) : Met l yX1_hasPowerOnNextTier wsX1_hasPowerOnNextTier rm_X1_hasPowerOnNextTier (va_Pc [.ref (ad 3 (k))] (fw_Pre D vwCl (fw_T cA) z ad (WC cA ad σ μ))) (fw_Qi D vwCl z ad (po_X1_hasPowerOnNextTier cA ad σ μ k)) 0 0 (fw_A z) := by
  refine Met.ofW (cc := cX1_hasPowerOnNextTier) (maxL := 1) (ret := (some .boolean)) (by decide) rfl ?_
  intro pg en s m args below meth cd s₁ B hml hv
  obtain ⟨hargs, hP, hK⟩ := hv
  have hx := B.exec
  have hb := B.bytes
  have hr := B.returns
  have hts := atoms_spec (ws := wsX1_hasPowerOnNextTier) B.pre
  have hown : s.vm.findClass RX1 = some m.cls := findClass_of_methodNamed B.named
  have hlocks := B.notSynchronized
  have hinX1 : ∀ w ∈ u_ws RX1 TX1 5, w ∈ wsX1_hasPowerOnNextTier := by decide +kernel
  have hf27 := hts (.fieldLink RX1 27 "StowagePlan$Stack" "hasPlug" "Z") (by decide +kernel)
  have hf17 := hts (.fieldLink RX1 17 "StowagePlan$Stack" "size" "I") (by decide +kernel)
  have hl := lv_entry ([.ref (ad 3 (k))]) (n := 1) (Nat.le_of_ble_eq_true rfl)
  have hent : entryFrame m args 1 = entryFrame m ([.ref (ad 3 (k))] : List Value).toArray 1 := by rw [hargs]
  rw [hent, lg_entry_eq]
  generalize (lg_sl ([.ref (ad 3 (k))]) ++ List.replicate (1 - (lg_sl ([.ref (ad 3 (k))])).length) Slot.unset).toArray = ls at hl ⊢
  have hl : lv_has ls 1 [(0, .ref (ad 3 (k)))] := hl
  generalize hQ : MQ below (fw_Qi D vwCl z ad (po_X1_hasPowerOnNextTier cA ad σ μ k)) args s 0 0 (fw_A z) = Q
  generalize hH : s.heap = H at hP ⊢
  have hS : va_S (fw_A z) s.heap H [] := by rw [← hH]; exact va_S.rf
  generalize ([] : List Loc) = locs at hS ⊢
  refine lv_aload_n hx hb dX1_hasPowerOnNextTier_0 rfl (lv_at hl 0 rfl) ?_
  refine fw_get (ci := 1) (v := .int (iI ((σ 7 k : Nat) : Int))) (C := RX1) (T := TX1) (N := 5) hx hb hts hinX1 hown hK hP (WC_3 hk) rfl 4 (by decide) hf27 (fun _ h9 => h9) rfl dX1_hasPowerOnNextTier_1 ?_
  have hh_1 := high_le hI k
  have hp_2 := hI.pl k
  refine fw_if_eq (x := ((σ 7 k : Nat) : Int)) (tgt := 19) hx hb dX1_hasPowerOnNextTier_4 (by decide) ⟨by omega, by omega⟩ (fun c_3 => ?_) (fun c_3 => ?_)
  · refine lv_iconst (v := iI ((0 : Nat) : Int)) hx hb dX1_hasPowerOnNextTier_19 (by decide) ?_
    subst hQ
    exact fw_zret hx hb hr hlocks dX1_hasPowerOnNextTier_20 hP hS rfl ⟨congrArg iI (bI_df (by omega)), rfl⟩
  · refine lv_aload_n hx hb dX1_hasPowerOnNextTier_7 rfl (lv_at hl 0 rfl) ?_
    refine fw_get (ci := 1) (v := .int (iI ((high σ k : Nat) : Int))) (C := RX1) (T := TX1) (N := 5) hx hb hts hinX1 hown hK hP (WC_3 hk) rfl 3 (by decide) hf17 (fun _ h9 => h9) rfl dX1_hasPowerOnNextTier_8 ?_
    refine lv_iconst (v := iI ((2 : Nat) : Int)) hx hb dX1_hasPowerOnNextTier_11 (by decide) ?_
    refine fw_icmp_ge (x := ((high σ k : Nat) : Int)) (y := ((2 : Nat) : Int)) (tgt := 19) hx hb dX1_hasPowerOnNextTier_12 (by decide) ⟨by omega, by omega⟩ ⟨by omega, by omega⟩ (fun c_4 => ?_) (fun c_4 => ?_)
    · refine lv_iconst (v := iI ((0 : Nat) : Int)) hx hb dX1_hasPowerOnNextTier_19 (by decide) ?_
      subst hQ
      exact fw_zret hx hb hr hlocks dX1_hasPowerOnNextTier_20 hP hS rfl ⟨congrArg iI (bI_df (by omega)), rfl⟩
    · refine lv_iconst (v := iI ((1 : Nat) : Int)) hx hb dX1_hasPowerOnNextTier_15 (by decide) ?_
      refine lv_goto (tgt := 20) hx hb dX1_hasPowerOnNextTier_16 (by decide) ?_
      subst hQ
      exact fw_zret hx hb hr hlocks dX1_hasPowerOnNextTier_20 hP hS rfl ⟨congrArg iI (bI_dt (by omega)), rfl⟩

abbrev rm_X1_isApartFrom : Room := { frames := 1, cells := 0, slots := 0, locals := 21 }
abbrev po_X1_isApartFrom (cA : Nat → ClassId) (ad : fw_Ad) (σ : St) (μ : fw_W) (k : Nat) (k2 : Nat) : Int32 → fw_W → Prop := fun r w' => r = iI (bI (cB (apart k k2))) ∧ w' = WC cA ad σ μ
set_option maxHeartbeats 4000000 in
set_option maxRecDepth 100000 in
theorem c_X1_isApartFrom (l : Launch) (D : va_G) (cA : Nat → ClassId) (z : Nat) (ad : fw_Ad) (σ : St) (μ : fw_W) (k : Nat) (k2 : Nat) (hI : Inv σ) (hk : k < 30) (hk2 : k2 < 30) : Met l yX1_isApartFrom wsX1_isApartFrom rm_X1_isApartFrom (va_Pc [.ref (ad 3 (k)), .ref (ad 3 (k2))] (fw_Pre D vwCl (fw_T cA) z ad (WC cA ad σ μ))) (fw_Qi D vwCl z ad (po_X1_isApartFrom cA ad σ μ k k2)) 0 0 (fw_A z) := by
  refine Met.ofW (cc := cX1_isApartFrom) (maxL := 3) (ret := (some .boolean)) (by decide) rfl ?_
  intro pg en s m args below meth cd s₁ B hml hv
  obtain ⟨hargs, hP, hK⟩ := hv
  have hx := B.exec
  have hb := B.bytes
  have hr := B.returns
  have hts := atoms_spec (ws := wsX1_isApartFrom) B.pre
  have hown : s.vm.findClass RX1 = some m.cls := findClass_of_methodNamed B.named
  have hlocks := B.notSynchronized
  have hinX1 : ∀ w ∈ u_ws RX1 TX1 5, w ∈ wsX1_isApartFrom := by decide +kernel
  have hf21 := hts (.fieldLink RX1 21 "StowagePlan$Stack" "bay" "I") (by decide +kernel)
  have hf24 := hts (.fieldLink RX1 24 "StowagePlan$Stack" "row" "I") (by decide +kernel)
  have hl := lv_entry ([.ref (ad 3 (k)), .ref (ad 3 (k2))]) (n := 3) (Nat.le_of_ble_eq_true rfl)
  have hent : entryFrame m args 3 = entryFrame m ([.ref (ad 3 (k)), .ref (ad 3 (k2))] : List Value).toArray 3 := by rw [hargs]
  rw [hent, lg_entry_eq]
  generalize (lg_sl ([.ref (ad 3 (k)), .ref (ad 3 (k2))]) ++ List.replicate (3 - (lg_sl ([.ref (ad 3 (k)), .ref (ad 3 (k2))])).length) Slot.unset).toArray = ls at hl ⊢
  have hl : lv_has ls 3 [(0, .ref (ad 3 (k))), (1, .ref (ad 3 (k2)))] := hl
  generalize hQ : MQ below (fw_Qi D vwCl z ad (po_X1_isApartFrom cA ad σ μ k k2)) args s 0 0 (fw_A z) = Q
  generalize hH : s.heap = H at hP ⊢
  have hS : va_S (fw_A z) s.heap H [] := by rw [← hH]; exact va_S.rf
  generalize ([] : List Loc) = locs at hS ⊢
  refine lv_aload_n hx hb dX1_isApartFrom_0 rfl (lv_at hl 0 rfl) ?_
  refine fw_get (ci := 1) (v := .int (iI ((k / 5 : Nat) : Int))) (C := RX1) (T := TX1) (N := 5) hx hb hts hinX1 hown hK hP (WC_3 hk) rfl 0 (by decide) hf21 (fun _ h9 => h9) rfl dX1_isApartFrom_1 ?_
  have hh_1 := high_le hI k
  have hp_2 := hI.pl k
  refine lv_aload_n hx hb dX1_isApartFrom_4 rfl (lv_at hl 1 rfl) ?_
  refine fw_get (ci := 1) (v := .int (iI ((k2 / 5 : Nat) : Int))) (C := RX1) (T := TX1) (N := 5) hx hb hts hinX1 hown hK hP (WC_3 hk2) rfl 0 (by decide) hf21 (fun _ h9 => h9) rfl dX1_isApartFrom_5 ?_
  have hh_3 := high_le hI k2
  have hp_4 := hI.pl k2
  refine fw_isub (a := ((k / 5 : Nat) : Int)) (b := ((k2 / 5 : Nat) : Int)) hx hb dX1_isApartFrom_8 ?_
  refine fw_abs (x := (((k / 5 : Nat) : Int) - ((k2 / 5 : Nat) : Int))) hx hb (by rw [hml]; exact hl.1.symm) hown (hts (.methodLink RX1 31 Lib.Math.abs.name) (by decide +kernel)) (hts (.static Lib.Math.abs.name) (by decide +kernel)) (hts (.initialized "java/lang/Math") (by decide +kernel)) (hts (.code Lib.Math.abs.name Lib.Math.abs.code 1 (some .int)) (by decide +kernel)) (Nat.le_of_ble_eq_true rfl) (Nat.le_of_ble_eq_true rfl) (Nat.le_of_ble_eq_true rfl) (Nat.le_of_ble_eq_true rfl) ⟨by omega, by omega⟩ dX1_isApartFrom_9 ?_
  refine lv_istore_n (lv' := [(2, .int (iI ((Int.natAbs (((k / 5 : Nat) : Int) - ((k2 / 5 : Nat) : Int)) : Nat) : Int))), (0, .ref (ad 3 (k))), (1, .ref (ad 3 (k2)))]) hx hb dX1_isApartFrom_12 rfl hl (by decide) rfl (fun ls hl => ?_)
  refine lv_iload_n hx hb dX1_isApartFrom_13 rfl (lv_at hl 0 rfl) ?_
  refine lv_iconst (v := iI ((2 : Nat) : Int)) hx hb dX1_isApartFrom_14 (by decide) ?_
  refine fw_icmp_ge (x := ((Int.natAbs (((k / 5 : Nat) : Int) - ((k2 / 5 : Nat) : Int)) : Nat) : Int)) (y := ((2 : Nat) : Int)) (tgt := 39) hx hb dX1_isApartFrom_15 (by decide) ⟨by omega, by omega⟩ ⟨by omega, by omega⟩ (fun c_5 => ?_) (fun c_5 => ?_)
  · refine lv_iconst (v := iI ((1 : Nat) : Int)) hx hb dX1_isApartFrom_39 (by decide) ?_
    refine lv_goto (tgt := 44) hx hb dX1_isApartFrom_40 (by decide) ?_
    subst hQ
    exact fw_zret hx hb hr hlocks dX1_isApartFrom_44 hP hS rfl ⟨congrArg iI (bI_ct (by unfold apart dist; omega)), rfl⟩
  · refine lv_iload_n hx hb dX1_isApartFrom_18 rfl (lv_at hl 0 rfl) ?_
    refine lv_iconst (v := iI ((1 : Nat) : Int)) hx hb dX1_isApartFrom_19 (by decide) ?_
    refine fw_icmp_ne (x := ((Int.natAbs (((k / 5 : Nat) : Int) - ((k2 / 5 : Nat) : Int)) : Nat) : Int)) (y := ((1 : Nat) : Int)) (tgt := 43) hx hb dX1_isApartFrom_20 (by decide) ⟨by omega, by omega⟩ ⟨by omega, by omega⟩ (fun c_6 => ?_) (fun c_6 => ?_)
    · refine lv_iconst (v := iI ((0 : Nat) : Int)) hx hb dX1_isApartFrom_43 (by decide) ?_
      subst hQ
      exact fw_zret hx hb hr hlocks dX1_isApartFrom_44 hP hS rfl ⟨congrArg iI (bI_cf (by unfold apart dist; omega)), rfl⟩
    · refine lv_aload_n hx hb dX1_isApartFrom_23 rfl (lv_at hl 1 rfl) ?_
      refine fw_get (ci := 1) (v := .int (iI ((k % 5 : Nat) : Int))) (C := RX1) (T := TX1) (N := 5) hx hb hts hinX1 hown hK hP (WC_3 hk) rfl 1 (by decide) hf24 (fun _ h9 => h9) rfl dX1_isApartFrom_24 ?_
      refine lv_aload_n hx hb dX1_isApartFrom_27 rfl (lv_at hl 2 rfl) ?_
      refine fw_get (ci := 1) (v := .int (iI ((k2 % 5 : Nat) : Int))) (C := RX1) (T := TX1) (N := 5) hx hb hts hinX1 hown hK hP (WC_3 hk2) rfl 1 (by decide) hf24 (fun _ h9 => h9) rfl dX1_isApartFrom_28 ?_
      refine fw_isub (a := ((k % 5 : Nat) : Int)) (b := ((k2 % 5 : Nat) : Int)) hx hb dX1_isApartFrom_31 ?_
      refine fw_abs (x := (((k % 5 : Nat) : Int) - ((k2 % 5 : Nat) : Int))) hx hb (by rw [hml]; exact hl.1.symm) hown (hts (.methodLink RX1 31 Lib.Math.abs.name) (by decide +kernel)) (hts (.static Lib.Math.abs.name) (by decide +kernel)) (hts (.initialized "java/lang/Math") (by decide +kernel)) (hts (.code Lib.Math.abs.name Lib.Math.abs.code 1 (some .int)) (by decide +kernel)) (Nat.le_of_ble_eq_true rfl) (Nat.le_of_ble_eq_true rfl) (Nat.le_of_ble_eq_true rfl) (Nat.le_of_ble_eq_true rfl) ⟨by omega, by omega⟩ dX1_isApartFrom_32 ?_
      refine lv_iconst (v := iI ((2 : Nat) : Int)) hx hb dX1_isApartFrom_35 (by decide) ?_
      refine fw_icmp_lt (x := ((Int.natAbs (((k % 5 : Nat) : Int) - ((k2 % 5 : Nat) : Int)) : Nat) : Int)) (y := ((2 : Nat) : Int)) (tgt := 43) hx hb dX1_isApartFrom_36 (by decide) ⟨by omega, by omega⟩ ⟨by omega, by omega⟩ (fun c_7 => ?_) (fun c_7 => ?_)
      · refine lv_iconst (v := iI ((0 : Nat) : Int)) hx hb dX1_isApartFrom_43 (by decide) ?_
        subst hQ
        exact fw_zret hx hb hr hlocks dX1_isApartFrom_44 hP hS rfl ⟨congrArg iI (bI_cf (by unfold apart dist; omega)), rfl⟩
      · refine lv_iconst (v := iI ((1 : Nat) : Int)) hx hb dX1_isApartFrom_39 (by decide) ?_
        refine lv_goto (tgt := 44) hx hb dX1_isApartFrom_40 (by decide) ?_
        subst hQ
        exact fw_zret hx hb hr hlocks dX1_isApartFrom_44 hP hS rfl ⟨congrArg iI (bI_ct (by unfold apart dist; omega)), rfl⟩

abbrev rm_X1_onTier : Room := { frames := 0, cells := 0, slots := 0, locals := 0 }
abbrev po_X1_onTier (cA : Nat → ClassId) (ad : fw_Ad) (σ : St) (μ : fw_W) (k : Nat) (t : Int) : Option Nat → fw_W → Prop := fun r w' => r = (occI σ k t).map (ad 5) ∧ w' = WC cA ad σ μ
set_option maxHeartbeats 4000000 in
set_option maxRecDepth 100000 in
theorem c_X1_onTier (l : Launch) (D : va_G) (cA : Nat → ClassId) (z : Nat) (ad : fw_Ad) (σ : St) (μ : fw_W) (k : Nat) (t : Int) (hI : Inv σ) (hk : k < 30) (ht : -2147483648 ≤ t ∧ t ≤ 2147483647) : Met l yX1_onTier wsX1_onTier rm_X1_onTier (va_Pc [.ref (ad 3 (k)), .int (iI (t))] (fw_Pre D vwCl (fw_T cA) z ad (WC cA ad σ μ))) (fw_Qq D vwCl z ad (po_X1_onTier cA ad σ μ k t)) 0 0 (fw_A z) := by
  refine Met.ofW (cc := cX1_onTier) (maxL := 2) (ret := (some (.object "StowagePlan$Box"))) (by decide) rfl ?_
  intro pg en s m args below meth cd s₁ B hml hv
  obtain ⟨hargs, hP, hK⟩ := hv
  have hx := B.exec
  have hb := B.bytes
  have hr := B.returns
  have hts := atoms_spec (ws := wsX1_onTier) B.pre
  have hown : s.vm.findClass RX1 = some m.cls := findClass_of_methodNamed B.named
  have hlocks := B.notSynchronized
  have hinX1 : ∀ w ∈ u_ws RX1 TX1 5, w ∈ wsX1_onTier := by decide +kernel
  have hf11 := hts (.fieldLink RX1 11 "StowagePlan$Stack" "boxes" "[LStowagePlan$Box;") (by decide +kernel)
  have hl := lv_entry ([.ref (ad 3 (k)), .int (iI (t))]) (n := 2) (Nat.le_of_ble_eq_true rfl)
  have hent : entryFrame m args 2 = entryFrame m ([.ref (ad 3 (k)), .int (iI (t))] : List Value).toArray 2 := by rw [hargs]
  rw [hent, lg_entry_eq]
  generalize (lg_sl ([.ref (ad 3 (k)), .int (iI (t))]) ++ List.replicate (2 - (lg_sl ([.ref (ad 3 (k)), .int (iI (t))])).length) Slot.unset).toArray = ls at hl ⊢
  have hl : lv_has ls 2 [(0, .ref (ad 3 (k))), (1, .int (iI (t)))] := hl
  generalize hQ : MQ below (fw_Qq D vwCl z ad (po_X1_onTier cA ad σ μ k t)) args s 0 0 (fw_A z) = Q
  generalize hH : s.heap = H at hP ⊢
  have hS : va_S (fw_A z) s.heap H [] := by rw [← hH]; exact va_S.rf
  generalize ([] : List Loc) = locs at hS ⊢
  refine lv_iload_n hx hb dX1_onTier_0 rfl (lv_at hl 1 rfl) ?_
  refine fw_if_lt (x := (t)) (tgt := 13) hx hb dX1_onTier_1 (by decide) ⟨by omega, by omega⟩ (fun c_1 => ?_) (fun c_1 => ?_)
  · refine lv_null hx hb dX1_onTier_13 ?_
    subst hQ
    exact fw_nret hx hb hr (Or.inl ⟨_, rfl⟩) hlocks dX1_onTier_14 hP hS ⟨by unfold occI; rw [if_neg (by omega)]; rfl, rfl⟩
  · refine lv_iload_n hx hb dX1_onTier_4 rfl (lv_at hl 1 rfl) ?_
    refine lv_aload_n hx hb dX1_onTier_5 rfl (lv_at hl 0 rfl) ?_
    refine fw_get (ci := 1) (v := .ref (ad 4 (k))) (C := RX1) (T := TX1) (N := 5) hx hb hts hinX1 hown hK hP (WC_3 hk) rfl 2 (by decide) hf11 (fun _ h9 => h9) rfl dX1_onTier_6 ?_
    have hh_2 := high_le hI k
    have hp_3 := hI.pl k
    refine fw_alen (v := iI ((4 : Nat) : Int)) hx hb hK hP (WC_4 hk) 2 rfl rfl dX1_onTier_9 ?_
    refine fw_icmp_lt (x := (t)) (y := ((4 : Nat) : Int)) (tgt := 15) hx hb dX1_onTier_10 (by decide) ⟨by omega, by omega⟩ ⟨by omega, by omega⟩ (fun c_4 => ?_) (fun c_4 => ?_)
    · obtain ⟨j, rfl⟩ : ∃ j : Nat, t = (j : Int) := ⟨t.toNat, by omega⟩
      refine lv_aload_n hx hb dX1_onTier_15 rfl (lv_at hl 0 rfl) ?_
      refine fw_get (ci := 1) (v := .ref (ad 4 (k))) (C := RX1) (T := TX1) (N := 5) hx hb hts hinX1 hown hK hP (WC_3 hk) rfl 2 (by decide) hf11 (fun _ h9 => h9) rfl dX1_onTier_16 ?_
      refine lv_iload_n hx hb dX1_onTier_19 rfl (lv_at hl 1 rfl) ?_
      refine fw_aldN (j := j) hx hb hK hP (WC_4 hk) 2 rfl (by omega) (by decide) dX1_onTier_20 ?_
      cases n_5 : occ σ k j with
      | none =>
        refine fw_top (v' := .null) rfl ?_
        subst hQ
        exact fw_nret hx hb hr (Or.inl ⟨_, rfl⟩) hlocks dX1_onTier_21 hP hS ⟨by unfold occI; rw [if_pos (by omega), show ((j : Int)).toNat = j from rfl, n_5]; rfl, rfl⟩
      | some b_6 =>
        refine fw_top (v' := .ref (ad 5 (b_6))) rfl ?_
        obtain ⟨n_5n, n_5s, n_5k, n_5t⟩ := occ_some n_5
        subst hQ
        exact fw_rret hx hb hr (Or.inl ⟨_, rfl⟩) hlocks dX1_onTier_21 hP hS ⟨by unfold occI; rw [if_pos (by omega), show ((j : Int)).toNat = j from rfl, n_5]; rfl, rfl⟩
    · refine lv_null hx hb dX1_onTier_13 ?_
      subst hQ
      exact fw_nret hx hb hr (Or.inl ⟨_, rfl⟩) hlocks dX1_onTier_14 hP hS ⟨by unfold occI; rw [if_neg (by omega)]; rfl, rfl⟩

abbrev rm_X1_weightSum : Room := { frames := 0, cells := 0, slots := 0, locals := 0 }
abbrev po_X1_weightSum (cA : Nat → ClassId) (ad : fw_Ad) (σ : St) (μ : fw_W) (k : Nat) : Int32 → fw_W → Prop := fun r w' => r = iI ((wOf σ k : Nat) : Int) ∧ w' = WC cA ad σ μ
set_option maxHeartbeats 4000000 in
set_option maxRecDepth 100000 in
theorem c_X1_weightSum (l : Launch) (D : va_G) (cA : Nat → ClassId) (z : Nat) (ad : fw_Ad) (σ : St) (μ : fw_W) (k : Nat) (hI : Inv σ) (hk : k < 30) : Met l yX1_weightSum wsX1_weightSum rm_X1_weightSum (va_Pc [.ref (ad 3 (k))] (fw_Pre D vwCl (fw_T cA) z ad (WC cA ad σ μ))) (fw_Qi D vwCl z ad (po_X1_weightSum cA ad σ μ k)) 0 0 (fw_A z) := by
  refine Met.ofW (cc := cX1_weightSum) (maxL := 6) (ret := (some .int)) (by decide) rfl ?_
  intro pg en s m args below meth cd s₁ B hml hv
  obtain ⟨hargs, hP, hK⟩ := hv
  have hx := B.exec
  have hb := B.bytes
  have hr := B.returns
  have hts := atoms_spec (ws := wsX1_weightSum) B.pre
  have hown : s.vm.findClass RX1 = some m.cls := findClass_of_methodNamed B.named
  have hlocks := B.notSynchronized
  have hinX0 : ∀ w ∈ u_ws RX0 TX0 8, w ∈ wsX1_weightSum := by decide +kernel
  have hinX1 : ∀ w ∈ u_ws RX1 TX1 5, w ∈ wsX1_weightSum := by decide +kernel
  have hf11 := hts (.fieldLink RX1 11 "StowagePlan$Stack" "boxes" "[LStowagePlan$Box;") (by decide +kernel)
  have hf58 := hts (.fieldLink RX1 58 "StowagePlan$Box" "weight" "I") (by decide +kernel)
  have hl := lv_entry ([.ref (ad 3 (k))]) (n := 6) (Nat.le_of_ble_eq_true rfl)
  have hent : entryFrame m args 6 = entryFrame m ([.ref (ad 3 (k))] : List Value).toArray 6 := by rw [hargs]
  rw [hent, lg_entry_eq]
  generalize (lg_sl ([.ref (ad 3 (k))]) ++ List.replicate (6 - (lg_sl ([.ref (ad 3 (k))])).length) Slot.unset).toArray = ls at hl ⊢
  have hl : lv_has ls 6 [(0, .ref (ad 3 (k)))] := hl
  generalize hQ : MQ below (fw_Qi D vwCl z ad (po_X1_weightSum cA ad σ μ k)) args s 0 0 (fw_A z) = Q
  generalize hH : s.heap = H at hP ⊢
  have hS : va_S (fw_A z) s.heap H [] := by rw [← hH]; exact va_S.rf
  generalize ([] : List Loc) = locs at hS ⊢
  refine lv_iconst (v := iI ((0 : Nat) : Int)) hx hb dX1_weightSum_0 (by decide) ?_
  refine lv_istore_n (lv' := [(1, .int (iI ((0 : Nat) : Int))), (0, .ref (ad 3 (k)))]) hx hb dX1_weightSum_1 rfl hl (by decide) rfl (fun ls hl => ?_)
  refine lv_aload_n hx hb dX1_weightSum_2 rfl (lv_at hl 1 rfl) ?_
  refine fw_get (ci := 1) (v := .ref (ad 4 (k))) (C := RX1) (T := TX1) (N := 5) hx hb hts hinX1 hown hK hP (WC_3 hk) rfl 2 (by decide) hf11 (fun _ h9 => h9) rfl dX1_weightSum_3 ?_
  have hh_1 := high_le hI k
  have hp_2 := hI.pl k
  refine lv_astore_n (lv' := [(2, .ref (ad 4 (k))), (1, .int (iI ((0 : Nat) : Int))), (0, .ref (ad 3 (k)))]) hx hb dX1_weightSum_6 rfl hl (by decide) rfl (fun ls hl => ?_)
  refine lv_aload_n hx hb dX1_weightSum_7 rfl (lv_at hl 0 rfl) ?_
  refine fw_alen (v := iI ((4 : Nat) : Int)) hx hb hK hP (WC_4 hk) 2 rfl rfl dX1_weightSum_8 ?_
  refine lv_istore_n (lv' := [(3, .int (iI ((4 : Nat) : Int))), (2, .ref (ad 4 (k))), (1, .int (iI ((0 : Nat) : Int))), (0, .ref (ad 3 (k)))]) hx hb dX1_weightSum_9 rfl hl (by decide) rfl (fun ls hl => ?_)
  refine lv_iconst (v := iI ((0 : Nat) : Int)) hx hb dX1_weightSum_10 (by decide) ?_
  refine lv_istore (lv' := [(4, .int (iI ((0 : Nat) : Int))), (3, .int (iI ((4 : Nat) : Int))), (2, .ref (ad 4 (k))), (1, .int (iI ((0 : Nat) : Int))), (0, .ref (ad 3 (k)))]) hx hb dX1_weightSum_11 hl (by decide) rfl (fun ls hl => ?_)
  have loop_13 : ∀ (d i : Nat) (a : Nat), 4 + 1 ≤ i + d → i ≤ 4 → a = sumN (ocN σ k (fun c => σ 0 c)) i → ∀ (H : Heap) (locs : List Loc) (ls : Array Slot), fw_P D vwCl z ad (WC cA ad σ μ) H → va_S (fw_A z) s.heap H locs → lv_has ls 6 [(0, .ref (ad 3 (k))), (1, .int (iI ((a : Nat) : Int))), (2, .ref (ad 4 (k))), (3, .int (iI ((4 : Nat) : Int))), (4, .int (iI ((i : Nat) : Int)))] → W pg l en (headSpec wsX1_weightSum rm_X1_weightSum).room s m args below meth cd H locs 0 0 Q (F0 m 13 ls []) := by
    intro d
    induction d with
    | zero => intro i a hd_13 hi_13; omega
    | succ d ih_13 =>
      intro i a hd_13 hi_13 e_a H locs ls hP hS hl
      subst e_a
      refine lv_iload hx hb dX1_weightSum_13 (lv_at hl 4 rfl) ?_
      refine lv_iload_n hx hb dX1_weightSum_15 rfl (lv_at hl 3 rfl) ?_
      refine fw_icmp_ge (x := ((i : Nat) : Int)) (y := ((4 : Nat) : Int)) (tgt := 44) hx hb dX1_weightSum_16 (by decide) ⟨by omega, by omega⟩ ⟨by omega, by omega⟩ (fun c_3 => ?_) (fun c_3 => ?_)
      · refine lv_iload_n hx hb dX1_weightSum_44 rfl (lv_at hl 1 rfl) ?_
        subst hQ
        exact fw_iret hx hb hr hlocks dX1_weightSum_45 hP hS ⟨by rw [show i = 4 from by omega, wOf_occ hI], rfl⟩
      · refine lv_aload_n hx hb dX1_weightSum_19 rfl (lv_at hl 2 rfl) ?_
        refine lv_iload hx hb dX1_weightSum_20 (lv_at hl 4 rfl) ?_
        refine fw_aldN (j := i) hx hb hK hP (WC_4 hk) 2 rfl (by omega) (by decide) dX1_weightSum_22 ?_
        cases n_4 : occ σ k i with
        | none =>
          refine fw_top (v' := .null) rfl ?_
          refine lv_astoreN (lv' := [(5, .null), (0, .ref (ad 3 (k))), (1, .int (iI ((sumN (ocN σ k (fun c => σ 0 c)) i : Nat) : Int))), (2, .ref (ad 4 (k))), (3, .int (iI ((4 : Nat) : Int))), (4, .int (iI ((i : Nat) : Int)))]) hx hb dX1_weightSum_23 hl (by decide) rfl (fun ls hl => ?_)
          refine lv_aloadN hx hb dX1_weightSum_25 (lv_at hl 0 rfl) ?_
          refine lv_ifnullN (tgt := 38) hx hb dX1_weightSum_27 (by decide) ?_
          refine fw_iincN (x := i) (lv' := [(4, .int (iI ((i + 1 : Nat) : Int))), (5, .null), (0, .ref (ad 3 (k))), (1, .int (iI ((sumN (ocN σ k (fun c => σ 0 c)) i : Nat) : Int))), (2, .ref (ad 4 (k))), (3, .int (iI ((4 : Nat) : Int)))]) hx hb dX1_weightSum_38 hl (k := 5) rfl (by decide) rfl (fun ls hl => ?_)
          refine lv_goto (tgt := 13) hx hb dX1_weightSum_41 (by decide) ?_
          exact ih_13 (i + 1) _ (by omega) (by omega) (by rw [sumN, ocN_n n_4]; rfl) H locs ls hP hS (lv_sub hl [2, 3, 4, 5, 0] rfl)
        | some b_5 =>
          refine fw_top (v' := .ref (ad 5 (b_5))) rfl ?_
          obtain ⟨n_4n, n_4s, n_4k, n_4t⟩ := occ_some n_4
          refine lv_astore (lv' := [(5, .ref (ad 5 (b_5))), (0, .ref (ad 3 (k))), (1, .int (iI ((sumN (ocN σ k (fun c => σ 0 c)) i : Nat) : Int))), (2, .ref (ad 4 (k))), (3, .int (iI ((4 : Nat) : Int))), (4, .int (iI ((i : Nat) : Int)))]) hx hb dX1_weightSum_23 hl (by decide) rfl (fun ls hl => ?_)
          refine lv_aload hx hb dX1_weightSum_25 (lv_at hl 0 rfl) ?_
          refine lv_ifnull hx hb dX1_weightSum_27 ?_
          refine lv_iload_n hx hb dX1_weightSum_30 rfl (lv_at hl 2 rfl) ?_
          refine lv_aload hx hb dX1_weightSum_31 (lv_at hl 0 rfl) ?_
          refine fw_get (ci := 0) (v := .int (iI ((σ 0 b_5 : Nat) : Int))) (C := RX0) (T := TX0) (N := 8) hx hb hts hinX0 hown hK hP (WC_5 n_4n) rfl 1 (by decide) hf58 (fun _ h9 => h9) rfl dX1_weightSum_33 ?_
          have hc_6 := hI.c b_5
          refine fw_iaddN (a := sumN (ocN σ k (fun c => σ 0 c)) i) (b := σ 0 b_5) hx hb dX1_weightSum_36 ?_
          refine lv_istore_n (lv' := [(1, .int (iI (((sumN (ocN σ k (fun c => σ 0 c)) i) + (σ 0 b_5) : Nat) : Int))), (5, .ref (ad 5 (b_5))), (0, .ref (ad 3 (k))), (2, .ref (ad 4 (k))), (3, .int (iI ((4 : Nat) : Int))), (4, .int (iI ((i : Nat) : Int)))]) hx hb dX1_weightSum_37 rfl hl (by decide) rfl (fun ls hl => ?_)
          refine fw_iincN (x := i) (lv' := [(4, .int (iI ((i + 1 : Nat) : Int))), (1, .int (iI (((sumN (ocN σ k (fun c => σ 0 c)) i) + (σ 0 b_5) : Nat) : Int))), (5, .ref (ad 5 (b_5))), (0, .ref (ad 3 (k))), (2, .ref (ad 4 (k))), (3, .int (iI ((4 : Nat) : Int)))]) hx hb dX1_weightSum_38 hl (k := 5) rfl (by decide) rfl (fun ls hl => ?_)
          refine lv_goto (tgt := 13) hx hb dX1_weightSum_41 (by decide) ?_
          exact ih_13 (i + 1) _ (by omega) (by omega) (by rw [sumN, ocN_s n_4] <;> (try split) <;> omega) H locs ls hP hS (lv_sub hl [3, 1, 4, 5, 0] rfl)
  exact loop_13 (4 + 1) (0) _ (by omega) (by omega) (by rfl) H locs ls hP hS (lv_sub hl [4, 3, 2, 1, 0] rfl)

abbrev rm_X1_countLandedBefore : Room := { frames := 0, cells := 0, slots := 0, locals := 0 }
abbrev po_X1_countLandedBefore (cA : Nat → ClassId) (ad : fw_Ad) (σ : St) (μ : fw_W) (k : Nat) (t : Nat) : Int32 → fw_W → Prop := fun r w' => r = iI ((earlier σ k t : Nat) : Int) ∧ w' = WC cA ad σ μ
set_option maxHeartbeats 4000000 in
set_option maxRecDepth 100000 in
theorem c_X1_countLandedBefore (l : Launch) (D : va_G) (cA : Nat → ClassId) (z : Nat) (ad : fw_Ad) (σ : St) (μ : fw_W) (k : Nat) (t : Nat) (hI : Inv σ) (hk : k < 30) (ht : t ≤ 5) : Met l yX1_countLandedBefore wsX1_countLandedBefore rm_X1_countLandedBefore (va_Pc [.ref (ad 3 (k)), .int (iI ((t : Nat) : Int))] (fw_Pre D vwCl (fw_T cA) z ad (WC cA ad σ μ))) (fw_Qi D vwCl z ad (po_X1_countLandedBefore cA ad σ μ k t)) 0 0 (fw_A z) := by
  refine Met.ofW (cc := cX1_countLandedBefore) (maxL := 7) (ret := (some .int)) (by decide) rfl ?_
  intro pg en s m args below meth cd s₁ B hml hv
  obtain ⟨hargs, hP, hK⟩ := hv
  have hx := B.exec
  have hb := B.bytes
  have hr := B.returns
  have hts := atoms_spec (ws := wsX1_countLandedBefore) B.pre
  have hown : s.vm.findClass RX1 = some m.cls := findClass_of_methodNamed B.named
  have hlocks := B.notSynchronized
  have hinX0 : ∀ w ∈ u_ws RX0 TX0 8, w ∈ wsX1_countLandedBefore := by decide +kernel
  have hinX1 : ∀ w ∈ u_ws RX1 TX1 5, w ∈ wsX1_countLandedBefore := by decide +kernel
  have hf11 := hts (.fieldLink RX1 11 "StowagePlan$Stack" "boxes" "[LStowagePlan$Box;") (by decide +kernel)
  have hf48 := hts (.fieldLink RX1 48 "StowagePlan$Box" "to" "I") (by decide +kernel)
  have hl := lv_entry ([.ref (ad 3 (k)), .int (iI ((t : Nat) : Int))]) (n := 7) (Nat.le_of_ble_eq_true rfl)
  have hent : entryFrame m args 7 = entryFrame m ([.ref (ad 3 (k)), .int (iI ((t : Nat) : Int))] : List Value).toArray 7 := by rw [hargs]
  rw [hent, lg_entry_eq]
  generalize (lg_sl ([.ref (ad 3 (k)), .int (iI ((t : Nat) : Int))]) ++ List.replicate (7 - (lg_sl ([.ref (ad 3 (k)), .int (iI ((t : Nat) : Int))])).length) Slot.unset).toArray = ls at hl ⊢
  have hl : lv_has ls 7 [(0, .ref (ad 3 (k))), (1, .int (iI ((t : Nat) : Int)))] := hl
  generalize hQ : MQ below (fw_Qi D vwCl z ad (po_X1_countLandedBefore cA ad σ μ k t)) args s 0 0 (fw_A z) = Q
  generalize hH : s.heap = H at hP ⊢
  have hS : va_S (fw_A z) s.heap H [] := by rw [← hH]; exact va_S.rf
  generalize ([] : List Loc) = locs at hS ⊢
  refine lv_iconst (v := iI ((0 : Nat) : Int)) hx hb dX1_countLandedBefore_0 (by decide) ?_
  refine lv_istore_n (lv' := [(2, .int (iI ((0 : Nat) : Int))), (0, .ref (ad 3 (k))), (1, .int (iI ((t : Nat) : Int)))]) hx hb dX1_countLandedBefore_1 rfl hl (by decide) rfl (fun ls hl => ?_)
  refine lv_aload_n hx hb dX1_countLandedBefore_2 rfl (lv_at hl 1 rfl) ?_
  refine fw_get (ci := 1) (v := .ref (ad 4 (k))) (C := RX1) (T := TX1) (N := 5) hx hb hts hinX1 hown hK hP (WC_3 hk) rfl 2 (by decide) hf11 (fun _ h9 => h9) rfl dX1_countLandedBefore_3 ?_
  have hh_1 := high_le hI k
  have hp_2 := hI.pl k
  refine lv_astore_n (lv' := [(3, .ref (ad 4 (k))), (2, .int (iI ((0 : Nat) : Int))), (0, .ref (ad 3 (k))), (1, .int (iI ((t : Nat) : Int)))]) hx hb dX1_countLandedBefore_6 rfl hl (by decide) rfl (fun ls hl => ?_)
  refine lv_aload_n hx hb dX1_countLandedBefore_7 rfl (lv_at hl 0 rfl) ?_
  refine fw_alen (v := iI ((4 : Nat) : Int)) hx hb hK hP (WC_4 hk) 2 rfl rfl dX1_countLandedBefore_8 ?_
  refine lv_istore (lv' := [(4, .int (iI ((4 : Nat) : Int))), (3, .ref (ad 4 (k))), (2, .int (iI ((0 : Nat) : Int))), (0, .ref (ad 3 (k))), (1, .int (iI ((t : Nat) : Int)))]) hx hb dX1_countLandedBefore_9 hl (by decide) rfl (fun ls hl => ?_)
  refine lv_iconst (v := iI ((0 : Nat) : Int)) hx hb dX1_countLandedBefore_11 (by decide) ?_
  refine lv_istore (lv' := [(5, .int (iI ((0 : Nat) : Int))), (4, .int (iI ((4 : Nat) : Int))), (3, .ref (ad 4 (k))), (2, .int (iI ((0 : Nat) : Int))), (0, .ref (ad 3 (k))), (1, .int (iI ((t : Nat) : Int)))]) hx hb dX1_countLandedBefore_12 hl (by decide) rfl (fun ls hl => ?_)
  have loop_14 : ∀ (d i : Nat) (a : Nat), 4 + 1 ≤ i + d → i ≤ 4 → a = sumN (ocN σ k (fun c => if σ 2 c < t then 1 else 0)) i → ∀ (H : Heap) (locs : List Loc) (ls : Array Slot), fw_P D vwCl z ad (WC cA ad σ μ) H → va_S (fw_A z) s.heap H locs → lv_has ls 7 [(0, .ref (ad 3 (k))), (1, .int (iI ((t : Nat) : Int))), (2, .int (iI ((a : Nat) : Int))), (3, .ref (ad 4 (k))), (4, .int (iI ((4 : Nat) : Int))), (5, .int (iI ((i : Nat) : Int)))] → W pg l en (headSpec wsX1_countLandedBefore rm_X1_countLandedBefore).room s m args below meth cd H locs 0 0 Q (F0 m 14 ls []) := by
    intro d
    induction d with
    | zero => intro i a hd_14 hi_14; omega
    | succ d ih_14 =>
      intro i a hd_14 hi_14 e_a H locs ls hP hS hl
      subst e_a
      refine lv_iload hx hb dX1_countLandedBefore_14 (lv_at hl 5 rfl) ?_
      refine lv_iload hx hb dX1_countLandedBefore_16 (lv_at hl 4 rfl) ?_
      refine fw_icmp_ge (x := ((i : Nat) : Int)) (y := ((4 : Nat) : Int)) (tgt := 50) hx hb dX1_countLandedBefore_18 (by decide) ⟨by omega, by omega⟩ ⟨by omega, by omega⟩ (fun c_3 => ?_) (fun c_3 => ?_)
      · refine lv_iload_n hx hb dX1_countLandedBefore_50 rfl (lv_at hl 2 rfl) ?_
        subst hQ
        exact fw_iret hx hb hr hlocks dX1_countLandedBefore_51 hP hS ⟨by rw [show i = 4 from by omega, earlier_occ hI], rfl⟩
      · refine lv_aload_n hx hb dX1_countLandedBefore_21 rfl (lv_at hl 3 rfl) ?_
        refine lv_iload hx hb dX1_countLandedBefore_22 (lv_at hl 5 rfl) ?_
        refine fw_aldN (j := i) hx hb hK hP (WC_4 hk) 2 rfl (by omega) (by decide) dX1_countLandedBefore_24 ?_
        cases n_4 : occ σ k i with
        | none =>
          refine fw_top (v' := .null) rfl ?_
          refine lv_astoreN (lv' := [(6, .null), (0, .ref (ad 3 (k))), (1, .int (iI ((t : Nat) : Int))), (2, .int (iI ((sumN (ocN σ k (fun c => if σ 2 c < t then 1 else 0)) i : Nat) : Int))), (3, .ref (ad 4 (k))), (4, .int (iI ((4 : Nat) : Int))), (5, .int (iI ((i : Nat) : Int)))]) hx hb dX1_countLandedBefore_25 hl (by decide) rfl (fun ls hl => ?_)
          refine lv_aloadN hx hb dX1_countLandedBefore_27 (lv_at hl 0 rfl) ?_
          refine lv_ifnullN (tgt := 44) hx hb dX1_countLandedBefore_29 (by decide) ?_
          refine fw_iincN (x := i) (lv' := [(5, .int (iI ((i + 1 : Nat) : Int))), (6, .null), (0, .ref (ad 3 (k))), (1, .int (iI ((t : Nat) : Int))), (2, .int (iI ((sumN (ocN σ k (fun c => if σ 2 c < t then 1 else 0)) i : Nat) : Int))), (3, .ref (ad 4 (k))), (4, .int (iI ((4 : Nat) : Int)))]) hx hb dX1_countLandedBefore_44 hl (k := 6) rfl (by decide) rfl (fun ls hl => ?_)
          refine lv_goto (tgt := 14) hx hb dX1_countLandedBefore_47 (by decide) ?_
          exact ih_14 (i + 1) _ (by omega) (by omega) (by rw [sumN, ocN_n n_4]; rfl) H locs ls hP hS (lv_sub hl [2, 3, 4, 5, 6, 0] rfl)
        | some b_5 =>
          refine fw_top (v' := .ref (ad 5 (b_5))) rfl ?_
          obtain ⟨n_4n, n_4s, n_4k, n_4t⟩ := occ_some n_4
          refine lv_astore (lv' := [(6, .ref (ad 5 (b_5))), (0, .ref (ad 3 (k))), (1, .int (iI ((t : Nat) : Int))), (2, .int (iI ((sumN (ocN σ k (fun c => if σ 2 c < t then 1 else 0)) i : Nat) : Int))), (3, .ref (ad 4 (k))), (4, .int (iI ((4 : Nat) : Int))), (5, .int (iI ((i : Nat) : Int)))]) hx hb dX1_countLandedBefore_25 hl (by decide) rfl (fun ls hl => ?_)
          refine lv_aload hx hb dX1_countLandedBefore_27 (lv_at hl 0 rfl) ?_
          refine lv_ifnull hx hb dX1_countLandedBefore_29 ?_
          refine lv_aload hx hb dX1_countLandedBefore_32 (lv_at hl 0 rfl) ?_
          refine fw_get (ci := 0) (v := .int (iI ((σ 2 b_5 : Nat) : Int))) (C := RX0) (T := TX0) (N := 8) hx hb hts hinX0 hown hK hP (WC_5 n_4n) rfl 3 (by decide) hf48 (fun _ h9 => h9) rfl dX1_countLandedBefore_34 ?_
          have hc_6 := hI.c b_5
          refine lv_iload_n hx hb dX1_countLandedBefore_37 rfl (lv_at hl 2 rfl) ?_
          refine fw_icmp_ge (x := ((σ 2 b_5 : Nat) : Int)) (y := ((t : Nat) : Int)) (tgt := 44) hx hb dX1_countLandedBefore_38 (by decide) ⟨by omega, by omega⟩ ⟨by omega, by omega⟩ (fun c_7 => ?_) (fun c_7 => ?_)
          · refine fw_iincN (x := i) (lv' := [(5, .int (iI ((i + 1 : Nat) : Int))), (6, .ref (ad 5 (b_5))), (0, .ref (ad 3 (k))), (1, .int (iI ((t : Nat) : Int))), (2, .int (iI ((sumN (ocN σ k (fun c => if σ 2 c < t then 1 else 0)) i : Nat) : Int))), (3, .ref (ad 4 (k))), (4, .int (iI ((4 : Nat) : Int)))]) hx hb dX1_countLandedBefore_44 hl (k := 6) rfl (by decide) rfl (fun ls hl => ?_)
            refine lv_goto (tgt := 14) hx hb dX1_countLandedBefore_47 (by decide) ?_
            exact ih_14 (i + 1) _ (by omega) (by omega) (by rw [sumN, ocN_s n_4] <;> (try split) <;> omega) H locs ls hP hS (lv_sub hl [2, 3, 4, 5, 6, 0] rfl)
          · refine fw_iincN (x := sumN (ocN σ k (fun c => if σ 2 c < t then 1 else 0)) i) (lv' := [(2, .int (iI (((sumN (ocN σ k (fun c => if σ 2 c < t then 1 else 0)) i) + 1 : Nat) : Int))), (6, .ref (ad 5 (b_5))), (0, .ref (ad 3 (k))), (1, .int (iI ((t : Nat) : Int))), (3, .ref (ad 4 (k))), (4, .int (iI ((4 : Nat) : Int))), (5, .int (iI ((i : Nat) : Int)))]) hx hb dX1_countLandedBefore_41 hl (k := 3) rfl (by decide) rfl (fun ls hl => ?_)
            refine fw_iincN (x := i) (lv' := [(5, .int (iI ((i + 1 : Nat) : Int))), (2, .int (iI (((sumN (ocN σ k (fun c => if σ 2 c < t then 1 else 0)) i) + 1 : Nat) : Int))), (6, .ref (ad 5 (b_5))), (0, .ref (ad 3 (k))), (1, .int (iI ((t : Nat) : Int))), (3, .ref (ad 4 (k))), (4, .int (iI ((4 : Nat) : Int)))]) hx hb dX1_countLandedBefore_44 hl (k := 6) rfl (by decide) rfl (fun ls hl => ?_)
            refine lv_goto (tgt := 14) hx hb dX1_countLandedBefore_47 (by decide) ?_
            exact ih_14 (i + 1) _ (by omega) (by omega) (by rw [sumN, ocN_s n_4] <;> (try split) <;> omega) H locs ls hP hS (lv_sub hl [3, 4, 1, 5, 6, 0] rfl)
  exact loop_14 (4 + 1) (0) _ (by omega) (by omega) (by rfl) H locs ls hP hS (lv_sub hl [4, 5, 3, 2, 1, 0] rfl)

abbrev rm_X1_liftsFor : Room := { frames := 0, cells := 0, slots := 0, locals := 0 }
abbrev po_X1_liftsFor (cA : Nat → ClassId) (ad : fw_Ad) (σ : St) (μ : fw_W) (k : Nat) (p : Nat) : Int32 → fw_W → Prop := fun r w' => r = iI ((lifS σ k p : Nat) : Int) ∧ w' = WC cA ad σ μ
set_option maxHeartbeats 4000000 in
set_option maxRecDepth 100000 in
theorem c_X1_liftsFor (l : Launch) (D : va_G) (cA : Nat → ClassId) (z : Nat) (ad : fw_Ad) (σ : St) (μ : fw_W) (k : Nat) (p : Nat) (hI : Inv σ) (hk : k < 30) (hp : p ≤ 5) : Met l yX1_liftsFor wsX1_liftsFor rm_X1_liftsFor (va_Pc [.ref (ad 3 (k)), .int (iI ((p : Nat) : Int))] (fw_Pre D vwCl (fw_T cA) z ad (WC cA ad σ μ))) (fw_Qi D vwCl z ad (po_X1_liftsFor cA ad σ μ k p)) 0 0 (fw_A z) := by
  refine Met.ofW (cc := cX1_liftsFor) (maxL := 8) (ret := (some .int)) (by decide) rfl ?_
  intro pg en s m args below meth cd s₁ B hml hv
  obtain ⟨hargs, hP, hK⟩ := hv
  have hx := B.exec
  have hb := B.bytes
  have hr := B.returns
  have hts := atoms_spec (ws := wsX1_liftsFor) B.pre
  have hown : s.vm.findClass RX1 = some m.cls := findClass_of_methodNamed B.named
  have hlocks := B.notSynchronized
  have hinX0 : ∀ w ∈ u_ws RX0 TX0 8, w ∈ wsX1_liftsFor := by decide +kernel
  have hinX1 : ∀ w ∈ u_ws RX1 TX1 5, w ∈ wsX1_liftsFor := by decide +kernel
  have hf11 := hts (.fieldLink RX1 11 "StowagePlan$Stack" "boxes" "[LStowagePlan$Box;") (by decide +kernel)
  have hf48 := hts (.fieldLink RX1 48 "StowagePlan$Box" "to" "I") (by decide +kernel)
  have hl := lv_entry ([.ref (ad 3 (k)), .int (iI ((p : Nat) : Int))]) (n := 8) (Nat.le_of_ble_eq_true rfl)
  have hent : entryFrame m args 8 = entryFrame m ([.ref (ad 3 (k)), .int (iI ((p : Nat) : Int))] : List Value).toArray 8 := by rw [hargs]
  rw [hent, lg_entry_eq]
  generalize (lg_sl ([.ref (ad 3 (k)), .int (iI ((p : Nat) : Int))]) ++ List.replicate (8 - (lg_sl ([.ref (ad 3 (k)), .int (iI ((p : Nat) : Int))])).length) Slot.unset).toArray = ls at hl ⊢
  have hl : lv_has ls 8 [(0, .ref (ad 3 (k))), (1, .int (iI ((p : Nat) : Int)))] := hl
  generalize hQ : MQ below (fw_Qi D vwCl z ad (po_X1_liftsFor cA ad σ μ k p)) args s 0 0 (fw_A z) = Q
  generalize hH : s.heap = H at hP ⊢
  have hS : va_S (fw_A z) s.heap H [] := by rw [← hH]; exact va_S.rf
  generalize ([] : List Loc) = locs at hS ⊢
  refine lv_iconst (v := iI ((0 : Nat) : Int)) hx hb dX1_liftsFor_0 (by decide) ?_
  refine lv_istore_n (lv' := [(2, .int (iI ((0 : Nat) : Int))), (0, .ref (ad 3 (k))), (1, .int (iI ((p : Nat) : Int)))]) hx hb dX1_liftsFor_1 rfl hl (by decide) rfl (fun ls hl => ?_)
  refine lv_iconst (v := iI ((0 : Nat) : Int)) hx hb dX1_liftsFor_2 (by decide) ?_
  refine lv_istore_n (lv' := [(3, .int (iI ((0 : Nat) : Int))), (2, .int (iI ((0 : Nat) : Int))), (0, .ref (ad 3 (k))), (1, .int (iI ((p : Nat) : Int)))]) hx hb dX1_liftsFor_3 rfl hl (by decide) rfl (fun ls hl => ?_)
  refine lv_aload_n hx hb dX1_liftsFor_4 rfl (lv_at hl 2 rfl) ?_
  refine fw_get (ci := 1) (v := .ref (ad 4 (k))) (C := RX1) (T := TX1) (N := 5) hx hb hts hinX1 hown hK hP (WC_3 hk) rfl 2 (by decide) hf11 (fun _ h9 => h9) rfl dX1_liftsFor_5 ?_
  have hh_1 := high_le hI k
  have hp_2 := hI.pl k
  refine lv_astore (lv' := [(4, .ref (ad 4 (k))), (3, .int (iI ((0 : Nat) : Int))), (2, .int (iI ((0 : Nat) : Int))), (0, .ref (ad 3 (k))), (1, .int (iI ((p : Nat) : Int)))]) hx hb dX1_liftsFor_8 hl (by decide) rfl (fun ls hl => ?_)
  refine lv_aload hx hb dX1_liftsFor_10 (lv_at hl 0 rfl) ?_
  refine fw_alen (v := iI ((4 : Nat) : Int)) hx hb hK hP (WC_4 hk) 2 rfl rfl dX1_liftsFor_12 ?_
  refine lv_istore (lv' := [(5, .int (iI ((4 : Nat) : Int))), (4, .ref (ad 4 (k))), (3, .int (iI ((0 : Nat) : Int))), (2, .int (iI ((0 : Nat) : Int))), (0, .ref (ad 3 (k))), (1, .int (iI ((p : Nat) : Int)))]) hx hb dX1_liftsFor_13 hl (by decide) rfl (fun ls hl => ?_)
  refine lv_iconst (v := iI ((0 : Nat) : Int)) hx hb dX1_liftsFor_15 (by decide) ?_
  refine lv_istore (lv' := [(6, .int (iI ((0 : Nat) : Int))), (5, .int (iI ((4 : Nat) : Int))), (4, .ref (ad 4 (k))), (3, .int (iI ((0 : Nat) : Int))), (2, .int (iI ((0 : Nat) : Int))), (0, .ref (ad 3 (k))), (1, .int (iI ((p : Nat) : Int)))]) hx hb dX1_liftsFor_16 hl (by decide) rfl (fun ls hl => ?_)
  have loop_18 : ∀ (d i : Nat) (a : Nat) (fl : Bool), 4 + 1 ≤ i + d → i ≤ 4 → a = sumN (ocN σ k (fun c => if cB (lifC σ p c) = true then 1 else 0)) i → fl = cB (flg σ k p i) → ∀ (H : Heap) (locs : List Loc) (ls : Array Slot), fw_P D vwCl z ad (WC cA ad σ μ) H → va_S (fw_A z) s.heap H locs → lv_has ls 8 [(0, .ref (ad 3 (k))), (1, .int (iI ((p : Nat) : Int))), (2, .int (iI ((a : Nat) : Int))), (3, .int (iI (bI (fl)))), (4, .ref (ad 4 (k))), (5, .int (iI ((4 : Nat) : Int))), (6, .int (iI ((i : Nat) : Int)))] → W pg l en (headSpec wsX1_liftsFor rm_X1_liftsFor).room s m args below meth cd H locs 0 0 Q (F0 m 18 ls []) := by
    intro d
    induction d with
    | zero => intro i a fl hd_18 hi_18; omega
    | succ d ih_18 =>
      intro i a fl hd_18 hi_18 e_a e_fl H locs ls hP hS hl
      subst e_a
      subst e_fl
      refine lv_iload hx hb dX1_liftsFor_18 (lv_at hl 6 rfl) ?_
      refine lv_iload hx hb dX1_liftsFor_20 (lv_at hl 5 rfl) ?_
      refine fw_icmp_ge (x := ((i : Nat) : Int)) (y := ((4 : Nat) : Int)) (tgt := 69) hx hb dX1_liftsFor_22 (by decide) ⟨by omega, by omega⟩ ⟨by omega, by omega⟩ (fun c_3 => ?_) (fun c_3 => ?_)
      · refine lv_iload_n hx hb dX1_liftsFor_69 rfl (lv_at hl 2 rfl) ?_
        subst hQ
        exact fw_iret hx hb hr hlocks dX1_liftsFor_70 hP hS ⟨by rw [show i = 4 from by omega, lifS_occ hI], rfl⟩
      · refine lv_aload hx hb dX1_liftsFor_25 (lv_at hl 4 rfl) ?_
        refine lv_iload hx hb dX1_liftsFor_27 (lv_at hl 6 rfl) ?_
        refine fw_aldN (j := i) hx hb hK hP (WC_4 hk) 2 rfl (by omega) (by decide) dX1_liftsFor_29 ?_
        cases n_4 : occ σ k i with
        | none =>
          refine fw_top (v' := .null) rfl ?_
          refine lv_astoreN (lv' := [(7, .null), (0, .ref (ad 3 (k))), (1, .int (iI ((p : Nat) : Int))), (2, .int (iI ((sumN (ocN σ k (fun c => if cB (lifC σ p c) = true then 1 else 0)) i : Nat) : Int))), (3, .int (iI (bI (cB (flg σ k p i))))), (4, .ref (ad 4 (k))), (5, .int (iI ((4 : Nat) : Int))), (6, .int (iI ((i : Nat) : Int)))]) hx hb dX1_liftsFor_30 hl (by decide) rfl (fun ls hl => ?_)
          refine lv_aloadN hx hb dX1_liftsFor_32 (lv_at hl 0 rfl) ?_
          refine lv_ifnullN (tgt := 51) hx hb dX1_liftsFor_34 (by decide) ?_
          refine lv_aloadN hx hb dX1_liftsFor_51 (lv_at hl 0 rfl) ?_
          refine lv_ifnullN (tgt := 63) hx hb dX1_liftsFor_53 (by decide) ?_
          refine fw_iincN (x := i) (lv' := [(6, .int (iI ((i + 1 : Nat) : Int))), (7, .null), (0, .ref (ad 3 (k))), (1, .int (iI ((p : Nat) : Int))), (2, .int (iI ((sumN (ocN σ k (fun c => if cB (lifC σ p c) = true then 1 else 0)) i : Nat) : Int))), (3, .int (iI (bI (cB (flg σ k p i))))), (4, .ref (ad 4 (k))), (5, .int (iI ((4 : Nat) : Int)))]) hx hb dX1_liftsFor_63 hl (k := 7) rfl (by decide) rfl (fun ls hl => ?_)
          refine lv_goto (tgt := 18) hx hb dX1_liftsFor_66 (by decide) ?_
          exact ih_18 (i + 1) _ (cB (flg σ k p i)) (by omega) (by omega) (by rw [sumN, ocN_n n_4]; rfl) (flg_n (by intro c hc; rw [n_4] at hc; cases hc)).symm H locs ls hP hS (lv_sub hl [2, 3, 4, 5, 6, 7, 0] rfl)
        | some b_5 =>
          refine fw_top (v' := .ref (ad 5 (b_5))) rfl ?_
          obtain ⟨n_4n, n_4s, n_4k, n_4t⟩ := occ_some n_4
          refine lv_astore (lv' := [(7, .ref (ad 5 (b_5))), (0, .ref (ad 3 (k))), (1, .int (iI ((p : Nat) : Int))), (2, .int (iI ((sumN (ocN σ k (fun c => if cB (lifC σ p c) = true then 1 else 0)) i : Nat) : Int))), (3, .int (iI (bI (cB (flg σ k p i))))), (4, .ref (ad 4 (k))), (5, .int (iI ((4 : Nat) : Int))), (6, .int (iI ((i : Nat) : Int)))]) hx hb dX1_liftsFor_30 hl (by decide) rfl (fun ls hl => ?_)
          refine lv_aload hx hb dX1_liftsFor_32 (lv_at hl 0 rfl) ?_
          refine lv_ifnull hx hb dX1_liftsFor_34 ?_
          refine lv_aload hx hb dX1_liftsFor_37 (lv_at hl 0 rfl) ?_
          refine fw_get (ci := 0) (v := .int (iI ((σ 2 b_5 : Nat) : Int))) (C := RX0) (T := TX0) (N := 8) hx hb hts hinX0 hown hK hP (WC_5 n_4n) rfl 3 (by decide) hf48 (fun _ h9 => h9) rfl dX1_liftsFor_39 ?_
          have hc_6 := hI.c b_5
          refine lv_iload_n hx hb dX1_liftsFor_42 rfl (lv_at hl 2 rfl) ?_
          refine fw_icmp_ne (x := ((σ 2 b_5 : Nat) : Int)) (y := ((p : Nat) : Int)) (tgt := 51) hx hb dX1_liftsFor_43 (by decide) ⟨by omega, by omega⟩ ⟨by omega, by omega⟩ (fun c_7 => ?_) (fun c_7 => ?_)
          · refine lv_aload hx hb dX1_liftsFor_51 (lv_at hl 0 rfl) ?_
            refine lv_ifnull hx hb dX1_liftsFor_53 ?_
            refine lv_iload_n hx hb dX1_liftsFor_56 rfl (lv_at hl 4 rfl) ?_
            refine fw_if_eqB (x := cB (flg σ k p i)) (tgt := 63) hx hb dX1_liftsFor_57 (by decide) (fun c_8 => ?_) (fun c_8 => ?_)
            · replace c_8 := cB_f.mp c_8
              refine fw_iincN (x := i) (lv' := [(6, .int (iI ((i + 1 : Nat) : Int))), (7, .ref (ad 5 (b_5))), (0, .ref (ad 3 (k))), (1, .int (iI ((p : Nat) : Int))), (2, .int (iI ((sumN (ocN σ k (fun c => if cB (lifC σ p c) = true then 1 else 0)) i : Nat) : Int))), (3, .int (iI (bI (cB (flg σ k p i))))), (4, .ref (ad 4 (k))), (5, .int (iI ((4 : Nat) : Int)))]) hx hb dX1_liftsFor_63 hl (k := 7) rfl (by decide) rfl (fun ls hl => ?_)
              refine lv_goto (tgt := 18) hx hb dX1_liftsFor_66 (by decide) ?_
              exact ih_18 (i + 1) _ (cB (flg σ k p i)) (by omega) (by omega) (by rw [sumN, ocN_s n_4]; have hq := lif_flg hI n_4 (p := p) (by omega); first | rw [if_pos (by rw [cB_t, hq]; assumption)] | (rw [if_neg (by rw [cB_t, hq]; assumption)]; rfl)) (flg_n (by intro c hc; rw [n_4] at hc; cases hc; omega)).symm H locs ls hP hS (lv_sub hl [2, 3, 4, 5, 6, 7, 0] rfl)
            · replace c_8 := cB_t.mp c_8
              refine fw_iincN (x := sumN (ocN σ k (fun c => if cB (lifC σ p c) = true then 1 else 0)) i) (lv' := [(2, .int (iI (((sumN (ocN σ k (fun c => if cB (lifC σ p c) = true then 1 else 0)) i) + 1 : Nat) : Int))), (7, .ref (ad 5 (b_5))), (0, .ref (ad 3 (k))), (1, .int (iI ((p : Nat) : Int))), (3, .int (iI (bI (cB (flg σ k p i))))), (4, .ref (ad 4 (k))), (5, .int (iI ((4 : Nat) : Int))), (6, .int (iI ((i : Nat) : Int)))]) hx hb dX1_liftsFor_60 hl (k := 3) rfl (by decide) rfl (fun ls hl => ?_)
              refine fw_iincN (x := i) (lv' := [(6, .int (iI ((i + 1 : Nat) : Int))), (2, .int (iI (((sumN (ocN σ k (fun c => if cB (lifC σ p c) = true then 1 else 0)) i) + 1 : Nat) : Int))), (7, .ref (ad 5 (b_5))), (0, .ref (ad 3 (k))), (1, .int (iI ((p : Nat) : Int))), (3, .int (iI (bI (cB (flg σ k p i))))), (4, .ref (ad 4 (k))), (5, .int (iI ((4 : Nat) : Int)))]) hx hb dX1_liftsFor_63 hl (k := 7) rfl (by decide) rfl (fun ls hl => ?_)
              refine lv_goto (tgt := 18) hx hb dX1_liftsFor_66 (by decide) ?_
              exact ih_18 (i + 1) _ (cB (flg σ k p i)) (by omega) (by omega) (by rw [sumN, ocN_s n_4]; have hq := lif_flg hI n_4 (p := p) (by omega); first | rw [if_pos (by rw [cB_t, hq]; assumption)] | (rw [if_neg (by rw [cB_t, hq]; assumption)]; rfl)) (flg_n (by intro c hc; rw [n_4] at hc; cases hc; omega)).symm H locs ls hP hS (lv_sub hl [3, 4, 1, 5, 6, 7, 0] rfl)
          · refine lv_iconst (v := iI ((1 : Nat) : Int)) hx hb dX1_liftsFor_46 (by decide) ?_
            refine lv_istore_n (lv' := [(3, .int (iI ((1 : Nat) : Int))), (7, .ref (ad 5 (b_5))), (0, .ref (ad 3 (k))), (1, .int (iI ((p : Nat) : Int))), (2, .int (iI ((sumN (ocN σ k (fun c => if cB (lifC σ p c) = true then 1 else 0)) i : Nat) : Int))), (4, .ref (ad 4 (k))), (5, .int (iI ((4 : Nat) : Int))), (6, .int (iI ((i : Nat) : Int)))]) hx hb dX1_liftsFor_47 rfl hl (by decide) rfl (fun ls hl => ?_)
            refine lv_goto (tgt := 63) hx hb dX1_liftsFor_48 (by decide) ?_
            refine fw_iincN (x := i) (lv' := [(6, .int (iI ((i + 1 : Nat) : Int))), (3, .int (iI ((1 : Nat) : Int))), (7, .ref (ad 5 (b_5))), (0, .ref (ad 3 (k))), (1, .int (iI ((p : Nat) : Int))), (2, .int (iI ((sumN (ocN σ k (fun c => if cB (lifC σ p c) = true then 1 else 0)) i : Nat) : Int))), (4, .ref (ad 4 (k))), (5, .int (iI ((4 : Nat) : Int)))]) hx hb dX1_liftsFor_63 hl (k := 7) rfl (by decide) rfl (fun ls hl => ?_)
            refine lv_goto (tgt := 18) hx hb dX1_liftsFor_66 (by decide) ?_
            exact ih_18 (i + 1) _ true (by omega) (by omega) (by rw [sumN, ocN_s n_4, if_neg (by rw [cB_t]; rintro ⟨q, -⟩; omega)]; rfl) (flg_t n_4 (by omega)).symm H locs ls hP hS (lv_sub hl [3, 4, 5, 1, 6, 7, 0] rfl)
  exact loop_18 (4 + 1) (0) _ false (by omega) (by omega) (by rfl) flg_0.symm H locs ls hP hS (lv_sub hl [5, 6, 4, 3, 2, 1, 0] rfl)

abbrev rm_X0_isDangerous : Room := { frames := 0, cells := 0, slots := 0, locals := 0 }
abbrev po_X0_isDangerous (cA : Nat → ClassId) (ad : fw_Ad) (σ : St) (μ : fw_W) (c : Nat) : Int32 → fw_W → Prop := fun r w' => r = iI (bI (decide (2 ≤ σ 3 c))) ∧ w' = WC cA ad σ μ
set_option maxHeartbeats 4000000 in
set_option maxRecDepth 100000 in
theorem c_X0_isDangerous (l : Launch) (D : va_G) (cA : Nat → ClassId) (z : Nat) (ad : fw_Ad) (σ : St) (μ : fw_W) (c : Nat) (hI : Inv σ) (hc : c < σ 8 0) : Met l yX0_isDangerous wsX0_isDangerous rm_X0_isDangerous (va_Pc [.ref (ad 5 (c))] (fw_Pre D vwCl (fw_T cA) z ad (WC cA ad σ μ))) (fw_Qi D vwCl z ad (po_X0_isDangerous cA ad σ μ c)) 0 0 (fw_A z) := by
  refine Met.ofW (cc := cX0_isDangerous) (maxL := 1) (ret := (some .boolean)) (by decide) rfl ?_
  intro pg en s m args below meth cd s₁ B hml hv
  obtain ⟨hargs, hP, hK⟩ := hv
  have hx := B.exec
  have hb := B.bytes
  have hr := B.returns
  have hts := atoms_spec (ws := wsX0_isDangerous) B.pre
  have hown : s.vm.findClass RX0 = some m.cls := findClass_of_methodNamed B.named
  have hlocks := B.notSynchronized
  have hinX0 : ∀ w ∈ u_ws RX0 TX0 8, w ∈ wsX0_isDangerous := by decide +kernel
  have hf35 := hts (.fieldLink RX0 35 "StowagePlan$Box" "kind" "I") (by decide +kernel)
  have hl := lv_entry ([.ref (ad 5 (c))]) (n := 1) (Nat.le_of_ble_eq_true rfl)
  have hent : entryFrame m args 1 = entryFrame m ([.ref (ad 5 (c))] : List Value).toArray 1 := by rw [hargs]
  rw [hent, lg_entry_eq]
  generalize (lg_sl ([.ref (ad 5 (c))]) ++ List.replicate (1 - (lg_sl ([.ref (ad 5 (c))])).length) Slot.unset).toArray = ls at hl ⊢
  have hl : lv_has ls 1 [(0, .ref (ad 5 (c)))] := hl
  generalize hQ : MQ below (fw_Qi D vwCl z ad (po_X0_isDangerous cA ad σ μ c)) args s 0 0 (fw_A z) = Q
  generalize hH : s.heap = H at hP ⊢
  have hS : va_S (fw_A z) s.heap H [] := by rw [← hH]; exact va_S.rf
  generalize ([] : List Loc) = locs at hS ⊢
  refine lv_aload_n hx hb dX0_isDangerous_0 rfl (lv_at hl 0 rfl) ?_
  refine fw_get (ci := 0) (v := .int (iI ((σ 3 c : Nat) : Int))) (C := RX0) (T := TX0) (N := 8) hx hb hts hinX0 hown hK hP (WC_5 hc) rfl 4 (by decide) hf35 (fun _ h9 => h9) rfl dX0_isDangerous_1 ?_
  have hc_1 := hI.c c
  refine lv_iconst (v := iI ((2 : Nat) : Int)) hx hb dX0_isDangerous_4 (by decide) ?_
  refine fw_icmp_lt (x := ((σ 3 c : Nat) : Int)) (y := ((2 : Nat) : Int)) (tgt := 12) hx hb dX0_isDangerous_5 (by decide) ⟨by omega, by omega⟩ ⟨by omega, by omega⟩ (fun c_2 => ?_) (fun c_2 => ?_)
  · refine lv_iconst (v := iI ((0 : Nat) : Int)) hx hb dX0_isDangerous_12 (by decide) ?_
    subst hQ
    exact fw_zret hx hb hr hlocks dX0_isDangerous_13 hP hS rfl ⟨congrArg iI (bI_df (by omega)), rfl⟩
  · refine lv_iconst (v := iI ((1 : Nat) : Int)) hx hb dX0_isDangerous_8 (by decide) ?_
    refine lv_goto (tgt := 13) hx hb dX0_isDangerous_9 (by decide) ?_
    subst hQ
    exact fw_zret hx hb hr hlocks dX0_isDangerous_13 hP hS rfl ⟨congrArg iI (bI_dt (by omega)), rfl⟩

abbrev rm_X0_state : Room := { frames := 0, cells := 0, slots := 0, locals := 0 }
abbrev po_X0_state (cA : Nat → ClassId) (ad : fw_Ad) (σ : St) (μ : fw_W) (c : Nat) : Int32 → fw_W → Prop := fun r w' => r = iI ((σ 4 c : Nat) : Int) ∧ w' = WC cA ad σ μ
set_option maxHeartbeats 4000000 in
set_option maxRecDepth 100000 in
theorem c_X0_state (l : Launch) (D : va_G) (cA : Nat → ClassId) (z : Nat) (ad : fw_Ad) (σ : St) (μ : fw_W) (c : Nat) (hI : Inv σ) (hc : c < σ 8 0) : Met l yX0_state wsX0_state rm_X0_state (va_Pc [.ref (ad 5 (c))] (fw_Pre D vwCl (fw_T cA) z ad (WC cA ad σ μ))) (fw_Qi D vwCl z ad (po_X0_state cA ad σ μ c)) 0 0 (fw_A z) := by
  refine Met.ofW (cc := cX0_state) (maxL := 1) (ret := (some .int)) (by decide) rfl ?_
  intro pg en s m args below meth cd s₁ B hml hv
  obtain ⟨hargs, hP, hK⟩ := hv
  have hx := B.exec
  have hb := B.bytes
  have hr := B.returns
  have hts := atoms_spec (ws := wsX0_state) B.pre
  have hown : s.vm.findClass RX0 = some m.cls := findClass_of_methodNamed B.named
  have hlocks := B.notSynchronized
  have hinX0 : ∀ w ∈ u_ws RX0 TX0 8, w ∈ wsX0_state := by decide +kernel
  have hf9 := hts (.fieldLink RX0 9 "StowagePlan$Box" "isLanded" "Z") (by decide +kernel)
  have hf15 := hts (.fieldLink RX0 15 "StowagePlan$Box" "stack" "LStowagePlan$Stack;") (by decide +kernel)
  have hl := lv_entry ([.ref (ad 5 (c))]) (n := 1) (Nat.le_of_ble_eq_true rfl)
  have hent : entryFrame m args 1 = entryFrame m ([.ref (ad 5 (c))] : List Value).toArray 1 := by rw [hargs]
  rw [hent, lg_entry_eq]
  generalize (lg_sl ([.ref (ad 5 (c))]) ++ List.replicate (1 - (lg_sl ([.ref (ad 5 (c))])).length) Slot.unset).toArray = ls at hl ⊢
  have hl : lv_has ls 1 [(0, .ref (ad 5 (c)))] := hl
  generalize hQ : MQ below (fw_Qi D vwCl z ad (po_X0_state cA ad σ μ c)) args s 0 0 (fw_A z) = Q
  generalize hH : s.heap = H at hP ⊢
  have hS : va_S (fw_A z) s.heap H [] := by rw [← hH]; exact va_S.rf
  generalize ([] : List Loc) = locs at hS ⊢
  refine lv_aload_n hx hb dX0_state_0 rfl (lv_at hl 0 rfl) ?_
  refine fw_get (ci := 0) (v := .int (iI (bI (decide (σ 4 c = 2))))) (C := RX0) (T := TX0) (N := 8) hx hb hts hinX0 hown hK hP (WC_5 hc) rfl 5 (by decide) hf9 (fun _ h9 => h9) rfl dX0_state_1 ?_
  have hc_1 := hI.c c
  refine fw_if_eqB (x := decide (σ 4 c = 2)) (tgt := 9) hx hb dX0_state_4 (by decide) (fun c_2 => ?_) (fun c_2 => ?_)
  · replace c_2 := of_decide_eq_false c_2
    refine lv_aload_n hx hb dX0_state_9 rfl (lv_at hl 0 rfl) ?_
    refine fw_get (ci := 0) (v := va_rf (if σ 4 c = 1 then some (ad 3 (σ 5 c)) else none)) (C := RX0) (T := TX0) (N := 8) hx hb hts hinX0 hown hK hP (WC_5 hc) rfl 6 (by decide) hf15 (fun _ h9 => h9) rfl dX0_state_10 ?_
    by_cases n_3 : σ 4 c = 1
    · refine fw_top (v' := .ref (ad 3 (σ 5 c))) (by rw [if_pos n_3]; rfl) ?_
      refine lv_ifnull hx hb dX0_state_13 ?_
      refine lv_iconst (v := iI ((1 : Nat) : Int)) hx hb dX0_state_16 (by decide) ?_
      refine lv_goto (tgt := 21) hx hb dX0_state_17 (by decide) ?_
      subst hQ
      exact fw_iret hx hb hr hlocks dX0_state_21 hP hS ⟨congrArg iI (by omega), rfl⟩
    · refine fw_top (v' := .null) (by rw [if_neg n_3]; rfl) ?_
      refine lv_ifnullN (tgt := 20) hx hb dX0_state_13 (by decide) ?_
      refine lv_iconst (v := iI ((0 : Nat) : Int)) hx hb dX0_state_20 (by decide) ?_
      subst hQ
      exact fw_iret hx hb hr hlocks dX0_state_21 hP hS ⟨congrArg iI (by omega), rfl⟩
  · replace c_2 := of_decide_eq_true c_2
    refine lv_iconst (v := iI ((2 : Nat) : Int)) hx hb dX0_state_7 (by decide) ?_
    subst hQ
    exact fw_iret hx hb hr hlocks dX0_state_8 hP hS ⟨congrArg iI (by omega), rfl⟩

abbrev rm_X0_waitsAt : Room := { frames := 1, cells := 0, slots := 0, locals := 20 }
abbrev po_X0_waitsAt (cA : Nat → ClassId) (ad : fw_Ad) (σ : St) (μ : fw_W) (c : Nat) (p : Nat) : Int32 → fw_W → Prop := fun r w' => r = iI (bI (decide (σ 4 c = 0 ∧ σ 1 c = p))) ∧ w' = WC cA ad σ μ
set_option maxHeartbeats 4000000 in
set_option maxRecDepth 100000 in
theorem c_X0_waitsAt (l : Launch) (D : va_G) (cA : Nat → ClassId) (z : Nat) (ad : fw_Ad) (σ : St) (μ : fw_W) (c : Nat) (p : Nat) (hI : Inv σ) (hc : c < σ 8 0) (hp : p ≤ 5) : Met l yX0_waitsAt wsX0_waitsAt rm_X0_waitsAt (va_Pc [.ref (ad 5 (c)), .int (iI ((p : Nat) : Int))] (fw_Pre D vwCl (fw_T cA) z ad (WC cA ad σ μ))) (fw_Qi D vwCl z ad (po_X0_waitsAt cA ad σ μ c p)) 0 0 (fw_A z) := by
  refine Met.ofW (cc := cX0_waitsAt) (maxL := 2) (ret := (some .boolean)) (by decide) rfl ?_
  intro pg en s m args below meth cd s₁ B hml hv
  obtain ⟨hargs, hP, hK⟩ := hv
  have hx := B.exec
  have hb := B.bytes
  have hr := B.returns
  have hts := atoms_spec (ws := wsX0_waitsAt) B.pre
  have hown : s.vm.findClass RX0 = some m.cls := findClass_of_methodNamed B.named
  have hlocks := B.notSynchronized
  have hinX0 : ∀ w ∈ u_ws RX0 TX0 8, w ∈ wsX0_waitsAt := by decide +kernel
  have hf29 := hts (.fieldLink RX0 29 "StowagePlan$Box" "from" "I") (by decide +kernel)
  have hl := lv_entry ([.ref (ad 5 (c)), .int (iI ((p : Nat) : Int))]) (n := 2) (Nat.le_of_ble_eq_true rfl)
  have hent : entryFrame m args 2 = entryFrame m ([.ref (ad 5 (c)), .int (iI ((p : Nat) : Int))] : List Value).toArray 2 := by rw [hargs]
  rw [hent, lg_entry_eq]
  generalize (lg_sl ([.ref (ad 5 (c)), .int (iI ((p : Nat) : Int))]) ++ List.replicate (2 - (lg_sl ([.ref (ad 5 (c)), .int (iI ((p : Nat) : Int))])).length) Slot.unset).toArray = ls at hl ⊢
  have hl : lv_has ls 2 [(0, .ref (ad 5 (c))), (1, .int (iI ((p : Nat) : Int)))] := hl
  generalize hQ : MQ below (fw_Qi D vwCl z ad (po_X0_waitsAt cA ad σ μ c p)) args s 0 0 (fw_A z) = Q
  generalize hH : s.heap = H at hP ⊢
  have hS : va_S (fw_A z) s.heap H [] := by rw [← hH]; exact va_S.rf
  generalize ([] : List Loc) = locs at hS ⊢
  refine lv_aload_n hx hb dX0_waitsAt_0 rfl (lv_at hl 0 rfl) ?_
  refine fw_cVi (As := []) (rest := []) ⟨hx, hb, hml, hown, hts⟩ (c_X0_state l D cA z ad σ μ c hI hc) (cwV 0 hts gX0_waitsAt_X0_state rfl rfl rfl (by decide +kernel) ⟨Nat.le_of_ble_eq_true rfl, Nat.le_of_ble_eq_true rfl⟩) (WC_5 hc) rfl rfl hl.1 (Nat.le_of_ble_eq_true rfl) dX0_waitsAt_1 ⟨Nat.le_of_ble_eq_true rfl, Nat.le_of_ble_eq_true rfl⟩ hK hP hS rfl (fun r w' H locs q_1 hP hS => ?_)
  obtain ⟨rfl, rfl⟩ := q_1
  have hc_2 := hI.c c
  refine fw_if_ne (x := ((σ 4 c : Nat) : Int)) (tgt := 19) hx hb dX0_waitsAt_4 (by decide) ⟨by omega, by omega⟩ (fun c_3 => ?_) (fun c_3 => ?_)
  · refine lv_iconst (v := iI ((0 : Nat) : Int)) hx hb dX0_waitsAt_19 (by decide) ?_
    subst hQ
    exact fw_zret hx hb hr hlocks dX0_waitsAt_20 hP hS rfl ⟨congrArg iI (bI_df (by omega)), rfl⟩
  · refine lv_aload_n hx hb dX0_waitsAt_7 rfl (lv_at hl 0 rfl) ?_
    refine fw_get (ci := 0) (v := .int (iI ((σ 1 c : Nat) : Int))) (C := RX0) (T := TX0) (N := 8) hx hb hts hinX0 hown hK hP (WC_5 hc) rfl 2 (by decide) hf29 (fun _ h9 => h9) rfl dX0_waitsAt_8 ?_
    refine lv_iload_n hx hb dX0_waitsAt_11 rfl (lv_at hl 1 rfl) ?_
    refine fw_icmp_ne (x := ((σ 1 c : Nat) : Int)) (y := ((p : Nat) : Int)) (tgt := 19) hx hb dX0_waitsAt_12 (by decide) ⟨by omega, by omega⟩ ⟨by omega, by omega⟩ (fun c_4 => ?_) (fun c_4 => ?_)
    · refine lv_iconst (v := iI ((0 : Nat) : Int)) hx hb dX0_waitsAt_19 (by decide) ?_
      subst hQ
      exact fw_zret hx hb hr hlocks dX0_waitsAt_20 hP hS rfl ⟨congrArg iI (bI_df (by omega)), rfl⟩
    · refine lv_iconst (v := iI ((1 : Nat) : Int)) hx hb dX0_waitsAt_15 (by decide) ?_
      refine lv_goto (tgt := 20) hx hb dX0_waitsAt_16 (by decide) ?_
      subst hQ
      exact fw_zret hx hb hr hlocks dX0_waitsAt_20 hP hS rfl ⟨congrArg iI (bI_dt (by omega)), rfl⟩

abbrev rm_X0_tell : Room := { frames := 1, cells := 0, slots := 0, locals := 20 }
abbrev po_X0_tell (cA : Nat → ClassId) (ad : fw_Ad) (σ : St) (μ : fw_W) (c : Nat) (q : Nat) : Int32 → fw_W → Prop := fun r w' => r = iI ((σ q c : Nat) : Int) ∧ w' = WC cA ad σ μ
set_option maxHeartbeats 4000000 in
set_option maxRecDepth 100000 in
theorem c_X0_tell (l : Launch) (D : va_G) (cA : Nat → ClassId) (z : Nat) (ad : fw_Ad) (σ : St) (μ : fw_W) (c : Nat) (q : Nat) (hI : Inv σ) (hc : c < σ 8 0) (hq : q ≤ 4) : Met l yX0_tell wsX0_tell rm_X0_tell (va_Pc [.ref (ad 5 (c)), .int (iI ((q : Nat) : Int))] (fw_Pre D vwCl (fw_T cA) z ad (WC cA ad σ μ))) (fw_Qi D vwCl z ad (po_X0_tell cA ad σ μ c q)) 0 0 (fw_A z) := by
  refine Met.ofW (cc := cX0_tell) (maxL := 2) (ret := (some .int)) (by decide) rfl ?_
  intro pg en s m args below meth cd s₁ B hml hv
  obtain ⟨hargs, hP, hK⟩ := hv
  have hx := B.exec
  have hb := B.bytes
  have hr := B.returns
  have hts := atoms_spec (ws := wsX0_tell) B.pre
  have hown : s.vm.findClass RX0 = some m.cls := findClass_of_methodNamed B.named
  have hlocks := B.notSynchronized
  have hinX0 : ∀ w ∈ u_ws RX0 TX0 8, w ∈ wsX0_tell := by decide +kernel
  have hf26 := hts (.fieldLink RX0 26 "StowagePlan$Box" "weight" "I") (by decide +kernel)
  have hf29 := hts (.fieldLink RX0 29 "StowagePlan$Box" "from" "I") (by decide +kernel)
  have hf32 := hts (.fieldLink RX0 32 "StowagePlan$Box" "to" "I") (by decide +kernel)
  have hf35 := hts (.fieldLink RX0 35 "StowagePlan$Box" "kind" "I") (by decide +kernel)
  have hl := lv_entry ([.ref (ad 5 (c)), .int (iI ((q : Nat) : Int))]) (n := 2) (Nat.le_of_ble_eq_true rfl)
  have hent : entryFrame m args 2 = entryFrame m ([.ref (ad 5 (c)), .int (iI ((q : Nat) : Int))] : List Value).toArray 2 := by rw [hargs]
  rw [hent, lg_entry_eq]
  generalize (lg_sl ([.ref (ad 5 (c)), .int (iI ((q : Nat) : Int))]) ++ List.replicate (2 - (lg_sl ([.ref (ad 5 (c)), .int (iI ((q : Nat) : Int))])).length) Slot.unset).toArray = ls at hl ⊢
  have hl : lv_has ls 2 [(0, .ref (ad 5 (c))), (1, .int (iI ((q : Nat) : Int)))] := hl
  generalize hQ : MQ below (fw_Qi D vwCl z ad (po_X0_tell cA ad σ μ c q)) args s 0 0 (fw_A z) = Q
  generalize hH : s.heap = H at hP ⊢
  have hS : va_S (fw_A z) s.heap H [] := by rw [← hH]; exact va_S.rf
  generalize ([] : List Loc) = locs at hS ⊢
  refine lv_iload_n hx hb dX0_tell_0 rfl (lv_at hl 1 rfl) ?_
  rcases (show q = 0 ∨ q = 1 ∨ q = 2 ∨ q = 3 ∨ q = 4 by omega) with rfl | rfl | rfl | rfl | rfl
  · refine lv_tableIn (off := 31) (tgt := 32) hx hb dX0_tell_1 (by decide) (by decide) (by decide) (by decide) ?_
    refine lv_aload_n hx hb dX0_tell_32 rfl (lv_at hl 0 rfl) ?_
    refine fw_get (ci := 0) (v := .int (iI ((σ 0 c : Nat) : Int))) (C := RX0) (T := TX0) (N := 8) hx hb hts hinX0 hown hK hP (WC_5 hc) rfl 1 (by decide) hf26 (fun _ h9 => h9) rfl dX0_tell_33 ?_
    have hc_1 := hI.c c
    subst hQ
    exact fw_iret hx hb hr hlocks dX0_tell_36 hP hS ⟨rfl, rfl⟩
  · refine lv_tableIn (off := 36) (tgt := 37) hx hb dX0_tell_1 (by decide) (by decide) (by decide) (by decide) ?_
    refine lv_aload_n hx hb dX0_tell_37 rfl (lv_at hl 0 rfl) ?_
    refine fw_get (ci := 0) (v := .int (iI ((σ 1 c : Nat) : Int))) (C := RX0) (T := TX0) (N := 8) hx hb hts hinX0 hown hK hP (WC_5 hc) rfl 2 (by decide) hf29 (fun _ h9 => h9) rfl dX0_tell_38 ?_
    have hc_2 := hI.c c
    subst hQ
    exact fw_iret hx hb hr hlocks dX0_tell_41 hP hS ⟨rfl, rfl⟩
  · refine lv_tableIn (off := 41) (tgt := 42) hx hb dX0_tell_1 (by decide) (by decide) (by decide) (by decide) ?_
    refine lv_aload_n hx hb dX0_tell_42 rfl (lv_at hl 0 rfl) ?_
    refine fw_get (ci := 0) (v := .int (iI ((σ 2 c : Nat) : Int))) (C := RX0) (T := TX0) (N := 8) hx hb hts hinX0 hown hK hP (WC_5 hc) rfl 3 (by decide) hf32 (fun _ h9 => h9) rfl dX0_tell_43 ?_
    have hc_3 := hI.c c
    subst hQ
    exact fw_iret hx hb hr hlocks dX0_tell_46 hP hS ⟨rfl, rfl⟩
  · refine lv_tableIn (off := 46) (tgt := 47) hx hb dX0_tell_1 (by decide) (by decide) (by decide) (by decide) ?_
    refine lv_aload_n hx hb dX0_tell_47 rfl (lv_at hl 0 rfl) ?_
    refine fw_get (ci := 0) (v := .int (iI ((σ 3 c : Nat) : Int))) (C := RX0) (T := TX0) (N := 8) hx hb hts hinX0 hown hK hP (WC_5 hc) rfl 4 (by decide) hf35 (fun _ h9 => h9) rfl dX0_tell_48 ?_
    have hc_4 := hI.c c
    subst hQ
    exact fw_iret hx hb hr hlocks dX0_tell_51 hP hS ⟨rfl, rfl⟩
  · refine lv_tableOut (tgt := 52) hx hb dX0_tell_1 (by decide) (by decide) ?_
    refine lv_aload_n hx hb dX0_tell_52 rfl (lv_at hl 0 rfl) ?_
    refine fw_cVi (As := []) (rest := []) ⟨hx, hb, hml, hown, hts⟩ (c_X0_state l D cA z ad σ μ c hI hc) (cwV 0 hts gX0_tell_X0_state rfl rfl rfl (by decide +kernel) ⟨Nat.le_of_ble_eq_true rfl, Nat.le_of_ble_eq_true rfl⟩) (WC_5 hc) rfl rfl hl.1 (Nat.le_of_ble_eq_true rfl) dX0_tell_53 ⟨Nat.le_of_ble_eq_true rfl, Nat.le_of_ble_eq_true rfl⟩ hK hP hS rfl (fun r w' H locs q_5 hP hS => ?_)
    obtain ⟨rfl, rfl⟩ := q_5
    have hc_6 := hI.c c
    subst hQ
    exact fw_iret hx hb hr hlocks dX0_tell_56 hP hS ⟨rfl, rfl⟩

abbrev rm_X0_place : Room := { frames := 0, cells := 0, slots := 0, locals := 0 }
abbrev po_X0_place (cA : Nat → ClassId) (ad : fw_Ad) (σ : St) (μ : fw_W) (c : Nat) : Int32 → fw_W → Prop := fun r w' => r = iI (plc σ c) ∧ w' = WC cA ad σ μ
set_option maxHeartbeats 4000000 in
set_option maxRecDepth 100000 in
theorem c_X0_place (l : Launch) (D : va_G) (cA : Nat → ClassId) (z : Nat) (ad : fw_Ad) (σ : St) (μ : fw_W) (c : Nat) (hI : Inv σ) (hc : c < σ 8 0) : Met l yX0_place wsX0_place rm_X0_place (va_Pc [.ref (ad 5 (c))] (fw_Pre D vwCl (fw_T cA) z ad (WC cA ad σ μ))) (fw_Qi D vwCl z ad (po_X0_place cA ad σ μ c)) 0 0 (fw_A z) := by
  refine Met.ofW (cc := cX0_place) (maxL := 1) (ret := (some .int)) (by decide) rfl ?_
  intro pg en s m args below meth cd s₁ B hml hv
  obtain ⟨hargs, hP, hK⟩ := hv
  have hx := B.exec
  have hb := B.bytes
  have hr := B.returns
  have hts := atoms_spec (ws := wsX0_place) B.pre
  have hown : s.vm.findClass RX0 = some m.cls := findClass_of_methodNamed B.named
  have hlocks := B.notSynchronized
  have hinX0 : ∀ w ∈ u_ws RX0 TX0 8, w ∈ wsX0_place := by decide +kernel
  have hinX1 : ∀ w ∈ u_ws RX1 TX1 5, w ∈ wsX0_place := by decide +kernel
  have hf15 := hts (.fieldLink RX0 15 "StowagePlan$Box" "stack" "LStowagePlan$Stack;") (by decide +kernel)
  have hf42 := hts (.fieldLink RX0 42 "StowagePlan$Stack" "bay" "I") (by decide +kernel)
  have hf47 := hts (.fieldLink RX0 47 "StowagePlan$Stack" "row" "I") (by decide +kernel)
  have hf19 := hts (.fieldLink RX0 19 "StowagePlan$Box" "tier" "I") (by decide +kernel)
  have hl := lv_entry ([.ref (ad 5 (c))]) (n := 1) (Nat.le_of_ble_eq_true rfl)
  have hent : entryFrame m args 1 = entryFrame m ([.ref (ad 5 (c))] : List Value).toArray 1 := by rw [hargs]
  rw [hent, lg_entry_eq]
  generalize (lg_sl ([.ref (ad 5 (c))]) ++ List.replicate (1 - (lg_sl ([.ref (ad 5 (c))])).length) Slot.unset).toArray = ls at hl ⊢
  have hl : lv_has ls 1 [(0, .ref (ad 5 (c)))] := hl
  generalize hQ : MQ below (fw_Qi D vwCl z ad (po_X0_place cA ad σ μ c)) args s 0 0 (fw_A z) = Q
  generalize hH : s.heap = H at hP ⊢
  have hS : va_S (fw_A z) s.heap H [] := by rw [← hH]; exact va_S.rf
  generalize ([] : List Loc) = locs at hS ⊢
  refine lv_aload_n hx hb dX0_place_0 rfl (lv_at hl 0 rfl) ?_
  refine fw_get (ci := 0) (v := va_rf (if σ 4 c = 1 then some (ad 3 (σ 5 c)) else none)) (C := RX0) (T := TX0) (N := 8) hx hb hts hinX0 hown hK hP (WC_5 hc) rfl 6 (by decide) hf15 (fun _ h9 => h9) rfl dX0_place_1 ?_
  have hc_1 := hI.c c
  by_cases n_2 : σ 4 c = 1
  · refine fw_top (v' := .ref (ad 3 (σ 5 c))) (by rw [if_pos n_2]; rfl) ?_
    refine lv_ifnonnull (tgt := 11) hx hb dX0_place_4 (by decide) ?_
    refine lv_bipush (v := iI ((100 : Nat) : Int)) hx hb dX0_place_11 (by decide) ?_
    refine lv_aload_n hx hb dX0_place_13 rfl (lv_at hl 0 rfl) ?_
    refine fw_get (ci := 0) (v := va_rf (if σ 4 c = 1 then some (ad 3 (σ 5 c)) else none)) (C := RX0) (T := TX0) (N := 8) hx hb hts hinX0 hown hK hP (WC_5 hc) rfl 6 (by decide) hf15 (fun _ h9 => h9) rfl dX0_place_14 ?_
    refine fw_top (v' := .ref (ad 3 (σ 5 c))) (by rw [if_pos n_2]; rfl) ?_
    refine fw_get (ci := 1) (v := .int (iI (((σ 5 c) / 5 : Nat) : Int))) (C := RX1) (T := TX1) (N := 5) hx hb hts hinX1 hown hK hP (WC_3 (hI.c c).2.2.2.2.2.1) rfl 0 (by decide) hf42 (fun _ h9 => h9) rfl dX0_place_17 ?_
    have hh_4 := high_le hI (σ 5 c)
    have hp_5 := hI.pl (σ 5 c)
    refine fw_imulN (a := 100) (b := (σ 5 c) / 5) hx hb dX0_place_20 ?_
    refine lv_bipush (v := iI ((10 : Nat) : Int)) hx hb dX0_place_21 (by decide) ?_
    refine lv_aload_n hx hb dX0_place_23 rfl (lv_at hl 0 rfl) ?_
    refine fw_get (ci := 0) (v := va_rf (if σ 4 c = 1 then some (ad 3 (σ 5 c)) else none)) (C := RX0) (T := TX0) (N := 8) hx hb hts hinX0 hown hK hP (WC_5 hc) rfl 6 (by decide) hf15 (fun _ h9 => h9) rfl dX0_place_24 ?_
    refine fw_top (v' := .ref (ad 3 (σ 5 c))) (by rw [if_pos n_2]; rfl) ?_
    refine fw_get (ci := 1) (v := .int (iI (((σ 5 c) % 5 : Nat) : Int))) (C := RX1) (T := TX1) (N := 5) hx hb hts hinX1 hown hK hP (WC_3 (hI.c c).2.2.2.2.2.1) rfl 1 (by decide) hf47 (fun _ h9 => h9) rfl dX0_place_27 ?_
    refine fw_imulN (a := 10) (b := (σ 5 c) % 5) hx hb dX0_place_30 ?_
    refine fw_iaddN (a := 100 * ((σ 5 c) / 5)) (b := 10 * ((σ 5 c) % 5)) hx hb dX0_place_31 ?_
    refine lv_aload_n hx hb dX0_place_32 rfl (lv_at hl 0 rfl) ?_
    refine fw_get (ci := 0) (v := .int (iI ((σ 6 c : Nat) : Int))) (C := RX0) (T := TX0) (N := 8) hx hb hts hinX0 hown hK hP (WC_5 hc) rfl 7 (by decide) hf19 (fun _ h9 => h9) rfl dX0_place_33 ?_
    refine fw_iaddN (a := (100 * ((σ 5 c) / 5)) + (10 * ((σ 5 c) % 5))) (b := σ 6 c) hx hb dX0_place_36 ?_
    subst hQ
    exact fw_iret hx hb hr hlocks dX0_place_37 hP hS ⟨congrArg iI (by unfold plc; rw [if_pos (by assumption)]), rfl⟩
  · refine fw_top (v' := .null) (by rw [if_neg n_2]; rfl) ?_
    refine lv_ifnonnullN hx hb dX0_place_4 ?_
    refine lv_iconst (v := iI (-1)) hx hb dX0_place_7 (by decide) ?_
    refine lv_goto (tgt := 37) hx hb dX0_place_8 (by decide) ?_
    subst hQ
    exact fw_iret hx hb hr hlocks dX0_place_37 hP hS ⟨congrArg iI (by unfold plc; rw [if_neg (by assumption)]), rfl⟩

abbrev rm_X0_goesBefore : Room := { frames := 0, cells := 0, slots := 0, locals := 0 }
abbrev po_X0_goesBefore (cA : Nat → ClassId) (ad : fw_Ad) (σ : St) (μ : fw_W) (c : Nat) (c2 : Nat) : Int32 → fw_W → Prop := fun r w' => r = iI (bI (decide (σ 2 c2 < σ 2 c ∨ σ 2 c = σ 2 c2 ∧ σ 0 c2 < σ 0 c))) ∧ w' = WC cA ad σ μ
set_option maxHeartbeats 4000000 in
set_option maxRecDepth 100000 in
theorem c_X0_goesBefore (l : Launch) (D : va_G) (cA : Nat → ClassId) (z : Nat) (ad : fw_Ad) (σ : St) (μ : fw_W) (c : Nat) (c2 : Nat) (hI : Inv σ) (hc : c < σ 8 0) (hc2 : c2 < σ 8 0) : Met l yX0_goesBefore wsX0_goesBefore rm_X0_goesBefore (va_Pc [.ref (ad 5 (c)), .ref (ad 5 (c2))] (fw_Pre D vwCl (fw_T cA) z ad (WC cA ad σ μ))) (fw_Qi D vwCl z ad (po_X0_goesBefore cA ad σ μ c c2)) 0 0 (fw_A z) := by
  refine Met.ofW (cc := cX0_goesBefore) (maxL := 2) (ret := (some .boolean)) (by decide) rfl ?_
  intro pg en s m args below meth cd s₁ B hml hv
  obtain ⟨hargs, hP, hK⟩ := hv
  have hx := B.exec
  have hb := B.bytes
  have hr := B.returns
  have hts := atoms_spec (ws := wsX0_goesBefore) B.pre
  have hown : s.vm.findClass RX0 = some m.cls := findClass_of_methodNamed B.named
  have hlocks := B.notSynchronized
  have hinX0 : ∀ w ∈ u_ws RX0 TX0 8, w ∈ wsX0_goesBefore := by decide +kernel
  have hf32 := hts (.fieldLink RX0 32 "StowagePlan$Box" "to" "I") (by decide +kernel)
  have hf26 := hts (.fieldLink RX0 26 "StowagePlan$Box" "weight" "I") (by decide +kernel)
  have hl := lv_entry ([.ref (ad 5 (c)), .ref (ad 5 (c2))]) (n := 2) (Nat.le_of_ble_eq_true rfl)
  have hent : entryFrame m args 2 = entryFrame m ([.ref (ad 5 (c)), .ref (ad 5 (c2))] : List Value).toArray 2 := by rw [hargs]
  rw [hent, lg_entry_eq]
  generalize (lg_sl ([.ref (ad 5 (c)), .ref (ad 5 (c2))]) ++ List.replicate (2 - (lg_sl ([.ref (ad 5 (c)), .ref (ad 5 (c2))])).length) Slot.unset).toArray = ls at hl ⊢
  have hl : lv_has ls 2 [(0, .ref (ad 5 (c))), (1, .ref (ad 5 (c2)))] := hl
  generalize hQ : MQ below (fw_Qi D vwCl z ad (po_X0_goesBefore cA ad σ μ c c2)) args s 0 0 (fw_A z) = Q
  generalize hH : s.heap = H at hP ⊢
  have hS : va_S (fw_A z) s.heap H [] := by rw [← hH]; exact va_S.rf
  generalize ([] : List Loc) = locs at hS ⊢
  refine lv_aload_n hx hb dX0_goesBefore_0 rfl (lv_at hl 0 rfl) ?_
  refine fw_get (ci := 0) (v := .int (iI ((σ 2 c : Nat) : Int))) (C := RX0) (T := TX0) (N := 8) hx hb hts hinX0 hown hK hP (WC_5 hc) rfl 3 (by decide) hf32 (fun _ h9 => h9) rfl dX0_goesBefore_1 ?_
  have hc_1 := hI.c c
  refine lv_aload_n hx hb dX0_goesBefore_4 rfl (lv_at hl 1 rfl) ?_
  refine fw_get (ci := 0) (v := .int (iI ((σ 2 c2 : Nat) : Int))) (C := RX0) (T := TX0) (N := 8) hx hb hts hinX0 hown hK hP (WC_5 hc2) rfl 3 (by decide) hf32 (fun _ h9 => h9) rfl dX0_goesBefore_5 ?_
  have hc_2 := hI.c c2
  refine fw_icmp_gt (x := ((σ 2 c : Nat) : Int)) (y := ((σ 2 c2 : Nat) : Int)) (tgt := 33) hx hb dX0_goesBefore_8 (by decide) ⟨by omega, by omega⟩ ⟨by omega, by omega⟩ (fun c_3 => ?_) (fun c_3 => ?_)
  · refine lv_iconst (v := iI ((1 : Nat) : Int)) hx hb dX0_goesBefore_33 (by decide) ?_
    refine lv_goto (tgt := 38) hx hb dX0_goesBefore_34 (by decide) ?_
    subst hQ
    exact fw_zret hx hb hr hlocks dX0_goesBefore_38 hP hS rfl ⟨congrArg iI (bI_dt (by omega)), rfl⟩
  · refine lv_aload_n hx hb dX0_goesBefore_11 rfl (lv_at hl 0 rfl) ?_
    refine fw_get (ci := 0) (v := .int (iI ((σ 2 c : Nat) : Int))) (C := RX0) (T := TX0) (N := 8) hx hb hts hinX0 hown hK hP (WC_5 hc) rfl 3 (by decide) hf32 (fun _ h9 => h9) rfl dX0_goesBefore_12 ?_
    refine lv_aload_n hx hb dX0_goesBefore_15 rfl (lv_at hl 1 rfl) ?_
    refine fw_get (ci := 0) (v := .int (iI ((σ 2 c2 : Nat) : Int))) (C := RX0) (T := TX0) (N := 8) hx hb hts hinX0 hown hK hP (WC_5 hc2) rfl 3 (by decide) hf32 (fun _ h9 => h9) rfl dX0_goesBefore_16 ?_
    refine fw_icmp_ne (x := ((σ 2 c : Nat) : Int)) (y := ((σ 2 c2 : Nat) : Int)) (tgt := 37) hx hb dX0_goesBefore_19 (by decide) ⟨by omega, by omega⟩ ⟨by omega, by omega⟩ (fun c_4 => ?_) (fun c_4 => ?_)
    · refine lv_iconst (v := iI ((0 : Nat) : Int)) hx hb dX0_goesBefore_37 (by decide) ?_
      subst hQ
      exact fw_zret hx hb hr hlocks dX0_goesBefore_38 hP hS rfl ⟨congrArg iI (bI_df (by omega)), rfl⟩
    · refine lv_aload_n hx hb dX0_goesBefore_22 rfl (lv_at hl 0 rfl) ?_
      refine fw_get (ci := 0) (v := .int (iI ((σ 0 c : Nat) : Int))) (C := RX0) (T := TX0) (N := 8) hx hb hts hinX0 hown hK hP (WC_5 hc) rfl 1 (by decide) hf26 (fun _ h9 => h9) rfl dX0_goesBefore_23 ?_
      refine lv_aload_n hx hb dX0_goesBefore_26 rfl (lv_at hl 1 rfl) ?_
      refine fw_get (ci := 0) (v := .int (iI ((σ 0 c2 : Nat) : Int))) (C := RX0) (T := TX0) (N := 8) hx hb hts hinX0 hown hK hP (WC_5 hc2) rfl 1 (by decide) hf26 (fun _ h9 => h9) rfl dX0_goesBefore_27 ?_
      refine fw_icmp_le (x := ((σ 0 c : Nat) : Int)) (y := ((σ 0 c2 : Nat) : Int)) (tgt := 37) hx hb dX0_goesBefore_30 (by decide) ⟨by omega, by omega⟩ ⟨by omega, by omega⟩ (fun c_5 => ?_) (fun c_5 => ?_)
      · refine lv_iconst (v := iI ((0 : Nat) : Int)) hx hb dX0_goesBefore_37 (by decide) ?_
        subst hQ
        exact fw_zret hx hb hr hlocks dX0_goesBefore_38 hP hS rfl ⟨congrArg iI (bI_df (by omega)), rfl⟩
      · refine lv_iconst (v := iI ((1 : Nat) : Int)) hx hb dX0_goesBefore_33 (by decide) ?_
        refine lv_goto (tgt := 38) hx hb dX0_goesBefore_34 (by decide) ?_
        subst hQ
        exact fw_zret hx hb hr hlocks dX0_goesBefore_38 hP hS rfl ⟨congrArg iI (bI_dt (by omega)), rfl⟩
