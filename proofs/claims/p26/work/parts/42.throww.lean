theorem cStack_7 (ad : fw_Ad) (σ : St) (k : Nat) (o : Bool) : (.inr (1, [.int (iI ((k / 5 : Nat) : Int)), .int (iI ((k % 5 : Nat) : Int)), .ref (ad 4 k), .int (iI ((high σ k : Nat) : Int)), .int (iI (bI o))]) : va_E) = cStack ad (up σ 7 k (bN o)) k := by
  unfold cStack
  have hh : high (up σ 7 k (bN o)) k = high σ k := by
    unfold high
    rw [up_k (by decide)]
    refine sumN_congr (fun c _ => ?_)
    unfold isOn
    rw [up_k (by decide), up_k (by decide)]
  rw [hh, up_same, bI_bN]
abbrev rm_X2_setLimits : Room := { frames := 6, cells := 1, slots := 6, locals := 82 }
abbrev po_X2_setLimits (cA : Nat → ClassId) (ad : fw_Ad) (σ : St) (μ : fw_W) (x y v : Int) : Int32 → fw_W → Prop := fun r w' => ((1 ≤ x ∧ x ≤ 120) ∧ (0 ≤ y ∧ y ≤ 1000) ∧ 0 ≤ v ∧ v ≤ 1000) ∧ r = iI ((σ 8 1 : Nat) : Int) ∧ w' = WC cA ad (limS σ (Int.toNat x) (Int.toNat y) (Int.toNat v)) μ
abbrev px_X2_setLimits (cA : Nat → ClassId) (ad : fw_Ad) (σ : St) (μ : fw_W) (x y v : Int) : String → fw_W → Prop := fun E w' => E = tx_IA ∧ ¬ ((1 ≤ x ∧ x ≤ 120) ∧ (0 ≤ y ∧ y ≤ 1000) ∧ 0 ≤ v ∧ v ≤ 1000) ∧ w' = WC cA ad σ μ
set_option maxHeartbeats 4000000 in
set_option maxRecDepth 100000 in
theorem c_X2_setLimits (l : Launch) (hl0 : l.stackTraces = false) (D : va_G) (cA : Nat → ClassId) (z : Nat) (ad : fw_Ad) (sa : Nat → Nat) (σ : St) (μ : fw_W) (x y v : Int) (hI : Inv σ) (hx0 : -2147483648 ≤ x ∧ x ≤ 2147483647) (hy0 : -2147483648 ≤ y ∧ y ≤ 2147483647) (hv0 : -2147483648 ≤ v ∧ v ≤ 2147483647) : vx_Met l yX2_setLimits wsX2_setLimits rm_X2_setLimits (va_Pc [.ref (ad 0 (0)), .int (iI (x)), .int (iI (y)), .int (iI (v))] (fx_Pre D vwCl (fw_T cA) z ad (WC cA ad σ μ) sa)) (fw_Qi D vwCl z ad (po_X2_setLimits cA ad σ μ x y v)) (fx_X D vwCl z ad (px_X2_setLimits cA ad σ μ x y v)) 1 6 (fw_A z) := by
  refine vx_ofW (cc := cX2_setLimits) (maxL := 5) (ret := (some .int)) (by decide) rfl ?_
  intro pg en s m args below meth cd s₁ B hml hnx hv
  obtain ⟨hargs, ⟨hP, hK⟩, hE⟩ := hv
  have hx := B.exec
  have hb := B.bytes
  have hr := B.returns
  have hts := atoms_spec (ws := wsX2_setLimits) B.pre
  have hown : s.vm.findClass RX2 = some m.cls := findClass_of_methodNamed B.named
  have hlocks := B.notSynchronized
  have hinX2 : ∀ w ∈ u_ws RX2 TX2 8, w ∈ wsX2_setLimits := by decide +kernel
  have hf28 := hts (.fieldLink RX2 28 "StowagePlan" "stackLimit" "I") (by decide +kernel)
  have hf31 := hts (.fieldLink RX2 31 "StowagePlan" "listLimit" "I") (by decide +kernel)
  have hf34 := hts (.fieldLink RX2 34 "StowagePlan" "trimLimit" "I") (by decide +kernel)
  have hl := lv_entry ([.ref (ad 0 (0)), .int (iI (x)), .int (iI (y)), .int (iI (v))]) (n := 5) (Nat.le_of_ble_eq_true rfl)
  have hent : entryFrame m args 5 = entryFrame m ([.ref (ad 0 (0)), .int (iI (x)), .int (iI (y)), .int (iI (v))] : List Value).toArray 5 := by rw [hargs]
  rw [hent, lg_entry_eq]
  generalize (lg_sl ([.ref (ad 0 (0)), .int (iI (x)), .int (iI (y)), .int (iI (v))]) ++ List.replicate (5 - (lg_sl ([.ref (ad 0 (0)), .int (iI (x)), .int (iI (y)), .int (iI (v))])).length) Slot.unset).toArray = ls at hl ⊢
  have hl : lv_has ls 5 [(0, .ref (ad 0 (0))), (1, .int (iI (x))), (2, .int (iI (y))), (3, .int (iI (v)))] := hl
  generalize hQ : vx_MQ below (fw_Qi D vwCl z ad (po_X2_setLimits cA ad σ μ x y v)) (fx_X D vwCl z ad (px_X2_setLimits cA ad σ μ x y v)) args s 1 6 (fw_A z) = Q
  generalize hH : s.heap = H at hP ⊢
  have hS : va_S (fw_A z) s.heap H [] := by rw [← hH]; exact va_S.rf
  generalize ([] : List Loc) = locs at hS ⊢
  refine lv_iload_n hx hb dX2_setLimits_0 rfl (lv_at hl 1 rfl) ?_
  refine lv_iconst (v := iI ((1 : Nat) : Int)) hx hb dX2_setLimits_1 (by decide) ?_
  refine lv_bipush (v := iI ((120 : Nat) : Int)) hx hb dX2_setLimits_2 (by decide) ?_
  refine fw_cSi (As := [.int (iI (x)), .int (iI ((1 : Nat) : Int)), .int (iI ((120 : Nat) : Int))]) (rest := []) ⟨hx, hb, hml, hown, hts⟩ (c_X2_isWithin l D cA z ad (WC cA ad σ μ) (x) ((1 : Nat) : Int) ((120 : Nat) : Int) ⟨by omega, by omega⟩ ⟨by omega, by omega⟩ ⟨by omega, by omega⟩) (va_cwS 3 hts gX2_setLimits_X2_isWithin rfl rfl rfl (by decide +kernel) ⟨Nat.le_of_ble_eq_true rfl, Nat.le_of_ble_eq_true rfl⟩) rfl hl.1 (Nat.le_of_ble_eq_true rfl) dX2_setLimits_4 ⟨Nat.le_of_ble_eq_true rfl, Nat.le_of_ble_eq_true rfl⟩ hK hP hS rfl (fun r w' H locs q_1 hP hS => ?_)
  obtain ⟨rfl, rfl⟩ := q_1
  refine fw_if_eqB (x := decide (((1 : Nat) : Int) ≤ (x) ∧ (x) ≤ ((120 : Nat) : Int))) (tgt := 32) hx hb dX2_setLimits_7 (by decide) (fun c_2 => ?_) (fun c_2 => ?_)
  · replace c_2 := of_decide_eq_false c_2
    subst hQ
    refine fx_throw (cls := tx_IA) (text := "no such limit") hx hb hl0 hown hE tx_47 (hts (.classLink RX2 47 tx_IA) (by decide +kernel)) (hts (.initialized tx_IA) (by decide +kernel)) (fun w hw => hts w ((by decide +kernel : ∀ w ∈ (vx_atS RX2 51 tx_IA tx_n).filter goodWord, w ∈ wsX2_setLimits) w hw)) (by decide) dX2_setLimits_32 dX2_setLimits_35 dX2_setLimits_36 dX2_setLimits_38 dX2_setLimits_41 hnx ⟨Nat.le_of_ble_eq_true rfl, Nat.le_of_ble_eq_true rfl, Nat.le_of_ble_eq_true rfl, Nat.le_of_ble_eq_true rfl⟩ hlocks (hl.1.trans hml.symm) hP hS ?_ (Nat.le_of_ble_eq_true rfl) (Nat.le_of_ble_eq_true rfl)
    exact ⟨rfl, by omega, rfl⟩
  · replace c_2 := of_decide_eq_true c_2
    refine lv_iload_n hx hb dX2_setLimits_10 rfl (lv_at hl 2 rfl) ?_
    refine lv_iconst (v := iI ((0 : Nat) : Int)) hx hb dX2_setLimits_11 (by decide) ?_
    refine lv_sipush (v := iI ((1000 : Nat) : Int)) hx hb dX2_setLimits_12 (by decide) ?_
    refine fw_cSi (As := [.int (iI (y)), .int (iI ((0 : Nat) : Int)), .int (iI ((1000 : Nat) : Int))]) (rest := []) ⟨hx, hb, hml, hown, hts⟩ (c_X2_isWithin l D cA z ad (WC cA ad σ μ) (y) ((0 : Nat) : Int) ((1000 : Nat) : Int) ⟨by omega, by omega⟩ ⟨by omega, by omega⟩ ⟨by omega, by omega⟩) (va_cwS 3 hts gX2_setLimits_X2_isWithin rfl rfl rfl (by decide +kernel) ⟨Nat.le_of_ble_eq_true rfl, Nat.le_of_ble_eq_true rfl⟩) rfl hl.1 (Nat.le_of_ble_eq_true rfl) dX2_setLimits_15 ⟨Nat.le_of_ble_eq_true rfl, Nat.le_of_ble_eq_true rfl⟩ hK hP hS rfl (fun r w' H locs q_3 hP hS => ?_)
    obtain ⟨rfl, rfl⟩ := q_3
    refine fw_if_eqB (x := decide (((0 : Nat) : Int) ≤ (y) ∧ (y) ≤ ((1000 : Nat) : Int))) (tgt := 32) hx hb dX2_setLimits_18 (by decide) (fun c_4 => ?_) (fun c_4 => ?_)
    · replace c_4 := of_decide_eq_false c_4
      subst hQ
      refine fx_throw (cls := tx_IA) (text := "no such limit") hx hb hl0 hown hE tx_47 (hts (.classLink RX2 47 tx_IA) (by decide +kernel)) (hts (.initialized tx_IA) (by decide +kernel)) (fun w hw => hts w ((by decide +kernel : ∀ w ∈ (vx_atS RX2 51 tx_IA tx_n).filter goodWord, w ∈ wsX2_setLimits) w hw)) (by decide) dX2_setLimits_32 dX2_setLimits_35 dX2_setLimits_36 dX2_setLimits_38 dX2_setLimits_41 hnx ⟨Nat.le_of_ble_eq_true rfl, Nat.le_of_ble_eq_true rfl, Nat.le_of_ble_eq_true rfl, Nat.le_of_ble_eq_true rfl⟩ hlocks (hl.1.trans hml.symm) hP hS ?_ (Nat.le_of_ble_eq_true rfl) (Nat.le_of_ble_eq_true rfl)
      exact ⟨rfl, by omega, rfl⟩
    · replace c_4 := of_decide_eq_true c_4
      refine lv_iload_n hx hb dX2_setLimits_21 rfl (lv_at hl 3 rfl) ?_
      refine lv_iconst (v := iI ((0 : Nat) : Int)) hx hb dX2_setLimits_22 (by decide) ?_
      refine lv_sipush (v := iI ((1000 : Nat) : Int)) hx hb dX2_setLimits_23 (by decide) ?_
      refine fw_cSi (As := [.int (iI (v)), .int (iI ((0 : Nat) : Int)), .int (iI ((1000 : Nat) : Int))]) (rest := []) ⟨hx, hb, hml, hown, hts⟩ (c_X2_isWithin l D cA z ad (WC cA ad σ μ) (v) ((0 : Nat) : Int) ((1000 : Nat) : Int) ⟨by omega, by omega⟩ ⟨by omega, by omega⟩ ⟨by omega, by omega⟩) (va_cwS 3 hts gX2_setLimits_X2_isWithin rfl rfl rfl (by decide +kernel) ⟨Nat.le_of_ble_eq_true rfl, Nat.le_of_ble_eq_true rfl⟩) rfl hl.1 (Nat.le_of_ble_eq_true rfl) dX2_setLimits_26 ⟨Nat.le_of_ble_eq_true rfl, Nat.le_of_ble_eq_true rfl⟩ hK hP hS rfl (fun r w' H locs q_5 hP hS => ?_)
      obtain ⟨rfl, rfl⟩ := q_5
      refine fw_if_neB (x := decide (((0 : Nat) : Int) ≤ (v) ∧ (v) ≤ ((1000 : Nat) : Int))) (tgt := 42) hx hb dX2_setLimits_29 (by decide) (fun c_6 => ?_) (fun c_6 => ?_)
      · replace c_6 := of_decide_eq_true c_6
        refine lv_aload_n hx hb dX2_setLimits_42 rfl (lv_at hl 0 rfl) ?_
        refine fw_get (ci := 2) (v := .int (iI ((σ 8 1 : Nat) : Int))) (C := RX2) (T := TX2) (N := 8) hx hb hts hinX2 hown hK hP WC_0 rfl 4 (by decide) hf28 (fun _ h9 => h9) rfl dX2_setLimits_43 ?_
        have hn_7 := hI.n
        have hm_8 := hI.lim
        refine lv_istore (lv' := [(4, .int (iI ((σ 8 1 : Nat) : Int))), (0, .ref (ad 0 (0))), (1, .int (iI (x))), (2, .int (iI (y))), (3, .int (iI (v)))]) hx hb dX2_setLimits_46 hl (by decide) rfl (fun ls hl => ?_)
        refine lv_aload_n hx hb dX2_setLimits_48 rfl (lv_at hl 1 rfl) ?_
        refine lv_iload_n hx hb dX2_setLimits_49 rfl (lv_at hl 2 rfl) ?_
        refine fw_topI (b := ((Int.toNat x : Nat) : Int)) (by omega) ?_
        refine fw_put (ci := 2) (v := .int (iI ((Int.toNat x : Nat) : Int))) (ty := .int) (C := RX2) (T := TX2) (N := 8) hx hb hts hinX2 tyX2 tyX2_ok nmX2 hown hK hP hS WC_0 rfl 4 (by decide) hf28 (fun _ h9 => h9) rfl (by decide +kernel) rfl rfl (Nat.le_of_ble_eq_true rfl) dX2_setLimits_50 (fun H locs hP hS => ?_)
        have hP := wC_8 (j := 1) (v := Int.toNat x) hP (by decide) rfl
        refine lv_aload_n hx hb dX2_setLimits_53 rfl (lv_at hl 1 rfl) ?_
        refine lv_iload_n hx hb dX2_setLimits_54 rfl (lv_at hl 3 rfl) ?_
        refine fw_topI (b := ((Int.toNat y : Nat) : Int)) (by omega) ?_
        refine fw_put (ci := 2) (v := .int (iI ((Int.toNat y : Nat) : Int))) (ty := .int) (C := RX2) (T := TX2) (N := 8) hx hb hts hinX2 tyX2 tyX2_ok nmX2 hown hK hP hS WC_0 rfl 5 (by decide) hf31 (fun _ h9 => h9) rfl (by decide +kernel) rfl rfl (Nat.le_of_ble_eq_true rfl) dX2_setLimits_55 (fun H locs hP hS => ?_)
        have hP := wC_8 (j := 2) (v := Int.toNat y) hP (by decide) rfl
        refine lv_aload_n hx hb dX2_setLimits_58 rfl (lv_at hl 1 rfl) ?_
        refine lv_iload_n hx hb dX2_setLimits_59 rfl (lv_at hl 4 rfl) ?_
        refine fw_topI (b := ((Int.toNat v : Nat) : Int)) (by omega) ?_
        refine fw_put (ci := 2) (v := .int (iI ((Int.toNat v : Nat) : Int))) (ty := .int) (C := RX2) (T := TX2) (N := 8) hx hb hts hinX2 tyX2 tyX2_ok nmX2 hown hK hP hS WC_0 rfl 6 (by decide) hf34 (fun _ h9 => h9) rfl (by decide +kernel) rfl rfl (Nat.le_of_ble_eq_true rfl) dX2_setLimits_60 (fun H locs hP hS => ?_)
        have hP := wC_8 (j := 3) (v := Int.toNat v) hP (by decide) rfl
        refine lv_iload hx hb dX2_setLimits_63 (lv_at hl 0 rfl) ?_
        subst hQ
        refine vx_ret (W.widen (k := 1) (n := 6) (Nat.le_of_ble_eq_true rfl) (Nat.le_of_ble_eq_true rfl) ?_)
        exact fw_iret hx hb hr hlocks dX2_setLimits_65 hP hS ⟨by omega, rfl, rfl⟩
      · replace c_6 := of_decide_eq_false c_6
        subst hQ
        refine fx_throw (cls := tx_IA) (text := "no such limit") hx hb hl0 hown hE tx_47 (hts (.classLink RX2 47 tx_IA) (by decide +kernel)) (hts (.initialized tx_IA) (by decide +kernel)) (fun w hw => hts w ((by decide +kernel : ∀ w ∈ (vx_atS RX2 51 tx_IA tx_n).filter goodWord, w ∈ wsX2_setLimits) w hw)) (by decide) dX2_setLimits_32 dX2_setLimits_35 dX2_setLimits_36 dX2_setLimits_38 dX2_setLimits_41 hnx ⟨Nat.le_of_ble_eq_true rfl, Nat.le_of_ble_eq_true rfl, Nat.le_of_ble_eq_true rfl, Nat.le_of_ble_eq_true rfl⟩ hlocks (hl.1.trans hml.symm) hP hS ?_ (Nat.le_of_ble_eq_true rfl) (Nat.le_of_ble_eq_true rfl)
        exact ⟨rfl, by omega, rfl⟩

abbrev rm_X2_load : Room := { frames := 6, cells := 1, slots := 6, locals := 91 }
abbrev po_X2_load (cA : Nat → ClassId) (ad : fw_Ad) (σ : St) (μ : fw_W) (x b q : Int) : Int32 → fw_W → Prop := fun r w' => ((0 ≤ x ∧ x < ((σ 8 0 : Nat) : Int)) ∧ ((0 ≤ b ∧ b ≤ 5) ∧ 0 ≤ q ∧ q ≤ 4)) ∧ allowed σ (Int.toNat x) (5 * Int.toNat b + Int.toNat q) ∧ r = iI ((high σ (5 * Int.toNat b + Int.toNat q) : Nat) : Int) ∧ w' = WC cA ad (putS σ (Int.toNat x) (5 * Int.toNat b + Int.toNat q)) μ
abbrev px_X2_load (cA : Nat → ClassId) (ad : fw_Ad) (σ : St) (μ : fw_W) (x b q : Int) : String → fw_W → Prop := fun E w' => ((E = tx_IO ∧ ¬ ((0 ≤ x ∧ x < ((σ 8 0 : Nat) : Int)) ∧ ((0 ≤ b ∧ b ≤ 5) ∧ 0 ≤ q ∧ q ≤ 4))) ∨ (E = tx_IS ∧ ((0 ≤ x ∧ x < ((σ 8 0 : Nat) : Int)) ∧ ((0 ≤ b ∧ b ≤ 5) ∧ 0 ≤ q ∧ q ≤ 4)) ∧ ¬ allowed σ (Int.toNat x) (5 * Int.toNat b + Int.toNat q))) ∧ w' = WC cA ad σ μ
set_option maxHeartbeats 4000000 in
set_option maxRecDepth 100000 in
theorem c_X2_load (l : Launch) (hl0 : l.stackTraces = false) (D : va_G) (cA : Nat → ClassId) (z : Nat) (ad : fw_Ad) (sa : Nat → Nat) (σ : St) (μ : fw_W) (x b q : Int) (hI : Inv σ) (hx0 : -2147483648 ≤ x ∧ x ≤ 2147483647) (hb0 : -2147483648 ≤ b ∧ b ≤ 2147483647) (hq0 : -2147483648 ≤ q ∧ q ≤ 2147483647) : vx_Met l yX2_load wsX2_load rm_X2_load (va_Pc [.ref (ad 0 (0)), .int (iI (x)), .int (iI (b)), .int (iI (q))] (fx_Pre D vwCl (fw_T cA) z ad (WC cA ad σ μ) sa)) (fw_Qi D vwCl z ad (po_X2_load cA ad σ μ x b q)) (fx_X D vwCl z ad (px_X2_load cA ad σ μ x b q)) 1 6 (fw_A z) := by
  refine vx_ofW (cc := cX2_load) (maxL := 6) (ret := (some .int)) (by decide) rfl ?_
  intro pg en s m args below meth cd s₁ B hml hnx hv
  obtain ⟨hargs, ⟨hP, hK⟩, hE⟩ := hv
  have hx := B.exec
  have hb := B.bytes
  have hr := B.returns
  have hts := atoms_spec (ws := wsX2_load) B.pre
  have hown : s.vm.findClass RX2 = some m.cls := findClass_of_methodNamed B.named
  have hlocks := B.notSynchronized
  have hinX0 : ∀ w ∈ u_ws RX0 TX0 8, w ∈ wsX2_load := by decide +kernel
  have hf107 := hts (.fieldLink RX2 107 "StowagePlan$Box" "tier" "I") (by decide +kernel)
  have hl := lv_entry ([.ref (ad 0 (0)), .int (iI (x)), .int (iI (b)), .int (iI (q))]) (n := 6) (Nat.le_of_ble_eq_true rfl)
  have hent : entryFrame m args 6 = entryFrame m ([.ref (ad 0 (0)), .int (iI (x)), .int (iI (b)), .int (iI (q))] : List Value).toArray 6 := by rw [hargs]
  rw [hent, lg_entry_eq]
  generalize (lg_sl ([.ref (ad 0 (0)), .int (iI (x)), .int (iI (b)), .int (iI (q))]) ++ List.replicate (6 - (lg_sl ([.ref (ad 0 (0)), .int (iI (x)), .int (iI (b)), .int (iI (q))])).length) Slot.unset).toArray = ls at hl ⊢
  have hl : lv_has ls 6 [(0, .ref (ad 0 (0))), (1, .int (iI (x))), (2, .int (iI (b))), (3, .int (iI (q)))] := hl
  generalize hQ : vx_MQ below (fw_Qi D vwCl z ad (po_X2_load cA ad σ μ x b q)) (fx_X D vwCl z ad (px_X2_load cA ad σ μ x b q)) args s 1 6 (fw_A z) = Q
  generalize hH : s.heap = H at hP ⊢
  have hS : va_S (fw_A z) s.heap H [] := by rw [← hH]; exact va_S.rf
  generalize ([] : List Loc) = locs at hS ⊢
  refine lv_aload_n hx hb dX2_load_0 rfl (lv_at hl 0 rfl) ?_
  refine lv_iload_n hx hb dX2_load_1 rfl (lv_at hl 1 rfl) ?_
  refine fw_cVq (As := [.int (iI (x))]) (rest := []) ⟨hx, hb, hml, hown, hts⟩ (c_X2_boxNumbered l D cA z ad σ μ (x) hI ⟨by omega, by omega⟩) (cwV 1 hts gX2_load_X2_boxNumbered rfl rfl rfl (by decide +kernel) ⟨Nat.le_of_ble_eq_true rfl, Nat.le_of_ble_eq_true rfl⟩) WC_0 rfl rfl hl.1 (Nat.le_of_ble_eq_true rfl) dX2_load_2 ⟨Nat.le_of_ble_eq_true rfl, Nat.le_of_ble_eq_true rfl⟩ hK hP hS rfl (fun r w' H locs q_1 hP hS => ?_)
  obtain ⟨rfl, rfl⟩ := q_1
  by_cases n_2 : 0 ≤ (x) ∧ (x) < ((σ 8 0 : Nat) : Int)
  · refine fw_top (v' := .ref (ad 5 (Int.toNat (x)))) (by rw [boxAt, if_pos n_2]; rfl) ?_
    have n_2b : Int.toNat (x) < σ 8 0 := by omega
    refine lv_astore (lv' := [(4, .ref (ad 5 (Int.toNat (x)))), (0, .ref (ad 0 (0))), (1, .int (iI (x))), (2, .int (iI (b))), (3, .int (iI (q)))]) hx hb dX2_load_5 hl (by decide) rfl (fun ls hl => ?_)
    refine lv_aload_n hx hb dX2_load_7 rfl (lv_at hl 1 rfl) ?_
    refine lv_iload_n hx hb dX2_load_8 rfl (lv_at hl 3 rfl) ?_
    refine lv_iload_n hx hb dX2_load_9 rfl (lv_at hl 4 rfl) ?_
    refine fw_cVq (As := [.int (iI (b)), .int (iI (q))]) (rest := []) ⟨hx, hb, hml, hown, hts⟩ (c_X2_stackAt l D cA z ad σ μ (b) (q) hI ⟨by omega, by omega⟩ ⟨by omega, by omega⟩) (cwV 2 hts gX2_load_X2_stackAt rfl rfl rfl (by decide +kernel) ⟨Nat.le_of_ble_eq_true rfl, Nat.le_of_ble_eq_true rfl⟩) WC_0 rfl rfl hl.1 (Nat.le_of_ble_eq_true rfl) dX2_load_10 ⟨Nat.le_of_ble_eq_true rfl, Nat.le_of_ble_eq_true rfl⟩ hK hP hS rfl (fun r w' H locs q_3 hP hS => ?_)
    obtain ⟨rfl, rfl⟩ := q_3
    by_cases n_4 : (0 ≤ (b) ∧ (b) ≤ 5) ∧ 0 ≤ (q) ∧ (q) ≤ 4
    · refine fw_top (v' := .ref (ad 3 (5 * Int.toNat (b) + Int.toNat (q)))) (by rw [stkAt, if_pos n_4]; rfl) ?_
      have n_4b : 5 * Int.toNat (b) + Int.toNat (q) < 30 := by omega
      refine lv_astore (lv' := [(5, .ref (ad 3 (5 * Int.toNat (b) + Int.toNat (q)))), (4, .ref (ad 5 (Int.toNat (x)))), (0, .ref (ad 0 (0))), (1, .int (iI (x))), (2, .int (iI (b))), (3, .int (iI (q)))]) hx hb dX2_load_13 hl (by decide) rfl (fun ls hl => ?_)
      refine lv_aload hx hb dX2_load_15 (lv_at hl 1 rfl) ?_
      refine lv_ifnull hx hb dX2_load_17 ?_
      refine lv_aload hx hb dX2_load_20 (lv_at hl 0 rfl) ?_
      refine lv_ifnonnull (tgt := 35) hx hb dX2_load_22 (by decide) ?_
      refine lv_aload_n hx hb dX2_load_35 rfl (lv_at hl 2 rfl) ?_
      refine lv_aload hx hb dX2_load_36 (lv_at hl 1 rfl) ?_
      refine lv_aload hx hb dX2_load_38 (lv_at hl 0 rfl) ?_
      refine fw_cVi (As := [.ref (ad 5 (Int.toNat (x))), .ref (ad 3 (5 * Int.toNat (b) + Int.toNat (q)))]) (rest := []) ⟨hx, hb, hml, hown, hts⟩ (c_X2_isLoadable l D cA z ad σ μ (Int.toNat (x)) (5 * Int.toNat (b) + Int.toNat (q)) hI n_2b n_4b) (cwV 2 hts gX2_load_X2_isLoadable rfl rfl rfl (by decide +kernel) ⟨Nat.le_of_ble_eq_true rfl, Nat.le_of_ble_eq_true rfl⟩) WC_0 rfl rfl hl.1 (Nat.le_of_ble_eq_true rfl) dX2_load_40 ⟨Nat.le_of_ble_eq_true rfl, Nat.le_of_ble_eq_true rfl⟩ hK hP hS rfl (fun r w' H locs q_5 hP hS => ?_)
      obtain ⟨rfl, rfl⟩ := q_5
      refine fw_if_neB (x := cB (allowed σ (Int.toNat (x)) (5 * Int.toNat (b) + Int.toNat (q)))) (tgt := 56) hx hb dX2_load_43 (by decide) (fun c_6 => ?_) (fun c_6 => ?_)
      · replace c_6 := cB_t.mp c_6
        have hok : allowed σ (Int.toNat x) (5 * Int.toNat b + Int.toNat q) := by assumption
        refine lv_aload hx hb dX2_load_56 (lv_at hl 0 rfl) ?_
        refine lv_aload hx hb dX2_load_58 (lv_at hl 1 rfl) ?_
        refine fw_cVv (As := [.ref (ad 5 (Int.toNat (x)))]) (rest := []) ⟨hx, hb, hml, hown, hts⟩ (c_X1_push l D cA z ad (WC cA ad σ μ) (5 * Int.toNat (b) + Int.toNat (q)) (Int.toNat (x)) (high σ (5 * Int.toNat (b) + Int.toNat (q))) (fun j => (occ σ (5 * Int.toNat (b) + Int.toNat (q)) j).map (ad 5)) (.int (iI ((((5 * Int.toNat (b) + Int.toNat (q))) / 5 : Nat) : Int))) (.int (iI ((((5 * Int.toNat (b) + Int.toNat (q))) % 5 : Nat) : Int))) (.int (iI ((σ 7 ((5 * Int.toNat (b) + Int.toNat (q))) : Nat) : Int))) (.int (iI ((((Int.toNat (x))) : Nat) : Int))) (.int (iI ((σ 0 ((Int.toNat (x))) : Nat) : Int))) (.int (iI ((σ 1 ((Int.toNat (x))) : Nat) : Int))) (.int (iI ((σ 2 ((Int.toNat (x))) : Nat) : Int))) (.int (iI ((σ 3 ((Int.toNat (x))) : Nat) : Int))) (.int (iI (bI (decide (σ 4 ((Int.toNat (x))) = 2))))) (va_rf (if σ 4 ((Int.toNat (x))) = 1 then some (ad 3 (σ 5 ((Int.toNat (x))))) else none)) (.int (iI ((σ 6 ((Int.toNat (x))) : Nat) : Int))) (WC_3 n_4b) (WC_4 n_4b) (WC_5 n_2b) hok.2.2.1) (cwV 1 hts gX2_load_X1_push rfl rfl rfl (by decide +kernel) ⟨Nat.le_of_ble_eq_true rfl, Nat.le_of_ble_eq_true rfl⟩) (WC_3 n_4b) rfl rfl hl.1 (Nat.le_of_ble_eq_true rfl) dX2_load_60 ⟨Nat.le_of_ble_eq_true rfl, Nat.le_of_ble_eq_true rfl⟩ hK hP hS rfl (fun w' H locs q_7 hP hS => ?_)
        subst q_7
        have hP := wC_put hI n_2b n_4b hok.1 hP
        have hI2 : Inv (putS σ (Int.toNat x) (5 * Int.toNat b + Int.toNat q)) := Inv_put hI (by omega) (by omega) hok.1 hok.2.2.1
        refine lv_aload hx hb dX2_load_63 (lv_at hl 1 rfl) ?_
        refine fw_get (ci := 0) (v := .int (iI (((putS σ (Int.toNat (x)) (5 * Int.toNat (b) + Int.toNat (q))) 6 (Int.toNat (x)) : Nat) : Int))) (C := RX0) (T := TX0) (N := 8) hx hb hts hinX0 hown hK hP (WC_5 n_2b) rfl 7 (by decide) hf107 (fun _ h9 => h9) rfl dX2_load_65 ?_
        have hc_8 := hI2.c (Int.toNat (x))
        subst hQ
        refine vx_ret (W.widen (k := 1) (n := 6) (Nat.le_of_ble_eq_true rfl) (Nat.le_of_ble_eq_true rfl) ?_)
        exact fw_iret hx hb hr hlocks dX2_load_68 hP hS ⟨by omega, hok, congrArg iI (by simp [putS, up]), rfl⟩
      · replace c_6 := cB_f.mp c_6
        subst hQ
        refine fx_throw (cls := tx_IS) (text := "it cannot be loaded there") hx hb hl0 hown hE tx_54 (hts (.classLink RX2 54 tx_IS) (by decide +kernel)) (hts (.initialized tx_IS) (by decide +kernel)) (fun w hw => hts w ((by decide +kernel : ∀ w ∈ (vx_atS RX2 58 tx_IS tx_n).filter goodWord, w ∈ wsX2_load) w hw)) (by decide) dX2_load_46 dX2_load_49 dX2_load_50 dX2_load_52 dX2_load_55 hnx ⟨Nat.le_of_ble_eq_true rfl, Nat.le_of_ble_eq_true rfl, Nat.le_of_ble_eq_true rfl, Nat.le_of_ble_eq_true rfl⟩ hlocks (hl.1.trans hml.symm) hP hS ?_ (Nat.le_of_ble_eq_true rfl) (Nat.le_of_ble_eq_true rfl)
        exact ⟨Or.inr ⟨rfl, by omega, by assumption⟩, rfl⟩
    · refine fw_top (v' := .null) (by rw [stkAt, if_neg n_4]; rfl) ?_
      refine lv_astoreN (lv' := [(5, .null), (4, .ref (ad 5 (Int.toNat (x)))), (0, .ref (ad 0 (0))), (1, .int (iI (x))), (2, .int (iI (b))), (3, .int (iI (q)))]) hx hb dX2_load_13 hl (by decide) rfl (fun ls hl => ?_)
      refine lv_aload hx hb dX2_load_15 (lv_at hl 1 rfl) ?_
      refine lv_ifnull hx hb dX2_load_17 ?_
      refine lv_aloadN hx hb dX2_load_20 (lv_at hl 0 rfl) ?_
      refine lv_ifnonnullN hx hb dX2_load_22 ?_
      subst hQ
      refine fx_throw (cls := tx_IO) (text := "no such container, bay or row") hx hb hl0 hown hE tx_68 (hts (.classLink RX2 68 tx_IO) (by decide +kernel)) (hts (.initialized tx_IO) (by decide +kernel)) (fun w hw => hts w ((by decide +kernel : ∀ w ∈ (vx_atS RX2 72 tx_IO tx_n).filter goodWord, w ∈ wsX2_load) w hw)) (by decide) dX2_load_25 dX2_load_28 dX2_load_29 dX2_load_31 dX2_load_34 hnx ⟨Nat.le_of_ble_eq_true rfl, Nat.le_of_ble_eq_true rfl, Nat.le_of_ble_eq_true rfl, Nat.le_of_ble_eq_true rfl⟩ hlocks (hl.1.trans hml.symm) hP hS ?_ (Nat.le_of_ble_eq_true rfl) (Nat.le_of_ble_eq_true rfl)
      exact ⟨Or.inl ⟨rfl, by omega⟩, rfl⟩
  · refine fw_top (v' := .null) (by rw [boxAt, if_neg n_2]; rfl) ?_
    refine lv_astoreN (lv' := [(4, .null), (0, .ref (ad 0 (0))), (1, .int (iI (x))), (2, .int (iI (b))), (3, .int (iI (q)))]) hx hb dX2_load_5 hl (by decide) rfl (fun ls hl => ?_)
    refine lv_aload_n hx hb dX2_load_7 rfl (lv_at hl 1 rfl) ?_
    refine lv_iload_n hx hb dX2_load_8 rfl (lv_at hl 3 rfl) ?_
    refine lv_iload_n hx hb dX2_load_9 rfl (lv_at hl 4 rfl) ?_
    refine fw_cVq (As := [.int (iI (b)), .int (iI (q))]) (rest := []) ⟨hx, hb, hml, hown, hts⟩ (c_X2_stackAt l D cA z ad σ μ (b) (q) hI ⟨by omega, by omega⟩ ⟨by omega, by omega⟩) (cwV 2 hts gX2_load_X2_stackAt rfl rfl rfl (by decide +kernel) ⟨Nat.le_of_ble_eq_true rfl, Nat.le_of_ble_eq_true rfl⟩) WC_0 rfl rfl hl.1 (Nat.le_of_ble_eq_true rfl) dX2_load_10 ⟨Nat.le_of_ble_eq_true rfl, Nat.le_of_ble_eq_true rfl⟩ hK hP hS rfl (fun r w' H locs q_9 hP hS => ?_)
    obtain ⟨rfl, rfl⟩ := q_9
    by_cases n_10 : (0 ≤ (b) ∧ (b) ≤ 5) ∧ 0 ≤ (q) ∧ (q) ≤ 4
    · refine fw_top (v' := .ref (ad 3 (5 * Int.toNat (b) + Int.toNat (q)))) (by rw [stkAt, if_pos n_10]; rfl) ?_
      have n_10b : 5 * Int.toNat (b) + Int.toNat (q) < 30 := by omega
      refine lv_astore (lv' := [(5, .ref (ad 3 (5 * Int.toNat (b) + Int.toNat (q)))), (4, .null), (0, .ref (ad 0 (0))), (1, .int (iI (x))), (2, .int (iI (b))), (3, .int (iI (q)))]) hx hb dX2_load_13 hl (by decide) rfl (fun ls hl => ?_)
      refine lv_aloadN hx hb dX2_load_15 (lv_at hl 1 rfl) ?_
      refine lv_ifnullN (tgt := 25) hx hb dX2_load_17 (by decide) ?_
      subst hQ
      refine fx_throw (cls := tx_IO) (text := "no such container, bay or row") hx hb hl0 hown hE tx_68 (hts (.classLink RX2 68 tx_IO) (by decide +kernel)) (hts (.initialized tx_IO) (by decide +kernel)) (fun w hw => hts w ((by decide +kernel : ∀ w ∈ (vx_atS RX2 72 tx_IO tx_n).filter goodWord, w ∈ wsX2_load) w hw)) (by decide) dX2_load_25 dX2_load_28 dX2_load_29 dX2_load_31 dX2_load_34 hnx ⟨Nat.le_of_ble_eq_true rfl, Nat.le_of_ble_eq_true rfl, Nat.le_of_ble_eq_true rfl, Nat.le_of_ble_eq_true rfl⟩ hlocks (hl.1.trans hml.symm) hP hS ?_ (Nat.le_of_ble_eq_true rfl) (Nat.le_of_ble_eq_true rfl)
      exact ⟨Or.inl ⟨rfl, by omega⟩, rfl⟩
    · refine fw_top (v' := .null) (by rw [stkAt, if_neg n_10]; rfl) ?_
      refine lv_astoreN (lv' := [(5, .null), (4, .null), (0, .ref (ad 0 (0))), (1, .int (iI (x))), (2, .int (iI (b))), (3, .int (iI (q)))]) hx hb dX2_load_13 hl (by decide) rfl (fun ls hl => ?_)
      refine lv_aloadN hx hb dX2_load_15 (lv_at hl 1 rfl) ?_
      refine lv_ifnullN (tgt := 25) hx hb dX2_load_17 (by decide) ?_
      subst hQ
      refine fx_throw (cls := tx_IO) (text := "no such container, bay or row") hx hb hl0 hown hE tx_68 (hts (.classLink RX2 68 tx_IO) (by decide +kernel)) (hts (.initialized tx_IO) (by decide +kernel)) (fun w hw => hts w ((by decide +kernel : ∀ w ∈ (vx_atS RX2 72 tx_IO tx_n).filter goodWord, w ∈ wsX2_load) w hw)) (by decide) dX2_load_25 dX2_load_28 dX2_load_29 dX2_load_31 dX2_load_34 hnx ⟨Nat.le_of_ble_eq_true rfl, Nat.le_of_ble_eq_true rfl, Nat.le_of_ble_eq_true rfl, Nat.le_of_ble_eq_true rfl⟩ hlocks (hl.1.trans hml.symm) hP hS ?_ (Nat.le_of_ble_eq_true rfl) (Nat.le_of_ble_eq_true rfl)
      exact ⟨Or.inl ⟨rfl, by omega⟩, rfl⟩
