abbrev rm_X3_addContainer : Room := { frames := 1, cells := 1, slots := 5, locals := 60 }
abbrev po_X3_addContainer (cA : Nat → ClassId) (ad : fw_Ad) (σ : St) (th u a : Int) (μ : fw_W) (x p q y : Int) : Int32 → fw_W → Prop := fun r w' => (¬ ((1 ≤ x ∧ x ≤ 30) ∧ (0 ≤ p ∧ p ≤ 4) ∧ (p < q ∧ q ≤ 5) ∧ 0 ≤ y ∧ y ≤ 4) ∧ r = iI 0 ∧ w' = WM cA ad σ ((1 : Nat) : Int) u a μ) ∨ (((1 ≤ x ∧ x ≤ 30) ∧ (0 ≤ p ∧ p ≤ 4) ∧ (p < q ∧ q ≤ 5) ∧ 0 ≤ y ∧ y ≤ 4) ∧ ¬ (((σ 8 4 : Nat) : Int) ≤ p ∧ σ 8 0 < 40) ∧ r = iI 0 ∧ w' = WM cA ad σ ((2 : Nat) : Int) u a μ) ∨ (((1 ≤ x ∧ x ≤ 30) ∧ (0 ≤ p ∧ p ≤ 4) ∧ (p < q ∧ q ≤ 5) ∧ 0 ≤ y ∧ y ≤ 4) ∧ (((σ 8 4 : Nat) : Int) ≤ p ∧ σ 8 0 < 40) ∧ r = iI ((σ 8 0 : Nat) : Int) ∧ w' = WM cA ad (addS σ (Int.toNat x) (Int.toNat p) (Int.toNat q) (Int.toNat y)) ((0 : Nat) : Int) u a μ)
set_option maxHeartbeats 4000000 in
set_option maxRecDepth 100000 in
theorem c_X3_addContainer (l : Launch) (D : va_G) (cA : Nat → ClassId) (z : Nat) (ad : fw_Ad) (σ : St) (th u a : Int) (μ : fw_W) (x p q y : Int) (hI : Inv σ) (h16 : μ 16 0 = none) (hx0 : -2147483648 ≤ x ∧ x ≤ 2147483647) (hp0 : -2147483648 ≤ p ∧ p ≤ 2147483647) (hq0 : -2147483648 ≤ q ∧ q ≤ 2147483647) (hy0 : -2147483648 ≤ y ∧ y ≤ 2147483647) : Met l yX3_addContainer wsX3_addContainer rm_X3_addContainer (va_Pc [.ref (ad 10 (0)), .int (iI (x)), .int (iI (p)), .int (iI (q)), .int (iI (y))] (fa_Pre D vwCl (fw_T cA) z ad (WM cA ad σ th u a μ) (ad 16 0))) (fw_Qi D vwCl z ad (po_X3_addContainer cA ad σ th u a μ x p q y)) 1 5 (fw_A z) := by
  refine Met.ofW (cc := cX3_addContainer) (maxL := 6) (ret := (some .int)) (by decide) rfl ?_
  intro pg en s m args below meth cd s₁ B hml hv
  obtain ⟨hargs, ⟨hP, hK⟩, hH0, hAO⟩ := hv
  have hx := B.exec
  have hb := B.bytes
  have hr := B.returns
  have hts := atoms_spec (ws := wsX3_addContainer) B.pre
  have hown : s.vm.findClass RX3 = some m.cls := findClass_of_methodNamed B.named
  have hlocks := B.notSynchronized
  have hinX3 : ∀ w ∈ u_ws RX3 TX3 13, w ∈ wsX3_addContainer := by decide +kernel
  have hf33 := hts (.fieldLink RX3 33 "StowagePlanModel" "thrown" "I") (by decide +kernel)
  have hf54 := hts (.fieldLink RX3 54 "StowagePlanModel" "port" "I") (by decide +kernel)
  have hf36 := hts (.fieldLink RX3 36 "StowagePlanModel" "many" "I") (by decide +kernel)
  have hf9 := hts (.fieldLink RX3 9 "StowagePlanModel" "table" "[I") (by decide +kernel)
  have hl := lv_entry ([.ref (ad 10 (0)), .int (iI (x)), .int (iI (p)), .int (iI (q)), .int (iI (y))]) (n := 6) (Nat.le_of_ble_eq_true rfl)
  have hent : entryFrame m args 6 = entryFrame m ([.ref (ad 10 (0)), .int (iI (x)), .int (iI (p)), .int (iI (q)), .int (iI (y))] : List Value).toArray 6 := by rw [hargs]
  rw [hent, lg_entry_eq]
  generalize (lg_sl ([.ref (ad 10 (0)), .int (iI (x)), .int (iI (p)), .int (iI (q)), .int (iI (y))]) ++ List.replicate (6 - (lg_sl ([.ref (ad 10 (0)), .int (iI (x)), .int (iI (p)), .int (iI (q)), .int (iI (y))])).length) Slot.unset).toArray = ls at hl ⊢
  have hl : lv_has ls 6 [(0, .ref (ad 10 (0))), (1, .int (iI (x))), (2, .int (iI (p))), (3, .int (iI (q))), (4, .int (iI (y)))] := hl
  generalize hQ : MQ below (fw_Qi D vwCl z ad (po_X3_addContainer cA ad σ th u a μ x p q y)) args s 1 5 (fw_A z) = Q
  generalize hH : s.heap = H at hP ⊢
  have hS : va_S (fw_A z) s.heap H [] := by rw [← hH]; exact va_S.rf
  generalize ([] : List Loc) = locs at hS ⊢
  refine lv_aload_n hx hb dX3_addContainer_0 rfl (lv_at hl 0 rfl) ?_
  refine lv_iconst (v := iI ((0 : Nat) : Int)) hx hb dX3_addContainer_1 (by decide) ?_
  refine fw_put (ci := 3) (v := .int (iI ((0 : Nat) : Int))) (ty := .int) (C := RX3) (T := TX3) (N := 13) hx hb hts hinX3 tyX3 tyX3_ok nmX3 hown hK hP hS WM_10 rfl 0 (by decide) hf33 (fun _ h9 => h9) rfl (by decide +kernel) rfl rfl (Nat.le_of_ble_eq_true rfl) dX3_addContainer_2 (fun H locs hP hS => ?_)
  have hP := wM_put (th' := ((0 : Nat) : Int)) (u' := u) (a' := a) hP rfl
  refine lv_iload_n hx hb dX3_addContainer_5 rfl (lv_at hl 1 rfl) ?_
  refine lv_iconst (v := iI ((1 : Nat) : Int)) hx hb dX3_addContainer_6 (by decide) ?_
  refine lv_bipush (v := iI ((30 : Nat) : Int)) hx hb dX3_addContainer_7 (by decide) ?_
  refine fw_cSi (As := [.int (iI (x)), .int (iI ((1 : Nat) : Int)), .int (iI ((30 : Nat) : Int))]) (rest := []) ⟨hx, hb, hml, hown, hts⟩ (c_X3_isIn l D cA z ad (WM cA ad σ (((0 : Nat) : Int)) u a μ) (x) ((1 : Nat) : Int) ((30 : Nat) : Int) ⟨by omega, by omega⟩ ⟨by omega, by omega⟩ ⟨by omega, by omega⟩) (va_cwS 3 hts gX3_addContainer_X3_isIn rfl rfl rfl (by decide +kernel) ⟨Nat.le_of_ble_eq_true rfl, Nat.le_of_ble_eq_true rfl⟩) rfl hl.1 (Nat.le_of_ble_eq_true rfl) dX3_addContainer_9 ⟨Nat.le_of_ble_eq_true rfl, Nat.le_of_ble_eq_true rfl⟩ hK hP hS rfl (fun r w' H locs q_1 hP hS => ?_)
  obtain ⟨rfl, rfl⟩ := q_1
  refine fw_if_eqB (x := decide (((1 : Nat) : Int) ≤ (x) ∧ (x) ≤ ((30 : Nat) : Int))) (tgt := 45) hx hb dX3_addContainer_12 (by decide) (fun c_2 => ?_) (fun c_2 => ?_)
  · replace c_2 := of_decide_eq_false c_2
    refine lv_aload_n hx hb dX3_addContainer_45 rfl (lv_at hl 0 rfl) ?_
    refine lv_iconst (v := iI ((1 : Nat) : Int)) hx hb dX3_addContainer_46 (by decide) ?_
    refine fw_cVi (As := [.int (iI ((1 : Nat) : Int))]) (rest := []) ⟨hx, hb, hml, hown, hts⟩ (c_X3_fail l D cA z ad σ (((0 : Nat) : Int)) u a μ ((1 : Nat) : Int) hI) (cwV 1 hts gX3_addContainer_X3_fail rfl rfl rfl (by decide +kernel) ⟨Nat.le_of_ble_eq_true rfl, Nat.le_of_ble_eq_true rfl⟩) WM_10 rfl rfl hl.1 (Nat.le_of_ble_eq_true rfl) dX3_addContainer_47 ⟨Nat.le_of_ble_eq_true rfl, Nat.le_of_ble_eq_true rfl⟩ hK hP hS rfl (fun r w' H locs q_3 hP hS => ?_)
    obtain ⟨rfl, rfl⟩ := q_3
    subst hQ
    refine W.widen (k := 1) (n := 5) (Nat.le_of_ble_eq_true rfl) (Nat.le_of_ble_eq_true rfl) ?_
    exact fw_iret hx hb hr hlocks dX3_addContainer_50 hP hS (Or.inl ⟨by omega, rfl, rfl⟩)
  · replace c_2 := of_decide_eq_true c_2
    refine lv_iload_n hx hb dX3_addContainer_15 rfl (lv_at hl 2 rfl) ?_
    refine lv_iconst (v := iI ((0 : Nat) : Int)) hx hb dX3_addContainer_16 (by decide) ?_
    refine lv_iconst (v := iI ((4 : Nat) : Int)) hx hb dX3_addContainer_17 (by decide) ?_
    refine fw_cSi (As := [.int (iI (p)), .int (iI ((0 : Nat) : Int)), .int (iI ((4 : Nat) : Int))]) (rest := []) ⟨hx, hb, hml, hown, hts⟩ (c_X3_isIn l D cA z ad (WM cA ad σ (((0 : Nat) : Int)) u a μ) (p) ((0 : Nat) : Int) ((4 : Nat) : Int) ⟨by omega, by omega⟩ ⟨by omega, by omega⟩ ⟨by omega, by omega⟩) (va_cwS 3 hts gX3_addContainer_X3_isIn rfl rfl rfl (by decide +kernel) ⟨Nat.le_of_ble_eq_true rfl, Nat.le_of_ble_eq_true rfl⟩) rfl hl.1 (Nat.le_of_ble_eq_true rfl) dX3_addContainer_18 ⟨Nat.le_of_ble_eq_true rfl, Nat.le_of_ble_eq_true rfl⟩ hK hP hS rfl (fun r w' H locs q_4 hP hS => ?_)
    obtain ⟨rfl, rfl⟩ := q_4
    refine fw_if_eqB (x := decide (((0 : Nat) : Int) ≤ (p) ∧ (p) ≤ ((4 : Nat) : Int))) (tgt := 45) hx hb dX3_addContainer_21 (by decide) (fun c_5 => ?_) (fun c_5 => ?_)
    · replace c_5 := of_decide_eq_false c_5
      refine lv_aload_n hx hb dX3_addContainer_45 rfl (lv_at hl 0 rfl) ?_
      refine lv_iconst (v := iI ((1 : Nat) : Int)) hx hb dX3_addContainer_46 (by decide) ?_
      refine fw_cVi (As := [.int (iI ((1 : Nat) : Int))]) (rest := []) ⟨hx, hb, hml, hown, hts⟩ (c_X3_fail l D cA z ad σ (((0 : Nat) : Int)) u a μ ((1 : Nat) : Int) hI) (cwV 1 hts gX3_addContainer_X3_fail rfl rfl rfl (by decide +kernel) ⟨Nat.le_of_ble_eq_true rfl, Nat.le_of_ble_eq_true rfl⟩) WM_10 rfl rfl hl.1 (Nat.le_of_ble_eq_true rfl) dX3_addContainer_47 ⟨Nat.le_of_ble_eq_true rfl, Nat.le_of_ble_eq_true rfl⟩ hK hP hS rfl (fun r w' H locs q_6 hP hS => ?_)
      obtain ⟨rfl, rfl⟩ := q_6
      subst hQ
      refine W.widen (k := 1) (n := 5) (Nat.le_of_ble_eq_true rfl) (Nat.le_of_ble_eq_true rfl) ?_
      exact fw_iret hx hb hr hlocks dX3_addContainer_50 hP hS (Or.inl ⟨by omega, rfl, rfl⟩)
    · replace c_5 := of_decide_eq_true c_5
      refine lv_iload_n hx hb dX3_addContainer_24 rfl (lv_at hl 3 rfl) ?_
      refine lv_iload_n hx hb dX3_addContainer_25 rfl (lv_at hl 2 rfl) ?_
      refine lv_iconst (v := iI ((1 : Nat) : Int)) hx hb dX3_addContainer_26 (by decide) ?_
      refine fw_iadd (a := (p)) (b := ((1 : Nat) : Int)) hx hb dX3_addContainer_27 ?_
      refine lv_iconst (v := iI ((5 : Nat) : Int)) hx hb dX3_addContainer_28 (by decide) ?_
      refine fw_cSi (As := [.int (iI (q)), .int (iI ((p) + ((1 : Nat) : Int))), .int (iI ((5 : Nat) : Int))]) (rest := []) ⟨hx, hb, hml, hown, hts⟩ (c_X3_isIn l D cA z ad (WM cA ad σ (((0 : Nat) : Int)) u a μ) (q) ((p) + ((1 : Nat) : Int)) ((5 : Nat) : Int) ⟨by omega, by omega⟩ ⟨by omega, by omega⟩ ⟨by omega, by omega⟩) (va_cwS 3 hts gX3_addContainer_X3_isIn rfl rfl rfl (by decide +kernel) ⟨Nat.le_of_ble_eq_true rfl, Nat.le_of_ble_eq_true rfl⟩) rfl hl.1 (Nat.le_of_ble_eq_true rfl) dX3_addContainer_29 ⟨Nat.le_of_ble_eq_true rfl, Nat.le_of_ble_eq_true rfl⟩ hK hP hS rfl (fun r w' H locs q_7 hP hS => ?_)
      obtain ⟨rfl, rfl⟩ := q_7
      refine fw_if_eqB (x := decide (((p) + ((1 : Nat) : Int)) ≤ (q) ∧ (q) ≤ ((5 : Nat) : Int))) (tgt := 45) hx hb dX3_addContainer_32 (by decide) (fun c_8 => ?_) (fun c_8 => ?_)
      · replace c_8 := of_decide_eq_false c_8
        refine lv_aload_n hx hb dX3_addContainer_45 rfl (lv_at hl 0 rfl) ?_
        refine lv_iconst (v := iI ((1 : Nat) : Int)) hx hb dX3_addContainer_46 (by decide) ?_
        refine fw_cVi (As := [.int (iI ((1 : Nat) : Int))]) (rest := []) ⟨hx, hb, hml, hown, hts⟩ (c_X3_fail l D cA z ad σ (((0 : Nat) : Int)) u a μ ((1 : Nat) : Int) hI) (cwV 1 hts gX3_addContainer_X3_fail rfl rfl rfl (by decide +kernel) ⟨Nat.le_of_ble_eq_true rfl, Nat.le_of_ble_eq_true rfl⟩) WM_10 rfl rfl hl.1 (Nat.le_of_ble_eq_true rfl) dX3_addContainer_47 ⟨Nat.le_of_ble_eq_true rfl, Nat.le_of_ble_eq_true rfl⟩ hK hP hS rfl (fun r w' H locs q_9 hP hS => ?_)
        obtain ⟨rfl, rfl⟩ := q_9
        subst hQ
        refine W.widen (k := 1) (n := 5) (Nat.le_of_ble_eq_true rfl) (Nat.le_of_ble_eq_true rfl) ?_
        exact fw_iret hx hb hr hlocks dX3_addContainer_50 hP hS (Or.inl ⟨by omega, rfl, rfl⟩)
      · replace c_8 := of_decide_eq_true c_8
        refine lv_iload hx hb dX3_addContainer_35 (lv_at hl 4 rfl) ?_
        refine lv_iconst (v := iI ((0 : Nat) : Int)) hx hb dX3_addContainer_37 (by decide) ?_
        refine lv_iconst (v := iI ((4 : Nat) : Int)) hx hb dX3_addContainer_38 (by decide) ?_
        refine fw_cSi (As := [.int (iI (y)), .int (iI ((0 : Nat) : Int)), .int (iI ((4 : Nat) : Int))]) (rest := []) ⟨hx, hb, hml, hown, hts⟩ (c_X3_isIn l D cA z ad (WM cA ad σ (((0 : Nat) : Int)) u a μ) (y) ((0 : Nat) : Int) ((4 : Nat) : Int) ⟨by omega, by omega⟩ ⟨by omega, by omega⟩ ⟨by omega, by omega⟩) (va_cwS 3 hts gX3_addContainer_X3_isIn rfl rfl rfl (by decide +kernel) ⟨Nat.le_of_ble_eq_true rfl, Nat.le_of_ble_eq_true rfl⟩) rfl hl.1 (Nat.le_of_ble_eq_true rfl) dX3_addContainer_39 ⟨Nat.le_of_ble_eq_true rfl, Nat.le_of_ble_eq_true rfl⟩ hK hP hS rfl (fun r w' H locs q_10 hP hS => ?_)
        obtain ⟨rfl, rfl⟩ := q_10
        refine fw_if_neB (x := decide (((0 : Nat) : Int) ≤ (y) ∧ (y) ≤ ((4 : Nat) : Int))) (tgt := 51) hx hb dX3_addContainer_42 (by decide) (fun c_11 => ?_) (fun c_11 => ?_)
        · replace c_11 := of_decide_eq_true c_11
          refine lv_iload_n hx hb dX3_addContainer_51 rfl (lv_at hl 2 rfl) ?_
          refine lv_aload_n hx hb dX3_addContainer_52 rfl (lv_at hl 0 rfl) ?_
          refine fw_get (ci := 3) (v := .int (iI ((σ 8 4 : Nat) : Int))) (C := RX3) (T := TX3) (N := 13) hx hb hts hinX3 hown hK hP WM_10 rfl 9 (by decide) hf54 (fun _ h9 => h9) rfl dX3_addContainer_53 ?_
          have hn_12 := hI.n
          have hm_13 := hI.lim
          refine fw_icmp_lt (x := (p)) (y := ((σ 8 4 : Nat) : Int)) (tgt := 68) hx hb dX3_addContainer_56 (by decide) ⟨by omega, by omega⟩ ⟨by omega, by omega⟩ (fun c_14 => ?_) (fun c_14 => ?_)
          · refine lv_aload_n hx hb dX3_addContainer_68 rfl (lv_at hl 0 rfl) ?_
            refine lv_iconst (v := iI ((2 : Nat) : Int)) hx hb dX3_addContainer_69 (by decide) ?_
            refine fw_cVi (As := [.int (iI ((2 : Nat) : Int))]) (rest := []) ⟨hx, hb, hml, hown, hts⟩ (c_X3_fail l D cA z ad σ (((0 : Nat) : Int)) u a μ ((2 : Nat) : Int) hI) (cwV 1 hts gX3_addContainer_X3_fail rfl rfl rfl (by decide +kernel) ⟨Nat.le_of_ble_eq_true rfl, Nat.le_of_ble_eq_true rfl⟩) WM_10 rfl rfl hl.1 (Nat.le_of_ble_eq_true rfl) dX3_addContainer_70 ⟨Nat.le_of_ble_eq_true rfl, Nat.le_of_ble_eq_true rfl⟩ hK hP hS rfl (fun r w' H locs q_15 hP hS => ?_)
            obtain ⟨rfl, rfl⟩ := q_15
            subst hQ
            refine W.widen (k := 1) (n := 5) (Nat.le_of_ble_eq_true rfl) (Nat.le_of_ble_eq_true rfl) ?_
            exact fw_iret hx hb hr hlocks dX3_addContainer_73 hP hS (Or.inr (Or.inl ⟨by omega, by omega, rfl, rfl⟩))
          · refine lv_aload_n hx hb dX3_addContainer_59 rfl (lv_at hl 0 rfl) ?_
            refine fw_get (ci := 3) (v := .int (iI ((σ 8 0 : Nat) : Int))) (C := RX3) (T := TX3) (N := 13) hx hb hts hinX3 hown hK hP WM_10 rfl 1 (by decide) hf36 (fun _ h9 => h9) rfl dX3_addContainer_60 ?_
            refine lv_bipush (v := iI ((40 : Nat) : Int)) hx hb dX3_addContainer_63 (by decide) ?_
            refine fw_icmp_ne (x := ((σ 8 0 : Nat) : Int)) (y := ((40 : Nat) : Int)) (tgt := 74) hx hb dX3_addContainer_65 (by decide) ⟨by omega, by omega⟩ ⟨by omega, by omega⟩ (fun c_16 => ?_) (fun c_16 => ?_)
            · have hl := lv_conv hl (l2 := [(0, .ref (ad 10 (0))), (1, .int (iI ((Int.toNat x : Nat) : Int))), (2, .int (iI (p))), (3, .int (iI (q))), (4, .int (iI (y)))]) (by rw [show ((Int.toNat x : Nat) : Int) = x from by omega])
              have hl := lv_conv hl (l2 := [(0, .ref (ad 10 (0))), (1, .int (iI ((Int.toNat x : Nat) : Int))), (2, .int (iI ((Int.toNat p : Nat) : Int))), (3, .int (iI (q))), (4, .int (iI (y)))]) (by rw [show ((Int.toNat p : Nat) : Int) = p from by omega])
              have hl := lv_conv hl (l2 := [(0, .ref (ad 10 (0))), (1, .int (iI ((Int.toNat x : Nat) : Int))), (2, .int (iI ((Int.toNat p : Nat) : Int))), (3, .int (iI ((Int.toNat q : Nat) : Int))), (4, .int (iI (y)))]) (by rw [show ((Int.toNat q : Nat) : Int) = q from by omega])
              have hl := lv_conv hl (l2 := [(0, .ref (ad 10 (0))), (1, .int (iI ((Int.toNat x : Nat) : Int))), (2, .int (iI ((Int.toNat p : Nat) : Int))), (3, .int (iI ((Int.toNat q : Nat) : Int))), (4, .int (iI ((Int.toNat y : Nat) : Int)))]) (by rw [show ((Int.toNat y : Nat) : Int) = y from by omega])
              refine lv_iconst (v := iI ((5 : Nat) : Int)) hx hb dX3_addContainer_74 (by decide) ?_
              refine W.sized (fun hsz => ?_)
              have hs1 := hS.1
              have hlt_17 := fw_lt (a := 10) (i := 0) hP WM_10
              have hzz := (hP.1 10 (0) _ WM_10).2
              refine fw_newa (a := 16) (i := 0) (N := 5) (ty := .int) (a0 := (5, .inl (fun _ => 0))) hx hb (hts (.arrayClass .int) (by decide +kernel)) rfl hK hP hS (by omega) 0 rfl id (fun _ => rfl) rfl (by decide) (by decide) h16 (by omega) (Nat.le_of_ble_eq_true rfl) (Nat.le_of_ble_eq_true rfl) dX3_addContainer_75 (fun H hP hS hsz2 => ?_)
              obtain ⟨w_18, h_w_18⟩ : ∃ w9, w9 = fw_up (WM cA ad σ (((0 : Nat) : Int)) u a μ) 16 (0) (.inl (cA 0, 5, .inl (fun _ => 0))) := ⟨_, rfl⟩
              have hP : fw_P D vwCl z ad w_18 H := by rw [h_w_18]; exact hP
              refine lv_dup hx hb dX3_addContainer_77 rfl ?_
              refine lv_iconst (v := iI ((0 : Nat) : Int)) hx hb dX3_addContainer_78 (by decide) ?_
              refine lv_iload_n hx hb dX3_addContainer_79 rfl (lv_at hl 1 rfl) ?_
              refine fw_iastN (j := 0) (x := iI ((Int.toNat x : Nat) : Int)) (f := fun _ => 0) hx hb hK hP hS (by rw [h_w_18]; exact fw_up_same _ _ _ _) 0 rfl (by decide) (by decide) dX3_addContainer_80 (fun H locs hP hS => ?_)
              obtain ⟨w_19, h_w_19⟩ : ∃ w9, w9 = fw_up (w_18) 16 (0) (.inl (cA 0, 5, .inl (upd (fun _ => 0) 0 (iI ((Int.toNat x : Nat) : Int))))) := ⟨_, rfl⟩
              have hP : fw_P D vwCl z ad w_19 H := by rw [h_w_19]; exact hP
              refine lv_dup hx hb dX3_addContainer_81 rfl ?_
              refine lv_iconst (v := iI ((1 : Nat) : Int)) hx hb dX3_addContainer_82 (by decide) ?_
              refine lv_iload_n hx hb dX3_addContainer_83 rfl (lv_at hl 2 rfl) ?_
              refine fw_iastN (j := 1) (x := iI ((Int.toNat p : Nat) : Int)) (f := upd (fun _ => 0) 0 (iI ((Int.toNat x : Nat) : Int))) hx hb hK hP hS (by rw [h_w_19]; exact fw_up_same _ _ _ _) 0 rfl (by decide) (by decide) dX3_addContainer_84 (fun H locs hP hS => ?_)
              obtain ⟨w_20, h_w_20⟩ : ∃ w9, w9 = fw_up (w_19) 16 (0) (.inl (cA 0, 5, .inl (upd (upd (fun _ => 0) 0 (iI ((Int.toNat x : Nat) : Int))) 1 (iI ((Int.toNat p : Nat) : Int))))) := ⟨_, rfl⟩
              have hP : fw_P D vwCl z ad w_20 H := by rw [h_w_20]; exact hP
              refine lv_dup hx hb dX3_addContainer_85 rfl ?_
              refine lv_iconst (v := iI ((2 : Nat) : Int)) hx hb dX3_addContainer_86 (by decide) ?_
              refine lv_iload_n hx hb dX3_addContainer_87 rfl (lv_at hl 3 rfl) ?_
              refine fw_iastN (j := 2) (x := iI ((Int.toNat q : Nat) : Int)) (f := upd (upd (fun _ => 0) 0 (iI ((Int.toNat x : Nat) : Int))) 1 (iI ((Int.toNat p : Nat) : Int))) hx hb hK hP hS (by rw [h_w_20]; exact fw_up_same _ _ _ _) 0 rfl (by decide) (by decide) dX3_addContainer_88 (fun H locs hP hS => ?_)
              obtain ⟨w_21, h_w_21⟩ : ∃ w9, w9 = fw_up (w_20) 16 (0) (.inl (cA 0, 5, .inl (upd (upd (upd (fun _ => 0) 0 (iI ((Int.toNat x : Nat) : Int))) 1 (iI ((Int.toNat p : Nat) : Int))) 2 (iI ((Int.toNat q : Nat) : Int))))) := ⟨_, rfl⟩
              have hP : fw_P D vwCl z ad w_21 H := by rw [h_w_21]; exact hP
              refine lv_dup hx hb dX3_addContainer_89 rfl ?_
              refine lv_iconst (v := iI ((3 : Nat) : Int)) hx hb dX3_addContainer_90 (by decide) ?_
              refine lv_iload hx hb dX3_addContainer_91 (lv_at hl 4 rfl) ?_
              refine fw_iastN (j := 3) (x := iI ((Int.toNat y : Nat) : Int)) (f := upd (upd (upd (fun _ => 0) 0 (iI ((Int.toNat x : Nat) : Int))) 1 (iI ((Int.toNat p : Nat) : Int))) 2 (iI ((Int.toNat q : Nat) : Int))) hx hb hK hP hS (by rw [h_w_21]; exact fw_up_same _ _ _ _) 0 rfl (by decide) (by decide) dX3_addContainer_93 (fun H locs hP hS => ?_)
              obtain ⟨w_22, h_w_22⟩ : ∃ w9, w9 = fw_up (w_21) 16 (0) (.inl (cA 0, 5, .inl (upd (upd (upd (upd (fun _ => 0) 0 (iI ((Int.toNat x : Nat) : Int))) 1 (iI ((Int.toNat p : Nat) : Int))) 2 (iI ((Int.toNat q : Nat) : Int))) 3 (iI ((Int.toNat y : Nat) : Int))))) := ⟨_, rfl⟩
              have hP : fw_P D vwCl z ad w_22 H := by rw [h_w_22]; exact hP
              refine lv_dup hx hb dX3_addContainer_94 rfl ?_
              refine lv_iconst (v := iI ((4 : Nat) : Int)) hx hb dX3_addContainer_95 (by decide) ?_
              refine lv_iconst (v := iI ((0 : Nat) : Int)) hx hb dX3_addContainer_96 (by decide) ?_
              refine fw_iastN (j := 4) (x := iI ((0 : Nat) : Int)) (f := upd (upd (upd (upd (fun _ => 0) 0 (iI ((Int.toNat x : Nat) : Int))) 1 (iI ((Int.toNat p : Nat) : Int))) 2 (iI ((Int.toNat q : Nat) : Int))) 3 (iI ((Int.toNat y : Nat) : Int))) hx hb hK hP hS (by rw [h_w_22]; exact fw_up_same _ _ _ _) 0 rfl (by decide) (by decide) dX3_addContainer_97 (fun H locs hP hS => ?_)
              obtain ⟨w_23, h_w_23⟩ : ∃ w9, w9 = fw_up (w_22) 16 (0) (.inl (cA 0, 5, .inl (upd (upd (upd (upd (upd (fun _ => 0) 0 (iI ((Int.toNat x : Nat) : Int))) 1 (iI ((Int.toNat p : Nat) : Int))) 2 (iI ((Int.toNat q : Nat) : Int))) 3 (iI ((Int.toNat y : Nat) : Int))) 4 (iI ((0 : Nat) : Int))))) := ⟨_, rfl⟩
              have hP : fw_P D vwCl z ad w_23 H := by rw [h_w_23]; exact hP
              refine lv_astore (lv' := [(5, .ref (ad 16 (0))), (0, .ref (ad 10 (0))), (1, .int (iI ((Int.toNat x : Nat) : Int))), (2, .int (iI ((Int.toNat p : Nat) : Int))), (3, .int (iI ((Int.toNat q : Nat) : Int))), (4, .int (iI ((Int.toNat y : Nat) : Int)))]) hx hb dX3_addContainer_98 hl (by decide) rfl (fun ls hl => ?_)
              refine lv_aload hx hb dX3_addContainer_100 (lv_at hl 0 rfl) ?_
              refine lv_iconst (v := iI ((0 : Nat) : Int)) hx hb dX3_addContainer_102 (by decide) ?_
              refine lv_aload_n hx hb dX3_addContainer_103 rfl (lv_at hl 1 rfl) ?_
              refine fw_get (ci := 3) (v := .ref (ad 11 (0))) (C := RX3) (T := TX3) (N := 13) hx hb hts hinX3 hown hK hP (by rw [h_w_23]; exact (fw_up_k (by decide)).trans (by rw [h_w_22]; exact (fw_up_k (by decide)).trans (by rw [h_w_21]; exact (fw_up_k (by decide)).trans (by rw [h_w_20]; exact (fw_up_k (by decide)).trans (by rw [h_w_19]; exact (fw_up_k (by decide)).trans (by rw [h_w_18]; exact (fw_up_k (by decide)).trans WM_10)))))) rfl 2 (by decide) hf9 (fun _ h9 => h9) rfl dX3_addContainer_104 ?_
              refine lv_iconst (v := iI ((5 : Nat) : Int)) hx hb dX3_addContainer_107 (by decide) ?_
              refine lv_aload_n hx hb dX3_addContainer_108 rfl (lv_at hl 1 rfl) ?_
              refine fw_get (ci := 3) (v := .int (iI ((σ 8 0 : Nat) : Int))) (C := RX3) (T := TX3) (N := 13) hx hb hts hinX3 hown hK hP (by rw [h_w_23]; exact (fw_up_k (by decide)).trans (by rw [h_w_22]; exact (fw_up_k (by decide)).trans (by rw [h_w_21]; exact (fw_up_k (by decide)).trans (by rw [h_w_20]; exact (fw_up_k (by decide)).trans (by rw [h_w_19]; exact (fw_up_k (by decide)).trans (by rw [h_w_18]; exact (fw_up_k (by decide)).trans WM_10)))))) rfl 1 (by decide) hf36 (fun _ h9 => h9) rfl dX3_addContainer_109 ?_
              refine fw_imulN (a := 5) (b := σ 8 0) hx hb dX3_addContainer_112 ?_
              refine lv_iconst (v := iI ((5 : Nat) : Int)) hx hb dX3_addContainer_113 (by decide) ?_
              refine fw_copyi (dp := 5 * (σ 8 0)) (n := 5) hx hb (hml.trans hl.1.symm) hown (hts (.methodLink RX3 57 arraycopyName) (by decide +kernel)) (hts (.native arraycopyName) (by decide +kernel)) (hts (.static arraycopyName) (by decide +kernel)) (hts (.initialized "java/lang/System") (by decide +kernel)) hK hP hS 0 (by rw [h_w_23]; exact fw_up_same _ _ _ _) (by rw [h_w_23]; exact (fw_up_k (by decide)).trans (by rw [h_w_22]; exact (fw_up_k (by decide)).trans (by rw [h_w_21]; exact (fw_up_k (by decide)).trans (by rw [h_w_20]; exact (fw_up_k (by decide)).trans (by rw [h_w_19]; exact (fw_up_k (by decide)).trans (by rw [h_w_18]; exact (fw_up_k (by decide)).trans WM_11)))))) rfl (by decide) (by omega) (by omega) (by decide) (Nat.le_of_ble_eq_true rfl) (Nat.le_of_ble_eq_true rfl) dX3_addContainer_114 (fun H locs hP hS => ?_)
              have hP := wM_add (w := Int.toNat x) (f := Int.toNat p) (t := Int.toNat q) (q := Int.toNat y) (fun b j hb => by rw [h_w_23, h_w_22, h_w_21, h_w_20, h_w_19, h_w_18]; (repeat rw [fw_up_ne hb])) h16 cpy5 hP
              have htn : (tab5 σ (Int.toNat x) (Int.toNat p) (Int.toNat q) (Int.toNat y)) 8 0 = σ 8 0 := rfl
              refine lv_aload_n hx hb dX3_addContainer_117 rfl (lv_at hl 1 rfl) ?_
              refine lv_dup hx hb dX3_addContainer_118 rfl ?_
              refine fw_get (ci := 3) (v := .int (iI (((tab5 σ (Int.toNat x) (Int.toNat p) (Int.toNat q) (Int.toNat y)) 8 0 : Nat) : Int))) (C := RX3) (T := TX3) (N := 13) hx hb hts hinX3 hown hK hP WM_10 rfl 1 (by decide) hf36 (fun _ h9 => h9) rfl dX3_addContainer_119 ?_
              refine lv_iconst (v := iI ((1 : Nat) : Int)) hx hb dX3_addContainer_122 (by decide) ?_
              refine fw_iaddN (a := (tab5 σ (Int.toNat x) (Int.toNat p) (Int.toNat q) (Int.toNat y)) 8 0) (b := 1) hx hb dX3_addContainer_123 ?_
              refine fw_put (ci := 3) (v := .int (iI ((((tab5 σ (Int.toNat x) (Int.toNat p) (Int.toNat q) (Int.toNat y)) 8 0) + 1 : Nat) : Int))) (ty := .int) (C := RX3) (T := TX3) (N := 13) hx hb hts hinX3 tyX3 tyX3_ok nmX3 hown hK hP hS WM_10 rfl 1 (by decide) hf36 (fun _ h9 => h9) rfl (by decide +kernel) rfl rfl (Nat.le_of_ble_eq_true rfl) dX3_addContainer_124 (fun H locs hP hS => ?_)
              have hP := wM_8 (c := 0) (v := ((tab5 σ (Int.toNat x) (Int.toNat p) (Int.toNat q) (Int.toNat y)) 8 0) + 1) hP rfl
              refine lv_aload_n hx hb dX3_addContainer_127 rfl (lv_at hl 1 rfl) ?_
              refine fw_get (ci := 3) (v := .int (iI (((up (tab5 σ (Int.toNat x) (Int.toNat p) (Int.toNat q) (Int.toNat y)) 8 0 (((tab5 σ (Int.toNat x) (Int.toNat p) (Int.toNat q) (Int.toNat y)) 8 0) + 1)) 8 0 : Nat) : Int))) (C := RX3) (T := TX3) (N := 13) hx hb hts hinX3 hown hK hP WM_10 rfl 1 (by decide) hf36 (fun _ h9 => h9) rfl dX3_addContainer_128 ?_
              refine lv_iconst (v := iI ((1 : Nat) : Int)) hx hb dX3_addContainer_131 (by decide) ?_
              refine fw_isub (a := (((up (tab5 σ (Int.toNat x) (Int.toNat p) (Int.toNat q) (Int.toNat y)) 8 0 (((tab5 σ (Int.toNat x) (Int.toNat p) (Int.toNat q) (Int.toNat y)) 8 0) + 1)) 8 0 : Nat) : Int)) (b := ((1 : Nat) : Int)) hx hb dX3_addContainer_132 ?_
              subst hQ
              refine W.widen (k := 1) (n := 5) (Nat.le_of_ble_eq_true rfl) (Nat.le_of_ble_eq_true rfl) ?_
              exact fw_iret hx hb hr hlocks dX3_addContainer_133 hP hS (Or.inr (Or.inr ⟨by omega, by omega, congrArg iI (by rw [up_same, htn]; omega), rfl⟩))
            · refine lv_aload_n hx hb dX3_addContainer_68 rfl (lv_at hl 0 rfl) ?_
              refine lv_iconst (v := iI ((2 : Nat) : Int)) hx hb dX3_addContainer_69 (by decide) ?_
              refine fw_cVi (As := [.int (iI ((2 : Nat) : Int))]) (rest := []) ⟨hx, hb, hml, hown, hts⟩ (c_X3_fail l D cA z ad σ (((0 : Nat) : Int)) u a μ ((2 : Nat) : Int) hI) (cwV 1 hts gX3_addContainer_X3_fail rfl rfl rfl (by decide +kernel) ⟨Nat.le_of_ble_eq_true rfl, Nat.le_of_ble_eq_true rfl⟩) WM_10 rfl rfl hl.1 (Nat.le_of_ble_eq_true rfl) dX3_addContainer_70 ⟨Nat.le_of_ble_eq_true rfl, Nat.le_of_ble_eq_true rfl⟩ hK hP hS rfl (fun r w' H locs q_24 hP hS => ?_)
              obtain ⟨rfl, rfl⟩ := q_24
              subst hQ
              refine W.widen (k := 1) (n := 5) (Nat.le_of_ble_eq_true rfl) (Nat.le_of_ble_eq_true rfl) ?_
              exact fw_iret hx hb hr hlocks dX3_addContainer_73 hP hS (Or.inr (Or.inl ⟨by omega, by omega, rfl, rfl⟩))
        · replace c_11 := of_decide_eq_false c_11
          refine lv_aload_n hx hb dX3_addContainer_45 rfl (lv_at hl 0 rfl) ?_
          refine lv_iconst (v := iI ((1 : Nat) : Int)) hx hb dX3_addContainer_46 (by decide) ?_
          refine fw_cVi (As := [.int (iI ((1 : Nat) : Int))]) (rest := []) ⟨hx, hb, hml, hown, hts⟩ (c_X3_fail l D cA z ad σ (((0 : Nat) : Int)) u a μ ((1 : Nat) : Int) hI) (cwV 1 hts gX3_addContainer_X3_fail rfl rfl rfl (by decide +kernel) ⟨Nat.le_of_ble_eq_true rfl, Nat.le_of_ble_eq_true rfl⟩) WM_10 rfl rfl hl.1 (Nat.le_of_ble_eq_true rfl) dX3_addContainer_47 ⟨Nat.le_of_ble_eq_true rfl, Nat.le_of_ble_eq_true rfl⟩ hK hP hS rfl (fun r w' H locs q_25 hP hS => ?_)
          obtain ⟨rfl, rfl⟩ := q_25
          subst hQ
          refine W.widen (k := 1) (n := 5) (Nat.le_of_ble_eq_true rfl) (Nat.le_of_ble_eq_true rfl) ?_
          exact fw_iret hx hb hr hlocks dX3_addContainer_50 hP hS (Or.inl ⟨by omega, rfl, rfl⟩)
