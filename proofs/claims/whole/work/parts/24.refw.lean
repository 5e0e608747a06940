abbrev rm_X3_put : Room := { frames := 3, cells := 0, slots := 0, locals := 66 }
abbrev po_X3_put (cA : Nat → ClassId) (ad : fw_Ad) (σ : St) (th u a : Int) (μ : fw_W) (c k : Nat) : fw_W → Prop := fun w' => w' = WM cA ad (putS σ c k) th u a μ
set_option maxHeartbeats 4000000 in
set_option maxRecDepth 100000 in
theorem c_X3_put (l : Launch) (D : va_G) (cA : Nat → ClassId) (z : Nat) (ad : fw_Ad) (σ : St) (th u a : Int) (μ : fw_W) (c k : Nat) (hI : Inv σ) (hc : c < 40) (hk : k < 30) : Met l yX3_put wsX3_put rm_X3_put (va_Pc [.ref (ad 10 (0)), .int (iI ((c : Nat) : Int)), .int (iI ((k : Nat) : Int))] (fw_Pre D vwCl (fw_T cA) z ad (WM cA ad σ th u a μ))) (fw_Qv D vwCl z ad (po_X3_put cA ad σ th u a μ c k)) 0 0 (fw_A z) := by
  refine Met.ofW (cc := cX3_put) (maxL := 3) (ret := none) (by decide) rfl ?_
  intro pg en s m args below meth cd s₁ B hml hv
  obtain ⟨hargs, hP, hK⟩ := hv
  have hx := B.exec
  have hb := B.bytes
  have hr := B.returns
  have hts := atoms_spec (ws := wsX3_put) B.pre
  have hown : s.vm.findClass RX3 = some m.cls := findClass_of_methodNamed B.named
  have hlocks := B.notSynchronized
  have hinX3 : ∀ w ∈ u_ws RX3 TX3 13, w ∈ wsX3_put := by decide +kernel
  have hf16 := hts (.fieldLink RX3 16 "StowagePlanModel" "tiers" "[I") (by decide +kernel)
  have hf13 := hts (.fieldLink RX3 13 "StowagePlanModel" "stacks" "[I") (by decide +kernel)
  have hf9 := hts (.fieldLink RX3 9 "StowagePlanModel" "table" "[I") (by decide +kernel)
  have hl := lv_entry ([.ref (ad 10 (0)), .int (iI ((c : Nat) : Int)), .int (iI ((k : Nat) : Int))]) (n := 3) (Nat.le_of_ble_eq_true rfl)
  have hent : entryFrame m args 3 = entryFrame m ([.ref (ad 10 (0)), .int (iI ((c : Nat) : Int)), .int (iI ((k : Nat) : Int))] : List Value).toArray 3 := by rw [hargs]
  rw [hent, lg_entry_eq]
  generalize (lg_sl ([.ref (ad 10 (0)), .int (iI ((c : Nat) : Int)), .int (iI ((k : Nat) : Int))]) ++ List.replicate (3 - (lg_sl ([.ref (ad 10 (0)), .int (iI ((c : Nat) : Int)), .int (iI ((k : Nat) : Int))])).length) Slot.unset).toArray = ls at hl ⊢
  have hl : lv_has ls 3 [(0, .ref (ad 10 (0))), (1, .int (iI ((c : Nat) : Int))), (2, .int (iI ((k : Nat) : Int)))] := hl
  generalize hQ : MQ below (fw_Qv D vwCl z ad (po_X3_put cA ad σ th u a μ c k)) args s 0 0 (fw_A z) = Q
  generalize hH : s.heap = H at hP ⊢
  have hS : va_S (fw_A z) s.heap H [] := by rw [← hH]; exact va_S.rf
  generalize ([] : List Loc) = locs at hS ⊢
  refine lv_aload_n hx hb dX3_put_0 rfl (lv_at hl 0 rfl) ?_
  refine fw_get (ci := 3) (v := .ref (ad 13 (0))) (C := RX3) (T := TX3) (N := 13) hx hb hts hinX3 hown hK hP WM_10 rfl 4 (by decide) hf16 (fun _ h9 => h9) rfl dX3_put_1 ?_
  have hn_1 := hI.n
  have hm_2 := hI.lim
  refine lv_iload_n hx hb dX3_put_4 rfl (lv_at hl 1 rfl) ?_
  refine lv_aload_n hx hb dX3_put_5 rfl (lv_at hl 0 rfl) ?_
  refine lv_iload_n hx hb dX3_put_6 rfl (lv_at hl 2 rfl) ?_
  refine fw_cVi (As := [.int (iI ((k : Nat) : Int))]) (rest := [.int (iI ((c : Nat) : Int)), .ref (ad 13 (0))]) ⟨hx, hb, hml, hown, hts⟩ (c_X3_high l D cA z ad σ th u a μ k hI (by omega)) (cwV 1 hts gX3_put_X3_high rfl rfl rfl (by decide +kernel) ⟨Nat.le_of_ble_eq_true rfl, Nat.le_of_ble_eq_true rfl⟩) WM_10 rfl rfl hl.1 (Nat.le_of_ble_eq_true rfl) dX3_put_7 ⟨Nat.le_of_ble_eq_true rfl, Nat.le_of_ble_eq_true rfl⟩ hK hP hS rfl (fun r w' H locs q_3 hP hS => ?_)
  obtain ⟨rfl, rfl⟩ := q_3
  have hh_4 := high_le hI k
  refine fw_iastN (j := c) hx hb hK hP hS WM_13 0 rfl (by omega) (by decide) dX3_put_10 (fun H locs hP hS => ?_)
  have hP := wM_6 (c := c) (v := high σ k) hP (cRow_set rfl)
  refine lv_aload_n hx hb dX3_put_11 rfl (lv_at hl 0 rfl) ?_
  refine fw_get (ci := 3) (v := .ref (ad 12 (0))) (C := RX3) (T := TX3) (N := 13) hx hb hts hinX3 hown hK hP WM_10 rfl 3 (by decide) hf13 (fun _ h9 => h9) rfl dX3_put_12 ?_
  refine lv_iload_n hx hb dX3_put_15 rfl (lv_at hl 1 rfl) ?_
  refine lv_iload_n hx hb dX3_put_16 rfl (lv_at hl 2 rfl) ?_
  refine fw_iastN (j := c) hx hb hK hP hS WM_12 0 rfl (by omega) (by decide) dX3_put_17 (fun H locs hP hS => ?_)
  have hP := wM_5 (c := c) (v := k) hP (cRow_set rfl)
  refine lv_aload_n hx hb dX3_put_18 rfl (lv_at hl 0 rfl) ?_
  refine fw_get (ci := 3) (v := .ref (ad 11 (0))) (C := RX3) (T := TX3) (N := 13) hx hb hts hinX3 hown hK hP WM_10 rfl 2 (by decide) hf9 (fun _ h9 => h9) rfl dX3_put_19 ?_
  refine lv_iconst (v := iI ((5 : Nat) : Int)) hx hb dX3_put_22 (by decide) ?_
  refine lv_iload_n hx hb dX3_put_23 rfl (lv_at hl 1 rfl) ?_
  refine fw_imulN (a := 5) (b := c) hx hb dX3_put_24 ?_
  refine lv_iconst (v := iI ((4 : Nat) : Int)) hx hb dX3_put_25 (by decide) ?_
  refine fw_iaddN (a := 5 * c) (b := 4) hx hb dX3_put_26 ?_
  refine lv_iconst (v := iI ((1 : Nat) : Int)) hx hb dX3_put_27 (by decide) ?_
  refine fw_iastN (j := (5 * c) + 4) hx hb hK hP hS WM_11 0 rfl (by omega) (by decide) dX3_put_28 (fun H locs hP hS => ?_)
  have hP := wM_tab (q := 4) (c := c) (v := 1) hP (by decide) (cTab_set (by decide) rfl)
  subst hQ
  exact fw_vret hx hb hr hlocks dX3_put_29 hP hS rfl

abbrev rm_X3_load : Room := { frames := 4, cells := 0, slots := 0, locals := 90 }
abbrev po_X3_load (cA : Nat → ClassId) (ad : fw_Ad) (σ : St) (th u a : Int) (μ : fw_W) (x b q : Int) : Int32 → fw_W → Prop := fun r w' => (¬ ((0 ≤ x ∧ x < ((σ 8 0 : Nat) : Int)) ∧ ((0 ≤ b ∧ b ≤ 5) ∧ 0 ≤ q ∧ q ≤ 4)) ∧ r = iI 0 ∧ w' = WM cA ad σ ((1 : Nat) : Int) u a μ) ∨ (((0 ≤ x ∧ x < ((σ 8 0 : Nat) : Int)) ∧ ((0 ≤ b ∧ b ≤ 5) ∧ 0 ≤ q ∧ q ≤ 4)) ∧ ¬ allowed σ (Int.toNat x) (5 * Int.toNat b + Int.toNat q) ∧ r = iI 0 ∧ w' = WM cA ad σ ((2 : Nat) : Int) u a μ) ∨ (((0 ≤ x ∧ x < ((σ 8 0 : Nat) : Int)) ∧ ((0 ≤ b ∧ b ≤ 5) ∧ 0 ≤ q ∧ q ≤ 4)) ∧ allowed σ (Int.toNat x) (5 * Int.toNat b + Int.toNat q) ∧ r = iI ((high σ (5 * Int.toNat b + Int.toNat q) : Nat) : Int) ∧ w' = WM cA ad (putS σ (Int.toNat x) (5 * Int.toNat b + Int.toNat q)) ((0 : Nat) : Int) u a μ)
set_option maxHeartbeats 4000000 in
set_option maxRecDepth 100000 in
theorem c_X3_load (l : Launch) (D : va_G) (cA : Nat → ClassId) (z : Nat) (ad : fw_Ad) (σ : St) (th u a : Int) (μ : fw_W) (x b q : Int) (hI : Inv σ) (hx0 : -2147483648 ≤ x ∧ x ≤ 2147483647) (hb0 : -2147483648 ≤ b ∧ b ≤ 2147483647) (hq0 : -2147483648 ≤ q ∧ q ≤ 2147483647) : Met l yX3_load wsX3_load rm_X3_load (va_Pc [.ref (ad 10 (0)), .int (iI (x)), .int (iI (b)), .int (iI (q))] (fw_Pre D vwCl (fw_T cA) z ad (WM cA ad σ th u a μ))) (fw_Qi D vwCl z ad (po_X3_load cA ad σ th u a μ x b q)) 0 0 (fw_A z) := by
  refine Met.ofW (cc := cX3_load) (maxL := 4) (ret := (some .int)) (by decide) rfl ?_
  intro pg en s m args below meth cd s₁ B hml hv
  obtain ⟨hargs, hP, hK⟩ := hv
  have hx := B.exec
  have hb := B.bytes
  have hr := B.returns
  have hts := atoms_spec (ws := wsX3_load) B.pre
  have hown : s.vm.findClass RX3 = some m.cls := findClass_of_methodNamed B.named
  have hlocks := B.notSynchronized
  have hinX3 : ∀ w ∈ u_ws RX3 TX3 13, w ∈ wsX3_load := by decide +kernel
  have hf33 := hts (.fieldLink RX3 33 "StowagePlanModel" "thrown" "I") (by decide +kernel)
  have hf16 := hts (.fieldLink RX3 16 "StowagePlanModel" "tiers" "[I") (by decide +kernel)
  have hl := lv_entry ([.ref (ad 10 (0)), .int (iI (x)), .int (iI (b)), .int (iI (q))]) (n := 4) (Nat.le_of_ble_eq_true rfl)
  have hent : entryFrame m args 4 = entryFrame m ([.ref (ad 10 (0)), .int (iI (x)), .int (iI (b)), .int (iI (q))] : List Value).toArray 4 := by rw [hargs]
  rw [hent, lg_entry_eq]
  generalize (lg_sl ([.ref (ad 10 (0)), .int (iI (x)), .int (iI (b)), .int (iI (q))]) ++ List.replicate (4 - (lg_sl ([.ref (ad 10 (0)), .int (iI (x)), .int (iI (b)), .int (iI (q))])).length) Slot.unset).toArray = ls at hl ⊢
  have hl : lv_has ls 4 [(0, .ref (ad 10 (0))), (1, .int (iI (x))), (2, .int (iI (b))), (3, .int (iI (q)))] := hl
  generalize hQ : MQ below (fw_Qi D vwCl z ad (po_X3_load cA ad σ th u a μ x b q)) args s 0 0 (fw_A z) = Q
  generalize hH : s.heap = H at hP ⊢
  have hS : va_S (fw_A z) s.heap H [] := by rw [← hH]; exact va_S.rf
  generalize ([] : List Loc) = locs at hS ⊢
  refine lv_aload_n hx hb dX3_load_0 rfl (lv_at hl 0 rfl) ?_
  refine lv_iconst (v := iI ((0 : Nat) : Int)) hx hb dX3_load_1 (by decide) ?_
  refine fw_put (ci := 3) (v := .int (iI ((0 : Nat) : Int))) (ty := .int) (C := RX3) (T := TX3) (N := 13) hx hb hts hinX3 tyX3 tyX3_ok nmX3 hown hK hP hS WM_10 rfl 0 (by decide) hf33 (fun _ h9 => h9) rfl (by decide +kernel) rfl rfl (Nat.le_of_ble_eq_true rfl) dX3_load_2 (fun H locs hP hS => ?_)
  have hP := wM_put (th' := ((0 : Nat) : Int)) (u' := u) (a' := a) hP rfl
  refine lv_aload_n hx hb dX3_load_5 rfl (lv_at hl 0 rfl) ?_
  refine lv_iload_n hx hb dX3_load_6 rfl (lv_at hl 1 rfl) ?_
  refine fw_cVi (As := [.int (iI (x))]) (rest := []) ⟨hx, hb, hml, hown, hts⟩ (c_X3_isContainer l D cA z ad σ (((0 : Nat) : Int)) u a μ (x) hI ⟨by omega, by omega⟩) (cwV 1 hts gX3_load_X3_isContainer rfl rfl rfl (by decide +kernel) ⟨Nat.le_of_ble_eq_true rfl, Nat.le_of_ble_eq_true rfl⟩) WM_10 rfl rfl hl.1 (Nat.le_of_ble_eq_true rfl) dX3_load_7 ⟨Nat.le_of_ble_eq_true rfl, Nat.le_of_ble_eq_true rfl⟩ hK hP hS rfl (fun r w' H locs q_1 hP hS => ?_)
  obtain ⟨rfl, rfl⟩ := q_1
  have hn_2 := hI.n
  have hm_3 := hI.lim
  refine fw_if_eqB (x := decide (0 ≤ (x) ∧ (x) < ((σ 8 0 : Nat) : Int))) (tgt := 21) hx hb dX3_load_10 (by decide) (fun c_4 => ?_) (fun c_4 => ?_)
  · replace c_4 := of_decide_eq_false c_4
    refine lv_aload_n hx hb dX3_load_21 rfl (lv_at hl 0 rfl) ?_
    refine lv_iconst (v := iI ((1 : Nat) : Int)) hx hb dX3_load_22 (by decide) ?_
    refine fw_cVi (As := [.int (iI ((1 : Nat) : Int))]) (rest := []) ⟨hx, hb, hml, hown, hts⟩ (c_X3_fail l D cA z ad σ (((0 : Nat) : Int)) u a μ ((1 : Nat) : Int) hI) (cwV 1 hts gX3_load_X3_fail rfl rfl rfl (by decide +kernel) ⟨Nat.le_of_ble_eq_true rfl, Nat.le_of_ble_eq_true rfl⟩) WM_10 rfl rfl hl.1 (Nat.le_of_ble_eq_true rfl) dX3_load_23 ⟨Nat.le_of_ble_eq_true rfl, Nat.le_of_ble_eq_true rfl⟩ hK hP hS rfl (fun r w' H locs q_5 hP hS => ?_)
    obtain ⟨rfl, rfl⟩ := q_5
    subst hQ
    exact fw_iret hx hb hr hlocks dX3_load_26 hP hS (Or.inl ⟨by omega, rfl, rfl⟩)
  · replace c_4 := of_decide_eq_true c_4
    refine lv_iload_n hx hb dX3_load_13 rfl (lv_at hl 2 rfl) ?_
    refine lv_iload_n hx hb dX3_load_14 rfl (lv_at hl 3 rfl) ?_
    refine fw_cSi (As := [.int (iI (b)), .int (iI (q))]) (rest := []) ⟨hx, hb, hml, hown, hts⟩ (c_X3_isStack l D cA z ad (WM cA ad σ (((0 : Nat) : Int)) u a μ) (b) (q) ⟨by omega, by omega⟩ ⟨by omega, by omega⟩) (va_cwS 2 hts gX3_load_X3_isStack rfl rfl rfl (by decide +kernel) ⟨Nat.le_of_ble_eq_true rfl, Nat.le_of_ble_eq_true rfl⟩) rfl hl.1 (Nat.le_of_ble_eq_true rfl) dX3_load_15 ⟨Nat.le_of_ble_eq_true rfl, Nat.le_of_ble_eq_true rfl⟩ hK hP hS rfl (fun r w' H locs q_6 hP hS => ?_)
    obtain ⟨rfl, rfl⟩ := q_6
    refine fw_if_neB (x := decide ((0 ≤ (b) ∧ (b) ≤ 5) ∧ 0 ≤ (q) ∧ (q) ≤ 4)) (tgt := 27) hx hb dX3_load_18 (by decide) (fun c_7 => ?_) (fun c_7 => ?_)
    · replace c_7 := of_decide_eq_true c_7
      have hl := lv_conv hl (l2 := [(0, .ref (ad 10 (0))), (1, .int (iI ((Int.toNat x : Nat) : Int))), (2, .int (iI (b))), (3, .int (iI (q)))]) (by rw [show ((Int.toNat x : Nat) : Int) = x from by omega])
      have hl := lv_conv hl (l2 := [(0, .ref (ad 10 (0))), (1, .int (iI ((Int.toNat x : Nat) : Int))), (2, .int (iI ((Int.toNat b : Nat) : Int))), (3, .int (iI (q)))]) (by rw [show ((Int.toNat b : Nat) : Int) = b from by omega])
      have hl := lv_conv hl (l2 := [(0, .ref (ad 10 (0))), (1, .int (iI ((Int.toNat x : Nat) : Int))), (2, .int (iI ((Int.toNat b : Nat) : Int))), (3, .int (iI ((Int.toNat q : Nat) : Int)))]) (by rw [show ((Int.toNat q : Nat) : Int) = q from by omega])
      refine lv_aload_n hx hb dX3_load_27 rfl (lv_at hl 0 rfl) ?_
      refine lv_iload_n hx hb dX3_load_28 rfl (lv_at hl 1 rfl) ?_
      refine lv_iload_n hx hb dX3_load_29 rfl (lv_at hl 2 rfl) ?_
      refine lv_iload_n hx hb dX3_load_30 rfl (lv_at hl 3 rfl) ?_
      refine fw_cSi (As := [.int (iI ((Int.toNat b : Nat) : Int)), .int (iI ((Int.toNat q : Nat) : Int))]) (rest := [.int (iI ((Int.toNat x : Nat) : Int)), .ref (ad 10 (0))]) ⟨hx, hb, hml, hown, hts⟩ (c_X3_stack l D cA z ad (WM cA ad σ (((0 : Nat) : Int)) u a μ) (Int.toNat b) (Int.toNat q)) (va_cwS 2 hts gX3_load_X3_stack rfl rfl rfl (by decide +kernel) ⟨Nat.le_of_ble_eq_true rfl, Nat.le_of_ble_eq_true rfl⟩) rfl hl.1 (Nat.le_of_ble_eq_true rfl) dX3_load_31 ⟨Nat.le_of_ble_eq_true rfl, Nat.le_of_ble_eq_true rfl⟩ hK hP hS rfl (fun r w' H locs q_8 hP hS => ?_)
      obtain ⟨rfl, rfl⟩ := q_8
      refine fw_cVi (As := [.int (iI ((Int.toNat x : Nat) : Int)), .int (iI ((5 * (Int.toNat b) + (Int.toNat q) : Nat) : Int))]) (rest := []) ⟨hx, hb, hml, hown, hts⟩ (c_X3_isAllowed l D cA z ad σ (((0 : Nat) : Int)) u a μ (Int.toNat x) (5 * (Int.toNat b) + (Int.toNat q)) hI (by omega) (by omega)) (cwV 2 hts gX3_load_X3_isAllowed rfl rfl rfl (by decide +kernel) ⟨Nat.le_of_ble_eq_true rfl, Nat.le_of_ble_eq_true rfl⟩) WM_10 rfl rfl hl.1 (Nat.le_of_ble_eq_true rfl) dX3_load_34 ⟨Nat.le_of_ble_eq_true rfl, Nat.le_of_ble_eq_true rfl⟩ hK hP hS rfl (fun r w' H locs q_9 hP hS => ?_)
      obtain ⟨rfl, rfl⟩ := q_9
      refine fw_if_neB (x := cB (allowed σ (Int.toNat x) (5 * (Int.toNat b) + (Int.toNat q)))) (tgt := 46) hx hb dX3_load_37 (by decide) (fun c_10 => ?_) (fun c_10 => ?_)
      · replace c_10 := cB_t.mp c_10
        refine lv_aload_n hx hb dX3_load_46 rfl (lv_at hl 0 rfl) ?_
        refine lv_iload_n hx hb dX3_load_47 rfl (lv_at hl 1 rfl) ?_
        refine lv_iload_n hx hb dX3_load_48 rfl (lv_at hl 2 rfl) ?_
        refine lv_iload_n hx hb dX3_load_49 rfl (lv_at hl 3 rfl) ?_
        refine fw_cSi (As := [.int (iI ((Int.toNat b : Nat) : Int)), .int (iI ((Int.toNat q : Nat) : Int))]) (rest := [.int (iI ((Int.toNat x : Nat) : Int)), .ref (ad 10 (0))]) ⟨hx, hb, hml, hown, hts⟩ (c_X3_stack l D cA z ad (WM cA ad σ (((0 : Nat) : Int)) u a μ) (Int.toNat b) (Int.toNat q)) (va_cwS 2 hts gX3_load_X3_stack rfl rfl rfl (by decide +kernel) ⟨Nat.le_of_ble_eq_true rfl, Nat.le_of_ble_eq_true rfl⟩) rfl hl.1 (Nat.le_of_ble_eq_true rfl) dX3_load_50 ⟨Nat.le_of_ble_eq_true rfl, Nat.le_of_ble_eq_true rfl⟩ hK hP hS rfl (fun r w' H locs q_11 hP hS => ?_)
        obtain ⟨rfl, rfl⟩ := q_11
        refine fw_cVv (As := [.int (iI ((Int.toNat x : Nat) : Int)), .int (iI ((5 * (Int.toNat b) + (Int.toNat q) : Nat) : Int))]) (rest := []) ⟨hx, hb, hml, hown, hts⟩ (c_X3_put l D cA z ad σ (((0 : Nat) : Int)) u a μ (Int.toNat x) (5 * (Int.toNat b) + (Int.toNat q)) hI (by omega) (by omega)) (cwV 2 hts gX3_load_X3_put rfl rfl rfl (by decide +kernel) ⟨Nat.le_of_ble_eq_true rfl, Nat.le_of_ble_eq_true rfl⟩) WM_10 rfl rfl hl.1 (Nat.le_of_ble_eq_true rfl) dX3_load_53 ⟨Nat.le_of_ble_eq_true rfl, Nat.le_of_ble_eq_true rfl⟩ hK hP hS rfl (fun w' H locs q_12 hP hS => ?_)
        subst q_12
        refine lv_aload_n hx hb dX3_load_56 rfl (lv_at hl 0 rfl) ?_
        refine fw_get (ci := 3) (v := .ref (ad 13 (0))) (C := RX3) (T := TX3) (N := 13) hx hb hts hinX3 hown hK hP WM_10 rfl 4 (by decide) hf16 (fun _ h9 => h9) rfl dX3_load_57 ?_
        refine lv_iload_n hx hb dX3_load_60 rfl (lv_at hl 1 rfl) ?_
        refine fw_ialdN (j := Int.toNat x) hx hb hK hP WM_13 0 rfl (by omega) (by decide) dX3_load_61 ?_
        refine fw_topI (b := (((putS σ (Int.toNat x) (5 * (Int.toNat b) + (Int.toNat q))) 6 (Int.toNat x) : Nat) : Int)) rfl ?_
        have hc_13 := hI.c (Int.toNat x)
        subst hQ
        exact fw_iret hx hb hr hlocks dX3_load_62 hP hS (Or.inr (Or.inr ⟨⟨by omega, by omega⟩, by assumption, congrArg iI (by simp [putS, up]), rfl⟩))
      · replace c_10 := cB_f.mp c_10
        refine lv_aload_n hx hb dX3_load_40 rfl (lv_at hl 0 rfl) ?_
        refine lv_iconst (v := iI ((2 : Nat) : Int)) hx hb dX3_load_41 (by decide) ?_
        refine fw_cVi (As := [.int (iI ((2 : Nat) : Int))]) (rest := []) ⟨hx, hb, hml, hown, hts⟩ (c_X3_fail l D cA z ad σ (((0 : Nat) : Int)) u a μ ((2 : Nat) : Int) hI) (cwV 1 hts gX3_load_X3_fail rfl rfl rfl (by decide +kernel) ⟨Nat.le_of_ble_eq_true rfl, Nat.le_of_ble_eq_true rfl⟩) WM_10 rfl rfl hl.1 (Nat.le_of_ble_eq_true rfl) dX3_load_42 ⟨Nat.le_of_ble_eq_true rfl, Nat.le_of_ble_eq_true rfl⟩ hK hP hS rfl (fun r w' H locs q_14 hP hS => ?_)
        obtain ⟨rfl, rfl⟩ := q_14
        subst hQ
        exact fw_iret hx hb hr hlocks dX3_load_45 hP hS (Or.inr (Or.inl ⟨⟨by omega, by omega⟩, by assumption, rfl, rfl⟩))
    · replace c_7 := of_decide_eq_false c_7
      refine lv_aload_n hx hb dX3_load_21 rfl (lv_at hl 0 rfl) ?_
      refine lv_iconst (v := iI ((1 : Nat) : Int)) hx hb dX3_load_22 (by decide) ?_
      refine fw_cVi (As := [.int (iI ((1 : Nat) : Int))]) (rest := []) ⟨hx, hb, hml, hown, hts⟩ (c_X3_fail l D cA z ad σ (((0 : Nat) : Int)) u a μ ((1 : Nat) : Int) hI) (cwV 1 hts gX3_load_X3_fail rfl rfl rfl (by decide +kernel) ⟨Nat.le_of_ble_eq_true rfl, Nat.le_of_ble_eq_true rfl⟩) WM_10 rfl rfl hl.1 (Nat.le_of_ble_eq_true rfl) dX3_load_23 ⟨Nat.le_of_ble_eq_true rfl, Nat.le_of_ble_eq_true rfl⟩ hK hP hS rfl (fun r w' H locs q_15 hP hS => ?_)
      obtain ⟨rfl, rfl⟩ := q_15
      subst hQ
      exact fw_iret hx hb hr hlocks dX3_load_26 hP hS (Or.inl ⟨by omega, rfl, rfl⟩)

abbrev rm_X3_canLoad : Room := { frames := 4, cells := 0, slots := 0, locals := 90 }
abbrev po_X3_canLoad (cA : Nat → ClassId) (ad : fw_Ad) (σ : St) (th u a : Int) (μ : fw_W) (x b q : Int) : Int32 → fw_W → Prop := fun r w' => (((0 ≤ x ∧ x < ((σ 8 0 : Nat) : Int)) ∧ ((0 ≤ b ∧ b ≤ 5) ∧ 0 ≤ q ∧ q ≤ 4)) ∧ r = iI (bI (cB (allowed σ (Int.toNat x) (5 * Int.toNat b + Int.toNat q)))) ∧ w' = WM cA ad σ ((0 : Nat) : Int) u a μ) ∨ (¬ ((0 ≤ x ∧ x < ((σ 8 0 : Nat) : Int)) ∧ ((0 ≤ b ∧ b ≤ 5) ∧ 0 ≤ q ∧ q ≤ 4)) ∧ r = iI 0 ∧ w' = WM cA ad σ ((1 : Nat) : Int) u a μ)
set_option maxHeartbeats 4000000 in
set_option maxRecDepth 100000 in
theorem c_X3_canLoad (l : Launch) (D : va_G) (cA : Nat → ClassId) (z : Nat) (ad : fw_Ad) (σ : St) (th u a : Int) (μ : fw_W) (x b q : Int) (hI : Inv σ) (hx0 : -2147483648 ≤ x ∧ x ≤ 2147483647) (hb0 : -2147483648 ≤ b ∧ b ≤ 2147483647) (hq0 : -2147483648 ≤ q ∧ q ≤ 2147483647) : Met l yX3_canLoad wsX3_canLoad rm_X3_canLoad (va_Pc [.ref (ad 10 (0)), .int (iI (x)), .int (iI (b)), .int (iI (q))] (fw_Pre D vwCl (fw_T cA) z ad (WM cA ad σ th u a μ))) (fw_Qi D vwCl z ad (po_X3_canLoad cA ad σ th u a μ x b q)) 0 0 (fw_A z) := by
  refine Met.ofW (cc := cX3_canLoad) (maxL := 4) (ret := (some .boolean)) (by decide) rfl ?_
  intro pg en s m args below meth cd s₁ B hml hv
  obtain ⟨hargs, hP, hK⟩ := hv
  have hx := B.exec
  have hb := B.bytes
  have hr := B.returns
  have hts := atoms_spec (ws := wsX3_canLoad) B.pre
  have hown : s.vm.findClass RX3 = some m.cls := findClass_of_methodNamed B.named
  have hlocks := B.notSynchronized
  have hinX3 : ∀ w ∈ u_ws RX3 TX3 13, w ∈ wsX3_canLoad := by decide +kernel
  have hf33 := hts (.fieldLink RX3 33 "StowagePlanModel" "thrown" "I") (by decide +kernel)
  have hl := lv_entry ([.ref (ad 10 (0)), .int (iI (x)), .int (iI (b)), .int (iI (q))]) (n := 4) (Nat.le_of_ble_eq_true rfl)
  have hent : entryFrame m args 4 = entryFrame m ([.ref (ad 10 (0)), .int (iI (x)), .int (iI (b)), .int (iI (q))] : List Value).toArray 4 := by rw [hargs]
  rw [hent, lg_entry_eq]
  generalize (lg_sl ([.ref (ad 10 (0)), .int (iI (x)), .int (iI (b)), .int (iI (q))]) ++ List.replicate (4 - (lg_sl ([.ref (ad 10 (0)), .int (iI (x)), .int (iI (b)), .int (iI (q))])).length) Slot.unset).toArray = ls at hl ⊢
  have hl : lv_has ls 4 [(0, .ref (ad 10 (0))), (1, .int (iI (x))), (2, .int (iI (b))), (3, .int (iI (q)))] := hl
  generalize hQ : MQ below (fw_Qi D vwCl z ad (po_X3_canLoad cA ad σ th u a μ x b q)) args s 0 0 (fw_A z) = Q
  generalize hH : s.heap = H at hP ⊢
  have hS : va_S (fw_A z) s.heap H [] := by rw [← hH]; exact va_S.rf
  generalize ([] : List Loc) = locs at hS ⊢
  refine lv_aload_n hx hb dX3_canLoad_0 rfl (lv_at hl 0 rfl) ?_
  refine lv_aload_n hx hb dX3_canLoad_1 rfl (lv_at hl 0 rfl) ?_
  refine lv_iload_n hx hb dX3_canLoad_2 rfl (lv_at hl 1 rfl) ?_
  refine fw_cVi (As := [.int (iI (x))]) (rest := [.ref (ad 10 (0))]) ⟨hx, hb, hml, hown, hts⟩ (c_X3_isContainer l D cA z ad σ th u a μ (x) hI ⟨by omega, by omega⟩) (cwV 1 hts gX3_canLoad_X3_isContainer rfl rfl rfl (by decide +kernel) ⟨Nat.le_of_ble_eq_true rfl, Nat.le_of_ble_eq_true rfl⟩) WM_10 rfl rfl hl.1 (Nat.le_of_ble_eq_true rfl) dX3_canLoad_3 ⟨Nat.le_of_ble_eq_true rfl, Nat.le_of_ble_eq_true rfl⟩ hK hP hS rfl (fun r w' H locs q_1 hP hS => ?_)
  obtain ⟨rfl, rfl⟩ := q_1
  have hn_2 := hI.n
  have hm_3 := hI.lim
  refine fw_if_eqB (x := decide (0 ≤ (x) ∧ (x) < ((σ 8 0 : Nat) : Int))) (tgt := 21) hx hb dX3_canLoad_6 (by decide) (fun c_4 => ?_) (fun c_4 => ?_)
  · replace c_4 := of_decide_eq_false c_4
    refine lv_iconst (v := iI ((1 : Nat) : Int)) hx hb dX3_canLoad_21 (by decide) ?_
    refine fw_put (ci := 3) (v := .int (iI ((1 : Nat) : Int))) (ty := .int) (C := RX3) (T := TX3) (N := 13) hx hb hts hinX3 tyX3 tyX3_ok nmX3 hown hK hP hS WM_10 rfl 0 (by decide) hf33 (fun _ h9 => h9) rfl (by decide +kernel) rfl rfl (Nat.le_of_ble_eq_true rfl) dX3_canLoad_22 (fun H locs hP hS => ?_)
    have hP := wM_put (th' := ((1 : Nat) : Int)) (u' := u) (a' := a) hP rfl
    refine lv_aload_n hx hb dX3_canLoad_25 rfl (lv_at hl 0 rfl) ?_
    refine fw_get (ci := 3) (v := .int (iI (((1 : Nat) : Int)))) (C := RX3) (T := TX3) (N := 13) hx hb hts hinX3 hown hK hP WM_10 rfl 0 (by decide) hf33 (fun _ h9 => h9) rfl dX3_canLoad_26 ?_
    refine fw_if_ne (x := (((1 : Nat) : Int))) (tgt := 49) hx hb dX3_canLoad_29 (by decide) ⟨by omega, by omega⟩ (fun c_5 => ?_) (fun c_5 => absurd c_5 (by decide))
    refine lv_iconst (v := iI ((0 : Nat) : Int)) hx hb dX3_canLoad_49 (by decide) ?_
    subst hQ
    exact fw_zret hx hb hr hlocks dX3_canLoad_50 hP hS rfl (Or.inr ⟨by omega, rfl, rfl⟩)
  · replace c_4 := of_decide_eq_true c_4
    refine lv_iload_n hx hb dX3_canLoad_9 rfl (lv_at hl 2 rfl) ?_
    refine lv_iload_n hx hb dX3_canLoad_10 rfl (lv_at hl 3 rfl) ?_
    refine fw_cSi (As := [.int (iI (b)), .int (iI (q))]) (rest := [.ref (ad 10 (0))]) ⟨hx, hb, hml, hown, hts⟩ (c_X3_isStack l D cA z ad (WM cA ad σ th u a μ) (b) (q) ⟨by omega, by omega⟩ ⟨by omega, by omega⟩) (va_cwS 2 hts gX3_canLoad_X3_isStack rfl rfl rfl (by decide +kernel) ⟨Nat.le_of_ble_eq_true rfl, Nat.le_of_ble_eq_true rfl⟩) rfl hl.1 (Nat.le_of_ble_eq_true rfl) dX3_canLoad_11 ⟨Nat.le_of_ble_eq_true rfl, Nat.le_of_ble_eq_true rfl⟩ hK hP hS rfl (fun r w' H locs q_6 hP hS => ?_)
    obtain ⟨rfl, rfl⟩ := q_6
    refine fw_if_eqB (x := decide ((0 ≤ (b) ∧ (b) ≤ 5) ∧ 0 ≤ (q) ∧ (q) ≤ 4)) (tgt := 21) hx hb dX3_canLoad_14 (by decide) (fun c_7 => ?_) (fun c_7 => ?_)
    · replace c_7 := of_decide_eq_false c_7
      refine lv_iconst (v := iI ((1 : Nat) : Int)) hx hb dX3_canLoad_21 (by decide) ?_
      refine fw_put (ci := 3) (v := .int (iI ((1 : Nat) : Int))) (ty := .int) (C := RX3) (T := TX3) (N := 13) hx hb hts hinX3 tyX3 tyX3_ok nmX3 hown hK hP hS WM_10 rfl 0 (by decide) hf33 (fun _ h9 => h9) rfl (by decide +kernel) rfl rfl (Nat.le_of_ble_eq_true rfl) dX3_canLoad_22 (fun H locs hP hS => ?_)
      have hP := wM_put (th' := ((1 : Nat) : Int)) (u' := u) (a' := a) hP rfl
      refine lv_aload_n hx hb dX3_canLoad_25 rfl (lv_at hl 0 rfl) ?_
      refine fw_get (ci := 3) (v := .int (iI (((1 : Nat) : Int)))) (C := RX3) (T := TX3) (N := 13) hx hb hts hinX3 hown hK hP WM_10 rfl 0 (by decide) hf33 (fun _ h9 => h9) rfl dX3_canLoad_26 ?_
      refine fw_if_ne (x := (((1 : Nat) : Int))) (tgt := 49) hx hb dX3_canLoad_29 (by decide) ⟨by omega, by omega⟩ (fun c_8 => ?_) (fun c_8 => absurd c_8 (by decide))
      refine lv_iconst (v := iI ((0 : Nat) : Int)) hx hb dX3_canLoad_49 (by decide) ?_
      subst hQ
      exact fw_zret hx hb hr hlocks dX3_canLoad_50 hP hS rfl (Or.inr ⟨by omega, rfl, rfl⟩)
    · replace c_7 := of_decide_eq_true c_7
      refine lv_iconst (v := iI ((0 : Nat) : Int)) hx hb dX3_canLoad_17 (by decide) ?_
      refine lv_goto (tgt := 22) hx hb dX3_canLoad_18 (by decide) ?_
      refine fw_put (ci := 3) (v := .int (iI ((0 : Nat) : Int))) (ty := .int) (C := RX3) (T := TX3) (N := 13) hx hb hts hinX3 tyX3 tyX3_ok nmX3 hown hK hP hS WM_10 rfl 0 (by decide) hf33 (fun _ h9 => h9) rfl (by decide +kernel) rfl rfl (Nat.le_of_ble_eq_true rfl) dX3_canLoad_22 (fun H locs hP hS => ?_)
      have hP := wM_put (th' := ((0 : Nat) : Int)) (u' := u) (a' := a) hP rfl
      refine lv_aload_n hx hb dX3_canLoad_25 rfl (lv_at hl 0 rfl) ?_
      refine fw_get (ci := 3) (v := .int (iI (((0 : Nat) : Int)))) (C := RX3) (T := TX3) (N := 13) hx hb hts hinX3 hown hK hP WM_10 rfl 0 (by decide) hf33 (fun _ h9 => h9) rfl dX3_canLoad_26 ?_
      refine fw_if_ne (x := (((0 : Nat) : Int))) (tgt := 49) hx hb dX3_canLoad_29 (by decide) ⟨by omega, by omega⟩ (fun c_9 => absurd c_9 (by decide)) (fun c_9 => ?_)
      have hl := lv_conv hl (l2 := [(0, .ref (ad 10 (0))), (1, .int (iI ((Int.toNat x : Nat) : Int))), (2, .int (iI (b))), (3, .int (iI (q)))]) (by rw [show ((Int.toNat x : Nat) : Int) = x from by omega])
      have hl := lv_conv hl (l2 := [(0, .ref (ad 10 (0))), (1, .int (iI ((Int.toNat x : Nat) : Int))), (2, .int (iI ((Int.toNat b : Nat) : Int))), (3, .int (iI (q)))]) (by rw [show ((Int.toNat b : Nat) : Int) = b from by omega])
      have hl := lv_conv hl (l2 := [(0, .ref (ad 10 (0))), (1, .int (iI ((Int.toNat x : Nat) : Int))), (2, .int (iI ((Int.toNat b : Nat) : Int))), (3, .int (iI ((Int.toNat q : Nat) : Int)))]) (by rw [show ((Int.toNat q : Nat) : Int) = q from by omega])
      refine lv_aload_n hx hb dX3_canLoad_32 rfl (lv_at hl 0 rfl) ?_
      refine lv_iload_n hx hb dX3_canLoad_33 rfl (lv_at hl 1 rfl) ?_
      refine lv_iload_n hx hb dX3_canLoad_34 rfl (lv_at hl 2 rfl) ?_
      refine lv_iload_n hx hb dX3_canLoad_35 rfl (lv_at hl 3 rfl) ?_
      refine fw_cSi (As := [.int (iI ((Int.toNat b : Nat) : Int)), .int (iI ((Int.toNat q : Nat) : Int))]) (rest := [.int (iI ((Int.toNat x : Nat) : Int)), .ref (ad 10 (0))]) ⟨hx, hb, hml, hown, hts⟩ (c_X3_stack l D cA z ad (WM cA ad σ (((0 : Nat) : Int)) u a μ) (Int.toNat b) (Int.toNat q)) (va_cwS 2 hts gX3_canLoad_X3_stack rfl rfl rfl (by decide +kernel) ⟨Nat.le_of_ble_eq_true rfl, Nat.le_of_ble_eq_true rfl⟩) rfl hl.1 (Nat.le_of_ble_eq_true rfl) dX3_canLoad_36 ⟨Nat.le_of_ble_eq_true rfl, Nat.le_of_ble_eq_true rfl⟩ hK hP hS rfl (fun r w' H locs q_10 hP hS => ?_)
      obtain ⟨rfl, rfl⟩ := q_10
      refine fw_cVi (As := [.int (iI ((Int.toNat x : Nat) : Int)), .int (iI ((5 * (Int.toNat b) + (Int.toNat q) : Nat) : Int))]) (rest := []) ⟨hx, hb, hml, hown, hts⟩ (c_X3_isAllowed l D cA z ad σ (((0 : Nat) : Int)) u a μ (Int.toNat x) (5 * (Int.toNat b) + (Int.toNat q)) hI (by omega) (by omega)) (cwV 2 hts gX3_canLoad_X3_isAllowed rfl rfl rfl (by decide +kernel) ⟨Nat.le_of_ble_eq_true rfl, Nat.le_of_ble_eq_true rfl⟩) WM_10 rfl rfl hl.1 (Nat.le_of_ble_eq_true rfl) dX3_canLoad_39 ⟨Nat.le_of_ble_eq_true rfl, Nat.le_of_ble_eq_true rfl⟩ hK hP hS rfl (fun r w' H locs q_11 hP hS => ?_)
      obtain ⟨rfl, rfl⟩ := q_11
      refine fw_if_eqB (x := cB (allowed σ (Int.toNat x) (5 * (Int.toNat b) + (Int.toNat q)))) (tgt := 49) hx hb dX3_canLoad_42 (by decide) (fun c_12 => ?_) (fun c_12 => ?_)
      · replace c_12 := cB_f.mp c_12
        refine lv_iconst (v := iI ((0 : Nat) : Int)) hx hb dX3_canLoad_49 (by decide) ?_
        subst hQ
        exact fw_zret hx hb hr hlocks dX3_canLoad_50 hP hS rfl (Or.inl ⟨⟨by omega, by omega⟩, congrArg iI (bI_cf (by assumption)), rfl⟩)
      · replace c_12 := cB_t.mp c_12
        refine lv_iconst (v := iI ((1 : Nat) : Int)) hx hb dX3_canLoad_45 (by decide) ?_
        refine lv_goto (tgt := 50) hx hb dX3_canLoad_46 (by decide) ?_
        subst hQ
        exact fw_zret hx hb hr hlocks dX3_canLoad_50 hP hS rfl (Or.inl ⟨⟨by omega, by omega⟩, congrArg iI (bI_ct (by assumption)), rfl⟩)

abbrev rm_X3_lift : Room := { frames := 3, cells := 0, slots := 0, locals := 66 }
abbrev po_X3_lift (cA : Nat → ClassId) (ad : fw_Ad) (σ : St) (th u a : Int) (μ : fw_W) (b q : Int) : Int32 → fw_W → Prop := fun r w' => (¬ ((0 ≤ b ∧ b ≤ 5) ∧ 0 ≤ q ∧ q ≤ 4) ∧ r = iI 0 ∧ w' = WM cA ad σ ((1 : Nat) : Int) u a μ) ∨ ((((0 ≤ b ∧ b ≤ 5) ∧ 0 ≤ q ∧ q ≤ 4) ∧ ¬ liftOk σ (5 * Int.toNat b + Int.toNat q)) ∧ r = iI 0 ∧ w' = WM cA ad σ ((2 : Nat) : Int) u a μ) ∨ (((0 ≤ b ∧ b ≤ 5) ∧ 0 ≤ q ∧ q ≤ 4) ∧ ∃ c, occ σ (5 * Int.toNat b + Int.toNat q) (high σ (5 * Int.toNat b + Int.toNat q) - 1) = some c ∧ σ 1 c = σ 8 4 ∧ r = iI ((c : Nat) : Int) ∧ w' = WM cA ad (up σ 4 c 0) ((0 : Nat) : Int) u a μ)
set_option maxHeartbeats 4000000 in
set_option maxRecDepth 100000 in
theorem c_X3_lift (l : Launch) (D : va_G) (cA : Nat → ClassId) (z : Nat) (ad : fw_Ad) (σ : St) (th u a : Int) (μ : fw_W) (b q : Int) (hI : Inv σ) (hb0 : -2147483648 ≤ b ∧ b ≤ 2147483647) (hq0 : -2147483648 ≤ q ∧ q ≤ 2147483647) : Met l yX3_lift wsX3_lift rm_X3_lift (va_Pc [.ref (ad 10 (0)), .int (iI (b)), .int (iI (q))] (fw_Pre D vwCl (fw_T cA) z ad (WM cA ad σ th u a μ))) (fw_Qi D vwCl z ad (po_X3_lift cA ad σ th u a μ b q)) 0 0 (fw_A z) := by
  refine Met.ofW (cc := cX3_lift) (maxL := 5) (ret := (some .int)) (by decide) rfl ?_
  intro pg en s m args below meth cd s₁ B hml hv
  obtain ⟨hargs, hP, hK⟩ := hv
  have hx := B.exec
  have hb := B.bytes
  have hr := B.returns
  have hts := atoms_spec (ws := wsX3_lift) B.pre
  have hown : s.vm.findClass RX3 = some m.cls := findClass_of_methodNamed B.named
  have hlocks := B.notSynchronized
  have hinX3 : ∀ w ∈ u_ws RX3 TX3 13, w ∈ wsX3_lift := by decide +kernel
  have hf33 := hts (.fieldLink RX3 33 "StowagePlanModel" "thrown" "I") (by decide +kernel)
  have hf9 := hts (.fieldLink RX3 9 "StowagePlanModel" "table" "[I") (by decide +kernel)
  have hf54 := hts (.fieldLink RX3 54 "StowagePlanModel" "port" "I") (by decide +kernel)
  have hl := lv_entry ([.ref (ad 10 (0)), .int (iI (b)), .int (iI (q))]) (n := 5) (Nat.le_of_ble_eq_true rfl)
  have hent : entryFrame m args 5 = entryFrame m ([.ref (ad 10 (0)), .int (iI (b)), .int (iI (q))] : List Value).toArray 5 := by rw [hargs]
  rw [hent, lg_entry_eq]
  generalize (lg_sl ([.ref (ad 10 (0)), .int (iI (b)), .int (iI (q))]) ++ List.replicate (5 - (lg_sl ([.ref (ad 10 (0)), .int (iI (b)), .int (iI (q))])).length) Slot.unset).toArray = ls at hl ⊢
  have hl : lv_has ls 5 [(0, .ref (ad 10 (0))), (1, .int (iI (b))), (2, .int (iI (q)))] := hl
  generalize hQ : MQ below (fw_Qi D vwCl z ad (po_X3_lift cA ad σ th u a μ b q)) args s 0 0 (fw_A z) = Q
  generalize hH : s.heap = H at hP ⊢
  have hS : va_S (fw_A z) s.heap H [] := by rw [← hH]; exact va_S.rf
  generalize ([] : List Loc) = locs at hS ⊢
  refine lv_aload_n hx hb dX3_lift_0 rfl (lv_at hl 0 rfl) ?_
  refine lv_iconst (v := iI ((0 : Nat) : Int)) hx hb dX3_lift_1 (by decide) ?_
  refine fw_put (ci := 3) (v := .int (iI ((0 : Nat) : Int))) (ty := .int) (C := RX3) (T := TX3) (N := 13) hx hb hts hinX3 tyX3 tyX3_ok nmX3 hown hK hP hS WM_10 rfl 0 (by decide) hf33 (fun _ h9 => h9) rfl (by decide +kernel) rfl rfl (Nat.le_of_ble_eq_true rfl) dX3_lift_2 (fun H locs hP hS => ?_)
  have hP := wM_put (th' := ((0 : Nat) : Int)) (u' := u) (a' := a) hP rfl
  refine lv_iload_n hx hb dX3_lift_5 rfl (lv_at hl 1 rfl) ?_
  refine lv_iload_n hx hb dX3_lift_6 rfl (lv_at hl 2 rfl) ?_
  refine fw_cSi (As := [.int (iI (b)), .int (iI (q))]) (rest := []) ⟨hx, hb, hml, hown, hts⟩ (c_X3_isStack l D cA z ad (WM cA ad σ (((0 : Nat) : Int)) u a μ) (b) (q) ⟨by omega, by omega⟩ ⟨by omega, by omega⟩) (va_cwS 2 hts gX3_lift_X3_isStack rfl rfl rfl (by decide +kernel) ⟨Nat.le_of_ble_eq_true rfl, Nat.le_of_ble_eq_true rfl⟩) rfl hl.1 (Nat.le_of_ble_eq_true rfl) dX3_lift_7 ⟨Nat.le_of_ble_eq_true rfl, Nat.le_of_ble_eq_true rfl⟩ hK hP hS rfl (fun r w' H locs q_1 hP hS => ?_)
  obtain ⟨rfl, rfl⟩ := q_1
  refine fw_if_neB (x := decide ((0 ≤ (b) ∧ (b) ≤ 5) ∧ 0 ≤ (q) ∧ (q) ≤ 4)) (tgt := 19) hx hb dX3_lift_10 (by decide) (fun c_2 => ?_) (fun c_2 => ?_)
  · replace c_2 := of_decide_eq_true c_2
    have hl := lv_conv hl (l2 := [(0, .ref (ad 10 (0))), (1, .int (iI ((Int.toNat b : Nat) : Int))), (2, .int (iI (q)))]) (by rw [show ((Int.toNat b : Nat) : Int) = b from by omega])
    have hl := lv_conv hl (l2 := [(0, .ref (ad 10 (0))), (1, .int (iI ((Int.toNat b : Nat) : Int))), (2, .int (iI ((Int.toNat q : Nat) : Int)))]) (by rw [show ((Int.toNat q : Nat) : Int) = q from by omega])
    refine lv_iload_n hx hb dX3_lift_19 rfl (lv_at hl 1 rfl) ?_
    refine lv_iload_n hx hb dX3_lift_20 rfl (lv_at hl 2 rfl) ?_
    refine fw_cSi (As := [.int (iI ((Int.toNat b : Nat) : Int)), .int (iI ((Int.toNat q : Nat) : Int))]) (rest := []) ⟨hx, hb, hml, hown, hts⟩ (c_X3_stack l D cA z ad (WM cA ad σ (((0 : Nat) : Int)) u a μ) (Int.toNat b) (Int.toNat q)) (va_cwS 2 hts gX3_lift_X3_stack rfl rfl rfl (by decide +kernel) ⟨Nat.le_of_ble_eq_true rfl, Nat.le_of_ble_eq_true rfl⟩) rfl hl.1 (Nat.le_of_ble_eq_true rfl) dX3_lift_21 ⟨Nat.le_of_ble_eq_true rfl, Nat.le_of_ble_eq_true rfl⟩ hK hP hS rfl (fun r w' H locs q_3 hP hS => ?_)
    obtain ⟨rfl, rfl⟩ := q_3
    refine lv_istore_n (lv' := [(3, .int (iI ((5 * (Int.toNat b) + (Int.toNat q) : Nat) : Int))), (0, .ref (ad 10 (0))), (1, .int (iI ((Int.toNat b : Nat) : Int))), (2, .int (iI ((Int.toNat q : Nat) : Int)))]) hx hb dX3_lift_24 rfl hl (by decide) rfl (fun ls hl => ?_)
    refine lv_aload_n hx hb dX3_lift_25 rfl (lv_at hl 1 rfl) ?_
    refine lv_iload_n hx hb dX3_lift_26 rfl (lv_at hl 0 rfl) ?_
    refine fw_cVi (As := [.int (iI ((5 * (Int.toNat b) + (Int.toNat q) : Nat) : Int))]) (rest := []) ⟨hx, hb, hml, hown, hts⟩ (c_X3_high l D cA z ad σ (((0 : Nat) : Int)) u a μ (5 * (Int.toNat b) + (Int.toNat q)) hI (by omega)) (cwV 1 hts gX3_lift_X3_high rfl rfl rfl (by decide +kernel) ⟨Nat.le_of_ble_eq_true rfl, Nat.le_of_ble_eq_true rfl⟩) WM_10 rfl rfl hl.1 (Nat.le_of_ble_eq_true rfl) dX3_lift_27 ⟨Nat.le_of_ble_eq_true rfl, Nat.le_of_ble_eq_true rfl⟩ hK hP hS rfl (fun r w' H locs q_4 hP hS => ?_)
    obtain ⟨rfl, rfl⟩ := q_4
    have hn_5 := hI.n
    have hm_6 := hI.lim
    have hh_7 := high_le hI (5 * (Int.toNat b) + (Int.toNat q))
    refine fw_if_ne (x := ((high σ (5 * (Int.toNat b) + (Int.toNat q)) : Nat) : Int)) (tgt := 37) hx hb dX3_lift_30 (by decide) ⟨by omega, by omega⟩ (fun c_8 => ?_) (fun c_8 => ?_)
    · refine lv_aload_n hx hb dX3_lift_37 rfl (lv_at hl 1 rfl) ?_
      refine lv_iload_n hx hb dX3_lift_38 rfl (lv_at hl 0 rfl) ?_
      refine lv_aload_n hx hb dX3_lift_39 rfl (lv_at hl 1 rfl) ?_
      refine lv_iload_n hx hb dX3_lift_40 rfl (lv_at hl 0 rfl) ?_
      refine fw_cVi (As := [.int (iI ((5 * (Int.toNat b) + (Int.toNat q) : Nat) : Int))]) (rest := [.int (iI ((5 * (Int.toNat b) + (Int.toNat q) : Nat) : Int)), .ref (ad 10 (0))]) ⟨hx, hb, hml, hown, hts⟩ (c_X3_high l D cA z ad σ (((0 : Nat) : Int)) u a μ (5 * (Int.toNat b) + (Int.toNat q)) hI (by omega)) (cwV 1 hts gX3_lift_X3_high rfl rfl rfl (by decide +kernel) ⟨Nat.le_of_ble_eq_true rfl, Nat.le_of_ble_eq_true rfl⟩) WM_10 rfl rfl hl.1 (Nat.le_of_ble_eq_true rfl) dX3_lift_41 ⟨Nat.le_of_ble_eq_true rfl, Nat.le_of_ble_eq_true rfl⟩ hK hP hS rfl (fun r w' H locs q_9 hP hS => ?_)
      obtain ⟨rfl, rfl⟩ := q_9
      have hh_10 := high_le hI (5 * (Int.toNat b) + (Int.toNat q))
      refine lv_iconst (v := iI ((1 : Nat) : Int)) hx hb dX3_lift_44 (by decide) ?_
      refine fw_isub (a := ((high σ (5 * (Int.toNat b) + (Int.toNat q)) : Nat) : Int)) (b := ((1 : Nat) : Int)) hx hb dX3_lift_45 ?_
      refine fw_topI (b := ((high σ (5 * Int.toNat b + Int.toNat q) - 1 : Nat) : Int)) (by omega) ?_
      refine fw_cVi (As := [.int (iI ((5 * (Int.toNat b) + (Int.toNat q) : Nat) : Int)), .int (iI ((high σ (5 * Int.toNat b + Int.toNat q) - 1 : Nat) : Int))]) (rest := []) ⟨hx, hb, hml, hown, hts⟩ (c_X3_find l D cA z ad σ (((0 : Nat) : Int)) u a μ (5 * (Int.toNat b) + (Int.toNat q)) (high σ (5 * Int.toNat b + Int.toNat q) - 1) hI.b (by omega) (by omega)) (cwV 2 hts gX3_lift_X3_find rfl rfl rfl (by decide +kernel) ⟨Nat.le_of_ble_eq_true rfl, Nat.le_of_ble_eq_true rfl⟩) WM_10 rfl rfl hl.1 (Nat.le_of_ble_eq_true rfl) dX3_lift_46 ⟨Nat.le_of_ble_eq_true rfl, Nat.le_of_ble_eq_true rfl⟩ hK hP hS rfl (fun r w' H locs q_11 hP hS => ?_)
      obtain ⟨rfl, rfl⟩ := q_11
      obtain ⟨tc, htc⟩ := top_some hI (s := (5 * Int.toNat b + Int.toNat q)) (by omega)
      refine fw_topI (b := ((tc : Nat) : Int)) (by rw [htc]; rfl) ?_
      obtain ⟨ht1, ht2, ht3, ht4⟩ := occ_some htc
      have hc_12 := hI.c tc
      refine lv_istore (lv' := [(4, .int (iI ((tc : Nat) : Int))), (3, .int (iI ((5 * (Int.toNat b) + (Int.toNat q) : Nat) : Int))), (0, .ref (ad 10 (0))), (1, .int (iI ((Int.toNat b : Nat) : Int))), (2, .int (iI ((Int.toNat q : Nat) : Int)))]) hx hb dX3_lift_49 hl (by decide) rfl (fun ls hl => ?_)
      refine lv_iload hx hb dX3_lift_51 (lv_at hl 0 rfl) ?_
      refine lv_iconst (v := iI (-1)) hx hb dX3_lift_53 (by decide) ?_
      refine fw_icmp_eq (x := ((tc : Nat) : Int)) (y := (-1)) (tgt := 75) hx hb dX3_lift_54 (by decide) ⟨by omega, by omega⟩ ⟨by omega, by omega⟩ (fun c_13 => ?_) (fun c_13 => ?_)
      · exfalso; omega
      · refine lv_aload_n hx hb dX3_lift_57 rfl (lv_at hl 2 rfl) ?_
        refine fw_get (ci := 3) (v := .ref (ad 11 (0))) (C := RX3) (T := TX3) (N := 13) hx hb hts hinX3 hown hK hP WM_10 rfl 2 (by decide) hf9 (fun _ h9 => h9) rfl dX3_lift_58 ?_
        refine lv_iconst (v := iI ((5 : Nat) : Int)) hx hb dX3_lift_61 (by decide) ?_
        refine lv_iload hx hb dX3_lift_62 (lv_at hl 0 rfl) ?_
        refine fw_imulN (a := 5) (b := tc) hx hb dX3_lift_64 ?_
        refine lv_iconst (v := iI ((1 : Nat) : Int)) hx hb dX3_lift_65 (by decide) ?_
        refine fw_iaddN (a := 5 * tc) (b := 1) hx hb dX3_lift_66 ?_
        refine fw_ialdN (j := (5 * tc) + 1) hx hb hK hP WM_11 0 rfl (by omega) (by decide) dX3_lift_67 ?_
        refine fw_topI (b := ((σ 1 tc : Nat) : Int)) (by rw [show ((5 * tc) + 1) % 5 = 1 from by omega, show ((5 * tc) + 1) / 5 = tc from by omega]) ?_
        refine lv_aload_n hx hb dX3_lift_68 rfl (lv_at hl 2 rfl) ?_
        refine fw_get (ci := 3) (v := .int (iI ((σ 8 4 : Nat) : Int))) (C := RX3) (T := TX3) (N := 13) hx hb hts hinX3 hown hK hP WM_10 rfl 9 (by decide) hf54 (fun _ h9 => h9) rfl dX3_lift_69 ?_
        refine fw_icmp_eq (x := ((σ 1 tc : Nat) : Int)) (y := ((σ 8 4 : Nat) : Int)) (tgt := 81) hx hb dX3_lift_72 (by decide) ⟨by omega, by omega⟩ ⟨by omega, by omega⟩ (fun c_14 => ?_) (fun c_14 => ?_)
        · refine lv_aload_n hx hb dX3_lift_81 rfl (lv_at hl 2 rfl) ?_
          refine fw_get (ci := 3) (v := .ref (ad 11 (0))) (C := RX3) (T := TX3) (N := 13) hx hb hts hinX3 hown hK hP WM_10 rfl 2 (by decide) hf9 (fun _ h9 => h9) rfl dX3_lift_82 ?_
          refine lv_iconst (v := iI ((5 : Nat) : Int)) hx hb dX3_lift_85 (by decide) ?_
          refine lv_iload hx hb dX3_lift_86 (lv_at hl 0 rfl) ?_
          refine fw_imulN (a := 5) (b := tc) hx hb dX3_lift_88 ?_
          refine lv_iconst (v := iI ((4 : Nat) : Int)) hx hb dX3_lift_89 (by decide) ?_
          refine fw_iaddN (a := 5 * tc) (b := 4) hx hb dX3_lift_90 ?_
          refine lv_iconst (v := iI ((0 : Nat) : Int)) hx hb dX3_lift_91 (by decide) ?_
          refine fw_iastN (j := (5 * tc) + 4) hx hb hK hP hS WM_11 0 rfl (by omega) (by decide) dX3_lift_92 (fun H locs hP hS => ?_)
          have hP := wM_tab (q := 4) (c := tc) (v := 0) hP (by decide) (cTab_set (by decide) rfl)
          refine lv_iload hx hb dX3_lift_93 (lv_at hl 0 rfl) ?_
          subst hQ
          exact fw_iret hx hb hr hlocks dX3_lift_95 hP hS (Or.inr (Or.inr ⟨⟨by omega, by omega⟩, tc, htc, by omega, rfl, rfl⟩))
        · refine lv_aload_n hx hb dX3_lift_75 rfl (lv_at hl 2 rfl) ?_
          refine lv_iconst (v := iI ((2 : Nat) : Int)) hx hb dX3_lift_76 (by decide) ?_
          refine fw_cVi (As := [.int (iI ((2 : Nat) : Int))]) (rest := []) ⟨hx, hb, hml, hown, hts⟩ (c_X3_fail l D cA z ad σ (((0 : Nat) : Int)) u a μ ((2 : Nat) : Int) hI) (cwV 1 hts gX3_lift_X3_fail rfl rfl rfl (by decide +kernel) ⟨Nat.le_of_ble_eq_true rfl, Nat.le_of_ble_eq_true rfl⟩) WM_10 rfl rfl hl.1 (Nat.le_of_ble_eq_true rfl) dX3_lift_77 ⟨Nat.le_of_ble_eq_true rfl, Nat.le_of_ble_eq_true rfl⟩ hK hP hS rfl (fun r w' H locs q_15 hP hS => ?_)
          obtain ⟨rfl, rfl⟩ := q_15
          subst hQ
          exact fw_iret hx hb hr hlocks dX3_lift_80 hP hS (Or.inr (Or.inl ⟨⟨⟨by omega, by omega⟩, by rintro ⟨c, h1, h2⟩; rw [htc] at h1; cases h1; omega⟩, rfl, rfl⟩))
    · refine lv_iconst (v := iI (-1)) hx hb dX3_lift_33 (by decide) ?_
      refine lv_goto (tgt := 49) hx hb dX3_lift_34 (by decide) ?_
      refine lv_istore (lv' := [(4, .int (iI (-1))), (3, .int (iI ((5 * (Int.toNat b) + (Int.toNat q) : Nat) : Int))), (0, .ref (ad 10 (0))), (1, .int (iI ((Int.toNat b : Nat) : Int))), (2, .int (iI ((Int.toNat q : Nat) : Int)))]) hx hb dX3_lift_49 hl (by decide) rfl (fun ls hl => ?_)
      refine lv_iload hx hb dX3_lift_51 (lv_at hl 0 rfl) ?_
      refine lv_iconst (v := iI (-1)) hx hb dX3_lift_53 (by decide) ?_
      refine fw_icmp_eq (x := (-1)) (y := (-1)) (tgt := 75) hx hb dX3_lift_54 (by decide) ⟨by omega, by omega⟩ ⟨by omega, by omega⟩ (fun c_16 => ?_) (fun c_16 => absurd c_16 (by decide))
      refine lv_aload_n hx hb dX3_lift_75 rfl (lv_at hl 2 rfl) ?_
      refine lv_iconst (v := iI ((2 : Nat) : Int)) hx hb dX3_lift_76 (by decide) ?_
      refine fw_cVi (As := [.int (iI ((2 : Nat) : Int))]) (rest := []) ⟨hx, hb, hml, hown, hts⟩ (c_X3_fail l D cA z ad σ (((0 : Nat) : Int)) u a μ ((2 : Nat) : Int) hI) (cwV 1 hts gX3_lift_X3_fail rfl rfl rfl (by decide +kernel) ⟨Nat.le_of_ble_eq_true rfl, Nat.le_of_ble_eq_true rfl⟩) WM_10 rfl rfl hl.1 (Nat.le_of_ble_eq_true rfl) dX3_lift_77 ⟨Nat.le_of_ble_eq_true rfl, Nat.le_of_ble_eq_true rfl⟩ hK hP hS rfl (fun r w' H locs q_17 hP hS => ?_)
      obtain ⟨rfl, rfl⟩ := q_17
      subst hQ
      exact fw_iret hx hb hr hlocks dX3_lift_80 hP hS (Or.inr (Or.inl ⟨⟨⟨by omega, by omega⟩, by rintro ⟨c, h1, h2⟩; rw [top_none hI (by omega)] at h1; cases h1⟩, rfl, rfl⟩))
  · replace c_2 := of_decide_eq_false c_2
    refine lv_aload_n hx hb dX3_lift_13 rfl (lv_at hl 0 rfl) ?_
    refine lv_iconst (v := iI ((1 : Nat) : Int)) hx hb dX3_lift_14 (by decide) ?_
    refine fw_cVi (As := [.int (iI ((1 : Nat) : Int))]) (rest := []) ⟨hx, hb, hml, hown, hts⟩ (c_X3_fail l D cA z ad σ (((0 : Nat) : Int)) u a μ ((1 : Nat) : Int) hI) (cwV 1 hts gX3_lift_X3_fail rfl rfl rfl (by decide +kernel) ⟨Nat.le_of_ble_eq_true rfl, Nat.le_of_ble_eq_true rfl⟩) WM_10 rfl rfl hl.1 (Nat.le_of_ble_eq_true rfl) dX3_lift_15 ⟨Nat.le_of_ble_eq_true rfl, Nat.le_of_ble_eq_true rfl⟩ hK hP hS rfl (fun r w' H locs q_18 hP hS => ?_)
    obtain ⟨rfl, rfl⟩ := q_18
    subst hQ
    exact fw_iret hx hb hr hlocks dX3_lift_18 hP hS (Or.inl ⟨by omega, rfl, rfl⟩)

abbrev rm_X3_setLimits : Room := { frames := 1, cells := 0, slots := 0, locals := 22 }
abbrev po_X3_setLimits (cA : Nat → ClassId) (ad : fw_Ad) (σ : St) (th u a : Int) (μ : fw_W) (x y v : Int) : Int32 → fw_W → Prop := fun r w' => (((1 ≤ x ∧ x ≤ 120) ∧ (0 ≤ y ∧ y ≤ 1000) ∧ 0 ≤ v ∧ v ≤ 1000) ∧ r = iI ((σ 8 1 : Nat) : Int) ∧ w' = WM cA ad (limS σ (Int.toNat x) (Int.toNat y) (Int.toNat v)) ((0 : Nat) : Int) u a μ) ∨ (¬ ((1 ≤ x ∧ x ≤ 120) ∧ (0 ≤ y ∧ y ≤ 1000) ∧ 0 ≤ v ∧ v ≤ 1000) ∧ r = iI 0 ∧ w' = WM cA ad σ ((1 : Nat) : Int) u a μ)
set_option maxHeartbeats 4000000 in
set_option maxRecDepth 100000 in
theorem c_X3_setLimits (l : Launch) (D : va_G) (cA : Nat → ClassId) (z : Nat) (ad : fw_Ad) (σ : St) (th u a : Int) (μ : fw_W) (x y v : Int) (hI : Inv σ) (hx0 : -2147483648 ≤ x ∧ x ≤ 2147483647) (hy0 : -2147483648 ≤ y ∧ y ≤ 2147483647) (hv0 : -2147483648 ≤ v ∧ v ≤ 2147483647) : Met l yX3_setLimits wsX3_setLimits rm_X3_setLimits (va_Pc [.ref (ad 10 (0)), .int (iI (x)), .int (iI (y)), .int (iI (v))] (fw_Pre D vwCl (fw_T cA) z ad (WM cA ad σ th u a μ))) (fw_Qi D vwCl z ad (po_X3_setLimits cA ad σ th u a μ x y v)) 0 0 (fw_A z) := by
  refine Met.ofW (cc := cX3_setLimits) (maxL := 5) (ret := (some .int)) (by decide) rfl ?_
  intro pg en s m args below meth cd s₁ B hml hv
  obtain ⟨hargs, hP, hK⟩ := hv
  have hx := B.exec
  have hb := B.bytes
  have hr := B.returns
  have hts := atoms_spec (ws := wsX3_setLimits) B.pre
  have hown : s.vm.findClass RX3 = some m.cls := findClass_of_methodNamed B.named
  have hlocks := B.notSynchronized
  have hinX3 : ∀ w ∈ u_ws RX3 TX3 13, w ∈ wsX3_setLimits := by decide +kernel
  have hf33 := hts (.fieldLink RX3 33 "StowagePlanModel" "thrown" "I") (by decide +kernel)
  have hf23 := hts (.fieldLink RX3 23 "StowagePlanModel" "stackLimit" "I") (by decide +kernel)
  have hf27 := hts (.fieldLink RX3 27 "StowagePlanModel" "listLimit" "I") (by decide +kernel)
  have hf30 := hts (.fieldLink RX3 30 "StowagePlanModel" "trimLimit" "I") (by decide +kernel)
  have hl := lv_entry ([.ref (ad 10 (0)), .int (iI (x)), .int (iI (y)), .int (iI (v))]) (n := 5) (Nat.le_of_ble_eq_true rfl)
  have hent : entryFrame m args 5 = entryFrame m ([.ref (ad 10 (0)), .int (iI (x)), .int (iI (y)), .int (iI (v))] : List Value).toArray 5 := by rw [hargs]
  rw [hent, lg_entry_eq]
  generalize (lg_sl ([.ref (ad 10 (0)), .int (iI (x)), .int (iI (y)), .int (iI (v))]) ++ List.replicate (5 - (lg_sl ([.ref (ad 10 (0)), .int (iI (x)), .int (iI (y)), .int (iI (v))])).length) Slot.unset).toArray = ls at hl ⊢
  have hl : lv_has ls 5 [(0, .ref (ad 10 (0))), (1, .int (iI (x))), (2, .int (iI (y))), (3, .int (iI (v)))] := hl
  generalize hQ : MQ below (fw_Qi D vwCl z ad (po_X3_setLimits cA ad σ th u a μ x y v)) args s 0 0 (fw_A z) = Q
  generalize hH : s.heap = H at hP ⊢
  have hS : va_S (fw_A z) s.heap H [] := by rw [← hH]; exact va_S.rf
  generalize ([] : List Loc) = locs at hS ⊢
  refine lv_aload_n hx hb dX3_setLimits_0 rfl (lv_at hl 0 rfl) ?_
  refine lv_iconst (v := iI ((0 : Nat) : Int)) hx hb dX3_setLimits_1 (by decide) ?_
  refine fw_put (ci := 3) (v := .int (iI ((0 : Nat) : Int))) (ty := .int) (C := RX3) (T := TX3) (N := 13) hx hb hts hinX3 tyX3 tyX3_ok nmX3 hown hK hP hS WM_10 rfl 0 (by decide) hf33 (fun _ h9 => h9) rfl (by decide +kernel) rfl rfl (Nat.le_of_ble_eq_true rfl) dX3_setLimits_2 (fun H locs hP hS => ?_)
  have hP := wM_put (th' := ((0 : Nat) : Int)) (u' := u) (a' := a) hP rfl
  refine lv_iload_n hx hb dX3_setLimits_5 rfl (lv_at hl 1 rfl) ?_
  refine lv_iconst (v := iI ((1 : Nat) : Int)) hx hb dX3_setLimits_6 (by decide) ?_
  refine lv_bipush (v := iI ((120 : Nat) : Int)) hx hb dX3_setLimits_7 (by decide) ?_
  refine fw_cSi (As := [.int (iI (x)), .int (iI ((1 : Nat) : Int)), .int (iI ((120 : Nat) : Int))]) (rest := []) ⟨hx, hb, hml, hown, hts⟩ (c_X3_isIn l D cA z ad (WM cA ad σ (((0 : Nat) : Int)) u a μ) (x) ((1 : Nat) : Int) ((120 : Nat) : Int) ⟨by omega, by omega⟩ ⟨by omega, by omega⟩ ⟨by omega, by omega⟩) (va_cwS 3 hts gX3_setLimits_X3_isIn rfl rfl rfl (by decide +kernel) ⟨Nat.le_of_ble_eq_true rfl, Nat.le_of_ble_eq_true rfl⟩) rfl hl.1 (Nat.le_of_ble_eq_true rfl) dX3_setLimits_9 ⟨Nat.le_of_ble_eq_true rfl, Nat.le_of_ble_eq_true rfl⟩ hK hP hS rfl (fun r w' H locs q_1 hP hS => ?_)
  obtain ⟨rfl, rfl⟩ := q_1
  refine fw_if_eqB (x := decide (((1 : Nat) : Int) ≤ (x) ∧ (x) ≤ ((120 : Nat) : Int))) (tgt := 37) hx hb dX3_setLimits_12 (by decide) (fun c_2 => ?_) (fun c_2 => ?_)
  · replace c_2 := of_decide_eq_false c_2
    refine lv_aload_n hx hb dX3_setLimits_37 rfl (lv_at hl 0 rfl) ?_
    refine lv_iconst (v := iI ((1 : Nat) : Int)) hx hb dX3_setLimits_38 (by decide) ?_
    refine fw_cVi (As := [.int (iI ((1 : Nat) : Int))]) (rest := []) ⟨hx, hb, hml, hown, hts⟩ (c_X3_fail l D cA z ad σ (((0 : Nat) : Int)) u a μ ((1 : Nat) : Int) hI) (cwV 1 hts gX3_setLimits_X3_fail rfl rfl rfl (by decide +kernel) ⟨Nat.le_of_ble_eq_true rfl, Nat.le_of_ble_eq_true rfl⟩) WM_10 rfl rfl hl.1 (Nat.le_of_ble_eq_true rfl) dX3_setLimits_39 ⟨Nat.le_of_ble_eq_true rfl, Nat.le_of_ble_eq_true rfl⟩ hK hP hS rfl (fun r w' H locs q_3 hP hS => ?_)
    obtain ⟨rfl, rfl⟩ := q_3
    subst hQ
    exact fw_iret hx hb hr hlocks dX3_setLimits_42 hP hS (Or.inr ⟨by omega, rfl, rfl⟩)
  · replace c_2 := of_decide_eq_true c_2
    refine lv_iload_n hx hb dX3_setLimits_15 rfl (lv_at hl 2 rfl) ?_
    refine lv_iconst (v := iI ((0 : Nat) : Int)) hx hb dX3_setLimits_16 (by decide) ?_
    refine lv_sipush (v := iI ((1000 : Nat) : Int)) hx hb dX3_setLimits_17 (by decide) ?_
    refine fw_cSi (As := [.int (iI (y)), .int (iI ((0 : Nat) : Int)), .int (iI ((1000 : Nat) : Int))]) (rest := []) ⟨hx, hb, hml, hown, hts⟩ (c_X3_isIn l D cA z ad (WM cA ad σ (((0 : Nat) : Int)) u a μ) (y) ((0 : Nat) : Int) ((1000 : Nat) : Int) ⟨by omega, by omega⟩ ⟨by omega, by omega⟩ ⟨by omega, by omega⟩) (va_cwS 3 hts gX3_setLimits_X3_isIn rfl rfl rfl (by decide +kernel) ⟨Nat.le_of_ble_eq_true rfl, Nat.le_of_ble_eq_true rfl⟩) rfl hl.1 (Nat.le_of_ble_eq_true rfl) dX3_setLimits_20 ⟨Nat.le_of_ble_eq_true rfl, Nat.le_of_ble_eq_true rfl⟩ hK hP hS rfl (fun r w' H locs q_4 hP hS => ?_)
    obtain ⟨rfl, rfl⟩ := q_4
    refine fw_if_eqB (x := decide (((0 : Nat) : Int) ≤ (y) ∧ (y) ≤ ((1000 : Nat) : Int))) (tgt := 37) hx hb dX3_setLimits_23 (by decide) (fun c_5 => ?_) (fun c_5 => ?_)
    · replace c_5 := of_decide_eq_false c_5
      refine lv_aload_n hx hb dX3_setLimits_37 rfl (lv_at hl 0 rfl) ?_
      refine lv_iconst (v := iI ((1 : Nat) : Int)) hx hb dX3_setLimits_38 (by decide) ?_
      refine fw_cVi (As := [.int (iI ((1 : Nat) : Int))]) (rest := []) ⟨hx, hb, hml, hown, hts⟩ (c_X3_fail l D cA z ad σ (((0 : Nat) : Int)) u a μ ((1 : Nat) : Int) hI) (cwV 1 hts gX3_setLimits_X3_fail rfl rfl rfl (by decide +kernel) ⟨Nat.le_of_ble_eq_true rfl, Nat.le_of_ble_eq_true rfl⟩) WM_10 rfl rfl hl.1 (Nat.le_of_ble_eq_true rfl) dX3_setLimits_39 ⟨Nat.le_of_ble_eq_true rfl, Nat.le_of_ble_eq_true rfl⟩ hK hP hS rfl (fun r w' H locs q_6 hP hS => ?_)
      obtain ⟨rfl, rfl⟩ := q_6
      subst hQ
      exact fw_iret hx hb hr hlocks dX3_setLimits_42 hP hS (Or.inr ⟨by omega, rfl, rfl⟩)
    · replace c_5 := of_decide_eq_true c_5
      refine lv_iload_n hx hb dX3_setLimits_26 rfl (lv_at hl 3 rfl) ?_
      refine lv_iconst (v := iI ((0 : Nat) : Int)) hx hb dX3_setLimits_27 (by decide) ?_
      refine lv_sipush (v := iI ((1000 : Nat) : Int)) hx hb dX3_setLimits_28 (by decide) ?_
      refine fw_cSi (As := [.int (iI (v)), .int (iI ((0 : Nat) : Int)), .int (iI ((1000 : Nat) : Int))]) (rest := []) ⟨hx, hb, hml, hown, hts⟩ (c_X3_isIn l D cA z ad (WM cA ad σ (((0 : Nat) : Int)) u a μ) (v) ((0 : Nat) : Int) ((1000 : Nat) : Int) ⟨by omega, by omega⟩ ⟨by omega, by omega⟩ ⟨by omega, by omega⟩) (va_cwS 3 hts gX3_setLimits_X3_isIn rfl rfl rfl (by decide +kernel) ⟨Nat.le_of_ble_eq_true rfl, Nat.le_of_ble_eq_true rfl⟩) rfl hl.1 (Nat.le_of_ble_eq_true rfl) dX3_setLimits_31 ⟨Nat.le_of_ble_eq_true rfl, Nat.le_of_ble_eq_true rfl⟩ hK hP hS rfl (fun r w' H locs q_7 hP hS => ?_)
      obtain ⟨rfl, rfl⟩ := q_7
      refine fw_if_neB (x := decide (((0 : Nat) : Int) ≤ (v) ∧ (v) ≤ ((1000 : Nat) : Int))) (tgt := 43) hx hb dX3_setLimits_34 (by decide) (fun c_8 => ?_) (fun c_8 => ?_)
      · replace c_8 := of_decide_eq_true c_8
        have hl := lv_conv hl (l2 := [(0, .ref (ad 10 (0))), (1, .int (iI ((Int.toNat x : Nat) : Int))), (2, .int (iI (y))), (3, .int (iI (v)))]) (by rw [show ((Int.toNat x : Nat) : Int) = x from by omega])
        have hl := lv_conv hl (l2 := [(0, .ref (ad 10 (0))), (1, .int (iI ((Int.toNat x : Nat) : Int))), (2, .int (iI ((Int.toNat y : Nat) : Int))), (3, .int (iI (v)))]) (by rw [show ((Int.toNat y : Nat) : Int) = y from by omega])
        have hl := lv_conv hl (l2 := [(0, .ref (ad 10 (0))), (1, .int (iI ((Int.toNat x : Nat) : Int))), (2, .int (iI ((Int.toNat y : Nat) : Int))), (3, .int (iI ((Int.toNat v : Nat) : Int)))]) (by rw [show ((Int.toNat v : Nat) : Int) = v from by omega])
        refine lv_aload_n hx hb dX3_setLimits_43 rfl (lv_at hl 0 rfl) ?_
        refine fw_get (ci := 3) (v := .int (iI ((σ 8 1 : Nat) : Int))) (C := RX3) (T := TX3) (N := 13) hx hb hts hinX3 hown hK hP WM_10 rfl 6 (by decide) hf23 (fun _ h9 => h9) rfl dX3_setLimits_44 ?_
        have hn_9 := hI.n
        have hm_10 := hI.lim
        refine lv_istore (lv' := [(4, .int (iI ((σ 8 1 : Nat) : Int))), (0, .ref (ad 10 (0))), (1, .int (iI ((Int.toNat x : Nat) : Int))), (2, .int (iI ((Int.toNat y : Nat) : Int))), (3, .int (iI ((Int.toNat v : Nat) : Int)))]) hx hb dX3_setLimits_47 hl (by decide) rfl (fun ls hl => ?_)
        refine lv_aload_n hx hb dX3_setLimits_49 rfl (lv_at hl 1 rfl) ?_
        refine lv_iload_n hx hb dX3_setLimits_50 rfl (lv_at hl 2 rfl) ?_
        refine fw_put (ci := 3) (v := .int (iI ((Int.toNat x : Nat) : Int))) (ty := .int) (C := RX3) (T := TX3) (N := 13) hx hb hts hinX3 tyX3 tyX3_ok nmX3 hown hK hP hS WM_10 rfl 6 (by decide) hf23 (fun _ h9 => h9) rfl (by decide +kernel) rfl rfl (Nat.le_of_ble_eq_true rfl) dX3_setLimits_51 (fun H locs hP hS => ?_)
        have hP := wM_8 (c := 1) (v := Int.toNat x) hP rfl
        refine lv_aload_n hx hb dX3_setLimits_54 rfl (lv_at hl 1 rfl) ?_
        refine lv_iload_n hx hb dX3_setLimits_55 rfl (lv_at hl 3 rfl) ?_
        refine fw_put (ci := 3) (v := .int (iI ((Int.toNat y : Nat) : Int))) (ty := .int) (C := RX3) (T := TX3) (N := 13) hx hb hts hinX3 tyX3 tyX3_ok nmX3 hown hK hP hS WM_10 rfl 7 (by decide) hf27 (fun _ h9 => h9) rfl (by decide +kernel) rfl rfl (Nat.le_of_ble_eq_true rfl) dX3_setLimits_56 (fun H locs hP hS => ?_)
        have hP := wM_8 (c := 2) (v := Int.toNat y) hP rfl
        refine lv_aload_n hx hb dX3_setLimits_59 rfl (lv_at hl 1 rfl) ?_
        refine lv_iload_n hx hb dX3_setLimits_60 rfl (lv_at hl 4 rfl) ?_
        refine fw_put (ci := 3) (v := .int (iI ((Int.toNat v : Nat) : Int))) (ty := .int) (C := RX3) (T := TX3) (N := 13) hx hb hts hinX3 tyX3 tyX3_ok nmX3 hown hK hP hS WM_10 rfl 8 (by decide) hf30 (fun _ h9 => h9) rfl (by decide +kernel) rfl rfl (Nat.le_of_ble_eq_true rfl) dX3_setLimits_61 (fun H locs hP hS => ?_)
        have hP := wM_8 (c := 3) (v := Int.toNat v) hP rfl
        refine lv_iload hx hb dX3_setLimits_64 (lv_at hl 0 rfl) ?_
        subst hQ
        exact fw_iret hx hb hr hlocks dX3_setLimits_66 hP hS (Or.inl ⟨by omega, rfl, rfl⟩)
      · replace c_8 := of_decide_eq_false c_8
        refine lv_aload_n hx hb dX3_setLimits_37 rfl (lv_at hl 0 rfl) ?_
        refine lv_iconst (v := iI ((1 : Nat) : Int)) hx hb dX3_setLimits_38 (by decide) ?_
        refine fw_cVi (As := [.int (iI ((1 : Nat) : Int))]) (rest := []) ⟨hx, hb, hml, hown, hts⟩ (c_X3_fail l D cA z ad σ (((0 : Nat) : Int)) u a μ ((1 : Nat) : Int) hI) (cwV 1 hts gX3_setLimits_X3_fail rfl rfl rfl (by decide +kernel) ⟨Nat.le_of_ble_eq_true rfl, Nat.le_of_ble_eq_true rfl⟩) WM_10 rfl rfl hl.1 (Nat.le_of_ble_eq_true rfl) dX3_setLimits_39 ⟨Nat.le_of_ble_eq_true rfl, Nat.le_of_ble_eq_true rfl⟩ hK hP hS rfl (fun r w' H locs q_11 hP hS => ?_)
        obtain ⟨rfl, rfl⟩ := q_11
        subst hQ
        exact fw_iret hx hb hr hlocks dX3_setLimits_42 hP hS (Or.inr ⟨by omega, rfl, rfl⟩)

abbrev rm_X3_setPlug : Room := { frames := 2, cells := 0, slots := 0, locals := 43 }
abbrev po_X3_setPlug (cA : Nat → ClassId) (ad : fw_Ad) (σ : St) (th u a : Int) (μ : fw_W) (b q : Int) (o : Bool) : Int32 → fw_W → Prop := fun r w' => (¬ ((0 ≤ b ∧ b ≤ 5) ∧ 0 ≤ q ∧ q ≤ 4) ∧ r = iI 0 ∧ w' = WM cA ad σ ((1 : Nat) : Int) u a μ) ∨ ((((0 ≤ b ∧ b ≤ 5) ∧ 0 ≤ q ∧ q ≤ 4) ∧ o = false ∧ reef σ (5 * Int.toNat b + Int.toNat q)) ∧ r = iI 0 ∧ w' = WM cA ad σ ((2 : Nat) : Int) u a μ) ∨ (((0 ≤ b ∧ b ≤ 5) ∧ 0 ≤ q ∧ q ≤ 4) ∧ ¬ (o = false ∧ reef σ (5 * Int.toNat b + Int.toNat q)) ∧ r = iI ((σ 7 (5 * Int.toNat b + Int.toNat q) : Nat) : Int) ∧ w' = WM cA ad (up σ 7 (5 * Int.toNat b + Int.toNat q) (bN o)) ((0 : Nat) : Int) u a μ)
set_option maxHeartbeats 4000000 in
set_option maxRecDepth 100000 in
theorem c_X3_setPlug (l : Launch) (D : va_G) (cA : Nat → ClassId) (z : Nat) (ad : fw_Ad) (σ : St) (th u a : Int) (μ : fw_W) (b q : Int) (o : Bool) (hI : Inv σ) (hb0 : -2147483648 ≤ b ∧ b ≤ 2147483647) (hq0 : -2147483648 ≤ q ∧ q ≤ 2147483647) : Met l yX3_setPlug wsX3_setPlug rm_X3_setPlug (va_Pc [.ref (ad 10 (0)), .int (iI (b)), .int (iI (q)), .int (iI (bI (o)))] (fw_Pre D vwCl (fw_T cA) z ad (WM cA ad σ th u a μ))) (fw_Qi D vwCl z ad (po_X3_setPlug cA ad σ th u a μ b q o)) 0 0 (fw_A z) := by
  refine Met.ofW (cc := cX3_setPlug) (maxL := 6) (ret := (some .boolean)) (by decide) rfl ?_
  intro pg en s m args below meth cd s₁ B hml hv
  obtain ⟨hargs, hP, hK⟩ := hv
  have hx := B.exec
  have hb := B.bytes
  have hr := B.returns
  have hts := atoms_spec (ws := wsX3_setPlug) B.pre
  have hown : s.vm.findClass RX3 = some m.cls := findClass_of_methodNamed B.named
  have hlocks := B.notSynchronized
  have hinX3 : ∀ w ∈ u_ws RX3 TX3 13, w ∈ wsX3_setPlug := by decide +kernel
  have hf33 := hts (.fieldLink RX3 33 "StowagePlanModel" "thrown" "I") (by decide +kernel)
  have hf36 := hts (.fieldLink RX3 36 "StowagePlanModel" "many" "I") (by decide +kernel)
  have hf19 := hts (.fieldLink RX3 19 "StowagePlanModel" "plugs" "[Z") (by decide +kernel)
  have hl := lv_entry ([.ref (ad 10 (0)), .int (iI (b)), .int (iI (q)), .int (iI (bI (o)))]) (n := 6) (Nat.le_of_ble_eq_true rfl)
  have hent : entryFrame m args 6 = entryFrame m ([.ref (ad 10 (0)), .int (iI (b)), .int (iI (q)), .int (iI (bI (o)))] : List Value).toArray 6 := by rw [hargs]
  rw [hent, lg_entry_eq]
  generalize (lg_sl ([.ref (ad 10 (0)), .int (iI (b)), .int (iI (q)), .int (iI (bI (o)))]) ++ List.replicate (6 - (lg_sl ([.ref (ad 10 (0)), .int (iI (b)), .int (iI (q)), .int (iI (bI (o)))])).length) Slot.unset).toArray = ls at hl ⊢
  have hl : lv_has ls 6 [(0, .ref (ad 10 (0))), (1, .int (iI (b))), (2, .int (iI (q))), (3, .int (iI (bI (o))))] := hl
  generalize hQ : MQ below (fw_Qi D vwCl z ad (po_X3_setPlug cA ad σ th u a μ b q o)) args s 0 0 (fw_A z) = Q
  generalize hH : s.heap = H at hP ⊢
  have hS : va_S (fw_A z) s.heap H [] := by rw [← hH]; exact va_S.rf
  generalize ([] : List Loc) = locs at hS ⊢
  refine lv_aload_n hx hb dX3_setPlug_0 rfl (lv_at hl 0 rfl) ?_
  refine lv_iload_n hx hb dX3_setPlug_1 rfl (lv_at hl 1 rfl) ?_
  refine lv_iload_n hx hb dX3_setPlug_2 rfl (lv_at hl 2 rfl) ?_
  refine fw_cSi (As := [.int (iI (b)), .int (iI (q))]) (rest := [.ref (ad 10 (0))]) ⟨hx, hb, hml, hown, hts⟩ (c_X3_isStack l D cA z ad (WM cA ad σ th u a μ) (b) (q) ⟨by omega, by omega⟩ ⟨by omega, by omega⟩) (va_cwS 2 hts gX3_setPlug_X3_isStack rfl rfl rfl (by decide +kernel) ⟨Nat.le_of_ble_eq_true rfl, Nat.le_of_ble_eq_true rfl⟩) rfl hl.1 (Nat.le_of_ble_eq_true rfl) dX3_setPlug_3 ⟨Nat.le_of_ble_eq_true rfl, Nat.le_of_ble_eq_true rfl⟩ hK hP hS rfl (fun r w' H locs q_1 hP hS => ?_)
  obtain ⟨rfl, rfl⟩ := q_1
  refine fw_if_eqB (x := decide ((0 ≤ (b) ∧ (b) ≤ 5) ∧ 0 ≤ (q) ∧ (q) ≤ 4)) (tgt := 13) hx hb dX3_setPlug_6 (by decide) (fun c_2 => ?_) (fun c_2 => ?_)
  · replace c_2 := of_decide_eq_false c_2
    refine lv_iconst (v := iI ((1 : Nat) : Int)) hx hb dX3_setPlug_13 (by decide) ?_
    refine fw_put (ci := 3) (v := .int (iI ((1 : Nat) : Int))) (ty := .int) (C := RX3) (T := TX3) (N := 13) hx hb hts hinX3 tyX3 tyX3_ok nmX3 hown hK hP hS WM_10 rfl 0 (by decide) hf33 (fun _ h9 => h9) rfl (by decide +kernel) rfl rfl (Nat.le_of_ble_eq_true rfl) dX3_setPlug_14 (fun H locs hP hS => ?_)
    have hP := wM_put (th' := ((1 : Nat) : Int)) (u' := u) (a' := a) hP rfl
    refine lv_aload_n hx hb dX3_setPlug_17 rfl (lv_at hl 0 rfl) ?_
    refine fw_get (ci := 3) (v := .int (iI (((1 : Nat) : Int)))) (C := RX3) (T := TX3) (N := 13) hx hb hts hinX3 hown hK hP WM_10 rfl 0 (by decide) hf33 (fun _ h9 => h9) rfl dX3_setPlug_18 ?_
    have hn_3 := hI.n
    have hm_4 := hI.lim
    refine fw_if_eq (x := (((1 : Nat) : Int))) (tgt := 26) hx hb dX3_setPlug_21 (by decide) ⟨by omega, by omega⟩ (fun c_5 => absurd c_5 (by decide)) (fun c_5 => ?_)
    refine lv_iconst (v := iI ((0 : Nat) : Int)) hx hb dX3_setPlug_24 (by decide) ?_
    subst hQ
    exact fw_zret hx hb hr hlocks dX3_setPlug_25 hP hS rfl (Or.inl ⟨by omega, rfl, rfl⟩)
  · replace c_2 := of_decide_eq_true c_2
    refine lv_iconst (v := iI ((0 : Nat) : Int)) hx hb dX3_setPlug_9 (by decide) ?_
    refine lv_goto (tgt := 14) hx hb dX3_setPlug_10 (by decide) ?_
    refine fw_put (ci := 3) (v := .int (iI ((0 : Nat) : Int))) (ty := .int) (C := RX3) (T := TX3) (N := 13) hx hb hts hinX3 tyX3 tyX3_ok nmX3 hown hK hP hS WM_10 rfl 0 (by decide) hf33 (fun _ h9 => h9) rfl (by decide +kernel) rfl rfl (Nat.le_of_ble_eq_true rfl) dX3_setPlug_14 (fun H locs hP hS => ?_)
    have hP := wM_put (th' := ((0 : Nat) : Int)) (u' := u) (a' := a) hP rfl
    refine lv_aload_n hx hb dX3_setPlug_17 rfl (lv_at hl 0 rfl) ?_
    refine fw_get (ci := 3) (v := .int (iI (((0 : Nat) : Int)))) (C := RX3) (T := TX3) (N := 13) hx hb hts hinX3 hown hK hP WM_10 rfl 0 (by decide) hf33 (fun _ h9 => h9) rfl dX3_setPlug_18 ?_
    have hn_6 := hI.n
    have hm_7 := hI.lim
    refine fw_if_eq (x := (((0 : Nat) : Int))) (tgt := 26) hx hb dX3_setPlug_21 (by decide) ⟨by omega, by omega⟩ (fun c_8 => ?_) (fun c_8 => absurd c_8 (by decide))
    have hl := lv_conv hl (l2 := [(0, .ref (ad 10 (0))), (1, .int (iI ((Int.toNat b : Nat) : Int))), (2, .int (iI (q))), (3, .int (iI (bI (o))))]) (by rw [show ((Int.toNat b : Nat) : Int) = b from by omega])
    have hl := lv_conv hl (l2 := [(0, .ref (ad 10 (0))), (1, .int (iI ((Int.toNat b : Nat) : Int))), (2, .int (iI ((Int.toNat q : Nat) : Int))), (3, .int (iI (bI (o))))]) (by rw [show ((Int.toNat q : Nat) : Int) = q from by omega])
    refine lv_iload_n hx hb dX3_setPlug_26 rfl (lv_at hl 1 rfl) ?_
    refine lv_iload_n hx hb dX3_setPlug_27 rfl (lv_at hl 2 rfl) ?_
    refine fw_cSi (As := [.int (iI ((Int.toNat b : Nat) : Int)), .int (iI ((Int.toNat q : Nat) : Int))]) (rest := []) ⟨hx, hb, hml, hown, hts⟩ (c_X3_stack l D cA z ad (WM cA ad σ (((0 : Nat) : Int)) u a μ) (Int.toNat b) (Int.toNat q)) (va_cwS 2 hts gX3_setPlug_X3_stack rfl rfl rfl (by decide +kernel) ⟨Nat.le_of_ble_eq_true rfl, Nat.le_of_ble_eq_true rfl⟩) rfl hl.1 (Nat.le_of_ble_eq_true rfl) dX3_setPlug_28 ⟨Nat.le_of_ble_eq_true rfl, Nat.le_of_ble_eq_true rfl⟩ hK hP hS rfl (fun r w' H locs q_9 hP hS => ?_)
    obtain ⟨rfl, rfl⟩ := q_9
    refine lv_istore (lv' := [(4, .int (iI ((5 * (Int.toNat b) + (Int.toNat q) : Nat) : Int))), (0, .ref (ad 10 (0))), (1, .int (iI ((Int.toNat b : Nat) : Int))), (2, .int (iI ((Int.toNat q : Nat) : Int))), (3, .int (iI (bI (o))))]) hx hb dX3_setPlug_31 hl (by decide) rfl (fun ls hl => ?_)
    refine lv_iconst (v := iI ((0 : Nat) : Int)) hx hb dX3_setPlug_33 (by decide) ?_
    refine lv_istore (lv' := [(5, .int (iI ((0 : Nat) : Int))), (4, .int (iI ((5 * (Int.toNat b) + (Int.toNat q) : Nat) : Int))), (0, .ref (ad 10 (0))), (1, .int (iI ((Int.toNat b : Nat) : Int))), (2, .int (iI ((Int.toNat q : Nat) : Int))), (3, .int (iI (bI (o))))]) hx hb dX3_setPlug_34 hl (by decide) rfl (fun ls hl => ?_)
    have loop_36 : ∀ (dd i : Nat), σ 8 0 + 1 ≤ i + dd → i ≤ σ 8 0 → ∀ (H : Heap) (locs : List Loc) (ls : Array Slot), fw_P D vwCl z ad (WM cA ad σ ((if cB (o = false ∧ ∃ c, c < i ∧ σ 4 c = 1 ∧ σ 5 c = (5 * Int.toNat b + Int.toNat q) ∧ σ 3 c = 1) = true then ((2 : Nat) : Int) else ((0 : Nat) : Int))) u a μ) H → va_S (fw_A z) s.heap H locs → lv_has ls 6 [(0, .ref (ad 10 (0))), (1, .int (iI ((Int.toNat b : Nat) : Int))), (2, .int (iI ((Int.toNat q : Nat) : Int))), (3, .int (iI (bI (o)))), (4, .int (iI ((5 * (Int.toNat b) + (Int.toNat q) : Nat) : Int))), (5, .int (iI ((i : Nat) : Int)))] → W pg l en (headSpec wsX3_setPlug rm_X3_setPlug).room s m args below meth cd H locs 0 0 Q (F0 m 36 ls []) := by
      intro dd
      induction dd with
      | zero => intro i hd_36 hi_36; omega
      | succ dd ih_36 =>
        intro i hd_36 hi_36 H locs ls hP hS hl
        refine lv_iload hx hb dX3_setPlug_36 (lv_at hl 5 rfl) ?_
        refine lv_aload_n hx hb dX3_setPlug_38 rfl (lv_at hl 0 rfl) ?_
        refine fw_get (ci := 3) (v := .int (iI ((σ 8 0 : Nat) : Int))) (C := RX3) (T := TX3) (N := 13) hx hb hts hinX3 hown hK hP WM_10 rfl 1 (by decide) hf36 (fun _ h9 => h9) rfl dX3_setPlug_39 ?_
        refine fw_icmp_ge (x := ((i : Nat) : Int)) (y := ((σ 8 0 : Nat) : Int)) (tgt := 81) hx hb dX3_setPlug_42 (by decide) ⟨by omega, by omega⟩ ⟨by omega, by omega⟩ (fun c_10 => ?_) (fun c_10 => ?_)
        · by_cases hrf : o = false ∧ reef σ (5 * Int.toNat b + Int.toNat q)
          · rw [show (if cB (o = false ∧ ∃ c, c < i ∧ σ 4 c = 1 ∧ σ 5 c = (5 * Int.toNat b + Int.toNat q) ∧ σ 3 c = 1) = true then ((2 : Nat) : Int) else ((0 : Nat) : Int)) = ((2 : Nat) : Int) from ifT (cB_t.mpr (by rw [show i = σ 8 0 from by omega]; exact hrf))] at hP
            refine lv_aload_n hx hb dX3_setPlug_81 rfl (lv_at hl 0 rfl) ?_
            refine fw_get (ci := 3) (v := .int (iI (((2 : Nat) : Int)))) (C := RX3) (T := TX3) (N := 13) hx hb hts hinX3 hown hK hP WM_10 rfl 0 (by decide) hf33 (fun _ h9 => h9) rfl dX3_setPlug_82 ?_
            refine fw_if_eq (x := (((2 : Nat) : Int))) (tgt := 90) hx hb dX3_setPlug_85 (by decide) ⟨by omega, by omega⟩ (fun c_11 => absurd c_11 (by decide)) (fun c_11 => ?_)
            refine lv_iconst (v := iI ((0 : Nat) : Int)) hx hb dX3_setPlug_88 (by decide) ?_
            subst hQ
            exact fw_zret hx hb hr hlocks dX3_setPlug_89 hP hS rfl (Or.inr (Or.inl ⟨⟨⟨by omega, by omega⟩, hrf⟩, rfl, rfl⟩))
          · rw [show (if cB (o = false ∧ ∃ c, c < i ∧ σ 4 c = 1 ∧ σ 5 c = (5 * Int.toNat b + Int.toNat q) ∧ σ 3 c = 1) = true then ((2 : Nat) : Int) else ((0 : Nat) : Int)) = ((0 : Nat) : Int) from ifF (cB_f.mpr (by rw [show i = σ 8 0 from by omega]; exact hrf))] at hP
            refine lv_aload_n hx hb dX3_setPlug_81 rfl (lv_at hl 0 rfl) ?_
            refine fw_get (ci := 3) (v := .int (iI (((0 : Nat) : Int)))) (C := RX3) (T := TX3) (N := 13) hx hb hts hinX3 hown hK hP WM_10 rfl 0 (by decide) hf33 (fun _ h9 => h9) rfl dX3_setPlug_82 ?_
            refine fw_if_eq (x := (((0 : Nat) : Int))) (tgt := 90) hx hb dX3_setPlug_85 (by decide) ⟨by omega, by omega⟩ (fun c_12 => ?_) (fun c_12 => absurd c_12 (by decide))
            refine lv_aload_n hx hb dX3_setPlug_90 rfl (lv_at hl 0 rfl) ?_
            refine fw_get (ci := 3) (v := .ref (ad 14 (0))) (C := RX3) (T := TX3) (N := 13) hx hb hts hinX3 hown hK hP WM_10 rfl 5 (by decide) hf19 (fun _ h9 => h9) rfl dX3_setPlug_91 ?_
            refine lv_iload hx hb dX3_setPlug_94 (lv_at hl 4 rfl) ?_
            refine fw_zaldN (j := 5 * (Int.toNat b) + (Int.toNat q)) hx hb hK hP WM_14 1 rfl (by omega) (by decide) dX3_setPlug_96 ?_
            refine fw_topI (b := ((σ 7 (5 * (Int.toNat b) + (Int.toNat q)) : Nat) : Int)) rfl ?_
            have hp_13 := hI.pl (5 * (Int.toNat b) + (Int.toNat q))
            refine lv_istore (lv' := [(5, .int (iI ((σ 7 (5 * (Int.toNat b) + (Int.toNat q)) : Nat) : Int))), (0, .ref (ad 10 (0))), (1, .int (iI ((Int.toNat b : Nat) : Int))), (2, .int (iI ((Int.toNat q : Nat) : Int))), (3, .int (iI (bI (o)))), (4, .int (iI ((5 * (Int.toNat b) + (Int.toNat q) : Nat) : Int)))]) hx hb dX3_setPlug_97 hl (by decide) rfl (fun ls hl => ?_)
            refine lv_aload_n hx hb dX3_setPlug_99 rfl (lv_at hl 1 rfl) ?_
            refine fw_get (ci := 3) (v := .ref (ad 14 (0))) (C := RX3) (T := TX3) (N := 13) hx hb hts hinX3 hown hK hP WM_10 rfl 5 (by decide) hf19 (fun _ h9 => h9) rfl dX3_setPlug_100 ?_
            refine lv_iload hx hb dX3_setPlug_103 (lv_at hl 5 rfl) ?_
            refine lv_iload_n hx hb dX3_setPlug_105 rfl (lv_at hl 4 rfl) ?_
            refine fw_zastN (j := 5 * (Int.toNat b) + (Int.toNat q)) hx hb hK hP hS WM_14 1 rfl (iI_nar _) (by omega) (by decide) dX3_setPlug_106 (fun H locs hP hS => ?_)
            have hP := wM_7 (c := 5 * (Int.toNat b) + (Int.toNat q)) (v := bN (o)) hP (cPlug_set (congrArg iI (bI_bN _)))
            refine lv_iload hx hb dX3_setPlug_107 (lv_at hl 0 rfl) ?_
            subst hQ
            exact fw_zret hx hb hr hlocks dX3_setPlug_109 hP hS (narrow_pl (hI.pl _)) (Or.inr (Or.inr ⟨⟨by omega, by omega⟩, hrf, rfl, rfl⟩))
        · refine lv_iload_n hx hb dX3_setPlug_45 rfl (lv_at hl 3 rfl) ?_
          refine fw_if_neB (x := o) (tgt := 75) hx hb dX3_setPlug_46 (by decide) (fun c_14 => ?_) (fun c_14 => ?_)
          · refine fw_iincN (x := i) (lv' := [(5, .int (iI ((i + 1 : Nat) : Int))), (0, .ref (ad 10 (0))), (1, .int (iI ((Int.toNat b : Nat) : Int))), (2, .int (iI ((Int.toNat q : Nat) : Int))), (3, .int (iI (bI (o)))), (4, .int (iI ((5 * (Int.toNat b) + (Int.toNat q) : Nat) : Int)))]) hx hb dX3_setPlug_75 hl (k := 5) rfl (by decide) rfl (fun ls hl => ?_)
            refine lv_goto (tgt := 36) hx hb dX3_setPlug_78 (by decide) ?_
            exact ih_36 (i + 1) (by omega) (by omega) H locs ls (by rw [show cB (o = false ∧ ∃ c, c < (i + 1) ∧ σ 4 c = 1 ∧ σ 5 c = (5 * Int.toNat b + Int.toNat q) ∧ σ 3 c = 1) = cB (o = false ∧ ∃ c, c < i ∧ σ 4 c = 1 ∧ σ 5 c = (5 * Int.toNat b + Int.toNat q) ∧ σ 3 c = 1) from cB_congr (rf_step (fun q => by have q1 := q.1; have q2 : o = true := (by assumption); rw [q1] at q2; cases q2))]; exact hP) hS (lv_sub hl [1, 2, 3, 4, 5, 0] rfl)
          · refine lv_aload_n hx hb dX3_setPlug_49 rfl (lv_at hl 0 rfl) ?_
            refine lv_iload hx hb dX3_setPlug_50 (lv_at hl 5 rfl) ?_
            refine lv_iload hx hb dX3_setPlug_52 (lv_at hl 4 rfl) ?_
            refine fw_cVi (As := [.int (iI ((i : Nat) : Int)), .int (iI ((5 * (Int.toNat b) + (Int.toNat q) : Nat) : Int))]) (rest := []) ⟨hx, hb, hml, hown, hts⟩ (c_X3_isOn l D cA z ad σ ((if cB (o = false ∧ ∃ c, c < i ∧ σ 4 c = 1 ∧ σ 5 c = (5 * Int.toNat b + Int.toNat q) ∧ σ 3 c = 1) = true then ((2 : Nat) : Int) else ((0 : Nat) : Int))) u a μ i (5 * (Int.toNat b) + (Int.toNat q)) hI.b (by omega) (by omega)) (cwV 2 hts gX3_setPlug_X3_isOn rfl rfl rfl (by decide +kernel) ⟨Nat.le_of_ble_eq_true rfl, Nat.le_of_ble_eq_true rfl⟩) WM_10 rfl rfl hl.1 (Nat.le_of_ble_eq_true rfl) dX3_setPlug_54 ⟨Nat.le_of_ble_eq_true rfl, Nat.le_of_ble_eq_true rfl⟩ hK hP hS rfl (fun r w' H locs q_15 hP hS => ?_)
            obtain ⟨rfl, rfl⟩ := q_15
            have hc_16 := hI.c i
            refine fw_if_eqB (x := isOn σ i (5 * (Int.toNat b) + (Int.toNat q))) (tgt := 75) hx hb dX3_setPlug_57 (by decide) (fun c_17 => ?_) (fun c_17 => ?_)
            · refine fw_iincN (x := i) (lv' := [(5, .int (iI ((i + 1 : Nat) : Int))), (0, .ref (ad 10 (0))), (1, .int (iI ((Int.toNat b : Nat) : Int))), (2, .int (iI ((Int.toNat q : Nat) : Int))), (3, .int (iI (bI (o)))), (4, .int (iI ((5 * (Int.toNat b) + (Int.toNat q) : Nat) : Int)))]) hx hb dX3_setPlug_75 hl (k := 5) rfl (by decide) rfl (fun ls hl => ?_)
              refine lv_goto (tgt := 36) hx hb dX3_setPlug_78 (by decide) ?_
              exact ih_36 (i + 1) (by omega) (by omega) H locs ls (by rw [show cB (o = false ∧ ∃ c, c < (i + 1) ∧ σ 4 c = 1 ∧ σ 5 c = (5 * Int.toNat b + Int.toNat q) ∧ σ 3 c = 1) = cB (o = false ∧ ∃ c, c < i ∧ σ 4 c = 1 ∧ σ 5 c = (5 * Int.toNat b + Int.toNat q) ∧ σ 3 c = 1) from cB_congr (rf_step (fun q => isOn_f.mp (by assumption) ⟨q.2.1, q.2.2.1⟩))]; exact hP) hS (lv_sub hl [1, 2, 3, 4, 5, 0] rfl)
            · refine lv_aload_n hx hb dX3_setPlug_60 rfl (lv_at hl 0 rfl) ?_
              refine lv_iload hx hb dX3_setPlug_61 (lv_at hl 5 rfl) ?_
              refine fw_cVi (As := [.int (iI ((i : Nat) : Int))]) (rest := []) ⟨hx, hb, hml, hown, hts⟩ (c_X3_kind l D cA z ad σ ((if cB (o = false ∧ ∃ c, c < i ∧ σ 4 c = 1 ∧ σ 5 c = (5 * Int.toNat b + Int.toNat q) ∧ σ 3 c = 1) = true then ((2 : Nat) : Int) else ((0 : Nat) : Int))) u a μ i hI.b (by omega)) (cwV 1 hts gX3_setPlug_X3_kind rfl rfl rfl (by decide +kernel) ⟨Nat.le_of_ble_eq_true rfl, Nat.le_of_ble_eq_true rfl⟩) WM_10 rfl rfl hl.1 (Nat.le_of_ble_eq_true rfl) dX3_setPlug_63 ⟨Nat.le_of_ble_eq_true rfl, Nat.le_of_ble_eq_true rfl⟩ hK hP hS rfl (fun r w' H locs q_18 hP hS => ?_)
              obtain ⟨rfl, rfl⟩ := q_18
              refine lv_iconst (v := iI ((1 : Nat) : Int)) hx hb dX3_setPlug_66 (by decide) ?_
              refine fw_icmp_ne (x := ((σ 3 i : Nat) : Int)) (y := ((1 : Nat) : Int)) (tgt := 75) hx hb dX3_setPlug_67 (by decide) ⟨by omega, by omega⟩ ⟨by omega, by omega⟩ (fun c_19 => ?_) (fun c_19 => ?_)
              · refine fw_iincN (x := i) (lv' := [(5, .int (iI ((i + 1 : Nat) : Int))), (0, .ref (ad 10 (0))), (1, .int (iI ((Int.toNat b : Nat) : Int))), (2, .int (iI ((Int.toNat q : Nat) : Int))), (3, .int (iI (bI (o)))), (4, .int (iI ((5 * (Int.toNat b) + (Int.toNat q) : Nat) : Int)))]) hx hb dX3_setPlug_75 hl (k := 5) rfl (by decide) rfl (fun ls hl => ?_)
                refine lv_goto (tgt := 36) hx hb dX3_setPlug_78 (by decide) ?_
                exact ih_36 (i + 1) (by omega) (by omega) H locs ls (by rw [show cB (o = false ∧ ∃ c, c < (i + 1) ∧ σ 4 c = 1 ∧ σ 5 c = (5 * Int.toNat b + Int.toNat q) ∧ σ 3 c = 1) = cB (o = false ∧ ∃ c, c < i ∧ σ 4 c = 1 ∧ σ 5 c = (5 * Int.toNat b + Int.toNat q) ∧ σ 3 c = 1) from cB_congr (rf_step (fun q => by have := q.2.2.2; omega))]; exact hP) hS (lv_sub hl [1, 2, 3, 4, 5, 0] rfl)
              · refine lv_aload_n hx hb dX3_setPlug_70 rfl (lv_at hl 0 rfl) ?_
                refine lv_iconst (v := iI ((2 : Nat) : Int)) hx hb dX3_setPlug_71 (by decide) ?_
                refine fw_put (ci := 3) (v := .int (iI ((2 : Nat) : Int))) (ty := .int) (C := RX3) (T := TX3) (N := 13) hx hb hts hinX3 tyX3 tyX3_ok nmX3 hown hK hP hS WM_10 rfl 0 (by decide) hf33 (fun _ h9 => h9) rfl (by decide +kernel) rfl rfl (Nat.le_of_ble_eq_true rfl) dX3_setPlug_72 (fun H locs hP hS => ?_)
                have hP := wM_put (th' := ((2 : Nat) : Int)) (u' := u) (a' := a) hP rfl
                refine fw_iincN (x := i) (lv' := [(5, .int (iI ((i + 1 : Nat) : Int))), (0, .ref (ad 10 (0))), (1, .int (iI ((Int.toNat b : Nat) : Int))), (2, .int (iI ((Int.toNat q : Nat) : Int))), (3, .int (iI (bI (o)))), (4, .int (iI ((5 * (Int.toNat b) + (Int.toNat q) : Nat) : Int)))]) hx hb dX3_setPlug_75 hl (k := 5) rfl (by decide) rfl (fun ls hl => ?_)
                refine lv_goto (tgt := 36) hx hb dX3_setPlug_78 (by decide) ?_
                exact ih_36 (i + 1) (by omega) (by omega) H locs ls (by rw [show (if cB (o = false ∧ ∃ c, c < (i + 1) ∧ σ 4 c = 1 ∧ σ 5 c = (5 * Int.toNat b + Int.toNat q) ∧ σ 3 c = 1) = true then ((2 : Nat) : Int) else ((0 : Nat) : Int)) = ((2 : Nat) : Int) from ifT (cB_t.mpr ⟨by assumption, i, by omega, (isOn_t.mp (by assumption)).1, (isOn_t.mp (by assumption)).2, by omega⟩)]; exact hP) hS (lv_sub hl [1, 2, 3, 4, 5, 0] rfl)
    exact loop_36 (σ 8 0 + 1) (0) (by omega) (by omega) H locs ls (by rw [show (if cB (o = false ∧ ∃ c, c < 0 ∧ σ 4 c = 1 ∧ σ 5 c = (5 * Int.toNat b + Int.toNat q) ∧ σ 3 c = 1) = true then ((2 : Nat) : Int) else ((0 : Nat) : Int)) = ((0 : Nat) : Int) from ifF (cB_f.mpr (by rintro ⟨-, c, hc, -⟩; omega))]; exact hP) hS (lv_sub hl [2, 3, 4, 5, 1, 0] rfl)

abbrev rm_X3_planOne : Room := { frames := 5, cells := 0, slots := 0, locals := 113 }
abbrev po_X3_planOne (cA : Nat → ClassId) (ad : fw_Ad) (σ : St) (th u a : Int) (μ : fw_W) : Int32 → fw_W → Prop := fun r w' => (bestB σ (σ 8 0) = none ∧ r = iI ((0 : Nat) : Int) ∧ w' = WM cA ad σ th u a μ) ∨ (∃ c s, bestB σ (σ 8 0) = some c ∧ bestS σ c 30 = some s ∧ r = iI ((1 : Nat) : Int) ∧ w' = WM cA ad (putS σ c s) th u a μ)
set_option maxHeartbeats 4000000 in
set_option maxRecDepth 100000 in
theorem c_X3_planOne (l : Launch) (D : va_G) (cA : Nat → ClassId) (z : Nat) (ad : fw_Ad) (σ : St) (th u a : Int) (μ : fw_W) (hI : Inv σ) : Met l yX3_planOne wsX3_planOne rm_X3_planOne (va_Pc [.ref (ad 10 (0))] (fw_Pre D vwCl (fw_T cA) z ad (WM cA ad σ th u a μ))) (fw_Qi D vwCl z ad (po_X3_planOne cA ad σ th u a μ)) 0 0 (fw_A z) := by
  refine Met.ofW (cc := cX3_planOne) (maxL := 4) (ret := (some .boolean)) (by decide) rfl ?_
  intro pg en s m args below meth cd s₁ B hml hv
  obtain ⟨hargs, hP, hK⟩ := hv
  have hx := B.exec
  have hb := B.bytes
  have hr := B.returns
  have hts := atoms_spec (ws := wsX3_planOne) B.pre
  have hown : s.vm.findClass RX3 = some m.cls := findClass_of_methodNamed B.named
  have hlocks := B.notSynchronized
  have hinX3 : ∀ w ∈ u_ws RX3 TX3 13, w ∈ wsX3_planOne := by decide +kernel
  have hf36 := hts (.fieldLink RX3 36 "StowagePlanModel" "many" "I") (by decide +kernel)
  have hl := lv_entry ([.ref (ad 10 (0))]) (n := 4) (Nat.le_of_ble_eq_true rfl)
  have hent : entryFrame m args 4 = entryFrame m ([.ref (ad 10 (0))] : List Value).toArray 4 := by rw [hargs]
  rw [hent, lg_entry_eq]
  generalize (lg_sl ([.ref (ad 10 (0))]) ++ List.replicate (4 - (lg_sl ([.ref (ad 10 (0))])).length) Slot.unset).toArray = ls at hl ⊢
  have hl : lv_has ls 4 [(0, .ref (ad 10 (0)))] := hl
  generalize hQ : MQ below (fw_Qi D vwCl z ad (po_X3_planOne cA ad σ th u a μ)) args s 0 0 (fw_A z) = Q
  generalize hH : s.heap = H at hP ⊢
  have hS : va_S (fw_A z) s.heap H [] := by rw [← hH]; exact va_S.rf
  generalize ([] : List Loc) = locs at hS ⊢
  refine lv_iconst (v := iI (-1)) hx hb dX3_planOne_0 (by decide) ?_
  refine lv_istore_n (lv' := [(1, .int (iI (-1))), (0, .ref (ad 10 (0)))]) hx hb dX3_planOne_1 rfl hl (by decide) rfl (fun ls hl => ?_)
  refine lv_iconst (v := iI ((0 : Nat) : Int)) hx hb dX3_planOne_2 (by decide) ?_
  refine lv_istore_n (lv' := [(2, .int (iI ((0 : Nat) : Int))), (1, .int (iI (-1))), (0, .ref (ad 10 (0)))]) hx hb dX3_planOne_3 rfl hl (by decide) rfl (fun ls hl => ?_)
  have loop_4 : ∀ (dd i : Nat) (acc : Int), σ 8 0 + 1 ≤ i + dd → i ≤ σ 8 0 → acc = optI (bestB σ i) → ∀ (H : Heap) (locs : List Loc) (ls : Array Slot), fw_P D vwCl z ad (WM cA ad σ th u a μ) H → va_S (fw_A z) s.heap H locs → lv_has ls 4 [(0, .ref (ad 10 (0))), (1, .int (iI (acc))), (2, .int (iI ((i : Nat) : Int)))] → W pg l en (headSpec wsX3_planOne rm_X3_planOne).room s m args below meth cd H locs 0 0 Q (F0 m 4 ls []) := by
    intro dd
    induction dd with
    | zero => intro i acc hd_4 hi_4; omega
    | succ dd ih_4 =>
      intro i acc hd_4 hi_4 e_acc H locs ls hP hS hl
      subst e_acc
      cases n_1 : bestB σ i with
      | none =>
        rw [n_1] at hl
        have hl : lv_has ls 4 [(0, .ref (ad 10 (0))), (1, .int (iI (-1))), (2, .int (iI ((i : Nat) : Int)))] := hl
        refine lv_iload_n hx hb dX3_planOne_4 rfl (lv_at hl 2 rfl) ?_
        refine lv_aload_n hx hb dX3_planOne_5 rfl (lv_at hl 0 rfl) ?_
        refine fw_get (ci := 3) (v := .int (iI ((σ 8 0 : Nat) : Int))) (C := RX3) (T := TX3) (N := 13) hx hb hts hinX3 hown hK hP WM_10 rfl 1 (by decide) hf36 (fun _ h9 => h9) rfl dX3_planOne_6 ?_
        have hn_2 := hI.n
        have hm_3 := hI.lim
        refine fw_icmp_ge (x := ((i : Nat) : Int)) (y := ((σ 8 0 : Nat) : Int)) (tgt := 75) hx hb dX3_planOne_9 (by decide) ⟨by omega, by omega⟩ ⟨by omega, by omega⟩ (fun c_4 => ?_) (fun c_4 => ?_)
        · refine lv_iload_n hx hb dX3_planOne_75 rfl (lv_at hl 1 rfl) ?_
          refine lv_iconst (v := iI (-1)) hx hb dX3_planOne_76 (by decide) ?_
          refine fw_icmp_ne (x := (-1)) (y := (-1)) (tgt := 82) hx hb dX3_planOne_77 (by decide) ⟨by omega, by omega⟩ ⟨by omega, by omega⟩ (fun c_5 => absurd c_5 (by decide)) (fun c_5 => ?_)
          refine lv_iconst (v := iI ((0 : Nat) : Int)) hx hb dX3_planOne_80 (by decide) ?_
          subst hQ
          exact fw_zret hx hb hr hlocks dX3_planOne_81 hP hS rfl (Or.inl ⟨by rw [show i = σ 8 0 from by omega] at n_1; exact n_1, rfl, rfl⟩)
        · refine lv_aload_n hx hb dX3_planOne_12 rfl (lv_at hl 0 rfl) ?_
          refine lv_iload_n hx hb dX3_planOne_13 rfl (lv_at hl 2 rfl) ?_
          refine fw_cVi (As := [.int (iI ((i : Nat) : Int))]) (rest := []) ⟨hx, hb, hml, hown, hts⟩ (c_X3_choicesOf l D cA z ad σ th u a μ i hI (by omega)) (cwV 1 hts gX3_planOne_X3_choicesOf rfl rfl rfl (by decide +kernel) ⟨Nat.le_of_ble_eq_true rfl, Nat.le_of_ble_eq_true rfl⟩) WM_10 rfl rfl hl.1 (Nat.le_of_ble_eq_true rfl) dX3_planOne_14 ⟨Nat.le_of_ble_eq_true rfl, Nat.le_of_ble_eq_true rfl⟩ hK hP hS rfl (fun r w' H locs q_6 hP hS => ?_)
          obtain ⟨rfl, rfl⟩ := q_6
          have hh_7 := choices_le (σ := σ) (c := i)
          refine fw_if_ne (x := ((choices σ i : Nat) : Int)) (tgt := 23) hx hb dX3_planOne_17 (by decide) ⟨by omega, by omega⟩ (fun c_8 => ?_) (fun c_8 => ?_)
          · refine lv_iload_n hx hb dX3_planOne_23 rfl (lv_at hl 1 rfl) ?_
            refine lv_iconst (v := iI (-1)) hx hb dX3_planOne_24 (by decide) ?_
            refine fw_icmp_eq (x := (-1)) (y := (-1)) (tgt := 67) hx hb dX3_planOne_25 (by decide) ⟨by omega, by omega⟩ ⟨by omega, by omega⟩ (fun c_9 => ?_) (fun c_9 => absurd c_9 (by decide))
            refine lv_iload_n hx hb dX3_planOne_67 rfl (lv_at hl 2 rfl) ?_
            refine lv_istore_n (lv' := [(1, .int (iI ((i : Nat) : Int))), (0, .ref (ad 10 (0))), (2, .int (iI ((i : Nat) : Int)))]) hx hb dX3_planOne_68 rfl hl (by decide) rfl (fun ls hl => ?_)
            refine fw_iincN (x := i) (lv' := [(2, .int (iI ((i + 1 : Nat) : Int))), (1, .int (iI ((i : Nat) : Int))), (0, .ref (ad 10 (0)))]) hx hb dX3_planOne_69 hl (k := 2) rfl (by decide) rfl (fun ls hl => ?_)
            refine lv_goto (tgt := 4) hx hb dX3_planOne_72 (by decide) ?_
            exact ih_4 (i + 1) _ (by omega) (by omega) (by rw [show bestB σ (i + 1) = some i from (bestB_take (choices_pos.mp (by omega)) (fun b hb => by rw [n_1] at hb; cases hb))]; rfl) H locs ls hP hS (lv_sub hl [2, 1, 0] rfl)
          · refine lv_goto (tgt := 69) hx hb dX3_planOne_20 (by decide) ?_
            refine fw_iincN (x := i) (lv' := [(2, .int (iI ((i + 1 : Nat) : Int))), (0, .ref (ad 10 (0))), (1, .int (iI (-1)))]) hx hb dX3_planOne_69 hl (k := 2) rfl (by decide) rfl (fun ls hl => ?_)
            refine lv_goto (tgt := 4) hx hb dX3_planOne_72 (by decide) ?_
            exact ih_4 (i + 1) _ (by omega) (by omega) (by rw [show bestB σ (i + 1) = none from (bestB_no n_1 (fun q => by have := choices_pos.mpr q; omega))]; rfl) H locs ls hP hS (lv_sub hl [1, 2, 0] rfl)
      | some bx =>
        rw [n_1] at hl
        have hl : lv_has ls 4 [(0, .ref (ad 10 (0))), (1, .int (iI ((bx : Nat) : Int))), (2, .int (iI ((i : Nat) : Int)))] := hl
        have n_1b := bestB_lt n_1
        have hc_10 := hI.c bx
        refine lv_iload_n hx hb dX3_planOne_4 rfl (lv_at hl 2 rfl) ?_
        refine lv_aload_n hx hb dX3_planOne_5 rfl (lv_at hl 0 rfl) ?_
        refine fw_get (ci := 3) (v := .int (iI ((σ 8 0 : Nat) : Int))) (C := RX3) (T := TX3) (N := 13) hx hb hts hinX3 hown hK hP WM_10 rfl 1 (by decide) hf36 (fun _ h9 => h9) rfl dX3_planOne_6 ?_
        have hn_11 := hI.n
        have hm_12 := hI.lim
        refine fw_icmp_ge (x := ((i : Nat) : Int)) (y := ((σ 8 0 : Nat) : Int)) (tgt := 75) hx hb dX3_planOne_9 (by decide) ⟨by omega, by omega⟩ ⟨by omega, by omega⟩ (fun c_13 => ?_) (fun c_13 => ?_)
        · refine lv_iload_n hx hb dX3_planOne_75 rfl (lv_at hl 1 rfl) ?_
          refine lv_iconst (v := iI (-1)) hx hb dX3_planOne_76 (by decide) ?_
          refine fw_icmp_ne (x := ((bx : Nat) : Int)) (y := (-1)) (tgt := 82) hx hb dX3_planOne_77 (by decide) ⟨by omega, by omega⟩ ⟨by omega, by omega⟩ (fun c_14 => ?_) (fun c_14 => ?_)
          · have hbb : bestB σ (σ 8 0) = some bx := by (rw [show i = σ 8 0 from by omega] at n_1; exact n_1)
            have hbl := bestB_lt hbb
            obtain ⟨sx, hsx⟩ := best_both hbb
            refine lv_iconst (v := iI (-1)) hx hb dX3_planOne_82 (by decide) ?_
            refine lv_istore_n (lv' := [(2, .int (iI (-1))), (0, .ref (ad 10 (0))), (1, .int (iI ((bx : Nat) : Int)))]) hx hb dX3_planOne_83 rfl hl (by decide) rfl (fun ls hl => ?_)
            refine lv_iconst (v := iI ((0 : Nat) : Int)) hx hb dX3_planOne_84 (by decide) ?_
            refine lv_istore_n (lv' := [(3, .int (iI ((0 : Nat) : Int))), (2, .int (iI (-1))), (0, .ref (ad 10 (0))), (1, .int (iI ((bx : Nat) : Int)))]) hx hb dX3_planOne_85 rfl hl (by decide) rfl (fun ls hl => ?_)
            have loop_86 : ∀ (dd k : Nat) (ac2 : Int), 30 + 1 ≤ k + dd → k ≤ 30 → ac2 = optI (bestS σ bx k) → ∀ (H : Heap) (locs : List Loc) (ls : Array Slot), fw_P D vwCl z ad (WM cA ad σ th u a μ) H → va_S (fw_A z) s.heap H locs → lv_has ls 4 [(0, .ref (ad 10 (0))), (1, .int (iI ((bx : Nat) : Int))), (2, .int (iI (ac2))), (3, .int (iI ((k : Nat) : Int)))] → W pg l en (headSpec wsX3_planOne rm_X3_planOne).room s m args below meth cd H locs 0 0 Q (F0 m 86 ls []) := by
              intro dd
              induction dd with
              | zero => intro k ac2 hd_86 hi_86; omega
              | succ dd ih_86 =>
                intro k ac2 hd_86 hi_86 e_ac2 H locs ls hP hS hl
                subst e_ac2
                cases n_15 : bestS σ bx k with
                | none =>
                  rw [n_15] at hl
                  have hl : lv_has ls 4 [(0, .ref (ad 10 (0))), (1, .int (iI ((bx : Nat) : Int))), (2, .int (iI (-1))), (3, .int (iI ((k : Nat) : Int)))] := hl
                  refine lv_iload_n hx hb dX3_planOne_86 rfl (lv_at hl 3 rfl) ?_
                  refine lv_bipush (v := iI ((30 : Nat) : Int)) hx hb dX3_planOne_87 (by decide) ?_
                  refine fw_icmp_ge (x := ((k : Nat) : Int)) (y := ((30 : Nat) : Int)) (tgt := 124) hx hb dX3_planOne_89 (by decide) ⟨by omega, by omega⟩ ⟨by omega, by omega⟩ (fun c_17 => ?_) (fun c_17 => ?_)
                  · rw [show k = 30 from by omega] at n_15
                    exact absurd (hsx.symm.trans n_15) (by intro q; cases q)
                  · refine lv_aload_n hx hb dX3_planOne_92 rfl (lv_at hl 0 rfl) ?_
                    refine lv_iload_n hx hb dX3_planOne_93 rfl (lv_at hl 1 rfl) ?_
                    refine lv_iload_n hx hb dX3_planOne_94 rfl (lv_at hl 3 rfl) ?_
                    refine fw_cVi (As := [.int (iI ((bx : Nat) : Int)), .int (iI ((k : Nat) : Int))]) (rest := []) ⟨hx, hb, hml, hown, hts⟩ (c_X3_isAllowed l D cA z ad σ th u a μ bx k hI (by omega) (by omega)) (cwV 2 hts gX3_planOne_X3_isAllowed rfl rfl rfl (by decide +kernel) ⟨Nat.le_of_ble_eq_true rfl, Nat.le_of_ble_eq_true rfl⟩) WM_10 rfl rfl hl.1 (Nat.le_of_ble_eq_true rfl) dX3_planOne_95 ⟨Nat.le_of_ble_eq_true rfl, Nat.le_of_ble_eq_true rfl⟩ hK hP hS rfl (fun r w' H locs q_18 hP hS => ?_)
                    obtain ⟨rfl, rfl⟩ := q_18
                    refine fw_if_eqB (x := cB (allowed σ bx k)) (tgt := 118) hx hb dX3_planOne_98 (by decide) (fun c_19 => ?_) (fun c_19 => ?_)
                    · replace c_19 := cB_f.mp c_19
                      refine fw_iincN (x := k) (lv' := [(3, .int (iI ((k + 1 : Nat) : Int))), (0, .ref (ad 10 (0))), (1, .int (iI ((bx : Nat) : Int))), (2, .int (iI (-1)))]) hx hb dX3_planOne_118 hl (k := 3) rfl (by decide) rfl (fun ls hl => ?_)
                      refine lv_goto (tgt := 86) hx hb dX3_planOne_121 (by decide) ?_
                      exact ih_86 (k + 1) _ (by omega) (by omega) (by rw [show bestS σ bx (k + 1) = none from (bestS_no n_15 (by assumption))]; rfl) H locs ls hP hS (lv_sub hl [1, 2, 3, 0] rfl)
                    · replace c_19 := cB_t.mp c_19
                      refine lv_iload_n hx hb dX3_planOne_101 rfl (lv_at hl 2 rfl) ?_
                      refine lv_iconst (v := iI (-1)) hx hb dX3_planOne_102 (by decide) ?_
                      refine fw_icmp_eq (x := (-1)) (y := (-1)) (tgt := 116) hx hb dX3_planOne_103 (by decide) ⟨by omega, by omega⟩ ⟨by omega, by omega⟩ (fun c_20 => ?_) (fun c_20 => absurd c_20 (by decide))
                      refine lv_iload_n hx hb dX3_planOne_116 rfl (lv_at hl 3 rfl) ?_
                      refine lv_istore_n (lv' := [(2, .int (iI ((k : Nat) : Int))), (0, .ref (ad 10 (0))), (1, .int (iI ((bx : Nat) : Int))), (3, .int (iI ((k : Nat) : Int)))]) hx hb dX3_planOne_117 rfl hl (by decide) rfl (fun ls hl => ?_)
                      refine fw_iincN (x := k) (lv' := [(3, .int (iI ((k + 1 : Nat) : Int))), (2, .int (iI ((k : Nat) : Int))), (0, .ref (ad 10 (0))), (1, .int (iI ((bx : Nat) : Int)))]) hx hb dX3_planOne_118 hl (k := 3) rfl (by decide) rfl (fun ls hl => ?_)
                      refine lv_goto (tgt := 86) hx hb dX3_planOne_121 (by decide) ?_
                      exact ih_86 (k + 1) _ (by omega) (by omega) (by rw [show bestS σ bx (k + 1) = some k from (bestS_take (by assumption) (fun b hb => by rw [n_15] at hb; cases hb))]; rfl) H locs ls hP hS (lv_sub hl [2, 3, 1, 0] rfl)
                | some b_16 =>
                  rw [n_15] at hl
                  have hl : lv_has ls 4 [(0, .ref (ad 10 (0))), (1, .int (iI ((bx : Nat) : Int))), (2, .int (iI ((b_16 : Nat) : Int))), (3, .int (iI ((k : Nat) : Int)))] := hl
                  have n_15b := bestS_lt n_15
                  refine lv_iload_n hx hb dX3_planOne_86 rfl (lv_at hl 3 rfl) ?_
                  refine lv_bipush (v := iI ((30 : Nat) : Int)) hx hb dX3_planOne_87 (by decide) ?_
                  refine fw_icmp_ge (x := ((k : Nat) : Int)) (y := ((30 : Nat) : Int)) (tgt := 124) hx hb dX3_planOne_89 (by decide) ⟨by omega, by omega⟩ ⟨by omega, by omega⟩ (fun c_21 => ?_) (fun c_21 => ?_)
                  · rw [show k = 30 from by omega] at n_15
                    refine lv_aload_n hx hb dX3_planOne_124 rfl (lv_at hl 0 rfl) ?_
                    refine lv_iload_n hx hb dX3_planOne_125 rfl (lv_at hl 1 rfl) ?_
                    refine lv_iload_n hx hb dX3_planOne_126 rfl (lv_at hl 2 rfl) ?_
                    refine fw_cVv (As := [.int (iI ((bx : Nat) : Int)), .int (iI ((b_16 : Nat) : Int))]) (rest := []) ⟨hx, hb, hml, hown, hts⟩ (c_X3_put l D cA z ad σ th u a μ bx b_16 hI (by omega) (by omega)) (cwV 2 hts gX3_planOne_X3_put rfl rfl rfl (by decide +kernel) ⟨Nat.le_of_ble_eq_true rfl, Nat.le_of_ble_eq_true rfl⟩) WM_10 rfl rfl hl.1 (Nat.le_of_ble_eq_true rfl) dX3_planOne_127 ⟨Nat.le_of_ble_eq_true rfl, Nat.le_of_ble_eq_true rfl⟩ hK hP hS rfl (fun w' H locs q_22 hP hS => ?_)
                    subst q_22
                    refine lv_iconst (v := iI ((1 : Nat) : Int)) hx hb dX3_planOne_130 (by decide) ?_
                    subst hQ
                    exact fw_zret hx hb hr hlocks dX3_planOne_131 hP hS rfl (Or.inr ⟨bx, b_16, hbb, n_15, rfl, rfl⟩)
                  · refine lv_aload_n hx hb dX3_planOne_92 rfl (lv_at hl 0 rfl) ?_
                    refine lv_iload_n hx hb dX3_planOne_93 rfl (lv_at hl 1 rfl) ?_
                    refine lv_iload_n hx hb dX3_planOne_94 rfl (lv_at hl 3 rfl) ?_
                    refine fw_cVi (As := [.int (iI ((bx : Nat) : Int)), .int (iI ((k : Nat) : Int))]) (rest := []) ⟨hx, hb, hml, hown, hts⟩ (c_X3_isAllowed l D cA z ad σ th u a μ bx k hI (by omega) (by omega)) (cwV 2 hts gX3_planOne_X3_isAllowed rfl rfl rfl (by decide +kernel) ⟨Nat.le_of_ble_eq_true rfl, Nat.le_of_ble_eq_true rfl⟩) WM_10 rfl rfl hl.1 (Nat.le_of_ble_eq_true rfl) dX3_planOne_95 ⟨Nat.le_of_ble_eq_true rfl, Nat.le_of_ble_eq_true rfl⟩ hK hP hS rfl (fun r w' H locs q_23 hP hS => ?_)
                    obtain ⟨rfl, rfl⟩ := q_23
                    refine fw_if_eqB (x := cB (allowed σ bx k)) (tgt := 118) hx hb dX3_planOne_98 (by decide) (fun c_24 => ?_) (fun c_24 => ?_)
                    · replace c_24 := cB_f.mp c_24
                      refine fw_iincN (x := k) (lv' := [(3, .int (iI ((k + 1 : Nat) : Int))), (0, .ref (ad 10 (0))), (1, .int (iI ((bx : Nat) : Int))), (2, .int (iI ((b_16 : Nat) : Int)))]) hx hb dX3_planOne_118 hl (k := 3) rfl (by decide) rfl (fun ls hl => ?_)
                      refine lv_goto (tgt := 86) hx hb dX3_planOne_121 (by decide) ?_
                      exact ih_86 (k + 1) _ (by omega) (by omega) (by rw [show bestS σ bx (k + 1) = some b_16 from (bestS_no n_15 (by assumption))]; rfl) H locs ls hP hS (lv_sub hl [1, 2, 3, 0] rfl)
                    · replace c_24 := cB_t.mp c_24
                      refine lv_iload_n hx hb dX3_planOne_101 rfl (lv_at hl 2 rfl) ?_
                      refine lv_iconst (v := iI (-1)) hx hb dX3_planOne_102 (by decide) ?_
                      refine fw_icmp_eq (x := ((b_16 : Nat) : Int)) (y := (-1)) (tgt := 116) hx hb dX3_planOne_103 (by decide) ⟨by omega, by omega⟩ ⟨by omega, by omega⟩ (fun c_25 => ?_) (fun c_25 => ?_)
                      · exfalso; omega
                      · refine lv_aload_n hx hb dX3_planOne_106 rfl (lv_at hl 0 rfl) ?_
                        refine lv_iload_n hx hb dX3_planOne_107 rfl (lv_at hl 1 rfl) ?_
                        refine lv_iload_n hx hb dX3_planOne_108 rfl (lv_at hl 3 rfl) ?_
                        refine lv_iload_n hx hb dX3_planOne_109 rfl (lv_at hl 2 rfl) ?_
                        refine fw_cVi (As := [.int (iI ((bx : Nat) : Int)), .int (iI ((k : Nat) : Int)), .int (iI ((b_16 : Nat) : Int))]) (rest := []) ⟨hx, hb, hml, hown, hts⟩ (c_X3_isBetter l D cA z ad σ th u a μ bx k b_16 hI (by omega) (by omega) (by omega)) (cwV 3 hts gX3_planOne_X3_isBetter rfl rfl rfl (by decide +kernel) ⟨Nat.le_of_ble_eq_true rfl, Nat.le_of_ble_eq_true rfl⟩) WM_10 rfl rfl hl.1 (Nat.le_of_ble_eq_true rfl) dX3_planOne_110 ⟨Nat.le_of_ble_eq_true rfl, Nat.le_of_ble_eq_true rfl⟩ hK hP hS rfl (fun r w' H locs q_26 hP hS => ?_)
                        obtain ⟨rfl, rfl⟩ := q_26
                        refine fw_if_eqB (x := cB (better σ bx k b_16)) (tgt := 118) hx hb dX3_planOne_113 (by decide) (fun c_27 => ?_) (fun c_27 => ?_)
                        · replace c_27 := cB_f.mp c_27
                          refine fw_iincN (x := k) (lv' := [(3, .int (iI ((k + 1 : Nat) : Int))), (0, .ref (ad 10 (0))), (1, .int (iI ((bx : Nat) : Int))), (2, .int (iI ((b_16 : Nat) : Int)))]) hx hb dX3_planOne_118 hl (k := 3) rfl (by decide) rfl (fun ls hl => ?_)
                          refine lv_goto (tgt := 86) hx hb dX3_planOne_121 (by decide) ?_
                          exact ih_86 (k + 1) _ (by omega) (by omega) (by rw [show bestS σ bx (k + 1) = some b_16 from (bestS_nb n_15 (by assumption))]; rfl) H locs ls hP hS (lv_sub hl [1, 2, 3, 0] rfl)
                        · replace c_27 := cB_t.mp c_27
                          refine lv_iload_n hx hb dX3_planOne_116 rfl (lv_at hl 3 rfl) ?_
                          refine lv_istore_n (lv' := [(2, .int (iI ((k : Nat) : Int))), (0, .ref (ad 10 (0))), (1, .int (iI ((bx : Nat) : Int))), (3, .int (iI ((k : Nat) : Int)))]) hx hb dX3_planOne_117 rfl hl (by decide) rfl (fun ls hl => ?_)
                          refine fw_iincN (x := k) (lv' := [(3, .int (iI ((k + 1 : Nat) : Int))), (2, .int (iI ((k : Nat) : Int))), (0, .ref (ad 10 (0))), (1, .int (iI ((bx : Nat) : Int)))]) hx hb dX3_planOne_118 hl (k := 3) rfl (by decide) rfl (fun ls hl => ?_)
                          refine lv_goto (tgt := 86) hx hb dX3_planOne_121 (by decide) ?_
                          exact ih_86 (k + 1) _ (by omega) (by omega) (by rw [show bestS σ bx (k + 1) = some k from (bestS_take (by assumption) (fun b hb => by rw [n_15] at hb; cases hb; assumption))]; rfl) H locs ls hP hS (lv_sub hl [2, 3, 1, 0] rfl)
            exact loop_86 (30 + 1) (0) _ (by omega) (by omega) (by rfl) H locs ls hP hS (lv_sub hl [2, 3, 1, 0] rfl)
          · exfalso; omega
        · refine lv_aload_n hx hb dX3_planOne_12 rfl (lv_at hl 0 rfl) ?_
          refine lv_iload_n hx hb dX3_planOne_13 rfl (lv_at hl 2 rfl) ?_
          refine fw_cVi (As := [.int (iI ((i : Nat) : Int))]) (rest := []) ⟨hx, hb, hml, hown, hts⟩ (c_X3_choicesOf l D cA z ad σ th u a μ i hI (by omega)) (cwV 1 hts gX3_planOne_X3_choicesOf rfl rfl rfl (by decide +kernel) ⟨Nat.le_of_ble_eq_true rfl, Nat.le_of_ble_eq_true rfl⟩) WM_10 rfl rfl hl.1 (Nat.le_of_ble_eq_true rfl) dX3_planOne_14 ⟨Nat.le_of_ble_eq_true rfl, Nat.le_of_ble_eq_true rfl⟩ hK hP hS rfl (fun r w' H locs q_28 hP hS => ?_)
          obtain ⟨rfl, rfl⟩ := q_28
          have hh_29 := choices_le (σ := σ) (c := i)
          refine fw_if_ne (x := ((choices σ i : Nat) : Int)) (tgt := 23) hx hb dX3_planOne_17 (by decide) ⟨by omega, by omega⟩ (fun c_30 => ?_) (fun c_30 => ?_)
          · refine lv_iload_n hx hb dX3_planOne_23 rfl (lv_at hl 1 rfl) ?_
            refine lv_iconst (v := iI (-1)) hx hb dX3_planOne_24 (by decide) ?_
            refine fw_icmp_eq (x := ((bx : Nat) : Int)) (y := (-1)) (tgt := 67) hx hb dX3_planOne_25 (by decide) ⟨by omega, by omega⟩ ⟨by omega, by omega⟩ (fun c_31 => ?_) (fun c_31 => ?_)
            · exfalso; omega
            · refine lv_aload_n hx hb dX3_planOne_28 rfl (lv_at hl 0 rfl) ?_
              refine lv_iload_n hx hb dX3_planOne_29 rfl (lv_at hl 2 rfl) ?_
              refine fw_cVi (As := [.int (iI ((i : Nat) : Int))]) (rest := []) ⟨hx, hb, hml, hown, hts⟩ (c_X3_to l D cA z ad σ th u a μ i hI.b (by omega)) (cwV 1 hts gX3_planOne_X3_to rfl rfl rfl (by decide +kernel) ⟨Nat.le_of_ble_eq_true rfl, Nat.le_of_ble_eq_true rfl⟩) WM_10 rfl rfl hl.1 (Nat.le_of_ble_eq_true rfl) dX3_planOne_30 ⟨Nat.le_of_ble_eq_true rfl, Nat.le_of_ble_eq_true rfl⟩ hK hP hS rfl (fun r w' H locs q_32 hP hS => ?_)
              obtain ⟨rfl, rfl⟩ := q_32
              have hc_33 := hI.c i
              refine lv_aload_n hx hb dX3_planOne_33 rfl (lv_at hl 0 rfl) ?_
              refine lv_iload_n hx hb dX3_planOne_34 rfl (lv_at hl 1 rfl) ?_
              refine fw_cVi (As := [.int (iI ((bx : Nat) : Int))]) (rest := [.int (iI ((σ 2 i : Nat) : Int))]) ⟨hx, hb, hml, hown, hts⟩ (c_X3_to l D cA z ad σ th u a μ bx hI.b (by omega)) (cwV 1 hts gX3_planOne_X3_to rfl rfl rfl (by decide +kernel) ⟨Nat.le_of_ble_eq_true rfl, Nat.le_of_ble_eq_true rfl⟩) WM_10 rfl rfl hl.1 (Nat.le_of_ble_eq_true rfl) dX3_planOne_35 ⟨Nat.le_of_ble_eq_true rfl, Nat.le_of_ble_eq_true rfl⟩ hK hP hS rfl (fun r w' H locs q_34 hP hS => ?_)
              obtain ⟨rfl, rfl⟩ := q_34
              refine fw_icmp_gt (x := ((σ 2 i : Nat) : Int)) (y := ((σ 2 bx : Nat) : Int)) (tgt := 67) hx hb dX3_planOne_38 (by decide) ⟨by omega, by omega⟩ ⟨by omega, by omega⟩ (fun c_35 => ?_) (fun c_35 => ?_)
              · refine lv_iload_n hx hb dX3_planOne_67 rfl (lv_at hl 2 rfl) ?_
                refine lv_istore_n (lv' := [(1, .int (iI ((i : Nat) : Int))), (0, .ref (ad 10 (0))), (2, .int (iI ((i : Nat) : Int)))]) hx hb dX3_planOne_68 rfl hl (by decide) rfl (fun ls hl => ?_)
                refine fw_iincN (x := i) (lv' := [(2, .int (iI ((i + 1 : Nat) : Int))), (1, .int (iI ((i : Nat) : Int))), (0, .ref (ad 10 (0)))]) hx hb dX3_planOne_69 hl (k := 2) rfl (by decide) rfl (fun ls hl => ?_)
                refine lv_goto (tgt := 4) hx hb dX3_planOne_72 (by decide) ?_
                exact ih_4 (i + 1) _ (by omega) (by omega) (by rw [show bestB σ (i + 1) = some i from (bestB_take (choices_pos.mp (by omega)) (fun b hb => by rw [n_1] at hb; cases hb; unfold pref; omega))]; rfl) H locs ls hP hS (lv_sub hl [2, 1, 0] rfl)
              · refine lv_aload_n hx hb dX3_planOne_41 rfl (lv_at hl 0 rfl) ?_
                refine lv_iload_n hx hb dX3_planOne_42 rfl (lv_at hl 2 rfl) ?_
                refine fw_cVi (As := [.int (iI ((i : Nat) : Int))]) (rest := []) ⟨hx, hb, hml, hown, hts⟩ (c_X3_to l D cA z ad σ th u a μ i hI.b (by omega)) (cwV 1 hts gX3_planOne_X3_to rfl rfl rfl (by decide +kernel) ⟨Nat.le_of_ble_eq_true rfl, Nat.le_of_ble_eq_true rfl⟩) WM_10 rfl rfl hl.1 (Nat.le_of_ble_eq_true rfl) dX3_planOne_43 ⟨Nat.le_of_ble_eq_true rfl, Nat.le_of_ble_eq_true rfl⟩ hK hP hS rfl (fun r w' H locs q_36 hP hS => ?_)
                obtain ⟨rfl, rfl⟩ := q_36
                refine lv_aload_n hx hb dX3_planOne_46 rfl (lv_at hl 0 rfl) ?_
                refine lv_iload_n hx hb dX3_planOne_47 rfl (lv_at hl 1 rfl) ?_
                refine fw_cVi (As := [.int (iI ((bx : Nat) : Int))]) (rest := [.int (iI ((σ 2 i : Nat) : Int))]) ⟨hx, hb, hml, hown, hts⟩ (c_X3_to l D cA z ad σ th u a μ bx hI.b (by omega)) (cwV 1 hts gX3_planOne_X3_to rfl rfl rfl (by decide +kernel) ⟨Nat.le_of_ble_eq_true rfl, Nat.le_of_ble_eq_true rfl⟩) WM_10 rfl rfl hl.1 (Nat.le_of_ble_eq_true rfl) dX3_planOne_48 ⟨Nat.le_of_ble_eq_true rfl, Nat.le_of_ble_eq_true rfl⟩ hK hP hS rfl (fun r w' H locs q_37 hP hS => ?_)
                obtain ⟨rfl, rfl⟩ := q_37
                refine fw_icmp_ne (x := ((σ 2 i : Nat) : Int)) (y := ((σ 2 bx : Nat) : Int)) (tgt := 69) hx hb dX3_planOne_51 (by decide) ⟨by omega, by omega⟩ ⟨by omega, by omega⟩ (fun c_38 => ?_) (fun c_38 => ?_)
                · refine fw_iincN (x := i) (lv' := [(2, .int (iI ((i + 1 : Nat) : Int))), (0, .ref (ad 10 (0))), (1, .int (iI ((bx : Nat) : Int)))]) hx hb dX3_planOne_69 hl (k := 2) rfl (by decide) rfl (fun ls hl => ?_)
                  refine lv_goto (tgt := 4) hx hb dX3_planOne_72 (by decide) ?_
                  exact ih_4 (i + 1) _ (by omega) (by omega) (by rw [show bestB σ (i + 1) = some bx from (bestB_nb n_1 (by unfold pref; omega))]; rfl) H locs ls hP hS (lv_sub hl [1, 2, 0] rfl)
                · refine lv_aload_n hx hb dX3_planOne_54 rfl (lv_at hl 0 rfl) ?_
                  refine lv_iload_n hx hb dX3_planOne_55 rfl (lv_at hl 2 rfl) ?_
                  refine fw_cVi (As := [.int (iI ((i : Nat) : Int))]) (rest := []) ⟨hx, hb, hml, hown, hts⟩ (c_X3_heavy l D cA z ad σ th u a μ i hI.b (by omega)) (cwV 1 hts gX3_planOne_X3_heavy rfl rfl rfl (by decide +kernel) ⟨Nat.le_of_ble_eq_true rfl, Nat.le_of_ble_eq_true rfl⟩) WM_10 rfl rfl hl.1 (Nat.le_of_ble_eq_true rfl) dX3_planOne_56 ⟨Nat.le_of_ble_eq_true rfl, Nat.le_of_ble_eq_true rfl⟩ hK hP hS rfl (fun r w' H locs q_39 hP hS => ?_)
                  obtain ⟨rfl, rfl⟩ := q_39
                  refine lv_aload_n hx hb dX3_planOne_59 rfl (lv_at hl 0 rfl) ?_
                  refine lv_iload_n hx hb dX3_planOne_60 rfl (lv_at hl 1 rfl) ?_
                  refine fw_cVi (As := [.int (iI ((bx : Nat) : Int))]) (rest := [.int (iI ((σ 0 i : Nat) : Int))]) ⟨hx, hb, hml, hown, hts⟩ (c_X3_heavy l D cA z ad σ th u a μ bx hI.b (by omega)) (cwV 1 hts gX3_planOne_X3_heavy rfl rfl rfl (by decide +kernel) ⟨Nat.le_of_ble_eq_true rfl, Nat.le_of_ble_eq_true rfl⟩) WM_10 rfl rfl hl.1 (Nat.le_of_ble_eq_true rfl) dX3_planOne_61 ⟨Nat.le_of_ble_eq_true rfl, Nat.le_of_ble_eq_true rfl⟩ hK hP hS rfl (fun r w' H locs q_40 hP hS => ?_)
                  obtain ⟨rfl, rfl⟩ := q_40
                  refine fw_icmp_le (x := ((σ 0 i : Nat) : Int)) (y := ((σ 0 bx : Nat) : Int)) (tgt := 69) hx hb dX3_planOne_64 (by decide) ⟨by omega, by omega⟩ ⟨by omega, by omega⟩ (fun c_41 => ?_) (fun c_41 => ?_)
                  · refine fw_iincN (x := i) (lv' := [(2, .int (iI ((i + 1 : Nat) : Int))), (0, .ref (ad 10 (0))), (1, .int (iI ((bx : Nat) : Int)))]) hx hb dX3_planOne_69 hl (k := 2) rfl (by decide) rfl (fun ls hl => ?_)
                    refine lv_goto (tgt := 4) hx hb dX3_planOne_72 (by decide) ?_
                    exact ih_4 (i + 1) _ (by omega) (by omega) (by rw [show bestB σ (i + 1) = some bx from (bestB_nb n_1 (by unfold pref; omega))]; rfl) H locs ls hP hS (lv_sub hl [1, 2, 0] rfl)
                  · refine lv_iload_n hx hb dX3_planOne_67 rfl (lv_at hl 2 rfl) ?_
                    refine lv_istore_n (lv' := [(1, .int (iI ((i : Nat) : Int))), (0, .ref (ad 10 (0))), (2, .int (iI ((i : Nat) : Int)))]) hx hb dX3_planOne_68 rfl hl (by decide) rfl (fun ls hl => ?_)
                    refine fw_iincN (x := i) (lv' := [(2, .int (iI ((i + 1 : Nat) : Int))), (1, .int (iI ((i : Nat) : Int))), (0, .ref (ad 10 (0)))]) hx hb dX3_planOne_69 hl (k := 2) rfl (by decide) rfl (fun ls hl => ?_)
                    refine lv_goto (tgt := 4) hx hb dX3_planOne_72 (by decide) ?_
                    exact ih_4 (i + 1) _ (by omega) (by omega) (by rw [show bestB σ (i + 1) = some i from (bestB_take (choices_pos.mp (by omega)) (fun b hb => by rw [n_1] at hb; cases hb; unfold pref; omega))]; rfl) H locs ls hP hS (lv_sub hl [2, 1, 0] rfl)
          · refine lv_goto (tgt := 69) hx hb dX3_planOne_20 (by decide) ?_
            refine fw_iincN (x := i) (lv' := [(2, .int (iI ((i + 1 : Nat) : Int))), (0, .ref (ad 10 (0))), (1, .int (iI ((bx : Nat) : Int)))]) hx hb dX3_planOne_69 hl (k := 2) rfl (by decide) rfl (fun ls hl => ?_)
            refine lv_goto (tgt := 4) hx hb dX3_planOne_72 (by decide) ?_
            exact ih_4 (i + 1) _ (by omega) (by omega) (by rw [show bestB σ (i + 1) = some bx from (bestB_no n_1 (fun q => by have := choices_pos.mpr q; omega))]; rfl) H locs ls hP hS (lv_sub hl [1, 2, 0] rfl)
  exact loop_4 (σ 8 0 + 1) (0) _ (by omega) (by omega) (by rfl) H locs ls hP hS (lv_sub hl [2, 1, 0] rfl)

abbrev rm_X3_plan : Room := { frames := 6, cells := 0, slots := 0, locals := 136 }
abbrev po_X3_plan (cA : Nat → ClassId) (ad : fw_Ad) (σ : St) (th u a : Int) (μ : fw_W) : Int32 → fw_W → Prop := fun r w' => ∃ k, endsP σ k ∧ r = iI ((k : Nat) : Int) ∧ w' = WM cA ad (itP σ k) ((0 : Nat) : Int) u a μ
set_option maxHeartbeats 4000000 in
set_option maxRecDepth 100000 in
theorem c_X3_plan (l : Launch) (D : va_G) (cA : Nat → ClassId) (z : Nat) (ad : fw_Ad) (σ : St) (th u a : Int) (μ : fw_W) (hI : Inv σ) : Met l yX3_plan wsX3_plan rm_X3_plan (va_Pc [.ref (ad 10 (0))] (fw_Pre D vwCl (fw_T cA) z ad (WM cA ad σ th u a μ))) (fw_Qi D vwCl z ad (po_X3_plan cA ad σ th u a μ)) 0 0 (fw_A z) := by
  refine Met.ofW (cc := cX3_plan) (maxL := 2) (ret := (some .int)) (by decide) rfl ?_
  intro pg en s m args below meth cd s₁ B hml hv
  obtain ⟨hargs, hP, hK⟩ := hv
  have hx := B.exec
  have hb := B.bytes
  have hr := B.returns
  have hts := atoms_spec (ws := wsX3_plan) B.pre
  have hown : s.vm.findClass RX3 = some m.cls := findClass_of_methodNamed B.named
  have hlocks := B.notSynchronized
  have hinX3 : ∀ w ∈ u_ws RX3 TX3 13, w ∈ wsX3_plan := by decide +kernel
  have hf33 := hts (.fieldLink RX3 33 "StowagePlanModel" "thrown" "I") (by decide +kernel)
  have hl := lv_entry ([.ref (ad 10 (0))]) (n := 2) (Nat.le_of_ble_eq_true rfl)
  have hent : entryFrame m args 2 = entryFrame m ([.ref (ad 10 (0))] : List Value).toArray 2 := by rw [hargs]
  rw [hent, lg_entry_eq]
  generalize (lg_sl ([.ref (ad 10 (0))]) ++ List.replicate (2 - (lg_sl ([.ref (ad 10 (0))])).length) Slot.unset).toArray = ls at hl ⊢
  have hl : lv_has ls 2 [(0, .ref (ad 10 (0)))] := hl
  generalize hQ : MQ below (fw_Qi D vwCl z ad (po_X3_plan cA ad σ th u a μ)) args s 0 0 (fw_A z) = Q
  generalize hH : s.heap = H at hP ⊢
  have hS : va_S (fw_A z) s.heap H [] := by rw [← hH]; exact va_S.rf
  generalize ([] : List Loc) = locs at hS ⊢
  refine lv_aload_n hx hb dX3_plan_0 rfl (lv_at hl 0 rfl) ?_
  refine lv_iconst (v := iI ((0 : Nat) : Int)) hx hb dX3_plan_1 (by decide) ?_
  refine fw_put (ci := 3) (v := .int (iI ((0 : Nat) : Int))) (ty := .int) (C := RX3) (T := TX3) (N := 13) hx hb hts hinX3 tyX3 tyX3_ok nmX3 hown hK hP hS WM_10 rfl 0 (by decide) hf33 (fun _ h9 => h9) rfl (by decide +kernel) rfl rfl (Nat.le_of_ble_eq_true rfl) dX3_plan_2 (fun H locs hP hS => ?_)
  have hP := wM_put (th' := ((0 : Nat) : Int)) (u' := u) (a' := a) hP rfl
  refine lv_iconst (v := iI ((0 : Nat) : Int)) hx hb dX3_plan_5 (by decide) ?_
  refine lv_istore_n (lv' := [(1, .int (iI ((0 : Nat) : Int))), (0, .ref (ad 10 (0)))]) hx hb dX3_plan_6 rfl hl (by decide) rfl (fun ls hl => ?_)
  have loop_7 : ∀ (dd k : Nat), 40 + 1 ≤ k + dd → k ≤ 40 → (stepsP σ k) → ∀ (H : Heap) (locs : List Loc) (ls : Array Slot), fw_P D vwCl z ad (WM cA ad (itP σ k) (((0 : Nat) : Int)) u a μ) H → va_S (fw_A z) s.heap H locs → lv_has ls 2 [(0, .ref (ad 10 (0))), (1, .int (iI ((k : Nat) : Int)))] → W pg l en (headSpec wsX3_plan rm_X3_plan).room s m args below meth cd H locs 0 0 Q (F0 m 7 ls []) := by
    intro dd
    induction dd with
    | zero => intro k hd_7 hi_7; omega
    | succ dd ih_7 =>
      intro k hd_7 hi_7 hst H locs ls hP hS hl
      have hik := (stepsP_inv hI hst).1
      refine lv_aload_n hx hb dX3_plan_7 rfl (lv_at hl 0 rfl) ?_
      refine fw_cVi (As := []) (rest := []) ⟨hx, hb, hml, hown, hts⟩ (c_X3_planOne l D cA z ad (itP σ k) (((0 : Nat) : Int)) u a μ hik) (cwV 0 hts gX3_plan_X3_planOne rfl rfl rfl (by decide +kernel) ⟨Nat.le_of_ble_eq_true rfl, Nat.le_of_ble_eq_true rfl⟩) WM_10 rfl rfl hl.1 (Nat.le_of_ble_eq_true rfl) dX3_plan_8 ⟨Nat.le_of_ble_eq_true rfl, Nat.le_of_ble_eq_true rfl⟩ hK hP hS rfl (fun r w' H locs q_1 hP hS => ?_)
      rcases q_1 with ⟨hb9, rfl, rfl⟩ | ⟨c9, s9, hb9, hs9, rfl, rfl⟩
      · refine fw_if_eq (x := ((0 : Nat) : Int)) (tgt := 20) hx hb dX3_plan_11 (by decide) ⟨by omega, by omega⟩ (fun c_2 => ?_) (fun c_2 => absurd c_2 (by decide))
        refine lv_iload_n hx hb dX3_plan_20 rfl (lv_at hl 1 rfl) ?_
        subst hQ
        exact fw_iret hx hb hr hlocks dX3_plan_21 hP hS ⟨k, ⟨hst, stepP_none hb9⟩, rfl, rfl⟩
      · refine fw_if_eq (x := ((1 : Nat) : Int)) (tgt := 20) hx hb dX3_plan_11 (by decide) ⟨by omega, by omega⟩ (fun c_3 => absurd c_3 (by decide)) (fun c_3 => ?_)
        refine fw_iincN (x := k) (lv' := [(1, .int (iI ((k + 1 : Nat) : Int))), (0, .ref (ad 10 (0)))]) hx hb dX3_plan_14 hl (k := 1) rfl (by decide) rfl (fun ls hl => ?_)
        refine lv_goto (tgt := 7) hx hb dX3_plan_17 (by decide) ?_
        have hle9 := stepsP_le hI (stepsP_s hst (stepP_some hb9 hs9))
        exact ih_7 (k + 1) (by omega) (by omega) (stepsP_s hst (stepP_some hb9 hs9)) H locs ls (by rw [itP_s (stepP_some hb9 hs9)]; exact hP) hS (lv_sub hl [1, 0] rfl)
  exact loop_7 (40 + 1) (0) (by omega) (by omega) (by intro j hj; omega) H locs ls hP hS (lv_sub hl [1, 0] rfl)
