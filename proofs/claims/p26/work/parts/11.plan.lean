abbrev rm_X2_isWithin : Room := { frames := 0, cells := 0, slots := 0, locals := 0 }
abbrev po_X2_isWithin (cA : Nat → ClassId) (ad : fw_Ad) (w : fw_W) (x lo hi : Int) : Int32 → fw_W → Prop := fun r w' => r = iI (bI (decide (lo ≤ x ∧ x ≤ hi))) ∧ w' = w
set_option maxHeartbeats 4000000 in
set_option maxRecDepth 100000 in
theorem c_X2_isWithin (l : Launch) (D : va_G) (cA : Nat → ClassId) (z : Nat) (ad : fw_Ad) (w : fw_W) (x lo hi : Int) (hx0 : -2147483648 ≤ x ∧ x ≤ 2147483647) (hlo : -2147483648 ≤ lo ∧ lo ≤ 2147483647) (hhi : -2147483648 ≤ hi ∧ hi ≤ 2147483647) : Met l yX2_isWithin wsX2_isWithin rm_X2_isWithin (va_Pc [.int (iI (x)), .int (iI (lo)), .int (iI (hi))] (fw_Pre D vwCl (fw_T cA) z ad (w))) (fw_Qi D vwCl z ad (po_X2_isWithin cA ad w x lo hi)) 0 0 (fw_A z) := by
  refine Met.ofW (cc := cX2_isWithin) (maxL := 3) (ret := (some .boolean)) (by decide) rfl ?_
  intro pg en s m args below meth cd s₁ B hml hv
  obtain ⟨hargs, hP, hK⟩ := hv
  have hx := B.exec
  have hb := B.bytes
  have hr := B.returns
  have hts := atoms_spec (ws := wsX2_isWithin) B.pre
  have hown : s.vm.findClass RX2 = some m.cls := findClass_of_methodNamed B.named
  have hlocks := B.notSynchronized
  have hl := lv_entry ([.int (iI (x)), .int (iI (lo)), .int (iI (hi))]) (n := 3) (Nat.le_of_ble_eq_true rfl)
  have hent : entryFrame m args 3 = entryFrame m ([.int (iI (x)), .int (iI (lo)), .int (iI (hi))] : List Value).toArray 3 := by rw [hargs]
  rw [hent, lg_entry_eq]
  generalize (lg_sl ([.int (iI (x)), .int (iI (lo)), .int (iI (hi))]) ++ List.replicate (3 - (lg_sl ([.int (iI (x)), .int (iI (lo)), .int (iI (hi))])).length) Slot.unset).toArray = ls at hl ⊢
  have hl : lv_has ls 3 [(0, .int (iI (x))), (1, .int (iI (lo))), (2, .int (iI (hi)))] := hl
  generalize hQ : MQ below (fw_Qi D vwCl z ad (po_X2_isWithin cA ad w x lo hi)) args s 0 0 (fw_A z) = Q
  generalize hH : s.heap = H at hP ⊢
  have hS : va_S (fw_A z) s.heap H [] := by rw [← hH]; exact va_S.rf
  generalize ([] : List Loc) = locs at hS ⊢
  refine lv_iload_n hx hb dX2_isWithin_0 rfl (lv_at hl 0 rfl) ?_
  refine lv_iload_n hx hb dX2_isWithin_1 rfl (lv_at hl 1 rfl) ?_
  refine fw_icmp_lt (x := (x)) (y := (lo)) (tgt := 14) hx hb dX2_isWithin_2 (by decide) ⟨by omega, by omega⟩ ⟨by omega, by omega⟩ (fun c_1 => ?_) (fun c_1 => ?_)
  · refine lv_iconst (v := iI ((0 : Nat) : Int)) hx hb dX2_isWithin_14 (by decide) ?_
    subst hQ
    exact fw_zret hx hb hr hlocks dX2_isWithin_15 hP hS rfl ⟨congrArg iI (bI_df (by omega)), rfl⟩
  · refine lv_iload_n hx hb dX2_isWithin_5 rfl (lv_at hl 0 rfl) ?_
    refine lv_iload_n hx hb dX2_isWithin_6 rfl (lv_at hl 2 rfl) ?_
    refine fw_icmp_gt (x := (x)) (y := (hi)) (tgt := 14) hx hb dX2_isWithin_7 (by decide) ⟨by omega, by omega⟩ ⟨by omega, by omega⟩ (fun c_2 => ?_) (fun c_2 => ?_)
    · refine lv_iconst (v := iI ((0 : Nat) : Int)) hx hb dX2_isWithin_14 (by decide) ?_
      subst hQ
      exact fw_zret hx hb hr hlocks dX2_isWithin_15 hP hS rfl ⟨congrArg iI (bI_df (by omega)), rfl⟩
    · refine lv_iconst (v := iI ((1 : Nat) : Int)) hx hb dX2_isWithin_10 (by decide) ?_
      refine lv_goto (tgt := 15) hx hb dX2_isWithin_11 (by decide) ?_
      subst hQ
      exact fw_zret hx hb hr hlocks dX2_isWithin_15 hP hS rfl ⟨congrArg iI (bI_dt (by omega)), rfl⟩

abbrev rm_X2_boxNumbered : Room := { frames := 0, cells := 0, slots := 0, locals := 0 }
abbrev po_X2_boxNumbered (cA : Nat → ClassId) (ad : fw_Ad) (σ : St) (μ : fw_W) (x : Int) : Option Nat → fw_W → Prop := fun r w' => r = (boxAt σ x).map (ad 5) ∧ w' = WC cA ad σ μ
set_option maxHeartbeats 4000000 in
set_option maxRecDepth 100000 in
theorem c_X2_boxNumbered (l : Launch) (D : va_G) (cA : Nat → ClassId) (z : Nat) (ad : fw_Ad) (σ : St) (μ : fw_W) (x : Int) (hI : Inv σ) (hx0 : -2147483648 ≤ x ∧ x ≤ 2147483647) : Met l yX2_boxNumbered wsX2_boxNumbered rm_X2_boxNumbered (va_Pc [.ref (ad 0 (0)), .int (iI (x))] (fw_Pre D vwCl (fw_T cA) z ad (WC cA ad σ μ))) (fw_Qq D vwCl z ad (po_X2_boxNumbered cA ad σ μ x)) 0 0 (fw_A z) := by
  refine Met.ofW (cc := cX2_boxNumbered) (maxL := 2) (ret := (some (.object "StowagePlan$Box"))) (by decide) rfl ?_
  intro pg en s m args below meth cd s₁ B hml hv
  obtain ⟨hargs, hP, hK⟩ := hv
  have hx := B.exec
  have hb := B.bytes
  have hr := B.returns
  have hts := atoms_spec (ws := wsX2_boxNumbered) B.pre
  have hown : s.vm.findClass RX2 = some m.cls := findClass_of_methodNamed B.named
  have hlocks := B.notSynchronized
  have hinX2 : ∀ w ∈ u_ws RX2 TX2 8, w ∈ wsX2_boxNumbered := by decide +kernel
  have hf11 := hts (.fieldLink RX2 11 "StowagePlan" "boxes" "[LStowagePlan$Box;") (by decide +kernel)
  have hl := lv_entry ([.ref (ad 0 (0)), .int (iI (x))]) (n := 2) (Nat.le_of_ble_eq_true rfl)
  have hent : entryFrame m args 2 = entryFrame m ([.ref (ad 0 (0)), .int (iI (x))] : List Value).toArray 2 := by rw [hargs]
  rw [hent, lg_entry_eq]
  generalize (lg_sl ([.ref (ad 0 (0)), .int (iI (x))]) ++ List.replicate (2 - (lg_sl ([.ref (ad 0 (0)), .int (iI (x))])).length) Slot.unset).toArray = ls at hl ⊢
  have hl : lv_has ls 2 [(0, .ref (ad 0 (0))), (1, .int (iI (x)))] := hl
  generalize hQ : MQ below (fw_Qq D vwCl z ad (po_X2_boxNumbered cA ad σ μ x)) args s 0 0 (fw_A z) = Q
  generalize hH : s.heap = H at hP ⊢
  have hS : va_S (fw_A z) s.heap H [] := by rw [← hH]; exact va_S.rf
  generalize ([] : List Loc) = locs at hS ⊢
  refine lv_iload_n hx hb dX2_boxNumbered_0 rfl (lv_at hl 1 rfl) ?_
  refine fw_if_lt (x := (x)) (tgt := 13) hx hb dX2_boxNumbered_1 (by decide) ⟨by omega, by omega⟩ (fun c_1 => ?_) (fun c_1 => ?_)
  · refine lv_null hx hb dX2_boxNumbered_13 ?_
    subst hQ
    exact fw_nret hx hb hr (Or.inl ⟨_, rfl⟩) hlocks dX2_boxNumbered_14 hP hS ⟨by unfold boxAt; rw [if_neg (by omega)]; rfl, rfl⟩
  · refine lv_iload_n hx hb dX2_boxNumbered_4 rfl (lv_at hl 1 rfl) ?_
    refine lv_aload_n hx hb dX2_boxNumbered_5 rfl (lv_at hl 0 rfl) ?_
    refine fw_get (ci := 2) (v := .ref (ad 1 (0))) (C := RX2) (T := TX2) (N := 8) hx hb hts hinX2 hown hK hP WC_0 rfl 0 (by decide) hf11 (fun _ h9 => h9) rfl dX2_boxNumbered_6 ?_
    have hn_2 := hI.n
    have hm_3 := hI.lim
    refine fw_alen (v := iI ((40 : Nat) : Int)) hx hb hK hP WC_1 2 rfl rfl dX2_boxNumbered_9 ?_
    refine fw_icmp_lt (x := (x)) (y := ((40 : Nat) : Int)) (tgt := 15) hx hb dX2_boxNumbered_10 (by decide) ⟨by omega, by omega⟩ ⟨by omega, by omega⟩ (fun c_4 => ?_) (fun c_4 => ?_)
    · obtain ⟨j, rfl⟩ : ∃ j : Nat, x = (j : Int) := ⟨Int.toNat x, by omega⟩
      refine lv_aload_n hx hb dX2_boxNumbered_15 rfl (lv_at hl 0 rfl) ?_
      refine fw_get (ci := 2) (v := .ref (ad 1 (0))) (C := RX2) (T := TX2) (N := 8) hx hb hts hinX2 hown hK hP WC_0 rfl 0 (by decide) hf11 (fun _ h9 => h9) rfl dX2_boxNumbered_16 ?_
      refine lv_iload_n hx hb dX2_boxNumbered_19 rfl (lv_at hl 1 rfl) ?_
      refine fw_aldN (j := j) hx hb hK hP WC_1 2 rfl (by omega) (by decide) dX2_boxNumbered_20 ?_
      by_cases n_5 : j < σ 8 0
      · refine fw_top (v' := .ref (ad 5 (j))) (by rw [if_pos n_5]; rfl) ?_
        subst hQ
        exact fw_rret hx hb hr (Or.inl ⟨_, rfl⟩) hlocks dX2_boxNumbered_21 hP hS ⟨by unfold boxAt; rw [if_pos (by omega)]; rfl, rfl⟩
      · refine fw_top (v' := .null) (by rw [if_neg n_5]; rfl) ?_
        subst hQ
        exact fw_nret hx hb hr (Or.inl ⟨_, rfl⟩) hlocks dX2_boxNumbered_21 hP hS ⟨by unfold boxAt; rw [if_neg (by omega)]; rfl, rfl⟩
    · refine lv_null hx hb dX2_boxNumbered_13 ?_
      subst hQ
      exact fw_nret hx hb hr (Or.inl ⟨_, rfl⟩) hlocks dX2_boxNumbered_14 hP hS ⟨by unfold boxAt; rw [if_neg (by omega)]; rfl, rfl⟩

abbrev rm_X2_stackAt : Room := { frames := 1, cells := 0, slots := 0, locals := 22 }
abbrev po_X2_stackAt (cA : Nat → ClassId) (ad : fw_Ad) (σ : St) (μ : fw_W) (b q : Int) : Option Nat → fw_W → Prop := fun r w' => r = (stkAt b q).map (ad 3) ∧ w' = WC cA ad σ μ
set_option maxHeartbeats 4000000 in
set_option maxRecDepth 100000 in
theorem c_X2_stackAt (l : Launch) (D : va_G) (cA : Nat → ClassId) (z : Nat) (ad : fw_Ad) (σ : St) (μ : fw_W) (b q : Int) (hI : Inv σ) (hb0 : -2147483648 ≤ b ∧ b ≤ 2147483647) (hr0 : -2147483648 ≤ q ∧ q ≤ 2147483647) : Met l yX2_stackAt wsX2_stackAt rm_X2_stackAt (va_Pc [.ref (ad 0 (0)), .int (iI (b)), .int (iI (q))] (fw_Pre D vwCl (fw_T cA) z ad (WC cA ad σ μ))) (fw_Qq D vwCl z ad (po_X2_stackAt cA ad σ μ b q)) 0 0 (fw_A z) := by
  refine Met.ofW (cc := cX2_stackAt) (maxL := 4) (ret := (some (.object "StowagePlan$Stack"))) (by decide) rfl ?_
  intro pg en s m args below meth cd s₁ B hml hv
  obtain ⟨hargs, hP, hK⟩ := hv
  have hx := B.exec
  have hb := B.bytes
  have hr := B.returns
  have hts := atoms_spec (ws := wsX2_stackAt) B.pre
  have hown : s.vm.findClass RX2 = some m.cls := findClass_of_methodNamed B.named
  have hlocks := B.notSynchronized
  have hinX2 : ∀ w ∈ u_ws RX2 TX2 8, w ∈ wsX2_stackAt := by decide +kernel
  have hf17 := hts (.fieldLink RX2 17 "StowagePlan" "stacks" "[LStowagePlan$Stack;") (by decide +kernel)
  have hl := lv_entry ([.ref (ad 0 (0)), .int (iI (b)), .int (iI (q))]) (n := 4) (Nat.le_of_ble_eq_true rfl)
  have hent : entryFrame m args 4 = entryFrame m ([.ref (ad 0 (0)), .int (iI (b)), .int (iI (q))] : List Value).toArray 4 := by rw [hargs]
  rw [hent, lg_entry_eq]
  generalize (lg_sl ([.ref (ad 0 (0)), .int (iI (b)), .int (iI (q))]) ++ List.replicate (4 - (lg_sl ([.ref (ad 0 (0)), .int (iI (b)), .int (iI (q))])).length) Slot.unset).toArray = ls at hl ⊢
  have hl : lv_has ls 4 [(0, .ref (ad 0 (0))), (1, .int (iI (b))), (2, .int (iI (q)))] := hl
  generalize hQ : MQ below (fw_Qq D vwCl z ad (po_X2_stackAt cA ad σ μ b q)) args s 0 0 (fw_A z) = Q
  generalize hH : s.heap = H at hP ⊢
  have hS : va_S (fw_A z) s.heap H [] := by rw [← hH]; exact va_S.rf
  generalize ([] : List Loc) = locs at hS ⊢
  refine lv_iload_n hx hb dX2_stackAt_0 rfl (lv_at hl 1 rfl) ?_
  refine lv_iconst (v := iI ((0 : Nat) : Int)) hx hb dX2_stackAt_1 (by decide) ?_
  refine lv_iconst (v := iI ((5 : Nat) : Int)) hx hb dX2_stackAt_2 (by decide) ?_
  refine fw_cSi (As := [.int (iI (b)), .int (iI ((0 : Nat) : Int)), .int (iI ((5 : Nat) : Int))]) (rest := []) ⟨hx, hb, hml, hown, hts⟩ (c_X2_isWithin l D cA z ad (WC cA ad σ μ) (b) ((0 : Nat) : Int) ((5 : Nat) : Int) ⟨by omega, by omega⟩ ⟨by omega, by omega⟩ ⟨by omega, by omega⟩) (va_cwS 3 hts gX2_stackAt_X2_isWithin rfl rfl rfl (by decide +kernel) ⟨Nat.le_of_ble_eq_true rfl, Nat.le_of_ble_eq_true rfl⟩) rfl hl.1 (Nat.le_of_ble_eq_true rfl) dX2_stackAt_3 ⟨Nat.le_of_ble_eq_true rfl, Nat.le_of_ble_eq_true rfl⟩ hK hP hS rfl (fun r w' H locs q_1 hP hS => ?_)
  obtain ⟨rfl, rfl⟩ := q_1
  refine fw_if_eqB (x := decide (((0 : Nat) : Int) ≤ (b) ∧ (b) ≤ ((5 : Nat) : Int))) (tgt := 18) hx hb dX2_stackAt_6 (by decide) (fun c_2 => ?_) (fun c_2 => ?_)
  · replace c_2 := of_decide_eq_false c_2
    refine lv_null hx hb dX2_stackAt_18 ?_
    subst hQ
    exact fw_nret hx hb hr (Or.inl ⟨_, rfl⟩) hlocks dX2_stackAt_19 hP hS ⟨by unfold stkAt; rw [if_neg (by omega)]; rfl, rfl⟩
  · replace c_2 := of_decide_eq_true c_2
    refine lv_iload_n hx hb dX2_stackAt_9 rfl (lv_at hl 2 rfl) ?_
    refine lv_iconst (v := iI ((0 : Nat) : Int)) hx hb dX2_stackAt_10 (by decide) ?_
    refine lv_iconst (v := iI ((4 : Nat) : Int)) hx hb dX2_stackAt_11 (by decide) ?_
    refine fw_cSi (As := [.int (iI (q)), .int (iI ((0 : Nat) : Int)), .int (iI ((4 : Nat) : Int))]) (rest := []) ⟨hx, hb, hml, hown, hts⟩ (c_X2_isWithin l D cA z ad (WC cA ad σ μ) (q) ((0 : Nat) : Int) ((4 : Nat) : Int) ⟨by omega, by omega⟩ ⟨by omega, by omega⟩ ⟨by omega, by omega⟩) (va_cwS 3 hts gX2_stackAt_X2_isWithin rfl rfl rfl (by decide +kernel) ⟨Nat.le_of_ble_eq_true rfl, Nat.le_of_ble_eq_true rfl⟩) rfl hl.1 (Nat.le_of_ble_eq_true rfl) dX2_stackAt_12 ⟨Nat.le_of_ble_eq_true rfl, Nat.le_of_ble_eq_true rfl⟩ hK hP hS rfl (fun r w' H locs q_3 hP hS => ?_)
    obtain ⟨rfl, rfl⟩ := q_3
    refine fw_if_neB (x := decide (((0 : Nat) : Int) ≤ (q) ∧ (q) ≤ ((4 : Nat) : Int))) (tgt := 20) hx hb dX2_stackAt_15 (by decide) (fun c_4 => ?_) (fun c_4 => ?_)
    · replace c_4 := of_decide_eq_true c_4
      refine lv_iload_n hx hb dX2_stackAt_20 rfl (lv_at hl 1 rfl) ?_
      refine lv_iconst (v := iI ((5 : Nat) : Int)) hx hb dX2_stackAt_21 (by decide) ?_
      refine fw_imul (a := (b)) (b := ((5 : Nat) : Int)) hx hb dX2_stackAt_22 ?_
      refine lv_iload_n hx hb dX2_stackAt_23 rfl (lv_at hl 2 rfl) ?_
      refine fw_iadd (a := ((b) * ((5 : Nat) : Int))) (b := (q)) hx hb dX2_stackAt_24 ?_
      refine fw_topI (b := ((5 * Int.toNat b + Int.toNat q : Nat) : Int)) (by omega) ?_
      refine lv_istore_n (lv' := [(3, .int (iI ((5 * Int.toNat b + Int.toNat q : Nat) : Int))), (0, .ref (ad 0 (0))), (1, .int (iI (b))), (2, .int (iI (q)))]) hx hb dX2_stackAt_25 rfl hl (by decide) rfl (fun ls hl => ?_)
      refine lv_iload_n hx hb dX2_stackAt_26 rfl (lv_at hl 0 rfl) ?_
      refine fw_if_lt (x := ((5 * Int.toNat b + Int.toNat q : Nat) : Int)) (tgt := 39) hx hb dX2_stackAt_27 (by decide) ⟨by omega, by omega⟩ (fun c_5 => ?_) (fun c_5 => ?_)
      · exfalso; omega
      · refine lv_iload_n hx hb dX2_stackAt_30 rfl (lv_at hl 0 rfl) ?_
        refine lv_aload_n hx hb dX2_stackAt_31 rfl (lv_at hl 1 rfl) ?_
        refine fw_get (ci := 2) (v := .ref (ad 2 (0))) (C := RX2) (T := TX2) (N := 8) hx hb hts hinX2 hown hK hP WC_0 rfl 1 (by decide) hf17 (fun _ h9 => h9) rfl dX2_stackAt_32 ?_
        have hn_6 := hI.n
        have hm_7 := hI.lim
        refine fw_alen (v := iI ((30 : Nat) : Int)) hx hb hK hP WC_2 3 rfl rfl dX2_stackAt_35 ?_
        refine fw_icmp_lt (x := ((5 * Int.toNat b + Int.toNat q : Nat) : Int)) (y := ((30 : Nat) : Int)) (tgt := 41) hx hb dX2_stackAt_36 (by decide) ⟨by omega, by omega⟩ ⟨by omega, by omega⟩ (fun c_8 => ?_) (fun c_8 => ?_)
        · refine lv_aload_n hx hb dX2_stackAt_41 rfl (lv_at hl 1 rfl) ?_
          refine fw_get (ci := 2) (v := .ref (ad 2 (0))) (C := RX2) (T := TX2) (N := 8) hx hb hts hinX2 hown hK hP WC_0 rfl 1 (by decide) hf17 (fun _ h9 => h9) rfl dX2_stackAt_42 ?_
          refine lv_iload_n hx hb dX2_stackAt_45 rfl (lv_at hl 0 rfl) ?_
          refine fw_aldN (j := 5 * Int.toNat b + Int.toNat q) hx hb hK hP WC_2 3 rfl (by omega) (by decide) dX2_stackAt_46 ?_
          refine fw_top (v' := .ref (ad 3 (5 * Int.toNat b + Int.toNat q))) rfl ?_
          subst hQ
          exact fw_rret hx hb hr (Or.inl ⟨_, rfl⟩) hlocks dX2_stackAt_47 hP hS ⟨by unfold stkAt; rw [if_pos (by omega)]; rfl, rfl⟩
        · exfalso; omega
    · replace c_4 := of_decide_eq_false c_4
      refine lv_null hx hb dX2_stackAt_18 ?_
      subst hQ
      exact fw_nret hx hb hr (Or.inl ⟨_, rfl⟩) hlocks dX2_stackAt_19 hP hS ⟨by unfold stkAt; rw [if_neg (by omega)]; rfl, rfl⟩

abbrev rm_X2_numberOf_n : Room := { frames := 0, cells := 0, slots := 0, locals := 0 }
abbrev po_X2_numberOf_n (cA : Nat → ClassId) (ad : fw_Ad) (σ : St) (μ : fw_W) : Int32 → fw_W → Prop := fun r w' => r = iI (-1) ∧ w' = WC cA ad σ μ
set_option maxHeartbeats 4000000 in
set_option maxRecDepth 100000 in
theorem c_X2_numberOf_n (l : Launch) (D : va_G) (cA : Nat → ClassId) (z : Nat) (ad : fw_Ad) (σ : St) (μ : fw_W)  : Met l yX2_numberOf wsX2_numberOf rm_X2_numberOf_n (va_Pc [.null] (fw_Pre D vwCl (fw_T cA) z ad (WC cA ad σ μ))) (fw_Qi D vwCl z ad (po_X2_numberOf_n cA ad σ μ)) 0 0 (fw_A z) := by
  refine Met.ofW (cc := cX2_numberOf) (maxL := 1) (ret := (some .int)) (by decide) rfl ?_
  intro pg en s m args below meth cd s₁ B hml hv
  obtain ⟨hargs, hP, hK⟩ := hv
  have hx := B.exec
  have hb := B.bytes
  have hr := B.returns
  have hts := atoms_spec (ws := wsX2_numberOf) B.pre
  have hown : s.vm.findClass RX2 = some m.cls := findClass_of_methodNamed B.named
  have hlocks := B.notSynchronized
  have hl := lv_entry ([.null]) (n := 1) (Nat.le_of_ble_eq_true rfl)
  have hent : entryFrame m args 1 = entryFrame m ([.null] : List Value).toArray 1 := by rw [hargs]
  rw [hent, lg_entry_eq]
  generalize (lg_sl ([.null]) ++ List.replicate (1 - (lg_sl ([.null])).length) Slot.unset).toArray = ls at hl ⊢
  have hl : lv_has ls 1 [(0, .null)] := hl
  generalize hQ : MQ below (fw_Qi D vwCl z ad (po_X2_numberOf_n cA ad σ μ)) args s 0 0 (fw_A z) = Q
  generalize hH : s.heap = H at hP ⊢
  have hS : va_S (fw_A z) s.heap H [] := by rw [← hH]; exact va_S.rf
  generalize ([] : List Loc) = locs at hS ⊢
  refine lv_aload_nN hx hb dX2_numberOf_0 rfl (lv_at hl 0 rfl) ?_
  refine lv_ifnonnullN hx hb dX2_numberOf_1 ?_
  refine lv_iconst (v := iI (-1)) hx hb dX2_numberOf_4 (by decide) ?_
  refine lv_goto (tgt := 12) hx hb dX2_numberOf_5 (by decide) ?_
  subst hQ
  exact fw_iret hx hb hr hlocks dX2_numberOf_12 hP hS ⟨rfl, rfl⟩

abbrev rm_X2_numberOf : Room := { frames := 0, cells := 0, slots := 0, locals := 0 }
abbrev po_X2_numberOf (cA : Nat → ClassId) (ad : fw_Ad) (σ : St) (μ : fw_W) (c : Nat) : Int32 → fw_W → Prop := fun r w' => r = iI ((c : Nat) : Int) ∧ w' = WC cA ad σ μ
set_option maxHeartbeats 4000000 in
set_option maxRecDepth 100000 in
theorem c_X2_numberOf (l : Launch) (D : va_G) (cA : Nat → ClassId) (z : Nat) (ad : fw_Ad) (σ : St) (μ : fw_W) (c : Nat) (hc : c < σ 8 0) : Met l yX2_numberOf wsX2_numberOf rm_X2_numberOf (va_Pc [.ref (ad 5 (c))] (fw_Pre D vwCl (fw_T cA) z ad (WC cA ad σ μ))) (fw_Qi D vwCl z ad (po_X2_numberOf cA ad σ μ c)) 0 0 (fw_A z) := by
  refine Met.ofW (cc := cX2_numberOf) (maxL := 1) (ret := (some .int)) (by decide) rfl ?_
  intro pg en s m args below meth cd s₁ B hml hv
  obtain ⟨hargs, hP, hK⟩ := hv
  have hx := B.exec
  have hb := B.bytes
  have hr := B.returns
  have hts := atoms_spec (ws := wsX2_numberOf) B.pre
  have hown : s.vm.findClass RX2 = some m.cls := findClass_of_methodNamed B.named
  have hlocks := B.notSynchronized
  have hinX0 : ∀ w ∈ u_ws RX0 TX0 8, w ∈ wsX2_numberOf := by decide +kernel
  have hf216 := hts (.fieldLink RX2 216 "StowagePlan$Box" "number" "I") (by decide +kernel)
  have hl := lv_entry ([.ref (ad 5 (c))]) (n := 1) (Nat.le_of_ble_eq_true rfl)
  have hent : entryFrame m args 1 = entryFrame m ([.ref (ad 5 (c))] : List Value).toArray 1 := by rw [hargs]
  rw [hent, lg_entry_eq]
  generalize (lg_sl ([.ref (ad 5 (c))]) ++ List.replicate (1 - (lg_sl ([.ref (ad 5 (c))])).length) Slot.unset).toArray = ls at hl ⊢
  have hl : lv_has ls 1 [(0, .ref (ad 5 (c)))] := hl
  generalize hQ : MQ below (fw_Qi D vwCl z ad (po_X2_numberOf cA ad σ μ c)) args s 0 0 (fw_A z) = Q
  generalize hH : s.heap = H at hP ⊢
  have hS : va_S (fw_A z) s.heap H [] := by rw [← hH]; exact va_S.rf
  generalize ([] : List Loc) = locs at hS ⊢
  refine lv_aload_n hx hb dX2_numberOf_0 rfl (lv_at hl 0 rfl) ?_
  refine lv_ifnonnull (tgt := 8) hx hb dX2_numberOf_1 (by decide) ?_
  refine lv_aload_n hx hb dX2_numberOf_8 rfl (lv_at hl 0 rfl) ?_
  refine fw_get (ci := 0) (v := .int (iI ((c : Nat) : Int))) (C := RX0) (T := TX0) (N := 8) hx hb hts hinX0 hown hK hP (WC_5 hc) rfl 0 (by decide) hf216 (fun _ h9 => h9) rfl dX2_numberOf_9 ?_
  subst hQ
  exact fw_iret hx hb hr hlocks dX2_numberOf_12 hP hS ⟨rfl, rfl⟩

abbrev rm_X2_isApartFromOthers : Room := { frames := 2, cells := 0, slots := 0, locals := 43 }
abbrev po_X2_isApartFromOthers (cA : Nat → ClassId) (ad : fw_Ad) (σ : St) (μ : fw_W) (c k : Nat) : Int32 → fw_W → Prop := fun r w' => r = iI (bI (cB (lonely σ c k))) ∧ w' = WC cA ad σ μ
set_option maxHeartbeats 4000000 in
set_option maxRecDepth 100000 in
theorem c_X2_isApartFromOthers (l : Launch) (D : va_G) (cA : Nat → ClassId) (z : Nat) (ad : fw_Ad) (σ : St) (μ : fw_W) (c k : Nat) (hI : Inv σ) (hc : c < σ 8 0) (hk : k < 30) : Met l yX2_isApartFromOthers wsX2_isApartFromOthers rm_X2_isApartFromOthers (va_Pc [.ref (ad 0 (0)), .ref (ad 5 (c)), .ref (ad 3 (k))] (fw_Pre D vwCl (fw_T cA) z ad (WC cA ad σ μ))) (fw_Qi D vwCl z ad (po_X2_isApartFromOthers cA ad σ μ c k)) 0 0 (fw_A z) := by
  refine Met.ofW (cc := cX2_isApartFromOthers) (maxL := 7) (ret := (some .boolean)) (by decide) rfl ?_
  intro pg en s m args below meth cd s₁ B hml hv
  obtain ⟨hargs, hP, hK⟩ := hv
  have hx := B.exec
  have hb := B.bytes
  have hr := B.returns
  have hts := atoms_spec (ws := wsX2_isApartFromOthers) B.pre
  have hown : s.vm.findClass RX2 = some m.cls := findClass_of_methodNamed B.named
  have hlocks := B.notSynchronized
  have hinX0 : ∀ w ∈ u_ws RX0 TX0 8, w ∈ wsX2_isApartFromOthers := by decide +kernel
  have hinX2 : ∀ w ∈ u_ws RX2 TX2 8, w ∈ wsX2_isApartFromOthers := by decide +kernel
  have hf11 := hts (.fieldLink RX2 11 "StowagePlan" "boxes" "[LStowagePlan$Box;") (by decide +kernel)
  have hf165 := hts (.fieldLink RX2 165 "StowagePlan$Box" "stack" "LStowagePlan$Stack;") (by decide +kernel)
  have hf219 := hts (.fieldLink RX2 219 "StowagePlan$Box" "kind" "I") (by decide +kernel)
  have hl := lv_entry ([.ref (ad 0 (0)), .ref (ad 5 (c)), .ref (ad 3 (k))]) (n := 7) (Nat.le_of_ble_eq_true rfl)
  have hent : entryFrame m args 7 = entryFrame m ([.ref (ad 0 (0)), .ref (ad 5 (c)), .ref (ad 3 (k))] : List Value).toArray 7 := by rw [hargs]
  rw [hent, lg_entry_eq]
  generalize (lg_sl ([.ref (ad 0 (0)), .ref (ad 5 (c)), .ref (ad 3 (k))]) ++ List.replicate (7 - (lg_sl ([.ref (ad 0 (0)), .ref (ad 5 (c)), .ref (ad 3 (k))])).length) Slot.unset).toArray = ls at hl ⊢
  have hl : lv_has ls 7 [(0, .ref (ad 0 (0))), (1, .ref (ad 5 (c))), (2, .ref (ad 3 (k)))] := hl
  generalize hQ : MQ below (fw_Qi D vwCl z ad (po_X2_isApartFromOthers cA ad σ μ c k)) args s 0 0 (fw_A z) = Q
  generalize hH : s.heap = H at hP ⊢
  have hS : va_S (fw_A z) s.heap H [] := by rw [← hH]; exact va_S.rf
  generalize ([] : List Loc) = locs at hS ⊢
  refine lv_aload_n hx hb dX2_isApartFromOthers_0 rfl (lv_at hl 1 rfl) ?_
  refine fw_cVi (As := []) (rest := []) ⟨hx, hb, hml, hown, hts⟩ (c_X0_isDangerous l D cA z ad σ μ c hI hc) (cwV 0 hts gX2_isApartFromOthers_X0_isDangerous rfl rfl rfl (by decide +kernel) ⟨Nat.le_of_ble_eq_true rfl, Nat.le_of_ble_eq_true rfl⟩) (WC_5 hc) rfl rfl hl.1 (Nat.le_of_ble_eq_true rfl) dX2_isApartFromOthers_1 ⟨Nat.le_of_ble_eq_true rfl, Nat.le_of_ble_eq_true rfl⟩ hK hP hS rfl (fun r w' H locs q_1 hP hS => ?_)
  obtain ⟨rfl, rfl⟩ := q_1
  have hc_2 := hI.c c
  refine fw_if_neB (x := decide (2 ≤ σ 3 c)) (tgt := 9) hx hb dX2_isApartFromOthers_4 (by decide) (fun c_3 => ?_) (fun c_3 => ?_)
  · replace c_3 := of_decide_eq_true c_3
    refine lv_aload_n hx hb dX2_isApartFromOthers_9 rfl (lv_at hl 0 rfl) ?_
    refine fw_get (ci := 2) (v := .ref (ad 1 (0))) (C := RX2) (T := TX2) (N := 8) hx hb hts hinX2 hown hK hP WC_0 rfl 0 (by decide) hf11 (fun _ h9 => h9) rfl dX2_isApartFromOthers_10 ?_
    have hn_4 := hI.n
    have hm_5 := hI.lim
    refine lv_astore_n (lv' := [(3, .ref (ad 1 (0))), (0, .ref (ad 0 (0))), (1, .ref (ad 5 (c))), (2, .ref (ad 3 (k)))]) hx hb dX2_isApartFromOthers_13 rfl hl (by decide) rfl (fun ls hl => ?_)
    refine lv_aload_n hx hb dX2_isApartFromOthers_14 rfl (lv_at hl 0 rfl) ?_
    refine fw_alen (v := iI ((40 : Nat) : Int)) hx hb hK hP WC_1 2 rfl rfl dX2_isApartFromOthers_15 ?_
    refine lv_istore (lv' := [(4, .int (iI ((40 : Nat) : Int))), (3, .ref (ad 1 (0))), (0, .ref (ad 0 (0))), (1, .ref (ad 5 (c))), (2, .ref (ad 3 (k)))]) hx hb dX2_isApartFromOthers_16 hl (by decide) rfl (fun ls hl => ?_)
    refine lv_iconst (v := iI ((0 : Nat) : Int)) hx hb dX2_isApartFromOthers_18 (by decide) ?_
    refine lv_istore (lv' := [(5, .int (iI ((0 : Nat) : Int))), (4, .int (iI ((40 : Nat) : Int))), (3, .ref (ad 1 (0))), (0, .ref (ad 0 (0))), (1, .ref (ad 5 (c))), (2, .ref (ad 3 (k)))]) hx hb dX2_isApartFromOthers_19 hl (by decide) rfl (fun ls hl => ?_)
    have loop_21 : ∀ (dd i : Nat), 40 + 1 ≤ i + dd → i ≤ 40 → (∀ o, o < i → o < σ 8 0 → ¬ clash σ c k o) → ∀ (H : Heap) (locs : List Loc) (ls : Array Slot), fw_P D vwCl z ad (WC cA ad σ μ) H → va_S (fw_A z) s.heap H locs → lv_has ls 7 [(0, .ref (ad 0 (0))), (1, .ref (ad 5 (c))), (2, .ref (ad 3 (k))), (3, .ref (ad 1 (0))), (4, .int (iI ((40 : Nat) : Int))), (5, .int (iI ((i : Nat) : Int)))] → W pg l en (headSpec wsX2_isApartFromOthers rm_X2_isApartFromOthers).room s m args below meth cd H locs 0 0 Q (F0 m 21 ls []) := by
      intro dd
      induction dd with
      | zero => intro i hd_21 hi_21; omega
      | succ dd ih_21 =>
        intro i hd_21 hi_21 hall H locs ls hP hS hl
        refine lv_iload hx hb dX2_isApartFromOthers_21 (lv_at hl 5 rfl) ?_
        refine lv_iload hx hb dX2_isApartFromOthers_23 (lv_at hl 4 rfl) ?_
        refine fw_icmp_ge (x := ((i : Nat) : Int)) (y := ((40 : Nat) : Int)) (tgt := 87) hx hb dX2_isApartFromOthers_25 (by decide) ⟨by omega, by omega⟩ ⟨by omega, by omega⟩ (fun c_6 => ?_) (fun c_6 => ?_)
        · refine lv_iconst (v := iI ((1 : Nat) : Int)) hx hb dX2_isApartFromOthers_87 (by decide) ?_
          subst hQ
          exact fw_zret hx hb hr hlocks dX2_isApartFromOthers_88 hP hS rfl ⟨congrArg iI (bI_ct (by intro _ o ho; exact hall o (by have := hI.n; omega) ho)), rfl⟩
        · refine lv_aload_n hx hb dX2_isApartFromOthers_28 rfl (lv_at hl 3 rfl) ?_
          refine lv_iload hx hb dX2_isApartFromOthers_29 (lv_at hl 5 rfl) ?_
          refine fw_aldN (j := i) hx hb hK hP WC_1 2 rfl (by omega) (by decide) dX2_isApartFromOthers_31 ?_
          by_cases n_7 : i < σ 8 0
          · refine fw_top (v' := .ref (ad 5 (i))) (by rw [if_pos n_7]; rfl) ?_
            refine lv_astore (lv' := [(6, .ref (ad 5 (i))), (0, .ref (ad 0 (0))), (1, .ref (ad 5 (c))), (2, .ref (ad 3 (k))), (3, .ref (ad 1 (0))), (4, .int (iI ((40 : Nat) : Int))), (5, .int (iI ((i : Nat) : Int)))]) hx hb dX2_isApartFromOthers_32 hl (by decide) rfl (fun ls hl => ?_)
            refine lv_aload hx hb dX2_isApartFromOthers_34 (lv_at hl 0 rfl) ?_
            refine lv_ifnull hx hb dX2_isApartFromOthers_36 ?_
            refine lv_aload hx hb dX2_isApartFromOthers_39 (lv_at hl 0 rfl) ?_
            refine fw_get (ci := 0) (v := va_rf (if σ 4 i = 1 then some (ad 3 (σ 5 i)) else none)) (C := RX0) (T := TX0) (N := 8) hx hb hts hinX0 hown hK hP (WC_5 n_7) rfl 6 (by decide) hf165 (fun _ h9 => h9) rfl dX2_isApartFromOthers_41 ?_
            have hc_8 := hI.c i
            by_cases n_9 : σ 4 i = 1
            · refine fw_top (v' := .ref (ad 3 (σ 5 i))) (by rw [if_pos n_9]; rfl) ?_
              refine lv_ifnull hx hb dX2_isApartFromOthers_44 ?_
              refine lv_aload hx hb dX2_isApartFromOthers_47 (lv_at hl 0 rfl) ?_
              refine fw_cVi (As := []) (rest := []) ⟨hx, hb, hml, hown, hts⟩ (c_X0_isDangerous l D cA z ad σ μ i hI n_7) (cwV 0 hts gX2_isApartFromOthers_X0_isDangerous rfl rfl rfl (by decide +kernel) ⟨Nat.le_of_ble_eq_true rfl, Nat.le_of_ble_eq_true rfl⟩) (WC_5 n_7) rfl rfl hl.1 (Nat.le_of_ble_eq_true rfl) dX2_isApartFromOthers_49 ⟨Nat.le_of_ble_eq_true rfl, Nat.le_of_ble_eq_true rfl⟩ hK hP hS rfl (fun r w' H locs q_10 hP hS => ?_)
              obtain ⟨rfl, rfl⟩ := q_10
              refine fw_if_eqB (x := decide (2 ≤ σ 3 i)) (tgt := 81) hx hb dX2_isApartFromOthers_52 (by decide) (fun c_11 => ?_) (fun c_11 => ?_)
              · replace c_11 := of_decide_eq_false c_11
                refine fw_iincN (x := i) (lv' := [(5, .int (iI ((i + 1 : Nat) : Int))), (6, .ref (ad 5 (i))), (0, .ref (ad 0 (0))), (1, .ref (ad 5 (c))), (2, .ref (ad 3 (k))), (3, .ref (ad 1 (0))), (4, .int (iI ((40 : Nat) : Int)))]) hx hb dX2_isApartFromOthers_81 hl (k := 6) rfl (by decide) rfl (fun ls hl => ?_)
                refine lv_goto (tgt := 21) hx hb dX2_isApartFromOthers_84 (by decide) ?_
                exact ih_21 (i + 1) (by omega) (by omega) (by intro o ho ho2; by_cases e : o = i; (subst e; unfold clash; omega); exact hall o (by omega) ho2) H locs ls hP hS (lv_sub hl [2, 3, 4, 5, 6, 0] rfl)
              · replace c_11 := of_decide_eq_true c_11
                refine lv_aload hx hb dX2_isApartFromOthers_55 (lv_at hl 0 rfl) ?_
                refine fw_get (ci := 0) (v := .int (iI ((σ 3 i : Nat) : Int))) (C := RX0) (T := TX0) (N := 8) hx hb hts hinX0 hown hK hP (WC_5 n_7) rfl 4 (by decide) hf219 (fun _ h9 => h9) rfl dX2_isApartFromOthers_57 ?_
                refine lv_aload_n hx hb dX2_isApartFromOthers_60 rfl (lv_at hl 2 rfl) ?_
                refine fw_get (ci := 0) (v := .int (iI ((σ 3 c : Nat) : Int))) (C := RX0) (T := TX0) (N := 8) hx hb hts hinX0 hown hK hP (WC_5 hc) rfl 4 (by decide) hf219 (fun _ h9 => h9) rfl dX2_isApartFromOthers_61 ?_
                refine fw_icmp_eq (x := ((σ 3 i : Nat) : Int)) (y := ((σ 3 c : Nat) : Int)) (tgt := 81) hx hb dX2_isApartFromOthers_64 (by decide) ⟨by omega, by omega⟩ ⟨by omega, by omega⟩ (fun c_12 => ?_) (fun c_12 => ?_)
                · refine fw_iincN (x := i) (lv' := [(5, .int (iI ((i + 1 : Nat) : Int))), (6, .ref (ad 5 (i))), (0, .ref (ad 0 (0))), (1, .ref (ad 5 (c))), (2, .ref (ad 3 (k))), (3, .ref (ad 1 (0))), (4, .int (iI ((40 : Nat) : Int)))]) hx hb dX2_isApartFromOthers_81 hl (k := 6) rfl (by decide) rfl (fun ls hl => ?_)
                  refine lv_goto (tgt := 21) hx hb dX2_isApartFromOthers_84 (by decide) ?_
                  exact ih_21 (i + 1) (by omega) (by omega) (by intro o ho ho2; by_cases e : o = i; (subst e; unfold clash; omega); exact hall o (by omega) ho2) H locs ls hP hS (lv_sub hl [2, 3, 4, 5, 6, 0] rfl)
                · refine lv_aload hx hb dX2_isApartFromOthers_67 (lv_at hl 0 rfl) ?_
                  refine fw_get (ci := 0) (v := va_rf (if σ 4 i = 1 then some (ad 3 (σ 5 i)) else none)) (C := RX0) (T := TX0) (N := 8) hx hb hts hinX0 hown hK hP (WC_5 n_7) rfl 6 (by decide) hf165 (fun _ h9 => h9) rfl dX2_isApartFromOthers_69 ?_
                  refine fw_top (v' := .ref (ad 3 (σ 5 i))) (by rw [if_pos n_9]; rfl) ?_
                  refine lv_aload_n hx hb dX2_isApartFromOthers_72 rfl (lv_at hl 3 rfl) ?_
                  refine fw_cVi (As := [.ref (ad 3 (k))]) (rest := []) ⟨hx, hb, hml, hown, hts⟩ (c_X1_isApartFrom l D cA z ad σ μ (σ 5 i) k hI (hI.c i).2.2.2.2.2.1 hk) (cwV 1 hts gX2_isApartFromOthers_X1_isApartFrom rfl rfl rfl (by decide +kernel) ⟨Nat.le_of_ble_eq_true rfl, Nat.le_of_ble_eq_true rfl⟩) (WC_3 (hI.c i).2.2.2.2.2.1) rfl rfl hl.1 (Nat.le_of_ble_eq_true rfl) dX2_isApartFromOthers_73 ⟨Nat.le_of_ble_eq_true rfl, Nat.le_of_ble_eq_true rfl⟩ hK hP hS rfl (fun r w' H locs q_14 hP hS => ?_)
                  obtain ⟨rfl, rfl⟩ := q_14
                  have hh_15 := high_le hI (σ 5 i)
                  have hp_16 := hI.pl (σ 5 i)
                  refine fw_if_neB (x := cB (apart (σ 5 i) k)) (tgt := 81) hx hb dX2_isApartFromOthers_76 (by decide) (fun c_17 => ?_) (fun c_17 => ?_)
                  · replace c_17 := cB_t.mp c_17
                    refine fw_iincN (x := i) (lv' := [(5, .int (iI ((i + 1 : Nat) : Int))), (6, .ref (ad 5 (i))), (0, .ref (ad 0 (0))), (1, .ref (ad 5 (c))), (2, .ref (ad 3 (k))), (3, .ref (ad 1 (0))), (4, .int (iI ((40 : Nat) : Int)))]) hx hb dX2_isApartFromOthers_81 hl (k := 6) rfl (by decide) rfl (fun ls hl => ?_)
                    refine lv_goto (tgt := 21) hx hb dX2_isApartFromOthers_84 (by decide) ?_
                    exact ih_21 (i + 1) (by omega) (by omega) (by intro o ho ho2; by_cases e : o = i; (subst e; unfold clash; rintro ⟨-, -, -, q⟩; exact q (by assumption)); exact hall o (by omega) ho2) H locs ls hP hS (lv_sub hl [2, 3, 4, 5, 6, 0] rfl)
                  · replace c_17 := cB_f.mp c_17
                    refine lv_iconst (v := iI ((0 : Nat) : Int)) hx hb dX2_isApartFromOthers_79 (by decide) ?_
                    subst hQ
                    exact fw_zret hx hb hr hlocks dX2_isApartFromOthers_80 hP hS rfl ⟨congrArg iI (bI_cf (by intro q; exact q (by omega) i (by assumption) ⟨by assumption, by omega, by omega, by assumption⟩)), rfl⟩
            · refine fw_top (v' := .null) (by rw [if_neg n_9]; rfl) ?_
              refine lv_ifnullN (tgt := 81) hx hb dX2_isApartFromOthers_44 (by decide) ?_
              refine fw_iincN (x := i) (lv' := [(5, .int (iI ((i + 1 : Nat) : Int))), (6, .ref (ad 5 (i))), (0, .ref (ad 0 (0))), (1, .ref (ad 5 (c))), (2, .ref (ad 3 (k))), (3, .ref (ad 1 (0))), (4, .int (iI ((40 : Nat) : Int)))]) hx hb dX2_isApartFromOthers_81 hl (k := 6) rfl (by decide) rfl (fun ls hl => ?_)
              refine lv_goto (tgt := 21) hx hb dX2_isApartFromOthers_84 (by decide) ?_
              exact ih_21 (i + 1) (by omega) (by omega) (by intro o ho ho2; by_cases e : o = i; (subst e; unfold clash; omega); exact hall o (by omega) ho2) H locs ls hP hS (lv_sub hl [2, 3, 4, 5, 6, 0] rfl)
          · refine fw_top (v' := .null) (by rw [if_neg n_7]; rfl) ?_
            refine lv_astoreN (lv' := [(6, .null), (0, .ref (ad 0 (0))), (1, .ref (ad 5 (c))), (2, .ref (ad 3 (k))), (3, .ref (ad 1 (0))), (4, .int (iI ((40 : Nat) : Int))), (5, .int (iI ((i : Nat) : Int)))]) hx hb dX2_isApartFromOthers_32 hl (by decide) rfl (fun ls hl => ?_)
            refine lv_aloadN hx hb dX2_isApartFromOthers_34 (lv_at hl 0 rfl) ?_
            refine lv_ifnullN (tgt := 81) hx hb dX2_isApartFromOthers_36 (by decide) ?_
            refine fw_iincN (x := i) (lv' := [(5, .int (iI ((i + 1 : Nat) : Int))), (6, .null), (0, .ref (ad 0 (0))), (1, .ref (ad 5 (c))), (2, .ref (ad 3 (k))), (3, .ref (ad 1 (0))), (4, .int (iI ((40 : Nat) : Int)))]) hx hb dX2_isApartFromOthers_81 hl (k := 6) rfl (by decide) rfl (fun ls hl => ?_)
            refine lv_goto (tgt := 21) hx hb dX2_isApartFromOthers_84 (by decide) ?_
            exact ih_21 (i + 1) (by omega) (by omega) (by intro o ho ho2; by_cases e : o = i; (subst e; unfold clash; omega); exact hall o (by omega) ho2) H locs ls hP hS (lv_sub hl [2, 3, 4, 5, 6, 0] rfl)
    exact loop_21 (40 + 1) (0) (by omega) (by omega) (by intro o ho; omega) H locs ls hP hS (lv_sub hl [3, 4, 5, 2, 1, 0] rfl)
  · replace c_3 := of_decide_eq_false c_3
    refine lv_iconst (v := iI ((1 : Nat) : Int)) hx hb dX2_isApartFromOthers_7 (by decide) ?_
    subst hQ
    exact fw_zret hx hb hr hlocks dX2_isApartFromOthers_8 hP hS rfl ⟨congrArg iI (bI_ct (by unfold lonely; omega)), rfl⟩

abbrev rm_X2_isLoadable : Room := { frames := 3, cells := 0, slots := 0, locals := 69 }
abbrev po_X2_isLoadable (cA : Nat → ClassId) (ad : fw_Ad) (σ : St) (μ : fw_W) (c k : Nat) : Int32 → fw_W → Prop := fun r w' => r = iI (bI (cB (allowed σ c k))) ∧ w' = WC cA ad σ μ
set_option maxHeartbeats 4000000 in
set_option maxRecDepth 100000 in
theorem c_X2_isLoadable (l : Launch) (D : va_G) (cA : Nat → ClassId) (z : Nat) (ad : fw_Ad) (σ : St) (μ : fw_W) (c k : Nat) (hI : Inv σ) (hc : c < σ 8 0) (hk : k < 30) : Met l yX2_isLoadable wsX2_isLoadable rm_X2_isLoadable (va_Pc [.ref (ad 0 (0)), .ref (ad 5 (c)), .ref (ad 3 (k))] (fw_Pre D vwCl (fw_T cA) z ad (WC cA ad σ μ))) (fw_Qi D vwCl z ad (po_X2_isLoadable cA ad σ μ c k)) 0 0 (fw_A z) := by
  refine Met.ofW (cc := cX2_isLoadable) (maxL := 3) (ret := (some .boolean)) (by decide) rfl ?_
  intro pg en s m args below meth cd s₁ B hml hv
  obtain ⟨hargs, hP, hK⟩ := hv
  have hx := B.exec
  have hb := B.bytes
  have hr := B.returns
  have hts := atoms_spec (ws := wsX2_isLoadable) B.pre
  have hown : s.vm.findClass RX2 = some m.cls := findClass_of_methodNamed B.named
  have hlocks := B.notSynchronized
  have hinX0 : ∀ w ∈ u_ws RX0 TX0 8, w ∈ wsX2_isLoadable := by decide +kernel
  have hinX1 : ∀ w ∈ u_ws RX1 TX1 5, w ∈ wsX2_isLoadable := by decide +kernel
  have hinX2 : ∀ w ∈ u_ws RX2 TX2 8, w ∈ wsX2_isLoadable := by decide +kernel
  have hf25 := hts (.fieldLink RX2 25 "StowagePlan" "shipPort" "I") (by decide +kernel)
  have hf201 := hts (.fieldLink RX2 201 "StowagePlan$Stack" "size" "I") (by decide +kernel)
  have hf169 := hts (.fieldLink RX2 169 "StowagePlan$Box" "weight" "I") (by decide +kernel)
  have hf28 := hts (.fieldLink RX2 28 "StowagePlan" "stackLimit" "I") (by decide +kernel)
  have hf219 := hts (.fieldLink RX2 219 "StowagePlan$Box" "kind" "I") (by decide +kernel)
  have hl := lv_entry ([.ref (ad 0 (0)), .ref (ad 5 (c)), .ref (ad 3 (k))]) (n := 3) (Nat.le_of_ble_eq_true rfl)
  have hent : entryFrame m args 3 = entryFrame m ([.ref (ad 0 (0)), .ref (ad 5 (c)), .ref (ad 3 (k))] : List Value).toArray 3 := by rw [hargs]
  rw [hent, lg_entry_eq]
  generalize (lg_sl ([.ref (ad 0 (0)), .ref (ad 5 (c)), .ref (ad 3 (k))]) ++ List.replicate (3 - (lg_sl ([.ref (ad 0 (0)), .ref (ad 5 (c)), .ref (ad 3 (k))])).length) Slot.unset).toArray = ls at hl ⊢
  have hl : lv_has ls 3 [(0, .ref (ad 0 (0))), (1, .ref (ad 5 (c))), (2, .ref (ad 3 (k)))] := hl
  generalize hQ : MQ below (fw_Qi D vwCl z ad (po_X2_isLoadable cA ad σ μ c k)) args s 0 0 (fw_A z) = Q
  generalize hH : s.heap = H at hP ⊢
  have hS : va_S (fw_A z) s.heap H [] := by rw [← hH]; exact va_S.rf
  generalize ([] : List Loc) = locs at hS ⊢
  refine lv_aload_n hx hb dX2_isLoadable_0 rfl (lv_at hl 1 rfl) ?_
  refine lv_ifnull hx hb dX2_isLoadable_1 ?_
  refine lv_aload_n hx hb dX2_isLoadable_4 rfl (lv_at hl 2 rfl) ?_
  refine lv_ifnull hx hb dX2_isLoadable_5 ?_
  refine lv_aload_n hx hb dX2_isLoadable_8 rfl (lv_at hl 1 rfl) ?_
  refine lv_aload_n hx hb dX2_isLoadable_9 rfl (lv_at hl 0 rfl) ?_
  refine fw_get (ci := 2) (v := .int (iI ((σ 8 4 : Nat) : Int))) (C := RX2) (T := TX2) (N := 8) hx hb hts hinX2 hown hK hP WC_0 rfl 3 (by decide) hf25 (fun _ h9 => h9) rfl dX2_isLoadable_10 ?_
  have hn_1 := hI.n
  have hm_2 := hI.lim
  refine fw_cVi (As := [.int (iI ((σ 8 4 : Nat) : Int))]) (rest := []) ⟨hx, hb, hml, hown, hts⟩ (c_X0_waitsAt l D cA z ad σ μ c (σ 8 4) hI hc (by omega)) (cwV 1 hts gX2_isLoadable_X0_waitsAt rfl rfl rfl (by decide +kernel) ⟨Nat.le_of_ble_eq_true rfl, Nat.le_of_ble_eq_true rfl⟩) (WC_5 hc) rfl rfl hl.1 (Nat.le_of_ble_eq_true rfl) dX2_isLoadable_13 ⟨Nat.le_of_ble_eq_true rfl, Nat.le_of_ble_eq_true rfl⟩ hK hP hS rfl (fun r w' H locs q_3 hP hS => ?_)
  obtain ⟨rfl, rfl⟩ := q_3
  have hc_4 := hI.c c
  refine fw_if_eqB (x := decide (σ 4 c = 0 ∧ σ 1 c = σ 8 4)) (tgt := 71) hx hb dX2_isLoadable_16 (by decide) (fun c_5 => ?_) (fun c_5 => ?_)
  · replace c_5 := of_decide_eq_false c_5
    refine lv_iconst (v := iI ((0 : Nat) : Int)) hx hb dX2_isLoadable_71 (by decide) ?_
    subst hQ
    exact fw_zret hx hb hr hlocks dX2_isLoadable_72 hP hS rfl ⟨congrArg iI (bI_cf (by rintro ⟨q1, q2, q3, q4, q5, q6⟩; first | omega | exact absurd q6 (by assumption))), rfl⟩
  · replace c_5 := of_decide_eq_true c_5
    refine lv_aload_n hx hb dX2_isLoadable_19 rfl (lv_at hl 2 rfl) ?_
    refine fw_get (ci := 1) (v := .int (iI ((high σ k : Nat) : Int))) (C := RX1) (T := TX1) (N := 5) hx hb hts hinX1 hown hK hP (WC_3 hk) rfl 3 (by decide) hf201 (fun _ h9 => h9) rfl dX2_isLoadable_20 ?_
    have hh_6 := high_le hI k
    have hp_7 := hI.pl k
    refine lv_iconst (v := iI ((4 : Nat) : Int)) hx hb dX2_isLoadable_23 (by decide) ?_
    refine fw_icmp_ge (x := ((high σ k : Nat) : Int)) (y := ((4 : Nat) : Int)) (tgt := 71) hx hb dX2_isLoadable_24 (by decide) ⟨by omega, by omega⟩ ⟨by omega, by omega⟩ (fun c_8 => ?_) (fun c_8 => ?_)
    · refine lv_iconst (v := iI ((0 : Nat) : Int)) hx hb dX2_isLoadable_71 (by decide) ?_
      subst hQ
      exact fw_zret hx hb hr hlocks dX2_isLoadable_72 hP hS rfl ⟨congrArg iI (bI_cf (by rintro ⟨q1, q2, q3, q4, q5, q6⟩; first | omega | exact absurd q6 (by assumption))), rfl⟩
    · refine lv_aload_n hx hb dX2_isLoadable_27 rfl (lv_at hl 2 rfl) ?_
      refine fw_cVi (As := []) (rest := []) ⟨hx, hb, hml, hown, hts⟩ (c_X1_weightSum l D cA z ad σ μ k hI hk) (cwV 0 hts gX2_isLoadable_X1_weightSum rfl rfl rfl (by decide +kernel) ⟨Nat.le_of_ble_eq_true rfl, Nat.le_of_ble_eq_true rfl⟩) (WC_3 hk) rfl rfl hl.1 (Nat.le_of_ble_eq_true rfl) dX2_isLoadable_28 ⟨Nat.le_of_ble_eq_true rfl, Nat.le_of_ble_eq_true rfl⟩ hK hP hS rfl (fun r w' H locs q_9 hP hS => ?_)
      obtain ⟨rfl, rfl⟩ := q_9
      refine lv_aload_n hx hb dX2_isLoadable_31 rfl (lv_at hl 1 rfl) ?_
      refine fw_get (ci := 0) (v := .int (iI ((σ 0 c : Nat) : Int))) (C := RX0) (T := TX0) (N := 8) hx hb hts hinX0 hown hK hP (WC_5 hc) rfl 1 (by decide) hf169 (fun _ h9 => h9) rfl dX2_isLoadable_32 ?_
      refine fw_iaddN (a := wOf σ k) (b := σ 0 c) hx hb dX2_isLoadable_35 ?_
      refine lv_aload_n hx hb dX2_isLoadable_36 rfl (lv_at hl 0 rfl) ?_
      have hwo := wOf_le hI k
      refine fw_get (ci := 2) (v := .int (iI ((σ 8 1 : Nat) : Int))) (C := RX2) (T := TX2) (N := 8) hx hb hts hinX2 hown hK hP WC_0 rfl 4 (by decide) hf28 (fun _ h9 => h9) rfl dX2_isLoadable_37 ?_
      refine fw_icmp_gt (x := (((wOf σ k) + (σ 0 c) : Nat) : Int)) (y := ((σ 8 1 : Nat) : Int)) (tgt := 71) hx hb dX2_isLoadable_40 (by decide) ⟨by omega, by omega⟩ ⟨by omega, by omega⟩ (fun c_10 => ?_) (fun c_10 => ?_)
      · refine lv_iconst (v := iI ((0 : Nat) : Int)) hx hb dX2_isLoadable_71 (by decide) ?_
        subst hQ
        exact fw_zret hx hb hr hlocks dX2_isLoadable_72 hP hS rfl ⟨congrArg iI (bI_cf (by rintro ⟨q1, q2, q3, q4, q5, q6⟩; first | omega | exact absurd q6 (by assumption))), rfl⟩
      · refine lv_aload_n hx hb dX2_isLoadable_43 rfl (lv_at hl 1 rfl) ?_
        refine fw_get (ci := 0) (v := .int (iI ((σ 3 c : Nat) : Int))) (C := RX0) (T := TX0) (N := 8) hx hb hts hinX0 hown hK hP (WC_5 hc) rfl 4 (by decide) hf219 (fun _ h9 => h9) rfl dX2_isLoadable_44 ?_
        refine lv_iconst (v := iI ((1 : Nat) : Int)) hx hb dX2_isLoadable_47 (by decide) ?_
        refine fw_icmp_ne (x := ((σ 3 c : Nat) : Int)) (y := ((1 : Nat) : Int)) (tgt := 58) hx hb dX2_isLoadable_48 (by decide) ⟨by omega, by omega⟩ ⟨by omega, by omega⟩ (fun c_11 => ?_) (fun c_11 => ?_)
        · refine lv_aload_n hx hb dX2_isLoadable_58 rfl (lv_at hl 0 rfl) ?_
          refine lv_aload_n hx hb dX2_isLoadable_59 rfl (lv_at hl 1 rfl) ?_
          refine lv_aload_n hx hb dX2_isLoadable_60 rfl (lv_at hl 2 rfl) ?_
          refine fw_cVi (As := [.ref (ad 5 (c)), .ref (ad 3 (k))]) (rest := []) ⟨hx, hb, hml, hown, hts⟩ (c_X2_isApartFromOthers l D cA z ad σ μ c k hI hc hk) (cwV 2 hts gX2_isLoadable_X2_isApartFromOthers rfl rfl rfl (by decide +kernel) ⟨Nat.le_of_ble_eq_true rfl, Nat.le_of_ble_eq_true rfl⟩) WC_0 rfl rfl hl.1 (Nat.le_of_ble_eq_true rfl) dX2_isLoadable_61 ⟨Nat.le_of_ble_eq_true rfl, Nat.le_of_ble_eq_true rfl⟩ hK hP hS rfl (fun r w' H locs q_12 hP hS => ?_)
          obtain ⟨rfl, rfl⟩ := q_12
          refine fw_if_eqB (x := cB (lonely σ c k)) (tgt := 71) hx hb dX2_isLoadable_64 (by decide) (fun c_13 => ?_) (fun c_13 => ?_)
          · replace c_13 := cB_f.mp c_13
            refine lv_iconst (v := iI ((0 : Nat) : Int)) hx hb dX2_isLoadable_71 (by decide) ?_
            subst hQ
            exact fw_zret hx hb hr hlocks dX2_isLoadable_72 hP hS rfl ⟨congrArg iI (bI_cf (by rintro ⟨q1, q2, q3, q4, q5, q6⟩; first | omega | exact absurd q6 (by assumption))), rfl⟩
          · replace c_13 := cB_t.mp c_13
            refine lv_iconst (v := iI ((1 : Nat) : Int)) hx hb dX2_isLoadable_67 (by decide) ?_
            refine lv_goto (tgt := 72) hx hb dX2_isLoadable_68 (by decide) ?_
            subst hQ
            exact fw_zret hx hb hr hlocks dX2_isLoadable_72 hP hS rfl ⟨congrArg iI (bI_ct (by unfold allowed; refine ⟨by omega, by omega, by omega, by omega, by omega, by assumption⟩)), rfl⟩
        · refine lv_aload_n hx hb dX2_isLoadable_51 rfl (lv_at hl 2 rfl) ?_
          refine fw_cVi (As := []) (rest := []) ⟨hx, hb, hml, hown, hts⟩ (c_X1_hasPowerOnNextTier l D cA z ad σ μ k hI hk) (cwV 0 hts gX2_isLoadable_X1_hasPowerOnNextTier rfl rfl rfl (by decide +kernel) ⟨Nat.le_of_ble_eq_true rfl, Nat.le_of_ble_eq_true rfl⟩) (WC_3 hk) rfl rfl hl.1 (Nat.le_of_ble_eq_true rfl) dX2_isLoadable_52 ⟨Nat.le_of_ble_eq_true rfl, Nat.le_of_ble_eq_true rfl⟩ hK hP hS rfl (fun r w' H locs q_14 hP hS => ?_)
          obtain ⟨rfl, rfl⟩ := q_14
          refine fw_if_eqB (x := decide (σ 7 k = 1 ∧ high σ k < 2)) (tgt := 71) hx hb dX2_isLoadable_55 (by decide) (fun c_15 => ?_) (fun c_15 => ?_)
          · replace c_15 := of_decide_eq_false c_15
            refine lv_iconst (v := iI ((0 : Nat) : Int)) hx hb dX2_isLoadable_71 (by decide) ?_
            subst hQ
            exact fw_zret hx hb hr hlocks dX2_isLoadable_72 hP hS rfl ⟨congrArg iI (bI_cf (by rintro ⟨q1, q2, q3, q4, q5, q6⟩; first | omega | exact absurd q6 (by assumption))), rfl⟩
          · replace c_15 := of_decide_eq_true c_15
            refine lv_aload_n hx hb dX2_isLoadable_58 rfl (lv_at hl 0 rfl) ?_
            refine lv_aload_n hx hb dX2_isLoadable_59 rfl (lv_at hl 1 rfl) ?_
            refine lv_aload_n hx hb dX2_isLoadable_60 rfl (lv_at hl 2 rfl) ?_
            refine fw_cVi (As := [.ref (ad 5 (c)), .ref (ad 3 (k))]) (rest := []) ⟨hx, hb, hml, hown, hts⟩ (c_X2_isApartFromOthers l D cA z ad σ μ c k hI hc hk) (cwV 2 hts gX2_isLoadable_X2_isApartFromOthers rfl rfl rfl (by decide +kernel) ⟨Nat.le_of_ble_eq_true rfl, Nat.le_of_ble_eq_true rfl⟩) WC_0 rfl rfl hl.1 (Nat.le_of_ble_eq_true rfl) dX2_isLoadable_61 ⟨Nat.le_of_ble_eq_true rfl, Nat.le_of_ble_eq_true rfl⟩ hK hP hS rfl (fun r w' H locs q_16 hP hS => ?_)
            obtain ⟨rfl, rfl⟩ := q_16
            refine fw_if_eqB (x := cB (lonely σ c k)) (tgt := 71) hx hb dX2_isLoadable_64 (by decide) (fun c_17 => ?_) (fun c_17 => ?_)
            · replace c_17 := cB_f.mp c_17
              refine lv_iconst (v := iI ((0 : Nat) : Int)) hx hb dX2_isLoadable_71 (by decide) ?_
              subst hQ
              exact fw_zret hx hb hr hlocks dX2_isLoadable_72 hP hS rfl ⟨congrArg iI (bI_cf (by rintro ⟨q1, q2, q3, q4, q5, q6⟩; first | omega | exact absurd q6 (by assumption))), rfl⟩
            · replace c_17 := cB_t.mp c_17
              refine lv_iconst (v := iI ((1 : Nat) : Int)) hx hb dX2_isLoadable_67 (by decide) ?_
              refine lv_goto (tgt := 72) hx hb dX2_isLoadable_68 (by decide) ?_
              subst hQ
              exact fw_zret hx hb hr hlocks dX2_isLoadable_72 hP hS rfl ⟨congrArg iI (bI_ct (by unfold allowed; refine ⟨by omega, by omega, by omega, by omega, by omega, by assumption⟩)), rfl⟩

abbrev rm_X2_hasChoice : Room := { frames := 4, cells := 0, slots := 0, locals := 91 }
abbrev po_X2_hasChoice (cA : Nat → ClassId) (ad : fw_Ad) (σ : St) (μ : fw_W) (c : Nat) : Int32 → fw_W → Prop := fun r w' => r = iI (bI (cB (fitsSome σ c))) ∧ w' = WC cA ad σ μ
set_option maxHeartbeats 4000000 in
set_option maxRecDepth 100000 in
theorem c_X2_hasChoice (l : Launch) (D : va_G) (cA : Nat → ClassId) (z : Nat) (ad : fw_Ad) (σ : St) (μ : fw_W) (c : Nat) (hI : Inv σ) (hc : c < σ 8 0) : Met l yX2_hasChoice wsX2_hasChoice rm_X2_hasChoice (va_Pc [.ref (ad 0 (0)), .ref (ad 5 (c))] (fw_Pre D vwCl (fw_T cA) z ad (WC cA ad σ μ))) (fw_Qi D vwCl z ad (po_X2_hasChoice cA ad σ μ c)) 0 0 (fw_A z) := by
  refine Met.ofW (cc := cX2_hasChoice) (maxL := 6) (ret := (some .boolean)) (by decide) rfl ?_
  intro pg en s m args below meth cd s₁ B hml hv
  obtain ⟨hargs, hP, hK⟩ := hv
  have hx := B.exec
  have hb := B.bytes
  have hr := B.returns
  have hts := atoms_spec (ws := wsX2_hasChoice) B.pre
  have hown : s.vm.findClass RX2 = some m.cls := findClass_of_methodNamed B.named
  have hlocks := B.notSynchronized
  have hinX2 : ∀ w ∈ u_ws RX2 TX2 8, w ∈ wsX2_hasChoice := by decide +kernel
  have hf17 := hts (.fieldLink RX2 17 "StowagePlan" "stacks" "[LStowagePlan$Stack;") (by decide +kernel)
  have hl := lv_entry ([.ref (ad 0 (0)), .ref (ad 5 (c))]) (n := 6) (Nat.le_of_ble_eq_true rfl)
  have hent : entryFrame m args 6 = entryFrame m ([.ref (ad 0 (0)), .ref (ad 5 (c))] : List Value).toArray 6 := by rw [hargs]
  rw [hent, lg_entry_eq]
  generalize (lg_sl ([.ref (ad 0 (0)), .ref (ad 5 (c))]) ++ List.replicate (6 - (lg_sl ([.ref (ad 0 (0)), .ref (ad 5 (c))])).length) Slot.unset).toArray = ls at hl ⊢
  have hl : lv_has ls 6 [(0, .ref (ad 0 (0))), (1, .ref (ad 5 (c)))] := hl
  generalize hQ : MQ below (fw_Qi D vwCl z ad (po_X2_hasChoice cA ad σ μ c)) args s 0 0 (fw_A z) = Q
  generalize hH : s.heap = H at hP ⊢
  have hS : va_S (fw_A z) s.heap H [] := by rw [← hH]; exact va_S.rf
  generalize ([] : List Loc) = locs at hS ⊢
  refine lv_aload_n hx hb dX2_hasChoice_0 rfl (lv_at hl 0 rfl) ?_
  refine fw_get (ci := 2) (v := .ref (ad 2 (0))) (C := RX2) (T := TX2) (N := 8) hx hb hts hinX2 hown hK hP WC_0 rfl 1 (by decide) hf17 (fun _ h9 => h9) rfl dX2_hasChoice_1 ?_
  have hn_1 := hI.n
  have hm_2 := hI.lim
  refine lv_astore_n (lv' := [(2, .ref (ad 2 (0))), (0, .ref (ad 0 (0))), (1, .ref (ad 5 (c)))]) hx hb dX2_hasChoice_4 rfl hl (by decide) rfl (fun ls hl => ?_)
  refine lv_aload_n hx hb dX2_hasChoice_5 rfl (lv_at hl 0 rfl) ?_
  refine fw_alen (v := iI ((30 : Nat) : Int)) hx hb hK hP WC_2 3 rfl rfl dX2_hasChoice_6 ?_
  refine lv_istore_n (lv' := [(3, .int (iI ((30 : Nat) : Int))), (2, .ref (ad 2 (0))), (0, .ref (ad 0 (0))), (1, .ref (ad 5 (c)))]) hx hb dX2_hasChoice_7 rfl hl (by decide) rfl (fun ls hl => ?_)
  refine lv_iconst (v := iI ((0 : Nat) : Int)) hx hb dX2_hasChoice_8 (by decide) ?_
  refine lv_istore (lv' := [(4, .int (iI ((0 : Nat) : Int))), (3, .int (iI ((30 : Nat) : Int))), (2, .ref (ad 2 (0))), (0, .ref (ad 0 (0))), (1, .ref (ad 5 (c)))]) hx hb dX2_hasChoice_9 hl (by decide) rfl (fun ls hl => ?_)
  have loop_11 : ∀ (dd i : Nat), 30 + 1 ≤ i + dd → i ≤ 30 → (∀ s, s < i → ¬ allowed σ c s) → ∀ (H : Heap) (locs : List Loc) (ls : Array Slot), fw_P D vwCl z ad (WC cA ad σ μ) H → va_S (fw_A z) s.heap H locs → lv_has ls 6 [(0, .ref (ad 0 (0))), (1, .ref (ad 5 (c))), (2, .ref (ad 2 (0))), (3, .int (iI ((30 : Nat) : Int))), (4, .int (iI ((i : Nat) : Int)))] → W pg l en (headSpec wsX2_hasChoice rm_X2_hasChoice).room s m args below meth cd H locs 0 0 Q (F0 m 11 ls []) := by
    intro dd
    induction dd with
    | zero => intro i hd_11 hi_11; omega
    | succ dd ih_11 =>
      intro i hd_11 hi_11 hall H locs ls hP hS hl
      refine lv_iload hx hb dX2_hasChoice_11 (lv_at hl 4 rfl) ?_
      refine lv_iload_n hx hb dX2_hasChoice_13 rfl (lv_at hl 3 rfl) ?_
      refine fw_icmp_ge (x := ((i : Nat) : Int)) (y := ((30 : Nat) : Int)) (tgt := 41) hx hb dX2_hasChoice_14 (by decide) ⟨by omega, by omega⟩ ⟨by omega, by omega⟩ (fun c_3 => ?_) (fun c_3 => ?_)
      · refine lv_iconst (v := iI ((0 : Nat) : Int)) hx hb dX2_hasChoice_41 (by decide) ?_
        subst hQ
        exact fw_zret hx hb hr hlocks dX2_hasChoice_42 hP hS rfl ⟨congrArg iI (bI_cf (by rintro ⟨s, h1, h2⟩; exact hall s (by omega) h2)), rfl⟩
      · refine lv_aload_n hx hb dX2_hasChoice_17 rfl (lv_at hl 2 rfl) ?_
        refine lv_iload hx hb dX2_hasChoice_18 (lv_at hl 4 rfl) ?_
        refine fw_aldN (j := i) hx hb hK hP WC_2 3 rfl (by omega) (by decide) dX2_hasChoice_20 ?_
        refine fw_top (v' := .ref (ad 3 (i))) rfl ?_
        refine lv_astore (lv' := [(5, .ref (ad 3 (i))), (0, .ref (ad 0 (0))), (1, .ref (ad 5 (c))), (2, .ref (ad 2 (0))), (3, .int (iI ((30 : Nat) : Int))), (4, .int (iI ((i : Nat) : Int)))]) hx hb dX2_hasChoice_21 hl (by decide) rfl (fun ls hl => ?_)
        refine lv_aload_n hx hb dX2_hasChoice_23 rfl (lv_at hl 1 rfl) ?_
        refine lv_aload_n hx hb dX2_hasChoice_24 rfl (lv_at hl 2 rfl) ?_
        refine lv_aload hx hb dX2_hasChoice_25 (lv_at hl 0 rfl) ?_
        refine fw_cVi (As := [.ref (ad 5 (c)), .ref (ad 3 (i))]) (rest := []) ⟨hx, hb, hml, hown, hts⟩ (c_X2_isLoadable l D cA z ad σ μ c i hI hc (by omega)) (cwV 2 hts gX2_hasChoice_X2_isLoadable rfl rfl rfl (by decide +kernel) ⟨Nat.le_of_ble_eq_true rfl, Nat.le_of_ble_eq_true rfl⟩) WC_0 rfl rfl hl.1 (Nat.le_of_ble_eq_true rfl) dX2_hasChoice_27 ⟨Nat.le_of_ble_eq_true rfl, Nat.le_of_ble_eq_true rfl⟩ hK hP hS rfl (fun r w' H locs q_4 hP hS => ?_)
        obtain ⟨rfl, rfl⟩ := q_4
        refine fw_if_eqB (x := cB (allowed σ c i)) (tgt := 35) hx hb dX2_hasChoice_30 (by decide) (fun c_5 => ?_) (fun c_5 => ?_)
        · replace c_5 := cB_f.mp c_5
          refine fw_iincN (x := i) (lv' := [(4, .int (iI ((i + 1 : Nat) : Int))), (5, .ref (ad 3 (i))), (0, .ref (ad 0 (0))), (1, .ref (ad 5 (c))), (2, .ref (ad 2 (0))), (3, .int (iI ((30 : Nat) : Int)))]) hx hb dX2_hasChoice_35 hl (k := 5) rfl (by decide) rfl (fun ls hl => ?_)
          refine lv_goto (tgt := 11) hx hb dX2_hasChoice_38 (by decide) ?_
          exact ih_11 (i + 1) (by omega) (by omega) (by intro s hs; by_cases e : s = i; (subst e; assumption); exact hall s (by omega)) H locs ls hP hS (lv_sub hl [2, 3, 4, 5, 0] rfl)
        · replace c_5 := cB_t.mp c_5
          refine lv_iconst (v := iI ((1 : Nat) : Int)) hx hb dX2_hasChoice_33 (by decide) ?_
          subst hQ
          exact fw_zret hx hb hr hlocks dX2_hasChoice_34 hP hS rfl ⟨congrArg iI (bI_ct ⟨i, by omega, by assumption⟩), rfl⟩
  exact loop_11 (30 + 1) (0) (by omega) (by omega) (by intro s hs; omega) H locs ls hP hS (lv_sub hl [3, 4, 2, 1, 0] rfl)

abbrev rm_X2_nextToLoad : Room := { frames := 5, cells := 0, slots := 0, locals := 116 }
abbrev po_X2_nextToLoad (cA : Nat → ClassId) (ad : fw_Ad) (σ : St) (μ : fw_W) : Option Nat → fw_W → Prop := fun r w' => r = (bestB σ (σ 8 0)).map (ad 5) ∧ w' = WC cA ad σ μ
set_option maxHeartbeats 4000000 in
set_option maxRecDepth 100000 in
theorem c_X2_nextToLoad (l : Launch) (D : va_G) (cA : Nat → ClassId) (z : Nat) (ad : fw_Ad) (σ : St) (μ : fw_W) (hI : Inv σ) : Met l yX2_nextToLoad wsX2_nextToLoad rm_X2_nextToLoad (va_Pc [.ref (ad 0 (0))] (fw_Pre D vwCl (fw_T cA) z ad (WC cA ad σ μ))) (fw_Qq D vwCl z ad (po_X2_nextToLoad cA ad σ μ)) 0 0 (fw_A z) := by
  refine Met.ofW (cc := cX2_nextToLoad) (maxL := 6) (ret := (some (.object "StowagePlan$Box"))) (by decide) rfl ?_
  intro pg en s m args below meth cd s₁ B hml hv
  obtain ⟨hargs, hP, hK⟩ := hv
  have hx := B.exec
  have hb := B.bytes
  have hr := B.returns
  have hts := atoms_spec (ws := wsX2_nextToLoad) B.pre
  have hown : s.vm.findClass RX2 = some m.cls := findClass_of_methodNamed B.named
  have hlocks := B.notSynchronized
  have hinX2 : ∀ w ∈ u_ws RX2 TX2 8, w ∈ wsX2_nextToLoad := by decide +kernel
  have hf11 := hts (.fieldLink RX2 11 "StowagePlan" "boxes" "[LStowagePlan$Box;") (by decide +kernel)
  have hl := lv_entry ([.ref (ad 0 (0))]) (n := 6) (Nat.le_of_ble_eq_true rfl)
  have hent : entryFrame m args 6 = entryFrame m ([.ref (ad 0 (0))] : List Value).toArray 6 := by rw [hargs]
  rw [hent, lg_entry_eq]
  generalize (lg_sl ([.ref (ad 0 (0))]) ++ List.replicate (6 - (lg_sl ([.ref (ad 0 (0))])).length) Slot.unset).toArray = ls at hl ⊢
  have hl : lv_has ls 6 [(0, .ref (ad 0 (0)))] := hl
  generalize hQ : MQ below (fw_Qq D vwCl z ad (po_X2_nextToLoad cA ad σ μ)) args s 0 0 (fw_A z) = Q
  generalize hH : s.heap = H at hP ⊢
  have hS : va_S (fw_A z) s.heap H [] := by rw [← hH]; exact va_S.rf
  generalize ([] : List Loc) = locs at hS ⊢
  refine lv_null hx hb dX2_nextToLoad_0 ?_
  refine lv_astore_nN (lv' := [(1, .null), (0, .ref (ad 0 (0)))]) hx hb dX2_nextToLoad_1 rfl hl (by decide) rfl (fun ls hl => ?_)
  refine lv_aload_n hx hb dX2_nextToLoad_2 rfl (lv_at hl 1 rfl) ?_
  refine fw_get (ci := 2) (v := .ref (ad 1 (0))) (C := RX2) (T := TX2) (N := 8) hx hb hts hinX2 hown hK hP WC_0 rfl 0 (by decide) hf11 (fun _ h9 => h9) rfl dX2_nextToLoad_3 ?_
  have hn_1 := hI.n
  have hm_2 := hI.lim
  refine lv_astore_n (lv' := [(2, .ref (ad 1 (0))), (1, .null), (0, .ref (ad 0 (0)))]) hx hb dX2_nextToLoad_6 rfl hl (by decide) rfl (fun ls hl => ?_)
  refine lv_aload_n hx hb dX2_nextToLoad_7 rfl (lv_at hl 0 rfl) ?_
  refine fw_alen (v := iI ((40 : Nat) : Int)) hx hb hK hP WC_1 2 rfl rfl dX2_nextToLoad_8 ?_
  refine lv_istore_n (lv' := [(3, .int (iI ((40 : Nat) : Int))), (2, .ref (ad 1 (0))), (1, .null), (0, .ref (ad 0 (0)))]) hx hb dX2_nextToLoad_9 rfl hl (by decide) rfl (fun ls hl => ?_)
  refine lv_iconst (v := iI ((0 : Nat) : Int)) hx hb dX2_nextToLoad_10 (by decide) ?_
  refine lv_istore (lv' := [(4, .int (iI ((0 : Nat) : Int))), (3, .int (iI ((40 : Nat) : Int))), (2, .ref (ad 1 (0))), (1, .null), (0, .ref (ad 0 (0)))]) hx hb dX2_nextToLoad_11 hl (by decide) rfl (fun ls hl => ?_)
  have loop_13 : ∀ (dd i : Nat), 40 + 1 ≤ i + dd → i ≤ 40 → ∀ (H : Heap) (locs : List Loc) (ls : Array Slot), fw_P D vwCl z ad (WC cA ad σ μ) H → va_S (fw_A z) s.heap H locs → lv_has ls 6 [(0, .ref (ad 0 (0))), (1, va_rf ((bestB σ (min i (σ 8 0))).map (ad 5))), (2, .ref (ad 1 (0))), (3, .int (iI ((40 : Nat) : Int))), (4, .int (iI ((i : Nat) : Int)))] → W pg l en (headSpec wsX2_nextToLoad rm_X2_nextToLoad).room s m args below meth cd H locs 0 0 Q (F0 m 13 ls []) := by
    intro dd
    induction dd with
    | zero => intro i hd_13 hi_13; omega
    | succ dd ih_13 =>
      intro i hd_13 hi_13 H locs ls hP hS hl
      cases n_3 : bestB σ (min i (σ 8 0)) with
      | none =>
        rw [n_3] at hl
        have hl : lv_has ls 6 [(0, .ref (ad 0 (0))), (1, .null), (2, .ref (ad 1 (0))), (3, .int (iI ((40 : Nat) : Int))), (4, .int (iI ((i : Nat) : Int)))] := hl
        refine lv_iload hx hb dX2_nextToLoad_13 (lv_at hl 4 rfl) ?_
        refine lv_iload_n hx hb dX2_nextToLoad_15 rfl (lv_at hl 3 rfl) ?_
        have hn40 := hI.n
        refine fw_icmp_ge (x := ((i : Nat) : Int)) (y := ((40 : Nat) : Int)) (tgt := 61) hx hb dX2_nextToLoad_16 (by decide) ⟨by omega, by omega⟩ ⟨by omega, by omega⟩ (fun c_5 => ?_) (fun c_5 => ?_)
        · refine lv_aload_nN hx hb dX2_nextToLoad_61 rfl (lv_at hl 1 rfl) ?_
          subst hQ
          exact fw_nret hx hb hr (Or.inl ⟨_, rfl⟩) hlocks dX2_nextToLoad_62 hP hS ⟨by rw [show bestB σ (σ 8 0) = none from by rw [show min i (σ 8 0) = σ 8 0 from by omega] at n_3; exact n_3]; rfl, rfl⟩
        · refine lv_aload_n hx hb dX2_nextToLoad_19 rfl (lv_at hl 2 rfl) ?_
          refine lv_iload hx hb dX2_nextToLoad_20 (lv_at hl 4 rfl) ?_
          refine fw_aldN (j := i) hx hb hK hP WC_1 2 rfl (by omega) (by decide) dX2_nextToLoad_22 ?_
          by_cases n_6 : i < σ 8 0
          · refine fw_top (v' := .ref (ad 5 (i))) (by rw [if_pos n_6]; rfl) ?_
            refine lv_astore (lv' := [(5, .ref (ad 5 (i))), (0, .ref (ad 0 (0))), (1, .null), (2, .ref (ad 1 (0))), (3, .int (iI ((40 : Nat) : Int))), (4, .int (iI ((i : Nat) : Int)))]) hx hb dX2_nextToLoad_23 hl (by decide) rfl (fun ls hl => ?_)
            refine lv_aload hx hb dX2_nextToLoad_25 (lv_at hl 0 rfl) ?_
            refine lv_ifnull hx hb dX2_nextToLoad_27 ?_
            refine lv_aload_nN hx hb dX2_nextToLoad_30 rfl (lv_at hl 2 rfl) ?_
            refine lv_ifnullN (tgt := 43) hx hb dX2_nextToLoad_31 (by decide) ?_
            refine lv_aload_n hx hb dX2_nextToLoad_43 rfl (lv_at hl 1 rfl) ?_
            refine lv_aload hx hb dX2_nextToLoad_44 (lv_at hl 0 rfl) ?_
            refine fw_cVi (As := [.ref (ad 5 (i))]) (rest := []) ⟨hx, hb, hml, hown, hts⟩ (c_X2_hasChoice l D cA z ad σ μ i hI n_6) (cwV 1 hts gX2_nextToLoad_X2_hasChoice rfl rfl rfl (by decide +kernel) ⟨Nat.le_of_ble_eq_true rfl, Nat.le_of_ble_eq_true rfl⟩) WC_0 rfl rfl hl.1 (Nat.le_of_ble_eq_true rfl) dX2_nextToLoad_46 ⟨Nat.le_of_ble_eq_true rfl, Nat.le_of_ble_eq_true rfl⟩ hK hP hS rfl (fun r w' H locs q_7 hP hS => ?_)
            obtain ⟨rfl, rfl⟩ := q_7
            refine fw_if_eqB (x := cB (fitsSome σ i)) (tgt := 55) hx hb dX2_nextToLoad_49 (by decide) (fun c_8 => ?_) (fun c_8 => ?_)
            · replace c_8 := cB_f.mp c_8
              refine fw_iincN (x := i) (lv' := [(4, .int (iI ((i + 1 : Nat) : Int))), (5, .ref (ad 5 (i))), (0, .ref (ad 0 (0))), (1, .null), (2, .ref (ad 1 (0))), (3, .int (iI ((40 : Nat) : Int)))]) hx hb dX2_nextToLoad_55 hl (k := 5) rfl (by decide) rfl (fun ls hl => ?_)
              refine lv_goto (tgt := 13) hx hb dX2_nextToLoad_58 (by decide) ?_
              have hl := lv_conv hl (l2 := [(4, .int (iI ((i + 1 : Nat) : Int))), (5, .ref (ad 5 (i))), (0, .ref (ad 0 (0))), (1, va_rf ((bestB σ (min (i + 1) (σ 8 0))).map (ad 5))), (2, .ref (ad 1 (0))), (3, .int (iI ((40 : Nat) : Int)))]) (by rw [show bestB σ (min (i + 1) (σ 8 0)) = none from by (have hbb : bestB σ i = none := (by rw [show i = min i (σ 8 0) from by omega]; exact n_3); rw [show min (i + 1) (σ 8 0) = i + 1 from by omega, bestB, if_neg, hbb]; rw [cB_t, hbb]; rintro ⟨q1, q2⟩; first | exact absurd q1 (by assumption) | exact absurd (q2 _ rfl) (by assumption))]; rfl)
              exact ih_13 (i + 1) (by omega) (by omega) H locs ls hP hS (lv_sub hl [2, 3, 4, 5, 0] rfl)
            · replace c_8 := cB_t.mp c_8
              refine lv_aload hx hb dX2_nextToLoad_52 (lv_at hl 0 rfl) ?_
              refine lv_astore_n (lv' := [(1, .ref (ad 5 (i))), (5, .ref (ad 5 (i))), (0, .ref (ad 0 (0))), (2, .ref (ad 1 (0))), (3, .int (iI ((40 : Nat) : Int))), (4, .int (iI ((i : Nat) : Int)))]) hx hb dX2_nextToLoad_54 rfl hl (by decide) rfl (fun ls hl => ?_)
              refine fw_iincN (x := i) (lv' := [(4, .int (iI ((i + 1 : Nat) : Int))), (1, .ref (ad 5 (i))), (5, .ref (ad 5 (i))), (0, .ref (ad 0 (0))), (2, .ref (ad 1 (0))), (3, .int (iI ((40 : Nat) : Int)))]) hx hb dX2_nextToLoad_55 hl (k := 5) rfl (by decide) rfl (fun ls hl => ?_)
              refine lv_goto (tgt := 13) hx hb dX2_nextToLoad_58 (by decide) ?_
              have hl := lv_conv hl (l2 := [(4, .int (iI ((i + 1 : Nat) : Int))), (1, va_rf ((bestB σ (min (i + 1) (σ 8 0))).map (ad 5))), (5, .ref (ad 5 (i))), (0, .ref (ad 0 (0))), (2, .ref (ad 1 (0))), (3, .int (iI ((40 : Nat) : Int)))]) (by rw [show bestB σ (min (i + 1) (σ 8 0)) = some i from by (have hbb : bestB σ i = none := (by rw [show i = min i (σ 8 0) from by omega]; exact n_3); rw [show min (i + 1) (σ 8 0) = i + 1 from by omega, bestB, if_pos]; rw [cB_t, hbb]; refine ⟨by assumption, fun b hb => ?_⟩; cases hb <;> assumption)]; rfl)
              exact ih_13 (i + 1) (by omega) (by omega) H locs ls hP hS (lv_sub hl [3, 1, 4, 5, 0] rfl)
          · refine fw_top (v' := .null) (by rw [if_neg n_6]; rfl) ?_
            refine lv_astoreN (lv' := [(5, .null), (0, .ref (ad 0 (0))), (1, .null), (2, .ref (ad 1 (0))), (3, .int (iI ((40 : Nat) : Int))), (4, .int (iI ((i : Nat) : Int)))]) hx hb dX2_nextToLoad_23 hl (by decide) rfl (fun ls hl => ?_)
            refine lv_aloadN hx hb dX2_nextToLoad_25 (lv_at hl 0 rfl) ?_
            refine lv_ifnullN (tgt := 55) hx hb dX2_nextToLoad_27 (by decide) ?_
            refine fw_iincN (x := i) (lv' := [(4, .int (iI ((i + 1 : Nat) : Int))), (5, .null), (0, .ref (ad 0 (0))), (1, .null), (2, .ref (ad 1 (0))), (3, .int (iI ((40 : Nat) : Int)))]) hx hb dX2_nextToLoad_55 hl (k := 5) rfl (by decide) rfl (fun ls hl => ?_)
            refine lv_goto (tgt := 13) hx hb dX2_nextToLoad_58 (by decide) ?_
            have hl := lv_conv hl (l2 := [(4, .int (iI ((i + 1 : Nat) : Int))), (5, .null), (0, .ref (ad 0 (0))), (1, va_rf ((bestB σ (min (i + 1) (σ 8 0))).map (ad 5))), (2, .ref (ad 1 (0))), (3, .int (iI ((40 : Nat) : Int)))]) (by rw [show bestB σ (min (i + 1) (σ 8 0)) = none from by rw [show min (i + 1) (σ 8 0) = min i (σ 8 0) from by omega]; exact n_3]; rfl)
            exact ih_13 (i + 1) (by omega) (by omega) H locs ls hP hS (lv_sub hl [2, 3, 4, 5, 0] rfl)
      | some b_4 =>
        rw [n_3] at hl
        have hl : lv_has ls 6 [(0, .ref (ad 0 (0))), (1, .ref (ad 5 (b_4))), (2, .ref (ad 1 (0))), (3, .int (iI ((40 : Nat) : Int))), (4, .int (iI ((i : Nat) : Int)))] := hl
        have n_3b : b_4 < σ 8 0 := by (have := bestB_lt n_3; omega)
        refine lv_iload hx hb dX2_nextToLoad_13 (lv_at hl 4 rfl) ?_
        refine lv_iload_n hx hb dX2_nextToLoad_15 rfl (lv_at hl 3 rfl) ?_
        have hn40 := hI.n
        refine fw_icmp_ge (x := ((i : Nat) : Int)) (y := ((40 : Nat) : Int)) (tgt := 61) hx hb dX2_nextToLoad_16 (by decide) ⟨by omega, by omega⟩ ⟨by omega, by omega⟩ (fun c_9 => ?_) (fun c_9 => ?_)
        · refine lv_aload_n hx hb dX2_nextToLoad_61 rfl (lv_at hl 1 rfl) ?_
          subst hQ
          exact fw_rret hx hb hr (Or.inl ⟨_, rfl⟩) hlocks dX2_nextToLoad_62 hP hS ⟨by rw [show bestB σ (σ 8 0) = some b_4 from by rw [show min i (σ 8 0) = σ 8 0 from by omega] at n_3; exact n_3]; rfl, rfl⟩
        · refine lv_aload_n hx hb dX2_nextToLoad_19 rfl (lv_at hl 2 rfl) ?_
          refine lv_iload hx hb dX2_nextToLoad_20 (lv_at hl 4 rfl) ?_
          refine fw_aldN (j := i) hx hb hK hP WC_1 2 rfl (by omega) (by decide) dX2_nextToLoad_22 ?_
          by_cases n_10 : i < σ 8 0
          · refine fw_top (v' := .ref (ad 5 (i))) (by rw [if_pos n_10]; rfl) ?_
            refine lv_astore (lv' := [(5, .ref (ad 5 (i))), (0, .ref (ad 0 (0))), (1, .ref (ad 5 (b_4))), (2, .ref (ad 1 (0))), (3, .int (iI ((40 : Nat) : Int))), (4, .int (iI ((i : Nat) : Int)))]) hx hb dX2_nextToLoad_23 hl (by decide) rfl (fun ls hl => ?_)
            refine lv_aload hx hb dX2_nextToLoad_25 (lv_at hl 0 rfl) ?_
            refine lv_ifnull hx hb dX2_nextToLoad_27 ?_
            refine lv_aload_n hx hb dX2_nextToLoad_30 rfl (lv_at hl 2 rfl) ?_
            refine lv_ifnull hx hb dX2_nextToLoad_31 ?_
            refine lv_aload hx hb dX2_nextToLoad_34 (lv_at hl 0 rfl) ?_
            refine lv_aload_n hx hb dX2_nextToLoad_36 rfl (lv_at hl 2 rfl) ?_
            refine fw_cVi (As := [.ref (ad 5 (b_4))]) (rest := []) ⟨hx, hb, hml, hown, hts⟩ (c_X0_goesBefore l D cA z ad σ μ i b_4 hI n_10 n_3b) (cwV 1 hts gX2_nextToLoad_X0_goesBefore rfl rfl rfl (by decide +kernel) ⟨Nat.le_of_ble_eq_true rfl, Nat.le_of_ble_eq_true rfl⟩) (WC_5 n_10) rfl rfl hl.1 (Nat.le_of_ble_eq_true rfl) dX2_nextToLoad_37 ⟨Nat.le_of_ble_eq_true rfl, Nat.le_of_ble_eq_true rfl⟩ hK hP hS rfl (fun r w' H locs q_11 hP hS => ?_)
            obtain ⟨rfl, rfl⟩ := q_11
            have hc_12 := hI.c i
            refine fw_if_eqB (x := decide (σ 2 b_4 < σ 2 i ∨ σ 2 i = σ 2 b_4 ∧ σ 0 b_4 < σ 0 i)) (tgt := 55) hx hb dX2_nextToLoad_40 (by decide) (fun c_13 => ?_) (fun c_13 => ?_)
            · replace c_13 := of_decide_eq_false c_13
              refine fw_iincN (x := i) (lv' := [(4, .int (iI ((i + 1 : Nat) : Int))), (5, .ref (ad 5 (i))), (0, .ref (ad 0 (0))), (1, .ref (ad 5 (b_4))), (2, .ref (ad 1 (0))), (3, .int (iI ((40 : Nat) : Int)))]) hx hb dX2_nextToLoad_55 hl (k := 5) rfl (by decide) rfl (fun ls hl => ?_)
              refine lv_goto (tgt := 13) hx hb dX2_nextToLoad_58 (by decide) ?_
              have hl := lv_conv hl (l2 := [(4, .int (iI ((i + 1 : Nat) : Int))), (5, .ref (ad 5 (i))), (0, .ref (ad 0 (0))), (1, va_rf ((bestB σ (min (i + 1) (σ 8 0))).map (ad 5))), (2, .ref (ad 1 (0))), (3, .int (iI ((40 : Nat) : Int)))]) (by rw [show bestB σ (min (i + 1) (σ 8 0)) = some b_4 from by (have hbb : bestB σ i = some b_4 := (by rw [show i = min i (σ 8 0) from by omega]; exact n_3); rw [show min (i + 1) (σ 8 0) = i + 1 from by omega, bestB, if_neg, hbb]; rw [cB_t, hbb]; rintro ⟨q1, q2⟩; first | exact absurd q1 (by assumption) | exact absurd (q2 _ rfl) (by assumption))]; rfl)
              exact ih_13 (i + 1) (by omega) (by omega) H locs ls hP hS (lv_sub hl [2, 3, 4, 5, 0] rfl)
            · replace c_13 := of_decide_eq_true c_13
              refine lv_aload_n hx hb dX2_nextToLoad_43 rfl (lv_at hl 1 rfl) ?_
              refine lv_aload hx hb dX2_nextToLoad_44 (lv_at hl 0 rfl) ?_
              refine fw_cVi (As := [.ref (ad 5 (i))]) (rest := []) ⟨hx, hb, hml, hown, hts⟩ (c_X2_hasChoice l D cA z ad σ μ i hI n_10) (cwV 1 hts gX2_nextToLoad_X2_hasChoice rfl rfl rfl (by decide +kernel) ⟨Nat.le_of_ble_eq_true rfl, Nat.le_of_ble_eq_true rfl⟩) WC_0 rfl rfl hl.1 (Nat.le_of_ble_eq_true rfl) dX2_nextToLoad_46 ⟨Nat.le_of_ble_eq_true rfl, Nat.le_of_ble_eq_true rfl⟩ hK hP hS rfl (fun r w' H locs q_14 hP hS => ?_)
              obtain ⟨rfl, rfl⟩ := q_14
              refine fw_if_eqB (x := cB (fitsSome σ i)) (tgt := 55) hx hb dX2_nextToLoad_49 (by decide) (fun c_15 => ?_) (fun c_15 => ?_)
              · replace c_15 := cB_f.mp c_15
                refine fw_iincN (x := i) (lv' := [(4, .int (iI ((i + 1 : Nat) : Int))), (5, .ref (ad 5 (i))), (0, .ref (ad 0 (0))), (1, .ref (ad 5 (b_4))), (2, .ref (ad 1 (0))), (3, .int (iI ((40 : Nat) : Int)))]) hx hb dX2_nextToLoad_55 hl (k := 5) rfl (by decide) rfl (fun ls hl => ?_)
                refine lv_goto (tgt := 13) hx hb dX2_nextToLoad_58 (by decide) ?_
                have hl := lv_conv hl (l2 := [(4, .int (iI ((i + 1 : Nat) : Int))), (5, .ref (ad 5 (i))), (0, .ref (ad 0 (0))), (1, va_rf ((bestB σ (min (i + 1) (σ 8 0))).map (ad 5))), (2, .ref (ad 1 (0))), (3, .int (iI ((40 : Nat) : Int)))]) (by rw [show bestB σ (min (i + 1) (σ 8 0)) = some b_4 from by (have hbb : bestB σ i = some b_4 := (by rw [show i = min i (σ 8 0) from by omega]; exact n_3); rw [show min (i + 1) (σ 8 0) = i + 1 from by omega, bestB, if_neg, hbb]; rw [cB_t, hbb]; rintro ⟨q1, q2⟩; first | exact absurd q1 (by assumption) | exact absurd (q2 _ rfl) (by assumption))]; rfl)
                exact ih_13 (i + 1) (by omega) (by omega) H locs ls hP hS (lv_sub hl [2, 3, 4, 5, 0] rfl)
              · replace c_15 := cB_t.mp c_15
                refine lv_aload hx hb dX2_nextToLoad_52 (lv_at hl 0 rfl) ?_
                refine lv_astore_n (lv' := [(1, .ref (ad 5 (i))), (5, .ref (ad 5 (i))), (0, .ref (ad 0 (0))), (2, .ref (ad 1 (0))), (3, .int (iI ((40 : Nat) : Int))), (4, .int (iI ((i : Nat) : Int)))]) hx hb dX2_nextToLoad_54 rfl hl (by decide) rfl (fun ls hl => ?_)
                refine fw_iincN (x := i) (lv' := [(4, .int (iI ((i + 1 : Nat) : Int))), (1, .ref (ad 5 (i))), (5, .ref (ad 5 (i))), (0, .ref (ad 0 (0))), (2, .ref (ad 1 (0))), (3, .int (iI ((40 : Nat) : Int)))]) hx hb dX2_nextToLoad_55 hl (k := 5) rfl (by decide) rfl (fun ls hl => ?_)
                refine lv_goto (tgt := 13) hx hb dX2_nextToLoad_58 (by decide) ?_
                have hl := lv_conv hl (l2 := [(4, .int (iI ((i + 1 : Nat) : Int))), (1, va_rf ((bestB σ (min (i + 1) (σ 8 0))).map (ad 5))), (5, .ref (ad 5 (i))), (0, .ref (ad 0 (0))), (2, .ref (ad 1 (0))), (3, .int (iI ((40 : Nat) : Int)))]) (by rw [show bestB σ (min (i + 1) (σ 8 0)) = some i from by (have hbb : bestB σ i = some b_4 := (by rw [show i = min i (σ 8 0) from by omega]; exact n_3); rw [show min (i + 1) (σ 8 0) = i + 1 from by omega, bestB, if_pos]; rw [cB_t, hbb]; refine ⟨by assumption, fun b hb => ?_⟩; cases hb <;> assumption)]; rfl)
                exact ih_13 (i + 1) (by omega) (by omega) H locs ls hP hS (lv_sub hl [3, 1, 4, 5, 0] rfl)
          · refine fw_top (v' := .null) (by rw [if_neg n_10]; rfl) ?_
            refine lv_astoreN (lv' := [(5, .null), (0, .ref (ad 0 (0))), (1, .ref (ad 5 (b_4))), (2, .ref (ad 1 (0))), (3, .int (iI ((40 : Nat) : Int))), (4, .int (iI ((i : Nat) : Int)))]) hx hb dX2_nextToLoad_23 hl (by decide) rfl (fun ls hl => ?_)
            refine lv_aloadN hx hb dX2_nextToLoad_25 (lv_at hl 0 rfl) ?_
            refine lv_ifnullN (tgt := 55) hx hb dX2_nextToLoad_27 (by decide) ?_
            refine fw_iincN (x := i) (lv' := [(4, .int (iI ((i + 1 : Nat) : Int))), (5, .null), (0, .ref (ad 0 (0))), (1, .ref (ad 5 (b_4))), (2, .ref (ad 1 (0))), (3, .int (iI ((40 : Nat) : Int)))]) hx hb dX2_nextToLoad_55 hl (k := 5) rfl (by decide) rfl (fun ls hl => ?_)
            refine lv_goto (tgt := 13) hx hb dX2_nextToLoad_58 (by decide) ?_
            have hl := lv_conv hl (l2 := [(4, .int (iI ((i + 1 : Nat) : Int))), (5, .null), (0, .ref (ad 0 (0))), (1, va_rf ((bestB σ (min (i + 1) (σ 8 0))).map (ad 5))), (2, .ref (ad 1 (0))), (3, .int (iI ((40 : Nat) : Int)))]) (by rw [show bestB σ (min (i + 1) (σ 8 0)) = some b_4 from by rw [show min (i + 1) (σ 8 0) = min i (σ 8 0) from by omega]; exact n_3]; rfl)
            exact ih_13 (i + 1) (by omega) (by omega) H locs ls hP hS (lv_sub hl [2, 3, 4, 5, 0] rfl)
  have hl := lv_conv hl (l2 := [(4, .int (iI ((0 : Nat) : Int))), (3, .int (iI ((40 : Nat) : Int))), (2, .ref (ad 1 (0))), (1, va_rf ((bestB σ (min 0 (σ 8 0))).map (ad 5))), (0, .ref (ad 0 (0)))]) (by rw [show bestB σ (min 0 (σ 8 0)) = none from by rw [show min 0 (σ 8 0) = 0 from by omega]; rfl]; rfl)
  exact loop_13 (40 + 1) (0) (by omega) (by omega) H locs ls hP hS (lv_sub hl [4, 3, 2, 1, 0] rfl)

abbrev rm_X2_moment : Room := { frames := 1, cells := 0, slots := 0, locals := 25 }
abbrev po_X2_moment (cA : Nat → ClassId) (ad : fw_Ad) (σ : St) (μ : fw_W) (b : Bool) : Int32 → fw_W → Prop := fun r w' => r = iI (mom σ b) ∧ w' = WC cA ad σ μ
set_option maxHeartbeats 4000000 in
set_option maxRecDepth 100000 in
theorem c_X2_moment (l : Launch) (D : va_G) (cA : Nat → ClassId) (z : Nat) (ad : fw_Ad) (σ : St) (μ : fw_W) (b : Bool) (hI : Inv σ) : Met l yX2_moment wsX2_moment rm_X2_moment (va_Pc [.ref (ad 0 (0)), .int (iI (bI (b)))] (fw_Pre D vwCl (fw_T cA) z ad (WC cA ad σ μ))) (fw_Qi D vwCl z ad (po_X2_moment cA ad σ μ b)) 0 0 (fw_A z) := by
  refine Met.ofW (cc := cX2_moment) (maxL := 7) (ret := (some .int)) (by decide) rfl ?_
  intro pg en s m args below meth cd s₁ B hml hv
  obtain ⟨hargs, hP, hK⟩ := hv
  have hx := B.exec
  have hb := B.bytes
  have hr := B.returns
  have hts := atoms_spec (ws := wsX2_moment) B.pre
  have hown : s.vm.findClass RX2 = some m.cls := findClass_of_methodNamed B.named
  have hlocks := B.notSynchronized
  have hinX2 : ∀ w ∈ u_ws RX2 TX2 8, w ∈ wsX2_moment := by decide +kernel
  have hf17 := hts (.fieldLink RX2 17 "StowagePlan" "stacks" "[LStowagePlan$Stack;") (by decide +kernel)
  have hl := lv_entry ([.ref (ad 0 (0)), .int (iI (bI (b)))]) (n := 7) (Nat.le_of_ble_eq_true rfl)
  have hent : entryFrame m args 7 = entryFrame m ([.ref (ad 0 (0)), .int (iI (bI (b)))] : List Value).toArray 7 := by rw [hargs]
  rw [hent, lg_entry_eq]
  generalize (lg_sl ([.ref (ad 0 (0)), .int (iI (bI (b)))]) ++ List.replicate (7 - (lg_sl ([.ref (ad 0 (0)), .int (iI (bI (b)))])).length) Slot.unset).toArray = ls at hl ⊢
  have hl : lv_has ls 7 [(0, .ref (ad 0 (0))), (1, .int (iI (bI (b))))] := hl
  generalize hQ : MQ below (fw_Qi D vwCl z ad (po_X2_moment cA ad σ μ b)) args s 0 0 (fw_A z) = Q
  generalize hH : s.heap = H at hP ⊢
  have hS : va_S (fw_A z) s.heap H [] := by rw [← hH]; exact va_S.rf
  generalize ([] : List Loc) = locs at hS ⊢
  refine lv_iconst (v := iI ((0 : Nat) : Int)) hx hb dX2_moment_0 (by decide) ?_
  refine lv_istore_n (lv' := [(2, .int (iI ((0 : Nat) : Int))), (0, .ref (ad 0 (0))), (1, .int (iI (bI (b))))]) hx hb dX2_moment_1 rfl hl (by decide) rfl (fun ls hl => ?_)
  refine lv_aload_n hx hb dX2_moment_2 rfl (lv_at hl 1 rfl) ?_
  refine fw_get (ci := 2) (v := .ref (ad 2 (0))) (C := RX2) (T := TX2) (N := 8) hx hb hts hinX2 hown hK hP WC_0 rfl 1 (by decide) hf17 (fun _ h9 => h9) rfl dX2_moment_3 ?_
  have hn_1 := hI.n
  have hm_2 := hI.lim
  refine lv_astore_n (lv' := [(3, .ref (ad 2 (0))), (2, .int (iI ((0 : Nat) : Int))), (0, .ref (ad 0 (0))), (1, .int (iI (bI (b))))]) hx hb dX2_moment_6 rfl hl (by decide) rfl (fun ls hl => ?_)
  refine lv_aload_n hx hb dX2_moment_7 rfl (lv_at hl 0 rfl) ?_
  refine fw_alen (v := iI ((30 : Nat) : Int)) hx hb hK hP WC_2 3 rfl rfl dX2_moment_8 ?_
  refine lv_istore (lv' := [(4, .int (iI ((30 : Nat) : Int))), (3, .ref (ad 2 (0))), (2, .int (iI ((0 : Nat) : Int))), (0, .ref (ad 0 (0))), (1, .int (iI (bI (b))))]) hx hb dX2_moment_9 hl (by decide) rfl (fun ls hl => ?_)
  refine lv_iconst (v := iI ((0 : Nat) : Int)) hx hb dX2_moment_11 (by decide) ?_
  refine lv_istore (lv' := [(5, .int (iI ((0 : Nat) : Int))), (4, .int (iI ((30 : Nat) : Int))), (3, .ref (ad 2 (0))), (2, .int (iI ((0 : Nat) : Int))), (0, .ref (ad 0 (0))), (1, .int (iI (bI (b))))]) hx hb dX2_moment_12 hl (by decide) rfl (fun ls hl => ?_)
  have loop_14 : ∀ (dd i : Nat) (a : Int), 30 + 1 ≤ i + dd → i ≤ 30 → a = sumI (fun k => ((wOf σ k : Nat) : Int) * arm b k) i → ∀ (H : Heap) (locs : List Loc) (ls : Array Slot), fw_P D vwCl z ad (WC cA ad σ μ) H → va_S (fw_A z) s.heap H locs → lv_has ls 7 [(0, .ref (ad 0 (0))), (1, .int (iI (bI (b)))), (2, .int (iI (a))), (3, .ref (ad 2 (0))), (4, .int (iI ((30 : Nat) : Int))), (5, .int (iI ((i : Nat) : Int)))] → W pg l en (headSpec wsX2_moment rm_X2_moment).room s m args below meth cd H locs 0 0 Q (F0 m 14 ls []) := by
    intro dd
    induction dd with
    | zero => intro i a hd_14 hi_14; omega
    | succ dd ih_14 =>
      intro i a hd_14 hi_14 e_a H locs ls hP hS hl
      subst e_a
      refine lv_iload hx hb dX2_moment_14 (lv_at hl 5 rfl) ?_
      refine lv_iload hx hb dX2_moment_16 (lv_at hl 4 rfl) ?_
      refine fw_icmp_ge (x := ((i : Nat) : Int)) (y := ((30 : Nat) : Int)) (tgt := 64) hx hb dX2_moment_18 (by decide) ⟨by omega, by omega⟩ ⟨by omega, by omega⟩ (fun c_3 => ?_) (fun c_3 => ?_)
      · refine lv_iload_n hx hb dX2_moment_64 rfl (lv_at hl 2 rfl) ?_
        subst hQ
        exact fw_iret hx hb hr hlocks dX2_moment_65 hP hS ⟨by rw [show i = 30 from by omega, mom_stk hI], rfl⟩
      · refine lv_aload_n hx hb dX2_moment_21 rfl (lv_at hl 3 rfl) ?_
        refine lv_iload hx hb dX2_moment_22 (lv_at hl 5 rfl) ?_
        refine fw_aldN (j := i) hx hb hK hP WC_2 3 rfl (by omega) (by decide) dX2_moment_24 ?_
        refine fw_top (v' := .ref (ad 3 (i))) rfl ?_
        refine lv_astore (lv' := [(6, .ref (ad 3 (i))), (0, .ref (ad 0 (0))), (1, .int (iI (bI (b)))), (2, .int (iI (sumI (fun k => ((wOf σ k : Nat) : Int) * arm b k) i))), (3, .ref (ad 2 (0))), (4, .int (iI ((30 : Nat) : Int))), (5, .int (iI ((i : Nat) : Int)))]) hx hb dX2_moment_25 hl (by decide) rfl (fun ls hl => ?_)
        refine lv_aload hx hb dX2_moment_27 (lv_at hl 0 rfl) ?_
        refine lv_ifnull hx hb dX2_moment_29 ?_
        refine lv_iload_n hx hb dX2_moment_32 rfl (lv_at hl 3 rfl) ?_
        refine lv_aload hx hb dX2_moment_33 (lv_at hl 0 rfl) ?_
        refine fw_cVi (As := []) (rest := [.int (iI (sumI (fun k => ((wOf σ k : Nat) : Int) * arm b k) i))]) ⟨hx, hb, hml, hown, hts⟩ (c_X1_weightSum l D cA z ad σ μ i hI (by omega)) (cwV 0 hts gX2_moment_X1_weightSum rfl rfl rfl (by decide +kernel) ⟨Nat.le_of_ble_eq_true rfl, Nat.le_of_ble_eq_true rfl⟩) (WC_3 (by omega)) rfl rfl hl.1 (Nat.le_of_ble_eq_true rfl) dX2_moment_35 ⟨Nat.le_of_ble_eq_true rfl, Nat.le_of_ble_eq_true rfl⟩ hK hP hS rfl (fun r w' H locs q_4 hP hS => ?_)
        obtain ⟨rfl, rfl⟩ := q_4
        have hh_5 := high_le hI i
        have hp_6 := hI.pl i
        refine lv_iload_n hx hb dX2_moment_38 rfl (lv_at hl 2 rfl) ?_
        refine fw_if_eqB (x := b) (tgt := 50) hx hb dX2_moment_39 (by decide) (fun c_7 => ?_) (fun c_7 => ?_)
        · refine lv_aload hx hb dX2_moment_50 (lv_at hl 0 rfl) ?_
          refine fw_cVi (As := []) (rest := [.int (iI ((wOf σ i : Nat) : Int)), .int (iI (sumI (fun k => ((wOf σ k : Nat) : Int) * arm b k) i))]) ⟨hx, hb, hml, hown, hts⟩ (c_X1_listArm l D cA z ad σ μ i hI (by omega)) (cwV 0 hts gX2_moment_X1_listArm rfl rfl rfl (by decide +kernel) ⟨Nat.le_of_ble_eq_true rfl, Nat.le_of_ble_eq_true rfl⟩) (WC_3 (by omega)) rfl rfl hl.1 (Nat.le_of_ble_eq_true rfl) dX2_moment_52 ⟨Nat.le_of_ble_eq_true rfl, Nat.le_of_ble_eq_true rfl⟩ hK hP hS rfl (fun r w' H locs q_8 hP hS => ?_)
          obtain ⟨rfl, rfl⟩ := q_8
          refine fw_imul (a := ((wOf σ i : Nat) : Int)) (b := (((i % 5 : Nat) : Int) - ((2 : Nat) : Int))) hx hb dX2_moment_55 ?_
          refine fw_iadd (a := (sumI (fun k => ((wOf σ k : Nat) : Int) * arm b k) i)) (b := (((wOf σ i : Nat) : Int) * (((i % 5 : Nat) : Int) - ((2 : Nat) : Int)))) hx hb dX2_moment_56 ?_
          refine lv_istore_n (lv' := [(2, .int (iI ((sumI (fun k => ((wOf σ k : Nat) : Int) * arm b k) i) + (((wOf σ i : Nat) : Int) * (((i % 5 : Nat) : Int) - ((2 : Nat) : Int)))))), (6, .ref (ad 3 (i))), (0, .ref (ad 0 (0))), (1, .int (iI (bI (b)))), (3, .ref (ad 2 (0))), (4, .int (iI ((30 : Nat) : Int))), (5, .int (iI ((i : Nat) : Int)))]) hx hb dX2_moment_57 rfl hl (by decide) rfl (fun ls hl => ?_)
          refine fw_iincN (x := i) (lv' := [(5, .int (iI ((i + 1 : Nat) : Int))), (2, .int (iI ((sumI (fun k => ((wOf σ k : Nat) : Int) * arm b k) i) + (((wOf σ i : Nat) : Int) * (((i % 5 : Nat) : Int) - ((2 : Nat) : Int)))))), (6, .ref (ad 3 (i))), (0, .ref (ad 0 (0))), (1, .int (iI (bI (b)))), (3, .ref (ad 2 (0))), (4, .int (iI ((30 : Nat) : Int)))]) hx hb dX2_moment_58 hl (k := 6) rfl (by decide) rfl (fun ls hl => ?_)
          refine lv_goto (tgt := 14) hx hb dX2_moment_61 (by decide) ?_
          exact ih_14 (i + 1) _ (by omega) (by omega) (by rw [sumI]; unfold arm; first | rw [if_pos (by assumption)] | (rw [if_neg (by simp_all)])) H locs ls hP hS (lv_sub hl [3, 4, 1, 5, 6, 0] rfl)
        · refine lv_aload hx hb dX2_moment_42 (lv_at hl 0 rfl) ?_
          refine fw_cVi (As := []) (rest := [.int (iI ((wOf σ i : Nat) : Int)), .int (iI (sumI (fun k => ((wOf σ k : Nat) : Int) * arm b k) i))]) ⟨hx, hb, hml, hown, hts⟩ (c_X1_trimArm l D cA z ad σ μ i hI (by omega)) (cwV 0 hts gX2_moment_X1_trimArm rfl rfl rfl (by decide +kernel) ⟨Nat.le_of_ble_eq_true rfl, Nat.le_of_ble_eq_true rfl⟩) (WC_3 (by omega)) rfl rfl hl.1 (Nat.le_of_ble_eq_true rfl) dX2_moment_44 ⟨Nat.le_of_ble_eq_true rfl, Nat.le_of_ble_eq_true rfl⟩ hK hP hS rfl (fun r w' H locs q_9 hP hS => ?_)
          obtain ⟨rfl, rfl⟩ := q_9
          refine lv_goto (tgt := 55) hx hb dX2_moment_47 (by decide) ?_
          refine fw_imul (a := ((wOf σ i : Nat) : Int)) (b := (((2 * (i / 5) : Nat) : Int) - ((5 : Nat) : Int))) hx hb dX2_moment_55 ?_
          refine fw_iadd (a := (sumI (fun k => ((wOf σ k : Nat) : Int) * arm b k) i)) (b := (((wOf σ i : Nat) : Int) * (((2 * (i / 5) : Nat) : Int) - ((5 : Nat) : Int)))) hx hb dX2_moment_56 ?_
          refine lv_istore_n (lv' := [(2, .int (iI ((sumI (fun k => ((wOf σ k : Nat) : Int) * arm b k) i) + (((wOf σ i : Nat) : Int) * (((2 * (i / 5) : Nat) : Int) - ((5 : Nat) : Int)))))), (6, .ref (ad 3 (i))), (0, .ref (ad 0 (0))), (1, .int (iI (bI (b)))), (3, .ref (ad 2 (0))), (4, .int (iI ((30 : Nat) : Int))), (5, .int (iI ((i : Nat) : Int)))]) hx hb dX2_moment_57 rfl hl (by decide) rfl (fun ls hl => ?_)
          refine fw_iincN (x := i) (lv' := [(5, .int (iI ((i + 1 : Nat) : Int))), (2, .int (iI ((sumI (fun k => ((wOf σ k : Nat) : Int) * arm b k) i) + (((wOf σ i : Nat) : Int) * (((2 * (i / 5) : Nat) : Int) - ((5 : Nat) : Int)))))), (6, .ref (ad 3 (i))), (0, .ref (ad 0 (0))), (1, .int (iI (bI (b)))), (3, .ref (ad 2 (0))), (4, .int (iI ((30 : Nat) : Int)))]) hx hb dX2_moment_58 hl (k := 6) rfl (by decide) rfl (fun ls hl => ?_)
          refine lv_goto (tgt := 14) hx hb dX2_moment_61 (by decide) ?_
          exact ih_14 (i + 1) _ (by omega) (by omega) (by rw [sumI]; unfold arm; first | rw [if_pos (by assumption)] | (rw [if_neg (by simp_all)])) H locs ls hP hS (lv_sub hl [3, 4, 1, 5, 6, 0] rfl)
  exact loop_14 (30 + 1) (0) _ (by omega) (by omega) (by rfl) H locs ls hP hS (lv_sub hl [4, 5, 3, 2, 1, 0] rfl)
