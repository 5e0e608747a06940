abbrev rm_X3_isIn : Room := { frames := 0, cells := 0, slots := 0, locals := 0 }
abbrev po_X3_isIn (cA : Nat → ClassId) (ad : fw_Ad) (w : fw_W) (x lo hi : Int) : Int32 → fw_W → Prop := fun r w' => r = iI (bI (decide (lo ≤ x ∧ x ≤ hi))) ∧ w' = w
set_option maxHeartbeats 4000000 in
set_option maxRecDepth 100000 in
theorem c_X3_isIn (l : Launch) (D : va_G) (cA : Nat → ClassId) (z : Nat) (ad : fw_Ad) (w : fw_W) (x lo hi : Int) (hx0 : -2147483648 ≤ x ∧ x ≤ 2147483647) (hlo : -2147483648 ≤ lo ∧ lo ≤ 2147483647) (hhi : -2147483648 ≤ hi ∧ hi ≤ 2147483647) : Met l yX3_isIn wsX3_isIn rm_X3_isIn (va_Pc [.int (iI (x)), .int (iI (lo)), .int (iI (hi))] (fw_Pre D vwCl (fw_T cA) z ad (w))) (fw_Qi D vwCl z ad (po_X3_isIn cA ad w x lo hi)) 0 0 (fw_A z) := by
  refine Met.ofW (cc := cX3_isIn) (maxL := 3) (ret := (some .boolean)) (by decide) rfl ?_
  intro pg en s m args below meth cd s₁ B hml hv
  obtain ⟨hargs, hP, hK⟩ := hv
  have hx := B.exec
  have hb := B.bytes
  have hr := B.returns
  have hts := atoms_spec (ws := wsX3_isIn) B.pre
  have hown : s.vm.findClass RX3 = some m.cls := findClass_of_methodNamed B.named
  have hlocks := B.notSynchronized
  have hl := lv_entry ([.int (iI (x)), .int (iI (lo)), .int (iI (hi))]) (n := 3) (Nat.le_of_ble_eq_true rfl)
  have hent : entryFrame m args 3 = entryFrame m ([.int (iI (x)), .int (iI (lo)), .int (iI (hi))] : List Value).toArray 3 := by rw [hargs]
  rw [hent, lg_entry_eq]
  generalize (lg_sl ([.int (iI (x)), .int (iI (lo)), .int (iI (hi))]) ++ List.replicate (3 - (lg_sl ([.int (iI (x)), .int (iI (lo)), .int (iI (hi))])).length) Slot.unset).toArray = ls at hl ⊢
  have hl : lv_has ls 3 [(0, .int (iI (x))), (1, .int (iI (lo))), (2, .int (iI (hi)))] := hl
  generalize hQ : MQ below (fw_Qi D vwCl z ad (po_X3_isIn cA ad w x lo hi)) args s 0 0 (fw_A z) = Q
  generalize hH : s.heap = H at hP ⊢
  have hS : va_S (fw_A z) s.heap H [] := by rw [← hH]; exact va_S.rf
  generalize ([] : List Loc) = locs at hS ⊢
  refine lv_iload_n hx hb dX3_isIn_0 rfl (lv_at hl 0 rfl) ?_
  refine lv_iload_n hx hb dX3_isIn_1 rfl (lv_at hl 1 rfl) ?_
  refine fw_icmp_lt (x := (x)) (y := (lo)) (tgt := 14) hx hb dX3_isIn_2 (by decide) ⟨by omega, by omega⟩ ⟨by omega, by omega⟩ (fun c_1 => ?_) (fun c_1 => ?_)
  · refine lv_iconst (v := iI ((0 : Nat) : Int)) hx hb dX3_isIn_14 (by decide) ?_
    subst hQ
    exact fw_zret hx hb hr hlocks dX3_isIn_15 hP hS rfl ⟨congrArg iI (bI_df (by omega)), rfl⟩
  · refine lv_iload_n hx hb dX3_isIn_5 rfl (lv_at hl 0 rfl) ?_
    refine lv_iload_n hx hb dX3_isIn_6 rfl (lv_at hl 2 rfl) ?_
    refine fw_icmp_gt (x := (x)) (y := (hi)) (tgt := 14) hx hb dX3_isIn_7 (by decide) ⟨by omega, by omega⟩ ⟨by omega, by omega⟩ (fun c_2 => ?_) (fun c_2 => ?_)
    · refine lv_iconst (v := iI ((0 : Nat) : Int)) hx hb dX3_isIn_14 (by decide) ?_
      subst hQ
      exact fw_zret hx hb hr hlocks dX3_isIn_15 hP hS rfl ⟨congrArg iI (bI_df (by omega)), rfl⟩
    · refine lv_iconst (v := iI ((1 : Nat) : Int)) hx hb dX3_isIn_10 (by decide) ?_
      refine lv_goto (tgt := 15) hx hb dX3_isIn_11 (by decide) ?_
      subst hQ
      exact fw_zret hx hb hr hlocks dX3_isIn_15 hP hS rfl ⟨congrArg iI (bI_dt (by omega)), rfl⟩

abbrev rm_X3_isContainer : Room := { frames := 1, cells := 0, slots := 0, locals := 22 }
abbrev po_X3_isContainer (cA : Nat → ClassId) (ad : fw_Ad) (σ : St) (th u a : Int) (μ : fw_W) (x : Int) : Int32 → fw_W → Prop := fun r w' => r = iI (bI (decide (0 ≤ x ∧ x < ((σ 8 0 : Nat) : Int)))) ∧ w' = WM cA ad σ th u a μ
set_option maxHeartbeats 4000000 in
set_option maxRecDepth 100000 in
theorem c_X3_isContainer (l : Launch) (D : va_G) (cA : Nat → ClassId) (z : Nat) (ad : fw_Ad) (σ : St) (th u a : Int) (μ : fw_W) (x : Int) (hI : Inv σ) (hx0 : -2147483648 ≤ x ∧ x ≤ 2147483647) : Met l yX3_isContainer wsX3_isContainer rm_X3_isContainer (va_Pc [.ref (ad 10 (0)), .int (iI (x))] (fw_Pre D vwCl (fw_T cA) z ad (WM cA ad σ th u a μ))) (fw_Qi D vwCl z ad (po_X3_isContainer cA ad σ th u a μ x)) 0 0 (fw_A z) := by
  refine Met.ofW (cc := cX3_isContainer) (maxL := 2) (ret := (some .boolean)) (by decide) rfl ?_
  intro pg en s m args below meth cd s₁ B hml hv
  obtain ⟨hargs, hP, hK⟩ := hv
  have hx := B.exec
  have hb := B.bytes
  have hr := B.returns
  have hts := atoms_spec (ws := wsX3_isContainer) B.pre
  have hown : s.vm.findClass RX3 = some m.cls := findClass_of_methodNamed B.named
  have hlocks := B.notSynchronized
  have hinX3 : ∀ w ∈ u_ws RX3 TX3 13, w ∈ wsX3_isContainer := by decide +kernel
  have hf36 := hts (.fieldLink RX3 36 "StowagePlanModel" "many" "I") (by decide +kernel)
  have hl := lv_entry ([.ref (ad 10 (0)), .int (iI (x))]) (n := 2) (Nat.le_of_ble_eq_true rfl)
  have hent : entryFrame m args 2 = entryFrame m ([.ref (ad 10 (0)), .int (iI (x))] : List Value).toArray 2 := by rw [hargs]
  rw [hent, lg_entry_eq]
  generalize (lg_sl ([.ref (ad 10 (0)), .int (iI (x))]) ++ List.replicate (2 - (lg_sl ([.ref (ad 10 (0)), .int (iI (x))])).length) Slot.unset).toArray = ls at hl ⊢
  have hl : lv_has ls 2 [(0, .ref (ad 10 (0))), (1, .int (iI (x)))] := hl
  generalize hQ : MQ below (fw_Qi D vwCl z ad (po_X3_isContainer cA ad σ th u a μ x)) args s 0 0 (fw_A z) = Q
  generalize hH : s.heap = H at hP ⊢
  have hS : va_S (fw_A z) s.heap H [] := by rw [← hH]; exact va_S.rf
  generalize ([] : List Loc) = locs at hS ⊢
  refine lv_iload_n hx hb dX3_isContainer_0 rfl (lv_at hl 1 rfl) ?_
  refine lv_iconst (v := iI ((0 : Nat) : Int)) hx hb dX3_isContainer_1 (by decide) ?_
  refine lv_aload_n hx hb dX3_isContainer_2 rfl (lv_at hl 0 rfl) ?_
  refine fw_get (ci := 3) (v := .int (iI ((σ 8 0 : Nat) : Int))) (C := RX3) (T := TX3) (N := 13) hx hb hts hinX3 hown hK hP WM_10 rfl 1 (by decide) hf36 (fun _ h9 => h9) rfl dX3_isContainer_3 ?_
  have hn_1 := hI.n
  have hm_2 := hI.lim
  refine lv_iconst (v := iI ((1 : Nat) : Int)) hx hb dX3_isContainer_6 (by decide) ?_
  refine fw_isub (a := ((σ 8 0 : Nat) : Int)) (b := ((1 : Nat) : Int)) hx hb dX3_isContainer_7 ?_
  refine fw_cSi (As := [.int (iI (x)), .int (iI ((0 : Nat) : Int)), .int (iI (((σ 8 0 : Nat) : Int) - ((1 : Nat) : Int)))]) (rest := []) ⟨hx, hb, hml, hown, hts⟩ (c_X3_isIn l D cA z ad (WM cA ad σ th u a μ) (x) ((0 : Nat) : Int) (((σ 8 0 : Nat) : Int) - ((1 : Nat) : Int)) ⟨by omega, by omega⟩ ⟨by omega, by omega⟩ ⟨by omega, by omega⟩) (va_cwS 3 hts gX3_isContainer_X3_isIn rfl rfl rfl (by decide +kernel) ⟨Nat.le_of_ble_eq_true rfl, Nat.le_of_ble_eq_true rfl⟩) rfl hl.1 (Nat.le_of_ble_eq_true rfl) dX3_isContainer_8 ⟨Nat.le_of_ble_eq_true rfl, Nat.le_of_ble_eq_true rfl⟩ hK hP hS rfl (fun r w' H locs q_3 hP hS => ?_)
  obtain ⟨rfl, rfl⟩ := q_3
  subst hQ
  exact fw_zret hx hb hr hlocks dX3_isContainer_11 hP hS (iI_narrow _) ⟨congrArg iI (congrArg bI (decide_eq_decide.mpr (by omega))), rfl⟩

abbrev rm_X3_isStack : Room := { frames := 1, cells := 0, slots := 0, locals := 22 }
abbrev po_X3_isStack (cA : Nat → ClassId) (ad : fw_Ad) (w : fw_W) (b q : Int) : Int32 → fw_W → Prop := fun r w' => r = iI (bI (decide ((0 ≤ b ∧ b ≤ 5) ∧ 0 ≤ q ∧ q ≤ 4))) ∧ w' = w
set_option maxHeartbeats 4000000 in
set_option maxRecDepth 100000 in
theorem c_X3_isStack (l : Launch) (D : va_G) (cA : Nat → ClassId) (z : Nat) (ad : fw_Ad) (w : fw_W) (b q : Int) (hb0 : -2147483648 ≤ b ∧ b ≤ 2147483647) (hq0 : -2147483648 ≤ q ∧ q ≤ 2147483647) : Met l yX3_isStack wsX3_isStack rm_X3_isStack (va_Pc [.int (iI (b)), .int (iI (q))] (fw_Pre D vwCl (fw_T cA) z ad (w))) (fw_Qi D vwCl z ad (po_X3_isStack cA ad w b q)) 0 0 (fw_A z) := by
  refine Met.ofW (cc := cX3_isStack) (maxL := 2) (ret := (some .boolean)) (by decide) rfl ?_
  intro pg en s m args below meth cd s₁ B hml hv
  obtain ⟨hargs, hP, hK⟩ := hv
  have hx := B.exec
  have hb := B.bytes
  have hr := B.returns
  have hts := atoms_spec (ws := wsX3_isStack) B.pre
  have hown : s.vm.findClass RX3 = some m.cls := findClass_of_methodNamed B.named
  have hlocks := B.notSynchronized
  have hl := lv_entry ([.int (iI (b)), .int (iI (q))]) (n := 2) (Nat.le_of_ble_eq_true rfl)
  have hent : entryFrame m args 2 = entryFrame m ([.int (iI (b)), .int (iI (q))] : List Value).toArray 2 := by rw [hargs]
  rw [hent, lg_entry_eq]
  generalize (lg_sl ([.int (iI (b)), .int (iI (q))]) ++ List.replicate (2 - (lg_sl ([.int (iI (b)), .int (iI (q))])).length) Slot.unset).toArray = ls at hl ⊢
  have hl : lv_has ls 2 [(0, .int (iI (b))), (1, .int (iI (q)))] := hl
  generalize hQ : MQ below (fw_Qi D vwCl z ad (po_X3_isStack cA ad w b q)) args s 0 0 (fw_A z) = Q
  generalize hH : s.heap = H at hP ⊢
  have hS : va_S (fw_A z) s.heap H [] := by rw [← hH]; exact va_S.rf
  generalize ([] : List Loc) = locs at hS ⊢
  refine lv_iload_n hx hb dX3_isStack_0 rfl (lv_at hl 0 rfl) ?_
  refine lv_iconst (v := iI ((0 : Nat) : Int)) hx hb dX3_isStack_1 (by decide) ?_
  refine lv_iconst (v := iI ((5 : Nat) : Int)) hx hb dX3_isStack_2 (by decide) ?_
  refine fw_cSi (As := [.int (iI (b)), .int (iI ((0 : Nat) : Int)), .int (iI ((5 : Nat) : Int))]) (rest := []) ⟨hx, hb, hml, hown, hts⟩ (c_X3_isIn l D cA z ad (w) (b) ((0 : Nat) : Int) ((5 : Nat) : Int) ⟨by omega, by omega⟩ ⟨by omega, by omega⟩ ⟨by omega, by omega⟩) (va_cwS 3 hts gX3_isStack_X3_isIn rfl rfl rfl (by decide +kernel) ⟨Nat.le_of_ble_eq_true rfl, Nat.le_of_ble_eq_true rfl⟩) rfl hl.1 (Nat.le_of_ble_eq_true rfl) dX3_isStack_3 ⟨Nat.le_of_ble_eq_true rfl, Nat.le_of_ble_eq_true rfl⟩ hK hP hS rfl (fun r w' H locs q_1 hP hS => ?_)
  obtain ⟨rfl, q_1w⟩ := q_1
  rw [q_1w] at hP
  refine fw_if_eqB (x := decide (((0 : Nat) : Int) ≤ (b) ∧ (b) ≤ ((5 : Nat) : Int))) (tgt := 22) hx hb dX3_isStack_6 (by decide) (fun c_2 => ?_) (fun c_2 => ?_)
  · replace c_2 := of_decide_eq_false c_2
    refine lv_iconst (v := iI ((0 : Nat) : Int)) hx hb dX3_isStack_22 (by decide) ?_
    subst hQ
    exact fw_zret hx hb hr hlocks dX3_isStack_23 hP hS rfl ⟨congrArg iI (bI_df (by omega)), rfl⟩
  · replace c_2 := of_decide_eq_true c_2
    refine lv_iload_n hx hb dX3_isStack_9 rfl (lv_at hl 1 rfl) ?_
    refine lv_iconst (v := iI ((0 : Nat) : Int)) hx hb dX3_isStack_10 (by decide) ?_
    refine lv_iconst (v := iI ((4 : Nat) : Int)) hx hb dX3_isStack_11 (by decide) ?_
    refine fw_cSi (As := [.int (iI (q)), .int (iI ((0 : Nat) : Int)), .int (iI ((4 : Nat) : Int))]) (rest := []) ⟨hx, hb, hml, hown, hts⟩ (c_X3_isIn l D cA z ad (w) (q) ((0 : Nat) : Int) ((4 : Nat) : Int) ⟨by omega, by omega⟩ ⟨by omega, by omega⟩ ⟨by omega, by omega⟩) (va_cwS 3 hts gX3_isStack_X3_isIn rfl rfl rfl (by decide +kernel) ⟨Nat.le_of_ble_eq_true rfl, Nat.le_of_ble_eq_true rfl⟩) rfl hl.1 (Nat.le_of_ble_eq_true rfl) dX3_isStack_12 ⟨Nat.le_of_ble_eq_true rfl, Nat.le_of_ble_eq_true rfl⟩ hK hP hS rfl (fun r w' H locs q_3 hP hS => ?_)
    obtain ⟨rfl, q_3w⟩ := q_3
    rw [q_3w] at hP
    refine fw_if_eqB (x := decide (((0 : Nat) : Int) ≤ (q) ∧ (q) ≤ ((4 : Nat) : Int))) (tgt := 22) hx hb dX3_isStack_15 (by decide) (fun c_4 => ?_) (fun c_4 => ?_)
    · replace c_4 := of_decide_eq_false c_4
      refine lv_iconst (v := iI ((0 : Nat) : Int)) hx hb dX3_isStack_22 (by decide) ?_
      subst hQ
      exact fw_zret hx hb hr hlocks dX3_isStack_23 hP hS rfl ⟨congrArg iI (bI_df (by omega)), rfl⟩
    · replace c_4 := of_decide_eq_true c_4
      refine lv_iconst (v := iI ((1 : Nat) : Int)) hx hb dX3_isStack_18 (by decide) ?_
      refine lv_goto (tgt := 23) hx hb dX3_isStack_19 (by decide) ?_
      subst hQ
      exact fw_zret hx hb hr hlocks dX3_isStack_23 hP hS rfl ⟨congrArg iI (bI_dt (by omega)), rfl⟩

abbrev rm_X3_stack : Room := { frames := 0, cells := 0, slots := 0, locals := 0 }
abbrev po_X3_stack (cA : Nat → ClassId) (ad : fw_Ad) (w : fw_W) (b q : Nat) : Int32 → fw_W → Prop := fun r w' => r = iI ((5 * b + q : Nat) : Int) ∧ w' = w
set_option maxHeartbeats 4000000 in
set_option maxRecDepth 100000 in
theorem c_X3_stack (l : Launch) (D : va_G) (cA : Nat → ClassId) (z : Nat) (ad : fw_Ad) (w : fw_W) (b q : Nat)  : Met l yX3_stack wsX3_stack rm_X3_stack (va_Pc [.int (iI ((b : Nat) : Int)), .int (iI ((q : Nat) : Int))] (fw_Pre D vwCl (fw_T cA) z ad (w))) (fw_Qi D vwCl z ad (po_X3_stack cA ad w b q)) 0 0 (fw_A z) := by
  refine Met.ofW (cc := cX3_stack) (maxL := 2) (ret := (some .int)) (by decide) rfl ?_
  intro pg en s m args below meth cd s₁ B hml hv
  obtain ⟨hargs, hP, hK⟩ := hv
  have hx := B.exec
  have hb := B.bytes
  have hr := B.returns
  have hts := atoms_spec (ws := wsX3_stack) B.pre
  have hown : s.vm.findClass RX3 = some m.cls := findClass_of_methodNamed B.named
  have hlocks := B.notSynchronized
  have hl := lv_entry ([.int (iI ((b : Nat) : Int)), .int (iI ((q : Nat) : Int))]) (n := 2) (Nat.le_of_ble_eq_true rfl)
  have hent : entryFrame m args 2 = entryFrame m ([.int (iI ((b : Nat) : Int)), .int (iI ((q : Nat) : Int))] : List Value).toArray 2 := by rw [hargs]
  rw [hent, lg_entry_eq]
  generalize (lg_sl ([.int (iI ((b : Nat) : Int)), .int (iI ((q : Nat) : Int))]) ++ List.replicate (2 - (lg_sl ([.int (iI ((b : Nat) : Int)), .int (iI ((q : Nat) : Int))])).length) Slot.unset).toArray = ls at hl ⊢
  have hl : lv_has ls 2 [(0, .int (iI ((b : Nat) : Int))), (1, .int (iI ((q : Nat) : Int)))] := hl
  generalize hQ : MQ below (fw_Qi D vwCl z ad (po_X3_stack cA ad w b q)) args s 0 0 (fw_A z) = Q
  generalize hH : s.heap = H at hP ⊢
  have hS : va_S (fw_A z) s.heap H [] := by rw [← hH]; exact va_S.rf
  generalize ([] : List Loc) = locs at hS ⊢
  refine lv_iconst (v := iI ((5 : Nat) : Int)) hx hb dX3_stack_0 (by decide) ?_
  refine lv_iload_n hx hb dX3_stack_1 rfl (lv_at hl 0 rfl) ?_
  refine fw_imulN (a := 5) (b := b) hx hb dX3_stack_2 ?_
  refine lv_iload_n hx hb dX3_stack_3 rfl (lv_at hl 1 rfl) ?_
  refine fw_iaddN (a := 5 * b) (b := q) hx hb dX3_stack_4 ?_
  subst hQ
  exact fw_iret hx hb hr hlocks dX3_stack_5 hP hS ⟨rfl, rfl⟩

abbrev rm_X3_heavy : Room := { frames := 0, cells := 0, slots := 0, locals := 0 }
abbrev po_X3_heavy (cA : Nat → ClassId) (ad : fw_Ad) (σ : St) (th u a : Int) (μ : fw_W) (c : Nat) : Int32 → fw_W → Prop := fun r w' => r = iI ((σ 0 c : Nat) : Int) ∧ w' = WM cA ad σ th u a μ
set_option maxHeartbeats 4000000 in
set_option maxRecDepth 100000 in
theorem c_X3_heavy (l : Launch) (D : va_G) (cA : Nat → ClassId) (z : Nat) (ad : fw_Ad) (σ : St) (th u a : Int) (μ : fw_W) (c : Nat) (hI : Bnd σ) (hc : c < 40) : Met l yX3_heavy wsX3_heavy rm_X3_heavy (va_Pc [.ref (ad 10 (0)), .int (iI ((c : Nat) : Int))] (fw_Pre D vwCl (fw_T cA) z ad (WM cA ad σ th u a μ))) (fw_Qi D vwCl z ad (po_X3_heavy cA ad σ th u a μ c)) 0 0 (fw_A z) := by
  refine Met.ofW (cc := cX3_heavy) (maxL := 2) (ret := (some .int)) (by decide) rfl ?_
  intro pg en s m args below meth cd s₁ B hml hv
  obtain ⟨hargs, hP, hK⟩ := hv
  have hx := B.exec
  have hb := B.bytes
  have hr := B.returns
  have hts := atoms_spec (ws := wsX3_heavy) B.pre
  have hown : s.vm.findClass RX3 = some m.cls := findClass_of_methodNamed B.named
  have hlocks := B.notSynchronized
  have hinX3 : ∀ w ∈ u_ws RX3 TX3 13, w ∈ wsX3_heavy := by decide +kernel
  have hf9 := hts (.fieldLink RX3 9 "StowagePlanModel" "table" "[I") (by decide +kernel)
  have hl := lv_entry ([.ref (ad 10 (0)), .int (iI ((c : Nat) : Int))]) (n := 2) (Nat.le_of_ble_eq_true rfl)
  have hent : entryFrame m args 2 = entryFrame m ([.ref (ad 10 (0)), .int (iI ((c : Nat) : Int))] : List Value).toArray 2 := by rw [hargs]
  rw [hent, lg_entry_eq]
  generalize (lg_sl ([.ref (ad 10 (0)), .int (iI ((c : Nat) : Int))]) ++ List.replicate (2 - (lg_sl ([.ref (ad 10 (0)), .int (iI ((c : Nat) : Int))])).length) Slot.unset).toArray = ls at hl ⊢
  have hl : lv_has ls 2 [(0, .ref (ad 10 (0))), (1, .int (iI ((c : Nat) : Int)))] := hl
  generalize hQ : MQ below (fw_Qi D vwCl z ad (po_X3_heavy cA ad σ th u a μ c)) args s 0 0 (fw_A z) = Q
  generalize hH : s.heap = H at hP ⊢
  have hS : va_S (fw_A z) s.heap H [] := by rw [← hH]; exact va_S.rf
  generalize ([] : List Loc) = locs at hS ⊢
  refine lv_aload_n hx hb dX3_heavy_0 rfl (lv_at hl 0 rfl) ?_
  refine fw_get (ci := 3) (v := .ref (ad 11 (0))) (C := RX3) (T := TX3) (N := 13) hx hb hts hinX3 hown hK hP WM_10 rfl 2 (by decide) hf9 (fun _ h9 => h9) rfl dX3_heavy_1 ?_
  have hn_1 := hI.n
  have hm_2 := hI.lim
  refine lv_iconst (v := iI ((5 : Nat) : Int)) hx hb dX3_heavy_4 (by decide) ?_
  refine lv_iload_n hx hb dX3_heavy_5 rfl (lv_at hl 1 rfl) ?_
  refine fw_imulN (a := 5) (b := c) hx hb dX3_heavy_6 ?_
  refine fw_ialdN (j := 5 * c) hx hb hK hP WM_11 0 rfl (by omega) (by decide) dX3_heavy_7 ?_
  refine fw_topI (b := ((σ 0 c : Nat) : Int)) (by rw [show (5 * c) % 5 = 0 from by omega, show (5 * c) / 5 = c from by omega]) ?_
  have hc_3 := hI.c c
  subst hQ
  exact fw_iret hx hb hr hlocks dX3_heavy_8 hP hS ⟨rfl, rfl⟩

abbrev rm_X3_to : Room := { frames := 0, cells := 0, slots := 0, locals := 0 }
abbrev po_X3_to (cA : Nat → ClassId) (ad : fw_Ad) (σ : St) (th u a : Int) (μ : fw_W) (c : Nat) : Int32 → fw_W → Prop := fun r w' => r = iI ((σ 2 c : Nat) : Int) ∧ w' = WM cA ad σ th u a μ
set_option maxHeartbeats 4000000 in
set_option maxRecDepth 100000 in
theorem c_X3_to (l : Launch) (D : va_G) (cA : Nat → ClassId) (z : Nat) (ad : fw_Ad) (σ : St) (th u a : Int) (μ : fw_W) (c : Nat) (hI : Bnd σ) (hc : c < 40) : Met l yX3_to wsX3_to rm_X3_to (va_Pc [.ref (ad 10 (0)), .int (iI ((c : Nat) : Int))] (fw_Pre D vwCl (fw_T cA) z ad (WM cA ad σ th u a μ))) (fw_Qi D vwCl z ad (po_X3_to cA ad σ th u a μ c)) 0 0 (fw_A z) := by
  refine Met.ofW (cc := cX3_to) (maxL := 2) (ret := (some .int)) (by decide) rfl ?_
  intro pg en s m args below meth cd s₁ B hml hv
  obtain ⟨hargs, hP, hK⟩ := hv
  have hx := B.exec
  have hb := B.bytes
  have hr := B.returns
  have hts := atoms_spec (ws := wsX3_to) B.pre
  have hown : s.vm.findClass RX3 = some m.cls := findClass_of_methodNamed B.named
  have hlocks := B.notSynchronized
  have hinX3 : ∀ w ∈ u_ws RX3 TX3 13, w ∈ wsX3_to := by decide +kernel
  have hf9 := hts (.fieldLink RX3 9 "StowagePlanModel" "table" "[I") (by decide +kernel)
  have hl := lv_entry ([.ref (ad 10 (0)), .int (iI ((c : Nat) : Int))]) (n := 2) (Nat.le_of_ble_eq_true rfl)
  have hent : entryFrame m args 2 = entryFrame m ([.ref (ad 10 (0)), .int (iI ((c : Nat) : Int))] : List Value).toArray 2 := by rw [hargs]
  rw [hent, lg_entry_eq]
  generalize (lg_sl ([.ref (ad 10 (0)), .int (iI ((c : Nat) : Int))]) ++ List.replicate (2 - (lg_sl ([.ref (ad 10 (0)), .int (iI ((c : Nat) : Int))])).length) Slot.unset).toArray = ls at hl ⊢
  have hl : lv_has ls 2 [(0, .ref (ad 10 (0))), (1, .int (iI ((c : Nat) : Int)))] := hl
  generalize hQ : MQ below (fw_Qi D vwCl z ad (po_X3_to cA ad σ th u a μ c)) args s 0 0 (fw_A z) = Q
  generalize hH : s.heap = H at hP ⊢
  have hS : va_S (fw_A z) s.heap H [] := by rw [← hH]; exact va_S.rf
  generalize ([] : List Loc) = locs at hS ⊢
  refine lv_aload_n hx hb dX3_to_0 rfl (lv_at hl 0 rfl) ?_
  refine fw_get (ci := 3) (v := .ref (ad 11 (0))) (C := RX3) (T := TX3) (N := 13) hx hb hts hinX3 hown hK hP WM_10 rfl 2 (by decide) hf9 (fun _ h9 => h9) rfl dX3_to_1 ?_
  have hn_1 := hI.n
  have hm_2 := hI.lim
  refine lv_iconst (v := iI ((5 : Nat) : Int)) hx hb dX3_to_4 (by decide) ?_
  refine lv_iload_n hx hb dX3_to_5 rfl (lv_at hl 1 rfl) ?_
  refine fw_imulN (a := 5) (b := c) hx hb dX3_to_6 ?_
  refine lv_iconst (v := iI ((2 : Nat) : Int)) hx hb dX3_to_7 (by decide) ?_
  refine fw_iaddN (a := 5 * c) (b := 2) hx hb dX3_to_8 ?_
  refine fw_ialdN (j := (5 * c) + 2) hx hb hK hP WM_11 0 rfl (by omega) (by decide) dX3_to_9 ?_
  refine fw_topI (b := ((σ 2 c : Nat) : Int)) (by rw [show ((5 * c) + 2) % 5 = 2 from by omega, show ((5 * c) + 2) / 5 = c from by omega]) ?_
  have hc_3 := hI.c c
  subst hQ
  exact fw_iret hx hb hr hlocks dX3_to_10 hP hS ⟨rfl, rfl⟩

abbrev rm_X3_kind : Room := { frames := 0, cells := 0, slots := 0, locals := 0 }
abbrev po_X3_kind (cA : Nat → ClassId) (ad : fw_Ad) (σ : St) (th u a : Int) (μ : fw_W) (c : Nat) : Int32 → fw_W → Prop := fun r w' => r = iI ((σ 3 c : Nat) : Int) ∧ w' = WM cA ad σ th u a μ
set_option maxHeartbeats 4000000 in
set_option maxRecDepth 100000 in
theorem c_X3_kind (l : Launch) (D : va_G) (cA : Nat → ClassId) (z : Nat) (ad : fw_Ad) (σ : St) (th u a : Int) (μ : fw_W) (c : Nat) (hI : Bnd σ) (hc : c < 40) : Met l yX3_kind wsX3_kind rm_X3_kind (va_Pc [.ref (ad 10 (0)), .int (iI ((c : Nat) : Int))] (fw_Pre D vwCl (fw_T cA) z ad (WM cA ad σ th u a μ))) (fw_Qi D vwCl z ad (po_X3_kind cA ad σ th u a μ c)) 0 0 (fw_A z) := by
  refine Met.ofW (cc := cX3_kind) (maxL := 2) (ret := (some .int)) (by decide) rfl ?_
  intro pg en s m args below meth cd s₁ B hml hv
  obtain ⟨hargs, hP, hK⟩ := hv
  have hx := B.exec
  have hb := B.bytes
  have hr := B.returns
  have hts := atoms_spec (ws := wsX3_kind) B.pre
  have hown : s.vm.findClass RX3 = some m.cls := findClass_of_methodNamed B.named
  have hlocks := B.notSynchronized
  have hinX3 : ∀ w ∈ u_ws RX3 TX3 13, w ∈ wsX3_kind := by decide +kernel
  have hf9 := hts (.fieldLink RX3 9 "StowagePlanModel" "table" "[I") (by decide +kernel)
  have hl := lv_entry ([.ref (ad 10 (0)), .int (iI ((c : Nat) : Int))]) (n := 2) (Nat.le_of_ble_eq_true rfl)
  have hent : entryFrame m args 2 = entryFrame m ([.ref (ad 10 (0)), .int (iI ((c : Nat) : Int))] : List Value).toArray 2 := by rw [hargs]
  rw [hent, lg_entry_eq]
  generalize (lg_sl ([.ref (ad 10 (0)), .int (iI ((c : Nat) : Int))]) ++ List.replicate (2 - (lg_sl ([.ref (ad 10 (0)), .int (iI ((c : Nat) : Int))])).length) Slot.unset).toArray = ls at hl ⊢
  have hl : lv_has ls 2 [(0, .ref (ad 10 (0))), (1, .int (iI ((c : Nat) : Int)))] := hl
  generalize hQ : MQ below (fw_Qi D vwCl z ad (po_X3_kind cA ad σ th u a μ c)) args s 0 0 (fw_A z) = Q
  generalize hH : s.heap = H at hP ⊢
  have hS : va_S (fw_A z) s.heap H [] := by rw [← hH]; exact va_S.rf
  generalize ([] : List Loc) = locs at hS ⊢
  refine lv_aload_n hx hb dX3_kind_0 rfl (lv_at hl 0 rfl) ?_
  refine fw_get (ci := 3) (v := .ref (ad 11 (0))) (C := RX3) (T := TX3) (N := 13) hx hb hts hinX3 hown hK hP WM_10 rfl 2 (by decide) hf9 (fun _ h9 => h9) rfl dX3_kind_1 ?_
  have hn_1 := hI.n
  have hm_2 := hI.lim
  refine lv_iconst (v := iI ((5 : Nat) : Int)) hx hb dX3_kind_4 (by decide) ?_
  refine lv_iload_n hx hb dX3_kind_5 rfl (lv_at hl 1 rfl) ?_
  refine fw_imulN (a := 5) (b := c) hx hb dX3_kind_6 ?_
  refine lv_iconst (v := iI ((3 : Nat) : Int)) hx hb dX3_kind_7 (by decide) ?_
  refine fw_iaddN (a := 5 * c) (b := 3) hx hb dX3_kind_8 ?_
  refine fw_ialdN (j := (5 * c) + 3) hx hb hK hP WM_11 0 rfl (by omega) (by decide) dX3_kind_9 ?_
  refine fw_topI (b := ((σ 3 c : Nat) : Int)) (by rw [show ((5 * c) + 3) % 5 = 3 from by omega, show ((5 * c) + 3) / 5 = c from by omega]) ?_
  have hc_3 := hI.c c
  subst hQ
  exact fw_iret hx hb hr hlocks dX3_kind_10 hP hS ⟨rfl, rfl⟩

abbrev rm_X3_state : Room := { frames := 0, cells := 0, slots := 0, locals := 0 }
abbrev po_X3_state (cA : Nat → ClassId) (ad : fw_Ad) (σ : St) (th u a : Int) (μ : fw_W) (c : Nat) : Int32 → fw_W → Prop := fun r w' => r = iI ((σ 4 c : Nat) : Int) ∧ w' = WM cA ad σ th u a μ
set_option maxHeartbeats 4000000 in
set_option maxRecDepth 100000 in
theorem c_X3_state (l : Launch) (D : va_G) (cA : Nat → ClassId) (z : Nat) (ad : fw_Ad) (σ : St) (th u a : Int) (μ : fw_W) (c : Nat) (hI : Bnd σ) (hc : c < 40) : Met l yX3_state wsX3_state rm_X3_state (va_Pc [.ref (ad 10 (0)), .int (iI ((c : Nat) : Int))] (fw_Pre D vwCl (fw_T cA) z ad (WM cA ad σ th u a μ))) (fw_Qi D vwCl z ad (po_X3_state cA ad σ th u a μ c)) 0 0 (fw_A z) := by
  refine Met.ofW (cc := cX3_state) (maxL := 2) (ret := (some .int)) (by decide) rfl ?_
  intro pg en s m args below meth cd s₁ B hml hv
  obtain ⟨hargs, hP, hK⟩ := hv
  have hx := B.exec
  have hb := B.bytes
  have hr := B.returns
  have hts := atoms_spec (ws := wsX3_state) B.pre
  have hown : s.vm.findClass RX3 = some m.cls := findClass_of_methodNamed B.named
  have hlocks := B.notSynchronized
  have hinX3 : ∀ w ∈ u_ws RX3 TX3 13, w ∈ wsX3_state := by decide +kernel
  have hf9 := hts (.fieldLink RX3 9 "StowagePlanModel" "table" "[I") (by decide +kernel)
  have hl := lv_entry ([.ref (ad 10 (0)), .int (iI ((c : Nat) : Int))]) (n := 2) (Nat.le_of_ble_eq_true rfl)
  have hent : entryFrame m args 2 = entryFrame m ([.ref (ad 10 (0)), .int (iI ((c : Nat) : Int))] : List Value).toArray 2 := by rw [hargs]
  rw [hent, lg_entry_eq]
  generalize (lg_sl ([.ref (ad 10 (0)), .int (iI ((c : Nat) : Int))]) ++ List.replicate (2 - (lg_sl ([.ref (ad 10 (0)), .int (iI ((c : Nat) : Int))])).length) Slot.unset).toArray = ls at hl ⊢
  have hl : lv_has ls 2 [(0, .ref (ad 10 (0))), (1, .int (iI ((c : Nat) : Int)))] := hl
  generalize hQ : MQ below (fw_Qi D vwCl z ad (po_X3_state cA ad σ th u a μ c)) args s 0 0 (fw_A z) = Q
  generalize hH : s.heap = H at hP ⊢
  have hS : va_S (fw_A z) s.heap H [] := by rw [← hH]; exact va_S.rf
  generalize ([] : List Loc) = locs at hS ⊢
  refine lv_aload_n hx hb dX3_state_0 rfl (lv_at hl 0 rfl) ?_
  refine fw_get (ci := 3) (v := .ref (ad 11 (0))) (C := RX3) (T := TX3) (N := 13) hx hb hts hinX3 hown hK hP WM_10 rfl 2 (by decide) hf9 (fun _ h9 => h9) rfl dX3_state_1 ?_
  have hn_1 := hI.n
  have hm_2 := hI.lim
  refine lv_iconst (v := iI ((5 : Nat) : Int)) hx hb dX3_state_4 (by decide) ?_
  refine lv_iload_n hx hb dX3_state_5 rfl (lv_at hl 1 rfl) ?_
  refine fw_imulN (a := 5) (b := c) hx hb dX3_state_6 ?_
  refine lv_iconst (v := iI ((4 : Nat) : Int)) hx hb dX3_state_7 (by decide) ?_
  refine fw_iaddN (a := 5 * c) (b := 4) hx hb dX3_state_8 ?_
  refine fw_ialdN (j := (5 * c) + 4) hx hb hK hP WM_11 0 rfl (by omega) (by decide) dX3_state_9 ?_
  refine fw_topI (b := ((σ 4 c : Nat) : Int)) (by rw [show ((5 * c) + 4) % 5 = 4 from by omega, show ((5 * c) + 4) / 5 = c from by omega]) ?_
  have hc_3 := hI.c c
  subst hQ
  exact fw_iret hx hb hr hlocks dX3_state_10 hP hS ⟨rfl, rfl⟩

abbrev rm_X3_isOn : Room := { frames := 1, cells := 0, slots := 0, locals := 21 }
abbrev po_X3_isOn (cA : Nat → ClassId) (ad : fw_Ad) (σ : St) (th u a : Int) (μ : fw_W) (c k : Nat) : Int32 → fw_W → Prop := fun r w' => r = iI (bI (isOn σ c k)) ∧ w' = WM cA ad σ th u a μ
set_option maxHeartbeats 4000000 in
set_option maxRecDepth 100000 in
theorem c_X3_isOn (l : Launch) (D : va_G) (cA : Nat → ClassId) (z : Nat) (ad : fw_Ad) (σ : St) (th u a : Int) (μ : fw_W) (c k : Nat) (hI : Bnd σ) (hc : c < 40) (hk : k < 30) : Met l yX3_isOn wsX3_isOn rm_X3_isOn (va_Pc [.ref (ad 10 (0)), .int (iI ((c : Nat) : Int)), .int (iI ((k : Nat) : Int))] (fw_Pre D vwCl (fw_T cA) z ad (WM cA ad σ th u a μ))) (fw_Qi D vwCl z ad (po_X3_isOn cA ad σ th u a μ c k)) 0 0 (fw_A z) := by
  refine Met.ofW (cc := cX3_isOn) (maxL := 3) (ret := (some .boolean)) (by decide) rfl ?_
  intro pg en s m args below meth cd s₁ B hml hv
  obtain ⟨hargs, hP, hK⟩ := hv
  have hx := B.exec
  have hb := B.bytes
  have hr := B.returns
  have hts := atoms_spec (ws := wsX3_isOn) B.pre
  have hown : s.vm.findClass RX3 = some m.cls := findClass_of_methodNamed B.named
  have hlocks := B.notSynchronized
  have hinX3 : ∀ w ∈ u_ws RX3 TX3 13, w ∈ wsX3_isOn := by decide +kernel
  have hf13 := hts (.fieldLink RX3 13 "StowagePlanModel" "stacks" "[I") (by decide +kernel)
  have hl := lv_entry ([.ref (ad 10 (0)), .int (iI ((c : Nat) : Int)), .int (iI ((k : Nat) : Int))]) (n := 3) (Nat.le_of_ble_eq_true rfl)
  have hent : entryFrame m args 3 = entryFrame m ([.ref (ad 10 (0)), .int (iI ((c : Nat) : Int)), .int (iI ((k : Nat) : Int))] : List Value).toArray 3 := by rw [hargs]
  rw [hent, lg_entry_eq]
  generalize (lg_sl ([.ref (ad 10 (0)), .int (iI ((c : Nat) : Int)), .int (iI ((k : Nat) : Int))]) ++ List.replicate (3 - (lg_sl ([.ref (ad 10 (0)), .int (iI ((c : Nat) : Int)), .int (iI ((k : Nat) : Int))])).length) Slot.unset).toArray = ls at hl ⊢
  have hl : lv_has ls 3 [(0, .ref (ad 10 (0))), (1, .int (iI ((c : Nat) : Int))), (2, .int (iI ((k : Nat) : Int)))] := hl
  generalize hQ : MQ below (fw_Qi D vwCl z ad (po_X3_isOn cA ad σ th u a μ c k)) args s 0 0 (fw_A z) = Q
  generalize hH : s.heap = H at hP ⊢
  have hS : va_S (fw_A z) s.heap H [] := by rw [← hH]; exact va_S.rf
  generalize ([] : List Loc) = locs at hS ⊢
  refine lv_aload_n hx hb dX3_isOn_0 rfl (lv_at hl 0 rfl) ?_
  refine lv_iload_n hx hb dX3_isOn_1 rfl (lv_at hl 1 rfl) ?_
  refine fw_cVi (As := [.int (iI ((c : Nat) : Int))]) (rest := []) ⟨hx, hb, hml, hown, hts⟩ (c_X3_state l D cA z ad σ th u a μ c hI (by omega)) (cwV 1 hts gX3_isOn_X3_state rfl rfl rfl (by decide +kernel) ⟨Nat.le_of_ble_eq_true rfl, Nat.le_of_ble_eq_true rfl⟩) WM_10 rfl rfl hl.1 (Nat.le_of_ble_eq_true rfl) dX3_isOn_2 ⟨Nat.le_of_ble_eq_true rfl, Nat.le_of_ble_eq_true rfl⟩ hK hP hS rfl (fun r w' H locs q_1 hP hS => ?_)
  obtain ⟨rfl, rfl⟩ := q_1
  have hc_2 := hI.c c
  have hn_3 := hI.n
  have hm_4 := hI.lim
  refine lv_iconst (v := iI ((1 : Nat) : Int)) hx hb dX3_isOn_5 (by decide) ?_
  refine fw_icmp_ne (x := ((σ 4 c : Nat) : Int)) (y := ((1 : Nat) : Int)) (tgt := 23) hx hb dX3_isOn_6 (by decide) ⟨by omega, by omega⟩ ⟨by omega, by omega⟩ (fun c_5 => ?_) (fun c_5 => ?_)
  · refine lv_iconst (v := iI ((0 : Nat) : Int)) hx hb dX3_isOn_23 (by decide) ?_
    subst hQ
    exact fw_zret hx hb hr hlocks dX3_isOn_24 hP hS rfl ⟨congrArg iI (by rw [isOn_f.mpr (by omega)]; rfl), rfl⟩
  · refine lv_aload_n hx hb dX3_isOn_9 rfl (lv_at hl 0 rfl) ?_
    refine fw_get (ci := 3) (v := .ref (ad 12 (0))) (C := RX3) (T := TX3) (N := 13) hx hb hts hinX3 hown hK hP WM_10 rfl 3 (by decide) hf13 (fun _ h9 => h9) rfl dX3_isOn_10 ?_
    refine lv_iload_n hx hb dX3_isOn_13 rfl (lv_at hl 1 rfl) ?_
    refine fw_ialdN (j := c) hx hb hK hP WM_12 0 rfl (by omega) (by decide) dX3_isOn_14 ?_
    refine fw_topI (b := ((σ 5 c : Nat) : Int)) rfl ?_
    refine lv_iload_n hx hb dX3_isOn_15 rfl (lv_at hl 2 rfl) ?_
    refine fw_icmp_ne (x := ((σ 5 c : Nat) : Int)) (y := ((k : Nat) : Int)) (tgt := 23) hx hb dX3_isOn_16 (by decide) ⟨by omega, by omega⟩ ⟨by omega, by omega⟩ (fun c_6 => ?_) (fun c_6 => ?_)
    · refine lv_iconst (v := iI ((0 : Nat) : Int)) hx hb dX3_isOn_23 (by decide) ?_
      subst hQ
      exact fw_zret hx hb hr hlocks dX3_isOn_24 hP hS rfl ⟨congrArg iI (by rw [isOn_f.mpr (by omega)]; rfl), rfl⟩
    · refine lv_iconst (v := iI ((1 : Nat) : Int)) hx hb dX3_isOn_19 (by decide) ?_
      refine lv_goto (tgt := 24) hx hb dX3_isOn_20 (by decide) ?_
      subst hQ
      exact fw_zret hx hb hr hlocks dX3_isOn_24 hP hS rfl ⟨congrArg iI (by rw [isOn_t.mpr ⟨by omega, by omega⟩]; rfl), rfl⟩

abbrev rm_X3_high : Room := { frames := 2, cells := 0, slots := 0, locals := 43 }
abbrev po_X3_high (cA : Nat → ClassId) (ad : fw_Ad) (σ : St) (th u a : Int) (μ : fw_W) (k : Nat) : Int32 → fw_W → Prop := fun r w' => r = iI ((high σ k : Nat) : Int) ∧ w' = WM cA ad σ th u a μ
set_option maxHeartbeats 4000000 in
set_option maxRecDepth 100000 in
theorem c_X3_high (l : Launch) (D : va_G) (cA : Nat → ClassId) (z : Nat) (ad : fw_Ad) (σ : St) (th u a : Int) (μ : fw_W) (k : Nat) (hI : Inv σ) (hk : k < 30) : Met l yX3_high wsX3_high rm_X3_high (va_Pc [.ref (ad 10 (0)), .int (iI ((k : Nat) : Int))] (fw_Pre D vwCl (fw_T cA) z ad (WM cA ad σ th u a μ))) (fw_Qi D vwCl z ad (po_X3_high cA ad σ th u a μ k)) 0 0 (fw_A z) := by
  refine Met.ofW (cc := cX3_high) (maxL := 4) (ret := (some .int)) (by decide) rfl ?_
  intro pg en s m args below meth cd s₁ B hml hv
  obtain ⟨hargs, hP, hK⟩ := hv
  have hx := B.exec
  have hb := B.bytes
  have hr := B.returns
  have hts := atoms_spec (ws := wsX3_high) B.pre
  have hown : s.vm.findClass RX3 = some m.cls := findClass_of_methodNamed B.named
  have hlocks := B.notSynchronized
  have hinX3 : ∀ w ∈ u_ws RX3 TX3 13, w ∈ wsX3_high := by decide +kernel
  have hf36 := hts (.fieldLink RX3 36 "StowagePlanModel" "many" "I") (by decide +kernel)
  have hl := lv_entry ([.ref (ad 10 (0)), .int (iI ((k : Nat) : Int))]) (n := 4) (Nat.le_of_ble_eq_true rfl)
  have hent : entryFrame m args 4 = entryFrame m ([.ref (ad 10 (0)), .int (iI ((k : Nat) : Int))] : List Value).toArray 4 := by rw [hargs]
  rw [hent, lg_entry_eq]
  generalize (lg_sl ([.ref (ad 10 (0)), .int (iI ((k : Nat) : Int))]) ++ List.replicate (4 - (lg_sl ([.ref (ad 10 (0)), .int (iI ((k : Nat) : Int))])).length) Slot.unset).toArray = ls at hl ⊢
  have hl : lv_has ls 4 [(0, .ref (ad 10 (0))), (1, .int (iI ((k : Nat) : Int)))] := hl
  generalize hQ : MQ below (fw_Qi D vwCl z ad (po_X3_high cA ad σ th u a μ k)) args s 0 0 (fw_A z) = Q
  generalize hH : s.heap = H at hP ⊢
  have hS : va_S (fw_A z) s.heap H [] := by rw [← hH]; exact va_S.rf
  generalize ([] : List Loc) = locs at hS ⊢
  refine lv_iconst (v := iI ((0 : Nat) : Int)) hx hb dX3_high_0 (by decide) ?_
  refine lv_istore_n (lv' := [(2, .int (iI ((0 : Nat) : Int))), (0, .ref (ad 10 (0))), (1, .int (iI ((k : Nat) : Int)))]) hx hb dX3_high_1 rfl hl (by decide) rfl (fun ls hl => ?_)
  refine lv_iconst (v := iI ((0 : Nat) : Int)) hx hb dX3_high_2 (by decide) ?_
  refine lv_istore_n (lv' := [(3, .int (iI ((0 : Nat) : Int))), (2, .int (iI ((0 : Nat) : Int))), (0, .ref (ad 10 (0))), (1, .int (iI ((k : Nat) : Int)))]) hx hb dX3_high_3 rfl hl (by decide) rfl (fun ls hl => ?_)
  have loop_4 : ∀ (dd i : Nat) (acc : Nat), σ 8 0 + 1 ≤ i + dd → i ≤ σ 8 0 → acc = sumN (fun c => if isOn σ c k = true then 1 else 0) i → ∀ (H : Heap) (locs : List Loc) (ls : Array Slot), fw_P D vwCl z ad (WM cA ad σ th u a μ) H → va_S (fw_A z) s.heap H locs → lv_has ls 4 [(0, .ref (ad 10 (0))), (1, .int (iI ((k : Nat) : Int))), (2, .int (iI ((acc : Nat) : Int))), (3, .int (iI ((i : Nat) : Int)))] → W pg l en (headSpec wsX3_high rm_X3_high).room s m args below meth cd H locs 0 0 Q (F0 m 4 ls []) := by
    intro dd
    induction dd with
    | zero => intro i acc hd_4 hi_4; omega
    | succ dd ih_4 =>
      intro i acc hd_4 hi_4 e_acc H locs ls hP hS hl
      subst e_acc
      refine lv_iload_n hx hb dX3_high_4 rfl (lv_at hl 3 rfl) ?_
      refine lv_aload_n hx hb dX3_high_5 rfl (lv_at hl 0 rfl) ?_
      refine fw_get (ci := 3) (v := .int (iI ((σ 8 0 : Nat) : Int))) (C := RX3) (T := TX3) (N := 13) hx hb hts hinX3 hown hK hP WM_10 rfl 1 (by decide) hf36 (fun _ h9 => h9) rfl dX3_high_6 ?_
      have hn_1 := hI.n
      have hm_2 := hI.lim
      refine fw_icmp_ge (x := ((i : Nat) : Int)) (y := ((σ 8 0 : Nat) : Int)) (tgt := 35) hx hb dX3_high_9 (by decide) ⟨by omega, by omega⟩ ⟨by omega, by omega⟩ (fun c_3 => ?_) (fun c_3 => ?_)
      · refine lv_iload_n hx hb dX3_high_35 rfl (lv_at hl 2 rfl) ?_
        subst hQ
        exact fw_iret hx hb hr hlocks dX3_high_36 hP hS ⟨by rw [show i = σ 8 0 from by omega]; rfl, rfl⟩
      · refine lv_iload_n hx hb dX3_high_12 rfl (lv_at hl 2 rfl) ?_
        refine lv_aload_n hx hb dX3_high_13 rfl (lv_at hl 0 rfl) ?_
        refine lv_iload_n hx hb dX3_high_14 rfl (lv_at hl 3 rfl) ?_
        refine lv_iload_n hx hb dX3_high_15 rfl (lv_at hl 1 rfl) ?_
        refine fw_cVi (As := [.int (iI ((i : Nat) : Int)), .int (iI ((k : Nat) : Int))]) (rest := [.int (iI ((sumN (fun c => if isOn σ c k = true then 1 else 0) i : Nat) : Int))]) ⟨hx, hb, hml, hown, hts⟩ (c_X3_isOn l D cA z ad σ th u a μ i k hI.b (by omega) (by omega)) (cwV 2 hts gX3_high_X3_isOn rfl rfl rfl (by decide +kernel) ⟨Nat.le_of_ble_eq_true rfl, Nat.le_of_ble_eq_true rfl⟩) WM_10 rfl rfl hl.1 (Nat.le_of_ble_eq_true rfl) dX3_high_16 ⟨Nat.le_of_ble_eq_true rfl, Nat.le_of_ble_eq_true rfl⟩ hK hP hS rfl (fun r w' H locs q_4 hP hS => ?_)
        obtain ⟨rfl, rfl⟩ := q_4
        have hc_5 := hI.c i
        refine fw_if_eqB (x := isOn σ i k) (tgt := 26) hx hb dX3_high_19 (by decide) (fun c_6 => ?_) (fun c_6 => ?_)
        · refine lv_iconst (v := iI ((0 : Nat) : Int)) hx hb dX3_high_26 (by decide) ?_
          refine fw_iaddN (a := sumN (fun c => if isOn σ c k = true then 1 else 0) i) (b := 0) hx hb dX3_high_27 ?_
          refine lv_istore_n (lv' := [(2, .int (iI (((sumN (fun c => if isOn σ c k = true then 1 else 0) i) + 0 : Nat) : Int))), (0, .ref (ad 10 (0))), (1, .int (iI ((k : Nat) : Int))), (3, .int (iI ((i : Nat) : Int)))]) hx hb dX3_high_28 rfl hl (by decide) rfl (fun ls hl => ?_)
          refine fw_iincN (x := i) (lv' := [(3, .int (iI ((i + 1 : Nat) : Int))), (2, .int (iI (((sumN (fun c => if isOn σ c k = true then 1 else 0) i) + 0 : Nat) : Int))), (0, .ref (ad 10 (0))), (1, .int (iI ((k : Nat) : Int)))]) hx hb dX3_high_29 hl (k := 3) rfl (by decide) rfl (fun ls hl => ?_)
          refine lv_goto (tgt := 4) hx hb dX3_high_32 (by decide) ?_
          exact ih_4 (i + 1) _ (by omega) (by omega) (by rw [sumN]; first | rw [ifT (by assumption)] | rw [ifF (by assumption)]) H locs ls hP hS (lv_sub hl [2, 3, 1, 0] rfl)
        · refine lv_iconst (v := iI ((1 : Nat) : Int)) hx hb dX3_high_22 (by decide) ?_
          refine lv_goto (tgt := 27) hx hb dX3_high_23 (by decide) ?_
          refine fw_iaddN (a := sumN (fun c => if isOn σ c k = true then 1 else 0) i) (b := 1) hx hb dX3_high_27 ?_
          refine lv_istore_n (lv' := [(2, .int (iI (((sumN (fun c => if isOn σ c k = true then 1 else 0) i) + 1 : Nat) : Int))), (0, .ref (ad 10 (0))), (1, .int (iI ((k : Nat) : Int))), (3, .int (iI ((i : Nat) : Int)))]) hx hb dX3_high_28 rfl hl (by decide) rfl (fun ls hl => ?_)
          refine fw_iincN (x := i) (lv' := [(3, .int (iI ((i + 1 : Nat) : Int))), (2, .int (iI (((sumN (fun c => if isOn σ c k = true then 1 else 0) i) + 1 : Nat) : Int))), (0, .ref (ad 10 (0))), (1, .int (iI ((k : Nat) : Int)))]) hx hb dX3_high_29 hl (k := 3) rfl (by decide) rfl (fun ls hl => ?_)
          refine lv_goto (tgt := 4) hx hb dX3_high_32 (by decide) ?_
          exact ih_4 (i + 1) _ (by omega) (by omega) (by rw [sumN]; first | rw [ifT (by assumption)] | rw [ifF (by assumption)]) H locs ls hP hS (lv_sub hl [2, 3, 1, 0] rfl)
  exact loop_4 (σ 8 0 + 1) (0) _ (by omega) (by omega) (by rfl) H locs ls hP hS (lv_sub hl [2, 3, 1, 0] rfl)

abbrev rm_X3_weightOf : Room := { frames := 2, cells := 0, slots := 0, locals := 43 }
abbrev po_X3_weightOf (cA : Nat → ClassId) (ad : fw_Ad) (σ : St) (th u a : Int) (μ : fw_W) (k : Nat) : Int32 → fw_W → Prop := fun r w' => r = iI ((wOf σ k : Nat) : Int) ∧ w' = WM cA ad σ th u a μ
set_option maxHeartbeats 4000000 in
set_option maxRecDepth 100000 in
theorem c_X3_weightOf (l : Launch) (D : va_G) (cA : Nat → ClassId) (z : Nat) (ad : fw_Ad) (σ : St) (th u a : Int) (μ : fw_W) (k : Nat) (hI : Inv σ) (hk : k < 30) : Met l yX3_weightOf wsX3_weightOf rm_X3_weightOf (va_Pc [.ref (ad 10 (0)), .int (iI ((k : Nat) : Int))] (fw_Pre D vwCl (fw_T cA) z ad (WM cA ad σ th u a μ))) (fw_Qi D vwCl z ad (po_X3_weightOf cA ad σ th u a μ k)) 0 0 (fw_A z) := by
  refine Met.ofW (cc := cX3_weightOf) (maxL := 4) (ret := (some .int)) (by decide) rfl ?_
  intro pg en s m args below meth cd s₁ B hml hv
  obtain ⟨hargs, hP, hK⟩ := hv
  have hx := B.exec
  have hb := B.bytes
  have hr := B.returns
  have hts := atoms_spec (ws := wsX3_weightOf) B.pre
  have hown : s.vm.findClass RX3 = some m.cls := findClass_of_methodNamed B.named
  have hlocks := B.notSynchronized
  have hinX3 : ∀ w ∈ u_ws RX3 TX3 13, w ∈ wsX3_weightOf := by decide +kernel
  have hf36 := hts (.fieldLink RX3 36 "StowagePlanModel" "many" "I") (by decide +kernel)
  have hl := lv_entry ([.ref (ad 10 (0)), .int (iI ((k : Nat) : Int))]) (n := 4) (Nat.le_of_ble_eq_true rfl)
  have hent : entryFrame m args 4 = entryFrame m ([.ref (ad 10 (0)), .int (iI ((k : Nat) : Int))] : List Value).toArray 4 := by rw [hargs]
  rw [hent, lg_entry_eq]
  generalize (lg_sl ([.ref (ad 10 (0)), .int (iI ((k : Nat) : Int))]) ++ List.replicate (4 - (lg_sl ([.ref (ad 10 (0)), .int (iI ((k : Nat) : Int))])).length) Slot.unset).toArray = ls at hl ⊢
  have hl : lv_has ls 4 [(0, .ref (ad 10 (0))), (1, .int (iI ((k : Nat) : Int)))] := hl
  generalize hQ : MQ below (fw_Qi D vwCl z ad (po_X3_weightOf cA ad σ th u a μ k)) args s 0 0 (fw_A z) = Q
  generalize hH : s.heap = H at hP ⊢
  have hS : va_S (fw_A z) s.heap H [] := by rw [← hH]; exact va_S.rf
  generalize ([] : List Loc) = locs at hS ⊢
  refine lv_iconst (v := iI ((0 : Nat) : Int)) hx hb dX3_weightOf_0 (by decide) ?_
  refine lv_istore_n (lv' := [(2, .int (iI ((0 : Nat) : Int))), (0, .ref (ad 10 (0))), (1, .int (iI ((k : Nat) : Int)))]) hx hb dX3_weightOf_1 rfl hl (by decide) rfl (fun ls hl => ?_)
  refine lv_iconst (v := iI ((0 : Nat) : Int)) hx hb dX3_weightOf_2 (by decide) ?_
  refine lv_istore_n (lv' := [(3, .int (iI ((0 : Nat) : Int))), (2, .int (iI ((0 : Nat) : Int))), (0, .ref (ad 10 (0))), (1, .int (iI ((k : Nat) : Int)))]) hx hb dX3_weightOf_3 rfl hl (by decide) rfl (fun ls hl => ?_)
  have loop_4 : ∀ (dd i : Nat) (acc : Nat), σ 8 0 + 1 ≤ i + dd → i ≤ σ 8 0 → acc = sumN (fun c => if isOn σ c k = true then σ 0 c else 0) i → ∀ (H : Heap) (locs : List Loc) (ls : Array Slot), fw_P D vwCl z ad (WM cA ad σ th u a μ) H → va_S (fw_A z) s.heap H locs → lv_has ls 4 [(0, .ref (ad 10 (0))), (1, .int (iI ((k : Nat) : Int))), (2, .int (iI ((acc : Nat) : Int))), (3, .int (iI ((i : Nat) : Int)))] → W pg l en (headSpec wsX3_weightOf rm_X3_weightOf).room s m args below meth cd H locs 0 0 Q (F0 m 4 ls []) := by
    intro dd
    induction dd with
    | zero => intro i acc hd_4 hi_4; omega
    | succ dd ih_4 =>
      intro i acc hd_4 hi_4 e_acc H locs ls hP hS hl
      subst e_acc
      refine lv_iload_n hx hb dX3_weightOf_4 rfl (lv_at hl 3 rfl) ?_
      refine lv_aload_n hx hb dX3_weightOf_5 rfl (lv_at hl 0 rfl) ?_
      refine fw_get (ci := 3) (v := .int (iI ((σ 8 0 : Nat) : Int))) (C := RX3) (T := TX3) (N := 13) hx hb hts hinX3 hown hK hP WM_10 rfl 1 (by decide) hf36 (fun _ h9 => h9) rfl dX3_weightOf_6 ?_
      have hn_1 := hI.n
      have hm_2 := hI.lim
      refine fw_icmp_ge (x := ((i : Nat) : Int)) (y := ((σ 8 0 : Nat) : Int)) (tgt := 39) hx hb dX3_weightOf_9 (by decide) ⟨by omega, by omega⟩ ⟨by omega, by omega⟩ (fun c_3 => ?_) (fun c_3 => ?_)
      · refine lv_iload_n hx hb dX3_weightOf_39 rfl (lv_at hl 2 rfl) ?_
        subst hQ
        exact fw_iret hx hb hr hlocks dX3_weightOf_40 hP hS ⟨by rw [show i = σ 8 0 from by omega]; rfl, rfl⟩
      · refine lv_iload_n hx hb dX3_weightOf_12 rfl (lv_at hl 2 rfl) ?_
        refine lv_aload_n hx hb dX3_weightOf_13 rfl (lv_at hl 0 rfl) ?_
        refine lv_iload_n hx hb dX3_weightOf_14 rfl (lv_at hl 3 rfl) ?_
        refine lv_iload_n hx hb dX3_weightOf_15 rfl (lv_at hl 1 rfl) ?_
        refine fw_cVi (As := [.int (iI ((i : Nat) : Int)), .int (iI ((k : Nat) : Int))]) (rest := [.int (iI ((sumN (fun c => if isOn σ c k = true then σ 0 c else 0) i : Nat) : Int))]) ⟨hx, hb, hml, hown, hts⟩ (c_X3_isOn l D cA z ad σ th u a μ i k hI.b (by omega) (by omega)) (cwV 2 hts gX3_weightOf_X3_isOn rfl rfl rfl (by decide +kernel) ⟨Nat.le_of_ble_eq_true rfl, Nat.le_of_ble_eq_true rfl⟩) WM_10 rfl rfl hl.1 (Nat.le_of_ble_eq_true rfl) dX3_weightOf_16 ⟨Nat.le_of_ble_eq_true rfl, Nat.le_of_ble_eq_true rfl⟩ hK hP hS rfl (fun r w' H locs q_4 hP hS => ?_)
        obtain ⟨rfl, rfl⟩ := q_4
        have hc_5 := hI.c i
        refine fw_if_eqB (x := isOn σ i k) (tgt := 30) hx hb dX3_weightOf_19 (by decide) (fun c_6 => ?_) (fun c_6 => ?_)
        · refine lv_iconst (v := iI ((0 : Nat) : Int)) hx hb dX3_weightOf_30 (by decide) ?_
          refine fw_iaddN (a := sumN (fun c => if isOn σ c k = true then σ 0 c else 0) i) (b := 0) hx hb dX3_weightOf_31 ?_
          refine lv_istore_n (lv' := [(2, .int (iI (((sumN (fun c => if isOn σ c k = true then σ 0 c else 0) i) + 0 : Nat) : Int))), (0, .ref (ad 10 (0))), (1, .int (iI ((k : Nat) : Int))), (3, .int (iI ((i : Nat) : Int)))]) hx hb dX3_weightOf_32 rfl hl (by decide) rfl (fun ls hl => ?_)
          refine fw_iincN (x := i) (lv' := [(3, .int (iI ((i + 1 : Nat) : Int))), (2, .int (iI (((sumN (fun c => if isOn σ c k = true then σ 0 c else 0) i) + 0 : Nat) : Int))), (0, .ref (ad 10 (0))), (1, .int (iI ((k : Nat) : Int)))]) hx hb dX3_weightOf_33 hl (k := 3) rfl (by decide) rfl (fun ls hl => ?_)
          refine lv_goto (tgt := 4) hx hb dX3_weightOf_36 (by decide) ?_
          exact ih_4 (i + 1) _ (by omega) (by omega) (by rw [sumN]; first | rw [ifT (by assumption)] | rw [ifF (by assumption)]) H locs ls hP hS (lv_sub hl [2, 3, 1, 0] rfl)
        · refine lv_aload_n hx hb dX3_weightOf_22 rfl (lv_at hl 0 rfl) ?_
          refine lv_iload_n hx hb dX3_weightOf_23 rfl (lv_at hl 3 rfl) ?_
          refine fw_cVi (As := [.int (iI ((i : Nat) : Int))]) (rest := [.int (iI ((sumN (fun c => if isOn σ c k = true then σ 0 c else 0) i : Nat) : Int))]) ⟨hx, hb, hml, hown, hts⟩ (c_X3_heavy l D cA z ad σ th u a μ i hI.b (by omega)) (cwV 1 hts gX3_weightOf_X3_heavy rfl rfl rfl (by decide +kernel) ⟨Nat.le_of_ble_eq_true rfl, Nat.le_of_ble_eq_true rfl⟩) WM_10 rfl rfl hl.1 (Nat.le_of_ble_eq_true rfl) dX3_weightOf_24 ⟨Nat.le_of_ble_eq_true rfl, Nat.le_of_ble_eq_true rfl⟩ hK hP hS rfl (fun r w' H locs q_7 hP hS => ?_)
          obtain ⟨rfl, rfl⟩ := q_7
          refine lv_goto (tgt := 31) hx hb dX3_weightOf_27 (by decide) ?_
          refine fw_iaddN (a := sumN (fun c => if isOn σ c k = true then σ 0 c else 0) i) (b := σ 0 i) hx hb dX3_weightOf_31 ?_
          refine lv_istore_n (lv' := [(2, .int (iI (((sumN (fun c => if isOn σ c k = true then σ 0 c else 0) i) + (σ 0 i) : Nat) : Int))), (0, .ref (ad 10 (0))), (1, .int (iI ((k : Nat) : Int))), (3, .int (iI ((i : Nat) : Int)))]) hx hb dX3_weightOf_32 rfl hl (by decide) rfl (fun ls hl => ?_)
          refine fw_iincN (x := i) (lv' := [(3, .int (iI ((i + 1 : Nat) : Int))), (2, .int (iI (((sumN (fun c => if isOn σ c k = true then σ 0 c else 0) i) + (σ 0 i) : Nat) : Int))), (0, .ref (ad 10 (0))), (1, .int (iI ((k : Nat) : Int)))]) hx hb dX3_weightOf_33 hl (k := 3) rfl (by decide) rfl (fun ls hl => ?_)
          refine lv_goto (tgt := 4) hx hb dX3_weightOf_36 (by decide) ?_
          exact ih_4 (i + 1) _ (by omega) (by omega) (by rw [sumN]; first | rw [ifT (by assumption)] | rw [ifF (by assumption)]) H locs ls hP hS (lv_sub hl [2, 3, 1, 0] rfl)
  exact loop_4 (σ 8 0 + 1) (0) _ (by omega) (by omega) (by rfl) H locs ls hP hS (lv_sub hl [2, 3, 1, 0] rfl)

abbrev rm_X3_find : Room := { frames := 2, cells := 0, slots := 0, locals := 43 }
abbrev po_X3_find (cA : Nat → ClassId) (ad : fw_Ad) (σ : St) (th u a : Int) (μ : fw_W) (k j : Nat) : Int32 → fw_W → Prop := fun r w' => r = iI (optI (occ σ k j)) ∧ w' = WM cA ad σ th u a μ
set_option maxHeartbeats 4000000 in
set_option maxRecDepth 100000 in
theorem c_X3_find (l : Launch) (D : va_G) (cA : Nat → ClassId) (z : Nat) (ad : fw_Ad) (σ : St) (th u a : Int) (μ : fw_W) (k j : Nat) (hI : Bnd σ) (hk : k < 30) (hj : j < 4) : Met l yX3_find wsX3_find rm_X3_find (va_Pc [.ref (ad 10 (0)), .int (iI ((k : Nat) : Int)), .int (iI ((j : Nat) : Int))] (fw_Pre D vwCl (fw_T cA) z ad (WM cA ad σ th u a μ))) (fw_Qi D vwCl z ad (po_X3_find cA ad σ th u a μ k j)) 0 0 (fw_A z) := by
  refine Met.ofW (cc := cX3_find) (maxL := 4) (ret := (some .int)) (by decide) rfl ?_
  intro pg en s m args below meth cd s₁ B hml hv
  obtain ⟨hargs, hP, hK⟩ := hv
  have hx := B.exec
  have hb := B.bytes
  have hr := B.returns
  have hts := atoms_spec (ws := wsX3_find) B.pre
  have hown : s.vm.findClass RX3 = some m.cls := findClass_of_methodNamed B.named
  have hlocks := B.notSynchronized
  have hinX3 : ∀ w ∈ u_ws RX3 TX3 13, w ∈ wsX3_find := by decide +kernel
  have hf36 := hts (.fieldLink RX3 36 "StowagePlanModel" "many" "I") (by decide +kernel)
  have hf16 := hts (.fieldLink RX3 16 "StowagePlanModel" "tiers" "[I") (by decide +kernel)
  have hl := lv_entry ([.ref (ad 10 (0)), .int (iI ((k : Nat) : Int)), .int (iI ((j : Nat) : Int))]) (n := 4) (Nat.le_of_ble_eq_true rfl)
  have hent : entryFrame m args 4 = entryFrame m ([.ref (ad 10 (0)), .int (iI ((k : Nat) : Int)), .int (iI ((j : Nat) : Int))] : List Value).toArray 4 := by rw [hargs]
  rw [hent, lg_entry_eq]
  generalize (lg_sl ([.ref (ad 10 (0)), .int (iI ((k : Nat) : Int)), .int (iI ((j : Nat) : Int))]) ++ List.replicate (4 - (lg_sl ([.ref (ad 10 (0)), .int (iI ((k : Nat) : Int)), .int (iI ((j : Nat) : Int))])).length) Slot.unset).toArray = ls at hl ⊢
  have hl : lv_has ls 4 [(0, .ref (ad 10 (0))), (1, .int (iI ((k : Nat) : Int))), (2, .int (iI ((j : Nat) : Int)))] := hl
  generalize hQ : MQ below (fw_Qi D vwCl z ad (po_X3_find cA ad σ th u a μ k j)) args s 0 0 (fw_A z) = Q
  generalize hH : s.heap = H at hP ⊢
  have hS : va_S (fw_A z) s.heap H [] := by rw [← hH]; exact va_S.rf
  generalize ([] : List Loc) = locs at hS ⊢
  refine lv_iconst (v := iI ((0 : Nat) : Int)) hx hb dX3_find_0 (by decide) ?_
  refine lv_istore_n (lv' := [(3, .int (iI ((0 : Nat) : Int))), (0, .ref (ad 10 (0))), (1, .int (iI ((k : Nat) : Int))), (2, .int (iI ((j : Nat) : Int)))]) hx hb dX3_find_1 rfl hl (by decide) rfl (fun ls hl => ?_)
  have loop_2 : ∀ (dd i : Nat), σ 8 0 + 1 ≤ i + dd → i ≤ σ 8 0 → (∀ d, d < i → isAt σ k j d = false) → ∀ (H : Heap) (locs : List Loc) (ls : Array Slot), fw_P D vwCl z ad (WM cA ad σ th u a μ) H → va_S (fw_A z) s.heap H locs → lv_has ls 4 [(0, .ref (ad 10 (0))), (1, .int (iI ((k : Nat) : Int))), (2, .int (iI ((j : Nat) : Int))), (3, .int (iI ((i : Nat) : Int)))] → W pg l en (headSpec wsX3_find rm_X3_find).room s m args below meth cd H locs 0 0 Q (F0 m 2 ls []) := by
    intro dd
    induction dd with
    | zero => intro i hd_2 hi_2; omega
    | succ dd ih_2 =>
      intro i hd_2 hi_2 hall H locs ls hP hS hl
      refine lv_iload_n hx hb dX3_find_2 rfl (lv_at hl 3 rfl) ?_
      refine lv_aload_n hx hb dX3_find_3 rfl (lv_at hl 0 rfl) ?_
      refine fw_get (ci := 3) (v := .int (iI ((σ 8 0 : Nat) : Int))) (C := RX3) (T := TX3) (N := 13) hx hb hts hinX3 hown hK hP WM_10 rfl 1 (by decide) hf36 (fun _ h9 => h9) rfl dX3_find_4 ?_
      have hn_1 := hI.n
      have hm_2 := hI.lim
      refine fw_icmp_ge (x := ((i : Nat) : Int)) (y := ((σ 8 0 : Nat) : Int)) (tgt := 37) hx hb dX3_find_7 (by decide) ⟨by omega, by omega⟩ ⟨by omega, by omega⟩ (fun c_3 => ?_) (fun c_3 => ?_)
      · refine lv_iconst (v := iI (-1)) hx hb dX3_find_37 (by decide) ?_
        subst hQ
        exact fw_iret hx hb hr hlocks dX3_find_38 hP hS ⟨by rw [occ_no (by rw [show i = σ 8 0 from by omega] at hall; exact hall)]; rfl, rfl⟩
      · refine lv_aload_n hx hb dX3_find_10 rfl (lv_at hl 0 rfl) ?_
        refine lv_iload_n hx hb dX3_find_11 rfl (lv_at hl 3 rfl) ?_
        refine lv_iload_n hx hb dX3_find_12 rfl (lv_at hl 1 rfl) ?_
        refine fw_cVi (As := [.int (iI ((i : Nat) : Int)), .int (iI ((k : Nat) : Int))]) (rest := []) ⟨hx, hb, hml, hown, hts⟩ (c_X3_isOn l D cA z ad σ th u a μ i k hI (by omega) (by omega)) (cwV 2 hts gX3_find_X3_isOn rfl rfl rfl (by decide +kernel) ⟨Nat.le_of_ble_eq_true rfl, Nat.le_of_ble_eq_true rfl⟩) WM_10 rfl rfl hl.1 (Nat.le_of_ble_eq_true rfl) dX3_find_13 ⟨Nat.le_of_ble_eq_true rfl, Nat.le_of_ble_eq_true rfl⟩ hK hP hS rfl (fun r w' H locs q_4 hP hS => ?_)
        obtain ⟨rfl, rfl⟩ := q_4
        have hc_5 := hI.c i
        refine fw_if_eqB (x := isOn σ i k) (tgt := 31) hx hb dX3_find_16 (by decide) (fun c_6 => ?_) (fun c_6 => ?_)
        · refine fw_iincN (x := i) (lv' := [(3, .int (iI ((i + 1 : Nat) : Int))), (0, .ref (ad 10 (0))), (1, .int (iI ((k : Nat) : Int))), (2, .int (iI ((j : Nat) : Int)))]) hx hb dX3_find_31 hl (k := 3) rfl (by decide) rfl (fun ls hl => ?_)
          refine lv_goto (tgt := 2) hx hb dX3_find_34 (by decide) ?_
          exact ih_2 (i + 1) (by omega) (by omega) (by intro d hd; by_cases e : d = i; (subst e; rw [isAt_f]; first | (rw [isOn_f] at *; omega) | omega); exact hall d (by omega)) H locs ls hP hS (lv_sub hl [1, 2, 3, 0] rfl)
        · refine lv_aload_n hx hb dX3_find_19 rfl (lv_at hl 0 rfl) ?_
          refine fw_get (ci := 3) (v := .ref (ad 13 (0))) (C := RX3) (T := TX3) (N := 13) hx hb hts hinX3 hown hK hP WM_10 rfl 4 (by decide) hf16 (fun _ h9 => h9) rfl dX3_find_20 ?_
          refine lv_iload_n hx hb dX3_find_23 rfl (lv_at hl 3 rfl) ?_
          refine fw_ialdN (j := i) hx hb hK hP WM_13 0 rfl (by omega) (by decide) dX3_find_24 ?_
          refine fw_topI (b := ((σ 6 i : Nat) : Int)) rfl ?_
          refine lv_iload_n hx hb dX3_find_25 rfl (lv_at hl 2 rfl) ?_
          refine fw_icmp_ne (x := ((σ 6 i : Nat) : Int)) (y := ((j : Nat) : Int)) (tgt := 31) hx hb dX3_find_26 (by decide) ⟨by omega, by omega⟩ ⟨by omega, by omega⟩ (fun c_7 => ?_) (fun c_7 => ?_)
          · refine fw_iincN (x := i) (lv' := [(3, .int (iI ((i + 1 : Nat) : Int))), (0, .ref (ad 10 (0))), (1, .int (iI ((k : Nat) : Int))), (2, .int (iI ((j : Nat) : Int)))]) hx hb dX3_find_31 hl (k := 3) rfl (by decide) rfl (fun ls hl => ?_)
            refine lv_goto (tgt := 2) hx hb dX3_find_34 (by decide) ?_
            exact ih_2 (i + 1) (by omega) (by omega) (by intro d hd; by_cases e : d = i; (subst e; rw [isAt_f]; first | (rw [isOn_f] at *; omega) | omega); exact hall d (by omega)) H locs ls hP hS (lv_sub hl [1, 2, 3, 0] rfl)
          · refine lv_iload_n hx hb dX3_find_29 rfl (lv_at hl 3 rfl) ?_
            subst hQ
            exact fw_iret hx hb hr hlocks dX3_find_30 hP hS ⟨by rw [occ_is (c := i) (by omega) (isAt_t.mpr (by rw [isOn_t] at *; omega)) hall]; rfl, rfl⟩
  exact loop_2 (σ 8 0 + 1) (0) (by omega) (by omega) (by intro d hd; omega) H locs ls hP hS (lv_sub hl [1, 2, 3, 0] rfl)

abbrev rm_X3_areApart : Room := { frames := 1, cells := 0, slots := 0, locals := 21 }
abbrev po_X3_areApart (cA : Nat → ClassId) (ad : fw_Ad) (w : fw_W) (k k2 : Nat) : Int32 → fw_W → Prop := fun r w' => r = iI (bI (cB (apart k k2))) ∧ w' = w
set_option maxHeartbeats 4000000 in
set_option maxRecDepth 100000 in
theorem c_X3_areApart (l : Launch) (D : va_G) (cA : Nat → ClassId) (z : Nat) (ad : fw_Ad) (w : fw_W) (k k2 : Nat) (hk : k < 30) (hk2 : k2 < 30) : Met l yX3_areApart wsX3_areApart rm_X3_areApart (va_Pc [.int (iI ((k : Nat) : Int)), .int (iI ((k2 : Nat) : Int))] (fw_Pre D vwCl (fw_T cA) z ad (w))) (fw_Qi D vwCl z ad (po_X3_areApart cA ad w k k2)) 0 0 (fw_A z) := by
  refine Met.ofW (cc := cX3_areApart) (maxL := 3) (ret := (some .boolean)) (by decide) rfl ?_
  intro pg en s m args below meth cd s₁ B hml hv
  obtain ⟨hargs, hP, hK⟩ := hv
  have hx := B.exec
  have hb := B.bytes
  have hr := B.returns
  have hts := atoms_spec (ws := wsX3_areApart) B.pre
  have hown : s.vm.findClass RX3 = some m.cls := findClass_of_methodNamed B.named
  have hlocks := B.notSynchronized
  have hl := lv_entry ([.int (iI ((k : Nat) : Int)), .int (iI ((k2 : Nat) : Int))]) (n := 3) (Nat.le_of_ble_eq_true rfl)
  have hent : entryFrame m args 3 = entryFrame m ([.int (iI ((k : Nat) : Int)), .int (iI ((k2 : Nat) : Int))] : List Value).toArray 3 := by rw [hargs]
  rw [hent, lg_entry_eq]
  generalize (lg_sl ([.int (iI ((k : Nat) : Int)), .int (iI ((k2 : Nat) : Int))]) ++ List.replicate (3 - (lg_sl ([.int (iI ((k : Nat) : Int)), .int (iI ((k2 : Nat) : Int))])).length) Slot.unset).toArray = ls at hl ⊢
  have hl : lv_has ls 3 [(0, .int (iI ((k : Nat) : Int))), (1, .int (iI ((k2 : Nat) : Int)))] := hl
  generalize hQ : MQ below (fw_Qi D vwCl z ad (po_X3_areApart cA ad w k k2)) args s 0 0 (fw_A z) = Q
  generalize hH : s.heap = H at hP ⊢
  have hS : va_S (fw_A z) s.heap H [] := by rw [← hH]; exact va_S.rf
  generalize ([] : List Loc) = locs at hS ⊢
  refine lv_iload_n hx hb dX3_areApart_0 rfl (lv_at hl 0 rfl) ?_
  refine lv_iconst (v := iI ((5 : Nat) : Int)) hx hb dX3_areApart_1 (by decide) ?_
  refine fw_idivN (a := k) (b := 5) hx hb dX3_areApart_2 (by omega) (by omega) (by omega) ?_
  refine lv_iload_n hx hb dX3_areApart_3 rfl (lv_at hl 1 rfl) ?_
  refine lv_iconst (v := iI ((5 : Nat) : Int)) hx hb dX3_areApart_4 (by decide) ?_
  refine fw_idivN (a := k2) (b := 5) hx hb dX3_areApart_5 (by omega) (by omega) (by omega) ?_
  refine fw_isub (a := ((k / 5 : Nat) : Int)) (b := ((k2 / 5 : Nat) : Int)) hx hb dX3_areApart_6 ?_
  refine fw_abs (x := (((k / 5 : Nat) : Int) - ((k2 / 5 : Nat) : Int))) hx hb (by rw [hml]; exact hl.1.symm) hown (hts (.methodLink RX3 77 Lib.Math.abs.name) (by decide +kernel)) (hts (.static Lib.Math.abs.name) (by decide +kernel)) (hts (.initialized "java/lang/Math") (by decide +kernel)) (hts (.code Lib.Math.abs.name Lib.Math.abs.code 1 (some .int)) (by decide +kernel)) (Nat.le_of_ble_eq_true rfl) (Nat.le_of_ble_eq_true rfl) (Nat.le_of_ble_eq_true rfl) (Nat.le_of_ble_eq_true rfl) ⟨by omega, by omega⟩ dX3_areApart_7 ?_
  refine lv_istore_n (lv' := [(2, .int (iI ((Int.natAbs (((k / 5 : Nat) : Int) - ((k2 / 5 : Nat) : Int)) : Nat) : Int))), (0, .int (iI ((k : Nat) : Int))), (1, .int (iI ((k2 : Nat) : Int)))]) hx hb dX3_areApart_10 rfl hl (by decide) rfl (fun ls hl => ?_)
  refine lv_iload_n hx hb dX3_areApart_11 rfl (lv_at hl 0 rfl) ?_
  refine lv_iconst (v := iI ((1 : Nat) : Int)) hx hb dX3_areApart_12 (by decide) ?_
  refine fw_icmp_gt (x := ((Int.natAbs (((k / 5 : Nat) : Int) - ((k2 / 5 : Nat) : Int)) : Nat) : Int)) (y := ((1 : Nat) : Int)) (tgt := 35) hx hb dX3_areApart_13 (by decide) ⟨by omega, by omega⟩ ⟨by omega, by omega⟩ (fun c_1 => ?_) (fun c_1 => ?_)
  · refine lv_iconst (v := iI ((1 : Nat) : Int)) hx hb dX3_areApart_35 (by decide) ?_
    refine lv_goto (tgt := 40) hx hb dX3_areApart_36 (by decide) ?_
    subst hQ
    exact fw_zret hx hb hr hlocks dX3_areApart_40 hP hS rfl ⟨congrArg iI (bI_ct (by unfold apart dist; omega)), rfl⟩
  · refine lv_iload_n hx hb dX3_areApart_16 rfl (lv_at hl 0 rfl) ?_
    refine lv_iconst (v := iI ((1 : Nat) : Int)) hx hb dX3_areApart_17 (by decide) ?_
    refine fw_icmp_ne (x := ((Int.natAbs (((k / 5 : Nat) : Int) - ((k2 / 5 : Nat) : Int)) : Nat) : Int)) (y := ((1 : Nat) : Int)) (tgt := 39) hx hb dX3_areApart_18 (by decide) ⟨by omega, by omega⟩ ⟨by omega, by omega⟩ (fun c_2 => ?_) (fun c_2 => ?_)
    · refine lv_iconst (v := iI ((0 : Nat) : Int)) hx hb dX3_areApart_39 (by decide) ?_
      subst hQ
      exact fw_zret hx hb hr hlocks dX3_areApart_40 hP hS rfl ⟨congrArg iI (bI_cf (by unfold apart dist; omega)), rfl⟩
    · refine lv_iload_n hx hb dX3_areApart_21 rfl (lv_at hl 1 rfl) ?_
      refine lv_iconst (v := iI ((5 : Nat) : Int)) hx hb dX3_areApart_22 (by decide) ?_
      refine fw_iremN (a := k) (b := 5) hx hb dX3_areApart_23 (by omega) (by omega) (by omega) ?_
      refine lv_iload_n hx hb dX3_areApart_24 rfl (lv_at hl 2 rfl) ?_
      refine lv_iconst (v := iI ((5 : Nat) : Int)) hx hb dX3_areApart_25 (by decide) ?_
      refine fw_iremN (a := k2) (b := 5) hx hb dX3_areApart_26 (by omega) (by omega) (by omega) ?_
      refine fw_isub (a := ((k % 5 : Nat) : Int)) (b := ((k2 % 5 : Nat) : Int)) hx hb dX3_areApart_27 ?_
      refine fw_abs (x := (((k % 5 : Nat) : Int) - ((k2 % 5 : Nat) : Int))) hx hb (by rw [hml]; exact hl.1.symm) hown (hts (.methodLink RX3 77 Lib.Math.abs.name) (by decide +kernel)) (hts (.static Lib.Math.abs.name) (by decide +kernel)) (hts (.initialized "java/lang/Math") (by decide +kernel)) (hts (.code Lib.Math.abs.name Lib.Math.abs.code 1 (some .int)) (by decide +kernel)) (Nat.le_of_ble_eq_true rfl) (Nat.le_of_ble_eq_true rfl) (Nat.le_of_ble_eq_true rfl) (Nat.le_of_ble_eq_true rfl) ⟨by omega, by omega⟩ dX3_areApart_28 ?_
      refine lv_iconst (v := iI ((1 : Nat) : Int)) hx hb dX3_areApart_31 (by decide) ?_
      refine fw_icmp_le (x := ((Int.natAbs (((k % 5 : Nat) : Int) - ((k2 % 5 : Nat) : Int)) : Nat) : Int)) (y := ((1 : Nat) : Int)) (tgt := 39) hx hb dX3_areApart_32 (by decide) ⟨by omega, by omega⟩ ⟨by omega, by omega⟩ (fun c_3 => ?_) (fun c_3 => ?_)
      · refine lv_iconst (v := iI ((0 : Nat) : Int)) hx hb dX3_areApart_39 (by decide) ?_
        subst hQ
        exact fw_zret hx hb hr hlocks dX3_areApart_40 hP hS rfl ⟨congrArg iI (bI_cf (by unfold apart dist; omega)), rfl⟩
      · refine lv_iconst (v := iI ((1 : Nat) : Int)) hx hb dX3_areApart_35 (by decide) ?_
        refine lv_goto (tgt := 40) hx hb dX3_areApart_36 (by decide) ?_
        subst hQ
        exact fw_zret hx hb hr hlocks dX3_areApart_40 hP hS rfl ⟨congrArg iI (bI_ct (by unfold apart dist; omega)), rfl⟩

abbrev rm_X3_arm : Room := { frames := 0, cells := 0, slots := 0, locals := 0 }
abbrev po_X3_arm (cA : Nat → ClassId) (ad : fw_Ad) (w : fw_W) (k : Nat) (b : Bool) : Int32 → fw_W → Prop := fun r w' => r = iI (arm b k) ∧ w' = w
set_option maxHeartbeats 4000000 in
set_option maxRecDepth 100000 in
theorem c_X3_arm (l : Launch) (D : va_G) (cA : Nat → ClassId) (z : Nat) (ad : fw_Ad) (w : fw_W) (k : Nat) (b : Bool) (hk : k < 30) : Met l yX3_arm wsX3_arm rm_X3_arm (va_Pc [.int (iI ((k : Nat) : Int)), .int (iI (bI (b)))] (fw_Pre D vwCl (fw_T cA) z ad (w))) (fw_Qi D vwCl z ad (po_X3_arm cA ad w k b)) 0 0 (fw_A z) := by
  refine Met.ofW (cc := cX3_arm) (maxL := 2) (ret := (some .int)) (by decide) rfl ?_
  intro pg en s m args below meth cd s₁ B hml hv
  obtain ⟨hargs, hP, hK⟩ := hv
  have hx := B.exec
  have hb := B.bytes
  have hr := B.returns
  have hts := atoms_spec (ws := wsX3_arm) B.pre
  have hown : s.vm.findClass RX3 = some m.cls := findClass_of_methodNamed B.named
  have hlocks := B.notSynchronized
  have hl := lv_entry ([.int (iI ((k : Nat) : Int)), .int (iI (bI (b)))]) (n := 2) (Nat.le_of_ble_eq_true rfl)
  have hent : entryFrame m args 2 = entryFrame m ([.int (iI ((k : Nat) : Int)), .int (iI (bI (b)))] : List Value).toArray 2 := by rw [hargs]
  rw [hent, lg_entry_eq]
  generalize (lg_sl ([.int (iI ((k : Nat) : Int)), .int (iI (bI (b)))]) ++ List.replicate (2 - (lg_sl ([.int (iI ((k : Nat) : Int)), .int (iI (bI (b)))])).length) Slot.unset).toArray = ls at hl ⊢
  have hl : lv_has ls 2 [(0, .int (iI ((k : Nat) : Int))), (1, .int (iI (bI (b))))] := hl
  generalize hQ : MQ below (fw_Qi D vwCl z ad (po_X3_arm cA ad w k b)) args s 0 0 (fw_A z) = Q
  generalize hH : s.heap = H at hP ⊢
  have hS : va_S (fw_A z) s.heap H [] := by rw [← hH]; exact va_S.rf
  generalize ([] : List Loc) = locs at hS ⊢
  refine lv_iload_n hx hb dX3_arm_0 rfl (lv_at hl 1 rfl) ?_
  refine fw_if_eqB (x := b) (tgt := 14) hx hb dX3_arm_1 (by decide) (fun c_1 => ?_) (fun c_1 => ?_)
  · refine lv_iload_n hx hb dX3_arm_14 rfl (lv_at hl 0 rfl) ?_
    refine lv_iconst (v := iI ((5 : Nat) : Int)) hx hb dX3_arm_15 (by decide) ?_
    refine fw_iremN (a := k) (b := 5) hx hb dX3_arm_16 (by omega) (by omega) (by omega) ?_
    refine lv_iconst (v := iI ((2 : Nat) : Int)) hx hb dX3_arm_17 (by decide) ?_
    refine fw_isub (a := ((k % 5 : Nat) : Int)) (b := ((2 : Nat) : Int)) hx hb dX3_arm_18 ?_
    subst hQ
    exact fw_iret hx hb hr hlocks dX3_arm_19 hP hS ⟨congrArg iI (by unfold arm; first | rw [if_pos (by assumption)] | rw [ifF (by assumption)]), rfl⟩
  · refine lv_iconst (v := iI ((2 : Nat) : Int)) hx hb dX3_arm_4 (by decide) ?_
    refine lv_iload_n hx hb dX3_arm_5 rfl (lv_at hl 0 rfl) ?_
    refine lv_iconst (v := iI ((5 : Nat) : Int)) hx hb dX3_arm_6 (by decide) ?_
    refine fw_idivN (a := k) (b := 5) hx hb dX3_arm_7 (by omega) (by omega) (by omega) ?_
    refine fw_imulN (a := 2) (b := k / 5) hx hb dX3_arm_8 ?_
    refine lv_iconst (v := iI ((5 : Nat) : Int)) hx hb dX3_arm_9 (by decide) ?_
    refine fw_isub (a := ((2 * (k / 5) : Nat) : Int)) (b := ((5 : Nat) : Int)) hx hb dX3_arm_10 ?_
    refine lv_goto (tgt := 19) hx hb dX3_arm_11 (by decide) ?_
    subst hQ
    exact fw_iret hx hb hr hlocks dX3_arm_19 hP hS ⟨congrArg iI (by unfold arm; first | rw [if_pos (by assumption)] | rw [ifF (by assumption)]), rfl⟩

abbrev rm_X3_momentOf : Room := { frames := 1, cells := 0, slots := 0, locals := 21 }
abbrev po_X3_momentOf (cA : Nat → ClassId) (ad : fw_Ad) (σ : St) (th u a : Int) (μ : fw_W) (b : Bool) : Int32 → fw_W → Prop := fun r w' => r = iI (mom σ b) ∧ w' = WM cA ad σ th u a μ
set_option maxHeartbeats 4000000 in
set_option maxRecDepth 100000 in
theorem c_X3_momentOf (l : Launch) (D : va_G) (cA : Nat → ClassId) (z : Nat) (ad : fw_Ad) (σ : St) (th u a : Int) (μ : fw_W) (b : Bool) (hI : Inv σ) : Met l yX3_momentOf wsX3_momentOf rm_X3_momentOf (va_Pc [.ref (ad 10 (0)), .int (iI (bI (b)))] (fw_Pre D vwCl (fw_T cA) z ad (WM cA ad σ th u a μ))) (fw_Qi D vwCl z ad (po_X3_momentOf cA ad σ th u a μ b)) 0 0 (fw_A z) := by
  refine Met.ofW (cc := cX3_momentOf) (maxL := 4) (ret := (some .int)) (by decide) rfl ?_
  intro pg en s m args below meth cd s₁ B hml hv
  obtain ⟨hargs, hP, hK⟩ := hv
  have hx := B.exec
  have hb := B.bytes
  have hr := B.returns
  have hts := atoms_spec (ws := wsX3_momentOf) B.pre
  have hown : s.vm.findClass RX3 = some m.cls := findClass_of_methodNamed B.named
  have hlocks := B.notSynchronized
  have hinX3 : ∀ w ∈ u_ws RX3 TX3 13, w ∈ wsX3_momentOf := by decide +kernel
  have hf36 := hts (.fieldLink RX3 36 "StowagePlanModel" "many" "I") (by decide +kernel)
  have hf13 := hts (.fieldLink RX3 13 "StowagePlanModel" "stacks" "[I") (by decide +kernel)
  have hl := lv_entry ([.ref (ad 10 (0)), .int (iI (bI (b)))]) (n := 4) (Nat.le_of_ble_eq_true rfl)
  have hent : entryFrame m args 4 = entryFrame m ([.ref (ad 10 (0)), .int (iI (bI (b)))] : List Value).toArray 4 := by rw [hargs]
  rw [hent, lg_entry_eq]
  generalize (lg_sl ([.ref (ad 10 (0)), .int (iI (bI (b)))]) ++ List.replicate (4 - (lg_sl ([.ref (ad 10 (0)), .int (iI (bI (b)))])).length) Slot.unset).toArray = ls at hl ⊢
  have hl : lv_has ls 4 [(0, .ref (ad 10 (0))), (1, .int (iI (bI (b))))] := hl
  generalize hQ : MQ below (fw_Qi D vwCl z ad (po_X3_momentOf cA ad σ th u a μ b)) args s 0 0 (fw_A z) = Q
  generalize hH : s.heap = H at hP ⊢
  have hS : va_S (fw_A z) s.heap H [] := by rw [← hH]; exact va_S.rf
  generalize ([] : List Loc) = locs at hS ⊢
  refine lv_iconst (v := iI ((0 : Nat) : Int)) hx hb dX3_momentOf_0 (by decide) ?_
  refine lv_istore_n (lv' := [(2, .int (iI ((0 : Nat) : Int))), (0, .ref (ad 10 (0))), (1, .int (iI (bI (b))))]) hx hb dX3_momentOf_1 rfl hl (by decide) rfl (fun ls hl => ?_)
  refine lv_iconst (v := iI ((0 : Nat) : Int)) hx hb dX3_momentOf_2 (by decide) ?_
  refine lv_istore_n (lv' := [(3, .int (iI ((0 : Nat) : Int))), (2, .int (iI ((0 : Nat) : Int))), (0, .ref (ad 10 (0))), (1, .int (iI (bI (b))))]) hx hb dX3_momentOf_3 rfl hl (by decide) rfl (fun ls hl => ?_)
  have loop_4 : ∀ (dd i : Nat) (acc : Int), σ 8 0 + 1 ≤ i + dd → i ≤ σ 8 0 → acc = sumI (fun c => if σ 4 c = 1 then ((σ 0 c : Nat) : Int) * arm b (σ 5 c) else 0) i → ∀ (H : Heap) (locs : List Loc) (ls : Array Slot), fw_P D vwCl z ad (WM cA ad σ th u a μ) H → va_S (fw_A z) s.heap H locs → lv_has ls 4 [(0, .ref (ad 10 (0))), (1, .int (iI (bI (b)))), (2, .int (iI (acc))), (3, .int (iI ((i : Nat) : Int)))] → W pg l en (headSpec wsX3_momentOf rm_X3_momentOf).room s m args below meth cd H locs 0 0 Q (F0 m 4 ls []) := by
    intro dd
    induction dd with
    | zero => intro i acc hd_4 hi_4; omega
    | succ dd ih_4 =>
      intro i acc hd_4 hi_4 e_acc H locs ls hP hS hl
      subst e_acc
      refine lv_iload_n hx hb dX3_momentOf_4 rfl (lv_at hl 3 rfl) ?_
      refine lv_aload_n hx hb dX3_momentOf_5 rfl (lv_at hl 0 rfl) ?_
      refine fw_get (ci := 3) (v := .int (iI ((σ 8 0 : Nat) : Int))) (C := RX3) (T := TX3) (N := 13) hx hb hts hinX3 hown hK hP WM_10 rfl 1 (by decide) hf36 (fun _ h9 => h9) rfl dX3_momentOf_6 ?_
      have hn_1 := hI.n
      have hm_2 := hI.lim
      refine fw_icmp_ge (x := ((i : Nat) : Int)) (y := ((σ 8 0 : Nat) : Int)) (tgt := 46) hx hb dX3_momentOf_9 (by decide) ⟨by omega, by omega⟩ ⟨by omega, by omega⟩ (fun c_3 => ?_) (fun c_3 => ?_)
      · refine lv_iload_n hx hb dX3_momentOf_46 rfl (lv_at hl 2 rfl) ?_
        subst hQ
        exact fw_iret hx hb hr hlocks dX3_momentOf_47 hP hS ⟨by rw [show i = σ 8 0 from by omega]; rfl, rfl⟩
      · refine lv_aload_n hx hb dX3_momentOf_12 rfl (lv_at hl 0 rfl) ?_
        refine lv_iload_n hx hb dX3_momentOf_13 rfl (lv_at hl 3 rfl) ?_
        refine fw_cVi (As := [.int (iI ((i : Nat) : Int))]) (rest := []) ⟨hx, hb, hml, hown, hts⟩ (c_X3_state l D cA z ad σ th u a μ i hI.b (by omega)) (cwV 1 hts gX3_momentOf_X3_state rfl rfl rfl (by decide +kernel) ⟨Nat.le_of_ble_eq_true rfl, Nat.le_of_ble_eq_true rfl⟩) WM_10 rfl rfl hl.1 (Nat.le_of_ble_eq_true rfl) dX3_momentOf_14 ⟨Nat.le_of_ble_eq_true rfl, Nat.le_of_ble_eq_true rfl⟩ hK hP hS rfl (fun r w' H locs q_4 hP hS => ?_)
        obtain ⟨rfl, rfl⟩ := q_4
        have hc_5 := hI.c i
        refine lv_iconst (v := iI ((1 : Nat) : Int)) hx hb dX3_momentOf_17 (by decide) ?_
        refine fw_icmp_ne (x := ((σ 4 i : Nat) : Int)) (y := ((1 : Nat) : Int)) (tgt := 40) hx hb dX3_momentOf_18 (by decide) ⟨by omega, by omega⟩ ⟨by omega, by omega⟩ (fun c_6 => ?_) (fun c_6 => ?_)
        · refine fw_iincN (x := i) (lv' := [(3, .int (iI ((i + 1 : Nat) : Int))), (0, .ref (ad 10 (0))), (1, .int (iI (bI (b)))), (2, .int (iI (sumI (fun c => if σ 4 c = 1 then ((σ 0 c : Nat) : Int) * arm b (σ 5 c) else 0) i)))]) hx hb dX3_momentOf_40 hl (k := 3) rfl (by decide) rfl (fun ls hl => ?_)
          refine lv_goto (tgt := 4) hx hb dX3_momentOf_43 (by decide) ?_
          exact ih_4 (i + 1) _ (by omega) (by omega) (by rw [sumI]; first | rw [if_pos (by omega)] | (rw [if_neg (by omega)]; omega)) H locs ls hP hS (lv_sub hl [1, 2, 3, 0] rfl)
        · refine lv_iload_n hx hb dX3_momentOf_21 rfl (lv_at hl 2 rfl) ?_
          refine lv_aload_n hx hb dX3_momentOf_22 rfl (lv_at hl 0 rfl) ?_
          refine lv_iload_n hx hb dX3_momentOf_23 rfl (lv_at hl 3 rfl) ?_
          refine fw_cVi (As := [.int (iI ((i : Nat) : Int))]) (rest := [.int (iI (sumI (fun c => if σ 4 c = 1 then ((σ 0 c : Nat) : Int) * arm b (σ 5 c) else 0) i))]) ⟨hx, hb, hml, hown, hts⟩ (c_X3_heavy l D cA z ad σ th u a μ i hI.b (by omega)) (cwV 1 hts gX3_momentOf_X3_heavy rfl rfl rfl (by decide +kernel) ⟨Nat.le_of_ble_eq_true rfl, Nat.le_of_ble_eq_true rfl⟩) WM_10 rfl rfl hl.1 (Nat.le_of_ble_eq_true rfl) dX3_momentOf_24 ⟨Nat.le_of_ble_eq_true rfl, Nat.le_of_ble_eq_true rfl⟩ hK hP hS rfl (fun r w' H locs q_7 hP hS => ?_)
          obtain ⟨rfl, rfl⟩ := q_7
          refine lv_aload_n hx hb dX3_momentOf_27 rfl (lv_at hl 0 rfl) ?_
          refine fw_get (ci := 3) (v := .ref (ad 12 (0))) (C := RX3) (T := TX3) (N := 13) hx hb hts hinX3 hown hK hP WM_10 rfl 3 (by decide) hf13 (fun _ h9 => h9) rfl dX3_momentOf_28 ?_
          refine lv_iload_n hx hb dX3_momentOf_31 rfl (lv_at hl 3 rfl) ?_
          refine fw_ialdN (j := i) hx hb hK hP WM_12 0 rfl (by omega) (by decide) dX3_momentOf_32 ?_
          refine fw_topI (b := ((σ 5 i : Nat) : Int)) rfl ?_
          refine lv_iload_n hx hb dX3_momentOf_33 rfl (lv_at hl 1 rfl) ?_
          refine fw_cSi (As := [.int (iI ((σ 5 i : Nat) : Int)), .int (iI (bI (b)))]) (rest := [.int (iI ((σ 0 i : Nat) : Int)), .int (iI (sumI (fun c => if σ 4 c = 1 then ((σ 0 c : Nat) : Int) * arm b (σ 5 c) else 0) i))]) ⟨hx, hb, hml, hown, hts⟩ (c_X3_arm l D cA z ad (WM cA ad σ th u a μ) (σ 5 i) b (by omega)) (va_cwS 2 hts gX3_momentOf_X3_arm rfl rfl rfl (by decide +kernel) ⟨Nat.le_of_ble_eq_true rfl, Nat.le_of_ble_eq_true rfl⟩) rfl hl.1 (Nat.le_of_ble_eq_true rfl) dX3_momentOf_34 ⟨Nat.le_of_ble_eq_true rfl, Nat.le_of_ble_eq_true rfl⟩ hK hP hS rfl (fun r w' H locs q_8 hP hS => ?_)
          obtain ⟨rfl, rfl⟩ := q_8
          refine fw_imul (a := ((σ 0 i : Nat) : Int)) (b := (arm b (σ 5 i))) hx hb dX3_momentOf_37 ?_
          refine fw_iadd (a := (sumI (fun c => if σ 4 c = 1 then ((σ 0 c : Nat) : Int) * arm b (σ 5 c) else 0) i)) (b := (((σ 0 i : Nat) : Int) * (arm b (σ 5 i)))) hx hb dX3_momentOf_38 ?_
          refine lv_istore_n (lv' := [(2, .int (iI ((sumI (fun c => if σ 4 c = 1 then ((σ 0 c : Nat) : Int) * arm b (σ 5 c) else 0) i) + (((σ 0 i : Nat) : Int) * (arm b (σ 5 i)))))), (0, .ref (ad 10 (0))), (1, .int (iI (bI (b)))), (3, .int (iI ((i : Nat) : Int)))]) hx hb dX3_momentOf_39 rfl hl (by decide) rfl (fun ls hl => ?_)
          refine fw_iincN (x := i) (lv' := [(3, .int (iI ((i + 1 : Nat) : Int))), (2, .int (iI ((sumI (fun c => if σ 4 c = 1 then ((σ 0 c : Nat) : Int) * arm b (σ 5 c) else 0) i) + (((σ 0 i : Nat) : Int) * (arm b (σ 5 i)))))), (0, .ref (ad 10 (0))), (1, .int (iI (bI (b))))]) hx hb dX3_momentOf_40 hl (k := 3) rfl (by decide) rfl (fun ls hl => ?_)
          refine lv_goto (tgt := 4) hx hb dX3_momentOf_43 (by decide) ?_
          exact ih_4 (i + 1) _ (by omega) (by omega) (by rw [sumI]; first | rw [if_pos (by omega)] | (rw [if_neg (by omega)]; omega)) H locs ls hP hS (lv_sub hl [2, 3, 1, 0] rfl)
  exact loop_4 (σ 8 0 + 1) (0) _ (by omega) (by omega) (by rfl) H locs ls hP hS (lv_sub hl [2, 3, 1, 0] rfl)

abbrev rm_X3_earlier : Room := { frames := 2, cells := 0, slots := 0, locals := 43 }
abbrev po_X3_earlier (cA : Nat → ClassId) (ad : fw_Ad) (σ : St) (th u a : Int) (μ : fw_W) (k t : Nat) : Int32 → fw_W → Prop := fun r w' => r = iI ((earlier σ k t : Nat) : Int) ∧ w' = WM cA ad σ th u a μ
set_option maxHeartbeats 4000000 in
set_option maxRecDepth 100000 in
theorem c_X3_earlier (l : Launch) (D : va_G) (cA : Nat → ClassId) (z : Nat) (ad : fw_Ad) (σ : St) (th u a : Int) (μ : fw_W) (k t : Nat) (hI : Inv σ) (hk : k < 30) (ht : t ≤ 5) : Met l yX3_earlier wsX3_earlier rm_X3_earlier (va_Pc [.ref (ad 10 (0)), .int (iI ((k : Nat) : Int)), .int (iI ((t : Nat) : Int))] (fw_Pre D vwCl (fw_T cA) z ad (WM cA ad σ th u a μ))) (fw_Qi D vwCl z ad (po_X3_earlier cA ad σ th u a μ k t)) 0 0 (fw_A z) := by
  refine Met.ofW (cc := cX3_earlier) (maxL := 5) (ret := (some .int)) (by decide) rfl ?_
  intro pg en s m args below meth cd s₁ B hml hv
  obtain ⟨hargs, hP, hK⟩ := hv
  have hx := B.exec
  have hb := B.bytes
  have hr := B.returns
  have hts := atoms_spec (ws := wsX3_earlier) B.pre
  have hown : s.vm.findClass RX3 = some m.cls := findClass_of_methodNamed B.named
  have hlocks := B.notSynchronized
  have hinX3 : ∀ w ∈ u_ws RX3 TX3 13, w ∈ wsX3_earlier := by decide +kernel
  have hf36 := hts (.fieldLink RX3 36 "StowagePlanModel" "many" "I") (by decide +kernel)
  have hl := lv_entry ([.ref (ad 10 (0)), .int (iI ((k : Nat) : Int)), .int (iI ((t : Nat) : Int))]) (n := 5) (Nat.le_of_ble_eq_true rfl)
  have hent : entryFrame m args 5 = entryFrame m ([.ref (ad 10 (0)), .int (iI ((k : Nat) : Int)), .int (iI ((t : Nat) : Int))] : List Value).toArray 5 := by rw [hargs]
  rw [hent, lg_entry_eq]
  generalize (lg_sl ([.ref (ad 10 (0)), .int (iI ((k : Nat) : Int)), .int (iI ((t : Nat) : Int))]) ++ List.replicate (5 - (lg_sl ([.ref (ad 10 (0)), .int (iI ((k : Nat) : Int)), .int (iI ((t : Nat) : Int))])).length) Slot.unset).toArray = ls at hl ⊢
  have hl : lv_has ls 5 [(0, .ref (ad 10 (0))), (1, .int (iI ((k : Nat) : Int))), (2, .int (iI ((t : Nat) : Int)))] := hl
  generalize hQ : MQ below (fw_Qi D vwCl z ad (po_X3_earlier cA ad σ th u a μ k t)) args s 0 0 (fw_A z) = Q
  generalize hH : s.heap = H at hP ⊢
  have hS : va_S (fw_A z) s.heap H [] := by rw [← hH]; exact va_S.rf
  generalize ([] : List Loc) = locs at hS ⊢
  refine lv_iconst (v := iI ((0 : Nat) : Int)) hx hb dX3_earlier_0 (by decide) ?_
  refine lv_istore_n (lv' := [(3, .int (iI ((0 : Nat) : Int))), (0, .ref (ad 10 (0))), (1, .int (iI ((k : Nat) : Int))), (2, .int (iI ((t : Nat) : Int)))]) hx hb dX3_earlier_1 rfl hl (by decide) rfl (fun ls hl => ?_)
  refine lv_iconst (v := iI ((0 : Nat) : Int)) hx hb dX3_earlier_2 (by decide) ?_
  refine lv_istore (lv' := [(4, .int (iI ((0 : Nat) : Int))), (3, .int (iI ((0 : Nat) : Int))), (0, .ref (ad 10 (0))), (1, .int (iI ((k : Nat) : Int))), (2, .int (iI ((t : Nat) : Int)))]) hx hb dX3_earlier_3 hl (by decide) rfl (fun ls hl => ?_)
  have loop_5 : ∀ (dd i : Nat) (acc : Nat), σ 8 0 + 1 ≤ i + dd → i ≤ σ 8 0 → acc = sumN (fun c => if isOn σ c k = true then (if σ 2 c < t then 1 else 0) else 0) i → ∀ (H : Heap) (locs : List Loc) (ls : Array Slot), fw_P D vwCl z ad (WM cA ad σ th u a μ) H → va_S (fw_A z) s.heap H locs → lv_has ls 5 [(0, .ref (ad 10 (0))), (1, .int (iI ((k : Nat) : Int))), (2, .int (iI ((t : Nat) : Int))), (3, .int (iI ((acc : Nat) : Int))), (4, .int (iI ((i : Nat) : Int)))] → W pg l en (headSpec wsX3_earlier rm_X3_earlier).room s m args below meth cd H locs 0 0 Q (F0 m 5 ls []) := by
    intro dd
    induction dd with
    | zero => intro i acc hd_5 hi_5; omega
    | succ dd ih_5 =>
      intro i acc hd_5 hi_5 e_acc H locs ls hP hS hl
      subst e_acc
      refine lv_iload hx hb dX3_earlier_5 (lv_at hl 4 rfl) ?_
      refine lv_aload_n hx hb dX3_earlier_7 rfl (lv_at hl 0 rfl) ?_
      refine fw_get (ci := 3) (v := .int (iI ((σ 8 0 : Nat) : Int))) (C := RX3) (T := TX3) (N := 13) hx hb hts hinX3 hown hK hP WM_10 rfl 1 (by decide) hf36 (fun _ h9 => h9) rfl dX3_earlier_8 ?_
      have hn_1 := hI.n
      have hm_2 := hI.lim
      refine fw_icmp_ge (x := ((i : Nat) : Int)) (y := ((σ 8 0 : Nat) : Int)) (tgt := 48) hx hb dX3_earlier_11 (by decide) ⟨by omega, by omega⟩ ⟨by omega, by omega⟩ (fun c_3 => ?_) (fun c_3 => ?_)
      · refine lv_iload_n hx hb dX3_earlier_48 rfl (lv_at hl 3 rfl) ?_
        subst hQ
        exact fw_iret hx hb hr hlocks dX3_earlier_49 hP hS ⟨by rw [show i = σ 8 0 from by omega]; rfl, rfl⟩
      · refine lv_iload_n hx hb dX3_earlier_14 rfl (lv_at hl 3 rfl) ?_
        refine lv_aload_n hx hb dX3_earlier_15 rfl (lv_at hl 0 rfl) ?_
        refine lv_iload hx hb dX3_earlier_16 (lv_at hl 4 rfl) ?_
        refine lv_iload_n hx hb dX3_earlier_18 rfl (lv_at hl 1 rfl) ?_
        refine fw_cVi (As := [.int (iI ((i : Nat) : Int)), .int (iI ((k : Nat) : Int))]) (rest := [.int (iI ((sumN (fun c => if isOn σ c k = true then (if σ 2 c < t then 1 else 0) else 0) i : Nat) : Int))]) ⟨hx, hb, hml, hown, hts⟩ (c_X3_isOn l D cA z ad σ th u a μ i k hI.b (by omega) (by omega)) (cwV 2 hts gX3_earlier_X3_isOn rfl rfl rfl (by decide +kernel) ⟨Nat.le_of_ble_eq_true rfl, Nat.le_of_ble_eq_true rfl⟩) WM_10 rfl rfl hl.1 (Nat.le_of_ble_eq_true rfl) dX3_earlier_19 ⟨Nat.le_of_ble_eq_true rfl, Nat.le_of_ble_eq_true rfl⟩ hK hP hS rfl (fun r w' H locs q_4 hP hS => ?_)
        obtain ⟨rfl, rfl⟩ := q_4
        have hc_5 := hI.c i
        refine fw_if_eqB (x := isOn σ i k) (tgt := 39) hx hb dX3_earlier_22 (by decide) (fun c_6 => ?_) (fun c_6 => ?_)
        · refine lv_iconst (v := iI ((0 : Nat) : Int)) hx hb dX3_earlier_39 (by decide) ?_
          refine fw_iaddN (a := sumN (fun c => if isOn σ c k = true then (if σ 2 c < t then 1 else 0) else 0) i) (b := 0) hx hb dX3_earlier_40 ?_
          refine lv_istore_n (lv' := [(3, .int (iI (((sumN (fun c => if isOn σ c k = true then (if σ 2 c < t then 1 else 0) else 0) i) + 0 : Nat) : Int))), (0, .ref (ad 10 (0))), (1, .int (iI ((k : Nat) : Int))), (2, .int (iI ((t : Nat) : Int))), (4, .int (iI ((i : Nat) : Int)))]) hx hb dX3_earlier_41 rfl hl (by decide) rfl (fun ls hl => ?_)
          refine fw_iincN (x := i) (lv' := [(4, .int (iI ((i + 1 : Nat) : Int))), (3, .int (iI (((sumN (fun c => if isOn σ c k = true then (if σ 2 c < t then 1 else 0) else 0) i) + 0 : Nat) : Int))), (0, .ref (ad 10 (0))), (1, .int (iI ((k : Nat) : Int))), (2, .int (iI ((t : Nat) : Int)))]) hx hb dX3_earlier_42 hl (k := 4) rfl (by decide) rfl (fun ls hl => ?_)
          refine lv_goto (tgt := 5) hx hb dX3_earlier_45 (by decide) ?_
          exact ih_5 (i + 1) _ (by omega) (by omega) (by rw [sumN]; first | rw [ifF (by assumption)] | (rw [ifT (by assumption)]; first | rw [if_pos (by omega)] | rw [if_neg (by omega)])) H locs ls hP hS (lv_sub hl [2, 3, 4, 1, 0] rfl)
        · refine lv_aload_n hx hb dX3_earlier_25 rfl (lv_at hl 0 rfl) ?_
          refine lv_iload hx hb dX3_earlier_26 (lv_at hl 4 rfl) ?_
          refine fw_cVi (As := [.int (iI ((i : Nat) : Int))]) (rest := [.int (iI ((sumN (fun c => if isOn σ c k = true then (if σ 2 c < t then 1 else 0) else 0) i : Nat) : Int))]) ⟨hx, hb, hml, hown, hts⟩ (c_X3_to l D cA z ad σ th u a μ i hI.b (by omega)) (cwV 1 hts gX3_earlier_X3_to rfl rfl rfl (by decide +kernel) ⟨Nat.le_of_ble_eq_true rfl, Nat.le_of_ble_eq_true rfl⟩) WM_10 rfl rfl hl.1 (Nat.le_of_ble_eq_true rfl) dX3_earlier_28 ⟨Nat.le_of_ble_eq_true rfl, Nat.le_of_ble_eq_true rfl⟩ hK hP hS rfl (fun r w' H locs q_7 hP hS => ?_)
          obtain ⟨rfl, rfl⟩ := q_7
          refine lv_iload_n hx hb dX3_earlier_31 rfl (lv_at hl 2 rfl) ?_
          refine fw_icmp_ge (x := ((σ 2 i : Nat) : Int)) (y := ((t : Nat) : Int)) (tgt := 39) hx hb dX3_earlier_32 (by decide) ⟨by omega, by omega⟩ ⟨by omega, by omega⟩ (fun c_8 => ?_) (fun c_8 => ?_)
          · refine lv_iconst (v := iI ((0 : Nat) : Int)) hx hb dX3_earlier_39 (by decide) ?_
            refine fw_iaddN (a := sumN (fun c => if isOn σ c k = true then (if σ 2 c < t then 1 else 0) else 0) i) (b := 0) hx hb dX3_earlier_40 ?_
            refine lv_istore_n (lv' := [(3, .int (iI (((sumN (fun c => if isOn σ c k = true then (if σ 2 c < t then 1 else 0) else 0) i) + 0 : Nat) : Int))), (0, .ref (ad 10 (0))), (1, .int (iI ((k : Nat) : Int))), (2, .int (iI ((t : Nat) : Int))), (4, .int (iI ((i : Nat) : Int)))]) hx hb dX3_earlier_41 rfl hl (by decide) rfl (fun ls hl => ?_)
            refine fw_iincN (x := i) (lv' := [(4, .int (iI ((i + 1 : Nat) : Int))), (3, .int (iI (((sumN (fun c => if isOn σ c k = true then (if σ 2 c < t then 1 else 0) else 0) i) + 0 : Nat) : Int))), (0, .ref (ad 10 (0))), (1, .int (iI ((k : Nat) : Int))), (2, .int (iI ((t : Nat) : Int)))]) hx hb dX3_earlier_42 hl (k := 4) rfl (by decide) rfl (fun ls hl => ?_)
            refine lv_goto (tgt := 5) hx hb dX3_earlier_45 (by decide) ?_
            exact ih_5 (i + 1) _ (by omega) (by omega) (by rw [sumN]; first | rw [ifF (by assumption)] | (rw [ifT (by assumption)]; first | rw [if_pos (by omega)] | rw [if_neg (by omega)])) H locs ls hP hS (lv_sub hl [2, 3, 4, 1, 0] rfl)
          · refine lv_iconst (v := iI ((1 : Nat) : Int)) hx hb dX3_earlier_35 (by decide) ?_
            refine lv_goto (tgt := 40) hx hb dX3_earlier_36 (by decide) ?_
            refine fw_iaddN (a := sumN (fun c => if isOn σ c k = true then (if σ 2 c < t then 1 else 0) else 0) i) (b := 1) hx hb dX3_earlier_40 ?_
            refine lv_istore_n (lv' := [(3, .int (iI (((sumN (fun c => if isOn σ c k = true then (if σ 2 c < t then 1 else 0) else 0) i) + 1 : Nat) : Int))), (0, .ref (ad 10 (0))), (1, .int (iI ((k : Nat) : Int))), (2, .int (iI ((t : Nat) : Int))), (4, .int (iI ((i : Nat) : Int)))]) hx hb dX3_earlier_41 rfl hl (by decide) rfl (fun ls hl => ?_)
            refine fw_iincN (x := i) (lv' := [(4, .int (iI ((i + 1 : Nat) : Int))), (3, .int (iI (((sumN (fun c => if isOn σ c k = true then (if σ 2 c < t then 1 else 0) else 0) i) + 1 : Nat) : Int))), (0, .ref (ad 10 (0))), (1, .int (iI ((k : Nat) : Int))), (2, .int (iI ((t : Nat) : Int)))]) hx hb dX3_earlier_42 hl (k := 4) rfl (by decide) rfl (fun ls hl => ?_)
            refine lv_goto (tgt := 5) hx hb dX3_earlier_45 (by decide) ?_
            exact ih_5 (i + 1) _ (by omega) (by omega) (by rw [sumN]; first | rw [ifF (by assumption)] | (rw [ifT (by assumption)]; first | rw [if_pos (by omega)] | rw [if_neg (by omega)])) H locs ls hP hS (lv_sub hl [2, 3, 4, 1, 0] rfl)
  exact loop_5 (σ 8 0 + 1) (0) _ (by omega) (by omega) (by rfl) H locs ls hP hS (lv_sub hl [2, 3, 4, 1, 0] rfl)

abbrev rm_X3_isAllowed : Room := { frames := 3, cells := 0, slots := 0, locals := 66 }
abbrev po_X3_isAllowed (cA : Nat → ClassId) (ad : fw_Ad) (σ : St) (th u a : Int) (μ : fw_W) (c k : Nat) : Int32 → fw_W → Prop := fun r w' => r = iI (bI (cB (allowed σ c k))) ∧ w' = WM cA ad σ th u a μ
set_option maxHeartbeats 4000000 in
set_option maxRecDepth 100000 in
theorem c_X3_isAllowed (l : Launch) (D : va_G) (cA : Nat → ClassId) (z : Nat) (ad : fw_Ad) (σ : St) (th u a : Int) (μ : fw_W) (c k : Nat) (hI : Inv σ) (hc : c < 40) (hk : k < 30) : Met l yX3_isAllowed wsX3_isAllowed rm_X3_isAllowed (va_Pc [.ref (ad 10 (0)), .int (iI ((c : Nat) : Int)), .int (iI ((k : Nat) : Int))] (fw_Pre D vwCl (fw_T cA) z ad (WM cA ad σ th u a μ))) (fw_Qi D vwCl z ad (po_X3_isAllowed cA ad σ th u a μ c k)) 0 0 (fw_A z) := by
  refine Met.ofW (cc := cX3_isAllowed) (maxL := 5) (ret := (some .boolean)) (by decide) rfl ?_
  intro pg en s m args below meth cd s₁ B hml hv
  obtain ⟨hargs, hP, hK⟩ := hv
  have hx := B.exec
  have hb := B.bytes
  have hr := B.returns
  have hts := atoms_spec (ws := wsX3_isAllowed) B.pre
  have hown : s.vm.findClass RX3 = some m.cls := findClass_of_methodNamed B.named
  have hlocks := B.notSynchronized
  have hinX3 : ∀ w ∈ u_ws RX3 TX3 13, w ∈ wsX3_isAllowed := by decide +kernel
  have hf9 := hts (.fieldLink RX3 9 "StowagePlanModel" "table" "[I") (by decide +kernel)
  have hf54 := hts (.fieldLink RX3 54 "StowagePlanModel" "port" "I") (by decide +kernel)
  have hf23 := hts (.fieldLink RX3 23 "StowagePlanModel" "stackLimit" "I") (by decide +kernel)
  have hf36 := hts (.fieldLink RX3 36 "StowagePlanModel" "many" "I") (by decide +kernel)
  have hf13 := hts (.fieldLink RX3 13 "StowagePlanModel" "stacks" "[I") (by decide +kernel)
  have hf19 := hts (.fieldLink RX3 19 "StowagePlanModel" "plugs" "[Z") (by decide +kernel)
  have hl := lv_entry ([.ref (ad 10 (0)), .int (iI ((c : Nat) : Int)), .int (iI ((k : Nat) : Int))]) (n := 5) (Nat.le_of_ble_eq_true rfl)
  have hent : entryFrame m args 5 = entryFrame m ([.ref (ad 10 (0)), .int (iI ((c : Nat) : Int)), .int (iI ((k : Nat) : Int))] : List Value).toArray 5 := by rw [hargs]
  rw [hent, lg_entry_eq]
  generalize (lg_sl ([.ref (ad 10 (0)), .int (iI ((c : Nat) : Int)), .int (iI ((k : Nat) : Int))]) ++ List.replicate (5 - (lg_sl ([.ref (ad 10 (0)), .int (iI ((c : Nat) : Int)), .int (iI ((k : Nat) : Int))])).length) Slot.unset).toArray = ls at hl ⊢
  have hl : lv_has ls 5 [(0, .ref (ad 10 (0))), (1, .int (iI ((c : Nat) : Int))), (2, .int (iI ((k : Nat) : Int)))] := hl
  generalize hQ : MQ below (fw_Qi D vwCl z ad (po_X3_isAllowed cA ad σ th u a μ c k)) args s 0 0 (fw_A z) = Q
  generalize hH : s.heap = H at hP ⊢
  have hS : va_S (fw_A z) s.heap H [] := by rw [← hH]; exact va_S.rf
  generalize ([] : List Loc) = locs at hS ⊢
  refine lv_aload_n hx hb dX3_isAllowed_0 rfl (lv_at hl 0 rfl) ?_
  refine lv_iload_n hx hb dX3_isAllowed_1 rfl (lv_at hl 1 rfl) ?_
  refine fw_cVi (As := [.int (iI ((c : Nat) : Int))]) (rest := []) ⟨hx, hb, hml, hown, hts⟩ (c_X3_state l D cA z ad σ th u a μ c hI.b (by omega)) (cwV 1 hts gX3_isAllowed_X3_state rfl rfl rfl (by decide +kernel) ⟨Nat.le_of_ble_eq_true rfl, Nat.le_of_ble_eq_true rfl⟩) WM_10 rfl rfl hl.1 (Nat.le_of_ble_eq_true rfl) dX3_isAllowed_2 ⟨Nat.le_of_ble_eq_true rfl, Nat.le_of_ble_eq_true rfl⟩ hK hP hS rfl (fun r w' H locs q_1 hP hS => ?_)
  obtain ⟨rfl, rfl⟩ := q_1
  have hc_2 := hI.c c
  have hn_3 := hI.n
  have hm_4 := hI.lim
  refine fw_if_ne (x := ((σ 4 c : Nat) : Int)) (tgt := 52) hx hb dX3_isAllowed_5 (by decide) ⟨by omega, by omega⟩ (fun c_5 => ?_) (fun c_5 => ?_)
  · refine lv_iconst (v := iI ((0 : Nat) : Int)) hx hb dX3_isAllowed_52 (by decide) ?_
    subst hQ
    exact fw_zret hx hb hr hlocks dX3_isAllowed_53 hP hS rfl ⟨congrArg iI (bI_cf (by rintro ⟨q1, q2, q3, q4, q5, q6⟩; omega)), rfl⟩
  · refine lv_aload_n hx hb dX3_isAllowed_8 rfl (lv_at hl 0 rfl) ?_
    refine fw_get (ci := 3) (v := .ref (ad 11 (0))) (C := RX3) (T := TX3) (N := 13) hx hb hts hinX3 hown hK hP WM_10 rfl 2 (by decide) hf9 (fun _ h9 => h9) rfl dX3_isAllowed_9 ?_
    refine lv_iconst (v := iI ((5 : Nat) : Int)) hx hb dX3_isAllowed_12 (by decide) ?_
    refine lv_iload_n hx hb dX3_isAllowed_13 rfl (lv_at hl 1 rfl) ?_
    refine fw_imulN (a := 5) (b := c) hx hb dX3_isAllowed_14 ?_
    refine lv_iconst (v := iI ((1 : Nat) : Int)) hx hb dX3_isAllowed_15 (by decide) ?_
    refine fw_iaddN (a := 5 * c) (b := 1) hx hb dX3_isAllowed_16 ?_
    refine fw_ialdN (j := (5 * c) + 1) hx hb hK hP WM_11 0 rfl (by omega) (by decide) dX3_isAllowed_17 ?_
    refine fw_topI (b := ((σ 1 c : Nat) : Int)) (by rw [show ((5 * c) + 1) % 5 = 1 from by omega, show ((5 * c) + 1) / 5 = c from by omega]) ?_
    refine lv_aload_n hx hb dX3_isAllowed_18 rfl (lv_at hl 0 rfl) ?_
    refine fw_get (ci := 3) (v := .int (iI ((σ 8 4 : Nat) : Int))) (C := RX3) (T := TX3) (N := 13) hx hb hts hinX3 hown hK hP WM_10 rfl 9 (by decide) hf54 (fun _ h9 => h9) rfl dX3_isAllowed_19 ?_
    refine fw_icmp_ne (x := ((σ 1 c : Nat) : Int)) (y := ((σ 8 4 : Nat) : Int)) (tgt := 52) hx hb dX3_isAllowed_22 (by decide) ⟨by omega, by omega⟩ ⟨by omega, by omega⟩ (fun c_6 => ?_) (fun c_6 => ?_)
    · refine lv_iconst (v := iI ((0 : Nat) : Int)) hx hb dX3_isAllowed_52 (by decide) ?_
      subst hQ
      exact fw_zret hx hb hr hlocks dX3_isAllowed_53 hP hS rfl ⟨congrArg iI (bI_cf (by rintro ⟨q1, q2, q3, q4, q5, q6⟩; omega)), rfl⟩
    · refine lv_aload_n hx hb dX3_isAllowed_25 rfl (lv_at hl 0 rfl) ?_
      refine lv_iload_n hx hb dX3_isAllowed_26 rfl (lv_at hl 2 rfl) ?_
      refine fw_cVi (As := [.int (iI ((k : Nat) : Int))]) (rest := []) ⟨hx, hb, hml, hown, hts⟩ (c_X3_high l D cA z ad σ th u a μ k hI (by omega)) (cwV 1 hts gX3_isAllowed_X3_high rfl rfl rfl (by decide +kernel) ⟨Nat.le_of_ble_eq_true rfl, Nat.le_of_ble_eq_true rfl⟩) WM_10 rfl rfl hl.1 (Nat.le_of_ble_eq_true rfl) dX3_isAllowed_27 ⟨Nat.le_of_ble_eq_true rfl, Nat.le_of_ble_eq_true rfl⟩ hK hP hS rfl (fun r w' H locs q_7 hP hS => ?_)
      obtain ⟨rfl, rfl⟩ := q_7
      have hh_8 := high_le hI k
      refine lv_iconst (v := iI ((4 : Nat) : Int)) hx hb dX3_isAllowed_30 (by decide) ?_
      refine fw_icmp_eq (x := ((high σ k : Nat) : Int)) (y := ((4 : Nat) : Int)) (tgt := 52) hx hb dX3_isAllowed_31 (by decide) ⟨by omega, by omega⟩ ⟨by omega, by omega⟩ (fun c_9 => ?_) (fun c_9 => ?_)
      · refine lv_iconst (v := iI ((0 : Nat) : Int)) hx hb dX3_isAllowed_52 (by decide) ?_
        subst hQ
        exact fw_zret hx hb hr hlocks dX3_isAllowed_53 hP hS rfl ⟨congrArg iI (bI_cf (by rintro ⟨q1, q2, q3, q4, q5, q6⟩; omega)), rfl⟩
      · refine lv_aload_n hx hb dX3_isAllowed_34 rfl (lv_at hl 0 rfl) ?_
        refine lv_iload_n hx hb dX3_isAllowed_35 rfl (lv_at hl 2 rfl) ?_
        refine fw_cVi (As := [.int (iI ((k : Nat) : Int))]) (rest := []) ⟨hx, hb, hml, hown, hts⟩ (c_X3_weightOf l D cA z ad σ th u a μ k hI (by omega)) (cwV 1 hts gX3_isAllowed_X3_weightOf rfl rfl rfl (by decide +kernel) ⟨Nat.le_of_ble_eq_true rfl, Nat.le_of_ble_eq_true rfl⟩) WM_10 rfl rfl hl.1 (Nat.le_of_ble_eq_true rfl) dX3_isAllowed_36 ⟨Nat.le_of_ble_eq_true rfl, Nat.le_of_ble_eq_true rfl⟩ hK hP hS rfl (fun r w' H locs q_10 hP hS => ?_)
        obtain ⟨rfl, rfl⟩ := q_10
        have hh_11 := wOf_le hI k
        refine lv_aload_n hx hb dX3_isAllowed_39 rfl (lv_at hl 0 rfl) ?_
        refine lv_iload_n hx hb dX3_isAllowed_40 rfl (lv_at hl 1 rfl) ?_
        refine fw_cVi (As := [.int (iI ((c : Nat) : Int))]) (rest := [.int (iI ((wOf σ k : Nat) : Int))]) ⟨hx, hb, hml, hown, hts⟩ (c_X3_heavy l D cA z ad σ th u a μ c hI.b (by omega)) (cwV 1 hts gX3_isAllowed_X3_heavy rfl rfl rfl (by decide +kernel) ⟨Nat.le_of_ble_eq_true rfl, Nat.le_of_ble_eq_true rfl⟩) WM_10 rfl rfl hl.1 (Nat.le_of_ble_eq_true rfl) dX3_isAllowed_41 ⟨Nat.le_of_ble_eq_true rfl, Nat.le_of_ble_eq_true rfl⟩ hK hP hS rfl (fun r w' H locs q_12 hP hS => ?_)
        obtain ⟨rfl, rfl⟩ := q_12
        refine fw_iaddN (a := wOf σ k) (b := σ 0 c) hx hb dX3_isAllowed_44 ?_
        refine lv_aload_n hx hb dX3_isAllowed_45 rfl (lv_at hl 0 rfl) ?_
        refine fw_get (ci := 3) (v := .int (iI ((σ 8 1 : Nat) : Int))) (C := RX3) (T := TX3) (N := 13) hx hb hts hinX3 hown hK hP WM_10 rfl 6 (by decide) hf23 (fun _ h9 => h9) rfl dX3_isAllowed_46 ?_
        refine fw_icmp_le (x := (((wOf σ k) + (σ 0 c) : Nat) : Int)) (y := ((σ 8 1 : Nat) : Int)) (tgt := 54) hx hb dX3_isAllowed_49 (by decide) ⟨by omega, by omega⟩ ⟨by omega, by omega⟩ (fun c_13 => ?_) (fun c_13 => ?_)
        · refine lv_aload_n hx hb dX3_isAllowed_54 rfl (lv_at hl 0 rfl) ?_
          refine lv_iload_n hx hb dX3_isAllowed_55 rfl (lv_at hl 1 rfl) ?_
          refine fw_cVi (As := [.int (iI ((c : Nat) : Int))]) (rest := []) ⟨hx, hb, hml, hown, hts⟩ (c_X3_kind l D cA z ad σ th u a μ c hI.b (by omega)) (cwV 1 hts gX3_isAllowed_X3_kind rfl rfl rfl (by decide +kernel) ⟨Nat.le_of_ble_eq_true rfl, Nat.le_of_ble_eq_true rfl⟩) WM_10 rfl rfl hl.1 (Nat.le_of_ble_eq_true rfl) dX3_isAllowed_56 ⟨Nat.le_of_ble_eq_true rfl, Nat.le_of_ble_eq_true rfl⟩ hK hP hS rfl (fun r w' H locs q_14 hP hS => ?_)
          obtain ⟨rfl, rfl⟩ := q_14
          refine lv_iconst (v := iI ((1 : Nat) : Int)) hx hb dX3_isAllowed_59 (by decide) ?_
          refine fw_icmp_ne (x := ((σ 3 c : Nat) : Int)) (y := ((1 : Nat) : Int)) (tgt := 83) hx hb dX3_isAllowed_60 (by decide) ⟨by omega, by omega⟩ ⟨by omega, by omega⟩ (fun c_15 => ?_) (fun c_15 => ?_)
          · refine lv_iconst (v := iI ((1 : Nat) : Int)) hx hb dX3_isAllowed_83 (by decide) ?_
            refine lv_istore_n (lv' := [(3, .int (iI ((1 : Nat) : Int))), (0, .ref (ad 10 (0))), (1, .int (iI ((c : Nat) : Int))), (2, .int (iI ((k : Nat) : Int)))]) hx hb dX3_isAllowed_84 rfl hl (by decide) rfl (fun ls hl => ?_)
            refine lv_iconst (v := iI ((0 : Nat) : Int)) hx hb dX3_isAllowed_85 (by decide) ?_
            refine lv_istore (lv' := [(4, .int (iI ((0 : Nat) : Int))), (3, .int (iI ((1 : Nat) : Int))), (0, .ref (ad 10 (0))), (1, .int (iI ((c : Nat) : Int))), (2, .int (iI ((k : Nat) : Int)))]) hx hb dX3_isAllowed_86 hl (by decide) rfl (fun ls hl => ?_)
            have loop_88 : ∀ (dd i : Nat) (fl : Bool), σ 8 0 + 1 ≤ i + dd → i ≤ σ 8 0 → (0 < i → 2 ≤ σ 3 c) → fl = cB (lonI σ c k i) → ∀ (H : Heap) (locs : List Loc) (ls : Array Slot), fw_P D vwCl z ad (WM cA ad σ th u a μ) H → va_S (fw_A z) s.heap H locs → lv_has ls 5 [(0, .ref (ad 10 (0))), (1, .int (iI ((c : Nat) : Int))), (2, .int (iI ((k : Nat) : Int))), (3, .int (iI (bI (fl)))), (4, .int (iI ((i : Nat) : Int)))] → W pg l en (headSpec wsX3_isAllowed rm_X3_isAllowed).room s m args below meth cd H locs 0 0 Q (F0 m 88 ls []) := by
              intro dd
              induction dd with
              | zero => intro i fl hd_88 hi_88; omega
              | succ dd ih_88 =>
                intro i fl hd_88 hi_88 hk2 e_fl H locs ls hP hS hl
                subst e_fl
                refine lv_iload hx hb dX3_isAllowed_88 (lv_at hl 4 rfl) ?_
                refine lv_aload_n hx hb dX3_isAllowed_90 rfl (lv_at hl 0 rfl) ?_
                refine fw_get (ci := 3) (v := .int (iI ((σ 8 0 : Nat) : Int))) (C := RX3) (T := TX3) (N := 13) hx hb hts hinX3 hown hK hP WM_10 rfl 1 (by decide) hf36 (fun _ h9 => h9) rfl dX3_isAllowed_91 ?_
                refine fw_icmp_ge (x := ((i : Nat) : Int)) (y := ((σ 8 0 : Nat) : Int)) (tgt := 170) hx hb dX3_isAllowed_94 (by decide) ⟨by omega, by omega⟩ ⟨by omega, by omega⟩ (fun c_16 => ?_) (fun c_16 => ?_)
                · refine lv_iload_n hx hb dX3_isAllowed_170 rfl (lv_at hl 3 rfl) ?_
                  subst hQ
                  exact fw_zret hx hb hr hlocks dX3_isAllowed_171 hP hS (iI_narrow _) ⟨congrArg (fun x => iI (bI x)) (cB_congr (by unfold allowed lonely lonI; constructor; (intro q; refine ⟨by omega, by omega, by omega, by omega, by omega, fun h2 o ho => q o (by omega)⟩); (rintro ⟨-, -, -, -, -, q⟩ o ho; exact q (by omega) o (by omega)))), rfl⟩
                · refine lv_aload_n hx hb dX3_isAllowed_97 rfl (lv_at hl 0 rfl) ?_
                  refine lv_iload_n hx hb dX3_isAllowed_98 rfl (lv_at hl 1 rfl) ?_
                  refine fw_cVi (As := [.int (iI ((c : Nat) : Int))]) (rest := []) ⟨hx, hb, hml, hown, hts⟩ (c_X3_kind l D cA z ad σ th u a μ c hI.b (by omega)) (cwV 1 hts gX3_isAllowed_X3_kind rfl rfl rfl (by decide +kernel) ⟨Nat.le_of_ble_eq_true rfl, Nat.le_of_ble_eq_true rfl⟩) WM_10 rfl rfl hl.1 (Nat.le_of_ble_eq_true rfl) dX3_isAllowed_99 ⟨Nat.le_of_ble_eq_true rfl, Nat.le_of_ble_eq_true rfl⟩ hK hP hS rfl (fun r w' H locs q_17 hP hS => ?_)
                  obtain ⟨rfl, rfl⟩ := q_17
                  refine lv_iconst (v := iI ((2 : Nat) : Int)) hx hb dX3_isAllowed_102 (by decide) ?_
                  refine fw_icmp_lt (x := ((σ 3 c : Nat) : Int)) (y := ((2 : Nat) : Int)) (tgt := 170) hx hb dX3_isAllowed_103 (by decide) ⟨by omega, by omega⟩ ⟨by omega, by omega⟩ (fun c_18 => ?_) (fun c_18 => ?_)
                  · refine lv_iload_n hx hb dX3_isAllowed_170 rfl (lv_at hl 3 rfl) ?_
                    subst hQ
                    exact fw_zret hx hb hr hlocks dX3_isAllowed_171 hP hS (iI_narrow _) ⟨congrArg (fun x => iI (bI x)) (cB_congr (by unfold allowed lonely lonI; constructor; (intro q; refine ⟨by omega, by omega, by omega, by omega, by omega, fun h2 o ho => q o (by omega)⟩); (rintro ⟨-, -, -, -, -, q⟩ o ho; exact q (by omega) o (by omega)))), rfl⟩
                  · refine lv_iload_n hx hb dX3_isAllowed_106 rfl (lv_at hl 3 rfl) ?_
                    refine fw_if_eqB (x := cB (lonI σ c k i)) (tgt := 162) hx hb dX3_isAllowed_107 (by decide) (fun c_19 => ?_) (fun c_19 => ?_)
                    · replace c_19 := cB_f.mp c_19
                      refine lv_iconst (v := iI ((0 : Nat) : Int)) hx hb dX3_isAllowed_162 (by decide) ?_
                      refine lv_istore_n (lv' := [(3, .int (iI ((0 : Nat) : Int))), (0, .ref (ad 10 (0))), (1, .int (iI ((c : Nat) : Int))), (2, .int (iI ((k : Nat) : Int))), (4, .int (iI ((i : Nat) : Int)))]) hx hb dX3_isAllowed_163 rfl hl (by decide) rfl (fun ls hl => ?_)
                      refine fw_iincN (x := i) (lv' := [(4, .int (iI ((i + 1 : Nat) : Int))), (3, .int (iI ((0 : Nat) : Int))), (0, .ref (ad 10 (0))), (1, .int (iI ((c : Nat) : Int))), (2, .int (iI ((k : Nat) : Int)))]) hx hb dX3_isAllowed_164 hl (k := 4) rfl (by decide) rfl (fun ls hl => ?_)
                      refine lv_goto (tgt := 88) hx hb dX3_isAllowed_167 (by decide) ?_
                      exact ih_88 (i + 1) false (by omega) (by omega) (by intro _; omega) (cB_f.mpr (by first | (intro q; exact absurd (show lonI σ c k i from fun o ho => q o (by omega)) (by assumption)) | (intro q; exact q i (by omega) ⟨by omega, by omega, by omega, by rw [apart_symm]; assumption⟩))).symm H locs ls hP hS (lv_sub hl [2, 3, 4, 1, 0] rfl)
                    · replace c_19 := cB_t.mp c_19
                      refine lv_aload_n hx hb dX3_isAllowed_110 rfl (lv_at hl 0 rfl) ?_
                      refine lv_iload hx hb dX3_isAllowed_111 (lv_at hl 4 rfl) ?_
                      refine fw_cVi (As := [.int (iI ((i : Nat) : Int))]) (rest := []) ⟨hx, hb, hml, hown, hts⟩ (c_X3_state l D cA z ad σ th u a μ i hI.b (by omega)) (cwV 1 hts gX3_isAllowed_X3_state rfl rfl rfl (by decide +kernel) ⟨Nat.le_of_ble_eq_true rfl, Nat.le_of_ble_eq_true rfl⟩) WM_10 rfl rfl hl.1 (Nat.le_of_ble_eq_true rfl) dX3_isAllowed_113 ⟨Nat.le_of_ble_eq_true rfl, Nat.le_of_ble_eq_true rfl⟩ hK hP hS rfl (fun r w' H locs q_20 hP hS => ?_)
                      obtain ⟨rfl, rfl⟩ := q_20
                      have hc_21 := hI.c i
                      refine lv_iconst (v := iI ((1 : Nat) : Int)) hx hb dX3_isAllowed_116 (by decide) ?_
                      refine fw_icmp_ne (x := ((σ 4 i : Nat) : Int)) (y := ((1 : Nat) : Int)) (tgt := 158) hx hb dX3_isAllowed_117 (by decide) ⟨by omega, by omega⟩ ⟨by omega, by omega⟩ (fun c_22 => ?_) (fun c_22 => ?_)
                      · refine lv_iconst (v := iI ((1 : Nat) : Int)) hx hb dX3_isAllowed_158 (by decide) ?_
                        refine lv_goto (tgt := 163) hx hb dX3_isAllowed_159 (by decide) ?_
                        refine lv_istore_n (lv' := [(3, .int (iI ((1 : Nat) : Int))), (0, .ref (ad 10 (0))), (1, .int (iI ((c : Nat) : Int))), (2, .int (iI ((k : Nat) : Int))), (4, .int (iI ((i : Nat) : Int)))]) hx hb dX3_isAllowed_163 rfl hl (by decide) rfl (fun ls hl => ?_)
                        refine fw_iincN (x := i) (lv' := [(4, .int (iI ((i + 1 : Nat) : Int))), (3, .int (iI ((1 : Nat) : Int))), (0, .ref (ad 10 (0))), (1, .int (iI ((c : Nat) : Int))), (2, .int (iI ((k : Nat) : Int)))]) hx hb dX3_isAllowed_164 hl (k := 4) rfl (by decide) rfl (fun ls hl => ?_)
                        refine lv_goto (tgt := 88) hx hb dX3_isAllowed_167 (by decide) ?_
                        exact ih_88 (i + 1) true (by omega) (by omega) (by intro _; omega) (cB_t.mpr (by intro o ho; by_cases e : o = i; (subst e; unfold clash; first | omega | (rw [apart_symm]; rintro ⟨-, -, -, q⟩; exact q (by assumption))); exact (by assumption : lonI σ c k i) o (by omega))).symm H locs ls hP hS (lv_sub hl [2, 3, 4, 1, 0] rfl)
                      · refine lv_aload_n hx hb dX3_isAllowed_120 rfl (lv_at hl 0 rfl) ?_
                        refine lv_iload hx hb dX3_isAllowed_121 (lv_at hl 4 rfl) ?_
                        refine fw_cVi (As := [.int (iI ((i : Nat) : Int))]) (rest := []) ⟨hx, hb, hml, hown, hts⟩ (c_X3_kind l D cA z ad σ th u a μ i hI.b (by omega)) (cwV 1 hts gX3_isAllowed_X3_kind rfl rfl rfl (by decide +kernel) ⟨Nat.le_of_ble_eq_true rfl, Nat.le_of_ble_eq_true rfl⟩) WM_10 rfl rfl hl.1 (Nat.le_of_ble_eq_true rfl) dX3_isAllowed_123 ⟨Nat.le_of_ble_eq_true rfl, Nat.le_of_ble_eq_true rfl⟩ hK hP hS rfl (fun r w' H locs q_23 hP hS => ?_)
                        obtain ⟨rfl, rfl⟩ := q_23
                        refine lv_iconst (v := iI ((2 : Nat) : Int)) hx hb dX3_isAllowed_126 (by decide) ?_
                        refine fw_icmp_lt (x := ((σ 3 i : Nat) : Int)) (y := ((2 : Nat) : Int)) (tgt := 158) hx hb dX3_isAllowed_127 (by decide) ⟨by omega, by omega⟩ ⟨by omega, by omega⟩ (fun c_24 => ?_) (fun c_24 => ?_)
                        · refine lv_iconst (v := iI ((1 : Nat) : Int)) hx hb dX3_isAllowed_158 (by decide) ?_
                          refine lv_goto (tgt := 163) hx hb dX3_isAllowed_159 (by decide) ?_
                          refine lv_istore_n (lv' := [(3, .int (iI ((1 : Nat) : Int))), (0, .ref (ad 10 (0))), (1, .int (iI ((c : Nat) : Int))), (2, .int (iI ((k : Nat) : Int))), (4, .int (iI ((i : Nat) : Int)))]) hx hb dX3_isAllowed_163 rfl hl (by decide) rfl (fun ls hl => ?_)
                          refine fw_iincN (x := i) (lv' := [(4, .int (iI ((i + 1 : Nat) : Int))), (3, .int (iI ((1 : Nat) : Int))), (0, .ref (ad 10 (0))), (1, .int (iI ((c : Nat) : Int))), (2, .int (iI ((k : Nat) : Int)))]) hx hb dX3_isAllowed_164 hl (k := 4) rfl (by decide) rfl (fun ls hl => ?_)
                          refine lv_goto (tgt := 88) hx hb dX3_isAllowed_167 (by decide) ?_
                          exact ih_88 (i + 1) true (by omega) (by omega) (by intro _; omega) (cB_t.mpr (by intro o ho; by_cases e : o = i; (subst e; unfold clash; first | omega | (rw [apart_symm]; rintro ⟨-, -, -, q⟩; exact q (by assumption))); exact (by assumption : lonI σ c k i) o (by omega))).symm H locs ls hP hS (lv_sub hl [2, 3, 4, 1, 0] rfl)
                        · refine lv_aload_n hx hb dX3_isAllowed_130 rfl (lv_at hl 0 rfl) ?_
                          refine lv_iload hx hb dX3_isAllowed_131 (lv_at hl 4 rfl) ?_
                          refine fw_cVi (As := [.int (iI ((i : Nat) : Int))]) (rest := []) ⟨hx, hb, hml, hown, hts⟩ (c_X3_kind l D cA z ad σ th u a μ i hI.b (by omega)) (cwV 1 hts gX3_isAllowed_X3_kind rfl rfl rfl (by decide +kernel) ⟨Nat.le_of_ble_eq_true rfl, Nat.le_of_ble_eq_true rfl⟩) WM_10 rfl rfl hl.1 (Nat.le_of_ble_eq_true rfl) dX3_isAllowed_133 ⟨Nat.le_of_ble_eq_true rfl, Nat.le_of_ble_eq_true rfl⟩ hK hP hS rfl (fun r w' H locs q_25 hP hS => ?_)
                          obtain ⟨rfl, rfl⟩ := q_25
                          refine lv_aload_n hx hb dX3_isAllowed_136 rfl (lv_at hl 0 rfl) ?_
                          refine lv_iload_n hx hb dX3_isAllowed_137 rfl (lv_at hl 1 rfl) ?_
                          refine fw_cVi (As := [.int (iI ((c : Nat) : Int))]) (rest := [.int (iI ((σ 3 i : Nat) : Int))]) ⟨hx, hb, hml, hown, hts⟩ (c_X3_kind l D cA z ad σ th u a μ c hI.b (by omega)) (cwV 1 hts gX3_isAllowed_X3_kind rfl rfl rfl (by decide +kernel) ⟨Nat.le_of_ble_eq_true rfl, Nat.le_of_ble_eq_true rfl⟩) WM_10 rfl rfl hl.1 (Nat.le_of_ble_eq_true rfl) dX3_isAllowed_138 ⟨Nat.le_of_ble_eq_true rfl, Nat.le_of_ble_eq_true rfl⟩ hK hP hS rfl (fun r w' H locs q_26 hP hS => ?_)
                          obtain ⟨rfl, rfl⟩ := q_26
                          refine fw_icmp_eq (x := ((σ 3 i : Nat) : Int)) (y := ((σ 3 c : Nat) : Int)) (tgt := 158) hx hb dX3_isAllowed_141 (by decide) ⟨by omega, by omega⟩ ⟨by omega, by omega⟩ (fun c_27 => ?_) (fun c_27 => ?_)
                          · refine lv_iconst (v := iI ((1 : Nat) : Int)) hx hb dX3_isAllowed_158 (by decide) ?_
                            refine lv_goto (tgt := 163) hx hb dX3_isAllowed_159 (by decide) ?_
                            refine lv_istore_n (lv' := [(3, .int (iI ((1 : Nat) : Int))), (0, .ref (ad 10 (0))), (1, .int (iI ((c : Nat) : Int))), (2, .int (iI ((k : Nat) : Int))), (4, .int (iI ((i : Nat) : Int)))]) hx hb dX3_isAllowed_163 rfl hl (by decide) rfl (fun ls hl => ?_)
                            refine fw_iincN (x := i) (lv' := [(4, .int (iI ((i + 1 : Nat) : Int))), (3, .int (iI ((1 : Nat) : Int))), (0, .ref (ad 10 (0))), (1, .int (iI ((c : Nat) : Int))), (2, .int (iI ((k : Nat) : Int)))]) hx hb dX3_isAllowed_164 hl (k := 4) rfl (by decide) rfl (fun ls hl => ?_)
                            refine lv_goto (tgt := 88) hx hb dX3_isAllowed_167 (by decide) ?_
                            exact ih_88 (i + 1) true (by omega) (by omega) (by intro _; omega) (cB_t.mpr (by intro o ho; by_cases e : o = i; (subst e; unfold clash; first | omega | (rw [apart_symm]; rintro ⟨-, -, -, q⟩; exact q (by assumption))); exact (by assumption : lonI σ c k i) o (by omega))).symm H locs ls hP hS (lv_sub hl [2, 3, 4, 1, 0] rfl)
                          · refine lv_iload_n hx hb dX3_isAllowed_144 rfl (lv_at hl 2 rfl) ?_
                            refine lv_aload_n hx hb dX3_isAllowed_145 rfl (lv_at hl 0 rfl) ?_
                            refine fw_get (ci := 3) (v := .ref (ad 12 (0))) (C := RX3) (T := TX3) (N := 13) hx hb hts hinX3 hown hK hP WM_10 rfl 3 (by decide) hf13 (fun _ h9 => h9) rfl dX3_isAllowed_146 ?_
                            refine lv_iload hx hb dX3_isAllowed_149 (lv_at hl 4 rfl) ?_
                            refine fw_ialdN (j := i) hx hb hK hP WM_12 0 rfl (by omega) (by decide) dX3_isAllowed_151 ?_
                            refine fw_topI (b := ((σ 5 i : Nat) : Int)) rfl ?_
                            refine fw_cSi (As := [.int (iI ((k : Nat) : Int)), .int (iI ((σ 5 i : Nat) : Int))]) (rest := []) ⟨hx, hb, hml, hown, hts⟩ (c_X3_areApart l D cA z ad (WM cA ad σ th u a μ) k (σ 5 i) (by omega) (by omega)) (va_cwS 2 hts gX3_isAllowed_X3_areApart rfl rfl rfl (by decide +kernel) ⟨Nat.le_of_ble_eq_true rfl, Nat.le_of_ble_eq_true rfl⟩) rfl hl.1 (Nat.le_of_ble_eq_true rfl) dX3_isAllowed_152 ⟨Nat.le_of_ble_eq_true rfl, Nat.le_of_ble_eq_true rfl⟩ hK hP hS rfl (fun r w' H locs q_28 hP hS => ?_)
                            obtain ⟨rfl, rfl⟩ := q_28
                            refine fw_if_eqB (x := cB (apart k (σ 5 i))) (tgt := 162) hx hb dX3_isAllowed_155 (by decide) (fun c_29 => ?_) (fun c_29 => ?_)
                            · replace c_29 := cB_f.mp c_29
                              refine lv_iconst (v := iI ((0 : Nat) : Int)) hx hb dX3_isAllowed_162 (by decide) ?_
                              refine lv_istore_n (lv' := [(3, .int (iI ((0 : Nat) : Int))), (0, .ref (ad 10 (0))), (1, .int (iI ((c : Nat) : Int))), (2, .int (iI ((k : Nat) : Int))), (4, .int (iI ((i : Nat) : Int)))]) hx hb dX3_isAllowed_163 rfl hl (by decide) rfl (fun ls hl => ?_)
                              refine fw_iincN (x := i) (lv' := [(4, .int (iI ((i + 1 : Nat) : Int))), (3, .int (iI ((0 : Nat) : Int))), (0, .ref (ad 10 (0))), (1, .int (iI ((c : Nat) : Int))), (2, .int (iI ((k : Nat) : Int)))]) hx hb dX3_isAllowed_164 hl (k := 4) rfl (by decide) rfl (fun ls hl => ?_)
                              refine lv_goto (tgt := 88) hx hb dX3_isAllowed_167 (by decide) ?_
                              exact ih_88 (i + 1) false (by omega) (by omega) (by intro _; omega) (cB_f.mpr (by first | (intro q; exact absurd (show lonI σ c k i from fun o ho => q o (by omega)) (by assumption)) | (intro q; exact q i (by omega) ⟨by omega, by omega, by omega, by rw [apart_symm]; assumption⟩))).symm H locs ls hP hS (lv_sub hl [2, 3, 4, 1, 0] rfl)
                            · replace c_29 := cB_t.mp c_29
                              refine lv_iconst (v := iI ((1 : Nat) : Int)) hx hb dX3_isAllowed_158 (by decide) ?_
                              refine lv_goto (tgt := 163) hx hb dX3_isAllowed_159 (by decide) ?_
                              refine lv_istore_n (lv' := [(3, .int (iI ((1 : Nat) : Int))), (0, .ref (ad 10 (0))), (1, .int (iI ((c : Nat) : Int))), (2, .int (iI ((k : Nat) : Int))), (4, .int (iI ((i : Nat) : Int)))]) hx hb dX3_isAllowed_163 rfl hl (by decide) rfl (fun ls hl => ?_)
                              refine fw_iincN (x := i) (lv' := [(4, .int (iI ((i + 1 : Nat) : Int))), (3, .int (iI ((1 : Nat) : Int))), (0, .ref (ad 10 (0))), (1, .int (iI ((c : Nat) : Int))), (2, .int (iI ((k : Nat) : Int)))]) hx hb dX3_isAllowed_164 hl (k := 4) rfl (by decide) rfl (fun ls hl => ?_)
                              refine lv_goto (tgt := 88) hx hb dX3_isAllowed_167 (by decide) ?_
                              exact ih_88 (i + 1) true (by omega) (by omega) (by intro _; omega) (cB_t.mpr (by intro o ho; by_cases e : o = i; (subst e; unfold clash; first | omega | (rw [apart_symm]; rintro ⟨-, -, -, q⟩; exact q (by assumption))); exact (by assumption : lonI σ c k i) o (by omega))).symm H locs ls hP hS (lv_sub hl [2, 3, 4, 1, 0] rfl)
            exact loop_88 (σ 8 0 + 1) (0) true (by omega) (by omega) (by intro q; omega) (cB_t.mpr (by intro o ho; omega)).symm H locs ls hP hS (lv_sub hl [2, 3, 4, 1, 0] rfl)
          · refine lv_aload_n hx hb dX3_isAllowed_63 rfl (lv_at hl 0 rfl) ?_
            refine fw_get (ci := 3) (v := .ref (ad 14 (0))) (C := RX3) (T := TX3) (N := 13) hx hb hts hinX3 hown hK hP WM_10 rfl 5 (by decide) hf19 (fun _ h9 => h9) rfl dX3_isAllowed_64 ?_
            refine lv_iload_n hx hb dX3_isAllowed_67 rfl (lv_at hl 2 rfl) ?_
            refine fw_zaldN (j := k) hx hb hK hP WM_14 1 rfl (by omega) (by decide) dX3_isAllowed_68 ?_
            refine fw_topI (b := ((σ 7 k : Nat) : Int)) rfl ?_
            have hp_30 := hI.pl k
            refine fw_if_eq (x := ((σ 7 k : Nat) : Int)) (tgt := 81) hx hb dX3_isAllowed_69 (by decide) ⟨by omega, by omega⟩ (fun c_31 => ?_) (fun c_31 => ?_)
            · refine lv_iconst (v := iI ((0 : Nat) : Int)) hx hb dX3_isAllowed_81 (by decide) ?_
              subst hQ
              exact fw_zret hx hb hr hlocks dX3_isAllowed_82 hP hS rfl ⟨congrArg iI (bI_cf (by rintro ⟨q1, q2, q3, q4, q5, q6⟩; omega)), rfl⟩
            · refine lv_aload_n hx hb dX3_isAllowed_72 rfl (lv_at hl 0 rfl) ?_
              refine lv_iload_n hx hb dX3_isAllowed_73 rfl (lv_at hl 2 rfl) ?_
              refine fw_cVi (As := [.int (iI ((k : Nat) : Int))]) (rest := []) ⟨hx, hb, hml, hown, hts⟩ (c_X3_high l D cA z ad σ th u a μ k hI (by omega)) (cwV 1 hts gX3_isAllowed_X3_high rfl rfl rfl (by decide +kernel) ⟨Nat.le_of_ble_eq_true rfl, Nat.le_of_ble_eq_true rfl⟩) WM_10 rfl rfl hl.1 (Nat.le_of_ble_eq_true rfl) dX3_isAllowed_74 ⟨Nat.le_of_ble_eq_true rfl, Nat.le_of_ble_eq_true rfl⟩ hK hP hS rfl (fun r w' H locs q_32 hP hS => ?_)
              obtain ⟨rfl, rfl⟩ := q_32
              have hh_33 := high_le hI k
              refine lv_iconst (v := iI ((2 : Nat) : Int)) hx hb dX3_isAllowed_77 (by decide) ?_
              refine fw_icmp_lt (x := ((high σ k : Nat) : Int)) (y := ((2 : Nat) : Int)) (tgt := 83) hx hb dX3_isAllowed_78 (by decide) ⟨by omega, by omega⟩ ⟨by omega, by omega⟩ (fun c_34 => ?_) (fun c_34 => ?_)
              · refine lv_iconst (v := iI ((1 : Nat) : Int)) hx hb dX3_isAllowed_83 (by decide) ?_
                refine lv_istore_n (lv' := [(3, .int (iI ((1 : Nat) : Int))), (0, .ref (ad 10 (0))), (1, .int (iI ((c : Nat) : Int))), (2, .int (iI ((k : Nat) : Int)))]) hx hb dX3_isAllowed_84 rfl hl (by decide) rfl (fun ls hl => ?_)
                refine lv_iconst (v := iI ((0 : Nat) : Int)) hx hb dX3_isAllowed_85 (by decide) ?_
                refine lv_istore (lv' := [(4, .int (iI ((0 : Nat) : Int))), (3, .int (iI ((1 : Nat) : Int))), (0, .ref (ad 10 (0))), (1, .int (iI ((c : Nat) : Int))), (2, .int (iI ((k : Nat) : Int)))]) hx hb dX3_isAllowed_86 hl (by decide) rfl (fun ls hl => ?_)
                have loop_88 : ∀ (dd i : Nat) (fl : Bool), σ 8 0 + 1 ≤ i + dd → i ≤ σ 8 0 → (0 < i → 2 ≤ σ 3 c) → fl = cB (lonI σ c k i) → ∀ (H : Heap) (locs : List Loc) (ls : Array Slot), fw_P D vwCl z ad (WM cA ad σ th u a μ) H → va_S (fw_A z) s.heap H locs → lv_has ls 5 [(0, .ref (ad 10 (0))), (1, .int (iI ((c : Nat) : Int))), (2, .int (iI ((k : Nat) : Int))), (3, .int (iI (bI (fl)))), (4, .int (iI ((i : Nat) : Int)))] → W pg l en (headSpec wsX3_isAllowed rm_X3_isAllowed).room s m args below meth cd H locs 0 0 Q (F0 m 88 ls []) := by
                  intro dd
                  induction dd with
                  | zero => intro i fl hd_88 hi_88; omega
                  | succ dd ih_88 =>
                    intro i fl hd_88 hi_88 hk2 e_fl H locs ls hP hS hl
                    subst e_fl
                    refine lv_iload hx hb dX3_isAllowed_88 (lv_at hl 4 rfl) ?_
                    refine lv_aload_n hx hb dX3_isAllowed_90 rfl (lv_at hl 0 rfl) ?_
                    refine fw_get (ci := 3) (v := .int (iI ((σ 8 0 : Nat) : Int))) (C := RX3) (T := TX3) (N := 13) hx hb hts hinX3 hown hK hP WM_10 rfl 1 (by decide) hf36 (fun _ h9 => h9) rfl dX3_isAllowed_91 ?_
                    refine fw_icmp_ge (x := ((i : Nat) : Int)) (y := ((σ 8 0 : Nat) : Int)) (tgt := 170) hx hb dX3_isAllowed_94 (by decide) ⟨by omega, by omega⟩ ⟨by omega, by omega⟩ (fun c_35 => ?_) (fun c_35 => ?_)
                    · refine lv_iload_n hx hb dX3_isAllowed_170 rfl (lv_at hl 3 rfl) ?_
                      subst hQ
                      exact fw_zret hx hb hr hlocks dX3_isAllowed_171 hP hS (iI_narrow _) ⟨congrArg (fun x => iI (bI x)) (cB_congr (by unfold allowed lonely lonI; constructor; (intro q; refine ⟨by omega, by omega, by omega, by omega, by omega, fun h2 o ho => q o (by omega)⟩); (rintro ⟨-, -, -, -, -, q⟩ o ho; exact q (by omega) o (by omega)))), rfl⟩
                    · refine lv_aload_n hx hb dX3_isAllowed_97 rfl (lv_at hl 0 rfl) ?_
                      refine lv_iload_n hx hb dX3_isAllowed_98 rfl (lv_at hl 1 rfl) ?_
                      refine fw_cVi (As := [.int (iI ((c : Nat) : Int))]) (rest := []) ⟨hx, hb, hml, hown, hts⟩ (c_X3_kind l D cA z ad σ th u a μ c hI.b (by omega)) (cwV 1 hts gX3_isAllowed_X3_kind rfl rfl rfl (by decide +kernel) ⟨Nat.le_of_ble_eq_true rfl, Nat.le_of_ble_eq_true rfl⟩) WM_10 rfl rfl hl.1 (Nat.le_of_ble_eq_true rfl) dX3_isAllowed_99 ⟨Nat.le_of_ble_eq_true rfl, Nat.le_of_ble_eq_true rfl⟩ hK hP hS rfl (fun r w' H locs q_36 hP hS => ?_)
                      obtain ⟨rfl, rfl⟩ := q_36
                      refine lv_iconst (v := iI ((2 : Nat) : Int)) hx hb dX3_isAllowed_102 (by decide) ?_
                      refine fw_icmp_lt (x := ((σ 3 c : Nat) : Int)) (y := ((2 : Nat) : Int)) (tgt := 170) hx hb dX3_isAllowed_103 (by decide) ⟨by omega, by omega⟩ ⟨by omega, by omega⟩ (fun c_37 => ?_) (fun c_37 => ?_)
                      · refine lv_iload_n hx hb dX3_isAllowed_170 rfl (lv_at hl 3 rfl) ?_
                        subst hQ
                        exact fw_zret hx hb hr hlocks dX3_isAllowed_171 hP hS (iI_narrow _) ⟨congrArg (fun x => iI (bI x)) (cB_congr (by unfold allowed lonely lonI; constructor; (intro q; refine ⟨by omega, by omega, by omega, by omega, by omega, fun h2 o ho => q o (by omega)⟩); (rintro ⟨-, -, -, -, -, q⟩ o ho; exact q (by omega) o (by omega)))), rfl⟩
                      · refine lv_iload_n hx hb dX3_isAllowed_106 rfl (lv_at hl 3 rfl) ?_
                        refine fw_if_eqB (x := cB (lonI σ c k i)) (tgt := 162) hx hb dX3_isAllowed_107 (by decide) (fun c_38 => ?_) (fun c_38 => ?_)
                        · replace c_38 := cB_f.mp c_38
                          refine lv_iconst (v := iI ((0 : Nat) : Int)) hx hb dX3_isAllowed_162 (by decide) ?_
                          refine lv_istore_n (lv' := [(3, .int (iI ((0 : Nat) : Int))), (0, .ref (ad 10 (0))), (1, .int (iI ((c : Nat) : Int))), (2, .int (iI ((k : Nat) : Int))), (4, .int (iI ((i : Nat) : Int)))]) hx hb dX3_isAllowed_163 rfl hl (by decide) rfl (fun ls hl => ?_)
                          refine fw_iincN (x := i) (lv' := [(4, .int (iI ((i + 1 : Nat) : Int))), (3, .int (iI ((0 : Nat) : Int))), (0, .ref (ad 10 (0))), (1, .int (iI ((c : Nat) : Int))), (2, .int (iI ((k : Nat) : Int)))]) hx hb dX3_isAllowed_164 hl (k := 4) rfl (by decide) rfl (fun ls hl => ?_)
                          refine lv_goto (tgt := 88) hx hb dX3_isAllowed_167 (by decide) ?_
                          exact ih_88 (i + 1) false (by omega) (by omega) (by intro _; omega) (cB_f.mpr (by first | (intro q; exact absurd (show lonI σ c k i from fun o ho => q o (by omega)) (by assumption)) | (intro q; exact q i (by omega) ⟨by omega, by omega, by omega, by rw [apart_symm]; assumption⟩))).symm H locs ls hP hS (lv_sub hl [2, 3, 4, 1, 0] rfl)
                        · replace c_38 := cB_t.mp c_38
                          refine lv_aload_n hx hb dX3_isAllowed_110 rfl (lv_at hl 0 rfl) ?_
                          refine lv_iload hx hb dX3_isAllowed_111 (lv_at hl 4 rfl) ?_
                          refine fw_cVi (As := [.int (iI ((i : Nat) : Int))]) (rest := []) ⟨hx, hb, hml, hown, hts⟩ (c_X3_state l D cA z ad σ th u a μ i hI.b (by omega)) (cwV 1 hts gX3_isAllowed_X3_state rfl rfl rfl (by decide +kernel) ⟨Nat.le_of_ble_eq_true rfl, Nat.le_of_ble_eq_true rfl⟩) WM_10 rfl rfl hl.1 (Nat.le_of_ble_eq_true rfl) dX3_isAllowed_113 ⟨Nat.le_of_ble_eq_true rfl, Nat.le_of_ble_eq_true rfl⟩ hK hP hS rfl (fun r w' H locs q_39 hP hS => ?_)
                          obtain ⟨rfl, rfl⟩ := q_39
                          have hc_40 := hI.c i
                          refine lv_iconst (v := iI ((1 : Nat) : Int)) hx hb dX3_isAllowed_116 (by decide) ?_
                          refine fw_icmp_ne (x := ((σ 4 i : Nat) : Int)) (y := ((1 : Nat) : Int)) (tgt := 158) hx hb dX3_isAllowed_117 (by decide) ⟨by omega, by omega⟩ ⟨by omega, by omega⟩ (fun c_41 => ?_) (fun c_41 => ?_)
                          · refine lv_iconst (v := iI ((1 : Nat) : Int)) hx hb dX3_isAllowed_158 (by decide) ?_
                            refine lv_goto (tgt := 163) hx hb dX3_isAllowed_159 (by decide) ?_
                            refine lv_istore_n (lv' := [(3, .int (iI ((1 : Nat) : Int))), (0, .ref (ad 10 (0))), (1, .int (iI ((c : Nat) : Int))), (2, .int (iI ((k : Nat) : Int))), (4, .int (iI ((i : Nat) : Int)))]) hx hb dX3_isAllowed_163 rfl hl (by decide) rfl (fun ls hl => ?_)
                            refine fw_iincN (x := i) (lv' := [(4, .int (iI ((i + 1 : Nat) : Int))), (3, .int (iI ((1 : Nat) : Int))), (0, .ref (ad 10 (0))), (1, .int (iI ((c : Nat) : Int))), (2, .int (iI ((k : Nat) : Int)))]) hx hb dX3_isAllowed_164 hl (k := 4) rfl (by decide) rfl (fun ls hl => ?_)
                            refine lv_goto (tgt := 88) hx hb dX3_isAllowed_167 (by decide) ?_
                            exact ih_88 (i + 1) true (by omega) (by omega) (by intro _; omega) (cB_t.mpr (by intro o ho; by_cases e : o = i; (subst e; unfold clash; first | omega | (rw [apart_symm]; rintro ⟨-, -, -, q⟩; exact q (by assumption))); exact (by assumption : lonI σ c k i) o (by omega))).symm H locs ls hP hS (lv_sub hl [2, 3, 4, 1, 0] rfl)
                          · refine lv_aload_n hx hb dX3_isAllowed_120 rfl (lv_at hl 0 rfl) ?_
                            refine lv_iload hx hb dX3_isAllowed_121 (lv_at hl 4 rfl) ?_
                            refine fw_cVi (As := [.int (iI ((i : Nat) : Int))]) (rest := []) ⟨hx, hb, hml, hown, hts⟩ (c_X3_kind l D cA z ad σ th u a μ i hI.b (by omega)) (cwV 1 hts gX3_isAllowed_X3_kind rfl rfl rfl (by decide +kernel) ⟨Nat.le_of_ble_eq_true rfl, Nat.le_of_ble_eq_true rfl⟩) WM_10 rfl rfl hl.1 (Nat.le_of_ble_eq_true rfl) dX3_isAllowed_123 ⟨Nat.le_of_ble_eq_true rfl, Nat.le_of_ble_eq_true rfl⟩ hK hP hS rfl (fun r w' H locs q_42 hP hS => ?_)
                            obtain ⟨rfl, rfl⟩ := q_42
                            refine lv_iconst (v := iI ((2 : Nat) : Int)) hx hb dX3_isAllowed_126 (by decide) ?_
                            refine fw_icmp_lt (x := ((σ 3 i : Nat) : Int)) (y := ((2 : Nat) : Int)) (tgt := 158) hx hb dX3_isAllowed_127 (by decide) ⟨by omega, by omega⟩ ⟨by omega, by omega⟩ (fun c_43 => ?_) (fun c_43 => ?_)
                            · refine lv_iconst (v := iI ((1 : Nat) : Int)) hx hb dX3_isAllowed_158 (by decide) ?_
                              refine lv_goto (tgt := 163) hx hb dX3_isAllowed_159 (by decide) ?_
                              refine lv_istore_n (lv' := [(3, .int (iI ((1 : Nat) : Int))), (0, .ref (ad 10 (0))), (1, .int (iI ((c : Nat) : Int))), (2, .int (iI ((k : Nat) : Int))), (4, .int (iI ((i : Nat) : Int)))]) hx hb dX3_isAllowed_163 rfl hl (by decide) rfl (fun ls hl => ?_)
                              refine fw_iincN (x := i) (lv' := [(4, .int (iI ((i + 1 : Nat) : Int))), (3, .int (iI ((1 : Nat) : Int))), (0, .ref (ad 10 (0))), (1, .int (iI ((c : Nat) : Int))), (2, .int (iI ((k : Nat) : Int)))]) hx hb dX3_isAllowed_164 hl (k := 4) rfl (by decide) rfl (fun ls hl => ?_)
                              refine lv_goto (tgt := 88) hx hb dX3_isAllowed_167 (by decide) ?_
                              exact ih_88 (i + 1) true (by omega) (by omega) (by intro _; omega) (cB_t.mpr (by intro o ho; by_cases e : o = i; (subst e; unfold clash; first | omega | (rw [apart_symm]; rintro ⟨-, -, -, q⟩; exact q (by assumption))); exact (by assumption : lonI σ c k i) o (by omega))).symm H locs ls hP hS (lv_sub hl [2, 3, 4, 1, 0] rfl)
                            · refine lv_aload_n hx hb dX3_isAllowed_130 rfl (lv_at hl 0 rfl) ?_
                              refine lv_iload hx hb dX3_isAllowed_131 (lv_at hl 4 rfl) ?_
                              refine fw_cVi (As := [.int (iI ((i : Nat) : Int))]) (rest := []) ⟨hx, hb, hml, hown, hts⟩ (c_X3_kind l D cA z ad σ th u a μ i hI.b (by omega)) (cwV 1 hts gX3_isAllowed_X3_kind rfl rfl rfl (by decide +kernel) ⟨Nat.le_of_ble_eq_true rfl, Nat.le_of_ble_eq_true rfl⟩) WM_10 rfl rfl hl.1 (Nat.le_of_ble_eq_true rfl) dX3_isAllowed_133 ⟨Nat.le_of_ble_eq_true rfl, Nat.le_of_ble_eq_true rfl⟩ hK hP hS rfl (fun r w' H locs q_44 hP hS => ?_)
                              obtain ⟨rfl, rfl⟩ := q_44
                              refine lv_aload_n hx hb dX3_isAllowed_136 rfl (lv_at hl 0 rfl) ?_
                              refine lv_iload_n hx hb dX3_isAllowed_137 rfl (lv_at hl 1 rfl) ?_
                              refine fw_cVi (As := [.int (iI ((c : Nat) : Int))]) (rest := [.int (iI ((σ 3 i : Nat) : Int))]) ⟨hx, hb, hml, hown, hts⟩ (c_X3_kind l D cA z ad σ th u a μ c hI.b (by omega)) (cwV 1 hts gX3_isAllowed_X3_kind rfl rfl rfl (by decide +kernel) ⟨Nat.le_of_ble_eq_true rfl, Nat.le_of_ble_eq_true rfl⟩) WM_10 rfl rfl hl.1 (Nat.le_of_ble_eq_true rfl) dX3_isAllowed_138 ⟨Nat.le_of_ble_eq_true rfl, Nat.le_of_ble_eq_true rfl⟩ hK hP hS rfl (fun r w' H locs q_45 hP hS => ?_)
                              obtain ⟨rfl, rfl⟩ := q_45
                              refine fw_icmp_eq (x := ((σ 3 i : Nat) : Int)) (y := ((σ 3 c : Nat) : Int)) (tgt := 158) hx hb dX3_isAllowed_141 (by decide) ⟨by omega, by omega⟩ ⟨by omega, by omega⟩ (fun c_46 => ?_) (fun c_46 => ?_)
                              · refine lv_iconst (v := iI ((1 : Nat) : Int)) hx hb dX3_isAllowed_158 (by decide) ?_
                                refine lv_goto (tgt := 163) hx hb dX3_isAllowed_159 (by decide) ?_
                                refine lv_istore_n (lv' := [(3, .int (iI ((1 : Nat) : Int))), (0, .ref (ad 10 (0))), (1, .int (iI ((c : Nat) : Int))), (2, .int (iI ((k : Nat) : Int))), (4, .int (iI ((i : Nat) : Int)))]) hx hb dX3_isAllowed_163 rfl hl (by decide) rfl (fun ls hl => ?_)
                                refine fw_iincN (x := i) (lv' := [(4, .int (iI ((i + 1 : Nat) : Int))), (3, .int (iI ((1 : Nat) : Int))), (0, .ref (ad 10 (0))), (1, .int (iI ((c : Nat) : Int))), (2, .int (iI ((k : Nat) : Int)))]) hx hb dX3_isAllowed_164 hl (k := 4) rfl (by decide) rfl (fun ls hl => ?_)
                                refine lv_goto (tgt := 88) hx hb dX3_isAllowed_167 (by decide) ?_
                                exact ih_88 (i + 1) true (by omega) (by omega) (by intro _; omega) (cB_t.mpr (by intro o ho; by_cases e : o = i; (subst e; unfold clash; first | omega | (rw [apart_symm]; rintro ⟨-, -, -, q⟩; exact q (by assumption))); exact (by assumption : lonI σ c k i) o (by omega))).symm H locs ls hP hS (lv_sub hl [2, 3, 4, 1, 0] rfl)
                              · refine lv_iload_n hx hb dX3_isAllowed_144 rfl (lv_at hl 2 rfl) ?_
                                refine lv_aload_n hx hb dX3_isAllowed_145 rfl (lv_at hl 0 rfl) ?_
                                refine fw_get (ci := 3) (v := .ref (ad 12 (0))) (C := RX3) (T := TX3) (N := 13) hx hb hts hinX3 hown hK hP WM_10 rfl 3 (by decide) hf13 (fun _ h9 => h9) rfl dX3_isAllowed_146 ?_
                                refine lv_iload hx hb dX3_isAllowed_149 (lv_at hl 4 rfl) ?_
                                refine fw_ialdN (j := i) hx hb hK hP WM_12 0 rfl (by omega) (by decide) dX3_isAllowed_151 ?_
                                refine fw_topI (b := ((σ 5 i : Nat) : Int)) rfl ?_
                                refine fw_cSi (As := [.int (iI ((k : Nat) : Int)), .int (iI ((σ 5 i : Nat) : Int))]) (rest := []) ⟨hx, hb, hml, hown, hts⟩ (c_X3_areApart l D cA z ad (WM cA ad σ th u a μ) k (σ 5 i) (by omega) (by omega)) (va_cwS 2 hts gX3_isAllowed_X3_areApart rfl rfl rfl (by decide +kernel) ⟨Nat.le_of_ble_eq_true rfl, Nat.le_of_ble_eq_true rfl⟩) rfl hl.1 (Nat.le_of_ble_eq_true rfl) dX3_isAllowed_152 ⟨Nat.le_of_ble_eq_true rfl, Nat.le_of_ble_eq_true rfl⟩ hK hP hS rfl (fun r w' H locs q_47 hP hS => ?_)
                                obtain ⟨rfl, rfl⟩ := q_47
                                refine fw_if_eqB (x := cB (apart k (σ 5 i))) (tgt := 162) hx hb dX3_isAllowed_155 (by decide) (fun c_48 => ?_) (fun c_48 => ?_)
                                · replace c_48 := cB_f.mp c_48
                                  refine lv_iconst (v := iI ((0 : Nat) : Int)) hx hb dX3_isAllowed_162 (by decide) ?_
                                  refine lv_istore_n (lv' := [(3, .int (iI ((0 : Nat) : Int))), (0, .ref (ad 10 (0))), (1, .int (iI ((c : Nat) : Int))), (2, .int (iI ((k : Nat) : Int))), (4, .int (iI ((i : Nat) : Int)))]) hx hb dX3_isAllowed_163 rfl hl (by decide) rfl (fun ls hl => ?_)
                                  refine fw_iincN (x := i) (lv' := [(4, .int (iI ((i + 1 : Nat) : Int))), (3, .int (iI ((0 : Nat) : Int))), (0, .ref (ad 10 (0))), (1, .int (iI ((c : Nat) : Int))), (2, .int (iI ((k : Nat) : Int)))]) hx hb dX3_isAllowed_164 hl (k := 4) rfl (by decide) rfl (fun ls hl => ?_)
                                  refine lv_goto (tgt := 88) hx hb dX3_isAllowed_167 (by decide) ?_
                                  exact ih_88 (i + 1) false (by omega) (by omega) (by intro _; omega) (cB_f.mpr (by first | (intro q; exact absurd (show lonI σ c k i from fun o ho => q o (by omega)) (by assumption)) | (intro q; exact q i (by omega) ⟨by omega, by omega, by omega, by rw [apart_symm]; assumption⟩))).symm H locs ls hP hS (lv_sub hl [2, 3, 4, 1, 0] rfl)
                                · replace c_48 := cB_t.mp c_48
                                  refine lv_iconst (v := iI ((1 : Nat) : Int)) hx hb dX3_isAllowed_158 (by decide) ?_
                                  refine lv_goto (tgt := 163) hx hb dX3_isAllowed_159 (by decide) ?_
                                  refine lv_istore_n (lv' := [(3, .int (iI ((1 : Nat) : Int))), (0, .ref (ad 10 (0))), (1, .int (iI ((c : Nat) : Int))), (2, .int (iI ((k : Nat) : Int))), (4, .int (iI ((i : Nat) : Int)))]) hx hb dX3_isAllowed_163 rfl hl (by decide) rfl (fun ls hl => ?_)
                                  refine fw_iincN (x := i) (lv' := [(4, .int (iI ((i + 1 : Nat) : Int))), (3, .int (iI ((1 : Nat) : Int))), (0, .ref (ad 10 (0))), (1, .int (iI ((c : Nat) : Int))), (2, .int (iI ((k : Nat) : Int)))]) hx hb dX3_isAllowed_164 hl (k := 4) rfl (by decide) rfl (fun ls hl => ?_)
                                  refine lv_goto (tgt := 88) hx hb dX3_isAllowed_167 (by decide) ?_
                                  exact ih_88 (i + 1) true (by omega) (by omega) (by intro _; omega) (cB_t.mpr (by intro o ho; by_cases e : o = i; (subst e; unfold clash; first | omega | (rw [apart_symm]; rintro ⟨-, -, -, q⟩; exact q (by assumption))); exact (by assumption : lonI σ c k i) o (by omega))).symm H locs ls hP hS (lv_sub hl [2, 3, 4, 1, 0] rfl)
                exact loop_88 (σ 8 0 + 1) (0) true (by omega) (by omega) (by intro q; omega) (cB_t.mpr (by intro o ho; omega)).symm H locs ls hP hS (lv_sub hl [2, 3, 4, 1, 0] rfl)
              · refine lv_iconst (v := iI ((0 : Nat) : Int)) hx hb dX3_isAllowed_81 (by decide) ?_
                subst hQ
                exact fw_zret hx hb hr hlocks dX3_isAllowed_82 hP hS rfl ⟨congrArg iI (bI_cf (by rintro ⟨q1, q2, q3, q4, q5, q6⟩; omega)), rfl⟩
        · refine lv_iconst (v := iI ((0 : Nat) : Int)) hx hb dX3_isAllowed_52 (by decide) ?_
          subst hQ
          exact fw_zret hx hb hr hlocks dX3_isAllowed_53 hP hS rfl ⟨congrArg iI (bI_cf (by rintro ⟨q1, q2, q3, q4, q5, q6⟩; omega)), rfl⟩

abbrev rm_X3_choicesOf : Room := { frames := 4, cells := 0, slots := 0, locals := 90 }
abbrev po_X3_choicesOf (cA : Nat → ClassId) (ad : fw_Ad) (σ : St) (th u a : Int) (μ : fw_W) (c : Nat) : Int32 → fw_W → Prop := fun r w' => r = iI ((choices σ c : Nat) : Int) ∧ w' = WM cA ad σ th u a μ
set_option maxHeartbeats 4000000 in
set_option maxRecDepth 100000 in
theorem c_X3_choicesOf (l : Launch) (D : va_G) (cA : Nat → ClassId) (z : Nat) (ad : fw_Ad) (σ : St) (th u a : Int) (μ : fw_W) (c : Nat) (hI : Inv σ) (hc : c < 40) : Met l yX3_choicesOf wsX3_choicesOf rm_X3_choicesOf (va_Pc [.ref (ad 10 (0)), .int (iI ((c : Nat) : Int))] (fw_Pre D vwCl (fw_T cA) z ad (WM cA ad σ th u a μ))) (fw_Qi D vwCl z ad (po_X3_choicesOf cA ad σ th u a μ c)) 0 0 (fw_A z) := by
  refine Met.ofW (cc := cX3_choicesOf) (maxL := 4) (ret := (some .int)) (by decide) rfl ?_
  intro pg en s m args below meth cd s₁ B hml hv
  obtain ⟨hargs, hP, hK⟩ := hv
  have hx := B.exec
  have hb := B.bytes
  have hr := B.returns
  have hts := atoms_spec (ws := wsX3_choicesOf) B.pre
  have hown : s.vm.findClass RX3 = some m.cls := findClass_of_methodNamed B.named
  have hlocks := B.notSynchronized
  have hl := lv_entry ([.ref (ad 10 (0)), .int (iI ((c : Nat) : Int))]) (n := 4) (Nat.le_of_ble_eq_true rfl)
  have hent : entryFrame m args 4 = entryFrame m ([.ref (ad 10 (0)), .int (iI ((c : Nat) : Int))] : List Value).toArray 4 := by rw [hargs]
  rw [hent, lg_entry_eq]
  generalize (lg_sl ([.ref (ad 10 (0)), .int (iI ((c : Nat) : Int))]) ++ List.replicate (4 - (lg_sl ([.ref (ad 10 (0)), .int (iI ((c : Nat) : Int))])).length) Slot.unset).toArray = ls at hl ⊢
  have hl : lv_has ls 4 [(0, .ref (ad 10 (0))), (1, .int (iI ((c : Nat) : Int)))] := hl
  generalize hQ : MQ below (fw_Qi D vwCl z ad (po_X3_choicesOf cA ad σ th u a μ c)) args s 0 0 (fw_A z) = Q
  generalize hH : s.heap = H at hP ⊢
  have hS : va_S (fw_A z) s.heap H [] := by rw [← hH]; exact va_S.rf
  generalize ([] : List Loc) = locs at hS ⊢
  refine lv_iconst (v := iI ((0 : Nat) : Int)) hx hb dX3_choicesOf_0 (by decide) ?_
  refine lv_istore_n (lv' := [(2, .int (iI ((0 : Nat) : Int))), (0, .ref (ad 10 (0))), (1, .int (iI ((c : Nat) : Int)))]) hx hb dX3_choicesOf_1 rfl hl (by decide) rfl (fun ls hl => ?_)
  refine lv_iconst (v := iI ((0 : Nat) : Int)) hx hb dX3_choicesOf_2 (by decide) ?_
  refine lv_istore_n (lv' := [(3, .int (iI ((0 : Nat) : Int))), (2, .int (iI ((0 : Nat) : Int))), (0, .ref (ad 10 (0))), (1, .int (iI ((c : Nat) : Int)))]) hx hb dX3_choicesOf_3 rfl hl (by decide) rfl (fun ls hl => ?_)
  have loop_4 : ∀ (dd i : Nat) (acc : Nat), 30 + 1 ≤ i + dd → i ≤ 30 → acc = sumN (fun s => if cB (allowed σ c s) = true then 1 else 0) i → ∀ (H : Heap) (locs : List Loc) (ls : Array Slot), fw_P D vwCl z ad (WM cA ad σ th u a μ) H → va_S (fw_A z) s.heap H locs → lv_has ls 4 [(0, .ref (ad 10 (0))), (1, .int (iI ((c : Nat) : Int))), (2, .int (iI ((acc : Nat) : Int))), (3, .int (iI ((i : Nat) : Int)))] → W pg l en (headSpec wsX3_choicesOf rm_X3_choicesOf).room s m args below meth cd H locs 0 0 Q (F0 m 4 ls []) := by
    intro dd
    induction dd with
    | zero => intro i acc hd_4 hi_4; omega
    | succ dd ih_4 =>
      intro i acc hd_4 hi_4 e_acc H locs ls hP hS hl
      subst e_acc
      refine lv_iload_n hx hb dX3_choicesOf_4 rfl (lv_at hl 3 rfl) ?_
      refine lv_bipush (v := iI ((30 : Nat) : Int)) hx hb dX3_choicesOf_5 (by decide) ?_
      refine fw_icmp_ge (x := ((i : Nat) : Int)) (y := ((30 : Nat) : Int)) (tgt := 33) hx hb dX3_choicesOf_7 (by decide) ⟨by omega, by omega⟩ ⟨by omega, by omega⟩ (fun c_1 => ?_) (fun c_1 => ?_)
      · refine lv_iload_n hx hb dX3_choicesOf_33 rfl (lv_at hl 2 rfl) ?_
        subst hQ
        exact fw_iret hx hb hr hlocks dX3_choicesOf_34 hP hS ⟨by rw [show i = 30 from by omega]; rfl, rfl⟩
      · refine lv_iload_n hx hb dX3_choicesOf_10 rfl (lv_at hl 2 rfl) ?_
        refine lv_aload_n hx hb dX3_choicesOf_11 rfl (lv_at hl 0 rfl) ?_
        refine lv_iload_n hx hb dX3_choicesOf_12 rfl (lv_at hl 1 rfl) ?_
        refine lv_iload_n hx hb dX3_choicesOf_13 rfl (lv_at hl 3 rfl) ?_
        refine fw_cVi (As := [.int (iI ((c : Nat) : Int)), .int (iI ((i : Nat) : Int))]) (rest := [.int (iI ((sumN (fun s => if cB (allowed σ c s) = true then 1 else 0) i : Nat) : Int))]) ⟨hx, hb, hml, hown, hts⟩ (c_X3_isAllowed l D cA z ad σ th u a μ c i hI (by omega) (by omega)) (cwV 2 hts gX3_choicesOf_X3_isAllowed rfl rfl rfl (by decide +kernel) ⟨Nat.le_of_ble_eq_true rfl, Nat.le_of_ble_eq_true rfl⟩) WM_10 rfl rfl hl.1 (Nat.le_of_ble_eq_true rfl) dX3_choicesOf_14 ⟨Nat.le_of_ble_eq_true rfl, Nat.le_of_ble_eq_true rfl⟩ hK hP hS rfl (fun r w' H locs q_2 hP hS => ?_)
        obtain ⟨rfl, rfl⟩ := q_2
        have hn_3 := hI.n
        have hm_4 := hI.lim
        refine fw_if_eqB (x := cB (allowed σ c i)) (tgt := 24) hx hb dX3_choicesOf_17 (by decide) (fun c_5 => ?_) (fun c_5 => ?_)
        · replace c_5 := cB_f.mp c_5
          refine lv_iconst (v := iI ((0 : Nat) : Int)) hx hb dX3_choicesOf_24 (by decide) ?_
          refine fw_iaddN (a := sumN (fun s => if cB (allowed σ c s) = true then 1 else 0) i) (b := 0) hx hb dX3_choicesOf_25 ?_
          refine lv_istore_n (lv' := [(2, .int (iI (((sumN (fun s => if cB (allowed σ c s) = true then 1 else 0) i) + 0 : Nat) : Int))), (0, .ref (ad 10 (0))), (1, .int (iI ((c : Nat) : Int))), (3, .int (iI ((i : Nat) : Int)))]) hx hb dX3_choicesOf_26 rfl hl (by decide) rfl (fun ls hl => ?_)
          refine fw_iincN (x := i) (lv' := [(3, .int (iI ((i + 1 : Nat) : Int))), (2, .int (iI (((sumN (fun s => if cB (allowed σ c s) = true then 1 else 0) i) + 0 : Nat) : Int))), (0, .ref (ad 10 (0))), (1, .int (iI ((c : Nat) : Int)))]) hx hb dX3_choicesOf_27 hl (k := 3) rfl (by decide) rfl (fun ls hl => ?_)
          refine lv_goto (tgt := 4) hx hb dX3_choicesOf_30 (by decide) ?_
          exact ih_4 (i + 1) _ (by omega) (by omega) (by rw [sumN]; first | rw [if_pos (cB_t.mpr (by assumption))] | rw [if_neg (fun q => absurd (cB_t.mp q) (by assumption))]) H locs ls hP hS (lv_sub hl [2, 3, 1, 0] rfl)
        · replace c_5 := cB_t.mp c_5
          refine lv_iconst (v := iI ((1 : Nat) : Int)) hx hb dX3_choicesOf_20 (by decide) ?_
          refine lv_goto (tgt := 25) hx hb dX3_choicesOf_21 (by decide) ?_
          refine fw_iaddN (a := sumN (fun s => if cB (allowed σ c s) = true then 1 else 0) i) (b := 1) hx hb dX3_choicesOf_25 ?_
          refine lv_istore_n (lv' := [(2, .int (iI (((sumN (fun s => if cB (allowed σ c s) = true then 1 else 0) i) + 1 : Nat) : Int))), (0, .ref (ad 10 (0))), (1, .int (iI ((c : Nat) : Int))), (3, .int (iI ((i : Nat) : Int)))]) hx hb dX3_choicesOf_26 rfl hl (by decide) rfl (fun ls hl => ?_)
          refine fw_iincN (x := i) (lv' := [(3, .int (iI ((i + 1 : Nat) : Int))), (2, .int (iI (((sumN (fun s => if cB (allowed σ c s) = true then 1 else 0) i) + 1 : Nat) : Int))), (0, .ref (ad 10 (0))), (1, .int (iI ((c : Nat) : Int)))]) hx hb dX3_choicesOf_27 hl (k := 3) rfl (by decide) rfl (fun ls hl => ?_)
          refine lv_goto (tgt := 4) hx hb dX3_choicesOf_30 (by decide) ?_
          exact ih_4 (i + 1) _ (by omega) (by omega) (by rw [sumN]; first | rw [if_pos (cB_t.mpr (by assumption))] | rw [if_neg (fun q => absurd (cB_t.mp q) (by assumption))]) H locs ls hP hS (lv_sub hl [2, 3, 1, 0] rfl)
  exact loop_4 (30 + 1) (0) _ (by omega) (by omega) (by rfl) H locs ls hP hS (lv_sub hl [2, 3, 1, 0] rfl)

abbrev rm_X3_isBetter : Room := { frames := 3, cells := 0, slots := 0, locals := 67 }
abbrev po_X3_isBetter (cA : Nat → ClassId) (ad : fw_Ad) (σ : St) (th u a : Int) (μ : fw_W) (c s1 o1 : Nat) : Int32 → fw_W → Prop := fun r w' => r = iI (bI (cB (better σ c s1 o1))) ∧ w' = WM cA ad σ th u a μ
set_option maxHeartbeats 4000000 in
set_option maxRecDepth 100000 in
theorem c_X3_isBetter (l : Launch) (D : va_G) (cA : Nat → ClassId) (z : Nat) (ad : fw_Ad) (σ : St) (th u a : Int) (μ : fw_W) (c s1 o1 : Nat) (hI : Inv σ) (hc : c < 40) (hs1 : s1 < 30) (ho1 : o1 < 30) : Met l yX3_isBetter wsX3_isBetter rm_X3_isBetter (va_Pc [.ref (ad 10 (0)), .int (iI ((c : Nat) : Int)), .int (iI ((s1 : Nat) : Int)), .int (iI ((o1 : Nat) : Int))] (fw_Pre D vwCl (fw_T cA) z ad (WM cA ad σ th u a μ))) (fw_Qi D vwCl z ad (po_X3_isBetter cA ad σ th u a μ c s1 o1)) 0 0 (fw_A z) := by
  refine Met.ofW (cc := cX3_isBetter) (maxL := 6) (ret := (some .boolean)) (by decide) rfl ?_
  intro pg en s m args below meth cd s₁ B hml hv
  obtain ⟨hargs, hP, hK⟩ := hv
  have hx := B.exec
  have hb := B.bytes
  have hr := B.returns
  have hts := atoms_spec (ws := wsX3_isBetter) B.pre
  have hown : s.vm.findClass RX3 = some m.cls := findClass_of_methodNamed B.named
  have hlocks := B.notSynchronized
  have hl := lv_entry ([.ref (ad 10 (0)), .int (iI ((c : Nat) : Int)), .int (iI ((s1 : Nat) : Int)), .int (iI ((o1 : Nat) : Int))]) (n := 6) (Nat.le_of_ble_eq_true rfl)
  have hent : entryFrame m args 6 = entryFrame m ([.ref (ad 10 (0)), .int (iI ((c : Nat) : Int)), .int (iI ((s1 : Nat) : Int)), .int (iI ((o1 : Nat) : Int))] : List Value).toArray 6 := by rw [hargs]
  rw [hent, lg_entry_eq]
  generalize (lg_sl ([.ref (ad 10 (0)), .int (iI ((c : Nat) : Int)), .int (iI ((s1 : Nat) : Int)), .int (iI ((o1 : Nat) : Int))]) ++ List.replicate (6 - (lg_sl ([.ref (ad 10 (0)), .int (iI ((c : Nat) : Int)), .int (iI ((s1 : Nat) : Int)), .int (iI ((o1 : Nat) : Int))])).length) Slot.unset).toArray = ls at hl ⊢
  have hl : lv_has ls 6 [(0, .ref (ad 10 (0))), (1, .int (iI ((c : Nat) : Int))), (2, .int (iI ((s1 : Nat) : Int))), (3, .int (iI ((o1 : Nat) : Int)))] := hl
  generalize hQ : MQ below (fw_Qi D vwCl z ad (po_X3_isBetter cA ad σ th u a μ c s1 o1)) args s 0 0 (fw_A z) = Q
  generalize hH : s.heap = H at hP ⊢
  have hS : va_S (fw_A z) s.heap H [] := by rw [← hH]; exact va_S.rf
  generalize ([] : List Loc) = locs at hS ⊢
  refine lv_aload_n hx hb dX3_isBetter_0 rfl (lv_at hl 0 rfl) ?_
  refine lv_iload_n hx hb dX3_isBetter_1 rfl (lv_at hl 2 rfl) ?_
  refine lv_aload_n hx hb dX3_isBetter_2 rfl (lv_at hl 0 rfl) ?_
  refine lv_iload_n hx hb dX3_isBetter_3 rfl (lv_at hl 1 rfl) ?_
  refine fw_cVi (As := [.int (iI ((c : Nat) : Int))]) (rest := [.int (iI ((s1 : Nat) : Int)), .ref (ad 10 (0))]) ⟨hx, hb, hml, hown, hts⟩ (c_X3_to l D cA z ad σ th u a μ c hI.b (by omega)) (cwV 1 hts gX3_isBetter_X3_to rfl rfl rfl (by decide +kernel) ⟨Nat.le_of_ble_eq_true rfl, Nat.le_of_ble_eq_true rfl⟩) WM_10 rfl rfl hl.1 (Nat.le_of_ble_eq_true rfl) dX3_isBetter_4 ⟨Nat.le_of_ble_eq_true rfl, Nat.le_of_ble_eq_true rfl⟩ hK hP hS rfl (fun r w' H locs q_1 hP hS => ?_)
  obtain ⟨rfl, rfl⟩ := q_1
  have hc_2 := hI.c c
  have hn_3 := hI.n
  have hm_4 := hI.lim
  refine fw_cVi (As := [.int (iI ((s1 : Nat) : Int)), .int (iI ((σ 2 c : Nat) : Int))]) (rest := []) ⟨hx, hb, hml, hown, hts⟩ (c_X3_earlier l D cA z ad σ th u a μ s1 (σ 2 c) hI (by omega) (by omega)) (cwV 2 hts gX3_isBetter_X3_earlier rfl rfl rfl (by decide +kernel) ⟨Nat.le_of_ble_eq_true rfl, Nat.le_of_ble_eq_true rfl⟩) WM_10 rfl rfl hl.1 (Nat.le_of_ble_eq_true rfl) dX3_isBetter_7 ⟨Nat.le_of_ble_eq_true rfl, Nat.le_of_ble_eq_true rfl⟩ hK hP hS rfl (fun r w' H locs q_5 hP hS => ?_)
  obtain ⟨rfl, rfl⟩ := q_5
  have hh_6 := earlier_le hI s1 (σ 2 c)
  refine lv_aload_n hx hb dX3_isBetter_10 rfl (lv_at hl 0 rfl) ?_
  refine lv_iload_n hx hb dX3_isBetter_11 rfl (lv_at hl 3 rfl) ?_
  refine lv_aload_n hx hb dX3_isBetter_12 rfl (lv_at hl 0 rfl) ?_
  refine lv_iload_n hx hb dX3_isBetter_13 rfl (lv_at hl 1 rfl) ?_
  refine fw_cVi (As := [.int (iI ((c : Nat) : Int))]) (rest := [.int (iI ((o1 : Nat) : Int)), .ref (ad 10 (0)), .int (iI ((earlier σ s1 (σ 2 c) : Nat) : Int))]) ⟨hx, hb, hml, hown, hts⟩ (c_X3_to l D cA z ad σ th u a μ c hI.b (by omega)) (cwV 1 hts gX3_isBetter_X3_to rfl rfl rfl (by decide +kernel) ⟨Nat.le_of_ble_eq_true rfl, Nat.le_of_ble_eq_true rfl⟩) WM_10 rfl rfl hl.1 (Nat.le_of_ble_eq_true rfl) dX3_isBetter_14 ⟨Nat.le_of_ble_eq_true rfl, Nat.le_of_ble_eq_true rfl⟩ hK hP hS rfl (fun r w' H locs q_7 hP hS => ?_)
  obtain ⟨rfl, rfl⟩ := q_7
  refine fw_cVi (As := [.int (iI ((o1 : Nat) : Int)), .int (iI ((σ 2 c : Nat) : Int))]) (rest := [.int (iI ((earlier σ s1 (σ 2 c) : Nat) : Int))]) ⟨hx, hb, hml, hown, hts⟩ (c_X3_earlier l D cA z ad σ th u a μ o1 (σ 2 c) hI (by omega) (by omega)) (cwV 2 hts gX3_isBetter_X3_earlier rfl rfl rfl (by decide +kernel) ⟨Nat.le_of_ble_eq_true rfl, Nat.le_of_ble_eq_true rfl⟩) WM_10 rfl rfl hl.1 (Nat.le_of_ble_eq_true rfl) dX3_isBetter_17 ⟨Nat.le_of_ble_eq_true rfl, Nat.le_of_ble_eq_true rfl⟩ hK hP hS rfl (fun r w' H locs q_8 hP hS => ?_)
  obtain ⟨rfl, rfl⟩ := q_8
  have hh_9 := earlier_le hI o1 (σ 2 c)
  refine fw_isub (a := ((earlier σ s1 (σ 2 c) : Nat) : Int)) (b := ((earlier σ o1 (σ 2 c) : Nat) : Int)) hx hb dX3_isBetter_20 ?_
  refine lv_istore (lv' := [(4, .int (iI (((earlier σ s1 (σ 2 c) : Nat) : Int) - ((earlier σ o1 (σ 2 c) : Nat) : Int)))), (0, .ref (ad 10 (0))), (1, .int (iI ((c : Nat) : Int))), (2, .int (iI ((s1 : Nat) : Int))), (3, .int (iI ((o1 : Nat) : Int)))]) hx hb dX3_isBetter_21 hl (by decide) rfl (fun ls hl => ?_)
  refine lv_iconst (v := iI ((0 : Nat) : Int)) hx hb dX3_isBetter_23 (by decide) ?_
  refine lv_istore (lv' := [(5, .int (iI ((0 : Nat) : Int))), (4, .int (iI (((earlier σ s1 (σ 2 c) : Nat) : Int) - ((earlier σ o1 (σ 2 c) : Nat) : Int)))), (0, .ref (ad 10 (0))), (1, .int (iI ((c : Nat) : Int))), (2, .int (iI ((s1 : Nat) : Int))), (3, .int (iI ((o1 : Nat) : Int)))]) hx hb dX3_isBetter_24 hl (by decide) rfl (fun ls hl => ?_)
  refine lv_iload hx hb dX3_isBetter_26 (lv_at hl 0 rfl) ?_
  refine lv_iconst (v := iI ((2 : Nat) : Int)) hx hb dX3_isBetter_28 (by decide) ?_
  refine fw_icmp_ge (x := ((0 : Nat) : Int)) (y := ((2 : Nat) : Int)) (tgt := 126) hx hb dX3_isBetter_29 (by decide) ⟨by omega, by omega⟩ ⟨by omega, by omega⟩ (fun c_10 => absurd c_10 (by decide)) (fun c_10 => ?_)
  refine lv_iload hx hb dX3_isBetter_32 (lv_at hl 1 rfl) ?_
  refine fw_if_ne (x := (((earlier σ s1 (σ 2 c) : Nat) : Int) - ((earlier σ o1 (σ 2 c) : Nat) : Int))) (tgt := 126) hx hb dX3_isBetter_34 (by decide) ⟨by omega, by omega⟩ (fun c_11 => ?_) (fun c_11 => ?_)
  · refine lv_iload hx hb dX3_isBetter_126 (lv_at hl 1 rfl) ?_
    refine fw_if_ge (x := (((earlier σ s1 (σ 2 c) : Nat) : Int) - ((earlier σ o1 (σ 2 c) : Nat) : Int))) (tgt := 135) hx hb dX3_isBetter_128 (by decide) ⟨by omega, by omega⟩ (fun c_12 => ?_) (fun c_12 => ?_)
    · refine lv_iconst (v := iI ((0 : Nat) : Int)) hx hb dX3_isBetter_135 (by decide) ?_
      subst hQ
      exact fw_zret hx hb hr hlocks dX3_isBetter_136 hP hS rfl ⟨congrArg iI (bI_cf (by unfold better; omega)), rfl⟩
    · refine lv_iconst (v := iI ((1 : Nat) : Int)) hx hb dX3_isBetter_131 (by decide) ?_
      refine lv_goto (tgt := 136) hx hb dX3_isBetter_132 (by decide) ?_
      subst hQ
      exact fw_zret hx hb hr hlocks dX3_isBetter_136 hP hS rfl ⟨congrArg iI (bI_ct (by unfold better; omega)), rfl⟩
  · refine lv_aload_n hx hb dX3_isBetter_37 rfl (lv_at hl 2 rfl) ?_
    refine lv_iload hx hb dX3_isBetter_38 (lv_at hl 0 rfl) ?_
    refine lv_iconst (v := iI ((1 : Nat) : Int)) hx hb dX3_isBetter_40 (by decide) ?_
    refine fw_icmp_ne (x := ((0 : Nat) : Int)) (y := ((1 : Nat) : Int)) (tgt := 48) hx hb dX3_isBetter_41 (by decide) ⟨by omega, by omega⟩ ⟨by omega, by omega⟩ (fun c_13 => ?_) (fun c_13 => absurd c_13 (by decide))
    refine lv_iconst (v := iI ((0 : Nat) : Int)) hx hb dX3_isBetter_48 (by decide) ?_
    refine fw_cVi (As := [.int (iI ((0 : Nat) : Int))]) (rest := []) ⟨hx, hb, hml, hown, hts⟩ (c_X3_momentOf l D cA z ad σ th u a μ false hI) (cwV 1 hts gX3_isBetter_X3_momentOf rfl rfl rfl (by decide +kernel) ⟨Nat.le_of_ble_eq_true rfl, Nat.le_of_ble_eq_true rfl⟩) WM_10 rfl rfl hl.1 (Nat.le_of_ble_eq_true rfl) dX3_isBetter_49 ⟨Nat.le_of_ble_eq_true rfl, Nat.le_of_ble_eq_true rfl⟩ hK hP hS rfl (fun r w' H locs q_14 hP hS => ?_)
    obtain ⟨rfl, rfl⟩ := q_14
    have hh_15 := mom_le hI false
    refine lv_aload_n hx hb dX3_isBetter_52 rfl (lv_at hl 2 rfl) ?_
    refine lv_iload_n hx hb dX3_isBetter_53 rfl (lv_at hl 3 rfl) ?_
    refine fw_cVi (As := [.int (iI ((c : Nat) : Int))]) (rest := [.int (iI (mom σ false))]) ⟨hx, hb, hml, hown, hts⟩ (c_X3_heavy l D cA z ad σ th u a μ c hI.b (by omega)) (cwV 1 hts gX3_isBetter_X3_heavy rfl rfl rfl (by decide +kernel) ⟨Nat.le_of_ble_eq_true rfl, Nat.le_of_ble_eq_true rfl⟩) WM_10 rfl rfl hl.1 (Nat.le_of_ble_eq_true rfl) dX3_isBetter_54 ⟨Nat.le_of_ble_eq_true rfl, Nat.le_of_ble_eq_true rfl⟩ hK hP hS rfl (fun r w' H locs q_16 hP hS => ?_)
    obtain ⟨rfl, rfl⟩ := q_16
    refine lv_iload_n hx hb dX3_isBetter_57 rfl (lv_at hl 4 rfl) ?_
    refine lv_iload hx hb dX3_isBetter_58 (lv_at hl 0 rfl) ?_
    refine lv_iconst (v := iI ((1 : Nat) : Int)) hx hb dX3_isBetter_60 (by decide) ?_
    refine fw_icmp_ne (x := ((0 : Nat) : Int)) (y := ((1 : Nat) : Int)) (tgt := 68) hx hb dX3_isBetter_61 (by decide) ⟨by omega, by omega⟩ ⟨by omega, by omega⟩ (fun c_17 => ?_) (fun c_17 => absurd c_17 (by decide))
    refine lv_iconst (v := iI ((0 : Nat) : Int)) hx hb dX3_isBetter_68 (by decide) ?_
    refine fw_cSi (As := [.int (iI ((s1 : Nat) : Int)), .int (iI ((0 : Nat) : Int))]) (rest := [.int (iI ((σ 0 c : Nat) : Int)), .int (iI (mom σ false))]) ⟨hx, hb, hml, hown, hts⟩ (c_X3_arm l D cA z ad (WM cA ad σ th u a μ) s1 false (by omega)) (va_cwS 2 hts gX3_isBetter_X3_arm rfl rfl rfl (by decide +kernel) ⟨Nat.le_of_ble_eq_true rfl, Nat.le_of_ble_eq_true rfl⟩) rfl hl.1 (Nat.le_of_ble_eq_true rfl) dX3_isBetter_69 ⟨Nat.le_of_ble_eq_true rfl, Nat.le_of_ble_eq_true rfl⟩ hK hP hS rfl (fun r w' H locs q_18 hP hS => ?_)
    obtain ⟨rfl, rfl⟩ := q_18
    refine fw_imul (a := ((σ 0 c : Nat) : Int)) (b := (arm false s1)) hx hb dX3_isBetter_72 ?_
    refine fw_iadd (a := (mom σ false)) (b := (((σ 0 c : Nat) : Int) * (arm false s1))) hx hb dX3_isBetter_73 ?_
    have hml_19 := mul_le (hI.c c).1 (arm_le false (k := s1) (by omega))
    refine fw_abs (x := ((mom σ false) + (((σ 0 c : Nat) : Int) * (arm false s1)))) hx hb (by rw [hml]; exact hl.1.symm) hown (hts (.methodLink RX3 77 Lib.Math.abs.name) (by decide +kernel)) (hts (.static Lib.Math.abs.name) (by decide +kernel)) (hts (.initialized "java/lang/Math") (by decide +kernel)) (hts (.code Lib.Math.abs.name Lib.Math.abs.code 1 (some .int)) (by decide +kernel)) (Nat.le_of_ble_eq_true rfl) (Nat.le_of_ble_eq_true rfl) (Nat.le_of_ble_eq_true rfl) (Nat.le_of_ble_eq_true rfl) ⟨by omega, by omega⟩ dX3_isBetter_74 ?_
    refine fw_topI (b := ((nearL σ false c s1 : Nat) : Int)) rfl ?_
    have hnl_20 := nearL_le hI false c (s := s1) (by omega)
    refine lv_aload_n hx hb dX3_isBetter_77 rfl (lv_at hl 2 rfl) ?_
    refine lv_iload hx hb dX3_isBetter_78 (lv_at hl 0 rfl) ?_
    refine lv_iconst (v := iI ((1 : Nat) : Int)) hx hb dX3_isBetter_80 (by decide) ?_
    refine fw_icmp_ne (x := ((0 : Nat) : Int)) (y := ((1 : Nat) : Int)) (tgt := 88) hx hb dX3_isBetter_81 (by decide) ⟨by omega, by omega⟩ ⟨by omega, by omega⟩ (fun c_21 => ?_) (fun c_21 => absurd c_21 (by decide))
    refine lv_iconst (v := iI ((0 : Nat) : Int)) hx hb dX3_isBetter_88 (by decide) ?_
    refine fw_cVi (As := [.int (iI ((0 : Nat) : Int))]) (rest := [.int (iI ((nearL σ false c s1 : Nat) : Int))]) ⟨hx, hb, hml, hown, hts⟩ (c_X3_momentOf l D cA z ad σ th u a μ false hI) (cwV 1 hts gX3_isBetter_X3_momentOf rfl rfl rfl (by decide +kernel) ⟨Nat.le_of_ble_eq_true rfl, Nat.le_of_ble_eq_true rfl⟩) WM_10 rfl rfl hl.1 (Nat.le_of_ble_eq_true rfl) dX3_isBetter_89 ⟨Nat.le_of_ble_eq_true rfl, Nat.le_of_ble_eq_true rfl⟩ hK hP hS rfl (fun r w' H locs q_22 hP hS => ?_)
    obtain ⟨rfl, rfl⟩ := q_22
    have hh_23 := mom_le hI false
    refine lv_aload_n hx hb dX3_isBetter_92 rfl (lv_at hl 2 rfl) ?_
    refine lv_iload_n hx hb dX3_isBetter_93 rfl (lv_at hl 3 rfl) ?_
    refine fw_cVi (As := [.int (iI ((c : Nat) : Int))]) (rest := [.int (iI (mom σ false)), .int (iI ((nearL σ false c s1 : Nat) : Int))]) ⟨hx, hb, hml, hown, hts⟩ (c_X3_heavy l D cA z ad σ th u a μ c hI.b (by omega)) (cwV 1 hts gX3_isBetter_X3_heavy rfl rfl rfl (by decide +kernel) ⟨Nat.le_of_ble_eq_true rfl, Nat.le_of_ble_eq_true rfl⟩) WM_10 rfl rfl hl.1 (Nat.le_of_ble_eq_true rfl) dX3_isBetter_94 ⟨Nat.le_of_ble_eq_true rfl, Nat.le_of_ble_eq_true rfl⟩ hK hP hS rfl (fun r w' H locs q_24 hP hS => ?_)
    obtain ⟨rfl, rfl⟩ := q_24
    refine lv_iload_n hx hb dX3_isBetter_97 rfl (lv_at hl 5 rfl) ?_
    refine lv_iload hx hb dX3_isBetter_98 (lv_at hl 0 rfl) ?_
    refine lv_iconst (v := iI ((1 : Nat) : Int)) hx hb dX3_isBetter_100 (by decide) ?_
    refine fw_icmp_ne (x := ((0 : Nat) : Int)) (y := ((1 : Nat) : Int)) (tgt := 108) hx hb dX3_isBetter_101 (by decide) ⟨by omega, by omega⟩ ⟨by omega, by omega⟩ (fun c_25 => ?_) (fun c_25 => absurd c_25 (by decide))
    refine lv_iconst (v := iI ((0 : Nat) : Int)) hx hb dX3_isBetter_108 (by decide) ?_
    refine fw_cSi (As := [.int (iI ((o1 : Nat) : Int)), .int (iI ((0 : Nat) : Int))]) (rest := [.int (iI ((σ 0 c : Nat) : Int)), .int (iI (mom σ false)), .int (iI ((nearL σ false c s1 : Nat) : Int))]) ⟨hx, hb, hml, hown, hts⟩ (c_X3_arm l D cA z ad (WM cA ad σ th u a μ) o1 false (by omega)) (va_cwS 2 hts gX3_isBetter_X3_arm rfl rfl rfl (by decide +kernel) ⟨Nat.le_of_ble_eq_true rfl, Nat.le_of_ble_eq_true rfl⟩) rfl hl.1 (Nat.le_of_ble_eq_true rfl) dX3_isBetter_109 ⟨Nat.le_of_ble_eq_true rfl, Nat.le_of_ble_eq_true rfl⟩ hK hP hS rfl (fun r w' H locs q_26 hP hS => ?_)
    obtain ⟨rfl, rfl⟩ := q_26
    refine fw_imul (a := ((σ 0 c : Nat) : Int)) (b := (arm false o1)) hx hb dX3_isBetter_112 ?_
    refine fw_iadd (a := (mom σ false)) (b := (((σ 0 c : Nat) : Int) * (arm false o1))) hx hb dX3_isBetter_113 ?_
    have hml_27 := mul_le (hI.c c).1 (arm_le false (k := o1) (by omega))
    refine fw_abs (x := ((mom σ false) + (((σ 0 c : Nat) : Int) * (arm false o1)))) hx hb (by rw [hml]; exact hl.1.symm) hown (hts (.methodLink RX3 77 Lib.Math.abs.name) (by decide +kernel)) (hts (.static Lib.Math.abs.name) (by decide +kernel)) (hts (.initialized "java/lang/Math") (by decide +kernel)) (hts (.code Lib.Math.abs.name Lib.Math.abs.code 1 (some .int)) (by decide +kernel)) (Nat.le_of_ble_eq_true rfl) (Nat.le_of_ble_eq_true rfl) (Nat.le_of_ble_eq_true rfl) (Nat.le_of_ble_eq_true rfl) ⟨by omega, by omega⟩ dX3_isBetter_114 ?_
    refine fw_topI (b := ((nearL σ false c o1 : Nat) : Int)) rfl ?_
    have hnl_28 := nearL_le hI false c (s := o1) (by omega)
    refine fw_isub (a := ((nearL σ false c s1 : Nat) : Int)) (b := ((nearL σ false c o1 : Nat) : Int)) hx hb dX3_isBetter_117 ?_
    refine lv_istore (lv' := [(4, .int (iI (((nearL σ false c s1 : Nat) : Int) - ((nearL σ false c o1 : Nat) : Int)))), (5, .int (iI ((0 : Nat) : Int))), (0, .ref (ad 10 (0))), (1, .int (iI ((c : Nat) : Int))), (2, .int (iI ((s1 : Nat) : Int))), (3, .int (iI ((o1 : Nat) : Int)))]) hx hb dX3_isBetter_118 hl (by decide) rfl (fun ls hl => ?_)
    refine fw_iincN (x := 0) (lv' := [(5, .int (iI ((1 : Nat) : Int))), (4, .int (iI (((nearL σ false c s1 : Nat) : Int) - ((nearL σ false c o1 : Nat) : Int)))), (0, .ref (ad 10 (0))), (1, .int (iI ((c : Nat) : Int))), (2, .int (iI ((s1 : Nat) : Int))), (3, .int (iI ((o1 : Nat) : Int)))]) hx hb dX3_isBetter_120 hl (k := 1) rfl (by decide) rfl (fun ls hl => ?_)
    refine lv_goto (tgt := 26) hx hb dX3_isBetter_123 (by decide) ?_
    refine lv_iload hx hb dX3_isBetter_26 (lv_at hl 0 rfl) ?_
    refine lv_iconst (v := iI ((2 : Nat) : Int)) hx hb dX3_isBetter_28 (by decide) ?_
    refine fw_icmp_ge (x := ((1 : Nat) : Int)) (y := ((2 : Nat) : Int)) (tgt := 126) hx hb dX3_isBetter_29 (by decide) ⟨by omega, by omega⟩ ⟨by omega, by omega⟩ (fun c_29 => absurd c_29 (by decide)) (fun c_29 => ?_)
    refine lv_iload hx hb dX3_isBetter_32 (lv_at hl 1 rfl) ?_
    refine fw_if_ne (x := (((nearL σ false c s1 : Nat) : Int) - ((nearL σ false c o1 : Nat) : Int))) (tgt := 126) hx hb dX3_isBetter_34 (by decide) ⟨by omega, by omega⟩ (fun c_30 => ?_) (fun c_30 => ?_)
    · refine lv_iload hx hb dX3_isBetter_126 (lv_at hl 1 rfl) ?_
      refine fw_if_ge (x := (((nearL σ false c s1 : Nat) : Int) - ((nearL σ false c o1 : Nat) : Int))) (tgt := 135) hx hb dX3_isBetter_128 (by decide) ⟨by omega, by omega⟩ (fun c_31 => ?_) (fun c_31 => ?_)
      · refine lv_iconst (v := iI ((0 : Nat) : Int)) hx hb dX3_isBetter_135 (by decide) ?_
        subst hQ
        exact fw_zret hx hb hr hlocks dX3_isBetter_136 hP hS rfl ⟨congrArg iI (bI_cf (by unfold better; omega)), rfl⟩
      · refine lv_iconst (v := iI ((1 : Nat) : Int)) hx hb dX3_isBetter_131 (by decide) ?_
        refine lv_goto (tgt := 136) hx hb dX3_isBetter_132 (by decide) ?_
        subst hQ
        exact fw_zret hx hb hr hlocks dX3_isBetter_136 hP hS rfl ⟨congrArg iI (bI_ct (by unfold better; omega)), rfl⟩
    · refine lv_aload_n hx hb dX3_isBetter_37 rfl (lv_at hl 2 rfl) ?_
      refine lv_iload hx hb dX3_isBetter_38 (lv_at hl 0 rfl) ?_
      refine lv_iconst (v := iI ((1 : Nat) : Int)) hx hb dX3_isBetter_40 (by decide) ?_
      refine fw_icmp_ne (x := ((1 : Nat) : Int)) (y := ((1 : Nat) : Int)) (tgt := 48) hx hb dX3_isBetter_41 (by decide) ⟨by omega, by omega⟩ ⟨by omega, by omega⟩ (fun c_32 => absurd c_32 (by decide)) (fun c_32 => ?_)
      refine lv_iconst (v := iI ((1 : Nat) : Int)) hx hb dX3_isBetter_44 (by decide) ?_
      refine lv_goto (tgt := 49) hx hb dX3_isBetter_45 (by decide) ?_
      refine fw_cVi (As := [.int (iI ((1 : Nat) : Int))]) (rest := []) ⟨hx, hb, hml, hown, hts⟩ (c_X3_momentOf l D cA z ad σ th u a μ true hI) (cwV 1 hts gX3_isBetter_X3_momentOf rfl rfl rfl (by decide +kernel) ⟨Nat.le_of_ble_eq_true rfl, Nat.le_of_ble_eq_true rfl⟩) WM_10 rfl rfl hl.1 (Nat.le_of_ble_eq_true rfl) dX3_isBetter_49 ⟨Nat.le_of_ble_eq_true rfl, Nat.le_of_ble_eq_true rfl⟩ hK hP hS rfl (fun r w' H locs q_33 hP hS => ?_)
      obtain ⟨rfl, rfl⟩ := q_33
      have hh_34 := mom_le hI true
      refine lv_aload_n hx hb dX3_isBetter_52 rfl (lv_at hl 2 rfl) ?_
      refine lv_iload_n hx hb dX3_isBetter_53 rfl (lv_at hl 3 rfl) ?_
      refine fw_cVi (As := [.int (iI ((c : Nat) : Int))]) (rest := [.int (iI (mom σ true))]) ⟨hx, hb, hml, hown, hts⟩ (c_X3_heavy l D cA z ad σ th u a μ c hI.b (by omega)) (cwV 1 hts gX3_isBetter_X3_heavy rfl rfl rfl (by decide +kernel) ⟨Nat.le_of_ble_eq_true rfl, Nat.le_of_ble_eq_true rfl⟩) WM_10 rfl rfl hl.1 (Nat.le_of_ble_eq_true rfl) dX3_isBetter_54 ⟨Nat.le_of_ble_eq_true rfl, Nat.le_of_ble_eq_true rfl⟩ hK hP hS rfl (fun r w' H locs q_35 hP hS => ?_)
      obtain ⟨rfl, rfl⟩ := q_35
      refine lv_iload_n hx hb dX3_isBetter_57 rfl (lv_at hl 4 rfl) ?_
      refine lv_iload hx hb dX3_isBetter_58 (lv_at hl 0 rfl) ?_
      refine lv_iconst (v := iI ((1 : Nat) : Int)) hx hb dX3_isBetter_60 (by decide) ?_
      refine fw_icmp_ne (x := ((1 : Nat) : Int)) (y := ((1 : Nat) : Int)) (tgt := 68) hx hb dX3_isBetter_61 (by decide) ⟨by omega, by omega⟩ ⟨by omega, by omega⟩ (fun c_36 => absurd c_36 (by decide)) (fun c_36 => ?_)
      refine lv_iconst (v := iI ((1 : Nat) : Int)) hx hb dX3_isBetter_64 (by decide) ?_
      refine lv_goto (tgt := 69) hx hb dX3_isBetter_65 (by decide) ?_
      refine fw_cSi (As := [.int (iI ((s1 : Nat) : Int)), .int (iI ((1 : Nat) : Int))]) (rest := [.int (iI ((σ 0 c : Nat) : Int)), .int (iI (mom σ true))]) ⟨hx, hb, hml, hown, hts⟩ (c_X3_arm l D cA z ad (WM cA ad σ th u a μ) s1 true (by omega)) (va_cwS 2 hts gX3_isBetter_X3_arm rfl rfl rfl (by decide +kernel) ⟨Nat.le_of_ble_eq_true rfl, Nat.le_of_ble_eq_true rfl⟩) rfl hl.1 (Nat.le_of_ble_eq_true rfl) dX3_isBetter_69 ⟨Nat.le_of_ble_eq_true rfl, Nat.le_of_ble_eq_true rfl⟩ hK hP hS rfl (fun r w' H locs q_37 hP hS => ?_)
      obtain ⟨rfl, rfl⟩ := q_37
      refine fw_imul (a := ((σ 0 c : Nat) : Int)) (b := (arm true s1)) hx hb dX3_isBetter_72 ?_
      refine fw_iadd (a := (mom σ true)) (b := (((σ 0 c : Nat) : Int) * (arm true s1))) hx hb dX3_isBetter_73 ?_
      have hml_38 := mul_le (hI.c c).1 (arm_le true (k := s1) (by omega))
      refine fw_abs (x := ((mom σ true) + (((σ 0 c : Nat) : Int) * (arm true s1)))) hx hb (by rw [hml]; exact hl.1.symm) hown (hts (.methodLink RX3 77 Lib.Math.abs.name) (by decide +kernel)) (hts (.static Lib.Math.abs.name) (by decide +kernel)) (hts (.initialized "java/lang/Math") (by decide +kernel)) (hts (.code Lib.Math.abs.name Lib.Math.abs.code 1 (some .int)) (by decide +kernel)) (Nat.le_of_ble_eq_true rfl) (Nat.le_of_ble_eq_true rfl) (Nat.le_of_ble_eq_true rfl) (Nat.le_of_ble_eq_true rfl) ⟨by omega, by omega⟩ dX3_isBetter_74 ?_
      refine fw_topI (b := ((nearL σ true c s1 : Nat) : Int)) rfl ?_
      have hnl_39 := nearL_le hI true c (s := s1) (by omega)
      refine lv_aload_n hx hb dX3_isBetter_77 rfl (lv_at hl 2 rfl) ?_
      refine lv_iload hx hb dX3_isBetter_78 (lv_at hl 0 rfl) ?_
      refine lv_iconst (v := iI ((1 : Nat) : Int)) hx hb dX3_isBetter_80 (by decide) ?_
      refine fw_icmp_ne (x := ((1 : Nat) : Int)) (y := ((1 : Nat) : Int)) (tgt := 88) hx hb dX3_isBetter_81 (by decide) ⟨by omega, by omega⟩ ⟨by omega, by omega⟩ (fun c_40 => absurd c_40 (by decide)) (fun c_40 => ?_)
      refine lv_iconst (v := iI ((1 : Nat) : Int)) hx hb dX3_isBetter_84 (by decide) ?_
      refine lv_goto (tgt := 89) hx hb dX3_isBetter_85 (by decide) ?_
      refine fw_cVi (As := [.int (iI ((1 : Nat) : Int))]) (rest := [.int (iI ((nearL σ true c s1 : Nat) : Int))]) ⟨hx, hb, hml, hown, hts⟩ (c_X3_momentOf l D cA z ad σ th u a μ true hI) (cwV 1 hts gX3_isBetter_X3_momentOf rfl rfl rfl (by decide +kernel) ⟨Nat.le_of_ble_eq_true rfl, Nat.le_of_ble_eq_true rfl⟩) WM_10 rfl rfl hl.1 (Nat.le_of_ble_eq_true rfl) dX3_isBetter_89 ⟨Nat.le_of_ble_eq_true rfl, Nat.le_of_ble_eq_true rfl⟩ hK hP hS rfl (fun r w' H locs q_41 hP hS => ?_)
      obtain ⟨rfl, rfl⟩ := q_41
      have hh_42 := mom_le hI true
      refine lv_aload_n hx hb dX3_isBetter_92 rfl (lv_at hl 2 rfl) ?_
      refine lv_iload_n hx hb dX3_isBetter_93 rfl (lv_at hl 3 rfl) ?_
      refine fw_cVi (As := [.int (iI ((c : Nat) : Int))]) (rest := [.int (iI (mom σ true)), .int (iI ((nearL σ true c s1 : Nat) : Int))]) ⟨hx, hb, hml, hown, hts⟩ (c_X3_heavy l D cA z ad σ th u a μ c hI.b (by omega)) (cwV 1 hts gX3_isBetter_X3_heavy rfl rfl rfl (by decide +kernel) ⟨Nat.le_of_ble_eq_true rfl, Nat.le_of_ble_eq_true rfl⟩) WM_10 rfl rfl hl.1 (Nat.le_of_ble_eq_true rfl) dX3_isBetter_94 ⟨Nat.le_of_ble_eq_true rfl, Nat.le_of_ble_eq_true rfl⟩ hK hP hS rfl (fun r w' H locs q_43 hP hS => ?_)
      obtain ⟨rfl, rfl⟩ := q_43
      refine lv_iload_n hx hb dX3_isBetter_97 rfl (lv_at hl 5 rfl) ?_
      refine lv_iload hx hb dX3_isBetter_98 (lv_at hl 0 rfl) ?_
      refine lv_iconst (v := iI ((1 : Nat) : Int)) hx hb dX3_isBetter_100 (by decide) ?_
      refine fw_icmp_ne (x := ((1 : Nat) : Int)) (y := ((1 : Nat) : Int)) (tgt := 108) hx hb dX3_isBetter_101 (by decide) ⟨by omega, by omega⟩ ⟨by omega, by omega⟩ (fun c_44 => absurd c_44 (by decide)) (fun c_44 => ?_)
      refine lv_iconst (v := iI ((1 : Nat) : Int)) hx hb dX3_isBetter_104 (by decide) ?_
      refine lv_goto (tgt := 109) hx hb dX3_isBetter_105 (by decide) ?_
      refine fw_cSi (As := [.int (iI ((o1 : Nat) : Int)), .int (iI ((1 : Nat) : Int))]) (rest := [.int (iI ((σ 0 c : Nat) : Int)), .int (iI (mom σ true)), .int (iI ((nearL σ true c s1 : Nat) : Int))]) ⟨hx, hb, hml, hown, hts⟩ (c_X3_arm l D cA z ad (WM cA ad σ th u a μ) o1 true (by omega)) (va_cwS 2 hts gX3_isBetter_X3_arm rfl rfl rfl (by decide +kernel) ⟨Nat.le_of_ble_eq_true rfl, Nat.le_of_ble_eq_true rfl⟩) rfl hl.1 (Nat.le_of_ble_eq_true rfl) dX3_isBetter_109 ⟨Nat.le_of_ble_eq_true rfl, Nat.le_of_ble_eq_true rfl⟩ hK hP hS rfl (fun r w' H locs q_45 hP hS => ?_)
      obtain ⟨rfl, rfl⟩ := q_45
      refine fw_imul (a := ((σ 0 c : Nat) : Int)) (b := (arm true o1)) hx hb dX3_isBetter_112 ?_
      refine fw_iadd (a := (mom σ true)) (b := (((σ 0 c : Nat) : Int) * (arm true o1))) hx hb dX3_isBetter_113 ?_
      have hml_46 := mul_le (hI.c c).1 (arm_le true (k := o1) (by omega))
      refine fw_abs (x := ((mom σ true) + (((σ 0 c : Nat) : Int) * (arm true o1)))) hx hb (by rw [hml]; exact hl.1.symm) hown (hts (.methodLink RX3 77 Lib.Math.abs.name) (by decide +kernel)) (hts (.static Lib.Math.abs.name) (by decide +kernel)) (hts (.initialized "java/lang/Math") (by decide +kernel)) (hts (.code Lib.Math.abs.name Lib.Math.abs.code 1 (some .int)) (by decide +kernel)) (Nat.le_of_ble_eq_true rfl) (Nat.le_of_ble_eq_true rfl) (Nat.le_of_ble_eq_true rfl) (Nat.le_of_ble_eq_true rfl) ⟨by omega, by omega⟩ dX3_isBetter_114 ?_
      refine fw_topI (b := ((nearL σ true c o1 : Nat) : Int)) rfl ?_
      have hnl_47 := nearL_le hI true c (s := o1) (by omega)
      refine fw_isub (a := ((nearL σ true c s1 : Nat) : Int)) (b := ((nearL σ true c o1 : Nat) : Int)) hx hb dX3_isBetter_117 ?_
      refine lv_istore (lv' := [(4, .int (iI (((nearL σ true c s1 : Nat) : Int) - ((nearL σ true c o1 : Nat) : Int)))), (5, .int (iI ((1 : Nat) : Int))), (0, .ref (ad 10 (0))), (1, .int (iI ((c : Nat) : Int))), (2, .int (iI ((s1 : Nat) : Int))), (3, .int (iI ((o1 : Nat) : Int)))]) hx hb dX3_isBetter_118 hl (by decide) rfl (fun ls hl => ?_)
      refine fw_iincN (x := 1) (lv' := [(5, .int (iI ((2 : Nat) : Int))), (4, .int (iI (((nearL σ true c s1 : Nat) : Int) - ((nearL σ true c o1 : Nat) : Int)))), (0, .ref (ad 10 (0))), (1, .int (iI ((c : Nat) : Int))), (2, .int (iI ((s1 : Nat) : Int))), (3, .int (iI ((o1 : Nat) : Int)))]) hx hb dX3_isBetter_120 hl (k := 1) rfl (by decide) rfl (fun ls hl => ?_)
      refine lv_goto (tgt := 26) hx hb dX3_isBetter_123 (by decide) ?_
      refine lv_iload hx hb dX3_isBetter_26 (lv_at hl 0 rfl) ?_
      refine lv_iconst (v := iI ((2 : Nat) : Int)) hx hb dX3_isBetter_28 (by decide) ?_
      refine fw_icmp_ge (x := ((2 : Nat) : Int)) (y := ((2 : Nat) : Int)) (tgt := 126) hx hb dX3_isBetter_29 (by decide) ⟨by omega, by omega⟩ ⟨by omega, by omega⟩ (fun c_48 => ?_) (fun c_48 => absurd c_48 (by decide))
      refine lv_iload hx hb dX3_isBetter_126 (lv_at hl 1 rfl) ?_
      refine fw_if_ge (x := (((nearL σ true c s1 : Nat) : Int) - ((nearL σ true c o1 : Nat) : Int))) (tgt := 135) hx hb dX3_isBetter_128 (by decide) ⟨by omega, by omega⟩ (fun c_49 => ?_) (fun c_49 => ?_)
      · refine lv_iconst (v := iI ((0 : Nat) : Int)) hx hb dX3_isBetter_135 (by decide) ?_
        subst hQ
        exact fw_zret hx hb hr hlocks dX3_isBetter_136 hP hS rfl ⟨congrArg iI (bI_cf (by unfold better; omega)), rfl⟩
      · refine lv_iconst (v := iI ((1 : Nat) : Int)) hx hb dX3_isBetter_131 (by decide) ?_
        refine lv_goto (tgt := 136) hx hb dX3_isBetter_132 (by decide) ?_
        subst hQ
        exact fw_zret hx hb hr hlocks dX3_isBetter_136 hP hS rfl ⟨congrArg iI (bI_ct (by unfold better; omega)), rfl⟩

abbrev rm_X3_lowest : Room := { frames := 2, cells := 0, slots := 0, locals := 43 }
abbrev po_X3_lowest (cA : Nat → ClassId) (ad : fw_Ad) (σ : St) (th u a : Int) (μ : fw_W) (k t : Nat) : Int32 → fw_W → Prop := fun r w' => r = iI ((low σ k t (σ 8 0) : Nat) : Int) ∧ w' = WM cA ad σ th u a μ
set_option maxHeartbeats 4000000 in
set_option maxRecDepth 100000 in
theorem c_X3_lowest (l : Launch) (D : va_G) (cA : Nat → ClassId) (z : Nat) (ad : fw_Ad) (σ : St) (th u a : Int) (μ : fw_W) (k t : Nat) (hI : Inv σ) (hk : k < 30) (ht : t ≤ 5) : Met l yX3_lowest wsX3_lowest rm_X3_lowest (va_Pc [.ref (ad 10 (0)), .int (iI ((k : Nat) : Int)), .int (iI ((t : Nat) : Int))] (fw_Pre D vwCl (fw_T cA) z ad (WM cA ad σ th u a μ))) (fw_Qi D vwCl z ad (po_X3_lowest cA ad σ th u a μ k t)) 0 0 (fw_A z) := by
  refine Met.ofW (cc := cX3_lowest) (maxL := 5) (ret := (some .int)) (by decide) rfl ?_
  intro pg en s m args below meth cd s₁ B hml hv
  obtain ⟨hargs, hP, hK⟩ := hv
  have hx := B.exec
  have hb := B.bytes
  have hr := B.returns
  have hts := atoms_spec (ws := wsX3_lowest) B.pre
  have hown : s.vm.findClass RX3 = some m.cls := findClass_of_methodNamed B.named
  have hlocks := B.notSynchronized
  have hinX3 : ∀ w ∈ u_ws RX3 TX3 13, w ∈ wsX3_lowest := by decide +kernel
  have hf36 := hts (.fieldLink RX3 36 "StowagePlanModel" "many" "I") (by decide +kernel)
  have hf16 := hts (.fieldLink RX3 16 "StowagePlanModel" "tiers" "[I") (by decide +kernel)
  have hl := lv_entry ([.ref (ad 10 (0)), .int (iI ((k : Nat) : Int)), .int (iI ((t : Nat) : Int))]) (n := 5) (Nat.le_of_ble_eq_true rfl)
  have hent : entryFrame m args 5 = entryFrame m ([.ref (ad 10 (0)), .int (iI ((k : Nat) : Int)), .int (iI ((t : Nat) : Int))] : List Value).toArray 5 := by rw [hargs]
  rw [hent, lg_entry_eq]
  generalize (lg_sl ([.ref (ad 10 (0)), .int (iI ((k : Nat) : Int)), .int (iI ((t : Nat) : Int))]) ++ List.replicate (5 - (lg_sl ([.ref (ad 10 (0)), .int (iI ((k : Nat) : Int)), .int (iI ((t : Nat) : Int))])).length) Slot.unset).toArray = ls at hl ⊢
  have hl : lv_has ls 5 [(0, .ref (ad 10 (0))), (1, .int (iI ((k : Nat) : Int))), (2, .int (iI ((t : Nat) : Int)))] := hl
  generalize hQ : MQ below (fw_Qi D vwCl z ad (po_X3_lowest cA ad σ th u a μ k t)) args s 0 0 (fw_A z) = Q
  generalize hH : s.heap = H at hP ⊢
  have hS : va_S (fw_A z) s.heap H [] := by rw [← hH]; exact va_S.rf
  generalize ([] : List Loc) = locs at hS ⊢
  refine lv_iconst (v := iI ((4 : Nat) : Int)) hx hb dX3_lowest_0 (by decide) ?_
  refine lv_istore_n (lv' := [(3, .int (iI ((4 : Nat) : Int))), (0, .ref (ad 10 (0))), (1, .int (iI ((k : Nat) : Int))), (2, .int (iI ((t : Nat) : Int)))]) hx hb dX3_lowest_1 rfl hl (by decide) rfl (fun ls hl => ?_)
  refine lv_iconst (v := iI ((0 : Nat) : Int)) hx hb dX3_lowest_2 (by decide) ?_
  refine lv_istore (lv' := [(4, .int (iI ((0 : Nat) : Int))), (3, .int (iI ((4 : Nat) : Int))), (0, .ref (ad 10 (0))), (1, .int (iI ((k : Nat) : Int))), (2, .int (iI ((t : Nat) : Int)))]) hx hb dX3_lowest_3 hl (by decide) rfl (fun ls hl => ?_)
  have loop_5 : ∀ (dd i : Nat) (acc : Int), σ 8 0 + 1 ≤ i + dd → i ≤ σ 8 0 → acc = ((low σ k t i : Nat) : Int) → ∀ (H : Heap) (locs : List Loc) (ls : Array Slot), fw_P D vwCl z ad (WM cA ad σ th u a μ) H → va_S (fw_A z) s.heap H locs → lv_has ls 5 [(0, .ref (ad 10 (0))), (1, .int (iI ((k : Nat) : Int))), (2, .int (iI ((t : Nat) : Int))), (3, .int (iI (acc))), (4, .int (iI ((i : Nat) : Int)))] → W pg l en (headSpec wsX3_lowest rm_X3_lowest).room s m args below meth cd H locs 0 0 Q (F0 m 5 ls []) := by
    intro dd
    induction dd with
    | zero => intro i acc hd_5 hi_5; omega
    | succ dd ih_5 =>
      intro i acc hd_5 hi_5 e_acc H locs ls hP hS hl
      subst e_acc
      have hlo4 := low_le4 (σ := σ) (s := k) (p := t) i
      refine lv_iload hx hb dX3_lowest_5 (lv_at hl 4 rfl) ?_
      refine lv_aload_n hx hb dX3_lowest_7 rfl (lv_at hl 0 rfl) ?_
      refine fw_get (ci := 3) (v := .int (iI ((σ 8 0 : Nat) : Int))) (C := RX3) (T := TX3) (N := 13) hx hb hts hinX3 hown hK hP WM_10 rfl 1 (by decide) hf36 (fun _ h9 => h9) rfl dX3_lowest_8 ?_
      have hn_1 := hI.n
      have hm_2 := hI.lim
      refine fw_icmp_ge (x := ((i : Nat) : Int)) (y := ((σ 8 0 : Nat) : Int)) (tgt := 52) hx hb dX3_lowest_11 (by decide) ⟨by omega, by omega⟩ ⟨by omega, by omega⟩ (fun c_3 => ?_) (fun c_3 => ?_)
      · refine lv_iload_n hx hb dX3_lowest_52 rfl (lv_at hl 3 rfl) ?_
        subst hQ
        exact fw_iret hx hb hr hlocks dX3_lowest_53 hP hS ⟨by rw [show i = σ 8 0 from by omega], rfl⟩
      · refine lv_aload_n hx hb dX3_lowest_14 rfl (lv_at hl 0 rfl) ?_
        refine lv_iload hx hb dX3_lowest_15 (lv_at hl 4 rfl) ?_
        refine lv_iload_n hx hb dX3_lowest_17 rfl (lv_at hl 1 rfl) ?_
        refine fw_cVi (As := [.int (iI ((i : Nat) : Int)), .int (iI ((k : Nat) : Int))]) (rest := []) ⟨hx, hb, hml, hown, hts⟩ (c_X3_isOn l D cA z ad σ th u a μ i k hI.b (by omega) (by omega)) (cwV 2 hts gX3_lowest_X3_isOn rfl rfl rfl (by decide +kernel) ⟨Nat.le_of_ble_eq_true rfl, Nat.le_of_ble_eq_true rfl⟩) WM_10 rfl rfl hl.1 (Nat.le_of_ble_eq_true rfl) dX3_lowest_18 ⟨Nat.le_of_ble_eq_true rfl, Nat.le_of_ble_eq_true rfl⟩ hK hP hS rfl (fun r w' H locs q_4 hP hS => ?_)
        obtain ⟨rfl, rfl⟩ := q_4
        have hc_5 := hI.c i
        refine fw_if_eqB (x := isOn σ i k) (tgt := 46) hx hb dX3_lowest_21 (by decide) (fun c_6 => ?_) (fun c_6 => ?_)
        · refine fw_iincN (x := i) (lv' := [(4, .int (iI ((i + 1 : Nat) : Int))), (0, .ref (ad 10 (0))), (1, .int (iI ((k : Nat) : Int))), (2, .int (iI ((t : Nat) : Int))), (3, .int (iI (((low σ k t i : Nat) : Int))))]) hx hb dX3_lowest_46 hl (k := 4) rfl (by decide) rfl (fun ls hl => ?_)
          refine lv_goto (tgt := 5) hx hb dX3_lowest_49 (by decide) ?_
          exact ih_5 (i + 1) _ (by omega) (by omega) (by rw [low, if_neg (fun q => by have := cB_t.mp q; first | (rw [isOn_f] at *; omega) | omega)]) H locs ls hP hS (lv_sub hl [1, 2, 3, 4, 0] rfl)
        · refine lv_aload_n hx hb dX3_lowest_24 rfl (lv_at hl 0 rfl) ?_
          refine lv_iload hx hb dX3_lowest_25 (lv_at hl 4 rfl) ?_
          refine fw_cVi (As := [.int (iI ((i : Nat) : Int))]) (rest := []) ⟨hx, hb, hml, hown, hts⟩ (c_X3_to l D cA z ad σ th u a μ i hI.b (by omega)) (cwV 1 hts gX3_lowest_X3_to rfl rfl rfl (by decide +kernel) ⟨Nat.le_of_ble_eq_true rfl, Nat.le_of_ble_eq_true rfl⟩) WM_10 rfl rfl hl.1 (Nat.le_of_ble_eq_true rfl) dX3_lowest_27 ⟨Nat.le_of_ble_eq_true rfl, Nat.le_of_ble_eq_true rfl⟩ hK hP hS rfl (fun r w' H locs q_7 hP hS => ?_)
          obtain ⟨rfl, rfl⟩ := q_7
          refine lv_iload_n hx hb dX3_lowest_30 rfl (lv_at hl 2 rfl) ?_
          refine fw_icmp_ne (x := ((σ 2 i : Nat) : Int)) (y := ((t : Nat) : Int)) (tgt := 46) hx hb dX3_lowest_31 (by decide) ⟨by omega, by omega⟩ ⟨by omega, by omega⟩ (fun c_8 => ?_) (fun c_8 => ?_)
          · refine fw_iincN (x := i) (lv' := [(4, .int (iI ((i + 1 : Nat) : Int))), (0, .ref (ad 10 (0))), (1, .int (iI ((k : Nat) : Int))), (2, .int (iI ((t : Nat) : Int))), (3, .int (iI (((low σ k t i : Nat) : Int))))]) hx hb dX3_lowest_46 hl (k := 4) rfl (by decide) rfl (fun ls hl => ?_)
            refine lv_goto (tgt := 5) hx hb dX3_lowest_49 (by decide) ?_
            exact ih_5 (i + 1) _ (by omega) (by omega) (by rw [low, if_neg (fun q => by have := cB_t.mp q; first | (rw [isOn_f] at *; omega) | omega)]) H locs ls hP hS (lv_sub hl [1, 2, 3, 4, 0] rfl)
          · refine lv_iload_n hx hb dX3_lowest_34 rfl (lv_at hl 3 rfl) ?_
            refine lv_aload_n hx hb dX3_lowest_35 rfl (lv_at hl 0 rfl) ?_
            refine fw_get (ci := 3) (v := .ref (ad 13 (0))) (C := RX3) (T := TX3) (N := 13) hx hb hts hinX3 hown hK hP WM_10 rfl 4 (by decide) hf16 (fun _ h9 => h9) rfl dX3_lowest_36 ?_
            refine lv_iload hx hb dX3_lowest_39 (lv_at hl 4 rfl) ?_
            refine fw_ialdN (j := i) hx hb hK hP WM_13 0 rfl (by omega) (by decide) dX3_lowest_41 ?_
            refine fw_topI (b := ((σ 6 i : Nat) : Int)) rfl ?_
            refine fw_min (x := (((low σ k t i : Nat) : Int))) (y := ((σ 6 i : Nat) : Int)) hx hb (by rw [hml]; exact hl.1.symm) hown (hts (.methodLink RX3 137 Lib.Math.min.name) (by decide +kernel)) (hts (.static Lib.Math.min.name) (by decide +kernel)) (hts (.initialized "java/lang/Math") (by decide +kernel)) (hts (.code Lib.Math.min.name Lib.Math.min.code 2 (some .int)) (by decide +kernel)) (Nat.le_of_ble_eq_true rfl) (Nat.le_of_ble_eq_true rfl) (Nat.le_of_ble_eq_true rfl) (Nat.le_of_ble_eq_true rfl) ⟨by omega, by omega⟩ ⟨by omega, by omega⟩ dX3_lowest_42 ?_
            refine lv_istore_n (lv' := [(3, .int (iI (min (((low σ k t i : Nat) : Int)) ((σ 6 i : Nat) : Int)))), (0, .ref (ad 10 (0))), (1, .int (iI ((k : Nat) : Int))), (2, .int (iI ((t : Nat) : Int))), (4, .int (iI ((i : Nat) : Int)))]) hx hb dX3_lowest_45 rfl hl (by decide) rfl (fun ls hl => ?_)
            refine fw_iincN (x := i) (lv' := [(4, .int (iI ((i + 1 : Nat) : Int))), (3, .int (iI (min (((low σ k t i : Nat) : Int)) ((σ 6 i : Nat) : Int)))), (0, .ref (ad 10 (0))), (1, .int (iI ((k : Nat) : Int))), (2, .int (iI ((t : Nat) : Int)))]) hx hb dX3_lowest_46 hl (k := 4) rfl (by decide) rfl (fun ls hl => ?_)
            refine lv_goto (tgt := 5) hx hb dX3_lowest_49 (by decide) ?_
            exact ih_5 (i + 1) _ (by omega) (by omega) (by rw [low]; split; (rename_i q; have := (cB_t.mp q).2.2.2; omega); (rename_i q; have q2 := cB_f.mp (Bool.not_eq_true _ ▸ q); rw [isOn_t] at *; omega)) H locs ls hP hS (lv_sub hl [2, 3, 4, 1, 0] rfl)
  exact loop_5 (σ 8 0 + 1) (0) _ (by omega) (by omega) (by rfl) H locs ls hP hS (lv_sub hl [2, 3, 4, 1, 0] rfl)

abbrev rm_X3_liftsAt : Room := { frames := 3, cells := 0, slots := 0, locals := 67 }
abbrev po_X3_liftsAt (cA : Nat → ClassId) (ad : fw_Ad) (σ : St) (th u a : Int) (μ : fw_W) (t : Nat) : Int32 → fw_W → Prop := fun r w' => r = iI ((lifAt σ t : Nat) : Int) ∧ w' = WM cA ad σ th u a μ
set_option maxHeartbeats 4000000 in
set_option maxRecDepth 100000 in
theorem c_X3_liftsAt (l : Launch) (D : va_G) (cA : Nat → ClassId) (z : Nat) (ad : fw_Ad) (σ : St) (th u a : Int) (μ : fw_W) (t : Nat) (hI : Inv σ) (ht : t ≤ 5) : Met l yX3_liftsAt wsX3_liftsAt rm_X3_liftsAt (va_Pc [.ref (ad 10 (0)), .int (iI ((t : Nat) : Int))] (fw_Pre D vwCl (fw_T cA) z ad (WM cA ad σ th u a μ))) (fw_Qi D vwCl z ad (po_X3_liftsAt cA ad σ th u a μ t)) 0 0 (fw_A z) := by
  refine Met.ofW (cc := cX3_liftsAt) (maxL := 4) (ret := (some .int)) (by decide) rfl ?_
  intro pg en s m args below meth cd s₁ B hml hv
  obtain ⟨hargs, hP, hK⟩ := hv
  have hx := B.exec
  have hb := B.bytes
  have hr := B.returns
  have hts := atoms_spec (ws := wsX3_liftsAt) B.pre
  have hown : s.vm.findClass RX3 = some m.cls := findClass_of_methodNamed B.named
  have hlocks := B.notSynchronized
  have hinX3 : ∀ w ∈ u_ws RX3 TX3 13, w ∈ wsX3_liftsAt := by decide +kernel
  have hf36 := hts (.fieldLink RX3 36 "StowagePlanModel" "many" "I") (by decide +kernel)
  have hf16 := hts (.fieldLink RX3 16 "StowagePlanModel" "tiers" "[I") (by decide +kernel)
  have hf13 := hts (.fieldLink RX3 13 "StowagePlanModel" "stacks" "[I") (by decide +kernel)
  have hl := lv_entry ([.ref (ad 10 (0)), .int (iI ((t : Nat) : Int))]) (n := 4) (Nat.le_of_ble_eq_true rfl)
  have hent : entryFrame m args 4 = entryFrame m ([.ref (ad 10 (0)), .int (iI ((t : Nat) : Int))] : List Value).toArray 4 := by rw [hargs]
  rw [hent, lg_entry_eq]
  generalize (lg_sl ([.ref (ad 10 (0)), .int (iI ((t : Nat) : Int))]) ++ List.replicate (4 - (lg_sl ([.ref (ad 10 (0)), .int (iI ((t : Nat) : Int))])).length) Slot.unset).toArray = ls at hl ⊢
  have hl : lv_has ls 4 [(0, .ref (ad 10 (0))), (1, .int (iI ((t : Nat) : Int)))] := hl
  generalize hQ : MQ below (fw_Qi D vwCl z ad (po_X3_liftsAt cA ad σ th u a μ t)) args s 0 0 (fw_A z) = Q
  generalize hH : s.heap = H at hP ⊢
  have hS : va_S (fw_A z) s.heap H [] := by rw [← hH]; exact va_S.rf
  generalize ([] : List Loc) = locs at hS ⊢
  refine lv_iconst (v := iI ((0 : Nat) : Int)) hx hb dX3_liftsAt_0 (by decide) ?_
  refine lv_istore_n (lv' := [(2, .int (iI ((0 : Nat) : Int))), (0, .ref (ad 10 (0))), (1, .int (iI ((t : Nat) : Int)))]) hx hb dX3_liftsAt_1 rfl hl (by decide) rfl (fun ls hl => ?_)
  refine lv_iconst (v := iI ((0 : Nat) : Int)) hx hb dX3_liftsAt_2 (by decide) ?_
  refine lv_istore_n (lv' := [(3, .int (iI ((0 : Nat) : Int))), (2, .int (iI ((0 : Nat) : Int))), (0, .ref (ad 10 (0))), (1, .int (iI ((t : Nat) : Int)))]) hx hb dX3_liftsAt_3 rfl hl (by decide) rfl (fun ls hl => ?_)
  have loop_4 : ∀ (dd i : Nat) (acc : Nat), σ 8 0 + 1 ≤ i + dd → i ≤ σ 8 0 → acc = sumN (fun c => if cB (σ 4 c = 1 ∧ lifC σ t c) = true then 1 else 0) i → ∀ (H : Heap) (locs : List Loc) (ls : Array Slot), fw_P D vwCl z ad (WM cA ad σ th u a μ) H → va_S (fw_A z) s.heap H locs → lv_has ls 4 [(0, .ref (ad 10 (0))), (1, .int (iI ((t : Nat) : Int))), (2, .int (iI ((acc : Nat) : Int))), (3, .int (iI ((i : Nat) : Int)))] → W pg l en (headSpec wsX3_liftsAt rm_X3_liftsAt).room s m args below meth cd H locs 0 0 Q (F0 m 4 ls []) := by
    intro dd
    induction dd with
    | zero => intro i acc hd_4 hi_4; omega
    | succ dd ih_4 =>
      intro i acc hd_4 hi_4 e_acc H locs ls hP hS hl
      subst e_acc
      refine lv_iload_n hx hb dX3_liftsAt_4 rfl (lv_at hl 3 rfl) ?_
      refine lv_aload_n hx hb dX3_liftsAt_5 rfl (lv_at hl 0 rfl) ?_
      refine fw_get (ci := 3) (v := .int (iI ((σ 8 0 : Nat) : Int))) (C := RX3) (T := TX3) (N := 13) hx hb hts hinX3 hown hK hP WM_10 rfl 1 (by decide) hf36 (fun _ h9 => h9) rfl dX3_liftsAt_6 ?_
      have hn_1 := hI.n
      have hm_2 := hI.lim
      refine fw_icmp_ge (x := ((i : Nat) : Int)) (y := ((σ 8 0 : Nat) : Int)) (tgt := 64) hx hb dX3_liftsAt_9 (by decide) ⟨by omega, by omega⟩ ⟨by omega, by omega⟩ (fun c_3 => ?_) (fun c_3 => ?_)
      · refine lv_iload_n hx hb dX3_liftsAt_64 rfl (lv_at hl 2 rfl) ?_
        subst hQ
        exact fw_iret hx hb hr hlocks dX3_liftsAt_65 hP hS ⟨by rw [show i = σ 8 0 from by omega]; rfl, rfl⟩
      · refine lv_iload_n hx hb dX3_liftsAt_12 rfl (lv_at hl 2 rfl) ?_
        refine lv_aload_n hx hb dX3_liftsAt_13 rfl (lv_at hl 0 rfl) ?_
        refine lv_iload_n hx hb dX3_liftsAt_14 rfl (lv_at hl 3 rfl) ?_
        refine fw_cVi (As := [.int (iI ((i : Nat) : Int))]) (rest := [.int (iI ((sumN (fun c => if cB (σ 4 c = 1 ∧ lifC σ t c) = true then 1 else 0) i : Nat) : Int))]) ⟨hx, hb, hml, hown, hts⟩ (c_X3_state l D cA z ad σ th u a μ i hI.b (by omega)) (cwV 1 hts gX3_liftsAt_X3_state rfl rfl rfl (by decide +kernel) ⟨Nat.le_of_ble_eq_true rfl, Nat.le_of_ble_eq_true rfl⟩) WM_10 rfl rfl hl.1 (Nat.le_of_ble_eq_true rfl) dX3_liftsAt_15 ⟨Nat.le_of_ble_eq_true rfl, Nat.le_of_ble_eq_true rfl⟩ hK hP hS rfl (fun r w' H locs q_4 hP hS => ?_)
        obtain ⟨rfl, rfl⟩ := q_4
        have hc_5 := hI.c i
        refine lv_iconst (v := iI ((1 : Nat) : Int)) hx hb dX3_liftsAt_18 (by decide) ?_
        refine fw_icmp_ne (x := ((σ 4 i : Nat) : Int)) (y := ((1 : Nat) : Int)) (tgt := 55) hx hb dX3_liftsAt_19 (by decide) ⟨by omega, by omega⟩ ⟨by omega, by omega⟩ (fun c_6 => ?_) (fun c_6 => ?_)
        · refine lv_iconst (v := iI ((0 : Nat) : Int)) hx hb dX3_liftsAt_55 (by decide) ?_
          refine fw_iaddN (a := sumN (fun c => if cB (σ 4 c = 1 ∧ lifC σ t c) = true then 1 else 0) i) (b := 0) hx hb dX3_liftsAt_56 ?_
          refine lv_istore_n (lv' := [(2, .int (iI (((sumN (fun c => if cB (σ 4 c = 1 ∧ lifC σ t c) = true then 1 else 0) i) + 0 : Nat) : Int))), (0, .ref (ad 10 (0))), (1, .int (iI ((t : Nat) : Int))), (3, .int (iI ((i : Nat) : Int)))]) hx hb dX3_liftsAt_57 rfl hl (by decide) rfl (fun ls hl => ?_)
          refine fw_iincN (x := i) (lv' := [(3, .int (iI ((i + 1 : Nat) : Int))), (2, .int (iI (((sumN (fun c => if cB (σ 4 c = 1 ∧ lifC σ t c) = true then 1 else 0) i) + 0 : Nat) : Int))), (0, .ref (ad 10 (0))), (1, .int (iI ((t : Nat) : Int)))]) hx hb dX3_liftsAt_58 hl (k := 3) rfl (by decide) rfl (fun ls hl => ?_)
          refine lv_goto (tgt := 4) hx hb dX3_liftsAt_61 (by decide) ?_
          exact ih_4 (i + 1) _ (by omega) (by omega) (by rw [sumN]; first | rw [if_pos (cB_t.mpr ⟨by omega, (lif_low hI (by omega)).mp (by omega)⟩)] | rw [if_neg (fun q => by have q2 := cB_t.mp q; first | omega | exact absurd (q2.2).1 (by omega) | (have q3 := (lif_low hI (by omega)).mpr q2.2; omega))]) H locs ls hP hS (lv_sub hl [2, 3, 1, 0] rfl)
        · refine lv_aload_n hx hb dX3_liftsAt_22 rfl (lv_at hl 0 rfl) ?_
          refine lv_iload_n hx hb dX3_liftsAt_23 rfl (lv_at hl 3 rfl) ?_
          refine fw_cVi (As := [.int (iI ((i : Nat) : Int))]) (rest := [.int (iI ((sumN (fun c => if cB (σ 4 c = 1 ∧ lifC σ t c) = true then 1 else 0) i : Nat) : Int))]) ⟨hx, hb, hml, hown, hts⟩ (c_X3_to l D cA z ad σ th u a μ i hI.b (by omega)) (cwV 1 hts gX3_liftsAt_X3_to rfl rfl rfl (by decide +kernel) ⟨Nat.le_of_ble_eq_true rfl, Nat.le_of_ble_eq_true rfl⟩) WM_10 rfl rfl hl.1 (Nat.le_of_ble_eq_true rfl) dX3_liftsAt_24 ⟨Nat.le_of_ble_eq_true rfl, Nat.le_of_ble_eq_true rfl⟩ hK hP hS rfl (fun r w' H locs q_7 hP hS => ?_)
          obtain ⟨rfl, rfl⟩ := q_7
          refine lv_iload_n hx hb dX3_liftsAt_27 rfl (lv_at hl 1 rfl) ?_
          refine fw_icmp_eq (x := ((σ 2 i : Nat) : Int)) (y := ((t : Nat) : Int)) (tgt := 55) hx hb dX3_liftsAt_28 (by decide) ⟨by omega, by omega⟩ ⟨by omega, by omega⟩ (fun c_8 => ?_) (fun c_8 => ?_)
          · refine lv_iconst (v := iI ((0 : Nat) : Int)) hx hb dX3_liftsAt_55 (by decide) ?_
            refine fw_iaddN (a := sumN (fun c => if cB (σ 4 c = 1 ∧ lifC σ t c) = true then 1 else 0) i) (b := 0) hx hb dX3_liftsAt_56 ?_
            refine lv_istore_n (lv' := [(2, .int (iI (((sumN (fun c => if cB (σ 4 c = 1 ∧ lifC σ t c) = true then 1 else 0) i) + 0 : Nat) : Int))), (0, .ref (ad 10 (0))), (1, .int (iI ((t : Nat) : Int))), (3, .int (iI ((i : Nat) : Int)))]) hx hb dX3_liftsAt_57 rfl hl (by decide) rfl (fun ls hl => ?_)
            refine fw_iincN (x := i) (lv' := [(3, .int (iI ((i + 1 : Nat) : Int))), (2, .int (iI (((sumN (fun c => if cB (σ 4 c = 1 ∧ lifC σ t c) = true then 1 else 0) i) + 0 : Nat) : Int))), (0, .ref (ad 10 (0))), (1, .int (iI ((t : Nat) : Int)))]) hx hb dX3_liftsAt_58 hl (k := 3) rfl (by decide) rfl (fun ls hl => ?_)
            refine lv_goto (tgt := 4) hx hb dX3_liftsAt_61 (by decide) ?_
            exact ih_4 (i + 1) _ (by omega) (by omega) (by rw [sumN]; first | rw [if_pos (cB_t.mpr ⟨by omega, (lif_low hI (by omega)).mp (by omega)⟩)] | rw [if_neg (fun q => by have q2 := cB_t.mp q; first | omega | exact absurd (q2.2).1 (by omega) | (have q3 := (lif_low hI (by omega)).mpr q2.2; omega))]) H locs ls hP hS (lv_sub hl [2, 3, 1, 0] rfl)
          · refine lv_aload_n hx hb dX3_liftsAt_31 rfl (lv_at hl 0 rfl) ?_
            refine fw_get (ci := 3) (v := .ref (ad 13 (0))) (C := RX3) (T := TX3) (N := 13) hx hb hts hinX3 hown hK hP WM_10 rfl 4 (by decide) hf16 (fun _ h9 => h9) rfl dX3_liftsAt_32 ?_
            refine lv_iload_n hx hb dX3_liftsAt_35 rfl (lv_at hl 3 rfl) ?_
            refine fw_ialdN (j := i) hx hb hK hP WM_13 0 rfl (by omega) (by decide) dX3_liftsAt_36 ?_
            refine fw_topI (b := ((σ 6 i : Nat) : Int)) rfl ?_
            refine lv_aload_n hx hb dX3_liftsAt_37 rfl (lv_at hl 0 rfl) ?_
            refine lv_aload_n hx hb dX3_liftsAt_38 rfl (lv_at hl 0 rfl) ?_
            refine fw_get (ci := 3) (v := .ref (ad 12 (0))) (C := RX3) (T := TX3) (N := 13) hx hb hts hinX3 hown hK hP WM_10 rfl 3 (by decide) hf13 (fun _ h9 => h9) rfl dX3_liftsAt_39 ?_
            refine lv_iload_n hx hb dX3_liftsAt_42 rfl (lv_at hl 3 rfl) ?_
            refine fw_ialdN (j := i) hx hb hK hP WM_12 0 rfl (by omega) (by decide) dX3_liftsAt_43 ?_
            refine fw_topI (b := ((σ 5 i : Nat) : Int)) rfl ?_
            refine lv_iload_n hx hb dX3_liftsAt_44 rfl (lv_at hl 1 rfl) ?_
            refine fw_cVi (As := [.int (iI ((σ 5 i : Nat) : Int)), .int (iI ((t : Nat) : Int))]) (rest := [.int (iI ((σ 6 i : Nat) : Int)), .int (iI ((sumN (fun c => if cB (σ 4 c = 1 ∧ lifC σ t c) = true then 1 else 0) i : Nat) : Int))]) ⟨hx, hb, hml, hown, hts⟩ (c_X3_lowest l D cA z ad σ th u a μ (σ 5 i) t hI (by omega) (by omega)) (cwV 2 hts gX3_liftsAt_X3_lowest rfl rfl rfl (by decide +kernel) ⟨Nat.le_of_ble_eq_true rfl, Nat.le_of_ble_eq_true rfl⟩) WM_10 rfl rfl hl.1 (Nat.le_of_ble_eq_true rfl) dX3_liftsAt_45 ⟨Nat.le_of_ble_eq_true rfl, Nat.le_of_ble_eq_true rfl⟩ hK hP hS rfl (fun r w' H locs q_9 hP hS => ?_)
            obtain ⟨rfl, rfl⟩ := q_9
            have hh_10 := low_le4 (σ := σ) (s := σ 5 i) (p := t) (σ 8 0)
            refine fw_icmp_le (x := ((σ 6 i : Nat) : Int)) (y := ((low σ (σ 5 i) t (σ 8 0) : Nat) : Int)) (tgt := 55) hx hb dX3_liftsAt_48 (by decide) ⟨by omega, by omega⟩ ⟨by omega, by omega⟩ (fun c_11 => ?_) (fun c_11 => ?_)
            · refine lv_iconst (v := iI ((0 : Nat) : Int)) hx hb dX3_liftsAt_55 (by decide) ?_
              refine fw_iaddN (a := sumN (fun c => if cB (σ 4 c = 1 ∧ lifC σ t c) = true then 1 else 0) i) (b := 0) hx hb dX3_liftsAt_56 ?_
              refine lv_istore_n (lv' := [(2, .int (iI (((sumN (fun c => if cB (σ 4 c = 1 ∧ lifC σ t c) = true then 1 else 0) i) + 0 : Nat) : Int))), (0, .ref (ad 10 (0))), (1, .int (iI ((t : Nat) : Int))), (3, .int (iI ((i : Nat) : Int)))]) hx hb dX3_liftsAt_57 rfl hl (by decide) rfl (fun ls hl => ?_)
              refine fw_iincN (x := i) (lv' := [(3, .int (iI ((i + 1 : Nat) : Int))), (2, .int (iI (((sumN (fun c => if cB (σ 4 c = 1 ∧ lifC σ t c) = true then 1 else 0) i) + 0 : Nat) : Int))), (0, .ref (ad 10 (0))), (1, .int (iI ((t : Nat) : Int)))]) hx hb dX3_liftsAt_58 hl (k := 3) rfl (by decide) rfl (fun ls hl => ?_)
              refine lv_goto (tgt := 4) hx hb dX3_liftsAt_61 (by decide) ?_
              exact ih_4 (i + 1) _ (by omega) (by omega) (by rw [sumN]; first | rw [if_pos (cB_t.mpr ⟨by omega, (lif_low hI (by omega)).mp (by omega)⟩)] | rw [if_neg (fun q => by have q2 := cB_t.mp q; first | omega | exact absurd (q2.2).1 (by omega) | (have q3 := (lif_low hI (by omega)).mpr q2.2; omega))]) H locs ls hP hS (lv_sub hl [2, 3, 1, 0] rfl)
            · refine lv_iconst (v := iI ((1 : Nat) : Int)) hx hb dX3_liftsAt_51 (by decide) ?_
              refine lv_goto (tgt := 56) hx hb dX3_liftsAt_52 (by decide) ?_
              refine fw_iaddN (a := sumN (fun c => if cB (σ 4 c = 1 ∧ lifC σ t c) = true then 1 else 0) i) (b := 1) hx hb dX3_liftsAt_56 ?_
              refine lv_istore_n (lv' := [(2, .int (iI (((sumN (fun c => if cB (σ 4 c = 1 ∧ lifC σ t c) = true then 1 else 0) i) + 1 : Nat) : Int))), (0, .ref (ad 10 (0))), (1, .int (iI ((t : Nat) : Int))), (3, .int (iI ((i : Nat) : Int)))]) hx hb dX3_liftsAt_57 rfl hl (by decide) rfl (fun ls hl => ?_)
              refine fw_iincN (x := i) (lv' := [(3, .int (iI ((i + 1 : Nat) : Int))), (2, .int (iI (((sumN (fun c => if cB (σ 4 c = 1 ∧ lifC σ t c) = true then 1 else 0) i) + 1 : Nat) : Int))), (0, .ref (ad 10 (0))), (1, .int (iI ((t : Nat) : Int)))]) hx hb dX3_liftsAt_58 hl (k := 3) rfl (by decide) rfl (fun ls hl => ?_)
              refine lv_goto (tgt := 4) hx hb dX3_liftsAt_61 (by decide) ?_
              exact ih_4 (i + 1) _ (by omega) (by omega) (by rw [sumN]; first | rw [if_pos (cB_t.mpr ⟨by omega, (lif_low hI (by omega)).mp (by omega)⟩)] | rw [if_neg (fun q => by have q2 := cB_t.mp q; first | omega | exact absurd (q2.2).1 (by omega) | (have q3 := (lif_low hI (by omega)).mpr q2.2; omega))]) H locs ls hP hS (lv_sub hl [2, 3, 1, 0] rfl)
  exact loop_4 (σ 8 0 + 1) (0) _ (by omega) (by omega) (by rfl) H locs ls hP hS (lv_sub hl [2, 3, 1, 0] rfl)

abbrev rm_X3_place : Room := { frames := 1, cells := 0, slots := 0, locals := 21 }
abbrev po_X3_place (cA : Nat → ClassId) (ad : fw_Ad) (σ : St) (th u a : Int) (μ : fw_W) (c : Nat) : Int32 → fw_W → Prop := fun r w' => r = iI (plc σ c) ∧ w' = WM cA ad σ th u a μ
set_option maxHeartbeats 4000000 in
set_option maxRecDepth 100000 in
theorem c_X3_place (l : Launch) (D : va_G) (cA : Nat → ClassId) (z : Nat) (ad : fw_Ad) (σ : St) (th u a : Int) (μ : fw_W) (c : Nat) (hI : Inv σ) (hc : c < 40) : Met l yX3_place wsX3_place rm_X3_place (va_Pc [.ref (ad 10 (0)), .int (iI ((c : Nat) : Int))] (fw_Pre D vwCl (fw_T cA) z ad (WM cA ad σ th u a μ))) (fw_Qi D vwCl z ad (po_X3_place cA ad σ th u a μ c)) 0 0 (fw_A z) := by
  refine Met.ofW (cc := cX3_place) (maxL := 2) (ret := (some .int)) (by decide) rfl ?_
  intro pg en s m args below meth cd s₁ B hml hv
  obtain ⟨hargs, hP, hK⟩ := hv
  have hx := B.exec
  have hb := B.bytes
  have hr := B.returns
  have hts := atoms_spec (ws := wsX3_place) B.pre
  have hown : s.vm.findClass RX3 = some m.cls := findClass_of_methodNamed B.named
  have hlocks := B.notSynchronized
  have hinX3 : ∀ w ∈ u_ws RX3 TX3 13, w ∈ wsX3_place := by decide +kernel
  have hf13 := hts (.fieldLink RX3 13 "StowagePlanModel" "stacks" "[I") (by decide +kernel)
  have hf16 := hts (.fieldLink RX3 16 "StowagePlanModel" "tiers" "[I") (by decide +kernel)
  have hl := lv_entry ([.ref (ad 10 (0)), .int (iI ((c : Nat) : Int))]) (n := 2) (Nat.le_of_ble_eq_true rfl)
  have hent : entryFrame m args 2 = entryFrame m ([.ref (ad 10 (0)), .int (iI ((c : Nat) : Int))] : List Value).toArray 2 := by rw [hargs]
  rw [hent, lg_entry_eq]
  generalize (lg_sl ([.ref (ad 10 (0)), .int (iI ((c : Nat) : Int))]) ++ List.replicate (2 - (lg_sl ([.ref (ad 10 (0)), .int (iI ((c : Nat) : Int))])).length) Slot.unset).toArray = ls at hl ⊢
  have hl : lv_has ls 2 [(0, .ref (ad 10 (0))), (1, .int (iI ((c : Nat) : Int)))] := hl
  generalize hQ : MQ below (fw_Qi D vwCl z ad (po_X3_place cA ad σ th u a μ c)) args s 0 0 (fw_A z) = Q
  generalize hH : s.heap = H at hP ⊢
  have hS : va_S (fw_A z) s.heap H [] := by rw [← hH]; exact va_S.rf
  generalize ([] : List Loc) = locs at hS ⊢
  refine lv_aload_n hx hb dX3_place_0 rfl (lv_at hl 0 rfl) ?_
  refine lv_iload_n hx hb dX3_place_1 rfl (lv_at hl 1 rfl) ?_
  refine fw_cVi (As := [.int (iI ((c : Nat) : Int))]) (rest := []) ⟨hx, hb, hml, hown, hts⟩ (c_X3_state l D cA z ad σ th u a μ c hI.b (by omega)) (cwV 1 hts gX3_place_X3_state rfl rfl rfl (by decide +kernel) ⟨Nat.le_of_ble_eq_true rfl, Nat.le_of_ble_eq_true rfl⟩) WM_10 rfl rfl hl.1 (Nat.le_of_ble_eq_true rfl) dX3_place_2 ⟨Nat.le_of_ble_eq_true rfl, Nat.le_of_ble_eq_true rfl⟩ hK hP hS rfl (fun r w' H locs q_1 hP hS => ?_)
  obtain ⟨rfl, rfl⟩ := q_1
  have hc_2 := hI.c c
  have hn_3 := hI.n
  have hm_4 := hI.lim
  refine lv_iconst (v := iI ((1 : Nat) : Int)) hx hb dX3_place_5 (by decide) ?_
  refine fw_icmp_ne (x := ((σ 4 c : Nat) : Int)) (y := ((1 : Nat) : Int)) (tgt := 42) hx hb dX3_place_6 (by decide) ⟨by omega, by omega⟩ ⟨by omega, by omega⟩ (fun c_5 => ?_) (fun c_5 => ?_)
  · refine lv_iconst (v := iI (-1)) hx hb dX3_place_42 (by decide) ?_
    subst hQ
    exact fw_iret hx hb hr hlocks dX3_place_43 hP hS ⟨congrArg iI (by unfold plc; rw [if_neg (by omega)]), rfl⟩
  · refine lv_bipush (v := iI ((100 : Nat) : Int)) hx hb dX3_place_9 (by decide) ?_
    refine lv_aload_n hx hb dX3_place_11 rfl (lv_at hl 0 rfl) ?_
    refine fw_get (ci := 3) (v := .ref (ad 12 (0))) (C := RX3) (T := TX3) (N := 13) hx hb hts hinX3 hown hK hP WM_10 rfl 3 (by decide) hf13 (fun _ h9 => h9) rfl dX3_place_12 ?_
    refine lv_iload_n hx hb dX3_place_15 rfl (lv_at hl 1 rfl) ?_
    refine fw_ialdN (j := c) hx hb hK hP WM_12 0 rfl (by omega) (by decide) dX3_place_16 ?_
    refine fw_topI (b := ((σ 5 c : Nat) : Int)) rfl ?_
    refine lv_iconst (v := iI ((5 : Nat) : Int)) hx hb dX3_place_17 (by decide) ?_
    refine fw_idivN (a := σ 5 c) (b := 5) hx hb dX3_place_18 (by omega) (by omega) (by omega) ?_
    refine fw_imulN (a := 100) (b := (σ 5 c) / 5) hx hb dX3_place_19 ?_
    refine lv_bipush (v := iI ((10 : Nat) : Int)) hx hb dX3_place_20 (by decide) ?_
    refine lv_aload_n hx hb dX3_place_22 rfl (lv_at hl 0 rfl) ?_
    refine fw_get (ci := 3) (v := .ref (ad 12 (0))) (C := RX3) (T := TX3) (N := 13) hx hb hts hinX3 hown hK hP WM_10 rfl 3 (by decide) hf13 (fun _ h9 => h9) rfl dX3_place_23 ?_
    refine lv_iload_n hx hb dX3_place_26 rfl (lv_at hl 1 rfl) ?_
    refine fw_ialdN (j := c) hx hb hK hP WM_12 0 rfl (by omega) (by decide) dX3_place_27 ?_
    refine fw_topI (b := ((σ 5 c : Nat) : Int)) rfl ?_
    refine lv_iconst (v := iI ((5 : Nat) : Int)) hx hb dX3_place_28 (by decide) ?_
    refine fw_iremN (a := σ 5 c) (b := 5) hx hb dX3_place_29 (by omega) (by omega) (by omega) ?_
    refine fw_imulN (a := 10) (b := (σ 5 c) % 5) hx hb dX3_place_30 ?_
    refine fw_iaddN (a := 100 * ((σ 5 c) / 5)) (b := 10 * ((σ 5 c) % 5)) hx hb dX3_place_31 ?_
    refine lv_aload_n hx hb dX3_place_32 rfl (lv_at hl 0 rfl) ?_
    refine fw_get (ci := 3) (v := .ref (ad 13 (0))) (C := RX3) (T := TX3) (N := 13) hx hb hts hinX3 hown hK hP WM_10 rfl 4 (by decide) hf16 (fun _ h9 => h9) rfl dX3_place_33 ?_
    refine lv_iload_n hx hb dX3_place_36 rfl (lv_at hl 1 rfl) ?_
    refine fw_ialdN (j := c) hx hb hK hP WM_13 0 rfl (by omega) (by decide) dX3_place_37 ?_
    refine fw_topI (b := ((σ 6 c : Nat) : Int)) rfl ?_
    refine fw_iaddN (a := (100 * ((σ 5 c) / 5)) + (10 * ((σ 5 c) % 5))) (b := σ 6 c) hx hb dX3_place_38 ?_
    refine lv_goto (tgt := 43) hx hb dX3_place_39 (by decide) ?_
    subst hQ
    exact fw_iret hx hb hr hlocks dX3_place_43 hP hS ⟨congrArg iI (by unfold plc; rw [if_pos (by omega)]), rfl⟩

abbrev rm_X3_isBlocked : Room := { frames := 2, cells := 0, slots := 0, locals := 43 }
abbrev po_X3_isBlocked (cA : Nat → ClassId) (ad : fw_Ad) (σ : St) (th u a : Int) (μ : fw_W) (c : Nat) : Int32 → fw_W → Prop := fun r w' => r = iI (bI (cB (later σ (σ 5 c) (σ 6 c) (σ 2 c)))) ∧ w' = WM cA ad σ th u a μ
set_option maxHeartbeats 4000000 in
set_option maxRecDepth 100000 in
theorem c_X3_isBlocked (l : Launch) (D : va_G) (cA : Nat → ClassId) (z : Nat) (ad : fw_Ad) (σ : St) (th u a : Int) (μ : fw_W) (c : Nat) (hI : Inv σ) (hc : c < 40) : Met l yX3_isBlocked wsX3_isBlocked rm_X3_isBlocked (va_Pc [.ref (ad 10 (0)), .int (iI ((c : Nat) : Int))] (fw_Pre D vwCl (fw_T cA) z ad (WM cA ad σ th u a μ))) (fw_Qi D vwCl z ad (po_X3_isBlocked cA ad σ th u a μ c)) 0 0 (fw_A z) := by
  refine Met.ofW (cc := cX3_isBlocked) (maxL := 4) (ret := (some .boolean)) (by decide) rfl ?_
  intro pg en s m args below meth cd s₁ B hml hv
  obtain ⟨hargs, hP, hK⟩ := hv
  have hx := B.exec
  have hb := B.bytes
  have hr := B.returns
  have hts := atoms_spec (ws := wsX3_isBlocked) B.pre
  have hown : s.vm.findClass RX3 = some m.cls := findClass_of_methodNamed B.named
  have hlocks := B.notSynchronized
  have hinX3 : ∀ w ∈ u_ws RX3 TX3 13, w ∈ wsX3_isBlocked := by decide +kernel
  have hf36 := hts (.fieldLink RX3 36 "StowagePlanModel" "many" "I") (by decide +kernel)
  have hf13 := hts (.fieldLink RX3 13 "StowagePlanModel" "stacks" "[I") (by decide +kernel)
  have hf16 := hts (.fieldLink RX3 16 "StowagePlanModel" "tiers" "[I") (by decide +kernel)
  have hl := lv_entry ([.ref (ad 10 (0)), .int (iI ((c : Nat) : Int))]) (n := 4) (Nat.le_of_ble_eq_true rfl)
  have hent : entryFrame m args 4 = entryFrame m ([.ref (ad 10 (0)), .int (iI ((c : Nat) : Int))] : List Value).toArray 4 := by rw [hargs]
  rw [hent, lg_entry_eq]
  generalize (lg_sl ([.ref (ad 10 (0)), .int (iI ((c : Nat) : Int))]) ++ List.replicate (4 - (lg_sl ([.ref (ad 10 (0)), .int (iI ((c : Nat) : Int))])).length) Slot.unset).toArray = ls at hl ⊢
  have hl : lv_has ls 4 [(0, .ref (ad 10 (0))), (1, .int (iI ((c : Nat) : Int)))] := hl
  generalize hQ : MQ below (fw_Qi D vwCl z ad (po_X3_isBlocked cA ad σ th u a μ c)) args s 0 0 (fw_A z) = Q
  generalize hH : s.heap = H at hP ⊢
  have hS : va_S (fw_A z) s.heap H [] := by rw [← hH]; exact va_S.rf
  generalize ([] : List Loc) = locs at hS ⊢
  refine lv_iconst (v := iI ((0 : Nat) : Int)) hx hb dX3_isBlocked_0 (by decide) ?_
  refine lv_istore_n (lv' := [(2, .int (iI ((0 : Nat) : Int))), (0, .ref (ad 10 (0))), (1, .int (iI ((c : Nat) : Int)))]) hx hb dX3_isBlocked_1 rfl hl (by decide) rfl (fun ls hl => ?_)
  refine lv_iconst (v := iI ((0 : Nat) : Int)) hx hb dX3_isBlocked_2 (by decide) ?_
  refine lv_istore_n (lv' := [(3, .int (iI ((0 : Nat) : Int))), (2, .int (iI ((0 : Nat) : Int))), (0, .ref (ad 10 (0))), (1, .int (iI ((c : Nat) : Int)))]) hx hb dX3_isBlocked_3 rfl hl (by decide) rfl (fun ls hl => ?_)
  have loop_4 : ∀ (dd i : Nat) (fl : Bool), σ 8 0 + 1 ≤ i + dd → i ≤ σ 8 0 → fl = cB (∃ o, o < i ∧ σ 4 o = 1 ∧ σ 5 o = σ 5 c ∧ σ 6 c < σ 6 o ∧ σ 2 c < σ 2 o) → ∀ (H : Heap) (locs : List Loc) (ls : Array Slot), fw_P D vwCl z ad (WM cA ad σ th u a μ) H → va_S (fw_A z) s.heap H locs → lv_has ls 4 [(0, .ref (ad 10 (0))), (1, .int (iI ((c : Nat) : Int))), (2, .int (iI (bI (fl)))), (3, .int (iI ((i : Nat) : Int)))] → W pg l en (headSpec wsX3_isBlocked rm_X3_isBlocked).room s m args below meth cd H locs 0 0 Q (F0 m 4 ls []) := by
    intro dd
    induction dd with
    | zero => intro i fl hd_4 hi_4; omega
    | succ dd ih_4 =>
      intro i fl hd_4 hi_4 e_fl H locs ls hP hS hl
      subst e_fl
      refine lv_iload_n hx hb dX3_isBlocked_4 rfl (lv_at hl 3 rfl) ?_
      refine lv_aload_n hx hb dX3_isBlocked_5 rfl (lv_at hl 0 rfl) ?_
      refine fw_get (ci := 3) (v := .int (iI ((σ 8 0 : Nat) : Int))) (C := RX3) (T := TX3) (N := 13) hx hb hts hinX3 hown hK hP WM_10 rfl 1 (by decide) hf36 (fun _ h9 => h9) rfl dX3_isBlocked_6 ?_
      have hn_1 := hI.n
      have hm_2 := hI.lim
      refine fw_icmp_ge (x := ((i : Nat) : Int)) (y := ((σ 8 0 : Nat) : Int)) (tgt := 70) hx hb dX3_isBlocked_9 (by decide) ⟨by omega, by omega⟩ ⟨by omega, by omega⟩ (fun c_3 => ?_) (fun c_3 => ?_)
      · refine lv_iload_n hx hb dX3_isBlocked_70 rfl (lv_at hl 2 rfl) ?_
        subst hQ
        exact fw_zret hx hb hr hlocks dX3_isBlocked_71 hP hS (iI_narrow _) ⟨by rw [show i = σ 8 0 from by omega]; rfl, rfl⟩
      · refine lv_iload_n hx hb dX3_isBlocked_12 rfl (lv_at hl 2 rfl) ?_
        refine fw_if_neB (x := cB (∃ o, o < i ∧ σ 4 o = 1 ∧ σ 5 o = σ 5 c ∧ σ 6 c < σ 6 o ∧ σ 2 c < σ 2 o)) (tgt := 58) hx hb dX3_isBlocked_13 (by decide) (fun c_4 => ?_) (fun c_4 => ?_)
        · replace c_4 := cB_t.mp c_4
          refine lv_iconst (v := iI ((1 : Nat) : Int)) hx hb dX3_isBlocked_58 (by decide) ?_
          refine lv_goto (tgt := 63) hx hb dX3_isBlocked_59 (by decide) ?_
          refine lv_istore_n (lv' := [(2, .int (iI ((1 : Nat) : Int))), (0, .ref (ad 10 (0))), (1, .int (iI ((c : Nat) : Int))), (3, .int (iI ((i : Nat) : Int)))]) hx hb dX3_isBlocked_63 rfl hl (by decide) rfl (fun ls hl => ?_)
          refine fw_iincN (x := i) (lv' := [(3, .int (iI ((i + 1 : Nat) : Int))), (2, .int (iI ((1 : Nat) : Int))), (0, .ref (ad 10 (0))), (1, .int (iI ((c : Nat) : Int)))]) hx hb dX3_isBlocked_64 hl (k := 3) rfl (by decide) rfl (fun ls hl => ?_)
          refine lv_goto (tgt := 4) hx hb dX3_isBlocked_67 (by decide) ?_
          exact ih_4 (i + 1) true (by omega) (by omega) (cB_t.mpr (by obtain ⟨o, ho, q⟩ := (by assumption : ∃ o, o < i ∧ σ 4 o = 1 ∧ σ 5 o = σ 5 c ∧ σ 6 c < σ 6 o ∧ σ 2 c < σ 2 o); exact ⟨o, by omega, q⟩)).symm H locs ls hP hS (lv_sub hl [2, 3, 1, 0] rfl)
        · replace c_4 := cB_f.mp c_4
          refine lv_aload_n hx hb dX3_isBlocked_16 rfl (lv_at hl 0 rfl) ?_
          refine lv_iload_n hx hb dX3_isBlocked_17 rfl (lv_at hl 3 rfl) ?_
          refine lv_aload_n hx hb dX3_isBlocked_18 rfl (lv_at hl 0 rfl) ?_
          refine fw_get (ci := 3) (v := .ref (ad 12 (0))) (C := RX3) (T := TX3) (N := 13) hx hb hts hinX3 hown hK hP WM_10 rfl 3 (by decide) hf13 (fun _ h9 => h9) rfl dX3_isBlocked_19 ?_
          refine lv_iload_n hx hb dX3_isBlocked_22 rfl (lv_at hl 1 rfl) ?_
          refine fw_ialdN (j := c) hx hb hK hP WM_12 0 rfl (by omega) (by decide) dX3_isBlocked_23 ?_
          refine fw_topI (b := ((σ 5 c : Nat) : Int)) rfl ?_
          have hc_5 := hI.c c
          refine fw_cVi (As := [.int (iI ((i : Nat) : Int)), .int (iI ((σ 5 c : Nat) : Int))]) (rest := []) ⟨hx, hb, hml, hown, hts⟩ (c_X3_isOn l D cA z ad σ th u a μ i (σ 5 c) hI.b (by omega) (by omega)) (cwV 2 hts gX3_isBlocked_X3_isOn rfl rfl rfl (by decide +kernel) ⟨Nat.le_of_ble_eq_true rfl, Nat.le_of_ble_eq_true rfl⟩) WM_10 rfl rfl hl.1 (Nat.le_of_ble_eq_true rfl) dX3_isBlocked_24 ⟨Nat.le_of_ble_eq_true rfl, Nat.le_of_ble_eq_true rfl⟩ hK hP hS rfl (fun r w' H locs q_6 hP hS => ?_)
          obtain ⟨rfl, rfl⟩ := q_6
          have hc_7 := hI.c i
          refine fw_if_eqB (x := isOn σ i (σ 5 c)) (tgt := 62) hx hb dX3_isBlocked_27 (by decide) (fun c_8 => ?_) (fun c_8 => ?_)
          · refine lv_iconst (v := iI ((0 : Nat) : Int)) hx hb dX3_isBlocked_62 (by decide) ?_
            refine lv_istore_n (lv' := [(2, .int (iI ((0 : Nat) : Int))), (0, .ref (ad 10 (0))), (1, .int (iI ((c : Nat) : Int))), (3, .int (iI ((i : Nat) : Int)))]) hx hb dX3_isBlocked_63 rfl hl (by decide) rfl (fun ls hl => ?_)
            refine fw_iincN (x := i) (lv' := [(3, .int (iI ((i + 1 : Nat) : Int))), (2, .int (iI ((0 : Nat) : Int))), (0, .ref (ad 10 (0))), (1, .int (iI ((c : Nat) : Int)))]) hx hb dX3_isBlocked_64 hl (k := 3) rfl (by decide) rfl (fun ls hl => ?_)
            refine lv_goto (tgt := 4) hx hb dX3_isBlocked_67 (by decide) ?_
            exact ih_4 (i + 1) false (by omega) (by omega) (cB_f.mpr (by rintro ⟨o, ho, q1, q2, q3, q4⟩; by_cases e : o = i; (subst e; first | (rw [isOn_f] at *; omega) | omega); exact absurd (show ∃ o, o < i ∧ σ 4 o = 1 ∧ σ 5 o = σ 5 c ∧ σ 6 c < σ 6 o ∧ σ 2 c < σ 2 o from ⟨o, by omega, q1, q2, q3, q4⟩) (by assumption))).symm H locs ls hP hS (lv_sub hl [2, 3, 1, 0] rfl)
          · refine lv_aload_n hx hb dX3_isBlocked_30 rfl (lv_at hl 0 rfl) ?_
            refine fw_get (ci := 3) (v := .ref (ad 13 (0))) (C := RX3) (T := TX3) (N := 13) hx hb hts hinX3 hown hK hP WM_10 rfl 4 (by decide) hf16 (fun _ h9 => h9) rfl dX3_isBlocked_31 ?_
            refine lv_iload_n hx hb dX3_isBlocked_34 rfl (lv_at hl 3 rfl) ?_
            refine fw_ialdN (j := i) hx hb hK hP WM_13 0 rfl (by omega) (by decide) dX3_isBlocked_35 ?_
            refine fw_topI (b := ((σ 6 i : Nat) : Int)) rfl ?_
            refine lv_aload_n hx hb dX3_isBlocked_36 rfl (lv_at hl 0 rfl) ?_
            refine fw_get (ci := 3) (v := .ref (ad 13 (0))) (C := RX3) (T := TX3) (N := 13) hx hb hts hinX3 hown hK hP WM_10 rfl 4 (by decide) hf16 (fun _ h9 => h9) rfl dX3_isBlocked_37 ?_
            refine lv_iload_n hx hb dX3_isBlocked_40 rfl (lv_at hl 1 rfl) ?_
            refine fw_ialdN (j := c) hx hb hK hP WM_13 0 rfl (by omega) (by decide) dX3_isBlocked_41 ?_
            refine fw_topI (b := ((σ 6 c : Nat) : Int)) rfl ?_
            refine fw_icmp_le (x := ((σ 6 i : Nat) : Int)) (y := ((σ 6 c : Nat) : Int)) (tgt := 62) hx hb dX3_isBlocked_42 (by decide) ⟨by omega, by omega⟩ ⟨by omega, by omega⟩ (fun c_9 => ?_) (fun c_9 => ?_)
            · refine lv_iconst (v := iI ((0 : Nat) : Int)) hx hb dX3_isBlocked_62 (by decide) ?_
              refine lv_istore_n (lv' := [(2, .int (iI ((0 : Nat) : Int))), (0, .ref (ad 10 (0))), (1, .int (iI ((c : Nat) : Int))), (3, .int (iI ((i : Nat) : Int)))]) hx hb dX3_isBlocked_63 rfl hl (by decide) rfl (fun ls hl => ?_)
              refine fw_iincN (x := i) (lv' := [(3, .int (iI ((i + 1 : Nat) : Int))), (2, .int (iI ((0 : Nat) : Int))), (0, .ref (ad 10 (0))), (1, .int (iI ((c : Nat) : Int)))]) hx hb dX3_isBlocked_64 hl (k := 3) rfl (by decide) rfl (fun ls hl => ?_)
              refine lv_goto (tgt := 4) hx hb dX3_isBlocked_67 (by decide) ?_
              exact ih_4 (i + 1) false (by omega) (by omega) (cB_f.mpr (by rintro ⟨o, ho, q1, q2, q3, q4⟩; by_cases e : o = i; (subst e; first | (rw [isOn_f] at *; omega) | omega); exact absurd (show ∃ o, o < i ∧ σ 4 o = 1 ∧ σ 5 o = σ 5 c ∧ σ 6 c < σ 6 o ∧ σ 2 c < σ 2 o from ⟨o, by omega, q1, q2, q3, q4⟩) (by assumption))).symm H locs ls hP hS (lv_sub hl [2, 3, 1, 0] rfl)
            · refine lv_aload_n hx hb dX3_isBlocked_45 rfl (lv_at hl 0 rfl) ?_
              refine lv_iload_n hx hb dX3_isBlocked_46 rfl (lv_at hl 3 rfl) ?_
              refine fw_cVi (As := [.int (iI ((i : Nat) : Int))]) (rest := []) ⟨hx, hb, hml, hown, hts⟩ (c_X3_to l D cA z ad σ th u a μ i hI.b (by omega)) (cwV 1 hts gX3_isBlocked_X3_to rfl rfl rfl (by decide +kernel) ⟨Nat.le_of_ble_eq_true rfl, Nat.le_of_ble_eq_true rfl⟩) WM_10 rfl rfl hl.1 (Nat.le_of_ble_eq_true rfl) dX3_isBlocked_47 ⟨Nat.le_of_ble_eq_true rfl, Nat.le_of_ble_eq_true rfl⟩ hK hP hS rfl (fun r w' H locs q_10 hP hS => ?_)
              obtain ⟨rfl, rfl⟩ := q_10
              refine lv_aload_n hx hb dX3_isBlocked_50 rfl (lv_at hl 0 rfl) ?_
              refine lv_iload_n hx hb dX3_isBlocked_51 rfl (lv_at hl 1 rfl) ?_
              refine fw_cVi (As := [.int (iI ((c : Nat) : Int))]) (rest := [.int (iI ((σ 2 i : Nat) : Int))]) ⟨hx, hb, hml, hown, hts⟩ (c_X3_to l D cA z ad σ th u a μ c hI.b (by omega)) (cwV 1 hts gX3_isBlocked_X3_to rfl rfl rfl (by decide +kernel) ⟨Nat.le_of_ble_eq_true rfl, Nat.le_of_ble_eq_true rfl⟩) WM_10 rfl rfl hl.1 (Nat.le_of_ble_eq_true rfl) dX3_isBlocked_52 ⟨Nat.le_of_ble_eq_true rfl, Nat.le_of_ble_eq_true rfl⟩ hK hP hS rfl (fun r w' H locs q_11 hP hS => ?_)
              obtain ⟨rfl, rfl⟩ := q_11
              refine fw_icmp_le (x := ((σ 2 i : Nat) : Int)) (y := ((σ 2 c : Nat) : Int)) (tgt := 62) hx hb dX3_isBlocked_55 (by decide) ⟨by omega, by omega⟩ ⟨by omega, by omega⟩ (fun c_12 => ?_) (fun c_12 => ?_)
              · refine lv_iconst (v := iI ((0 : Nat) : Int)) hx hb dX3_isBlocked_62 (by decide) ?_
                refine lv_istore_n (lv' := [(2, .int (iI ((0 : Nat) : Int))), (0, .ref (ad 10 (0))), (1, .int (iI ((c : Nat) : Int))), (3, .int (iI ((i : Nat) : Int)))]) hx hb dX3_isBlocked_63 rfl hl (by decide) rfl (fun ls hl => ?_)
                refine fw_iincN (x := i) (lv' := [(3, .int (iI ((i + 1 : Nat) : Int))), (2, .int (iI ((0 : Nat) : Int))), (0, .ref (ad 10 (0))), (1, .int (iI ((c : Nat) : Int)))]) hx hb dX3_isBlocked_64 hl (k := 3) rfl (by decide) rfl (fun ls hl => ?_)
                refine lv_goto (tgt := 4) hx hb dX3_isBlocked_67 (by decide) ?_
                exact ih_4 (i + 1) false (by omega) (by omega) (cB_f.mpr (by rintro ⟨o, ho, q1, q2, q3, q4⟩; by_cases e : o = i; (subst e; first | (rw [isOn_f] at *; omega) | omega); exact absurd (show ∃ o, o < i ∧ σ 4 o = 1 ∧ σ 5 o = σ 5 c ∧ σ 6 c < σ 6 o ∧ σ 2 c < σ 2 o from ⟨o, by omega, q1, q2, q3, q4⟩) (by assumption))).symm H locs ls hP hS (lv_sub hl [2, 3, 1, 0] rfl)
              · refine lv_iconst (v := iI ((1 : Nat) : Int)) hx hb dX3_isBlocked_58 (by decide) ?_
                refine lv_goto (tgt := 63) hx hb dX3_isBlocked_59 (by decide) ?_
                refine lv_istore_n (lv' := [(2, .int (iI ((1 : Nat) : Int))), (0, .ref (ad 10 (0))), (1, .int (iI ((c : Nat) : Int))), (3, .int (iI ((i : Nat) : Int)))]) hx hb dX3_isBlocked_63 rfl hl (by decide) rfl (fun ls hl => ?_)
                refine fw_iincN (x := i) (lv' := [(3, .int (iI ((i + 1 : Nat) : Int))), (2, .int (iI ((1 : Nat) : Int))), (0, .ref (ad 10 (0))), (1, .int (iI ((c : Nat) : Int)))]) hx hb dX3_isBlocked_64 hl (k := 3) rfl (by decide) rfl (fun ls hl => ?_)
                refine lv_goto (tgt := 4) hx hb dX3_isBlocked_67 (by decide) ?_
                exact ih_4 (i + 1) true (by omega) (by omega) (cB_t.mpr (by have hq := isOn_t.mp (by assumption : isOn σ i (σ 5 c) = true); exact ⟨i, by omega, by omega, by omega, by omega, by omega⟩)).symm H locs ls hP hS (lv_sub hl [2, 3, 1, 0] rfl)
  exact loop_4 (σ 8 0 + 1) (0) false (by omega) (by omega) (cB_f.mpr (by rintro ⟨o, ho, -⟩; omega)).symm H locs ls hP hS (lv_sub hl [2, 3, 1, 0] rfl)
