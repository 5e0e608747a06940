theorem bay_sum {f : Nat → Nat} {b : Nat} (hb : b ≤ 5) : sumN (fun k => if k / 5 = b then f k else 0) 30 = sumN (fun q => f (5 * b + q)) 5 := by
  rcases (by omega : b = 0 ∨ b = 1 ∨ b = 2 ∨ b = 3 ∨ b = 4 ∨ b = 5) with rfl | rfl | rfl | rfl | rfl | rfl <;> simp [sumN]
abbrev rm_X2_container : Room := { frames := 6, cells := 1, slots := 6, locals := 82 }
abbrev po_X2_container (cA : Nat → ClassId) (ad : fw_Ad) (σ : St) (μ : fw_W) (x q : Int) : Int32 → fw_W → Prop := fun r w' => ((0 ≤ x ∧ x < ((σ 8 0 : Nat) : Int)) ∧ 0 ≤ q ∧ q ≤ 4) ∧ r = iI ((σ (Int.toNat q) (Int.toNat x) : Nat) : Int) ∧ w' = WC cA ad σ μ
abbrev px_X2_container (cA : Nat → ClassId) (ad : fw_Ad) (σ : St) (μ : fw_W) (x q : Int) : String → fw_W → Prop := fun E w' => E = tx_IO ∧ ¬ ((0 ≤ x ∧ x < ((σ 8 0 : Nat) : Int)) ∧ 0 ≤ q ∧ q ≤ 4) ∧ w' = WC cA ad σ μ
set_option maxHeartbeats 4000000 in
set_option maxRecDepth 100000 in
theorem c_X2_container (l : Launch) (hl0 : l.stackTraces = false) (D : va_G) (cA : Nat → ClassId) (z : Nat) (ad : fw_Ad) (sa : Nat → Nat) (σ : St) (μ : fw_W) (x q : Int) (hI : Inv σ) (hx0 : -2147483648 ≤ x ∧ x ≤ 2147483647) (hq0 : -2147483648 ≤ q ∧ q ≤ 2147483647) : vx_Met l yX2_container wsX2_container rm_X2_container (va_Pc [.ref (ad 0 (0)), .int (iI (x)), .int (iI (q))] (fx_Pre D vwCl (fw_T cA) z ad (WC cA ad σ μ) sa)) (fw_Qi D vwCl z ad (po_X2_container cA ad σ μ x q)) (fx_X D vwCl z ad (px_X2_container cA ad σ μ x q)) 1 6 (fw_A z) := by
  refine vx_ofW (cc := cX2_container) (maxL := 4) (ret := (some .int)) (by decide) rfl ?_
  intro pg en s m args below meth cd s₁ B hml hnx hv
  obtain ⟨hargs, ⟨hP, hK⟩, hE⟩ := hv
  have hx := B.exec
  have hb := B.bytes
  have hr := B.returns
  have hts := atoms_spec (ws := wsX2_container) B.pre
  have hown : s.vm.findClass RX2 = some m.cls := findClass_of_methodNamed B.named
  have hlocks := B.notSynchronized
  have hl := lv_entry ([.ref (ad 0 (0)), .int (iI (x)), .int (iI (q))]) (n := 4) (Nat.le_of_ble_eq_true rfl)
  have hent : entryFrame m args 4 = entryFrame m ([.ref (ad 0 (0)), .int (iI (x)), .int (iI (q))] : List Value).toArray 4 := by rw [hargs]
  rw [hent, lg_entry_eq]
  generalize (lg_sl ([.ref (ad 0 (0)), .int (iI (x)), .int (iI (q))]) ++ List.replicate (4 - (lg_sl ([.ref (ad 0 (0)), .int (iI (x)), .int (iI (q))])).length) Slot.unset).toArray = ls at hl ⊢
  have hl : lv_has ls 4 [(0, .ref (ad 0 (0))), (1, .int (iI (x))), (2, .int (iI (q)))] := hl
  generalize hQ : vx_MQ below (fw_Qi D vwCl z ad (po_X2_container cA ad σ μ x q)) (fx_X D vwCl z ad (px_X2_container cA ad σ μ x q)) args s 1 6 (fw_A z) = Q
  generalize hH : s.heap = H at hP ⊢
  have hS : va_S (fw_A z) s.heap H [] := by rw [← hH]; exact va_S.rf
  generalize ([] : List Loc) = locs at hS ⊢
  refine lv_aload_n hx hb dX2_container_0 rfl (lv_at hl 0 rfl) ?_
  refine lv_iload_n hx hb dX2_container_1 rfl (lv_at hl 1 rfl) ?_
  refine fw_cVq (As := [.int (iI (x))]) (rest := []) ⟨hx, hb, hml, hown, hts⟩ (c_X2_boxNumbered l D cA z ad σ μ (x) hI ⟨by omega, by omega⟩) (cwV 1 hts gX2_container_X2_boxNumbered rfl rfl rfl (by decide +kernel) ⟨Nat.le_of_ble_eq_true rfl, Nat.le_of_ble_eq_true rfl⟩) WC_0 rfl rfl hl.1 (Nat.le_of_ble_eq_true rfl) dX2_container_2 ⟨Nat.le_of_ble_eq_true rfl, Nat.le_of_ble_eq_true rfl⟩ hK hP hS rfl (fun r w' H locs q_1 hP hS => ?_)
  obtain ⟨rfl, rfl⟩ := q_1
  by_cases n_2 : 0 ≤ (x) ∧ (x) < ((σ 8 0 : Nat) : Int)
  · refine fw_top (v' := .ref (ad 5 (Int.toNat (x)))) (by rw [boxAt, if_pos n_2]; rfl) ?_
    have n_2b : Int.toNat (x) < σ 8 0 := by omega
    refine lv_astore_n (lv' := [(3, .ref (ad 5 (Int.toNat (x)))), (0, .ref (ad 0 (0))), (1, .int (iI (x))), (2, .int (iI (q)))]) hx hb dX2_container_5 rfl hl (by decide) rfl (fun ls hl => ?_)
    refine lv_aload_n hx hb dX2_container_6 rfl (lv_at hl 0 rfl) ?_
    refine lv_ifnull hx hb dX2_container_7 ?_
    refine lv_iload_n hx hb dX2_container_10 rfl (lv_at hl 3 rfl) ?_
    refine lv_iconst (v := iI ((0 : Nat) : Int)) hx hb dX2_container_11 (by decide) ?_
    refine lv_iconst (v := iI ((4 : Nat) : Int)) hx hb dX2_container_12 (by decide) ?_
    refine fw_cSi (As := [.int (iI (q)), .int (iI ((0 : Nat) : Int)), .int (iI ((4 : Nat) : Int))]) (rest := []) ⟨hx, hb, hml, hown, hts⟩ (c_X2_isWithin l D cA z ad (WC cA ad σ μ) (q) ((0 : Nat) : Int) ((4 : Nat) : Int) ⟨by omega, by omega⟩ ⟨by omega, by omega⟩ ⟨by omega, by omega⟩) (va_cwS 3 hts gX2_container_X2_isWithin rfl rfl rfl (by decide +kernel) ⟨Nat.le_of_ble_eq_true rfl, Nat.le_of_ble_eq_true rfl⟩) rfl hl.1 (Nat.le_of_ble_eq_true rfl) dX2_container_13 ⟨Nat.le_of_ble_eq_true rfl, Nat.le_of_ble_eq_true rfl⟩ hK hP hS rfl (fun r w' H locs q_3 hP hS => ?_)
    obtain ⟨rfl, rfl⟩ := q_3
    refine fw_if_neB (x := decide (((0 : Nat) : Int) ≤ (q) ∧ (q) ≤ ((4 : Nat) : Int))) (tgt := 29) hx hb dX2_container_16 (by decide) (fun c_4 => ?_) (fun c_4 => ?_)
    · replace c_4 := of_decide_eq_true c_4
      refine lv_aload_n hx hb dX2_container_29 rfl (lv_at hl 0 rfl) ?_
      refine lv_iload_n hx hb dX2_container_30 rfl (lv_at hl 3 rfl) ?_
      refine fw_topI (b := ((Int.toNat q : Nat) : Int)) (by omega) ?_
      refine fw_cVi (As := [.int (iI ((Int.toNat q : Nat) : Int))]) (rest := []) ⟨hx, hb, hml, hown, hts⟩ (c_X0_tell l D cA z ad σ μ (Int.toNat (x)) (Int.toNat q) hI n_2b (by omega)) (cwV 1 hts gX2_container_X0_tell rfl rfl rfl (by decide +kernel) ⟨Nat.le_of_ble_eq_true rfl, Nat.le_of_ble_eq_true rfl⟩) (WC_5 n_2b) rfl rfl hl.1 (Nat.le_of_ble_eq_true rfl) dX2_container_31 ⟨Nat.le_of_ble_eq_true rfl, Nat.le_of_ble_eq_true rfl⟩ hK hP hS rfl (fun r w' H locs q_5 hP hS => ?_)
      obtain ⟨rfl, rfl⟩ := q_5
      have hc_6 := hI.c (Int.toNat (x))
      subst hQ
      refine vx_ret (W.widen (k := 1) (n := 6) (Nat.le_of_ble_eq_true rfl) (Nat.le_of_ble_eq_true rfl) ?_)
      exact fw_iret hx hb hr hlocks dX2_container_34 hP hS ⟨by omega, rfl, rfl⟩
    · replace c_4 := of_decide_eq_false c_4
      subst hQ
      refine fx_throw (cls := tx_IO) (text := "no such container or question") hx hb hl0 hown hE tx_68 (hts (.classLink RX2 68 tx_IO) (by decide +kernel)) (hts (.initialized tx_IO) (by decide +kernel)) (fun w hw => hts w ((by decide +kernel : ∀ w ∈ (vx_atS RX2 72 tx_IO tx_n).filter goodWord, w ∈ wsX2_container) w hw)) (by decide) dX2_container_19 dX2_container_22 dX2_container_23 dX2_container_25 dX2_container_28 hnx ⟨Nat.le_of_ble_eq_true rfl, Nat.le_of_ble_eq_true rfl, Nat.le_of_ble_eq_true rfl, Nat.le_of_ble_eq_true rfl⟩ hlocks (hl.1.trans hml.symm) hP hS ?_ (Nat.le_of_ble_eq_true rfl) (Nat.le_of_ble_eq_true rfl)
      exact ⟨rfl, by omega, rfl⟩
  · refine fw_top (v' := .null) (by rw [boxAt, if_neg n_2]; rfl) ?_
    refine lv_astore_nN (lv' := [(3, .null), (0, .ref (ad 0 (0))), (1, .int (iI (x))), (2, .int (iI (q)))]) hx hb dX2_container_5 rfl hl (by decide) rfl (fun ls hl => ?_)
    refine lv_aload_nN hx hb dX2_container_6 rfl (lv_at hl 0 rfl) ?_
    refine lv_ifnullN (tgt := 19) hx hb dX2_container_7 (by decide) ?_
    subst hQ
    refine fx_throw (cls := tx_IO) (text := "no such container or question") hx hb hl0 hown hE tx_68 (hts (.classLink RX2 68 tx_IO) (by decide +kernel)) (hts (.initialized tx_IO) (by decide +kernel)) (fun w hw => hts w ((by decide +kernel : ∀ w ∈ (vx_atS RX2 72 tx_IO tx_n).filter goodWord, w ∈ wsX2_container) w hw)) (by decide) dX2_container_19 dX2_container_22 dX2_container_23 dX2_container_25 dX2_container_28 hnx ⟨Nat.le_of_ble_eq_true rfl, Nat.le_of_ble_eq_true rfl, Nat.le_of_ble_eq_true rfl, Nat.le_of_ble_eq_true rfl⟩ hlocks (hl.1.trans hml.symm) hP hS ?_ (Nat.le_of_ble_eq_true rfl) (Nat.le_of_ble_eq_true rfl)
    exact ⟨rfl, by omega, rfl⟩

abbrev rm_X2_where : Room := { frames := 6, cells := 1, slots := 6, locals := 82 }
abbrev po_X2_where (cA : Nat → ClassId) (ad : fw_Ad) (σ : St) (μ : fw_W) (x : Int) : Int32 → fw_W → Prop := fun r w' => (0 ≤ x ∧ x < ((σ 8 0 : Nat) : Int)) ∧ r = iI (plc σ (Int.toNat x)) ∧ w' = WC cA ad σ μ
abbrev px_X2_where (cA : Nat → ClassId) (ad : fw_Ad) (σ : St) (μ : fw_W) (x : Int) : String → fw_W → Prop := fun E w' => E = tx_IO ∧ ¬ (0 ≤ x ∧ x < ((σ 8 0 : Nat) : Int)) ∧ w' = WC cA ad σ μ
set_option maxHeartbeats 4000000 in
set_option maxRecDepth 100000 in
theorem c_X2_where (l : Launch) (hl0 : l.stackTraces = false) (D : va_G) (cA : Nat → ClassId) (z : Nat) (ad : fw_Ad) (sa : Nat → Nat) (σ : St) (μ : fw_W) (x : Int) (hI : Inv σ) (hx0 : -2147483648 ≤ x ∧ x ≤ 2147483647) : vx_Met l yX2_where wsX2_where rm_X2_where (va_Pc [.ref (ad 0 (0)), .int (iI (x))] (fx_Pre D vwCl (fw_T cA) z ad (WC cA ad σ μ) sa)) (fw_Qi D vwCl z ad (po_X2_where cA ad σ μ x)) (fx_X D vwCl z ad (px_X2_where cA ad σ μ x)) 1 6 (fw_A z) := by
  refine vx_ofW (cc := cX2_where) (maxL := 3) (ret := (some .int)) (by decide) rfl ?_
  intro pg en s m args below meth cd s₁ B hml hnx hv
  obtain ⟨hargs, ⟨hP, hK⟩, hE⟩ := hv
  have hx := B.exec
  have hb := B.bytes
  have hr := B.returns
  have hts := atoms_spec (ws := wsX2_where) B.pre
  have hown : s.vm.findClass RX2 = some m.cls := findClass_of_methodNamed B.named
  have hlocks := B.notSynchronized
  have hl := lv_entry ([.ref (ad 0 (0)), .int (iI (x))]) (n := 3) (Nat.le_of_ble_eq_true rfl)
  have hent : entryFrame m args 3 = entryFrame m ([.ref (ad 0 (0)), .int (iI (x))] : List Value).toArray 3 := by rw [hargs]
  rw [hent, lg_entry_eq]
  generalize (lg_sl ([.ref (ad 0 (0)), .int (iI (x))]) ++ List.replicate (3 - (lg_sl ([.ref (ad 0 (0)), .int (iI (x))])).length) Slot.unset).toArray = ls at hl ⊢
  have hl : lv_has ls 3 [(0, .ref (ad 0 (0))), (1, .int (iI (x)))] := hl
  generalize hQ : vx_MQ below (fw_Qi D vwCl z ad (po_X2_where cA ad σ μ x)) (fx_X D vwCl z ad (px_X2_where cA ad σ μ x)) args s 1 6 (fw_A z) = Q
  generalize hH : s.heap = H at hP ⊢
  have hS : va_S (fw_A z) s.heap H [] := by rw [← hH]; exact va_S.rf
  generalize ([] : List Loc) = locs at hS ⊢
  refine lv_aload_n hx hb dX2_where_0 rfl (lv_at hl 0 rfl) ?_
  refine lv_iload_n hx hb dX2_where_1 rfl (lv_at hl 1 rfl) ?_
  refine fw_cVq (As := [.int (iI (x))]) (rest := []) ⟨hx, hb, hml, hown, hts⟩ (c_X2_boxNumbered l D cA z ad σ μ (x) hI ⟨by omega, by omega⟩) (cwV 1 hts gX2_where_X2_boxNumbered rfl rfl rfl (by decide +kernel) ⟨Nat.le_of_ble_eq_true rfl, Nat.le_of_ble_eq_true rfl⟩) WC_0 rfl rfl hl.1 (Nat.le_of_ble_eq_true rfl) dX2_where_2 ⟨Nat.le_of_ble_eq_true rfl, Nat.le_of_ble_eq_true rfl⟩ hK hP hS rfl (fun r w' H locs q_1 hP hS => ?_)
  obtain ⟨rfl, rfl⟩ := q_1
  by_cases n_2 : 0 ≤ (x) ∧ (x) < ((σ 8 0 : Nat) : Int)
  · refine fw_top (v' := .ref (ad 5 (Int.toNat (x)))) (by rw [boxAt, if_pos n_2]; rfl) ?_
    have n_2b : Int.toNat (x) < σ 8 0 := by omega
    refine lv_astore_n (lv' := [(2, .ref (ad 5 (Int.toNat (x)))), (0, .ref (ad 0 (0))), (1, .int (iI (x)))]) hx hb dX2_where_5 rfl hl (by decide) rfl (fun ls hl => ?_)
    refine lv_aload_n hx hb dX2_where_6 rfl (lv_at hl 0 rfl) ?_
    refine lv_ifnonnull (tgt := 20) hx hb dX2_where_7 (by decide) ?_
    refine lv_aload_n hx hb dX2_where_20 rfl (lv_at hl 0 rfl) ?_
    refine fw_cVi (As := []) (rest := []) ⟨hx, hb, hml, hown, hts⟩ (c_X0_place l D cA z ad σ μ (Int.toNat (x)) hI n_2b) (cwV 0 hts gX2_where_X0_place rfl rfl rfl (by decide +kernel) ⟨Nat.le_of_ble_eq_true rfl, Nat.le_of_ble_eq_true rfl⟩) (WC_5 n_2b) rfl rfl hl.1 (Nat.le_of_ble_eq_true rfl) dX2_where_21 ⟨Nat.le_of_ble_eq_true rfl, Nat.le_of_ble_eq_true rfl⟩ hK hP hS rfl (fun r w' H locs q_3 hP hS => ?_)
    obtain ⟨rfl, rfl⟩ := q_3
    have hc_4 := hI.c (Int.toNat (x))
    subst hQ
    refine vx_ret (W.widen (k := 1) (n := 6) (Nat.le_of_ble_eq_true rfl) (Nat.le_of_ble_eq_true rfl) ?_)
    exact fw_iret hx hb hr hlocks dX2_where_24 hP hS ⟨by omega, rfl, rfl⟩
  · refine fw_top (v' := .null) (by rw [boxAt, if_neg n_2]; rfl) ?_
    refine lv_astore_nN (lv' := [(2, .null), (0, .ref (ad 0 (0))), (1, .int (iI (x)))]) hx hb dX2_where_5 rfl hl (by decide) rfl (fun ls hl => ?_)
    refine lv_aload_nN hx hb dX2_where_6 rfl (lv_at hl 0 rfl) ?_
    refine lv_ifnonnullN hx hb dX2_where_7 ?_
    subst hQ
    refine fx_throw (cls := tx_IO) (text := "no such container") hx hb hl0 hown hE tx_68 (hts (.classLink RX2 68 tx_IO) (by decide +kernel)) (hts (.initialized tx_IO) (by decide +kernel)) (fun w hw => hts w ((by decide +kernel : ∀ w ∈ (vx_atS RX2 72 tx_IO tx_n).filter goodWord, w ∈ wsX2_where) w hw)) (by decide) dX2_where_10 dX2_where_13 dX2_where_14 dX2_where_16 dX2_where_19 hnx ⟨Nat.le_of_ble_eq_true rfl, Nat.le_of_ble_eq_true rfl, Nat.le_of_ble_eq_true rfl, Nat.le_of_ble_eq_true rfl⟩ hlocks (hl.1.trans hml.symm) hP hS ?_ (Nat.le_of_ble_eq_true rfl) (Nat.le_of_ble_eq_true rfl)
    exact ⟨rfl, by omega, rfl⟩

abbrev rm_X2_at : Room := { frames := 6, cells := 1, slots := 6, locals := 82 }
abbrev po_X2_at (cA : Nat → ClassId) (ad : fw_Ad) (σ : St) (μ : fw_W) (b q t : Int) : Int32 → fw_W → Prop := fun r w' => ((0 ≤ b ∧ b ≤ 5) ∧ (0 ≤ q ∧ q ≤ 4) ∧ 0 ≤ t ∧ t ≤ 3) ∧ r = iI (optI (occ σ (5 * Int.toNat b + Int.toNat q) (Int.toNat t))) ∧ w' = WC cA ad σ μ
abbrev px_X2_at (cA : Nat → ClassId) (ad : fw_Ad) (σ : St) (μ : fw_W) (b q t : Int) : String → fw_W → Prop := fun E w' => E = tx_IO ∧ ¬ ((0 ≤ b ∧ b ≤ 5) ∧ (0 ≤ q ∧ q ≤ 4) ∧ 0 ≤ t ∧ t ≤ 3) ∧ w' = WC cA ad σ μ
set_option maxHeartbeats 4000000 in
set_option maxRecDepth 100000 in
theorem c_X2_at (l : Launch) (hl0 : l.stackTraces = false) (D : va_G) (cA : Nat → ClassId) (z : Nat) (ad : fw_Ad) (sa : Nat → Nat) (σ : St) (μ : fw_W) (b q t : Int) (hI : Inv σ) (hb0 : -2147483648 ≤ b ∧ b ≤ 2147483647) (hq0 : -2147483648 ≤ q ∧ q ≤ 2147483647) (ht0 : -2147483648 ≤ t ∧ t ≤ 2147483647) : vx_Met l yX2_at wsX2_at rm_X2_at (va_Pc [.ref (ad 0 (0)), .int (iI (b)), .int (iI (q)), .int (iI (t))] (fx_Pre D vwCl (fw_T cA) z ad (WC cA ad σ μ) sa)) (fw_Qi D vwCl z ad (po_X2_at cA ad σ μ b q t)) (fx_X D vwCl z ad (px_X2_at cA ad σ μ b q t)) 1 6 (fw_A z) := by
  refine vx_ofW (cc := cX2_at) (maxL := 5) (ret := (some .int)) (by decide) rfl ?_
  intro pg en s m args below meth cd s₁ B hml hnx hv
  obtain ⟨hargs, ⟨hP, hK⟩, hE⟩ := hv
  have hx := B.exec
  have hb := B.bytes
  have hr := B.returns
  have hts := atoms_spec (ws := wsX2_at) B.pre
  have hown : s.vm.findClass RX2 = some m.cls := findClass_of_methodNamed B.named
  have hlocks := B.notSynchronized
  have hl := lv_entry ([.ref (ad 0 (0)), .int (iI (b)), .int (iI (q)), .int (iI (t))]) (n := 5) (Nat.le_of_ble_eq_true rfl)
  have hent : entryFrame m args 5 = entryFrame m ([.ref (ad 0 (0)), .int (iI (b)), .int (iI (q)), .int (iI (t))] : List Value).toArray 5 := by rw [hargs]
  rw [hent, lg_entry_eq]
  generalize (lg_sl ([.ref (ad 0 (0)), .int (iI (b)), .int (iI (q)), .int (iI (t))]) ++ List.replicate (5 - (lg_sl ([.ref (ad 0 (0)), .int (iI (b)), .int (iI (q)), .int (iI (t))])).length) Slot.unset).toArray = ls at hl ⊢
  have hl : lv_has ls 5 [(0, .ref (ad 0 (0))), (1, .int (iI (b))), (2, .int (iI (q))), (3, .int (iI (t)))] := hl
  generalize hQ : vx_MQ below (fw_Qi D vwCl z ad (po_X2_at cA ad σ μ b q t)) (fx_X D vwCl z ad (px_X2_at cA ad σ μ b q t)) args s 1 6 (fw_A z) = Q
  generalize hH : s.heap = H at hP ⊢
  have hS : va_S (fw_A z) s.heap H [] := by rw [← hH]; exact va_S.rf
  generalize ([] : List Loc) = locs at hS ⊢
  refine lv_aload_n hx hb dX2_at_0 rfl (lv_at hl 0 rfl) ?_
  refine lv_iload_n hx hb dX2_at_1 rfl (lv_at hl 1 rfl) ?_
  refine lv_iload_n hx hb dX2_at_2 rfl (lv_at hl 2 rfl) ?_
  refine fw_cVq (As := [.int (iI (b)), .int (iI (q))]) (rest := []) ⟨hx, hb, hml, hown, hts⟩ (c_X2_stackAt l D cA z ad σ μ (b) (q) hI ⟨by omega, by omega⟩ ⟨by omega, by omega⟩) (cwV 2 hts gX2_at_X2_stackAt rfl rfl rfl (by decide +kernel) ⟨Nat.le_of_ble_eq_true rfl, Nat.le_of_ble_eq_true rfl⟩) WC_0 rfl rfl hl.1 (Nat.le_of_ble_eq_true rfl) dX2_at_3 ⟨Nat.le_of_ble_eq_true rfl, Nat.le_of_ble_eq_true rfl⟩ hK hP hS rfl (fun r w' H locs q_1 hP hS => ?_)
  obtain ⟨rfl, rfl⟩ := q_1
  by_cases n_2 : (0 ≤ (b) ∧ (b) ≤ 5) ∧ 0 ≤ (q) ∧ (q) ≤ 4
  · refine fw_top (v' := .ref (ad 3 (5 * Int.toNat (b) + Int.toNat (q)))) (by rw [stkAt, if_pos n_2]; rfl) ?_
    have n_2b : 5 * Int.toNat (b) + Int.toNat (q) < 30 := by omega
    refine lv_astore (lv' := [(4, .ref (ad 3 (5 * Int.toNat (b) + Int.toNat (q)))), (0, .ref (ad 0 (0))), (1, .int (iI (b))), (2, .int (iI (q))), (3, .int (iI (t)))]) hx hb dX2_at_6 hl (by decide) rfl (fun ls hl => ?_)
    refine lv_aload hx hb dX2_at_8 (lv_at hl 0 rfl) ?_
    refine lv_ifnull hx hb dX2_at_10 ?_
    refine lv_iload_n hx hb dX2_at_13 rfl (lv_at hl 4 rfl) ?_
    refine lv_iconst (v := iI ((0 : Nat) : Int)) hx hb dX2_at_14 (by decide) ?_
    refine lv_iconst (v := iI ((3 : Nat) : Int)) hx hb dX2_at_15 (by decide) ?_
    refine fw_cSi (As := [.int (iI (t)), .int (iI ((0 : Nat) : Int)), .int (iI ((3 : Nat) : Int))]) (rest := []) ⟨hx, hb, hml, hown, hts⟩ (c_X2_isWithin l D cA z ad (WC cA ad σ μ) (t) ((0 : Nat) : Int) ((3 : Nat) : Int) ⟨by omega, by omega⟩ ⟨by omega, by omega⟩ ⟨by omega, by omega⟩) (va_cwS 3 hts gX2_at_X2_isWithin rfl rfl rfl (by decide +kernel) ⟨Nat.le_of_ble_eq_true rfl, Nat.le_of_ble_eq_true rfl⟩) rfl hl.1 (Nat.le_of_ble_eq_true rfl) dX2_at_16 ⟨Nat.le_of_ble_eq_true rfl, Nat.le_of_ble_eq_true rfl⟩ hK hP hS rfl (fun r w' H locs q_3 hP hS => ?_)
    obtain ⟨rfl, rfl⟩ := q_3
    refine fw_if_neB (x := decide (((0 : Nat) : Int) ≤ (t) ∧ (t) ≤ ((3 : Nat) : Int))) (tgt := 32) hx hb dX2_at_19 (by decide) (fun c_4 => ?_) (fun c_4 => ?_)
    · replace c_4 := of_decide_eq_true c_4
      refine lv_aload hx hb dX2_at_32 (lv_at hl 0 rfl) ?_
      refine lv_iload_n hx hb dX2_at_34 rfl (lv_at hl 4 rfl) ?_
      refine fw_cVq (As := [.int (iI (t))]) (rest := []) ⟨hx, hb, hml, hown, hts⟩ (c_X1_onTier l D cA z ad σ μ (5 * Int.toNat (b) + Int.toNat (q)) (t) hI n_2b ⟨by omega, by omega⟩) (cwV 1 hts gX2_at_X1_onTier rfl rfl rfl (by decide +kernel) ⟨Nat.le_of_ble_eq_true rfl, Nat.le_of_ble_eq_true rfl⟩) (WC_3 n_2b) rfl rfl hl.1 (Nat.le_of_ble_eq_true rfl) dX2_at_35 ⟨Nat.le_of_ble_eq_true rfl, Nat.le_of_ble_eq_true rfl⟩ hK hP hS rfl (fun r w' H locs q_5 hP hS => ?_)
      obtain ⟨rfl, rfl⟩ := q_5
      have hoi : occI σ (5 * Int.toNat b + Int.toNat q) t = occ σ (5 * Int.toNat b + Int.toNat q) (Int.toNat t) := by unfold occI; rw [if_pos (by omega)]
      refine fw_top (v' := va_rf ((occ σ (5 * Int.toNat b + Int.toNat q) (Int.toNat t)).map (ad 5))) (by rw [hoi]) ?_
      cases n_6 : occ σ ((5 * Int.toNat b + Int.toNat q)) ((Int.toNat t)) with
      | none =>
        refine fw_top (v' := .null) rfl ?_
        refine fw_cSi (As := [.null]) (rest := []) ⟨hx, hb, hml, hown, hts⟩ (c_X2_numberOf_n l D cA z ad σ μ) (va_cwS 1 hts gX2_at_X2_numberOf rfl rfl rfl (by decide +kernel) ⟨Nat.le_of_ble_eq_true rfl, Nat.le_of_ble_eq_true rfl⟩) rfl hl.1 (Nat.le_of_ble_eq_true rfl) dX2_at_38 ⟨Nat.le_of_ble_eq_true rfl, Nat.le_of_ble_eq_true rfl⟩ hK hP hS rfl (fun r w' H locs q_8 hP hS => ?_)
        obtain ⟨rfl, rfl⟩ := q_8
        subst hQ
        refine vx_ret (W.widen (k := 1) (n := 6) (Nat.le_of_ble_eq_true rfl) (Nat.le_of_ble_eq_true rfl) ?_)
        exact fw_iret hx hb hr hlocks dX2_at_41 hP hS ⟨by omega, by rw [n_6]; rfl, rfl⟩
      | some b_7 =>
        refine fw_top (v' := .ref (ad 5 (b_7))) rfl ?_
        obtain ⟨n_6n, n_6s, n_6k, n_6t⟩ := occ_some n_6
        refine fw_cSi (As := [.ref (ad 5 (b_7))]) (rest := []) ⟨hx, hb, hml, hown, hts⟩ (c_X2_numberOf l D cA z ad σ μ b_7 n_6n) (va_cwS 1 hts gX2_at_X2_numberOf rfl rfl rfl (by decide +kernel) ⟨Nat.le_of_ble_eq_true rfl, Nat.le_of_ble_eq_true rfl⟩) rfl hl.1 (Nat.le_of_ble_eq_true rfl) dX2_at_38 ⟨Nat.le_of_ble_eq_true rfl, Nat.le_of_ble_eq_true rfl⟩ hK hP hS rfl (fun r w' H locs q_9 hP hS => ?_)
        obtain ⟨rfl, rfl⟩ := q_9
        subst hQ
        refine vx_ret (W.widen (k := 1) (n := 6) (Nat.le_of_ble_eq_true rfl) (Nat.le_of_ble_eq_true rfl) ?_)
        exact fw_iret hx hb hr hlocks dX2_at_41 hP hS ⟨by omega, by rw [n_6]; rfl, rfl⟩
    · replace c_4 := of_decide_eq_false c_4
      subst hQ
      refine fx_throw (cls := tx_IO) (text := "no such bay, row or tier") hx hb hl0 hown hE tx_68 (hts (.classLink RX2 68 tx_IO) (by decide +kernel)) (hts (.initialized tx_IO) (by decide +kernel)) (fun w hw => hts w ((by decide +kernel : ∀ w ∈ (vx_atS RX2 72 tx_IO tx_n).filter goodWord, w ∈ wsX2_at) w hw)) (by decide) dX2_at_22 dX2_at_25 dX2_at_26 dX2_at_28 dX2_at_31 hnx ⟨Nat.le_of_ble_eq_true rfl, Nat.le_of_ble_eq_true rfl, Nat.le_of_ble_eq_true rfl, Nat.le_of_ble_eq_true rfl⟩ hlocks (hl.1.trans hml.symm) hP hS ?_ (Nat.le_of_ble_eq_true rfl) (Nat.le_of_ble_eq_true rfl)
      exact ⟨rfl, by omega, rfl⟩
  · refine fw_top (v' := .null) (by rw [stkAt, if_neg n_2]; rfl) ?_
    refine lv_astoreN (lv' := [(4, .null), (0, .ref (ad 0 (0))), (1, .int (iI (b))), (2, .int (iI (q))), (3, .int (iI (t)))]) hx hb dX2_at_6 hl (by decide) rfl (fun ls hl => ?_)
    refine lv_aloadN hx hb dX2_at_8 (lv_at hl 0 rfl) ?_
    refine lv_ifnullN (tgt := 22) hx hb dX2_at_10 (by decide) ?_
    subst hQ
    refine fx_throw (cls := tx_IO) (text := "no such bay, row or tier") hx hb hl0 hown hE tx_68 (hts (.classLink RX2 68 tx_IO) (by decide +kernel)) (hts (.initialized tx_IO) (by decide +kernel)) (fun w hw => hts w ((by decide +kernel : ∀ w ∈ (vx_atS RX2 72 tx_IO tx_n).filter goodWord, w ∈ wsX2_at) w hw)) (by decide) dX2_at_22 dX2_at_25 dX2_at_26 dX2_at_28 dX2_at_31 hnx ⟨Nat.le_of_ble_eq_true rfl, Nat.le_of_ble_eq_true rfl, Nat.le_of_ble_eq_true rfl, Nat.le_of_ble_eq_true rfl⟩ hlocks (hl.1.trans hml.symm) hP hS ?_ (Nat.le_of_ble_eq_true rfl) (Nat.le_of_ble_eq_true rfl)
    exact ⟨rfl, by omega, rfl⟩

abbrev rm_X2_choices : Room := { frames := 6, cells := 1, slots := 6, locals := 91 }
abbrev po_X2_choices (cA : Nat → ClassId) (ad : fw_Ad) (σ : St) (μ : fw_W) (x : Int) : Int32 → fw_W → Prop := fun r w' => (0 ≤ x ∧ x < ((σ 8 0 : Nat) : Int)) ∧ r = iI ((choices σ (Int.toNat x) : Nat) : Int) ∧ w' = WC cA ad σ μ
abbrev px_X2_choices (cA : Nat → ClassId) (ad : fw_Ad) (σ : St) (μ : fw_W) (x : Int) : String → fw_W → Prop := fun E w' => E = tx_IO ∧ ¬ (0 ≤ x ∧ x < ((σ 8 0 : Nat) : Int)) ∧ w' = WC cA ad σ μ
set_option maxHeartbeats 4000000 in
set_option maxRecDepth 100000 in
theorem c_X2_choices (l : Launch) (hl0 : l.stackTraces = false) (D : va_G) (cA : Nat → ClassId) (z : Nat) (ad : fw_Ad) (sa : Nat → Nat) (σ : St) (μ : fw_W) (x : Int) (hI : Inv σ) (hx0 : -2147483648 ≤ x ∧ x ≤ 2147483647) : vx_Met l yX2_choices wsX2_choices rm_X2_choices (va_Pc [.ref (ad 0 (0)), .int (iI (x))] (fx_Pre D vwCl (fw_T cA) z ad (WC cA ad σ μ) sa)) (fw_Qi D vwCl z ad (po_X2_choices cA ad σ μ x)) (fx_X D vwCl z ad (px_X2_choices cA ad σ μ x)) 1 6 (fw_A z) := by
  refine vx_ofW (cc := cX2_choices) (maxL := 8) (ret := (some .int)) (by decide) rfl ?_
  intro pg en s m args below meth cd s₁ B hml hnx hv
  obtain ⟨hargs, ⟨hP, hK⟩, hE⟩ := hv
  have hx := B.exec
  have hb := B.bytes
  have hr := B.returns
  have hts := atoms_spec (ws := wsX2_choices) B.pre
  have hown : s.vm.findClass RX2 = some m.cls := findClass_of_methodNamed B.named
  have hlocks := B.notSynchronized
  have hinX2 : ∀ w ∈ u_ws RX2 TX2 8, w ∈ wsX2_choices := by decide +kernel
  have hf17 := hts (.fieldLink RX2 17 "StowagePlan" "stacks" "[LStowagePlan$Stack;") (by decide +kernel)
  have hl := lv_entry ([.ref (ad 0 (0)), .int (iI (x))]) (n := 8) (Nat.le_of_ble_eq_true rfl)
  have hent : entryFrame m args 8 = entryFrame m ([.ref (ad 0 (0)), .int (iI (x))] : List Value).toArray 8 := by rw [hargs]
  rw [hent, lg_entry_eq]
  generalize (lg_sl ([.ref (ad 0 (0)), .int (iI (x))]) ++ List.replicate (8 - (lg_sl ([.ref (ad 0 (0)), .int (iI (x))])).length) Slot.unset).toArray = ls at hl ⊢
  have hl : lv_has ls 8 [(0, .ref (ad 0 (0))), (1, .int (iI (x)))] := hl
  generalize hQ : vx_MQ below (fw_Qi D vwCl z ad (po_X2_choices cA ad σ μ x)) (fx_X D vwCl z ad (px_X2_choices cA ad σ μ x)) args s 1 6 (fw_A z) = Q
  generalize hH : s.heap = H at hP ⊢
  have hS : va_S (fw_A z) s.heap H [] := by rw [← hH]; exact va_S.rf
  generalize ([] : List Loc) = locs at hS ⊢
  refine lv_aload_n hx hb dX2_choices_0 rfl (lv_at hl 0 rfl) ?_
  refine lv_iload_n hx hb dX2_choices_1 rfl (lv_at hl 1 rfl) ?_
  refine fw_cVq (As := [.int (iI (x))]) (rest := []) ⟨hx, hb, hml, hown, hts⟩ (c_X2_boxNumbered l D cA z ad σ μ (x) hI ⟨by omega, by omega⟩) (cwV 1 hts gX2_choices_X2_boxNumbered rfl rfl rfl (by decide +kernel) ⟨Nat.le_of_ble_eq_true rfl, Nat.le_of_ble_eq_true rfl⟩) WC_0 rfl rfl hl.1 (Nat.le_of_ble_eq_true rfl) dX2_choices_2 ⟨Nat.le_of_ble_eq_true rfl, Nat.le_of_ble_eq_true rfl⟩ hK hP hS rfl (fun r w' H locs q_1 hP hS => ?_)
  obtain ⟨rfl, rfl⟩ := q_1
  by_cases n_2 : 0 ≤ (x) ∧ (x) < ((σ 8 0 : Nat) : Int)
  · refine fw_top (v' := .ref (ad 5 (Int.toNat (x)))) (by rw [boxAt, if_pos n_2]; rfl) ?_
    have n_2b : Int.toNat (x) < σ 8 0 := by omega
    refine lv_astore_n (lv' := [(2, .ref (ad 5 (Int.toNat (x)))), (0, .ref (ad 0 (0))), (1, .int (iI (x)))]) hx hb dX2_choices_5 rfl hl (by decide) rfl (fun ls hl => ?_)
    refine lv_aload_n hx hb dX2_choices_6 rfl (lv_at hl 0 rfl) ?_
    refine lv_ifnonnull (tgt := 20) hx hb dX2_choices_7 (by decide) ?_
    refine lv_iconst (v := iI ((0 : Nat) : Int)) hx hb dX2_choices_20 (by decide) ?_
    refine lv_istore_n (lv' := [(3, .int (iI ((0 : Nat) : Int))), (2, .ref (ad 5 (Int.toNat (x)))), (0, .ref (ad 0 (0))), (1, .int (iI (x)))]) hx hb dX2_choices_21 rfl hl (by decide) rfl (fun ls hl => ?_)
    refine lv_aload_n hx hb dX2_choices_22 rfl (lv_at hl 2 rfl) ?_
    refine fw_get (ci := 2) (v := .ref (ad 2 (0))) (C := RX2) (T := TX2) (N := 8) hx hb hts hinX2 hown hK hP WC_0 rfl 1 (by decide) hf17 (fun _ h9 => h9) rfl dX2_choices_23 ?_
    have hn_3 := hI.n
    have hm_4 := hI.lim
    refine lv_astore (lv' := [(4, .ref (ad 2 (0))), (3, .int (iI ((0 : Nat) : Int))), (2, .ref (ad 5 (Int.toNat (x)))), (0, .ref (ad 0 (0))), (1, .int (iI (x)))]) hx hb dX2_choices_26 hl (by decide) rfl (fun ls hl => ?_)
    refine lv_aload hx hb dX2_choices_28 (lv_at hl 0 rfl) ?_
    refine fw_alen (v := iI ((30 : Nat) : Int)) hx hb hK hP WC_2 3 rfl rfl dX2_choices_30 ?_
    refine lv_istore (lv' := [(5, .int (iI ((30 : Nat) : Int))), (4, .ref (ad 2 (0))), (3, .int (iI ((0 : Nat) : Int))), (2, .ref (ad 5 (Int.toNat (x)))), (0, .ref (ad 0 (0))), (1, .int (iI (x)))]) hx hb dX2_choices_31 hl (by decide) rfl (fun ls hl => ?_)
    refine lv_iconst (v := iI ((0 : Nat) : Int)) hx hb dX2_choices_33 (by decide) ?_
    refine lv_istore (lv' := [(6, .int (iI ((0 : Nat) : Int))), (5, .int (iI ((30 : Nat) : Int))), (4, .ref (ad 2 (0))), (3, .int (iI ((0 : Nat) : Int))), (2, .ref (ad 5 (Int.toNat (x)))), (0, .ref (ad 0 (0))), (1, .int (iI (x)))]) hx hb dX2_choices_34 hl (by decide) rfl (fun ls hl => ?_)
    have loop_36 : ∀ (dd i : Nat) (acc : Nat), 30 + 1 ≤ i + dd → i ≤ 30 → acc = sumN (fun s => if cB (allowed σ (Int.toNat x) s) = true then 1 else 0) i → ∀ (H : Heap) (locs : List Loc) (ls : Array Slot), fw_P D vwCl z ad (WC cA ad σ μ) H → va_S (fw_A z) s.heap H locs → lv_has ls 8 [(0, .ref (ad 0 (0))), (1, .int (iI (x))), (2, .ref (ad 5 (Int.toNat (x)))), (3, .int (iI ((acc : Nat) : Int))), (4, .ref (ad 2 (0))), (5, .int (iI ((30 : Nat) : Int))), (6, .int (iI ((i : Nat) : Int)))] → W pg l en (headSpec wsX2_choices rm_X2_choices).room s m args below meth cd H locs 0 0 Q (F0 m 36 ls []) := by
      intro dd
      induction dd with
      | zero => intro i acc hd_36 hi_36; omega
      | succ dd ih_36 =>
        intro i acc hd_36 hi_36 e_acc H locs ls hP hS hl
        subst e_acc
        refine lv_iload hx hb dX2_choices_36 (lv_at hl 6 rfl) ?_
        refine lv_iload hx hb dX2_choices_38 (lv_at hl 5 rfl) ?_
        refine fw_icmp_ge (x := ((i : Nat) : Int)) (y := ((30 : Nat) : Int)) (tgt := 69) hx hb dX2_choices_40 (by decide) ⟨by omega, by omega⟩ ⟨by omega, by omega⟩ (fun c_5 => ?_) (fun c_5 => ?_)
        · refine lv_iload_n hx hb dX2_choices_69 rfl (lv_at hl 3 rfl) ?_
          subst hQ
          refine vx_ret (W.widen (k := 1) (n := 6) (Nat.le_of_ble_eq_true rfl) (Nat.le_of_ble_eq_true rfl) ?_)
          exact fw_iret hx hb hr hlocks dX2_choices_70 hP hS ⟨by omega, by rw [show i = 30 from by omega]; rfl, rfl⟩
        · refine lv_aload hx hb dX2_choices_43 (lv_at hl 4 rfl) ?_
          refine lv_iload hx hb dX2_choices_45 (lv_at hl 6 rfl) ?_
          refine fw_aldN (j := i) hx hb hK hP WC_2 3 rfl (by omega) (by decide) dX2_choices_47 ?_
          refine fw_top (v' := .ref (ad 3 (i))) rfl ?_
          refine lv_astore (lv' := [(7, .ref (ad 3 (i))), (0, .ref (ad 0 (0))), (1, .int (iI (x))), (2, .ref (ad 5 (Int.toNat (x)))), (3, .int (iI ((sumN (fun s => if cB (allowed σ (Int.toNat x) s) = true then 1 else 0) i : Nat) : Int))), (4, .ref (ad 2 (0))), (5, .int (iI ((30 : Nat) : Int))), (6, .int (iI ((i : Nat) : Int)))]) hx hb dX2_choices_48 hl (by decide) rfl (fun ls hl => ?_)
          refine lv_aload_n hx hb dX2_choices_50 rfl (lv_at hl 1 rfl) ?_
          refine lv_aload_n hx hb dX2_choices_51 rfl (lv_at hl 3 rfl) ?_
          refine lv_aload hx hb dX2_choices_52 (lv_at hl 0 rfl) ?_
          refine fw_cVi (As := [.ref (ad 5 (Int.toNat (x))), .ref (ad 3 (i))]) (rest := []) ⟨hx, hb, hml, hown, hts⟩ (c_X2_isLoadable l D cA z ad σ μ (Int.toNat (x)) i hI n_2b (by omega)) (cwV 2 hts gX2_choices_X2_isLoadable rfl rfl rfl (by decide +kernel) ⟨Nat.le_of_ble_eq_true rfl, Nat.le_of_ble_eq_true rfl⟩) WC_0 rfl rfl hl.1 (Nat.le_of_ble_eq_true rfl) dX2_choices_54 ⟨Nat.le_of_ble_eq_true rfl, Nat.le_of_ble_eq_true rfl⟩ hK hP hS rfl (fun r w' H locs q_6 hP hS => ?_)
          obtain ⟨rfl, rfl⟩ := q_6
          refine fw_if_eqB (x := cB (allowed σ (Int.toNat (x)) i)) (tgt := 63) hx hb dX2_choices_57 (by decide) (fun c_7 => ?_) (fun c_7 => ?_)
          · replace c_7 := cB_f.mp c_7
            refine fw_iincN (x := i) (lv' := [(6, .int (iI ((i + 1 : Nat) : Int))), (7, .ref (ad 3 (i))), (0, .ref (ad 0 (0))), (1, .int (iI (x))), (2, .ref (ad 5 (Int.toNat (x)))), (3, .int (iI ((sumN (fun s => if cB (allowed σ (Int.toNat x) s) = true then 1 else 0) i : Nat) : Int))), (4, .ref (ad 2 (0))), (5, .int (iI ((30 : Nat) : Int)))]) hx hb dX2_choices_63 hl (k := 7) rfl (by decide) rfl (fun ls hl => ?_)
            refine lv_goto (tgt := 36) hx hb dX2_choices_66 (by decide) ?_
            exact ih_36 (i + 1) _ (by omega) (by omega) (by rw [sumN, if_neg (fun q => absurd (cB_t.mp q) (by assumption))]; rfl) H locs ls hP hS (lv_sub hl [2, 3, 4, 5, 6, 7, 0] rfl)
          · replace c_7 := cB_t.mp c_7
            refine fw_iincN (x := sumN (fun s => if cB (allowed σ (Int.toNat x) s) = true then 1 else 0) i) (lv' := [(3, .int (iI (((sumN (fun s => if cB (allowed σ (Int.toNat x) s) = true then 1 else 0) i) + 1 : Nat) : Int))), (7, .ref (ad 3 (i))), (0, .ref (ad 0 (0))), (1, .int (iI (x))), (2, .ref (ad 5 (Int.toNat (x)))), (4, .ref (ad 2 (0))), (5, .int (iI ((30 : Nat) : Int))), (6, .int (iI ((i : Nat) : Int)))]) hx hb dX2_choices_60 hl (k := 4) rfl (by decide) rfl (fun ls hl => ?_)
            refine fw_iincN (x := i) (lv' := [(6, .int (iI ((i + 1 : Nat) : Int))), (3, .int (iI (((sumN (fun s => if cB (allowed σ (Int.toNat x) s) = true then 1 else 0) i) + 1 : Nat) : Int))), (7, .ref (ad 3 (i))), (0, .ref (ad 0 (0))), (1, .int (iI (x))), (2, .ref (ad 5 (Int.toNat (x)))), (4, .ref (ad 2 (0))), (5, .int (iI ((30 : Nat) : Int)))]) hx hb dX2_choices_63 hl (k := 7) rfl (by decide) rfl (fun ls hl => ?_)
            refine lv_goto (tgt := 36) hx hb dX2_choices_66 (by decide) ?_
            exact ih_36 (i + 1) _ (by omega) (by omega) (by rw [sumN, if_pos (cB_t.mpr (by assumption))]) H locs ls hP hS (lv_sub hl [3, 4, 5, 1, 6, 7, 0] rfl)
    exact loop_36 (30 + 1) (0) _ (by omega) (by omega) (by rfl) H locs ls hP hS (lv_sub hl [5, 6, 4, 3, 2, 1, 0] rfl)
  · refine fw_top (v' := .null) (by rw [boxAt, if_neg n_2]; rfl) ?_
    refine lv_astore_nN (lv' := [(2, .null), (0, .ref (ad 0 (0))), (1, .int (iI (x)))]) hx hb dX2_choices_5 rfl hl (by decide) rfl (fun ls hl => ?_)
    refine lv_aload_nN hx hb dX2_choices_6 rfl (lv_at hl 0 rfl) ?_
    refine lv_ifnonnullN hx hb dX2_choices_7 ?_
    subst hQ
    refine fx_throw (cls := tx_IO) (text := "no such container") hx hb hl0 hown hE tx_68 (hts (.classLink RX2 68 tx_IO) (by decide +kernel)) (hts (.initialized tx_IO) (by decide +kernel)) (fun w hw => hts w ((by decide +kernel : ∀ w ∈ (vx_atS RX2 72 tx_IO tx_n).filter goodWord, w ∈ wsX2_choices) w hw)) (by decide) dX2_choices_10 dX2_choices_13 dX2_choices_14 dX2_choices_16 dX2_choices_19 hnx ⟨Nat.le_of_ble_eq_true rfl, Nat.le_of_ble_eq_true rfl, Nat.le_of_ble_eq_true rfl, Nat.le_of_ble_eq_true rfl⟩ hlocks (hl.1.trans hml.symm) hP hS ?_ (Nat.le_of_ble_eq_true rfl) (Nat.le_of_ble_eq_true rfl)
    exact ⟨rfl, by omega, rfl⟩

abbrev rm_X2_lifts : Room := { frames := 6, cells := 1, slots := 6, locals := 82 }
abbrev po_X2_lifts (cA : Nat → ClassId) (ad : fw_Ad) (σ : St) (μ : fw_W) (t : Int) : Int32 → fw_W → Prop := fun r w' => (0 ≤ t ∧ t ≤ 5) ∧ r = iI ((lifAt σ (Int.toNat t) : Nat) : Int) ∧ w' = WC cA ad σ μ
abbrev px_X2_lifts (cA : Nat → ClassId) (ad : fw_Ad) (σ : St) (μ : fw_W) (t : Int) : String → fw_W → Prop := fun E w' => E = tx_IO ∧ ¬ (0 ≤ t ∧ t ≤ 5) ∧ w' = WC cA ad σ μ
set_option maxHeartbeats 4000000 in
set_option maxRecDepth 100000 in
theorem c_X2_lifts (l : Launch) (hl0 : l.stackTraces = false) (D : va_G) (cA : Nat → ClassId) (z : Nat) (ad : fw_Ad) (sa : Nat → Nat) (σ : St) (μ : fw_W) (t : Int) (hI : Inv σ) (ht0 : -2147483648 ≤ t ∧ t ≤ 2147483647) : vx_Met l yX2_lifts wsX2_lifts rm_X2_lifts (va_Pc [.ref (ad 0 (0)), .int (iI (t))] (fx_Pre D vwCl (fw_T cA) z ad (WC cA ad σ μ) sa)) (fw_Qi D vwCl z ad (po_X2_lifts cA ad σ μ t)) (fx_X D vwCl z ad (px_X2_lifts cA ad σ μ t)) 1 6 (fw_A z) := by
  refine vx_ofW (cc := cX2_lifts) (maxL := 7) (ret := (some .int)) (by decide) rfl ?_
  intro pg en s m args below meth cd s₁ B hml hnx hv
  obtain ⟨hargs, ⟨hP, hK⟩, hE⟩ := hv
  have hx := B.exec
  have hb := B.bytes
  have hr := B.returns
  have hts := atoms_spec (ws := wsX2_lifts) B.pre
  have hown : s.vm.findClass RX2 = some m.cls := findClass_of_methodNamed B.named
  have hlocks := B.notSynchronized
  have hinX2 : ∀ w ∈ u_ws RX2 TX2 8, w ∈ wsX2_lifts := by decide +kernel
  have hf17 := hts (.fieldLink RX2 17 "StowagePlan" "stacks" "[LStowagePlan$Stack;") (by decide +kernel)
  have hl := lv_entry ([.ref (ad 0 (0)), .int (iI (t))]) (n := 7) (Nat.le_of_ble_eq_true rfl)
  have hent : entryFrame m args 7 = entryFrame m ([.ref (ad 0 (0)), .int (iI (t))] : List Value).toArray 7 := by rw [hargs]
  rw [hent, lg_entry_eq]
  generalize (lg_sl ([.ref (ad 0 (0)), .int (iI (t))]) ++ List.replicate (7 - (lg_sl ([.ref (ad 0 (0)), .int (iI (t))])).length) Slot.unset).toArray = ls at hl ⊢
  have hl : lv_has ls 7 [(0, .ref (ad 0 (0))), (1, .int (iI (t)))] := hl
  generalize hQ : vx_MQ below (fw_Qi D vwCl z ad (po_X2_lifts cA ad σ μ t)) (fx_X D vwCl z ad (px_X2_lifts cA ad σ μ t)) args s 1 6 (fw_A z) = Q
  generalize hH : s.heap = H at hP ⊢
  have hS : va_S (fw_A z) s.heap H [] := by rw [← hH]; exact va_S.rf
  generalize ([] : List Loc) = locs at hS ⊢
  refine lv_iload_n hx hb dX2_lifts_0 rfl (lv_at hl 1 rfl) ?_
  refine lv_iconst (v := iI ((0 : Nat) : Int)) hx hb dX2_lifts_1 (by decide) ?_
  refine lv_iconst (v := iI ((5 : Nat) : Int)) hx hb dX2_lifts_2 (by decide) ?_
  refine fw_cSi (As := [.int (iI (t)), .int (iI ((0 : Nat) : Int)), .int (iI ((5 : Nat) : Int))]) (rest := []) ⟨hx, hb, hml, hown, hts⟩ (c_X2_isWithin l D cA z ad (WC cA ad σ μ) (t) ((0 : Nat) : Int) ((5 : Nat) : Int) ⟨by omega, by omega⟩ ⟨by omega, by omega⟩ ⟨by omega, by omega⟩) (va_cwS 3 hts gX2_lifts_X2_isWithin rfl rfl rfl (by decide +kernel) ⟨Nat.le_of_ble_eq_true rfl, Nat.le_of_ble_eq_true rfl⟩) rfl hl.1 (Nat.le_of_ble_eq_true rfl) dX2_lifts_3 ⟨Nat.le_of_ble_eq_true rfl, Nat.le_of_ble_eq_true rfl⟩ hK hP hS rfl (fun r w' H locs q_1 hP hS => ?_)
  obtain ⟨rfl, rfl⟩ := q_1
  refine fw_if_neB (x := decide (((0 : Nat) : Int) ≤ (t) ∧ (t) ≤ ((5 : Nat) : Int))) (tgt := 19) hx hb dX2_lifts_6 (by decide) (fun c_2 => ?_) (fun c_2 => ?_)
  · replace c_2 := of_decide_eq_true c_2
    refine lv_iconst (v := iI ((0 : Nat) : Int)) hx hb dX2_lifts_19 (by decide) ?_
    refine lv_istore_n (lv' := [(2, .int (iI ((0 : Nat) : Int))), (0, .ref (ad 0 (0))), (1, .int (iI (t)))]) hx hb dX2_lifts_20 rfl hl (by decide) rfl (fun ls hl => ?_)
    refine lv_aload_n hx hb dX2_lifts_21 rfl (lv_at hl 1 rfl) ?_
    refine fw_get (ci := 2) (v := .ref (ad 2 (0))) (C := RX2) (T := TX2) (N := 8) hx hb hts hinX2 hown hK hP WC_0 rfl 1 (by decide) hf17 (fun _ h9 => h9) rfl dX2_lifts_22 ?_
    have hn_3 := hI.n
    have hm_4 := hI.lim
    refine lv_astore_n (lv' := [(3, .ref (ad 2 (0))), (2, .int (iI ((0 : Nat) : Int))), (0, .ref (ad 0 (0))), (1, .int (iI (t)))]) hx hb dX2_lifts_25 rfl hl (by decide) rfl (fun ls hl => ?_)
    refine lv_aload_n hx hb dX2_lifts_26 rfl (lv_at hl 0 rfl) ?_
    refine fw_alen (v := iI ((30 : Nat) : Int)) hx hb hK hP WC_2 3 rfl rfl dX2_lifts_27 ?_
    refine lv_istore (lv' := [(4, .int (iI ((30 : Nat) : Int))), (3, .ref (ad 2 (0))), (2, .int (iI ((0 : Nat) : Int))), (0, .ref (ad 0 (0))), (1, .int (iI (t)))]) hx hb dX2_lifts_28 hl (by decide) rfl (fun ls hl => ?_)
    refine lv_iconst (v := iI ((0 : Nat) : Int)) hx hb dX2_lifts_30 (by decide) ?_
    refine lv_istore (lv' := [(5, .int (iI ((0 : Nat) : Int))), (4, .int (iI ((30 : Nat) : Int))), (3, .ref (ad 2 (0))), (2, .int (iI ((0 : Nat) : Int))), (0, .ref (ad 0 (0))), (1, .int (iI (t)))]) hx hb dX2_lifts_31 hl (by decide) rfl (fun ls hl => ?_)
    have loop_33 : ∀ (dd i : Nat) (acc : Nat), 30 + 1 ≤ i + dd → i ≤ 30 → acc = sumN (fun k => lifS σ k (Int.toNat t)) i → ∀ (H : Heap) (locs : List Loc) (ls : Array Slot), fw_P D vwCl z ad (WC cA ad σ μ) H → va_S (fw_A z) s.heap H locs → lv_has ls 7 [(0, .ref (ad 0 (0))), (1, .int (iI (t))), (2, .int (iI ((acc : Nat) : Int))), (3, .ref (ad 2 (0))), (4, .int (iI ((30 : Nat) : Int))), (5, .int (iI ((i : Nat) : Int)))] → W pg l en (headSpec wsX2_lifts rm_X2_lifts).room s m args below meth cd H locs 0 0 Q (F0 m 33 ls []) := by
      intro dd
      induction dd with
      | zero => intro i acc hd_33 hi_33; omega
      | succ dd ih_33 =>
        intro i acc hd_33 hi_33 e_acc H locs ls hP hS hl
        subst e_acc
        refine lv_iload hx hb dX2_lifts_33 (lv_at hl 5 rfl) ?_
        refine lv_iload hx hb dX2_lifts_35 (lv_at hl 4 rfl) ?_
        refine fw_icmp_ge (x := ((i : Nat) : Int)) (y := ((30 : Nat) : Int)) (tgt := 66) hx hb dX2_lifts_37 (by decide) ⟨by omega, by omega⟩ ⟨by omega, by omega⟩ (fun c_5 => ?_) (fun c_5 => ?_)
        · refine lv_iload_n hx hb dX2_lifts_66 rfl (lv_at hl 2 rfl) ?_
          subst hQ
          refine vx_ret (W.widen (k := 1) (n := 6) (Nat.le_of_ble_eq_true rfl) (Nat.le_of_ble_eq_true rfl) ?_)
          exact fw_iret hx hb hr hlocks dX2_lifts_67 hP hS ⟨by omega, by rw [show i = 30 from by omega, lifAt_stk hI], rfl⟩
        · refine lv_aload_n hx hb dX2_lifts_40 rfl (lv_at hl 3 rfl) ?_
          refine lv_iload hx hb dX2_lifts_41 (lv_at hl 5 rfl) ?_
          refine fw_aldN (j := i) hx hb hK hP WC_2 3 rfl (by omega) (by decide) dX2_lifts_43 ?_
          refine fw_top (v' := .ref (ad 3 (i))) rfl ?_
          refine lv_astore (lv' := [(6, .ref (ad 3 (i))), (0, .ref (ad 0 (0))), (1, .int (iI (t))), (2, .int (iI ((sumN (fun k => lifS σ k (Int.toNat t)) i : Nat) : Int))), (3, .ref (ad 2 (0))), (4, .int (iI ((30 : Nat) : Int))), (5, .int (iI ((i : Nat) : Int)))]) hx hb dX2_lifts_44 hl (by decide) rfl (fun ls hl => ?_)
          refine lv_aload hx hb dX2_lifts_46 (lv_at hl 0 rfl) ?_
          refine lv_ifnull hx hb dX2_lifts_48 ?_
          refine lv_iload_n hx hb dX2_lifts_51 rfl (lv_at hl 3 rfl) ?_
          refine lv_aload hx hb dX2_lifts_52 (lv_at hl 0 rfl) ?_
          have hlS := lifS_le hI i (Int.toNat t)
          refine lv_iload_n hx hb dX2_lifts_54 rfl (lv_at hl 2 rfl) ?_
          refine fw_topI (b := ((Int.toNat t : Nat) : Int)) (by omega) ?_
          refine fw_cVi (As := [.int (iI ((Int.toNat t : Nat) : Int))]) (rest := [.int (iI ((sumN (fun k => lifS σ k (Int.toNat t)) i : Nat) : Int))]) ⟨hx, hb, hml, hown, hts⟩ (c_X1_liftsFor l D cA z ad σ μ i (Int.toNat t) hI (by omega) (by omega)) (cwV 1 hts gX2_lifts_X1_liftsFor rfl rfl rfl (by decide +kernel) ⟨Nat.le_of_ble_eq_true rfl, Nat.le_of_ble_eq_true rfl⟩) (WC_3 (by omega)) rfl rfl hl.1 (Nat.le_of_ble_eq_true rfl) dX2_lifts_55 ⟨Nat.le_of_ble_eq_true rfl, Nat.le_of_ble_eq_true rfl⟩ hK hP hS rfl (fun r w' H locs q_6 hP hS => ?_)
          obtain ⟨rfl, rfl⟩ := q_6
          have hh_7 := high_le hI i
          have hp_8 := hI.pl i
          refine fw_iaddN (a := sumN (fun k => lifS σ k (Int.toNat t)) i) (b := lifS σ i (Int.toNat t)) hx hb dX2_lifts_58 ?_
          refine lv_istore_n (lv' := [(2, .int (iI (((sumN (fun k => lifS σ k (Int.toNat t)) i) + (lifS σ i (Int.toNat t)) : Nat) : Int))), (6, .ref (ad 3 (i))), (0, .ref (ad 0 (0))), (1, .int (iI (t))), (3, .ref (ad 2 (0))), (4, .int (iI ((30 : Nat) : Int))), (5, .int (iI ((i : Nat) : Int)))]) hx hb dX2_lifts_59 rfl hl (by decide) rfl (fun ls hl => ?_)
          refine fw_iincN (x := i) (lv' := [(5, .int (iI ((i + 1 : Nat) : Int))), (2, .int (iI (((sumN (fun k => lifS σ k (Int.toNat t)) i) + (lifS σ i (Int.toNat t)) : Nat) : Int))), (6, .ref (ad 3 (i))), (0, .ref (ad 0 (0))), (1, .int (iI (t))), (3, .ref (ad 2 (0))), (4, .int (iI ((30 : Nat) : Int)))]) hx hb dX2_lifts_60 hl (k := 6) rfl (by decide) rfl (fun ls hl => ?_)
          refine lv_goto (tgt := 33) hx hb dX2_lifts_63 (by decide) ?_
          exact ih_33 (i + 1) _ (by omega) (by omega) (by rw [sumN]) H locs ls hP hS (lv_sub hl [3, 4, 1, 5, 6, 0] rfl)
    exact loop_33 (30 + 1) (0) _ (by omega) (by omega) (by rfl) H locs ls hP hS (lv_sub hl [4, 5, 3, 2, 1, 0] rfl)
  · replace c_2 := of_decide_eq_false c_2
    subst hQ
    refine fx_throw (cls := tx_IO) (text := "no such port") hx hb hl0 hown hE tx_68 (hts (.classLink RX2 68 tx_IO) (by decide +kernel)) (hts (.initialized tx_IO) (by decide +kernel)) (fun w hw => hts w ((by decide +kernel : ∀ w ∈ (vx_atS RX2 72 tx_IO tx_n).filter goodWord, w ∈ wsX2_lifts) w hw)) (by decide) dX2_lifts_9 dX2_lifts_12 dX2_lifts_13 dX2_lifts_15 dX2_lifts_18 hnx ⟨Nat.le_of_ble_eq_true rfl, Nat.le_of_ble_eq_true rfl, Nat.le_of_ble_eq_true rfl, Nat.le_of_ble_eq_true rfl⟩ hlocks (hl.1.trans hml.symm) hP hS ?_ (Nat.le_of_ble_eq_true rfl) (Nat.le_of_ble_eq_true rfl)
    exact ⟨rfl, by omega, rfl⟩
