theorem WC_n5 {cA : Nat → ClassId} {ad : fw_Ad} {σ : St} {μ : fw_W} {c : Nat} (h : σ 8 0 ≤ c) : WC cA ad σ μ 5 c = none := if_neg (by omega)
abbrev rm_X2_addContainer : Room := { frames := 6, cells := 1, slots := 8, locals := 82 }
abbrev po_X2_addContainer (cA : Nat → ClassId) (ad : fw_Ad) (σ : St) (μ : fw_W) (x p q y : Int) : Int32 → fw_W → Prop := fun r w' => ((1 ≤ x ∧ x ≤ 30) ∧ (0 ≤ p ∧ p ≤ 4) ∧ (p < q ∧ q ≤ 5) ∧ 0 ≤ y ∧ y ≤ 4) ∧ (((σ 8 4 : Nat) : Int) ≤ p ∧ σ 8 0 < 40) ∧ r = iI ((σ 8 0 : Nat) : Int) ∧ w' = WC cA ad (addS σ (Int.toNat x) (Int.toNat p) (Int.toNat q) (Int.toNat y)) μ
abbrev px_X2_addContainer (cA : Nat → ClassId) (ad : fw_Ad) (σ : St) (μ : fw_W) (x p q y : Int) : String → fw_W → Prop := fun E w' => ((E = tx_IA ∧ ¬ ((1 ≤ x ∧ x ≤ 30) ∧ (0 ≤ p ∧ p ≤ 4) ∧ (p < q ∧ q ≤ 5) ∧ 0 ≤ y ∧ y ≤ 4)) ∨ (E = tx_IS ∧ ((1 ≤ x ∧ x ≤ 30) ∧ (0 ≤ p ∧ p ≤ 4) ∧ (p < q ∧ q ≤ 5) ∧ 0 ≤ y ∧ y ≤ 4) ∧ ¬ (((σ 8 4 : Nat) : Int) ≤ p ∧ σ 8 0 < 40))) ∧ w' = WC cA ad σ μ
set_option maxHeartbeats 4000000 in
set_option maxRecDepth 100000 in
theorem c_X2_addContainer (l : Launch) (hl0 : l.stackTraces = false) (D : va_G) (cA : Nat → ClassId) (z : Nat) (ad : fw_Ad) (sa : Nat → Nat) (σ : St) (μ : fw_W) (x p q y : Int) (hI : Inv σ) (hx0 : -2147483648 ≤ x ∧ x ≤ 2147483647) (hp0 : -2147483648 ≤ p ∧ p ≤ 2147483647) (hq0 : -2147483648 ≤ q ∧ q ≤ 2147483647) (hy0 : -2147483648 ≤ y ∧ y ≤ 2147483647) : vx_Met l yX2_addContainer wsX2_addContainer rm_X2_addContainer (va_Pc [.ref (ad 0 (0)), .int (iI (x)), .int (iI (p)), .int (iI (q)), .int (iI (y))] (fs_Pre D vwCl (fw_T cA) z ad (WC cA ad σ μ) sa (ad 5 (σ 8 0)))) (fw_Qi D vwCl z ad (po_X2_addContainer cA ad σ μ x p q y)) (fx_X D vwCl z ad (px_X2_addContainer cA ad σ μ x p q y)) 1 8 (fw_A z) := by
  refine vx_ofW (cc := cX2_addContainer) (maxL := 6) (ret := (some .int)) (by decide) rfl ?_
  intro pg en s m args below meth cd s₁ B hml hnx hv
  obtain ⟨hargs, ⟨⟨hP, hK⟩, hE⟩, hH0⟩ := hv
  have hx := B.exec
  have hb := B.bytes
  have hr := B.returns
  have hts := atoms_spec (ws := wsX2_addContainer) B.pre
  have hown : s.vm.findClass RX2 = some m.cls := findClass_of_methodNamed B.named
  have hlocks := B.notSynchronized
  have hinX0 : ∀ w ∈ u_ws RX0 TX0 8, w ∈ wsX2_addContainer := by decide +kernel
  have hinX2 : ∀ w ∈ u_ws RX2 TX2 8, w ∈ wsX2_addContainer := by decide +kernel
  have hf25 := hts (.fieldLink RX2 25 "StowagePlan" "shipPort" "I") (by decide +kernel)
  have hf21 := hts (.fieldLink RX2 21 "StowagePlan" "boxCount" "I") (by decide +kernel)
  have hf11 := hts (.fieldLink RX2 11 "StowagePlan" "boxes" "[LStowagePlan$Box;") (by decide +kernel)
  have hl := lv_entry ([.ref (ad 0 (0)), .int (iI (x)), .int (iI (p)), .int (iI (q)), .int (iI (y))]) (n := 6) (Nat.le_of_ble_eq_true rfl)
  have hent : entryFrame m args 6 = entryFrame m ([.ref (ad 0 (0)), .int (iI (x)), .int (iI (p)), .int (iI (q)), .int (iI (y))] : List Value).toArray 6 := by rw [hargs]
  rw [hent, lg_entry_eq]
  generalize (lg_sl ([.ref (ad 0 (0)), .int (iI (x)), .int (iI (p)), .int (iI (q)), .int (iI (y))]) ++ List.replicate (6 - (lg_sl ([.ref (ad 0 (0)), .int (iI (x)), .int (iI (p)), .int (iI (q)), .int (iI (y))])).length) Slot.unset).toArray = ls at hl ⊢
  have hl : lv_has ls 6 [(0, .ref (ad 0 (0))), (1, .int (iI (x))), (2, .int (iI (p))), (3, .int (iI (q))), (4, .int (iI (y)))] := hl
  generalize hQ : vx_MQ below (fw_Qi D vwCl z ad (po_X2_addContainer cA ad σ μ x p q y)) (fx_X D vwCl z ad (px_X2_addContainer cA ad σ μ x p q y)) args s 1 8 (fw_A z) = Q
  generalize hH : s.heap = H at hP ⊢
  have hS : va_S (fw_A z) s.heap H [] := by rw [← hH]; exact va_S.rf
  generalize ([] : List Loc) = locs at hS ⊢
  refine lv_iload_n hx hb dX2_addContainer_0 rfl (lv_at hl 1 rfl) ?_
  refine lv_iconst (v := iI ((1 : Nat) : Int)) hx hb dX2_addContainer_1 (by decide) ?_
  refine lv_bipush (v := iI ((30 : Nat) : Int)) hx hb dX2_addContainer_2 (by decide) ?_
  refine fw_cSi (As := [.int (iI (x)), .int (iI ((1 : Nat) : Int)), .int (iI ((30 : Nat) : Int))]) (rest := []) ⟨hx, hb, hml, hown, hts⟩ (c_X2_isWithin l D cA z ad (WC cA ad σ μ) (x) ((1 : Nat) : Int) ((30 : Nat) : Int) ⟨by omega, by omega⟩ ⟨by omega, by omega⟩ ⟨by omega, by omega⟩) (va_cwS 3 hts gX2_addContainer_X2_isWithin rfl rfl rfl (by decide +kernel) ⟨Nat.le_of_ble_eq_true rfl, Nat.le_of_ble_eq_true rfl⟩) rfl hl.1 (Nat.le_of_ble_eq_true rfl) dX2_addContainer_4 ⟨Nat.le_of_ble_eq_true rfl, Nat.le_of_ble_eq_true rfl⟩ hK hP hS rfl (fun r w' H locs q_1 hP hS => ?_)
  obtain ⟨rfl, rfl⟩ := q_1
  refine fw_if_eqB (x := decide (((1 : Nat) : Int) ≤ (x) ∧ (x) ≤ ((30 : Nat) : Int))) (tgt := 39) hx hb dX2_addContainer_7 (by decide) (fun c_2 => ?_) (fun c_2 => ?_)
  · replace c_2 := of_decide_eq_false c_2
    subst hQ
    refine fx_throw (cls := tx_IA) (text := "no container is like this") hx hb hl0 hown hE tx_47 (hts (.classLink RX2 47 tx_IA) (by decide +kernel)) (hts (.initialized tx_IA) (by decide +kernel)) (fun w hw => hts w ((by decide +kernel : ∀ w ∈ (vx_atS RX2 51 tx_IA tx_n).filter goodWord, w ∈ wsX2_addContainer) w hw)) (by decide) dX2_addContainer_39 dX2_addContainer_42 dX2_addContainer_43 dX2_addContainer_45 dX2_addContainer_48 hnx ⟨Nat.le_of_ble_eq_true rfl, Nat.le_of_ble_eq_true rfl, Nat.le_of_ble_eq_true rfl, Nat.le_of_ble_eq_true rfl⟩ hlocks (hl.1.trans hml.symm) hP hS ?_ (Nat.le_of_ble_eq_true rfl) (Nat.le_of_ble_eq_true rfl)
    exact ⟨Or.inl ⟨rfl, by omega⟩, rfl⟩
  · replace c_2 := of_decide_eq_true c_2
    refine lv_iload_n hx hb dX2_addContainer_10 rfl (lv_at hl 2 rfl) ?_
    refine lv_iconst (v := iI ((0 : Nat) : Int)) hx hb dX2_addContainer_11 (by decide) ?_
    refine lv_iconst (v := iI ((4 : Nat) : Int)) hx hb dX2_addContainer_12 (by decide) ?_
    refine fw_cSi (As := [.int (iI (p)), .int (iI ((0 : Nat) : Int)), .int (iI ((4 : Nat) : Int))]) (rest := []) ⟨hx, hb, hml, hown, hts⟩ (c_X2_isWithin l D cA z ad (WC cA ad σ μ) (p) ((0 : Nat) : Int) ((4 : Nat) : Int) ⟨by omega, by omega⟩ ⟨by omega, by omega⟩ ⟨by omega, by omega⟩) (va_cwS 3 hts gX2_addContainer_X2_isWithin rfl rfl rfl (by decide +kernel) ⟨Nat.le_of_ble_eq_true rfl, Nat.le_of_ble_eq_true rfl⟩) rfl hl.1 (Nat.le_of_ble_eq_true rfl) dX2_addContainer_13 ⟨Nat.le_of_ble_eq_true rfl, Nat.le_of_ble_eq_true rfl⟩ hK hP hS rfl (fun r w' H locs q_3 hP hS => ?_)
    obtain ⟨rfl, rfl⟩ := q_3
    refine fw_if_eqB (x := decide (((0 : Nat) : Int) ≤ (p) ∧ (p) ≤ ((4 : Nat) : Int))) (tgt := 39) hx hb dX2_addContainer_16 (by decide) (fun c_4 => ?_) (fun c_4 => ?_)
    · replace c_4 := of_decide_eq_false c_4
      subst hQ
      refine fx_throw (cls := tx_IA) (text := "no container is like this") hx hb hl0 hown hE tx_47 (hts (.classLink RX2 47 tx_IA) (by decide +kernel)) (hts (.initialized tx_IA) (by decide +kernel)) (fun w hw => hts w ((by decide +kernel : ∀ w ∈ (vx_atS RX2 51 tx_IA tx_n).filter goodWord, w ∈ wsX2_addContainer) w hw)) (by decide) dX2_addContainer_39 dX2_addContainer_42 dX2_addContainer_43 dX2_addContainer_45 dX2_addContainer_48 hnx ⟨Nat.le_of_ble_eq_true rfl, Nat.le_of_ble_eq_true rfl, Nat.le_of_ble_eq_true rfl, Nat.le_of_ble_eq_true rfl⟩ hlocks (hl.1.trans hml.symm) hP hS ?_ (Nat.le_of_ble_eq_true rfl) (Nat.le_of_ble_eq_true rfl)
      exact ⟨Or.inl ⟨rfl, by omega⟩, rfl⟩
    · replace c_4 := of_decide_eq_true c_4
      refine lv_iload_n hx hb dX2_addContainer_19 rfl (lv_at hl 3 rfl) ?_
      refine lv_iload_n hx hb dX2_addContainer_20 rfl (lv_at hl 2 rfl) ?_
      refine fw_icmp_le (x := (q)) (y := (p)) (tgt := 39) hx hb dX2_addContainer_21 (by decide) ⟨by omega, by omega⟩ ⟨by omega, by omega⟩ (fun c_5 => ?_) (fun c_5 => ?_)
      · subst hQ
        refine fx_throw (cls := tx_IA) (text := "no container is like this") hx hb hl0 hown hE tx_47 (hts (.classLink RX2 47 tx_IA) (by decide +kernel)) (hts (.initialized tx_IA) (by decide +kernel)) (fun w hw => hts w ((by decide +kernel : ∀ w ∈ (vx_atS RX2 51 tx_IA tx_n).filter goodWord, w ∈ wsX2_addContainer) w hw)) (by decide) dX2_addContainer_39 dX2_addContainer_42 dX2_addContainer_43 dX2_addContainer_45 dX2_addContainer_48 hnx ⟨Nat.le_of_ble_eq_true rfl, Nat.le_of_ble_eq_true rfl, Nat.le_of_ble_eq_true rfl, Nat.le_of_ble_eq_true rfl⟩ hlocks (hl.1.trans hml.symm) hP hS ?_ (Nat.le_of_ble_eq_true rfl) (Nat.le_of_ble_eq_true rfl)
        exact ⟨Or.inl ⟨rfl, by omega⟩, rfl⟩
      · refine lv_iload_n hx hb dX2_addContainer_24 rfl (lv_at hl 3 rfl) ?_
        refine lv_iconst (v := iI ((5 : Nat) : Int)) hx hb dX2_addContainer_25 (by decide) ?_
        refine fw_icmp_gt (x := (q)) (y := ((5 : Nat) : Int)) (tgt := 39) hx hb dX2_addContainer_26 (by decide) ⟨by omega, by omega⟩ ⟨by omega, by omega⟩ (fun c_6 => ?_) (fun c_6 => ?_)
        · subst hQ
          refine fx_throw (cls := tx_IA) (text := "no container is like this") hx hb hl0 hown hE tx_47 (hts (.classLink RX2 47 tx_IA) (by decide +kernel)) (hts (.initialized tx_IA) (by decide +kernel)) (fun w hw => hts w ((by decide +kernel : ∀ w ∈ (vx_atS RX2 51 tx_IA tx_n).filter goodWord, w ∈ wsX2_addContainer) w hw)) (by decide) dX2_addContainer_39 dX2_addContainer_42 dX2_addContainer_43 dX2_addContainer_45 dX2_addContainer_48 hnx ⟨Nat.le_of_ble_eq_true rfl, Nat.le_of_ble_eq_true rfl, Nat.le_of_ble_eq_true rfl, Nat.le_of_ble_eq_true rfl⟩ hlocks (hl.1.trans hml.symm) hP hS ?_ (Nat.le_of_ble_eq_true rfl) (Nat.le_of_ble_eq_true rfl)
          exact ⟨Or.inl ⟨rfl, by omega⟩, rfl⟩
        · refine lv_iload hx hb dX2_addContainer_29 (lv_at hl 4 rfl) ?_
          refine lv_iconst (v := iI ((0 : Nat) : Int)) hx hb dX2_addContainer_31 (by decide) ?_
          refine lv_iconst (v := iI ((4 : Nat) : Int)) hx hb dX2_addContainer_32 (by decide) ?_
          refine fw_cSi (As := [.int (iI (y)), .int (iI ((0 : Nat) : Int)), .int (iI ((4 : Nat) : Int))]) (rest := []) ⟨hx, hb, hml, hown, hts⟩ (c_X2_isWithin l D cA z ad (WC cA ad σ μ) (y) ((0 : Nat) : Int) ((4 : Nat) : Int) ⟨by omega, by omega⟩ ⟨by omega, by omega⟩ ⟨by omega, by omega⟩) (va_cwS 3 hts gX2_addContainer_X2_isWithin rfl rfl rfl (by decide +kernel) ⟨Nat.le_of_ble_eq_true rfl, Nat.le_of_ble_eq_true rfl⟩) rfl hl.1 (Nat.le_of_ble_eq_true rfl) dX2_addContainer_33 ⟨Nat.le_of_ble_eq_true rfl, Nat.le_of_ble_eq_true rfl⟩ hK hP hS rfl (fun r w' H locs q_7 hP hS => ?_)
          obtain ⟨rfl, rfl⟩ := q_7
          refine fw_if_neB (x := decide (((0 : Nat) : Int) ≤ (y) ∧ (y) ≤ ((4 : Nat) : Int))) (tgt := 49) hx hb dX2_addContainer_36 (by decide) (fun c_8 => ?_) (fun c_8 => ?_)
          · replace c_8 := of_decide_eq_true c_8
            refine lv_iload_n hx hb dX2_addContainer_49 rfl (lv_at hl 2 rfl) ?_
            refine lv_aload_n hx hb dX2_addContainer_50 rfl (lv_at hl 0 rfl) ?_
            refine fw_get (ci := 2) (v := .int (iI ((σ 8 4 : Nat) : Int))) (C := RX2) (T := TX2) (N := 8) hx hb hts hinX2 hown hK hP WC_0 rfl 3 (by decide) hf25 (fun _ h9 => h9) rfl dX2_addContainer_51 ?_
            have hn_9 := hI.n
            have hm_10 := hI.lim
            refine fw_icmp_ge (x := (p)) (y := ((σ 8 4 : Nat) : Int)) (tgt := 67) hx hb dX2_addContainer_54 (by decide) ⟨by omega, by omega⟩ ⟨by omega, by omega⟩ (fun c_11 => ?_) (fun c_11 => ?_)
            · refine lv_aload_n hx hb dX2_addContainer_67 rfl (lv_at hl 0 rfl) ?_
              refine fw_get (ci := 2) (v := .int (iI ((σ 8 0 : Nat) : Int))) (C := RX2) (T := TX2) (N := 8) hx hb hts hinX2 hown hK hP WC_0 rfl 2 (by decide) hf21 (fun _ h9 => h9) rfl dX2_addContainer_68 ?_
              refine fw_if_lt (x := ((σ 8 0 : Nat) : Int)) (tgt := 86) hx hb dX2_addContainer_71 (by decide) ⟨by omega, by omega⟩ (fun c_12 => ?_) (fun c_12 => ?_)
              · exfalso; omega
              · refine lv_aload_n hx hb dX2_addContainer_74 rfl (lv_at hl 0 rfl) ?_
                refine fw_get (ci := 2) (v := .int (iI ((σ 8 0 : Nat) : Int))) (C := RX2) (T := TX2) (N := 8) hx hb hts hinX2 hown hK hP WC_0 rfl 2 (by decide) hf21 (fun _ h9 => h9) rfl dX2_addContainer_75 ?_
                refine lv_aload_n hx hb dX2_addContainer_78 rfl (lv_at hl 0 rfl) ?_
                refine fw_get (ci := 2) (v := .ref (ad 1 (0))) (C := RX2) (T := TX2) (N := 8) hx hb hts hinX2 hown hK hP WC_0 rfl 0 (by decide) hf11 (fun _ h9 => h9) rfl dX2_addContainer_79 ?_
                refine fw_alen (v := iI ((40 : Nat) : Int)) hx hb hK hP WC_1 2 rfl rfl dX2_addContainer_82 ?_
                refine fw_icmp_lt (x := ((σ 8 0 : Nat) : Int)) (y := ((40 : Nat) : Int)) (tgt := 96) hx hb dX2_addContainer_83 (by decide) ⟨by omega, by omega⟩ ⟨by omega, by omega⟩ (fun c_13 => ?_) (fun c_13 => ?_)
                · refine lv_aload_n hx hb dX2_addContainer_96 rfl (lv_at hl 0 rfl) ?_
                  refine fw_get (ci := 2) (v := .int (iI ((σ 8 0 : Nat) : Int))) (C := RX2) (T := TX2) (N := 8) hx hb hts hinX2 hown hK hP WC_0 rfl 2 (by decide) hf21 (fun _ h9 => h9) rfl dX2_addContainer_97 ?_
                  refine lv_istore (lv' := [(5, .int (iI ((σ 8 0 : Nat) : Int))), (0, .ref (ad 0 (0))), (1, .int (iI (x))), (2, .int (iI (p))), (3, .int (iI (q))), (4, .int (iI (y)))]) hx hb dX2_addContainer_100 hl (by decide) rfl (fun ls hl => ?_)
                  refine lv_aload_n hx hb dX2_addContainer_102 rfl (lv_at hl 1 rfl) ?_
                  refine fw_get (ci := 2) (v := .ref (ad 1 (0))) (C := RX2) (T := TX2) (N := 8) hx hb hts hinX2 hown hK hP WC_0 rfl 0 (by decide) hf11 (fun _ h9 => h9) rfl dX2_addContainer_103 ?_
                  refine lv_iload hx hb dX2_addContainer_106 (lv_at hl 0 rfl) ?_
                  refine W.sized (fun hsz => ?_)
                  have hs1 := hS.1
                  have hlt_14 := fw_lt (a := 0) (i := 0) hP WC_0
                  have hzz := (hP.1 0 (0) _ WC_0).2
                  refine fw_new (a := 5) (i := σ 8 0) (ci := 0) (fs := [.int (iI ((0 : Nat) : Int)), .int (iI ((0 : Nat) : Int)), .int (iI ((0 : Nat) : Int)), .int (iI ((0 : Nat) : Int)), .int (iI ((0 : Nat) : Int)), .int (iI ((0 : Nat) : Int)), .null, .int (iI ((0 : Nat) : Int))]) (C := RX0) (T := TX0) (N := 8) hx hb hts hinX0 tyX0 tyX0_ok hown (hts (.classLink RX2 9 RX0) (by decide +kernel)) (hts (.instantiable RX0 8) (by decide +kernel)) (hts (.initialized RX0) (by decide +kernel)) hK hP hS (by omega) rfl (fun j hj => by rcases (show j = 0 ∨ j = 1 ∨ j = 2 ∨ j = 3 ∨ j = 4 ∨ j = 5 ∨ j = 6 ∨ j = 7 by omega) with rfl | rfl | rfl | rfl | rfl | rfl | rfl | rfl <;> rfl) (WC_n5 (Nat.le_refl _)) (by omega) (Nat.le_of_ble_eq_true rfl) (Nat.le_of_ble_eq_true rfl) dX2_addContainer_108 (fun H hP hS hsz2 => ?_)
                  obtain ⟨w_15, h_w_15⟩ : ∃ w9, w9 = fw_up (WC cA ad σ μ) 5 (σ 8 0) (.inr (0, [.int (iI ((0 : Nat) : Int)), .int (iI ((0 : Nat) : Int)), .int (iI ((0 : Nat) : Int)), .int (iI ((0 : Nat) : Int)), .int (iI ((0 : Nat) : Int)), .int (iI ((0 : Nat) : Int)), .null, .int (iI ((0 : Nat) : Int))])) := ⟨_, rfl⟩
                  have hP : fw_P D vwCl z ad w_15 H := by rw [h_w_15]; exact hP
                  refine lv_dup hx hb dX2_addContainer_111 rfl ?_
                  refine lv_iload hx hb dX2_addContainer_112 (lv_at hl 0 rfl) ?_
                  refine lv_iload_n hx hb dX2_addContainer_114 rfl (lv_at hl 2 rfl) ?_
                  refine lv_iload_n hx hb dX2_addContainer_115 rfl (lv_at hl 3 rfl) ?_
                  refine lv_iload_n hx hb dX2_addContainer_116 rfl (lv_at hl 4 rfl) ?_
                  refine lv_iload hx hb dX2_addContainer_117 (lv_at hl 5 rfl) ?_
                  refine fw_cIv (As := [.int (iI ((σ 8 0 : Nat) : Int)), .int (iI (x)), .int (iI (p)), .int (iI (q)), .int (iI (y))]) (rest := [.ref (ad 5 (σ 8 0)), .int (iI ((σ 8 0 : Nat) : Int)), .ref (ad 1 (0))]) ⟨hx, hb, hml, hown, hts⟩ (c_X0_init l D cA z ad (w_15) (σ 8 0) (σ 8 0) ((x)) ((p)) ((q)) ((y)) (.int (iI ((0 : Nat) : Int))) (.int (iI ((0 : Nat) : Int))) (.int (iI ((0 : Nat) : Int))) (.int (iI ((0 : Nat) : Int))) (.int (iI ((0 : Nat) : Int))) (.int (iI ((0 : Nat) : Int))) (.null) (.int (iI ((0 : Nat) : Int))) (by rw [h_w_15]; exact fw_up_same _ _ _ _)) (cwI 5 hts gX2_addContainer_X0_init rfl rfl rfl (hts (.initialized RX0) (by decide +kernel)) (hts (.methodLink RX2 61 yX0_init) (by decide +kernel)) (hts (.instanceMethod yX0_init) (by decide +kernel)) rfl (by decide +kernel) ⟨Nat.le_of_ble_eq_true rfl, Nat.le_of_ble_eq_true rfl⟩) rfl hl.1 (Nat.le_of_ble_eq_true rfl) dX2_addContainer_119 ⟨Nat.le_of_ble_eq_true rfl, Nat.le_of_ble_eq_true rfl⟩ hK hP hS rfl (fun w' H locs q_16 hP hS => ?_)
                  subst q_16
                  refine fw_astN (ci := 0) (r := (RX0, TX0, 8)) (f := fun j => if j < σ 8 0 then some (ad 5 j) else none) hx hb hK hP hS ((fw_up_k (by decide)).trans (by rw [h_w_15]; exact (fw_up_k (by decide)).trans WC_1)) 2 rfl (fw_up_same _ _ _ _) rfl (by omega) (by decide) dX2_addContainer_122 (fun H locs hP hS => ?_)
                  obtain ⟨w_17, h_w_17⟩ : ∃ w9, w9 = fw_up (fw_up w_15 5 (σ 8 0) (.inr (0, [.int (iI ((σ 8 0 : Nat) : Int)), .int (iI x), .int (iI p), .int (iI q), .int (iI y), .int (iI 0), .null, .int (iI 0)]))) 1 (0) (.inl (cA 2, 40, .inr (.inr (.inr (.inr (va_up (fun j => if j < σ 8 0 then some (ad 5 j) else none) (σ 8 0) (some (ad 5 (σ 8 0))))))))) := ⟨_, rfl⟩
                  have hP : fw_P D vwCl z ad w_17 H := by rw [h_w_17]; exact hP
                  refine lv_aload_n hx hb dX2_addContainer_123 rfl (lv_at hl 1 rfl) ?_
                  refine lv_iload hx hb dX2_addContainer_124 (lv_at hl 0 rfl) ?_
                  refine lv_iconst (v := iI ((1 : Nat) : Int)) hx hb dX2_addContainer_126 (by decide) ?_
                  refine fw_iaddN (a := σ 8 0) (b := 1) hx hb dX2_addContainer_127 ?_
                  refine fw_put (ci := 2) (v := .int (iI (((σ 8 0) + 1 : Nat) : Int))) (ty := .int) (C := RX2) (T := TX2) (N := 8) hx hb hts hinX2 tyX2 tyX2_ok nmX2 hown hK hP hS (by rw [h_w_17]; exact (fw_up_k (by decide)).trans ((fw_up_k (by decide)).trans (by rw [h_w_15]; exact (fw_up_k (by decide)).trans WC_0))) rfl 2 (by decide) hf21 (fun _ h9 => h9) rfl (by decide +kernel) rfl rfl (Nat.le_of_ble_eq_true rfl) dX2_addContainer_128 (fun H locs hP hS => ?_)
                  obtain ⟨w_18, h_w_18⟩ : ∃ w9, w9 = fw_up (w_17) 0 (0) (.inr (2, [.ref (ad 1 (0)), .ref (ad 2 (0)), .int (iI (((σ 8 0) + 1 : Nat) : Int)), .int (iI ((σ 8 4 : Nat) : Int)), .int (iI ((σ 8 1 : Nat) : Int)), .int (iI ((σ 8 2 : Nat) : Int)), .int (iI ((σ 8 3 : Nat) : Int)), .int (iI ((σ 8 5 : Nat) : Int))])) := ⟨_, rfl⟩
                  have hP : fw_P D vwCl z ad w_18 H := by rw [h_w_18]; exact hP
                  refine lv_iload hx hb dX2_addContainer_131 (lv_at hl 0 rfl) ?_
                  rw [h_w_18, h_w_17, h_w_15] at hP
                  obtain ⟨x9, hx9⟩ : ∃ t : Nat, x = (t : Int) := ⟨Int.toNat x, by omega⟩
                  obtain ⟨p9, hp9⟩ : ∃ t : Nat, p = (t : Int) := ⟨Int.toNat p, by omega⟩
                  obtain ⟨q9, hq9⟩ : ∃ t : Nat, q = (t : Int) := ⟨Int.toNat q, by omega⟩
                  obtain ⟨y9, hy9⟩ : ∃ t : Nat, y = (t : Int) := ⟨Int.toNat y, by omega⟩
                  subst hx9
                  subst hp9
                  subst hq9
                  subst hy9
                  have hP := wC_add hI hP
                  subst hQ
                  refine vx_ret (W.widen (k := 1) (n := 8) (Nat.le_of_ble_eq_true rfl) (Nat.le_of_ble_eq_true rfl) ?_)
                  exact fw_iret hx hb hr hlocks dX2_addContainer_133 hP hS ⟨by omega, by omega, rfl, rfl⟩
                · subst hQ
                  refine fx_throw (cls := tx_IS) (text := "there are 40 containers") hx hb hl0 hown hE tx_54 (hts (.classLink RX2 54 tx_IS) (by decide +kernel)) (hts (.initialized tx_IS) (by decide +kernel)) (fun w hw => hts w ((by decide +kernel : ∀ w ∈ (vx_atS RX2 58 tx_IS tx_n).filter goodWord, w ∈ wsX2_addContainer) w hw)) (by decide) dX2_addContainer_86 dX2_addContainer_89 dX2_addContainer_90 dX2_addContainer_92 dX2_addContainer_95 hnx ⟨Nat.le_of_ble_eq_true rfl, Nat.le_of_ble_eq_true rfl, Nat.le_of_ble_eq_true rfl, Nat.le_of_ble_eq_true rfl⟩ hlocks (hl.1.trans hml.symm) hP hS ?_ (Nat.le_of_ble_eq_true rfl) (Nat.le_of_ble_eq_true rfl)
                  exact ⟨Or.inr ⟨rfl, by omega, by omega⟩, rfl⟩
            · subst hQ
              refine fx_throw (cls := tx_IS) (text := "the ship has left this port") hx hb hl0 hown hE tx_54 (hts (.classLink RX2 54 tx_IS) (by decide +kernel)) (hts (.initialized tx_IS) (by decide +kernel)) (fun w hw => hts w ((by decide +kernel : ∀ w ∈ (vx_atS RX2 58 tx_IS tx_n).filter goodWord, w ∈ wsX2_addContainer) w hw)) (by decide) dX2_addContainer_57 dX2_addContainer_60 dX2_addContainer_61 dX2_addContainer_63 dX2_addContainer_66 hnx ⟨Nat.le_of_ble_eq_true rfl, Nat.le_of_ble_eq_true rfl, Nat.le_of_ble_eq_true rfl, Nat.le_of_ble_eq_true rfl⟩ hlocks (hl.1.trans hml.symm) hP hS ?_ (Nat.le_of_ble_eq_true rfl) (Nat.le_of_ble_eq_true rfl)
              exact ⟨Or.inr ⟨rfl, by omega, by omega⟩, rfl⟩
          · replace c_8 := of_decide_eq_false c_8
            subst hQ
            refine fx_throw (cls := tx_IA) (text := "no container is like this") hx hb hl0 hown hE tx_47 (hts (.classLink RX2 47 tx_IA) (by decide +kernel)) (hts (.initialized tx_IA) (by decide +kernel)) (fun w hw => hts w ((by decide +kernel : ∀ w ∈ (vx_atS RX2 51 tx_IA tx_n).filter goodWord, w ∈ wsX2_addContainer) w hw)) (by decide) dX2_addContainer_39 dX2_addContainer_42 dX2_addContainer_43 dX2_addContainer_45 dX2_addContainer_48 hnx ⟨Nat.le_of_ble_eq_true rfl, Nat.le_of_ble_eq_true rfl, Nat.le_of_ble_eq_true rfl, Nat.le_of_ble_eq_true rfl⟩ hlocks (hl.1.trans hml.symm) hP hS ?_ (Nat.le_of_ble_eq_true rfl) (Nat.le_of_ble_eq_true rfl)
            exact ⟨Or.inl ⟨rfl, by omega⟩, rfl⟩
