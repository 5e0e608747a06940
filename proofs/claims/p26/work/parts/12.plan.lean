abbrev rm_X2_port : Room := { frames := 0, cells := 0, slots := 0, locals := 0 }
abbrev po_X2_port (cA : Nat → ClassId) (ad : fw_Ad) (σ : St) (μ : fw_W) : Int32 → fw_W → Prop := fun r w' => r = iI ((σ 8 4 : Nat) : Int) ∧ w' = WC cA ad σ μ
set_option maxHeartbeats 4000000 in
set_option maxRecDepth 100000 in
theorem c_X2_port (l : Launch) (D : va_G) (cA : Nat → ClassId) (z : Nat) (ad : fw_Ad) (σ : St) (μ : fw_W) (hI : Inv σ) : Met l yX2_port wsX2_port rm_X2_port (va_Pc [.ref (ad 0 (0))] (fw_Pre D vwCl (fw_T cA) z ad (WC cA ad σ μ))) (fw_Qi D vwCl z ad (po_X2_port cA ad σ μ)) 0 0 (fw_A z) := by
  refine Met.ofW (cc := cX2_port) (maxL := 1) (ret := (some .int)) (by decide) rfl ?_
  intro pg en s m args below meth cd s₁ B hml hv
  obtain ⟨hargs, hP, hK⟩ := hv
  have hx := B.exec
  have hb := B.bytes
  have hr := B.returns
  have hts := atoms_spec (ws := wsX2_port) B.pre
  have hown : s.vm.findClass RX2 = some m.cls := findClass_of_methodNamed B.named
  have hlocks := B.notSynchronized
  have hinX2 : ∀ w ∈ u_ws RX2 TX2 8, w ∈ wsX2_port := by decide +kernel
  have hf25 := hts (.fieldLink RX2 25 "StowagePlan" "shipPort" "I") (by decide +kernel)
  have hl := lv_entry ([.ref (ad 0 (0))]) (n := 1) (Nat.le_of_ble_eq_true rfl)
  have hent : entryFrame m args 1 = entryFrame m ([.ref (ad 0 (0))] : List Value).toArray 1 := by rw [hargs]
  rw [hent, lg_entry_eq]
  generalize (lg_sl ([.ref (ad 0 (0))]) ++ List.replicate (1 - (lg_sl ([.ref (ad 0 (0))])).length) Slot.unset).toArray = ls at hl ⊢
  have hl : lv_has ls 1 [(0, .ref (ad 0 (0)))] := hl
  generalize hQ : MQ below (fw_Qi D vwCl z ad (po_X2_port cA ad σ μ)) args s 0 0 (fw_A z) = Q
  generalize hH : s.heap = H at hP ⊢
  have hS : va_S (fw_A z) s.heap H [] := by rw [← hH]; exact va_S.rf
  generalize ([] : List Loc) = locs at hS ⊢
  refine lv_aload_n hx hb dX2_port_0 rfl (lv_at hl 0 rfl) ?_
  refine fw_get (ci := 2) (v := .int (iI ((σ 8 4 : Nat) : Int))) (C := RX2) (T := TX2) (N := 8) hx hb hts hinX2 hown hK hP WC_0 rfl 3 (by decide) hf25 (fun _ h9 => h9) rfl dX2_port_1 ?_
  have hn_1 := hI.n
  have hm_2 := hI.lim
  subst hQ
  exact fw_iret hx hb hr hlocks dX2_port_4 hP hS ⟨rfl, rfl⟩

abbrev rm_X2_count : Room := { frames := 2, cells := 0, slots := 0, locals := 41 }
abbrev po_X2_count (cA : Nat → ClassId) (ad : fw_Ad) (σ : St) (μ : fw_W) (b : Bool) : Int32 → fw_W → Prop := fun r w' => r = iI ((cnt σ b : Nat) : Int) ∧ w' = WC cA ad σ μ
set_option maxHeartbeats 4000000 in
set_option maxRecDepth 100000 in
theorem c_X2_count (l : Launch) (D : va_G) (cA : Nat → ClassId) (z : Nat) (ad : fw_Ad) (σ : St) (μ : fw_W) (b : Bool) (hI : Inv σ) : Met l yX2_count wsX2_count rm_X2_count (va_Pc [.ref (ad 0 (0)), .int (iI (bI (b)))] (fw_Pre D vwCl (fw_T cA) z ad (WC cA ad σ μ))) (fw_Qi D vwCl z ad (po_X2_count cA ad σ μ b)) 0 0 (fw_A z) := by
  refine Met.ofW (cc := cX2_count) (maxL := 7) (ret := (some .int)) (by decide) rfl ?_
  intro pg en s m args below meth cd s₁ B hml hv
  obtain ⟨hargs, hP, hK⟩ := hv
  have hx := B.exec
  have hb := B.bytes
  have hr := B.returns
  have hts := atoms_spec (ws := wsX2_count) B.pre
  have hown : s.vm.findClass RX2 = some m.cls := findClass_of_methodNamed B.named
  have hlocks := B.notSynchronized
  have hinX0 : ∀ w ∈ u_ws RX0 TX0 8, w ∈ wsX2_count := by decide +kernel
  have hinX2 : ∀ w ∈ u_ws RX2 TX2 8, w ∈ wsX2_count := by decide +kernel
  have hf11 := hts (.fieldLink RX2 11 "StowagePlan" "boxes" "[LStowagePlan$Box;") (by decide +kernel)
  have hf165 := hts (.fieldLink RX2 165 "StowagePlan$Box" "stack" "LStowagePlan$Stack;") (by decide +kernel)
  have hf25 := hts (.fieldLink RX2 25 "StowagePlan" "shipPort" "I") (by decide +kernel)
  have hl := lv_entry ([.ref (ad 0 (0)), .int (iI (bI (b)))]) (n := 7) (Nat.le_of_ble_eq_true rfl)
  have hent : entryFrame m args 7 = entryFrame m ([.ref (ad 0 (0)), .int (iI (bI (b)))] : List Value).toArray 7 := by rw [hargs]
  rw [hent, lg_entry_eq]
  generalize (lg_sl ([.ref (ad 0 (0)), .int (iI (bI (b)))]) ++ List.replicate (7 - (lg_sl ([.ref (ad 0 (0)), .int (iI (bI (b)))])).length) Slot.unset).toArray = ls at hl ⊢
  have hl : lv_has ls 7 [(0, .ref (ad 0 (0))), (1, .int (iI (bI (b))))] := hl
  generalize hQ : MQ below (fw_Qi D vwCl z ad (po_X2_count cA ad σ μ b)) args s 0 0 (fw_A z) = Q
  generalize hH : s.heap = H at hP ⊢
  have hS : va_S (fw_A z) s.heap H [] := by rw [← hH]; exact va_S.rf
  generalize ([] : List Loc) = locs at hS ⊢
  refine lv_iconst (v := iI ((0 : Nat) : Int)) hx hb dX2_count_0 (by decide) ?_
  refine lv_istore_n (lv' := [(2, .int (iI ((0 : Nat) : Int))), (0, .ref (ad 0 (0))), (1, .int (iI (bI (b))))]) hx hb dX2_count_1 rfl hl (by decide) rfl (fun ls hl => ?_)
  refine lv_aload_n hx hb dX2_count_2 rfl (lv_at hl 1 rfl) ?_
  refine fw_get (ci := 2) (v := .ref (ad 1 (0))) (C := RX2) (T := TX2) (N := 8) hx hb hts hinX2 hown hK hP WC_0 rfl 0 (by decide) hf11 (fun _ h9 => h9) rfl dX2_count_3 ?_
  have hn_1 := hI.n
  have hm_2 := hI.lim
  refine lv_astore_n (lv' := [(3, .ref (ad 1 (0))), (2, .int (iI ((0 : Nat) : Int))), (0, .ref (ad 0 (0))), (1, .int (iI (bI (b))))]) hx hb dX2_count_6 rfl hl (by decide) rfl (fun ls hl => ?_)
  refine lv_aload_n hx hb dX2_count_7 rfl (lv_at hl 0 rfl) ?_
  refine fw_alen (v := iI ((40 : Nat) : Int)) hx hb hK hP WC_1 2 rfl rfl dX2_count_8 ?_
  refine lv_istore (lv' := [(4, .int (iI ((40 : Nat) : Int))), (3, .ref (ad 1 (0))), (2, .int (iI ((0 : Nat) : Int))), (0, .ref (ad 0 (0))), (1, .int (iI (bI (b))))]) hx hb dX2_count_9 hl (by decide) rfl (fun ls hl => ?_)
  refine lv_iconst (v := iI ((0 : Nat) : Int)) hx hb dX2_count_11 (by decide) ?_
  refine lv_istore (lv' := [(5, .int (iI ((0 : Nat) : Int))), (4, .int (iI ((40 : Nat) : Int))), (3, .ref (ad 1 (0))), (2, .int (iI ((0 : Nat) : Int))), (0, .ref (ad 0 (0))), (1, .int (iI (bI (b))))]) hx hb dX2_count_12 hl (by decide) rfl (fun ls hl => ?_)
  have loop_14 : ∀ (dd i : Nat) (a : Nat), 40 + 1 ≤ i + dd → i ≤ 40 → a = sumN (fun i => if i < σ 8 0 then (if cB (cntP σ b i) = true then 1 else 0) else 0) i → ∀ (H : Heap) (locs : List Loc) (ls : Array Slot), fw_P D vwCl z ad (WC cA ad σ μ) H → va_S (fw_A z) s.heap H locs → lv_has ls 7 [(0, .ref (ad 0 (0))), (1, .int (iI (bI (b)))), (2, .int (iI ((a : Nat) : Int))), (3, .ref (ad 1 (0))), (4, .int (iI ((40 : Nat) : Int))), (5, .int (iI ((i : Nat) : Int)))] → W pg l en (headSpec wsX2_count rm_X2_count).room s m args below meth cd H locs 0 0 Q (F0 m 14 ls []) := by
    intro dd
    induction dd with
    | zero => intro i a hd_14 hi_14; omega
    | succ dd ih_14 =>
      intro i a hd_14 hi_14 e_a H locs ls hP hS hl
      subst e_a
      refine lv_iload hx hb dX2_count_14 (lv_at hl 5 rfl) ?_
      refine lv_iload hx hb dX2_count_16 (lv_at hl 4 rfl) ?_
      refine fw_icmp_ge (x := ((i : Nat) : Int)) (y := ((40 : Nat) : Int)) (tgt := 68) hx hb dX2_count_18 (by decide) ⟨by omega, by omega⟩ ⟨by omega, by omega⟩ (fun c_3 => ?_) (fun c_3 => ?_)
      · refine lv_iload_n hx hb dX2_count_68 rfl (lv_at hl 2 rfl) ?_
        subst hQ
        exact fw_iret hx hb hr hlocks dX2_count_69 hP hS ⟨by rw [show i = 40 from by omega, sum_cut hI.n]; rfl, rfl⟩
      · refine lv_aload_n hx hb dX2_count_21 rfl (lv_at hl 3 rfl) ?_
        refine lv_iload hx hb dX2_count_22 (lv_at hl 5 rfl) ?_
        refine fw_aldN (j := i) hx hb hK hP WC_1 2 rfl (by omega) (by decide) dX2_count_24 ?_
        by_cases n_4 : i < σ 8 0
        · refine fw_top (v' := .ref (ad 5 (i))) (by rw [if_pos n_4]; rfl) ?_
          refine lv_astore (lv' := [(6, .ref (ad 5 (i))), (0, .ref (ad 0 (0))), (1, .int (iI (bI (b)))), (2, .int (iI ((sumN (fun i => if i < σ 8 0 then (if cB (cntP σ b i) = true then 1 else 0) else 0) i : Nat) : Int))), (3, .ref (ad 1 (0))), (4, .int (iI ((40 : Nat) : Int))), (5, .int (iI ((i : Nat) : Int)))]) hx hb dX2_count_25 hl (by decide) rfl (fun ls hl => ?_)
          refine lv_aload hx hb dX2_count_27 (lv_at hl 0 rfl) ?_
          refine lv_ifnull hx hb dX2_count_29 ?_
          refine lv_iload_n hx hb dX2_count_32 rfl (lv_at hl 2 rfl) ?_
          refine fw_if_eqB (x := b) (tgt := 51) hx hb dX2_count_33 (by decide) (fun c_5 => ?_) (fun c_5 => ?_)
          · refine lv_aload hx hb dX2_count_51 (lv_at hl 0 rfl) ?_
            refine fw_get (ci := 0) (v := va_rf (if σ 4 i = 1 then some (ad 3 (σ 5 i)) else none)) (C := RX0) (T := TX0) (N := 8) hx hb hts hinX0 hown hK hP (WC_5 n_4) rfl 6 (by decide) hf165 (fun _ h9 => h9) rfl dX2_count_53 ?_
            have hc_6 := hI.c i
            by_cases n_7 : σ 4 i = 1
            · refine fw_top (v' := .ref (ad 3 (σ 5 i))) (by rw [if_pos n_7]; rfl) ?_
              refine lv_ifnull hx hb dX2_count_56 ?_
              refine fw_iincN (x := sumN (fun i => if i < σ 8 0 then (if cB (cntP σ b i) = true then 1 else 0) else 0) i) (lv' := [(2, .int (iI (((sumN (fun i => if i < σ 8 0 then (if cB (cntP σ b i) = true then 1 else 0) else 0) i) + 1 : Nat) : Int))), (6, .ref (ad 5 (i))), (0, .ref (ad 0 (0))), (1, .int (iI (bI (b)))), (3, .ref (ad 1 (0))), (4, .int (iI ((40 : Nat) : Int))), (5, .int (iI ((i : Nat) : Int)))]) hx hb dX2_count_59 hl (k := 3) rfl (by decide) rfl (fun ls hl => ?_)
              refine fw_iincN (x := i) (lv' := [(5, .int (iI ((i + 1 : Nat) : Int))), (2, .int (iI (((sumN (fun i => if i < σ 8 0 then (if cB (cntP σ b i) = true then 1 else 0) else 0) i) + 1 : Nat) : Int))), (6, .ref (ad 5 (i))), (0, .ref (ad 0 (0))), (1, .int (iI (bI (b)))), (3, .ref (ad 1 (0))), (4, .int (iI ((40 : Nat) : Int)))]) hx hb dX2_count_62 hl (k := 6) rfl (by decide) rfl (fun ls hl => ?_)
              refine lv_goto (tgt := 14) hx hb dX2_count_65 (by decide) ?_
              exact ih_14 (i + 1) _ (by omega) (by omega) (by rw [sumN, if_pos (by assumption), if_pos (cB_t.mpr (by unfold cntP; simp_all))]) H locs ls hP hS (lv_sub hl [3, 4, 1, 5, 6, 0] rfl)
            · refine fw_top (v' := .null) (by rw [if_neg n_7]; rfl) ?_
              refine lv_ifnullN (tgt := 62) hx hb dX2_count_56 (by decide) ?_
              refine fw_iincN (x := i) (lv' := [(5, .int (iI ((i + 1 : Nat) : Int))), (6, .ref (ad 5 (i))), (0, .ref (ad 0 (0))), (1, .int (iI (bI (b)))), (2, .int (iI ((sumN (fun i => if i < σ 8 0 then (if cB (cntP σ b i) = true then 1 else 0) else 0) i : Nat) : Int))), (3, .ref (ad 1 (0))), (4, .int (iI ((40 : Nat) : Int)))]) hx hb dX2_count_62 hl (k := 6) rfl (by decide) rfl (fun ls hl => ?_)
              refine lv_goto (tgt := 14) hx hb dX2_count_65 (by decide) ?_
              exact ih_14 (i + 1) _ (by omega) (by omega) (by rw [sumN, if_pos (by assumption), if_neg (fun q => absurd (cB_t.mp q) (by unfold cntP; simp_all))]; rfl) H locs ls hP hS (lv_sub hl [2, 3, 4, 5, 6, 0] rfl)
          · refine lv_aload hx hb dX2_count_36 (lv_at hl 0 rfl) ?_
            refine lv_aload_n hx hb dX2_count_38 rfl (lv_at hl 1 rfl) ?_
            refine fw_get (ci := 2) (v := .int (iI ((σ 8 4 : Nat) : Int))) (C := RX2) (T := TX2) (N := 8) hx hb hts hinX2 hown hK hP WC_0 rfl 3 (by decide) hf25 (fun _ h9 => h9) rfl dX2_count_39 ?_
            refine fw_cVi (As := [.int (iI ((σ 8 4 : Nat) : Int))]) (rest := []) ⟨hx, hb, hml, hown, hts⟩ (c_X0_waitsAt l D cA z ad σ μ i (σ 8 4) hI n_4 (by omega)) (cwV 1 hts gX2_count_X0_waitsAt rfl rfl rfl (by decide +kernel) ⟨Nat.le_of_ble_eq_true rfl, Nat.le_of_ble_eq_true rfl⟩) (WC_5 n_4) rfl rfl hl.1 (Nat.le_of_ble_eq_true rfl) dX2_count_42 ⟨Nat.le_of_ble_eq_true rfl, Nat.le_of_ble_eq_true rfl⟩ hK hP hS rfl (fun r w' H locs q_8 hP hS => ?_)
            obtain ⟨rfl, rfl⟩ := q_8
            have hc_9 := hI.c i
            refine fw_if_eqB (x := decide (σ 4 i = 0 ∧ σ 1 i = σ 8 4)) (tgt := 62) hx hb dX2_count_45 (by decide) (fun c_10 => ?_) (fun c_10 => ?_)
            · replace c_10 := of_decide_eq_false c_10
              refine fw_iincN (x := i) (lv' := [(5, .int (iI ((i + 1 : Nat) : Int))), (6, .ref (ad 5 (i))), (0, .ref (ad 0 (0))), (1, .int (iI (bI (b)))), (2, .int (iI ((sumN (fun i => if i < σ 8 0 then (if cB (cntP σ b i) = true then 1 else 0) else 0) i : Nat) : Int))), (3, .ref (ad 1 (0))), (4, .int (iI ((40 : Nat) : Int)))]) hx hb dX2_count_62 hl (k := 6) rfl (by decide) rfl (fun ls hl => ?_)
              refine lv_goto (tgt := 14) hx hb dX2_count_65 (by decide) ?_
              exact ih_14 (i + 1) _ (by omega) (by omega) (by rw [sumN, if_pos (by assumption), if_neg (fun q => absurd (cB_t.mp q) (by unfold cntP; simp_all))]; rfl) H locs ls hP hS (lv_sub hl [2, 3, 4, 5, 6, 0] rfl)
            · replace c_10 := of_decide_eq_true c_10
              refine lv_goto (tgt := 59) hx hb dX2_count_48 (by decide) ?_
              refine fw_iincN (x := sumN (fun i => if i < σ 8 0 then (if cB (cntP σ b i) = true then 1 else 0) else 0) i) (lv' := [(2, .int (iI (((sumN (fun i => if i < σ 8 0 then (if cB (cntP σ b i) = true then 1 else 0) else 0) i) + 1 : Nat) : Int))), (6, .ref (ad 5 (i))), (0, .ref (ad 0 (0))), (1, .int (iI (bI (b)))), (3, .ref (ad 1 (0))), (4, .int (iI ((40 : Nat) : Int))), (5, .int (iI ((i : Nat) : Int)))]) hx hb dX2_count_59 hl (k := 3) rfl (by decide) rfl (fun ls hl => ?_)
              refine fw_iincN (x := i) (lv' := [(5, .int (iI ((i + 1 : Nat) : Int))), (2, .int (iI (((sumN (fun i => if i < σ 8 0 then (if cB (cntP σ b i) = true then 1 else 0) else 0) i) + 1 : Nat) : Int))), (6, .ref (ad 5 (i))), (0, .ref (ad 0 (0))), (1, .int (iI (bI (b)))), (3, .ref (ad 1 (0))), (4, .int (iI ((40 : Nat) : Int)))]) hx hb dX2_count_62 hl (k := 6) rfl (by decide) rfl (fun ls hl => ?_)
              refine lv_goto (tgt := 14) hx hb dX2_count_65 (by decide) ?_
              exact ih_14 (i + 1) _ (by omega) (by omega) (by rw [sumN, if_pos (by assumption), if_pos (cB_t.mpr (by unfold cntP; simp_all))]) H locs ls hP hS (lv_sub hl [3, 4, 1, 5, 6, 0] rfl)
        · refine fw_top (v' := .null) (by rw [if_neg n_4]; rfl) ?_
          refine lv_astoreN (lv' := [(6, .null), (0, .ref (ad 0 (0))), (1, .int (iI (bI (b)))), (2, .int (iI ((sumN (fun i => if i < σ 8 0 then (if cB (cntP σ b i) = true then 1 else 0) else 0) i : Nat) : Int))), (3, .ref (ad 1 (0))), (4, .int (iI ((40 : Nat) : Int))), (5, .int (iI ((i : Nat) : Int)))]) hx hb dX2_count_25 hl (by decide) rfl (fun ls hl => ?_)
          refine lv_aloadN hx hb dX2_count_27 (lv_at hl 0 rfl) ?_
          refine lv_ifnullN (tgt := 62) hx hb dX2_count_29 (by decide) ?_
          refine fw_iincN (x := i) (lv' := [(5, .int (iI ((i + 1 : Nat) : Int))), (6, .null), (0, .ref (ad 0 (0))), (1, .int (iI (bI (b)))), (2, .int (iI ((sumN (fun i => if i < σ 8 0 then (if cB (cntP σ b i) = true then 1 else 0) else 0) i : Nat) : Int))), (3, .ref (ad 1 (0))), (4, .int (iI ((40 : Nat) : Int)))]) hx hb dX2_count_62 hl (k := 6) rfl (by decide) rfl (fun ls hl => ?_)
          refine lv_goto (tgt := 14) hx hb dX2_count_65 (by decide) ?_
          exact ih_14 (i + 1) _ (by omega) (by omega) (by rw [sumN, if_neg (by assumption)]; rfl) H locs ls hP hS (lv_sub hl [2, 3, 4, 5, 6, 0] rfl)
  exact loop_14 (40 + 1) (0) _ (by omega) (by omega) (by rfl) H locs ls hP hS (lv_sub hl [4, 5, 3, 2, 1, 0] rfl)

abbrev rm_X2_bestStackFor : Room := { frames := 4, cells := 0, slots := 0, locals := 91 }
abbrev po_X2_bestStackFor (cA : Nat → ClassId) (ad : fw_Ad) (σ : St) (μ : fw_W) (c : Nat) : Option Nat → fw_W → Prop := fun r w' => r = (bestS σ c 30).map (ad 3) ∧ w' = WC cA ad σ μ
set_option maxHeartbeats 4000000 in
set_option maxRecDepth 100000 in
theorem c_X2_bestStackFor (l : Launch) (D : va_G) (cA : Nat → ClassId) (z : Nat) (ad : fw_Ad) (σ : St) (μ : fw_W) (c : Nat) (hI : Inv σ) (hc : c < σ 8 0) : Met l yX2_bestStackFor wsX2_bestStackFor rm_X2_bestStackFor (va_Pc [.ref (ad 0 (0)), .ref (ad 5 (c))] (fw_Pre D vwCl (fw_T cA) z ad (WC cA ad σ μ))) (fw_Qq D vwCl z ad (po_X2_bestStackFor cA ad σ μ c)) 0 0 (fw_A z) := by
  refine Met.ofW (cc := cX2_bestStackFor) (maxL := 15) (ret := (some (.object "StowagePlan$Stack"))) (by decide) rfl ?_
  intro pg en s m args below meth cd s₁ B hml hv
  obtain ⟨hargs, hP, hK⟩ := hv
  have hx := B.exec
  have hb := B.bytes
  have hr := B.returns
  have hts := atoms_spec (ws := wsX2_bestStackFor) B.pre
  have hown : s.vm.findClass RX2 = some m.cls := findClass_of_methodNamed B.named
  have hlocks := B.notSynchronized
  have hinX0 : ∀ w ∈ u_ws RX0 TX0 8, w ∈ wsX2_bestStackFor := by decide +kernel
  have hinX2 : ∀ w ∈ u_ws RX2 TX2 8, w ∈ wsX2_bestStackFor := by decide +kernel
  have hf17 := hts (.fieldLink RX2 17 "StowagePlan" "stacks" "[LStowagePlan$Stack;") (by decide +kernel)
  have hf242 := hts (.fieldLink RX2 242 "StowagePlan$Box" "to" "I") (by decide +kernel)
  have hf169 := hts (.fieldLink RX2 169 "StowagePlan$Box" "weight" "I") (by decide +kernel)
  have hl := lv_entry ([.ref (ad 0 (0)), .ref (ad 5 (c))]) (n := 15) (Nat.le_of_ble_eq_true rfl)
  have hent : entryFrame m args 15 = entryFrame m ([.ref (ad 0 (0)), .ref (ad 5 (c))] : List Value).toArray 15 := by rw [hargs]
  rw [hent, lg_entry_eq]
  generalize (lg_sl ([.ref (ad 0 (0)), .ref (ad 5 (c))]) ++ List.replicate (15 - (lg_sl ([.ref (ad 0 (0)), .ref (ad 5 (c))])).length) Slot.unset).toArray = ls at hl ⊢
  have hl : lv_has ls 15 [(0, .ref (ad 0 (0))), (1, .ref (ad 5 (c)))] := hl
  generalize hQ : MQ below (fw_Qq D vwCl z ad (po_X2_bestStackFor cA ad σ μ c)) args s 0 0 (fw_A z) = Q
  generalize hH : s.heap = H at hP ⊢
  have hS : va_S (fw_A z) s.heap H [] := by rw [← hH]; exact va_S.rf
  generalize ([] : List Loc) = locs at hS ⊢
  refine lv_aload_n hx hb dX2_bestStackFor_0 rfl (lv_at hl 1 rfl) ?_
  refine lv_ifnonnull (tgt := 6) hx hb dX2_bestStackFor_1 (by decide) ?_
  refine lv_aload_n hx hb dX2_bestStackFor_6 rfl (lv_at hl 0 rfl) ?_
  refine lv_iconst (v := iI ((0 : Nat) : Int)) hx hb dX2_bestStackFor_7 (by decide) ?_
  refine fw_cVi (As := [.int (iI ((0 : Nat) : Int))]) (rest := []) ⟨hx, hb, hml, hown, hts⟩ (c_X2_moment l D cA z ad σ μ false hI) (cwV 1 hts gX2_bestStackFor_X2_moment rfl rfl rfl (by decide +kernel) ⟨Nat.le_of_ble_eq_true rfl, Nat.le_of_ble_eq_true rfl⟩) WC_0 rfl rfl hl.1 (Nat.le_of_ble_eq_true rfl) dX2_bestStackFor_8 ⟨Nat.le_of_ble_eq_true rfl, Nat.le_of_ble_eq_true rfl⟩ hK hP hS rfl (fun r w' H locs q_1 hP hS => ?_)
  obtain ⟨rfl, rfl⟩ := q_1
  refine lv_istore_n (lv' := [(2, .int (iI (mom σ false))), (0, .ref (ad 0 (0))), (1, .ref (ad 5 (c)))]) hx hb dX2_bestStackFor_11 rfl hl (by decide) rfl (fun ls hl => ?_)
  refine lv_aload_n hx hb dX2_bestStackFor_12 rfl (lv_at hl 1 rfl) ?_
  refine lv_iconst (v := iI ((1 : Nat) : Int)) hx hb dX2_bestStackFor_13 (by decide) ?_
  refine fw_cVi (As := [.int (iI ((1 : Nat) : Int))]) (rest := []) ⟨hx, hb, hml, hown, hts⟩ (c_X2_moment l D cA z ad σ μ true hI) (cwV 1 hts gX2_bestStackFor_X2_moment rfl rfl rfl (by decide +kernel) ⟨Nat.le_of_ble_eq_true rfl, Nat.le_of_ble_eq_true rfl⟩) WC_0 rfl rfl hl.1 (Nat.le_of_ble_eq_true rfl) dX2_bestStackFor_14 ⟨Nat.le_of_ble_eq_true rfl, Nat.le_of_ble_eq_true rfl⟩ hK hP hS rfl (fun r w' H locs q_2 hP hS => ?_)
  obtain ⟨rfl, rfl⟩ := q_2
  refine lv_istore_n (lv' := [(3, .int (iI (mom σ true))), (2, .int (iI (mom σ false))), (0, .ref (ad 0 (0))), (1, .ref (ad 5 (c)))]) hx hb dX2_bestStackFor_17 rfl hl (by decide) rfl (fun ls hl => ?_)
  refine lv_null hx hb dX2_bestStackFor_18 ?_
  refine lv_astoreN (lv' := [(4, .null), (3, .int (iI (mom σ true))), (2, .int (iI (mom σ false))), (0, .ref (ad 0 (0))), (1, .ref (ad 5 (c)))]) hx hb dX2_bestStackFor_19 hl (by decide) rfl (fun ls hl => ?_)
  refine lv_iconst (v := iI ((0 : Nat) : Int)) hx hb dX2_bestStackFor_21 (by decide) ?_
  refine lv_istore (lv' := [(5, .int (iI ((0 : Nat) : Int))), (4, .null), (3, .int (iI (mom σ true))), (2, .int (iI (mom σ false))), (0, .ref (ad 0 (0))), (1, .ref (ad 5 (c)))]) hx hb dX2_bestStackFor_22 hl (by decide) rfl (fun ls hl => ?_)
  refine lv_iconst (v := iI ((0 : Nat) : Int)) hx hb dX2_bestStackFor_24 (by decide) ?_
  refine lv_istore (lv' := [(6, .int (iI ((0 : Nat) : Int))), (5, .int (iI ((0 : Nat) : Int))), (4, .null), (3, .int (iI (mom σ true))), (2, .int (iI (mom σ false))), (0, .ref (ad 0 (0))), (1, .ref (ad 5 (c)))]) hx hb dX2_bestStackFor_25 hl (by decide) rfl (fun ls hl => ?_)
  refine lv_iconst (v := iI ((0 : Nat) : Int)) hx hb dX2_bestStackFor_27 (by decide) ?_
  refine lv_istore (lv' := [(7, .int (iI ((0 : Nat) : Int))), (6, .int (iI ((0 : Nat) : Int))), (5, .int (iI ((0 : Nat) : Int))), (4, .null), (3, .int (iI (mom σ true))), (2, .int (iI (mom σ false))), (0, .ref (ad 0 (0))), (1, .ref (ad 5 (c)))]) hx hb dX2_bestStackFor_28 hl (by decide) rfl (fun ls hl => ?_)
  refine lv_aload_n hx hb dX2_bestStackFor_30 rfl (lv_at hl 6 rfl) ?_
  refine fw_get (ci := 2) (v := .ref (ad 2 (0))) (C := RX2) (T := TX2) (N := 8) hx hb hts hinX2 hown hK hP WC_0 rfl 1 (by decide) hf17 (fun _ h9 => h9) rfl dX2_bestStackFor_31 ?_
  have hn_3 := hI.n
  have hm_4 := hI.lim
  refine lv_astore (lv' := [(8, .ref (ad 2 (0))), (7, .int (iI ((0 : Nat) : Int))), (6, .int (iI ((0 : Nat) : Int))), (5, .int (iI ((0 : Nat) : Int))), (4, .null), (3, .int (iI (mom σ true))), (2, .int (iI (mom σ false))), (0, .ref (ad 0 (0))), (1, .ref (ad 5 (c)))]) hx hb dX2_bestStackFor_34 hl (by decide) rfl (fun ls hl => ?_)
  refine lv_aload hx hb dX2_bestStackFor_36 (lv_at hl 0 rfl) ?_
  refine fw_alen (v := iI ((30 : Nat) : Int)) hx hb hK hP WC_2 3 rfl rfl dX2_bestStackFor_38 ?_
  refine lv_istore (lv' := [(9, .int (iI ((30 : Nat) : Int))), (8, .ref (ad 2 (0))), (7, .int (iI ((0 : Nat) : Int))), (6, .int (iI ((0 : Nat) : Int))), (5, .int (iI ((0 : Nat) : Int))), (4, .null), (3, .int (iI (mom σ true))), (2, .int (iI (mom σ false))), (0, .ref (ad 0 (0))), (1, .ref (ad 5 (c)))]) hx hb dX2_bestStackFor_39 hl (by decide) rfl (fun ls hl => ?_)
  refine lv_iconst (v := iI ((0 : Nat) : Int)) hx hb dX2_bestStackFor_41 (by decide) ?_
  refine lv_istore (lv' := [(10, .int (iI ((0 : Nat) : Int))), (9, .int (iI ((30 : Nat) : Int))), (8, .ref (ad 2 (0))), (7, .int (iI ((0 : Nat) : Int))), (6, .int (iI ((0 : Nat) : Int))), (5, .int (iI ((0 : Nat) : Int))), (4, .null), (3, .int (iI (mom σ true))), (2, .int (iI (mom σ false))), (0, .ref (ad 0 (0))), (1, .ref (ad 5 (c)))]) hx hb dX2_bestStackFor_42 hl (by decide) rfl (fun ls hl => ?_)
  have loop_44 : ∀ (dd i : Nat) (a5 : Nat) (a6 : Nat) (a7 : Nat), 30 + 1 ≤ i + dd → i ≤ 30 → a5 = optN (bestS σ c i) (fun s => earlier σ s (σ 2 c)) → a6 = optN (bestS σ c i) (fun s => nearL σ false c s) → a7 = optN (bestS σ c i) (fun s => nearL σ true c s) → ∀ (H : Heap) (locs : List Loc) (ls : Array Slot), fw_P D vwCl z ad (WC cA ad σ μ) H → va_S (fw_A z) s.heap H locs → lv_has ls 15 [(0, .ref (ad 0 (0))), (1, .ref (ad 5 (c))), (2, .int (iI (mom σ false))), (3, .int (iI (mom σ true))), (4, va_rf ((bestS σ c i).map (ad 3))), (5, .int (iI ((a5 : Nat) : Int))), (6, .int (iI ((a6 : Nat) : Int))), (7, .int (iI ((a7 : Nat) : Int))), (8, .ref (ad 2 (0))), (9, .int (iI ((30 : Nat) : Int))), (10, .int (iI ((i : Nat) : Int)))] → W pg l en (headSpec wsX2_bestStackFor rm_X2_bestStackFor).room s m args below meth cd H locs 0 0 Q (F0 m 44 ls []) := by
    intro dd
    induction dd with
    | zero => intro i a5 a6 a7 hd_44 hi_44; omega
    | succ dd ih_44 =>
      intro i a5 a6 a7 hd_44 hi_44 e_a5 e_a6 e_a7 H locs ls hP hS hl
      subst e_a5
      subst e_a6
      subst e_a7
      cases n_5 : bestS σ c i with
      | none =>
        rw [n_5] at hl
        have hl : lv_has ls 15 [(0, .ref (ad 0 (0))), (1, .ref (ad 5 (c))), (2, .int (iI (mom σ false))), (3, .int (iI (mom σ true))), (4, .null), (5, .int (iI ((0 : Nat) : Int))), (6, .int (iI ((0 : Nat) : Int))), (7, .int (iI ((0 : Nat) : Int))), (8, .ref (ad 2 (0))), (9, .int (iI ((30 : Nat) : Int))), (10, .int (iI ((i : Nat) : Int)))] := hl
        refine lv_iload hx hb dX2_bestStackFor_44 (lv_at hl 10 rfl) ?_
        refine lv_iload hx hb dX2_bestStackFor_46 (lv_at hl 9 rfl) ?_
        refine fw_icmp_ge (x := ((i : Nat) : Int)) (y := ((30 : Nat) : Int)) (tgt := 180) hx hb dX2_bestStackFor_48 (by decide) ⟨by omega, by omega⟩ ⟨by omega, by omega⟩ (fun c_6 => ?_) (fun c_6 => ?_)
        · refine lv_aloadN hx hb dX2_bestStackFor_180 (lv_at hl 4 rfl) ?_
          subst hQ
          exact fw_nret hx hb hr (Or.inl ⟨_, rfl⟩) hlocks dX2_bestStackFor_182 hP hS ⟨by rw [show bestS σ c 30 = none from by rw [show i = 30 from by omega] at n_5; exact n_5]; rfl, rfl⟩
        · refine lv_aload hx hb dX2_bestStackFor_51 (lv_at hl 8 rfl) ?_
          refine lv_iload hx hb dX2_bestStackFor_53 (lv_at hl 10 rfl) ?_
          refine fw_aldN (j := i) hx hb hK hP WC_2 3 rfl (by omega) (by decide) dX2_bestStackFor_55 ?_
          refine fw_top (v' := .ref (ad 3 (i))) rfl ?_
          refine lv_astore (lv' := [(11, .ref (ad 3 (i))), (0, .ref (ad 0 (0))), (1, .ref (ad 5 (c))), (2, .int (iI (mom σ false))), (3, .int (iI (mom σ true))), (4, .null), (5, .int (iI ((0 : Nat) : Int))), (6, .int (iI ((0 : Nat) : Int))), (7, .int (iI ((0 : Nat) : Int))), (8, .ref (ad 2 (0))), (9, .int (iI ((30 : Nat) : Int))), (10, .int (iI ((i : Nat) : Int)))]) hx hb dX2_bestStackFor_56 hl (by decide) rfl (fun ls hl => ?_)
          refine lv_aload hx hb dX2_bestStackFor_58 (lv_at hl 0 rfl) ?_
          refine lv_ifnull hx hb dX2_bestStackFor_60 ?_
          refine lv_aload_n hx hb dX2_bestStackFor_63 rfl (lv_at hl 1 rfl) ?_
          refine lv_aload_n hx hb dX2_bestStackFor_64 rfl (lv_at hl 2 rfl) ?_
          refine lv_aload hx hb dX2_bestStackFor_65 (lv_at hl 0 rfl) ?_
          refine fw_cVi (As := [.ref (ad 5 (c)), .ref (ad 3 (i))]) (rest := []) ⟨hx, hb, hml, hown, hts⟩ (c_X2_isLoadable l D cA z ad σ μ c i hI hc (by omega)) (cwV 2 hts gX2_bestStackFor_X2_isLoadable rfl rfl rfl (by decide +kernel) ⟨Nat.le_of_ble_eq_true rfl, Nat.le_of_ble_eq_true rfl⟩) WC_0 rfl rfl hl.1 (Nat.le_of_ble_eq_true rfl) dX2_bestStackFor_67 ⟨Nat.le_of_ble_eq_true rfl, Nat.le_of_ble_eq_true rfl⟩ hK hP hS rfl (fun r w' H locs q_7 hP hS => ?_)
          obtain ⟨rfl, rfl⟩ := q_7
          refine fw_if_eqB (x := cB (allowed σ c i)) (tgt := 174) hx hb dX2_bestStackFor_70 (by decide) (fun c_8 => ?_) (fun c_8 => ?_)
          · replace c_8 := cB_f.mp c_8
            refine fw_iincN (x := i) (lv' := [(10, .int (iI ((i + 1 : Nat) : Int))), (11, .ref (ad 3 (i))), (0, .ref (ad 0 (0))), (1, .ref (ad 5 (c))), (2, .int (iI (mom σ false))), (3, .int (iI (mom σ true))), (4, .null), (5, .int (iI ((0 : Nat) : Int))), (6, .int (iI ((0 : Nat) : Int))), (7, .int (iI ((0 : Nat) : Int))), (8, .ref (ad 2 (0))), (9, .int (iI ((30 : Nat) : Int)))]) hx hb dX2_bestStackFor_174 hl (k := 11) rfl (by decide) rfl (fun ls hl => ?_)
            refine lv_goto (tgt := 44) hx hb dX2_bestStackFor_177 (by decide) ?_
            have hl := lv_conv hl (l2 := [(10, .int (iI ((i + 1 : Nat) : Int))), (11, .ref (ad 3 (i))), (0, .ref (ad 0 (0))), (1, .ref (ad 5 (c))), (2, .int (iI (mom σ false))), (3, .int (iI (mom σ true))), (4, va_rf ((bestS σ c (i + 1)).map (ad 3))), (5, .int (iI ((0 : Nat) : Int))), (6, .int (iI ((0 : Nat) : Int))), (7, .int (iI ((0 : Nat) : Int))), (8, .ref (ad 2 (0))), (9, .int (iI ((30 : Nat) : Int)))]) (by rw [show bestS σ c (i + 1) = none from (bestS_no n_5 (by assumption))]; rfl)
            exact ih_44 (i + 1) _ _ _ (by omega) (by omega) (by rw [show bestS σ c (i + 1) = none from (bestS_no n_5 (by assumption))]; rfl) (by rw [show bestS σ c (i + 1) = none from (bestS_no n_5 (by assumption))]; rfl) (by rw [show bestS σ c (i + 1) = none from (bestS_no n_5 (by assumption))]; rfl) H locs ls hP hS (lv_sub hl [2, 3, 4, 5, 6, 7, 8, 9, 10, 11, 0] rfl)
          · replace c_8 := cB_t.mp c_8
            refine lv_aload hx hb dX2_bestStackFor_73 (lv_at hl 0 rfl) ?_
            refine lv_aload_n hx hb dX2_bestStackFor_75 rfl (lv_at hl 2 rfl) ?_
            refine fw_get (ci := 0) (v := .int (iI ((σ 2 c : Nat) : Int))) (C := RX0) (T := TX0) (N := 8) hx hb hts hinX0 hown hK hP (WC_5 hc) rfl 3 (by decide) hf242 (fun _ h9 => h9) rfl dX2_bestStackFor_76 ?_
            have hc_9 := hI.c c
            refine fw_cVi (As := [.int (iI ((σ 2 c : Nat) : Int))]) (rest := []) ⟨hx, hb, hml, hown, hts⟩ (c_X1_countLandedBefore l D cA z ad σ μ i (σ 2 c) hI (by omega) (by omega)) (cwV 1 hts gX2_bestStackFor_X1_countLandedBefore rfl rfl rfl (by decide +kernel) ⟨Nat.le_of_ble_eq_true rfl, Nat.le_of_ble_eq_true rfl⟩) (WC_3 (by omega)) rfl rfl hl.1 (Nat.le_of_ble_eq_true rfl) dX2_bestStackFor_79 ⟨Nat.le_of_ble_eq_true rfl, Nat.le_of_ble_eq_true rfl⟩ hK hP hS rfl (fun r w' H locs q_10 hP hS => ?_)
            obtain ⟨rfl, rfl⟩ := q_10
            have hh_11 := high_le hI i
            have hp_12 := hI.pl i
            have hea := earlier_le hI i (σ 2 c)
            refine lv_istore (lv' := [(12, .int (iI ((earlier σ i (σ 2 c) : Nat) : Int))), (11, .ref (ad 3 (i))), (0, .ref (ad 0 (0))), (1, .ref (ad 5 (c))), (2, .int (iI (mom σ false))), (3, .int (iI (mom σ true))), (4, .null), (5, .int (iI ((0 : Nat) : Int))), (6, .int (iI ((0 : Nat) : Int))), (7, .int (iI ((0 : Nat) : Int))), (8, .ref (ad 2 (0))), (9, .int (iI ((30 : Nat) : Int))), (10, .int (iI ((i : Nat) : Int)))]) hx hb dX2_bestStackFor_82 hl (by decide) rfl (fun ls hl => ?_)
            refine lv_iload_n hx hb dX2_bestStackFor_84 rfl (lv_at hl 4 rfl) ?_
            refine lv_aload_n hx hb dX2_bestStackFor_85 rfl (lv_at hl 3 rfl) ?_
            refine fw_get (ci := 0) (v := .int (iI ((σ 0 c : Nat) : Int))) (C := RX0) (T := TX0) (N := 8) hx hb hts hinX0 hown hK hP (WC_5 hc) rfl 1 (by decide) hf169 (fun _ h9 => h9) rfl dX2_bestStackFor_86 ?_
            refine lv_aload hx hb dX2_bestStackFor_89 (lv_at hl 1 rfl) ?_
            refine fw_cVi (As := []) (rest := [.int (iI ((σ 0 c : Nat) : Int)), .int (iI (mom σ false))]) ⟨hx, hb, hml, hown, hts⟩ (c_X1_listArm l D cA z ad σ μ i hI (by omega)) (cwV 0 hts gX2_bestStackFor_X1_listArm rfl rfl rfl (by decide +kernel) ⟨Nat.le_of_ble_eq_true rfl, Nat.le_of_ble_eq_true rfl⟩) (WC_3 (by omega)) rfl rfl hl.1 (Nat.le_of_ble_eq_true rfl) dX2_bestStackFor_91 ⟨Nat.le_of_ble_eq_true rfl, Nat.le_of_ble_eq_true rfl⟩ hK hP hS rfl (fun r w' H locs q_13 hP hS => ?_)
            obtain ⟨rfl, rfl⟩ := q_13
            refine fw_imul (a := ((σ 0 c : Nat) : Int)) (b := (((i % 5 : Nat) : Int) - ((2 : Nat) : Int))) hx hb dX2_bestStackFor_94 ?_
            refine fw_iadd (a := (mom σ false)) (b := (((σ 0 c : Nat) : Int) * (((i % 5 : Nat) : Int) - ((2 : Nat) : Int)))) hx hb dX2_bestStackFor_95 ?_
            have hml_false := mul_le (hI.c c).1 (arm_le false (k := i) (by omega)); have hmo_false := mom_le hI false; unfold arm at hml_false; simp only [if_true, if_false, Bool.false_eq_true] at hml_false
            refine fw_abs (x := ((mom σ false) + (((σ 0 c : Nat) : Int) * (((i % 5 : Nat) : Int) - ((2 : Nat) : Int))))) hx hb (by rw [hml]; exact hl.1.symm) hown (hts (.methodLink RX2 176 Lib.Math.abs.name) (by decide +kernel)) (hts (.static Lib.Math.abs.name) (by decide +kernel)) (hts (.initialized "java/lang/Math") (by decide +kernel)) (hts (.code Lib.Math.abs.name Lib.Math.abs.code 1 (some .int)) (by decide +kernel)) (Nat.le_of_ble_eq_true rfl) (Nat.le_of_ble_eq_true rfl) (Nat.le_of_ble_eq_true rfl) (Nat.le_of_ble_eq_true rfl) ⟨by omega, by omega⟩ dX2_bestStackFor_96 ?_
            refine fw_topI (b := ((nearL σ false c i : Nat) : Int)) (by unfold nearL arm; simp) ?_
            have hnl_false := nearL_le hI false c (s := i) (by omega)
            refine lv_istore (lv' := [(13, .int (iI ((nearL σ false c i : Nat) : Int))), (12, .int (iI ((earlier σ i (σ 2 c) : Nat) : Int))), (11, .ref (ad 3 (i))), (0, .ref (ad 0 (0))), (1, .ref (ad 5 (c))), (2, .int (iI (mom σ false))), (3, .int (iI (mom σ true))), (4, .null), (5, .int (iI ((0 : Nat) : Int))), (6, .int (iI ((0 : Nat) : Int))), (7, .int (iI ((0 : Nat) : Int))), (8, .ref (ad 2 (0))), (9, .int (iI ((30 : Nat) : Int))), (10, .int (iI ((i : Nat) : Int)))]) hx hb dX2_bestStackFor_99 hl (by decide) rfl (fun ls hl => ?_)
            refine lv_iload_n hx hb dX2_bestStackFor_101 rfl (lv_at hl 6 rfl) ?_
            refine lv_aload_n hx hb dX2_bestStackFor_102 rfl (lv_at hl 4 rfl) ?_
            refine fw_get (ci := 0) (v := .int (iI ((σ 0 c : Nat) : Int))) (C := RX0) (T := TX0) (N := 8) hx hb hts hinX0 hown hK hP (WC_5 hc) rfl 1 (by decide) hf169 (fun _ h9 => h9) rfl dX2_bestStackFor_103 ?_
            refine lv_aload hx hb dX2_bestStackFor_106 (lv_at hl 2 rfl) ?_
            refine fw_cVi (As := []) (rest := [.int (iI ((σ 0 c : Nat) : Int)), .int (iI (mom σ true))]) ⟨hx, hb, hml, hown, hts⟩ (c_X1_trimArm l D cA z ad σ μ i hI (by omega)) (cwV 0 hts gX2_bestStackFor_X1_trimArm rfl rfl rfl (by decide +kernel) ⟨Nat.le_of_ble_eq_true rfl, Nat.le_of_ble_eq_true rfl⟩) (WC_3 (by omega)) rfl rfl hl.1 (Nat.le_of_ble_eq_true rfl) dX2_bestStackFor_108 ⟨Nat.le_of_ble_eq_true rfl, Nat.le_of_ble_eq_true rfl⟩ hK hP hS rfl (fun r w' H locs q_14 hP hS => ?_)
            obtain ⟨rfl, rfl⟩ := q_14
            refine fw_imul (a := ((σ 0 c : Nat) : Int)) (b := (((2 * (i / 5) : Nat) : Int) - ((5 : Nat) : Int))) hx hb dX2_bestStackFor_111 ?_
            refine fw_iadd (a := (mom σ true)) (b := (((σ 0 c : Nat) : Int) * (((2 * (i / 5) : Nat) : Int) - ((5 : Nat) : Int)))) hx hb dX2_bestStackFor_112 ?_
            have hml_true := mul_le (hI.c c).1 (arm_le true (k := i) (by omega)); have hmo_true := mom_le hI true; unfold arm at hml_true; simp only [if_true, if_false, Bool.false_eq_true] at hml_true
            refine fw_abs (x := ((mom σ true) + (((σ 0 c : Nat) : Int) * (((2 * (i / 5) : Nat) : Int) - ((5 : Nat) : Int))))) hx hb (by rw [hml]; exact hl.1.symm) hown (hts (.methodLink RX2 176 Lib.Math.abs.name) (by decide +kernel)) (hts (.static Lib.Math.abs.name) (by decide +kernel)) (hts (.initialized "java/lang/Math") (by decide +kernel)) (hts (.code Lib.Math.abs.name Lib.Math.abs.code 1 (some .int)) (by decide +kernel)) (Nat.le_of_ble_eq_true rfl) (Nat.le_of_ble_eq_true rfl) (Nat.le_of_ble_eq_true rfl) (Nat.le_of_ble_eq_true rfl) ⟨by omega, by omega⟩ dX2_bestStackFor_113 ?_
            refine fw_topI (b := ((nearL σ true c i : Nat) : Int)) (by unfold nearL arm; simp) ?_
            have hnl_true := nearL_le hI true c (s := i) (by omega)
            refine lv_istore (lv' := [(14, .int (iI ((nearL σ true c i : Nat) : Int))), (13, .int (iI ((nearL σ false c i : Nat) : Int))), (12, .int (iI ((earlier σ i (σ 2 c) : Nat) : Int))), (11, .ref (ad 3 (i))), (0, .ref (ad 0 (0))), (1, .ref (ad 5 (c))), (2, .int (iI (mom σ false))), (3, .int (iI (mom σ true))), (4, .null), (5, .int (iI ((0 : Nat) : Int))), (6, .int (iI ((0 : Nat) : Int))), (7, .int (iI ((0 : Nat) : Int))), (8, .ref (ad 2 (0))), (9, .int (iI ((30 : Nat) : Int))), (10, .int (iI ((i : Nat) : Int)))]) hx hb dX2_bestStackFor_116 hl (by decide) rfl (fun ls hl => ?_)
            refine lv_aloadN hx hb dX2_bestStackFor_118 (lv_at hl 8 rfl) ?_
            refine lv_ifnullN (tgt := 158) hx hb dX2_bestStackFor_120 (by decide) ?_
            refine lv_aload hx hb dX2_bestStackFor_158 (lv_at hl 3 rfl) ?_
            refine lv_astore (lv' := [(4, .ref (ad 3 (i))), (14, .int (iI ((nearL σ true c i : Nat) : Int))), (13, .int (iI ((nearL σ false c i : Nat) : Int))), (12, .int (iI ((earlier σ i (σ 2 c) : Nat) : Int))), (11, .ref (ad 3 (i))), (0, .ref (ad 0 (0))), (1, .ref (ad 5 (c))), (2, .int (iI (mom σ false))), (3, .int (iI (mom σ true))), (5, .int (iI ((0 : Nat) : Int))), (6, .int (iI ((0 : Nat) : Int))), (7, .int (iI ((0 : Nat) : Int))), (8, .ref (ad 2 (0))), (9, .int (iI ((30 : Nat) : Int))), (10, .int (iI ((i : Nat) : Int)))]) hx hb dX2_bestStackFor_160 hl (by decide) rfl (fun ls hl => ?_)
            refine lv_iload hx hb dX2_bestStackFor_162 (lv_at hl 3 rfl) ?_
            refine lv_istore (lv' := [(5, .int (iI ((earlier σ i (σ 2 c) : Nat) : Int))), (4, .ref (ad 3 (i))), (14, .int (iI ((nearL σ true c i : Nat) : Int))), (13, .int (iI ((nearL σ false c i : Nat) : Int))), (12, .int (iI ((earlier σ i (σ 2 c) : Nat) : Int))), (11, .ref (ad 3 (i))), (0, .ref (ad 0 (0))), (1, .ref (ad 5 (c))), (2, .int (iI (mom σ false))), (3, .int (iI (mom σ true))), (6, .int (iI ((0 : Nat) : Int))), (7, .int (iI ((0 : Nat) : Int))), (8, .ref (ad 2 (0))), (9, .int (iI ((30 : Nat) : Int))), (10, .int (iI ((i : Nat) : Int)))]) hx hb dX2_bestStackFor_164 hl (by decide) rfl (fun ls hl => ?_)
            refine lv_iload hx hb dX2_bestStackFor_166 (lv_at hl 3 rfl) ?_
            refine lv_istore (lv' := [(6, .int (iI ((nearL σ false c i : Nat) : Int))), (5, .int (iI ((earlier σ i (σ 2 c) : Nat) : Int))), (4, .ref (ad 3 (i))), (14, .int (iI ((nearL σ true c i : Nat) : Int))), (13, .int (iI ((nearL σ false c i : Nat) : Int))), (12, .int (iI ((earlier σ i (σ 2 c) : Nat) : Int))), (11, .ref (ad 3 (i))), (0, .ref (ad 0 (0))), (1, .ref (ad 5 (c))), (2, .int (iI (mom σ false))), (3, .int (iI (mom σ true))), (7, .int (iI ((0 : Nat) : Int))), (8, .ref (ad 2 (0))), (9, .int (iI ((30 : Nat) : Int))), (10, .int (iI ((i : Nat) : Int)))]) hx hb dX2_bestStackFor_168 hl (by decide) rfl (fun ls hl => ?_)
            refine lv_iload hx hb dX2_bestStackFor_170 (lv_at hl 3 rfl) ?_
            refine lv_istore (lv' := [(7, .int (iI ((nearL σ true c i : Nat) : Int))), (6, .int (iI ((nearL σ false c i : Nat) : Int))), (5, .int (iI ((earlier σ i (σ 2 c) : Nat) : Int))), (4, .ref (ad 3 (i))), (14, .int (iI ((nearL σ true c i : Nat) : Int))), (13, .int (iI ((nearL σ false c i : Nat) : Int))), (12, .int (iI ((earlier σ i (σ 2 c) : Nat) : Int))), (11, .ref (ad 3 (i))), (0, .ref (ad 0 (0))), (1, .ref (ad 5 (c))), (2, .int (iI (mom σ false))), (3, .int (iI (mom σ true))), (8, .ref (ad 2 (0))), (9, .int (iI ((30 : Nat) : Int))), (10, .int (iI ((i : Nat) : Int)))]) hx hb dX2_bestStackFor_172 hl (by decide) rfl (fun ls hl => ?_)
            refine fw_iincN (x := i) (lv' := [(10, .int (iI ((i + 1 : Nat) : Int))), (7, .int (iI ((nearL σ true c i : Nat) : Int))), (6, .int (iI ((nearL σ false c i : Nat) : Int))), (5, .int (iI ((earlier σ i (σ 2 c) : Nat) : Int))), (4, .ref (ad 3 (i))), (14, .int (iI ((nearL σ true c i : Nat) : Int))), (13, .int (iI ((nearL σ false c i : Nat) : Int))), (12, .int (iI ((earlier σ i (σ 2 c) : Nat) : Int))), (11, .ref (ad 3 (i))), (0, .ref (ad 0 (0))), (1, .ref (ad 5 (c))), (2, .int (iI (mom σ false))), (3, .int (iI (mom σ true))), (8, .ref (ad 2 (0))), (9, .int (iI ((30 : Nat) : Int)))]) hx hb dX2_bestStackFor_174 hl (k := 14) rfl (by decide) rfl (fun ls hl => ?_)
            refine lv_goto (tgt := 44) hx hb dX2_bestStackFor_177 (by decide) ?_
            have hl := lv_conv hl (l2 := [(10, .int (iI ((i + 1 : Nat) : Int))), (7, .int (iI ((nearL σ true c i : Nat) : Int))), (6, .int (iI ((nearL σ false c i : Nat) : Int))), (5, .int (iI ((earlier σ i (σ 2 c) : Nat) : Int))), (4, va_rf ((bestS σ c (i + 1)).map (ad 3))), (14, .int (iI ((nearL σ true c i : Nat) : Int))), (13, .int (iI ((nearL σ false c i : Nat) : Int))), (12, .int (iI ((earlier σ i (σ 2 c) : Nat) : Int))), (11, .ref (ad 3 (i))), (0, .ref (ad 0 (0))), (1, .ref (ad 5 (c))), (2, .int (iI (mom σ false))), (3, .int (iI (mom σ true))), (8, .ref (ad 2 (0))), (9, .int (iI ((30 : Nat) : Int)))]) (by rw [show bestS σ c (i + 1) = some i from (bestS_take (by assumption) (fun b hb => by rw [n_5] at hb; cases hb))]; rfl)
            exact ih_44 (i + 1) _ _ _ (by omega) (by omega) (by rw [show bestS σ c (i + 1) = some i from (bestS_take (by assumption) (fun b hb => by rw [n_5] at hb; cases hb))]; rfl) (by rw [show bestS σ c (i + 1) = some i from (bestS_take (by assumption) (fun b hb => by rw [n_5] at hb; cases hb))]; rfl) (by rw [show bestS σ c (i + 1) = some i from (bestS_take (by assumption) (fun b hb => by rw [n_5] at hb; cases hb))]; rfl) H locs ls hP hS (lv_sub hl [9, 10, 11, 12, 4, 3, 2, 1, 13, 14, 0] rfl)
      | some b_s =>
        rw [n_5] at hl
        have hl : lv_has ls 15 [(0, .ref (ad 0 (0))), (1, .ref (ad 5 (c))), (2, .int (iI (mom σ false))), (3, .int (iI (mom σ true))), (4, .ref (ad 3 (b_s))), (5, .int (iI ((earlier σ b_s (σ 2 c) : Nat) : Int))), (6, .int (iI ((nearL σ false c b_s : Nat) : Int))), (7, .int (iI ((nearL σ true c b_s : Nat) : Int))), (8, .ref (ad 2 (0))), (9, .int (iI ((30 : Nat) : Int))), (10, .int (iI ((i : Nat) : Int)))] := hl
        have n_5b : b_s < 30 := by (have := bestS_lt n_5; omega)
        have n_5e := earlier_le hI b_s (σ 2 c)
        have n_5l : nearL σ false c b_s ≤ 7000 ∧ nearL σ true c b_s ≤ 7000 := ⟨nearL_le hI false c n_5b, nearL_le hI true c n_5b⟩
        refine lv_iload hx hb dX2_bestStackFor_44 (lv_at hl 10 rfl) ?_
        refine lv_iload hx hb dX2_bestStackFor_46 (lv_at hl 9 rfl) ?_
        refine fw_icmp_ge (x := ((i : Nat) : Int)) (y := ((30 : Nat) : Int)) (tgt := 180) hx hb dX2_bestStackFor_48 (by decide) ⟨by omega, by omega⟩ ⟨by omega, by omega⟩ (fun c_15 => ?_) (fun c_15 => ?_)
        · refine lv_aload hx hb dX2_bestStackFor_180 (lv_at hl 4 rfl) ?_
          subst hQ
          exact fw_rret hx hb hr (Or.inl ⟨_, rfl⟩) hlocks dX2_bestStackFor_182 hP hS ⟨by rw [show bestS σ c 30 = some b_s from by rw [show i = 30 from by omega] at n_5; exact n_5]; rfl, rfl⟩
        · refine lv_aload hx hb dX2_bestStackFor_51 (lv_at hl 8 rfl) ?_
          refine lv_iload hx hb dX2_bestStackFor_53 (lv_at hl 10 rfl) ?_
          refine fw_aldN (j := i) hx hb hK hP WC_2 3 rfl (by omega) (by decide) dX2_bestStackFor_55 ?_
          refine fw_top (v' := .ref (ad 3 (i))) rfl ?_
          refine lv_astore (lv' := [(11, .ref (ad 3 (i))), (0, .ref (ad 0 (0))), (1, .ref (ad 5 (c))), (2, .int (iI (mom σ false))), (3, .int (iI (mom σ true))), (4, .ref (ad 3 (b_s))), (5, .int (iI ((earlier σ b_s (σ 2 c) : Nat) : Int))), (6, .int (iI ((nearL σ false c b_s : Nat) : Int))), (7, .int (iI ((nearL σ true c b_s : Nat) : Int))), (8, .ref (ad 2 (0))), (9, .int (iI ((30 : Nat) : Int))), (10, .int (iI ((i : Nat) : Int)))]) hx hb dX2_bestStackFor_56 hl (by decide) rfl (fun ls hl => ?_)
          refine lv_aload hx hb dX2_bestStackFor_58 (lv_at hl 0 rfl) ?_
          refine lv_ifnull hx hb dX2_bestStackFor_60 ?_
          refine lv_aload_n hx hb dX2_bestStackFor_63 rfl (lv_at hl 1 rfl) ?_
          refine lv_aload_n hx hb dX2_bestStackFor_64 rfl (lv_at hl 2 rfl) ?_
          refine lv_aload hx hb dX2_bestStackFor_65 (lv_at hl 0 rfl) ?_
          refine fw_cVi (As := [.ref (ad 5 (c)), .ref (ad 3 (i))]) (rest := []) ⟨hx, hb, hml, hown, hts⟩ (c_X2_isLoadable l D cA z ad σ μ c i hI hc (by omega)) (cwV 2 hts gX2_bestStackFor_X2_isLoadable rfl rfl rfl (by decide +kernel) ⟨Nat.le_of_ble_eq_true rfl, Nat.le_of_ble_eq_true rfl⟩) WC_0 rfl rfl hl.1 (Nat.le_of_ble_eq_true rfl) dX2_bestStackFor_67 ⟨Nat.le_of_ble_eq_true rfl, Nat.le_of_ble_eq_true rfl⟩ hK hP hS rfl (fun r w' H locs q_16 hP hS => ?_)
          obtain ⟨rfl, rfl⟩ := q_16
          refine fw_if_eqB (x := cB (allowed σ c i)) (tgt := 174) hx hb dX2_bestStackFor_70 (by decide) (fun c_17 => ?_) (fun c_17 => ?_)
          · replace c_17 := cB_f.mp c_17
            refine fw_iincN (x := i) (lv' := [(10, .int (iI ((i + 1 : Nat) : Int))), (11, .ref (ad 3 (i))), (0, .ref (ad 0 (0))), (1, .ref (ad 5 (c))), (2, .int (iI (mom σ false))), (3, .int (iI (mom σ true))), (4, .ref (ad 3 (b_s))), (5, .int (iI ((earlier σ b_s (σ 2 c) : Nat) : Int))), (6, .int (iI ((nearL σ false c b_s : Nat) : Int))), (7, .int (iI ((nearL σ true c b_s : Nat) : Int))), (8, .ref (ad 2 (0))), (9, .int (iI ((30 : Nat) : Int)))]) hx hb dX2_bestStackFor_174 hl (k := 11) rfl (by decide) rfl (fun ls hl => ?_)
            refine lv_goto (tgt := 44) hx hb dX2_bestStackFor_177 (by decide) ?_
            have hl := lv_conv hl (l2 := [(10, .int (iI ((i + 1 : Nat) : Int))), (11, .ref (ad 3 (i))), (0, .ref (ad 0 (0))), (1, .ref (ad 5 (c))), (2, .int (iI (mom σ false))), (3, .int (iI (mom σ true))), (4, va_rf ((bestS σ c (i + 1)).map (ad 3))), (5, .int (iI ((earlier σ b_s (σ 2 c) : Nat) : Int))), (6, .int (iI ((nearL σ false c b_s : Nat) : Int))), (7, .int (iI ((nearL σ true c b_s : Nat) : Int))), (8, .ref (ad 2 (0))), (9, .int (iI ((30 : Nat) : Int)))]) (by rw [show bestS σ c (i + 1) = some b_s from (bestS_no n_5 (by assumption))]; rfl)
            exact ih_44 (i + 1) _ _ _ (by omega) (by omega) (by rw [show bestS σ c (i + 1) = some b_s from (bestS_no n_5 (by assumption))]; rfl) (by rw [show bestS σ c (i + 1) = some b_s from (bestS_no n_5 (by assumption))]; rfl) (by rw [show bestS σ c (i + 1) = some b_s from (bestS_no n_5 (by assumption))]; rfl) H locs ls hP hS (lv_sub hl [2, 3, 4, 5, 6, 7, 8, 9, 10, 11, 0] rfl)
          · replace c_17 := cB_t.mp c_17
            refine lv_aload hx hb dX2_bestStackFor_73 (lv_at hl 0 rfl) ?_
            refine lv_aload_n hx hb dX2_bestStackFor_75 rfl (lv_at hl 2 rfl) ?_
            refine fw_get (ci := 0) (v := .int (iI ((σ 2 c : Nat) : Int))) (C := RX0) (T := TX0) (N := 8) hx hb hts hinX0 hown hK hP (WC_5 hc) rfl 3 (by decide) hf242 (fun _ h9 => h9) rfl dX2_bestStackFor_76 ?_
            have hc_18 := hI.c c
            refine fw_cVi (As := [.int (iI ((σ 2 c : Nat) : Int))]) (rest := []) ⟨hx, hb, hml, hown, hts⟩ (c_X1_countLandedBefore l D cA z ad σ μ i (σ 2 c) hI (by omega) (by omega)) (cwV 1 hts gX2_bestStackFor_X1_countLandedBefore rfl rfl rfl (by decide +kernel) ⟨Nat.le_of_ble_eq_true rfl, Nat.le_of_ble_eq_true rfl⟩) (WC_3 (by omega)) rfl rfl hl.1 (Nat.le_of_ble_eq_true rfl) dX2_bestStackFor_79 ⟨Nat.le_of_ble_eq_true rfl, Nat.le_of_ble_eq_true rfl⟩ hK hP hS rfl (fun r w' H locs q_19 hP hS => ?_)
            obtain ⟨rfl, rfl⟩ := q_19
            have hh_20 := high_le hI i
            have hp_21 := hI.pl i
            have hea := earlier_le hI i (σ 2 c)
            refine lv_istore (lv' := [(12, .int (iI ((earlier σ i (σ 2 c) : Nat) : Int))), (11, .ref (ad 3 (i))), (0, .ref (ad 0 (0))), (1, .ref (ad 5 (c))), (2, .int (iI (mom σ false))), (3, .int (iI (mom σ true))), (4, .ref (ad 3 (b_s))), (5, .int (iI ((earlier σ b_s (σ 2 c) : Nat) : Int))), (6, .int (iI ((nearL σ false c b_s : Nat) : Int))), (7, .int (iI ((nearL σ true c b_s : Nat) : Int))), (8, .ref (ad 2 (0))), (9, .int (iI ((30 : Nat) : Int))), (10, .int (iI ((i : Nat) : Int)))]) hx hb dX2_bestStackFor_82 hl (by decide) rfl (fun ls hl => ?_)
            refine lv_iload_n hx hb dX2_bestStackFor_84 rfl (lv_at hl 4 rfl) ?_
            refine lv_aload_n hx hb dX2_bestStackFor_85 rfl (lv_at hl 3 rfl) ?_
            refine fw_get (ci := 0) (v := .int (iI ((σ 0 c : Nat) : Int))) (C := RX0) (T := TX0) (N := 8) hx hb hts hinX0 hown hK hP (WC_5 hc) rfl 1 (by decide) hf169 (fun _ h9 => h9) rfl dX2_bestStackFor_86 ?_
            refine lv_aload hx hb dX2_bestStackFor_89 (lv_at hl 1 rfl) ?_
            refine fw_cVi (As := []) (rest := [.int (iI ((σ 0 c : Nat) : Int)), .int (iI (mom σ false))]) ⟨hx, hb, hml, hown, hts⟩ (c_X1_listArm l D cA z ad σ μ i hI (by omega)) (cwV 0 hts gX2_bestStackFor_X1_listArm rfl rfl rfl (by decide +kernel) ⟨Nat.le_of_ble_eq_true rfl, Nat.le_of_ble_eq_true rfl⟩) (WC_3 (by omega)) rfl rfl hl.1 (Nat.le_of_ble_eq_true rfl) dX2_bestStackFor_91 ⟨Nat.le_of_ble_eq_true rfl, Nat.le_of_ble_eq_true rfl⟩ hK hP hS rfl (fun r w' H locs q_22 hP hS => ?_)
            obtain ⟨rfl, rfl⟩ := q_22
            refine fw_imul (a := ((σ 0 c : Nat) : Int)) (b := (((i % 5 : Nat) : Int) - ((2 : Nat) : Int))) hx hb dX2_bestStackFor_94 ?_
            refine fw_iadd (a := (mom σ false)) (b := (((σ 0 c : Nat) : Int) * (((i % 5 : Nat) : Int) - ((2 : Nat) : Int)))) hx hb dX2_bestStackFor_95 ?_
            have hml_false := mul_le (hI.c c).1 (arm_le false (k := i) (by omega)); have hmo_false := mom_le hI false; unfold arm at hml_false; simp only [if_true, if_false, Bool.false_eq_true] at hml_false
            refine fw_abs (x := ((mom σ false) + (((σ 0 c : Nat) : Int) * (((i % 5 : Nat) : Int) - ((2 : Nat) : Int))))) hx hb (by rw [hml]; exact hl.1.symm) hown (hts (.methodLink RX2 176 Lib.Math.abs.name) (by decide +kernel)) (hts (.static Lib.Math.abs.name) (by decide +kernel)) (hts (.initialized "java/lang/Math") (by decide +kernel)) (hts (.code Lib.Math.abs.name Lib.Math.abs.code 1 (some .int)) (by decide +kernel)) (Nat.le_of_ble_eq_true rfl) (Nat.le_of_ble_eq_true rfl) (Nat.le_of_ble_eq_true rfl) (Nat.le_of_ble_eq_true rfl) ⟨by omega, by omega⟩ dX2_bestStackFor_96 ?_
            refine fw_topI (b := ((nearL σ false c i : Nat) : Int)) (by unfold nearL arm; simp) ?_
            have hnl_false := nearL_le hI false c (s := i) (by omega)
            refine lv_istore (lv' := [(13, .int (iI ((nearL σ false c i : Nat) : Int))), (12, .int (iI ((earlier σ i (σ 2 c) : Nat) : Int))), (11, .ref (ad 3 (i))), (0, .ref (ad 0 (0))), (1, .ref (ad 5 (c))), (2, .int (iI (mom σ false))), (3, .int (iI (mom σ true))), (4, .ref (ad 3 (b_s))), (5, .int (iI ((earlier σ b_s (σ 2 c) : Nat) : Int))), (6, .int (iI ((nearL σ false c b_s : Nat) : Int))), (7, .int (iI ((nearL σ true c b_s : Nat) : Int))), (8, .ref (ad 2 (0))), (9, .int (iI ((30 : Nat) : Int))), (10, .int (iI ((i : Nat) : Int)))]) hx hb dX2_bestStackFor_99 hl (by decide) rfl (fun ls hl => ?_)
            refine lv_iload_n hx hb dX2_bestStackFor_101 rfl (lv_at hl 6 rfl) ?_
            refine lv_aload_n hx hb dX2_bestStackFor_102 rfl (lv_at hl 4 rfl) ?_
            refine fw_get (ci := 0) (v := .int (iI ((σ 0 c : Nat) : Int))) (C := RX0) (T := TX0) (N := 8) hx hb hts hinX0 hown hK hP (WC_5 hc) rfl 1 (by decide) hf169 (fun _ h9 => h9) rfl dX2_bestStackFor_103 ?_
            refine lv_aload hx hb dX2_bestStackFor_106 (lv_at hl 2 rfl) ?_
            refine fw_cVi (As := []) (rest := [.int (iI ((σ 0 c : Nat) : Int)), .int (iI (mom σ true))]) ⟨hx, hb, hml, hown, hts⟩ (c_X1_trimArm l D cA z ad σ μ i hI (by omega)) (cwV 0 hts gX2_bestStackFor_X1_trimArm rfl rfl rfl (by decide +kernel) ⟨Nat.le_of_ble_eq_true rfl, Nat.le_of_ble_eq_true rfl⟩) (WC_3 (by omega)) rfl rfl hl.1 (Nat.le_of_ble_eq_true rfl) dX2_bestStackFor_108 ⟨Nat.le_of_ble_eq_true rfl, Nat.le_of_ble_eq_true rfl⟩ hK hP hS rfl (fun r w' H locs q_23 hP hS => ?_)
            obtain ⟨rfl, rfl⟩ := q_23
            refine fw_imul (a := ((σ 0 c : Nat) : Int)) (b := (((2 * (i / 5) : Nat) : Int) - ((5 : Nat) : Int))) hx hb dX2_bestStackFor_111 ?_
            refine fw_iadd (a := (mom σ true)) (b := (((σ 0 c : Nat) : Int) * (((2 * (i / 5) : Nat) : Int) - ((5 : Nat) : Int)))) hx hb dX2_bestStackFor_112 ?_
            have hml_true := mul_le (hI.c c).1 (arm_le true (k := i) (by omega)); have hmo_true := mom_le hI true; unfold arm at hml_true; simp only [if_true, if_false, Bool.false_eq_true] at hml_true
            refine fw_abs (x := ((mom σ true) + (((σ 0 c : Nat) : Int) * (((2 * (i / 5) : Nat) : Int) - ((5 : Nat) : Int))))) hx hb (by rw [hml]; exact hl.1.symm) hown (hts (.methodLink RX2 176 Lib.Math.abs.name) (by decide +kernel)) (hts (.static Lib.Math.abs.name) (by decide +kernel)) (hts (.initialized "java/lang/Math") (by decide +kernel)) (hts (.code Lib.Math.abs.name Lib.Math.abs.code 1 (some .int)) (by decide +kernel)) (Nat.le_of_ble_eq_true rfl) (Nat.le_of_ble_eq_true rfl) (Nat.le_of_ble_eq_true rfl) (Nat.le_of_ble_eq_true rfl) ⟨by omega, by omega⟩ dX2_bestStackFor_113 ?_
            refine fw_topI (b := ((nearL σ true c i : Nat) : Int)) (by unfold nearL arm; simp) ?_
            have hnl_true := nearL_le hI true c (s := i) (by omega)
            refine lv_istore (lv' := [(14, .int (iI ((nearL σ true c i : Nat) : Int))), (13, .int (iI ((nearL σ false c i : Nat) : Int))), (12, .int (iI ((earlier σ i (σ 2 c) : Nat) : Int))), (11, .ref (ad 3 (i))), (0, .ref (ad 0 (0))), (1, .ref (ad 5 (c))), (2, .int (iI (mom σ false))), (3, .int (iI (mom σ true))), (4, .ref (ad 3 (b_s))), (5, .int (iI ((earlier σ b_s (σ 2 c) : Nat) : Int))), (6, .int (iI ((nearL σ false c b_s : Nat) : Int))), (7, .int (iI ((nearL σ true c b_s : Nat) : Int))), (8, .ref (ad 2 (0))), (9, .int (iI ((30 : Nat) : Int))), (10, .int (iI ((i : Nat) : Int)))]) hx hb dX2_bestStackFor_116 hl (by decide) rfl (fun ls hl => ?_)
            refine lv_aload hx hb dX2_bestStackFor_118 (lv_at hl 8 rfl) ?_
            refine lv_ifnull hx hb dX2_bestStackFor_120 ?_
            refine lv_iload hx hb dX2_bestStackFor_123 (lv_at hl 2 rfl) ?_
            refine lv_iload hx hb dX2_bestStackFor_125 (lv_at hl 9 rfl) ?_
            refine fw_icmp_lt (x := ((earlier σ i (σ 2 c) : Nat) : Int)) (y := ((earlier σ b_s (σ 2 c) : Nat) : Int)) (tgt := 158) hx hb dX2_bestStackFor_127 (by decide) ⟨by omega, by omega⟩ ⟨by omega, by omega⟩ (fun c_24 => ?_) (fun c_24 => ?_)
            · refine lv_aload hx hb dX2_bestStackFor_158 (lv_at hl 3 rfl) ?_
              refine lv_astore (lv' := [(4, .ref (ad 3 (i))), (14, .int (iI ((nearL σ true c i : Nat) : Int))), (13, .int (iI ((nearL σ false c i : Nat) : Int))), (12, .int (iI ((earlier σ i (σ 2 c) : Nat) : Int))), (11, .ref (ad 3 (i))), (0, .ref (ad 0 (0))), (1, .ref (ad 5 (c))), (2, .int (iI (mom σ false))), (3, .int (iI (mom σ true))), (5, .int (iI ((earlier σ b_s (σ 2 c) : Nat) : Int))), (6, .int (iI ((nearL σ false c b_s : Nat) : Int))), (7, .int (iI ((nearL σ true c b_s : Nat) : Int))), (8, .ref (ad 2 (0))), (9, .int (iI ((30 : Nat) : Int))), (10, .int (iI ((i : Nat) : Int)))]) hx hb dX2_bestStackFor_160 hl (by decide) rfl (fun ls hl => ?_)
              refine lv_iload hx hb dX2_bestStackFor_162 (lv_at hl 3 rfl) ?_
              refine lv_istore (lv' := [(5, .int (iI ((earlier σ i (σ 2 c) : Nat) : Int))), (4, .ref (ad 3 (i))), (14, .int (iI ((nearL σ true c i : Nat) : Int))), (13, .int (iI ((nearL σ false c i : Nat) : Int))), (12, .int (iI ((earlier σ i (σ 2 c) : Nat) : Int))), (11, .ref (ad 3 (i))), (0, .ref (ad 0 (0))), (1, .ref (ad 5 (c))), (2, .int (iI (mom σ false))), (3, .int (iI (mom σ true))), (6, .int (iI ((nearL σ false c b_s : Nat) : Int))), (7, .int (iI ((nearL σ true c b_s : Nat) : Int))), (8, .ref (ad 2 (0))), (9, .int (iI ((30 : Nat) : Int))), (10, .int (iI ((i : Nat) : Int)))]) hx hb dX2_bestStackFor_164 hl (by decide) rfl (fun ls hl => ?_)
              refine lv_iload hx hb dX2_bestStackFor_166 (lv_at hl 3 rfl) ?_
              refine lv_istore (lv' := [(6, .int (iI ((nearL σ false c i : Nat) : Int))), (5, .int (iI ((earlier σ i (σ 2 c) : Nat) : Int))), (4, .ref (ad 3 (i))), (14, .int (iI ((nearL σ true c i : Nat) : Int))), (13, .int (iI ((nearL σ false c i : Nat) : Int))), (12, .int (iI ((earlier σ i (σ 2 c) : Nat) : Int))), (11, .ref (ad 3 (i))), (0, .ref (ad 0 (0))), (1, .ref (ad 5 (c))), (2, .int (iI (mom σ false))), (3, .int (iI (mom σ true))), (7, .int (iI ((nearL σ true c b_s : Nat) : Int))), (8, .ref (ad 2 (0))), (9, .int (iI ((30 : Nat) : Int))), (10, .int (iI ((i : Nat) : Int)))]) hx hb dX2_bestStackFor_168 hl (by decide) rfl (fun ls hl => ?_)
              refine lv_iload hx hb dX2_bestStackFor_170 (lv_at hl 3 rfl) ?_
              refine lv_istore (lv' := [(7, .int (iI ((nearL σ true c i : Nat) : Int))), (6, .int (iI ((nearL σ false c i : Nat) : Int))), (5, .int (iI ((earlier σ i (σ 2 c) : Nat) : Int))), (4, .ref (ad 3 (i))), (14, .int (iI ((nearL σ true c i : Nat) : Int))), (13, .int (iI ((nearL σ false c i : Nat) : Int))), (12, .int (iI ((earlier σ i (σ 2 c) : Nat) : Int))), (11, .ref (ad 3 (i))), (0, .ref (ad 0 (0))), (1, .ref (ad 5 (c))), (2, .int (iI (mom σ false))), (3, .int (iI (mom σ true))), (8, .ref (ad 2 (0))), (9, .int (iI ((30 : Nat) : Int))), (10, .int (iI ((i : Nat) : Int)))]) hx hb dX2_bestStackFor_172 hl (by decide) rfl (fun ls hl => ?_)
              refine fw_iincN (x := i) (lv' := [(10, .int (iI ((i + 1 : Nat) : Int))), (7, .int (iI ((nearL σ true c i : Nat) : Int))), (6, .int (iI ((nearL σ false c i : Nat) : Int))), (5, .int (iI ((earlier σ i (σ 2 c) : Nat) : Int))), (4, .ref (ad 3 (i))), (14, .int (iI ((nearL σ true c i : Nat) : Int))), (13, .int (iI ((nearL σ false c i : Nat) : Int))), (12, .int (iI ((earlier σ i (σ 2 c) : Nat) : Int))), (11, .ref (ad 3 (i))), (0, .ref (ad 0 (0))), (1, .ref (ad 5 (c))), (2, .int (iI (mom σ false))), (3, .int (iI (mom σ true))), (8, .ref (ad 2 (0))), (9, .int (iI ((30 : Nat) : Int)))]) hx hb dX2_bestStackFor_174 hl (k := 14) rfl (by decide) rfl (fun ls hl => ?_)
              refine lv_goto (tgt := 44) hx hb dX2_bestStackFor_177 (by decide) ?_
              have hl := lv_conv hl (l2 := [(10, .int (iI ((i + 1 : Nat) : Int))), (7, .int (iI ((nearL σ true c i : Nat) : Int))), (6, .int (iI ((nearL σ false c i : Nat) : Int))), (5, .int (iI ((earlier σ i (σ 2 c) : Nat) : Int))), (4, va_rf ((bestS σ c (i + 1)).map (ad 3))), (14, .int (iI ((nearL σ true c i : Nat) : Int))), (13, .int (iI ((nearL σ false c i : Nat) : Int))), (12, .int (iI ((earlier σ i (σ 2 c) : Nat) : Int))), (11, .ref (ad 3 (i))), (0, .ref (ad 0 (0))), (1, .ref (ad 5 (c))), (2, .int (iI (mom σ false))), (3, .int (iI (mom σ true))), (8, .ref (ad 2 (0))), (9, .int (iI ((30 : Nat) : Int)))]) (by rw [show bestS σ c (i + 1) = some i from (bestS_take (by assumption) (fun b hb => by rw [n_5] at hb; cases hb; unfold better; omega))]; rfl)
              exact ih_44 (i + 1) _ _ _ (by omega) (by omega) (by rw [show bestS σ c (i + 1) = some i from (bestS_take (by assumption) (fun b hb => by rw [n_5] at hb; cases hb; unfold better; omega))]; rfl) (by rw [show bestS σ c (i + 1) = some i from (bestS_take (by assumption) (fun b hb => by rw [n_5] at hb; cases hb; unfold better; omega))]; rfl) (by rw [show bestS σ c (i + 1) = some i from (bestS_take (by assumption) (fun b hb => by rw [n_5] at hb; cases hb; unfold better; omega))]; rfl) H locs ls hP hS (lv_sub hl [9, 10, 11, 12, 4, 3, 2, 1, 13, 14, 0] rfl)
            · refine lv_iload hx hb dX2_bestStackFor_130 (lv_at hl 2 rfl) ?_
              refine lv_iload hx hb dX2_bestStackFor_132 (lv_at hl 9 rfl) ?_
              refine fw_icmp_ne (x := ((earlier σ i (σ 2 c) : Nat) : Int)) (y := ((earlier σ b_s (σ 2 c) : Nat) : Int)) (tgt := 174) hx hb dX2_bestStackFor_134 (by decide) ⟨by omega, by omega⟩ ⟨by omega, by omega⟩ (fun c_25 => ?_) (fun c_25 => ?_)
              · refine fw_iincN (x := i) (lv' := [(10, .int (iI ((i + 1 : Nat) : Int))), (14, .int (iI ((nearL σ true c i : Nat) : Int))), (13, .int (iI ((nearL σ false c i : Nat) : Int))), (12, .int (iI ((earlier σ i (σ 2 c) : Nat) : Int))), (11, .ref (ad 3 (i))), (0, .ref (ad 0 (0))), (1, .ref (ad 5 (c))), (2, .int (iI (mom σ false))), (3, .int (iI (mom σ true))), (4, .ref (ad 3 (b_s))), (5, .int (iI ((earlier σ b_s (σ 2 c) : Nat) : Int))), (6, .int (iI ((nearL σ false c b_s : Nat) : Int))), (7, .int (iI ((nearL σ true c b_s : Nat) : Int))), (8, .ref (ad 2 (0))), (9, .int (iI ((30 : Nat) : Int)))]) hx hb dX2_bestStackFor_174 hl (k := 14) rfl (by decide) rfl (fun ls hl => ?_)
                refine lv_goto (tgt := 44) hx hb dX2_bestStackFor_177 (by decide) ?_
                have hl := lv_conv hl (l2 := [(10, .int (iI ((i + 1 : Nat) : Int))), (14, .int (iI ((nearL σ true c i : Nat) : Int))), (13, .int (iI ((nearL σ false c i : Nat) : Int))), (12, .int (iI ((earlier σ i (σ 2 c) : Nat) : Int))), (11, .ref (ad 3 (i))), (0, .ref (ad 0 (0))), (1, .ref (ad 5 (c))), (2, .int (iI (mom σ false))), (3, .int (iI (mom σ true))), (4, va_rf ((bestS σ c (i + 1)).map (ad 3))), (5, .int (iI ((earlier σ b_s (σ 2 c) : Nat) : Int))), (6, .int (iI ((nearL σ false c b_s : Nat) : Int))), (7, .int (iI ((nearL σ true c b_s : Nat) : Int))), (8, .ref (ad 2 (0))), (9, .int (iI ((30 : Nat) : Int)))]) (by rw [show bestS σ c (i + 1) = some b_s from (bestS_nb n_5 (by unfold better; omega))]; rfl)
                exact ih_44 (i + 1) _ _ _ (by omega) (by omega) (by rw [show bestS σ c (i + 1) = some b_s from (bestS_nb n_5 (by unfold better; omega))]; rfl) (by rw [show bestS σ c (i + 1) = some b_s from (bestS_nb n_5 (by unfold better; omega))]; rfl) (by rw [show bestS σ c (i + 1) = some b_s from (bestS_nb n_5 (by unfold better; omega))]; rfl) H locs ls hP hS (lv_sub hl [5, 6, 7, 8, 9, 10, 11, 12, 13, 14, 0] rfl)
              · refine lv_iload hx hb dX2_bestStackFor_137 (lv_at hl 1 rfl) ?_
                refine lv_iload hx hb dX2_bestStackFor_139 (lv_at hl 10 rfl) ?_
                refine fw_icmp_lt (x := ((nearL σ false c i : Nat) : Int)) (y := ((nearL σ false c b_s : Nat) : Int)) (tgt := 158) hx hb dX2_bestStackFor_141 (by decide) ⟨by omega, by omega⟩ ⟨by omega, by omega⟩ (fun c_26 => ?_) (fun c_26 => ?_)
                · refine lv_aload hx hb dX2_bestStackFor_158 (lv_at hl 3 rfl) ?_
                  refine lv_astore (lv' := [(4, .ref (ad 3 (i))), (14, .int (iI ((nearL σ true c i : Nat) : Int))), (13, .int (iI ((nearL σ false c i : Nat) : Int))), (12, .int (iI ((earlier σ i (σ 2 c) : Nat) : Int))), (11, .ref (ad 3 (i))), (0, .ref (ad 0 (0))), (1, .ref (ad 5 (c))), (2, .int (iI (mom σ false))), (3, .int (iI (mom σ true))), (5, .int (iI ((earlier σ b_s (σ 2 c) : Nat) : Int))), (6, .int (iI ((nearL σ false c b_s : Nat) : Int))), (7, .int (iI ((nearL σ true c b_s : Nat) : Int))), (8, .ref (ad 2 (0))), (9, .int (iI ((30 : Nat) : Int))), (10, .int (iI ((i : Nat) : Int)))]) hx hb dX2_bestStackFor_160 hl (by decide) rfl (fun ls hl => ?_)
                  refine lv_iload hx hb dX2_bestStackFor_162 (lv_at hl 3 rfl) ?_
                  refine lv_istore (lv' := [(5, .int (iI ((earlier σ i (σ 2 c) : Nat) : Int))), (4, .ref (ad 3 (i))), (14, .int (iI ((nearL σ true c i : Nat) : Int))), (13, .int (iI ((nearL σ false c i : Nat) : Int))), (12, .int (iI ((earlier σ i (σ 2 c) : Nat) : Int))), (11, .ref (ad 3 (i))), (0, .ref (ad 0 (0))), (1, .ref (ad 5 (c))), (2, .int (iI (mom σ false))), (3, .int (iI (mom σ true))), (6, .int (iI ((nearL σ false c b_s : Nat) : Int))), (7, .int (iI ((nearL σ true c b_s : Nat) : Int))), (8, .ref (ad 2 (0))), (9, .int (iI ((30 : Nat) : Int))), (10, .int (iI ((i : Nat) : Int)))]) hx hb dX2_bestStackFor_164 hl (by decide) rfl (fun ls hl => ?_)
                  refine lv_iload hx hb dX2_bestStackFor_166 (lv_at hl 3 rfl) ?_
                  refine lv_istore (lv' := [(6, .int (iI ((nearL σ false c i : Nat) : Int))), (5, .int (iI ((earlier σ i (σ 2 c) : Nat) : Int))), (4, .ref (ad 3 (i))), (14, .int (iI ((nearL σ true c i : Nat) : Int))), (13, .int (iI ((nearL σ false c i : Nat) : Int))), (12, .int (iI ((earlier σ i (σ 2 c) : Nat) : Int))), (11, .ref (ad 3 (i))), (0, .ref (ad 0 (0))), (1, .ref (ad 5 (c))), (2, .int (iI (mom σ false))), (3, .int (iI (mom σ true))), (7, .int (iI ((nearL σ true c b_s : Nat) : Int))), (8, .ref (ad 2 (0))), (9, .int (iI ((30 : Nat) : Int))), (10, .int (iI ((i : Nat) : Int)))]) hx hb dX2_bestStackFor_168 hl (by decide) rfl (fun ls hl => ?_)
                  refine lv_iload hx hb dX2_bestStackFor_170 (lv_at hl 3 rfl) ?_
                  refine lv_istore (lv' := [(7, .int (iI ((nearL σ true c i : Nat) : Int))), (6, .int (iI ((nearL σ false c i : Nat) : Int))), (5, .int (iI ((earlier σ i (σ 2 c) : Nat) : Int))), (4, .ref (ad 3 (i))), (14, .int (iI ((nearL σ true c i : Nat) : Int))), (13, .int (iI ((nearL σ false c i : Nat) : Int))), (12, .int (iI ((earlier σ i (σ 2 c) : Nat) : Int))), (11, .ref (ad 3 (i))), (0, .ref (ad 0 (0))), (1, .ref (ad 5 (c))), (2, .int (iI (mom σ false))), (3, .int (iI (mom σ true))), (8, .ref (ad 2 (0))), (9, .int (iI ((30 : Nat) : Int))), (10, .int (iI ((i : Nat) : Int)))]) hx hb dX2_bestStackFor_172 hl (by decide) rfl (fun ls hl => ?_)
                  refine fw_iincN (x := i) (lv' := [(10, .int (iI ((i + 1 : Nat) : Int))), (7, .int (iI ((nearL σ true c i : Nat) : Int))), (6, .int (iI ((nearL σ false c i : Nat) : Int))), (5, .int (iI ((earlier σ i (σ 2 c) : Nat) : Int))), (4, .ref (ad 3 (i))), (14, .int (iI ((nearL σ true c i : Nat) : Int))), (13, .int (iI ((nearL σ false c i : Nat) : Int))), (12, .int (iI ((earlier σ i (σ 2 c) : Nat) : Int))), (11, .ref (ad 3 (i))), (0, .ref (ad 0 (0))), (1, .ref (ad 5 (c))), (2, .int (iI (mom σ false))), (3, .int (iI (mom σ true))), (8, .ref (ad 2 (0))), (9, .int (iI ((30 : Nat) : Int)))]) hx hb dX2_bestStackFor_174 hl (k := 14) rfl (by decide) rfl (fun ls hl => ?_)
                  refine lv_goto (tgt := 44) hx hb dX2_bestStackFor_177 (by decide) ?_
                  have hl := lv_conv hl (l2 := [(10, .int (iI ((i + 1 : Nat) : Int))), (7, .int (iI ((nearL σ true c i : Nat) : Int))), (6, .int (iI ((nearL σ false c i : Nat) : Int))), (5, .int (iI ((earlier σ i (σ 2 c) : Nat) : Int))), (4, va_rf ((bestS σ c (i + 1)).map (ad 3))), (14, .int (iI ((nearL σ true c i : Nat) : Int))), (13, .int (iI ((nearL σ false c i : Nat) : Int))), (12, .int (iI ((earlier σ i (σ 2 c) : Nat) : Int))), (11, .ref (ad 3 (i))), (0, .ref (ad 0 (0))), (1, .ref (ad 5 (c))), (2, .int (iI (mom σ false))), (3, .int (iI (mom σ true))), (8, .ref (ad 2 (0))), (9, .int (iI ((30 : Nat) : Int)))]) (by rw [show bestS σ c (i + 1) = some i from (bestS_take (by assumption) (fun b hb => by rw [n_5] at hb; cases hb; unfold better; omega))]; rfl)
                  exact ih_44 (i + 1) _ _ _ (by omega) (by omega) (by rw [show bestS σ c (i + 1) = some i from (bestS_take (by assumption) (fun b hb => by rw [n_5] at hb; cases hb; unfold better; omega))]; rfl) (by rw [show bestS σ c (i + 1) = some i from (bestS_take (by assumption) (fun b hb => by rw [n_5] at hb; cases hb; unfold better; omega))]; rfl) (by rw [show bestS σ c (i + 1) = some i from (bestS_take (by assumption) (fun b hb => by rw [n_5] at hb; cases hb; unfold better; omega))]; rfl) H locs ls hP hS (lv_sub hl [9, 10, 11, 12, 4, 3, 2, 1, 13, 14, 0] rfl)
                · refine lv_iload hx hb dX2_bestStackFor_144 (lv_at hl 1 rfl) ?_
                  refine lv_iload hx hb dX2_bestStackFor_146 (lv_at hl 10 rfl) ?_
                  refine fw_icmp_ne (x := ((nearL σ false c i : Nat) : Int)) (y := ((nearL σ false c b_s : Nat) : Int)) (tgt := 174) hx hb dX2_bestStackFor_148 (by decide) ⟨by omega, by omega⟩ ⟨by omega, by omega⟩ (fun c_27 => ?_) (fun c_27 => ?_)
                  · refine fw_iincN (x := i) (lv' := [(10, .int (iI ((i + 1 : Nat) : Int))), (14, .int (iI ((nearL σ true c i : Nat) : Int))), (13, .int (iI ((nearL σ false c i : Nat) : Int))), (12, .int (iI ((earlier σ i (σ 2 c) : Nat) : Int))), (11, .ref (ad 3 (i))), (0, .ref (ad 0 (0))), (1, .ref (ad 5 (c))), (2, .int (iI (mom σ false))), (3, .int (iI (mom σ true))), (4, .ref (ad 3 (b_s))), (5, .int (iI ((earlier σ b_s (σ 2 c) : Nat) : Int))), (6, .int (iI ((nearL σ false c b_s : Nat) : Int))), (7, .int (iI ((nearL σ true c b_s : Nat) : Int))), (8, .ref (ad 2 (0))), (9, .int (iI ((30 : Nat) : Int)))]) hx hb dX2_bestStackFor_174 hl (k := 14) rfl (by decide) rfl (fun ls hl => ?_)
                    refine lv_goto (tgt := 44) hx hb dX2_bestStackFor_177 (by decide) ?_
                    have hl := lv_conv hl (l2 := [(10, .int (iI ((i + 1 : Nat) : Int))), (14, .int (iI ((nearL σ true c i : Nat) : Int))), (13, .int (iI ((nearL σ false c i : Nat) : Int))), (12, .int (iI ((earlier σ i (σ 2 c) : Nat) : Int))), (11, .ref (ad 3 (i))), (0, .ref (ad 0 (0))), (1, .ref (ad 5 (c))), (2, .int (iI (mom σ false))), (3, .int (iI (mom σ true))), (4, va_rf ((bestS σ c (i + 1)).map (ad 3))), (5, .int (iI ((earlier σ b_s (σ 2 c) : Nat) : Int))), (6, .int (iI ((nearL σ false c b_s : Nat) : Int))), (7, .int (iI ((nearL σ true c b_s : Nat) : Int))), (8, .ref (ad 2 (0))), (9, .int (iI ((30 : Nat) : Int)))]) (by rw [show bestS σ c (i + 1) = some b_s from (bestS_nb n_5 (by unfold better; omega))]; rfl)
                    exact ih_44 (i + 1) _ _ _ (by omega) (by omega) (by rw [show bestS σ c (i + 1) = some b_s from (bestS_nb n_5 (by unfold better; omega))]; rfl) (by rw [show bestS σ c (i + 1) = some b_s from (bestS_nb n_5 (by unfold better; omega))]; rfl) (by rw [show bestS σ c (i + 1) = some b_s from (bestS_nb n_5 (by unfold better; omega))]; rfl) H locs ls hP hS (lv_sub hl [5, 6, 7, 8, 9, 10, 11, 12, 13, 14, 0] rfl)
                  · refine lv_iload hx hb dX2_bestStackFor_151 (lv_at hl 0 rfl) ?_
                    refine lv_iload hx hb dX2_bestStackFor_153 (lv_at hl 11 rfl) ?_
                    refine fw_icmp_ge (x := ((nearL σ true c i : Nat) : Int)) (y := ((nearL σ true c b_s : Nat) : Int)) (tgt := 174) hx hb dX2_bestStackFor_155 (by decide) ⟨by omega, by omega⟩ ⟨by omega, by omega⟩ (fun c_28 => ?_) (fun c_28 => ?_)
                    · refine fw_iincN (x := i) (lv' := [(10, .int (iI ((i + 1 : Nat) : Int))), (14, .int (iI ((nearL σ true c i : Nat) : Int))), (13, .int (iI ((nearL σ false c i : Nat) : Int))), (12, .int (iI ((earlier σ i (σ 2 c) : Nat) : Int))), (11, .ref (ad 3 (i))), (0, .ref (ad 0 (0))), (1, .ref (ad 5 (c))), (2, .int (iI (mom σ false))), (3, .int (iI (mom σ true))), (4, .ref (ad 3 (b_s))), (5, .int (iI ((earlier σ b_s (σ 2 c) : Nat) : Int))), (6, .int (iI ((nearL σ false c b_s : Nat) : Int))), (7, .int (iI ((nearL σ true c b_s : Nat) : Int))), (8, .ref (ad 2 (0))), (9, .int (iI ((30 : Nat) : Int)))]) hx hb dX2_bestStackFor_174 hl (k := 14) rfl (by decide) rfl (fun ls hl => ?_)
                      refine lv_goto (tgt := 44) hx hb dX2_bestStackFor_177 (by decide) ?_
                      have hl := lv_conv hl (l2 := [(10, .int (iI ((i + 1 : Nat) : Int))), (14, .int (iI ((nearL σ true c i : Nat) : Int))), (13, .int (iI ((nearL σ false c i : Nat) : Int))), (12, .int (iI ((earlier σ i (σ 2 c) : Nat) : Int))), (11, .ref (ad 3 (i))), (0, .ref (ad 0 (0))), (1, .ref (ad 5 (c))), (2, .int (iI (mom σ false))), (3, .int (iI (mom σ true))), (4, va_rf ((bestS σ c (i + 1)).map (ad 3))), (5, .int (iI ((earlier σ b_s (σ 2 c) : Nat) : Int))), (6, .int (iI ((nearL σ false c b_s : Nat) : Int))), (7, .int (iI ((nearL σ true c b_s : Nat) : Int))), (8, .ref (ad 2 (0))), (9, .int (iI ((30 : Nat) : Int)))]) (by rw [show bestS σ c (i + 1) = some b_s from (bestS_nb n_5 (by unfold better; omega))]; rfl)
                      exact ih_44 (i + 1) _ _ _ (by omega) (by omega) (by rw [show bestS σ c (i + 1) = some b_s from (bestS_nb n_5 (by unfold better; omega))]; rfl) (by rw [show bestS σ c (i + 1) = some b_s from (bestS_nb n_5 (by unfold better; omega))]; rfl) (by rw [show bestS σ c (i + 1) = some b_s from (bestS_nb n_5 (by unfold better; omega))]; rfl) H locs ls hP hS (lv_sub hl [5, 6, 7, 8, 9, 10, 11, 12, 13, 14, 0] rfl)
                    · refine lv_aload hx hb dX2_bestStackFor_158 (lv_at hl 3 rfl) ?_
                      refine lv_astore (lv' := [(4, .ref (ad 3 (i))), (14, .int (iI ((nearL σ true c i : Nat) : Int))), (13, .int (iI ((nearL σ false c i : Nat) : Int))), (12, .int (iI ((earlier σ i (σ 2 c) : Nat) : Int))), (11, .ref (ad 3 (i))), (0, .ref (ad 0 (0))), (1, .ref (ad 5 (c))), (2, .int (iI (mom σ false))), (3, .int (iI (mom σ true))), (5, .int (iI ((earlier σ b_s (σ 2 c) : Nat) : Int))), (6, .int (iI ((nearL σ false c b_s : Nat) : Int))), (7, .int (iI ((nearL σ true c b_s : Nat) : Int))), (8, .ref (ad 2 (0))), (9, .int (iI ((30 : Nat) : Int))), (10, .int (iI ((i : Nat) : Int)))]) hx hb dX2_bestStackFor_160 hl (by decide) rfl (fun ls hl => ?_)
                      refine lv_iload hx hb dX2_bestStackFor_162 (lv_at hl 3 rfl) ?_
                      refine lv_istore (lv' := [(5, .int (iI ((earlier σ i (σ 2 c) : Nat) : Int))), (4, .ref (ad 3 (i))), (14, .int (iI ((nearL σ true c i : Nat) : Int))), (13, .int (iI ((nearL σ false c i : Nat) : Int))), (12, .int (iI ((earlier σ i (σ 2 c) : Nat) : Int))), (11, .ref (ad 3 (i))), (0, .ref (ad 0 (0))), (1, .ref (ad 5 (c))), (2, .int (iI (mom σ false))), (3, .int (iI (mom σ true))), (6, .int (iI ((nearL σ false c b_s : Nat) : Int))), (7, .int (iI ((nearL σ true c b_s : Nat) : Int))), (8, .ref (ad 2 (0))), (9, .int (iI ((30 : Nat) : Int))), (10, .int (iI ((i : Nat) : Int)))]) hx hb dX2_bestStackFor_164 hl (by decide) rfl (fun ls hl => ?_)
                      refine lv_iload hx hb dX2_bestStackFor_166 (lv_at hl 3 rfl) ?_
                      refine lv_istore (lv' := [(6, .int (iI ((nearL σ false c i : Nat) : Int))), (5, .int (iI ((earlier σ i (σ 2 c) : Nat) : Int))), (4, .ref (ad 3 (i))), (14, .int (iI ((nearL σ true c i : Nat) : Int))), (13, .int (iI ((nearL σ false c i : Nat) : Int))), (12, .int (iI ((earlier σ i (σ 2 c) : Nat) : Int))), (11, .ref (ad 3 (i))), (0, .ref (ad 0 (0))), (1, .ref (ad 5 (c))), (2, .int (iI (mom σ false))), (3, .int (iI (mom σ true))), (7, .int (iI ((nearL σ true c b_s : Nat) : Int))), (8, .ref (ad 2 (0))), (9, .int (iI ((30 : Nat) : Int))), (10, .int (iI ((i : Nat) : Int)))]) hx hb dX2_bestStackFor_168 hl (by decide) rfl (fun ls hl => ?_)
                      refine lv_iload hx hb dX2_bestStackFor_170 (lv_at hl 3 rfl) ?_
                      refine lv_istore (lv' := [(7, .int (iI ((nearL σ true c i : Nat) : Int))), (6, .int (iI ((nearL σ false c i : Nat) : Int))), (5, .int (iI ((earlier σ i (σ 2 c) : Nat) : Int))), (4, .ref (ad 3 (i))), (14, .int (iI ((nearL σ true c i : Nat) : Int))), (13, .int (iI ((nearL σ false c i : Nat) : Int))), (12, .int (iI ((earlier σ i (σ 2 c) : Nat) : Int))), (11, .ref (ad 3 (i))), (0, .ref (ad 0 (0))), (1, .ref (ad 5 (c))), (2, .int (iI (mom σ false))), (3, .int (iI (mom σ true))), (8, .ref (ad 2 (0))), (9, .int (iI ((30 : Nat) : Int))), (10, .int (iI ((i : Nat) : Int)))]) hx hb dX2_bestStackFor_172 hl (by decide) rfl (fun ls hl => ?_)
                      refine fw_iincN (x := i) (lv' := [(10, .int (iI ((i + 1 : Nat) : Int))), (7, .int (iI ((nearL σ true c i : Nat) : Int))), (6, .int (iI ((nearL σ false c i : Nat) : Int))), (5, .int (iI ((earlier σ i (σ 2 c) : Nat) : Int))), (4, .ref (ad 3 (i))), (14, .int (iI ((nearL σ true c i : Nat) : Int))), (13, .int (iI ((nearL σ false c i : Nat) : Int))), (12, .int (iI ((earlier σ i (σ 2 c) : Nat) : Int))), (11, .ref (ad 3 (i))), (0, .ref (ad 0 (0))), (1, .ref (ad 5 (c))), (2, .int (iI (mom σ false))), (3, .int (iI (mom σ true))), (8, .ref (ad 2 (0))), (9, .int (iI ((30 : Nat) : Int)))]) hx hb dX2_bestStackFor_174 hl (k := 14) rfl (by decide) rfl (fun ls hl => ?_)
                      refine lv_goto (tgt := 44) hx hb dX2_bestStackFor_177 (by decide) ?_
                      have hl := lv_conv hl (l2 := [(10, .int (iI ((i + 1 : Nat) : Int))), (7, .int (iI ((nearL σ true c i : Nat) : Int))), (6, .int (iI ((nearL σ false c i : Nat) : Int))), (5, .int (iI ((earlier σ i (σ 2 c) : Nat) : Int))), (4, va_rf ((bestS σ c (i + 1)).map (ad 3))), (14, .int (iI ((nearL σ true c i : Nat) : Int))), (13, .int (iI ((nearL σ false c i : Nat) : Int))), (12, .int (iI ((earlier σ i (σ 2 c) : Nat) : Int))), (11, .ref (ad 3 (i))), (0, .ref (ad 0 (0))), (1, .ref (ad 5 (c))), (2, .int (iI (mom σ false))), (3, .int (iI (mom σ true))), (8, .ref (ad 2 (0))), (9, .int (iI ((30 : Nat) : Int)))]) (by rw [show bestS σ c (i + 1) = some i from (bestS_take (by assumption) (fun b hb => by rw [n_5] at hb; cases hb; unfold better; omega))]; rfl)
                      exact ih_44 (i + 1) _ _ _ (by omega) (by omega) (by rw [show bestS σ c (i + 1) = some i from (bestS_take (by assumption) (fun b hb => by rw [n_5] at hb; cases hb; unfold better; omega))]; rfl) (by rw [show bestS σ c (i + 1) = some i from (bestS_take (by assumption) (fun b hb => by rw [n_5] at hb; cases hb; unfold better; omega))]; rfl) (by rw [show bestS σ c (i + 1) = some i from (bestS_take (by assumption) (fun b hb => by rw [n_5] at hb; cases hb; unfold better; omega))]; rfl) H locs ls hP hS (lv_sub hl [9, 10, 11, 12, 4, 3, 2, 1, 13, 14, 0] rfl)
  have hl := lv_conv hl (l2 := [(10, .int (iI ((0 : Nat) : Int))), (9, .int (iI ((30 : Nat) : Int))), (8, .ref (ad 2 (0))), (7, .int (iI ((0 : Nat) : Int))), (6, .int (iI ((0 : Nat) : Int))), (5, .int (iI ((0 : Nat) : Int))), (4, va_rf ((bestS σ c 0).map (ad 3))), (3, .int (iI (mom σ true))), (2, .int (iI (mom σ false))), (0, .ref (ad 0 (0))), (1, .ref (ad 5 (c)))]) (by rw [show bestS σ c 0 = none from rfl]; rfl)
  exact loop_44 (30 + 1) (0) _ _ _ (by omega) (by omega) (by rfl) (by rfl) (by rfl) H locs ls hP hS (lv_sub hl [9, 10, 8, 7, 6, 5, 4, 3, 2, 1, 0] rfl)

abbrev rm_X2_bestStackFor_n : Room := { frames := 4, cells := 0, slots := 0, locals := 91 }
abbrev po_X2_bestStackFor_n (cA : Nat → ClassId) (ad : fw_Ad) (σ : St) (μ : fw_W) : Option Nat → fw_W → Prop := fun r w' => r = none ∧ w' = WC cA ad σ μ
set_option maxHeartbeats 4000000 in
set_option maxRecDepth 100000 in
theorem c_X2_bestStackFor_n (l : Launch) (D : va_G) (cA : Nat → ClassId) (z : Nat) (ad : fw_Ad) (σ : St) (μ : fw_W) (hI : Inv σ) : Met l yX2_bestStackFor wsX2_bestStackFor rm_X2_bestStackFor_n (va_Pc [.ref (ad 0 (0)), .null] (fw_Pre D vwCl (fw_T cA) z ad (WC cA ad σ μ))) (fw_Qq D vwCl z ad (po_X2_bestStackFor_n cA ad σ μ)) 0 0 (fw_A z) := by
  refine Met.ofW (cc := cX2_bestStackFor) (maxL := 15) (ret := (some (.object "StowagePlan$Stack"))) (by decide) rfl ?_
  intro pg en s m args below meth cd s₁ B hml hv
  obtain ⟨hargs, hP, hK⟩ := hv
  have hx := B.exec
  have hb := B.bytes
  have hr := B.returns
  have hts := atoms_spec (ws := wsX2_bestStackFor) B.pre
  have hown : s.vm.findClass RX2 = some m.cls := findClass_of_methodNamed B.named
  have hlocks := B.notSynchronized
  have hl := lv_entry ([.ref (ad 0 (0)), .null]) (n := 15) (Nat.le_of_ble_eq_true rfl)
  have hent : entryFrame m args 15 = entryFrame m ([.ref (ad 0 (0)), .null] : List Value).toArray 15 := by rw [hargs]
  rw [hent, lg_entry_eq]
  generalize (lg_sl ([.ref (ad 0 (0)), .null]) ++ List.replicate (15 - (lg_sl ([.ref (ad 0 (0)), .null])).length) Slot.unset).toArray = ls at hl ⊢
  have hl : lv_has ls 15 [(0, .ref (ad 0 (0))), (1, .null)] := hl
  generalize hQ : MQ below (fw_Qq D vwCl z ad (po_X2_bestStackFor_n cA ad σ μ)) args s 0 0 (fw_A z) = Q
  generalize hH : s.heap = H at hP ⊢
  have hS : va_S (fw_A z) s.heap H [] := by rw [← hH]; exact va_S.rf
  generalize ([] : List Loc) = locs at hS ⊢
  refine lv_aload_nN hx hb dX2_bestStackFor_0 rfl (lv_at hl 1 rfl) ?_
  refine lv_ifnonnullN hx hb dX2_bestStackFor_1 ?_
  refine lv_null hx hb dX2_bestStackFor_4 ?_
  subst hQ
  exact fw_nret hx hb hr (Or.inl ⟨_, rfl⟩) hlocks dX2_bestStackFor_5 hP hS ⟨rfl, rfl⟩
