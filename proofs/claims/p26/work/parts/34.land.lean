abbrev rm_X1_land : Room := { frames := 1, cells := 0, slots := 0, locals := 21 }
abbrev po_X1_land (cA : Nat → ClassId) (ad : fw_Ad) (σ : St) (μ : fw_W) (k p : Nat) : fw_W → Prop := fun w' => w' = WC cA ad (ldS σ k p 4) μ
set_option maxHeartbeats 4000000 in
set_option maxRecDepth 100000 in
theorem c_X1_land (l : Launch) (D : va_G) (cA : Nat → ClassId) (z : Nat) (ad : fw_Ad) (σ : St) (μ : fw_W) (k p : Nat) (hI : Inv σ) (hk : k < 30) (hp : p ≤ 5) : Met l yX1_land wsX1_land rm_X1_land (va_Pc [.ref (ad 3 (k)), .int (iI ((p : Nat) : Int))] (fw_Pre D vwCl (fw_T cA) z ad (WC cA ad σ μ))) (fw_Qv D vwCl z ad (po_X1_land cA ad σ μ k p)) 0 0 (fw_A z) := by
  refine Met.ofW (cc := cX1_land) (maxL := 4) (ret := none) (by decide) rfl ?_
  intro pg en s m args below meth cd s₁ B hml hv
  obtain ⟨hargs, hP, hK⟩ := hv
  have hx := B.exec
  have hb := B.bytes
  have hr := B.returns
  have hts := atoms_spec (ws := wsX1_land) B.pre
  have hown : s.vm.findClass RX1 = some m.cls := findClass_of_methodNamed B.named
  have hlocks := B.notSynchronized
  have hinX0 : ∀ w ∈ u_ws RX0 TX0 8, w ∈ wsX1_land := by decide +kernel
  have hinX1 : ∀ w ∈ u_ws RX1 TX1 5, w ∈ wsX1_land := by decide +kernel
  have hf17 := hts (.fieldLink RX1 17 "StowagePlan$Stack" "size" "I") (by decide +kernel)
  have hf11 := hts (.fieldLink RX1 11 "StowagePlan$Stack" "boxes" "[LStowagePlan$Box;") (by decide +kernel)
  have hf48 := hts (.fieldLink RX1 48 "StowagePlan$Box" "to" "I") (by decide +kernel)
  have hf41 := hts (.fieldLink RX1 41 "StowagePlan$Box" "stack" "LStowagePlan$Stack;") (by decide +kernel)
  have hf51 := hts (.fieldLink RX1 51 "StowagePlan$Box" "isLanded" "Z") (by decide +kernel)
  have hl := lv_entry ([.ref (ad 3 (k)), .int (iI ((p : Nat) : Int))]) (n := 4) (Nat.le_of_ble_eq_true rfl)
  have hent : entryFrame m args 4 = entryFrame m ([.ref (ad 3 (k)), .int (iI ((p : Nat) : Int))] : List Value).toArray 4 := by rw [hargs]
  rw [hent, lg_entry_eq]
  generalize (lg_sl ([.ref (ad 3 (k)), .int (iI ((p : Nat) : Int))]) ++ List.replicate (4 - (lg_sl ([.ref (ad 3 (k)), .int (iI ((p : Nat) : Int))])).length) Slot.unset).toArray = ls at hl ⊢
  have hl : lv_has ls 4 [(0, .ref (ad 3 (k))), (1, .int (iI ((p : Nat) : Int)))] := hl
  generalize hQ : MQ below (fw_Qv D vwCl z ad (po_X1_land cA ad σ μ k p)) args s 0 0 (fw_A z) = Q
  generalize hH : s.heap = H at hP ⊢
  have hS : va_S (fw_A z) s.heap H [] := by rw [← hH]; exact va_S.rf
  generalize ([] : List Loc) = locs at hS ⊢
  refine lv_aload_n hx hb dX1_land_0 rfl (lv_at hl 0 rfl) ?_
  refine lv_iconst (v := iI ((0 : Nat) : Int)) hx hb dX1_land_1 (by decide) ?_
  refine fw_put (ci := 1) (v := .int (iI ((0 : Nat) : Int))) (ty := .int) (C := RX1) (T := TX1) (N := 5) hx hb hts hinX1 tyX1 tyX1_ok nmX1 hown hK hP hS (WC_3 hk) rfl 3 (by decide) hf17 (fun _ h9 => h9) rfl (by decide +kernel) rfl rfl (Nat.le_of_ble_eq_true rfl) dX1_land_2 (fun H locs hP hS => ?_)
  obtain ⟨w_1, h_w_1⟩ : ∃ x, x = fw_up (WC cA ad σ μ) 3 (k) (.inr (1, [.int (iI ((k / 5 : Nat) : Int)), .int (iI ((k % 5 : Nat) : Int)), .ref (ad 4 (k)), .int (iI ((0 : Nat) : Int)), .int (iI ((σ 7 k : Nat) : Int))])) := ⟨_, rfl⟩
  have hP : fw_P D vwCl z ad w_1 H := by rw [h_w_1]; exact hP
  have h_w0 := h_w_1
  have hP := hP
  refine lv_iconst (v := iI ((0 : Nat) : Int)) hx hb dX1_land_5 (by decide) ?_
  refine lv_istore_n (lv' := [(2, .int (iI ((0 : Nat) : Int))), (0, .ref (ad 3 (k))), (1, .int (iI ((p : Nat) : Int)))]) hx hb dX1_land_6 rfl hl (by decide) rfl (fun ls hl => ?_)
  have loop_7 : ∀ (dd j : Nat), 4 + 1 ≤ j + dd → j ≤ 4 → ∀ (H : Heap) (locs : List Loc) (ls : Array Slot), fw_P D vwCl z ad (fw_up (WC cA ad (ldS σ k p j) μ) 3 k (.inr (1, [.int (iI ((k / 5 : Nat) : Int)), .int (iI ((k % 5 : Nat) : Int)), .ref (ad 4 k), .int (iI ((cu σ k p j : Nat) : Int)), .int (iI ((σ 7 k : Nat) : Int))]))) H → va_S (fw_A z) s.heap H locs → lv_has ls 4 [(0, .ref (ad 3 (k))), (1, .int (iI ((p : Nat) : Int))), (2, .int (iI ((j : Nat) : Int)))] → W pg l en (headSpec wsX1_land rm_X1_land).room s m args below meth cd H locs 0 0 Q (F0 m 7 ls []) := by
    intro dd
    induction dd with
    | zero => intro j hd_7 hi_7; omega
    | succ dd ih_7 =>
      intro j hd_7 hi_7 H locs ls hP hS hl
      obtain ⟨τ, hτ⟩ : ∃ t, t = ldS σ k p j := ⟨_, rfl⟩
      rw [← hτ] at hP
      obtain ⟨wl, h_wl⟩ : ∃ x, x = fw_up (WC cA ad τ μ) 3 k (.inr (1, [.int (iI ((k / 5 : Nat) : Int)), .int (iI ((k % 5 : Nat) : Int)), .ref (ad 4 k), .int (iI ((cu σ k p j : Nat) : Int)), .int (iI ((σ 7 k : Nat) : Int))])) := ⟨_, rfl⟩
      rw [← h_wl] at hP
      have hUτ : Uq τ := by rw [hτ]; exact ldS_uq hI k p j
      have hoc : occ τ k j = occ σ k j := by rw [hτ]; exact ldS_occ k p j j (Nat.le_refl _)
      have e2 : ∀ c, τ 2 c = σ 2 c := fun c => by rw [hτ]; exact ldS_o (by decide) c
      have hcj := cu_le (σ := σ) (s := k) (p := p) j
      have hfr : cu σ k p j < j → occ τ k (cu σ k p j) = none := by rw [hτ]; exact ldS_free hI k p j
      refine lv_iload_n hx hb dX1_land_7 rfl (lv_at hl 2 rfl) ?_
      refine lv_aload_n hx hb dX1_land_8 rfl (lv_at hl 0 rfl) ?_
      refine fw_get (ci := 1) (v := .ref (ad 4 (k))) (C := RX1) (T := TX1) (N := 5) hx hb hts hinX1 hown hK hP (by rw [h_wl]; exact fw_up_same _ _ _ _) rfl 2 (by decide) hf11 (fun _ h9 => h9) rfl dX1_land_9 ?_
      have hh_2 := high_le hI k
      have hp_3 := hI.pl k
      refine fw_alen (v := iI ((4 : Nat) : Int)) hx hb hK hP (by rw [h_wl]; exact (fw_up_k (by decide)).trans (WC_4 hk)) 2 rfl rfl dX1_land_12 ?_
      refine fw_icmp_ge (x := ((j : Nat) : Int)) (y := ((4 : Nat) : Int)) (tgt := 70) hx hb dX1_land_13 (by decide) ⟨by omega, by omega⟩ ⟨by omega, by omega⟩ (fun c_4 => ?_) (fun c_4 => ?_)
      · rw [h_wl, hτ, show j = 4 from by omega] at hP
        have hP := wL_end hI hk hP
        subst hQ
        exact fw_vret hx hb hr hlocks dX1_land_70 hP hS rfl
      · refine lv_aload_n hx hb dX1_land_16 rfl (lv_at hl 0 rfl) ?_
        refine fw_get (ci := 1) (v := .ref (ad 4 (k))) (C := RX1) (T := TX1) (N := 5) hx hb hts hinX1 hown hK hP (by rw [h_wl]; exact fw_up_same _ _ _ _) rfl 2 (by decide) hf11 (fun _ h9 => h9) rfl dX1_land_17 ?_
        refine lv_iload_n hx hb dX1_land_20 rfl (lv_at hl 2 rfl) ?_
        refine fw_aldN (j := j) hx hb hK hP (by rw [h_wl]; exact (fw_up_k (by decide)).trans (WC_4 hk)) 2 rfl (by omega) (by decide) dX1_land_21 ?_
        cases n_5 : occ τ k j with
        | none =>
          refine fw_top (v' := .null) rfl ?_
          refine lv_astore_nN (lv' := [(3, .null), (0, .ref (ad 3 (k))), (1, .int (iI ((p : Nat) : Int))), (2, .int (iI ((j : Nat) : Int)))]) hx hb dX1_land_22 rfl hl (by decide) rfl (fun ls hl => ?_)
          refine lv_aload_n hx hb dX1_land_23 rfl (lv_at hl 1 rfl) ?_
          refine fw_get (ci := 1) (v := .ref (ad 4 (k))) (C := RX1) (T := TX1) (N := 5) hx hb hts hinX1 hown hK hP (by rw [h_wl]; exact fw_up_same _ _ _ _) rfl 2 (by decide) hf11 (fun _ h9 => h9) rfl dX1_land_24 ?_
          refine lv_iload_n hx hb dX1_land_27 rfl (lv_at hl 3 rfl) ?_
          refine lv_null hx hb dX1_land_28 ?_
          refine fw_astNN (f := fun j => (occ τ k j).map (ad 5)) hx hb hK hP hS (by rw [h_wl]; exact (fw_up_k (by decide)).trans (WC_4 hk)) 2 rfl (by omega) (by decide) dX1_land_29 (fun H locs hP hS => ?_)
          obtain ⟨w_7, h_w_7⟩ : ∃ x, x = fw_up (wl) 4 (k) (.inl (cA 2, 4, .inr (.inr (.inr (.inr (va_up (fun j => (occ τ k j).map (ad 5)) (j) (none))))))) := ⟨_, rfl⟩
          have hP : fw_P D vwCl z ad w_7 H := by rw [h_w_7]; exact hP
          refine lv_aload_nN hx hb dX1_land_30 rfl (lv_at hl 0 rfl) ?_
          refine lv_ifnullN (tgt := 55) hx hb dX1_land_31 (by decide) ?_
          refine lv_aload_nN hx hb dX1_land_55 rfl (lv_at hl 0 rfl) ?_
          refine lv_ifnullN (tgt := 64) hx hb dX1_land_56 (by decide) ?_
          refine fw_iincN (x := j) (lv' := [(2, .int (iI ((j + 1 : Nat) : Int))), (3, .null), (0, .ref (ad 3 (k))), (1, .int (iI ((p : Nat) : Int)))]) hx hb dX1_land_64 hl (k := 3) rfl (by decide) rfl (fun ls hl => ?_)
          refine lv_goto (tgt := 7) hx hb dX1_land_67 (by decide) ?_
          have hn0 : occ σ k j = none := by rw [← hoc]; exact n_5
          rw [h_w_7, h_wl] at hP
          have hP := wL_n hk n_5 hP
          rw [hτ, ← ldS_n (p := p) hI hn0] at hP
          have hcu := cu_n (p := p) hn0
          rw [← hcu] at hP
          exact ih_7 (j + 1) (by omega) (by omega) H locs ls hP hS (lv_sub hl [2, 3, 0] rfl)
        | some b_6 =>
          refine fw_top (v' := .ref (ad 5 (b_6))) rfl ?_
          obtain ⟨n_5n, n_5s, n_5k, n_5t⟩ := occ_some n_5
          refine lv_astore_n (lv' := [(3, .ref (ad 5 (b_6))), (0, .ref (ad 3 (k))), (1, .int (iI ((p : Nat) : Int))), (2, .int (iI ((j : Nat) : Int)))]) hx hb dX1_land_22 rfl hl (by decide) rfl (fun ls hl => ?_)
          refine lv_aload_n hx hb dX1_land_23 rfl (lv_at hl 1 rfl) ?_
          refine fw_get (ci := 1) (v := .ref (ad 4 (k))) (C := RX1) (T := TX1) (N := 5) hx hb hts hinX1 hown hK hP (by rw [h_wl]; exact fw_up_same _ _ _ _) rfl 2 (by decide) hf11 (fun _ h9 => h9) rfl dX1_land_24 ?_
          refine lv_iload_n hx hb dX1_land_27 rfl (lv_at hl 3 rfl) ?_
          refine lv_null hx hb dX1_land_28 ?_
          refine fw_astNN (f := fun j => (occ τ k j).map (ad 5)) hx hb hK hP hS (by rw [h_wl]; exact (fw_up_k (by decide)).trans (WC_4 hk)) 2 rfl (by omega) (by decide) dX1_land_29 (fun H locs hP hS => ?_)
          obtain ⟨w_8, h_w_8⟩ : ∃ x, x = fw_up (wl) 4 (k) (.inl (cA 2, 4, .inr (.inr (.inr (.inr (va_up (fun j => (occ τ k j).map (ad 5)) (j) (none))))))) := ⟨_, rfl⟩
          have hP : fw_P D vwCl z ad w_8 H := by rw [h_w_8]; exact hP
          refine lv_aload_n hx hb dX1_land_30 rfl (lv_at hl 0 rfl) ?_
          refine lv_ifnull hx hb dX1_land_31 ?_
          refine lv_aload_n hx hb dX1_land_34 rfl (lv_at hl 0 rfl) ?_
          refine fw_get (ci := 0) (v := .int (iI ((τ 2 b_6 : Nat) : Int))) (C := RX0) (T := TX0) (N := 8) hx hb hts hinX0 hown hK hP (by rw [h_w_8]; exact (fw_up_k (by decide)).trans (by rw [h_wl]; exact (fw_up_k (by decide)).trans (WC_5 n_5n))) rfl 3 (by decide) hf48 (fun _ h9 => h9) rfl dX1_land_35 ?_
          have hc_9 := hI.c b_6
          have e2c := e2 b_6
          refine lv_iload_n hx hb dX1_land_38 rfl (lv_at hl 2 rfl) ?_
          refine fw_icmp_ne (x := ((τ 2 b_6 : Nat) : Int)) (y := ((p : Nat) : Int)) (tgt := 55) hx hb dX1_land_39 (by decide) ⟨by omega, by omega⟩ ⟨by omega, by omega⟩ (fun c_10 => ?_) (fun c_10 => ?_)
          · refine lv_aload_n hx hb dX1_land_55 rfl (lv_at hl 0 rfl) ?_
            refine lv_ifnull hx hb dX1_land_56 ?_
            refine lv_aload_n hx hb dX1_land_59 rfl (lv_at hl 1 rfl) ?_
            refine lv_aload_n hx hb dX1_land_60 rfl (lv_at hl 0 rfl) ?_
            refine fw_cVv (As := [.ref (ad 5 (b_6))]) (rest := []) ⟨hx, hb, hml, hown, hts⟩ (c_X1_push l D cA z ad (w_8) k b_6 (cu σ k p j) (va_up (fun j => (occ τ k j).map (ad 5)) (j) (none)) (.int (iI ((k / 5 : Nat) : Int))) (.int (iI ((k % 5 : Nat) : Int))) (.int (iI ((σ 7 k : Nat) : Int))) (.int (iI ((b_6 : Nat) : Int))) (.int (iI ((τ 0 b_6 : Nat) : Int))) (.int (iI ((τ 1 b_6 : Nat) : Int))) (.int (iI ((τ 2 b_6 : Nat) : Int))) (.int (iI ((τ 3 b_6 : Nat) : Int))) (.int (iI (bI (decide (τ 4 b_6 = 2))))) (va_rf (if τ 4 b_6 = 1 then some (ad 3 (τ 5 b_6)) else none)) (.int (iI ((τ 6 b_6 : Nat) : Int))) (by rw [h_w_8]; exact (fw_up_k (by decide)).trans (by rw [h_wl]; exact fw_up_same _ _ _ _)) (by rw [h_w_8]; exact fw_up_same _ _ _ _) (by rw [h_w_8]; exact (fw_up_k (by decide)).trans (by rw [h_wl]; exact (fw_up_k (by decide)).trans (WC_5 n_5n))) (by omega)) (cwV 1 hts gX1_land_X1_push rfl rfl rfl (by decide +kernel) ⟨Nat.le_of_ble_eq_true rfl, Nat.le_of_ble_eq_true rfl⟩) (by rw [h_w_8]; exact (fw_up_k (by decide)).trans (by rw [h_wl]; exact fw_up_same _ _ _ _)) rfl rfl hl.1 (Nat.le_of_ble_eq_true rfl) dX1_land_61 ⟨Nat.le_of_ble_eq_true rfl, Nat.le_of_ble_eq_true rfl⟩ hK hP hS rfl (fun w' H locs q_11 hP hS => ?_)
            subst q_11
            refine fw_iincN (x := j) (lv' := [(2, .int (iI ((j + 1 : Nat) : Int))), (3, .ref (ad 5 (b_6))), (0, .ref (ad 3 (k))), (1, .int (iI ((p : Nat) : Int)))]) hx hb dX1_land_64 hl (k := 3) rfl (by decide) rfl (fun ls hl => ?_)
            refine lv_goto (tgt := 7) hx hb dX1_land_67 (by decide) ?_
            have hn0 : occ σ k j = some b_6 := by rw [← hoc]; exact n_5
            rw [h_w_8, h_wl] at hP
            have hP := wL_push hUτ hk n_5 (by rcases Nat.lt_or_ge (cu σ k p j) j with q | q; exact Or.inl (hfr q); exact Or.inr (by omega)) hP
            have htp : ¬ σ 2 b_6 = p := by omega
            have hlc := ldS_c (p := p) hI hn0
            rw [if_neg htp, ← hτ] at hlc
            rw [← hlc] at hP
            have hcu := cu_s (p := p) hn0
            rw [if_neg htp] at hcu
            rw [← hcu] at hP
            exact ih_7 (j + 1) (by omega) (by omega) H locs ls hP hS (lv_sub hl [2, 3, 0] rfl)
          · refine lv_aload_n hx hb dX1_land_42 rfl (lv_at hl 0 rfl) ?_
            refine lv_null hx hb dX1_land_43 ?_
            refine fw_put (ci := 0) (v := .null) (ty := (.object "StowagePlan$Stack")) (C := RX0) (T := TX0) (N := 8) hx hb hts hinX0 tyX0 tyX0_ok nmX0 hown hK hP hS (by rw [h_w_8]; exact (fw_up_k (by decide)).trans (by rw [h_wl]; exact (fw_up_k (by decide)).trans (WC_5 n_5n))) rfl 6 (by decide) hf41 (fun _ h9 => h9) rfl (by decide +kernel) rfl rfl (Nat.le_of_ble_eq_true rfl) dX1_land_44 (fun H locs hP hS => ?_)
            obtain ⟨w_12, h_w_12⟩ : ∃ x, x = fw_up (w_8) 5 (b_6) (.inr (0, [.int (iI ((b_6 : Nat) : Int)), .int (iI ((τ 0 b_6 : Nat) : Int)), .int (iI ((τ 1 b_6 : Nat) : Int)), .int (iI ((τ 2 b_6 : Nat) : Int)), .int (iI ((τ 3 b_6 : Nat) : Int)), .int (iI (bI (decide (τ 4 b_6 = 2)))), .null, .int (iI ((τ 6 b_6 : Nat) : Int))])) := ⟨_, rfl⟩
            have hP : fw_P D vwCl z ad w_12 H := by rw [h_w_12]; exact hP
            refine lv_aload_n hx hb dX1_land_47 rfl (lv_at hl 0 rfl) ?_
            refine lv_iconst (v := iI ((1 : Nat) : Int)) hx hb dX1_land_48 (by decide) ?_
            refine fw_put (ci := 0) (v := .int (iI ((1 : Nat) : Int))) (ty := .boolean) (C := RX0) (T := TX0) (N := 8) hx hb hts hinX0 tyX0 tyX0_ok nmX0 hown hK hP hS (by rw [h_w_12]; exact fw_up_same _ _ _ _) rfl 5 (by decide) hf51 (fun _ h9 => h9) rfl (by decide +kernel) rfl rfl (Nat.le_of_ble_eq_true rfl) dX1_land_49 (fun H locs hP hS => ?_)
            obtain ⟨w_13, h_w_13⟩ : ∃ x, x = fw_up (w_12) 5 (b_6) (.inr (0, [.int (iI ((b_6 : Nat) : Int)), .int (iI ((τ 0 b_6 : Nat) : Int)), .int (iI ((τ 1 b_6 : Nat) : Int)), .int (iI ((τ 2 b_6 : Nat) : Int)), .int (iI ((τ 3 b_6 : Nat) : Int)), .int (iI ((1 : Nat) : Int)), .null, .int (iI ((τ 6 b_6 : Nat) : Int))])) := ⟨_, rfl⟩
            have hP : fw_P D vwCl z ad w_13 H := by rw [h_w_13]; exact hP
            refine lv_goto (tgt := 64) hx hb dX1_land_52 (by decide) ?_
            refine fw_iincN (x := j) (lv' := [(2, .int (iI ((j + 1 : Nat) : Int))), (3, .ref (ad 5 (b_6))), (0, .ref (ad 3 (k))), (1, .int (iI ((p : Nat) : Int)))]) hx hb dX1_land_64 hl (k := 3) rfl (by decide) rfl (fun ls hl => ?_)
            refine lv_goto (tgt := 7) hx hb dX1_land_67 (by decide) ?_
            have hn0 : occ σ k j = some b_6 := by rw [← hoc]; exact n_5
            rw [h_w_13, h_w_12, h_w_8, h_wl] at hP
            have hP := wL_gone hUτ hk n_5 hP
            have htp : σ 2 b_6 = p := by omega
            have hlc := ldS_c (p := p) hI hn0
            rw [if_pos htp, ← hτ] at hlc
            rw [← hlc] at hP
            have hcu := cu_s (p := p) hn0
            rw [if_pos htp, Nat.add_zero (cu σ k p j)] at hcu
            rw [← hcu] at hP
            exact ih_7 (j + 1) (by omega) (by omega) H locs ls hP hS (lv_sub hl [2, 3, 0] rfl)
  exact loop_7 (4 + 1) (0) (by omega) (by omega) H locs ls (by rw [h_w_1] at hP; rw [ldS_0]; exact hP) hS (lv_sub hl [1, 2, 0] rfl)
