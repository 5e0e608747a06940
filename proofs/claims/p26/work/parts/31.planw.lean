abbrev rm_X1_push : Room := { frames := 0, cells := 0, slots := 0, locals := 0 }
abbrev po_X1_push (cA : Nat → ClassId) (ad : fw_Ad) (w : fw_W) (k c sz : Nat) (f : Nat → Option Nat) (A0 A1 A4 B0 B1 B2 B3 B4 B5 B6 B7 : Value) : fw_W → Prop := fun w' => w' = fw_up (fw_up (fw_up (fw_up w 4 k (.inl (cA 2, 4, .inr (.inr (.inr (.inr (va_up f sz (some (ad 5 c))))))))) 5 c (.inr (0, [B0, B1, B2, B3, B4, B5, .ref (ad 3 k), B7]))) 5 c (.inr (0, [B0, B1, B2, B3, B4, B5, .ref (ad 3 k), .int (iI ((sz : Nat) : Int))]))) 3 k (.inr (1, [A0, A1, .ref (ad 4 k), .int (iI ((sz + 1 : Nat) : Int)), A4]))
set_option maxHeartbeats 4000000 in
set_option maxRecDepth 100000 in
theorem c_X1_push (l : Launch) (D : va_G) (cA : Nat → ClassId) (z : Nat) (ad : fw_Ad) (w : fw_W) (k c sz : Nat) (f : Nat → Option Nat) (A0 A1 A4 B0 B1 B2 B3 B4 B5 B6 B7 : Value) (hst : w 3 k = some (.inr (1, [A0, A1, .ref (ad 4 k), .int (iI ((sz : Nat) : Int)), A4]))) (har : w 4 k = some (.inl (cA 2, 4, .inr (.inr (.inr (.inr f)))))) (hbx : w 5 c = some (.inr (0, [B0, B1, B2, B3, B4, B5, B6, B7]))) (hsz : sz < 4) : Met l yX1_push wsX1_push rm_X1_push (va_Pc [.ref (ad 3 (k)), .ref (ad 5 (c))] (fw_Pre D vwCl (fw_T cA) z ad (w))) (fw_Qv D vwCl z ad (po_X1_push cA ad w k c sz f A0 A1 A4 B0 B1 B2 B3 B4 B5 B6 B7)) 0 0 (fw_A z) := by
  refine Met.ofW (cc := cX1_push) (maxL := 2) (ret := none) (by decide) rfl ?_
  intro pg en s m args below meth cd s₁ B hml hv
  obtain ⟨hargs, hP, hK⟩ := hv
  have hx := B.exec
  have hb := B.bytes
  have hr := B.returns
  have hts := atoms_spec (ws := wsX1_push) B.pre
  have hown : s.vm.findClass RX1 = some m.cls := findClass_of_methodNamed B.named
  have hlocks := B.notSynchronized
  have hinX0 : ∀ w ∈ u_ws RX0 TX0 8, w ∈ wsX1_push := by decide +kernel
  have hinX1 : ∀ w ∈ u_ws RX1 TX1 5, w ∈ wsX1_push := by decide +kernel
  have hf17 := hts (.fieldLink RX1 17 "StowagePlan$Stack" "size" "I") (by decide +kernel)
  have hf11 := hts (.fieldLink RX1 11 "StowagePlan$Stack" "boxes" "[LStowagePlan$Box;") (by decide +kernel)
  have hf41 := hts (.fieldLink RX1 41 "StowagePlan$Box" "stack" "LStowagePlan$Stack;") (by decide +kernel)
  have hf45 := hts (.fieldLink RX1 45 "StowagePlan$Box" "tier" "I") (by decide +kernel)
  have hl := lv_entry ([.ref (ad 3 (k)), .ref (ad 5 (c))]) (n := 2) (Nat.le_of_ble_eq_true rfl)
  have hent : entryFrame m args 2 = entryFrame m ([.ref (ad 3 (k)), .ref (ad 5 (c))] : List Value).toArray 2 := by rw [hargs]
  rw [hent, lg_entry_eq]
  generalize (lg_sl ([.ref (ad 3 (k)), .ref (ad 5 (c))]) ++ List.replicate (2 - (lg_sl ([.ref (ad 3 (k)), .ref (ad 5 (c))])).length) Slot.unset).toArray = ls at hl ⊢
  have hl : lv_has ls 2 [(0, .ref (ad 3 (k))), (1, .ref (ad 5 (c)))] := hl
  generalize hQ : MQ below (fw_Qv D vwCl z ad (po_X1_push cA ad w k c sz f A0 A1 A4 B0 B1 B2 B3 B4 B5 B6 B7)) args s 0 0 (fw_A z) = Q
  generalize hH : s.heap = H at hP ⊢
  have hS : va_S (fw_A z) s.heap H [] := by rw [← hH]; exact va_S.rf
  generalize ([] : List Loc) = locs at hS ⊢
  refine lv_aload_n hx hb dX1_push_0 rfl (lv_at hl 1 rfl) ?_
  refine lv_ifnull hx hb dX1_push_1 ?_
  refine lv_aload_n hx hb dX1_push_4 rfl (lv_at hl 0 rfl) ?_
  refine fw_get (ci := 1) (v := .int (iI ((sz : Nat) : Int))) (C := RX1) (T := TX1) (N := 5) hx hb hts hinX1 hown hK hP hst rfl 3 (by decide) hf17 (fun _ h9 => h9) rfl dX1_push_5 ?_
  refine fw_if_lt (x := ((sz : Nat) : Int)) (tgt := 23) hx hb dX1_push_8 (by decide) ⟨by omega, by omega⟩ (fun c_1 => ?_) (fun c_1 => ?_)
  · exfalso; omega
  · refine lv_aload_n hx hb dX1_push_11 rfl (lv_at hl 0 rfl) ?_
    refine fw_get (ci := 1) (v := .int (iI ((sz : Nat) : Int))) (C := RX1) (T := TX1) (N := 5) hx hb hts hinX1 hown hK hP hst rfl 3 (by decide) hf17 (fun _ h9 => h9) rfl dX1_push_12 ?_
    refine lv_aload_n hx hb dX1_push_15 rfl (lv_at hl 0 rfl) ?_
    refine fw_get (ci := 1) (v := .ref (ad 4 (k))) (C := RX1) (T := TX1) (N := 5) hx hb hts hinX1 hown hK hP hst rfl 2 (by decide) hf11 (fun _ h9 => h9) rfl dX1_push_16 ?_
    refine fw_alen (v := iI ((4 : Nat) : Int)) hx hb hK hP har 2 rfl rfl dX1_push_19 ?_
    refine fw_icmp_lt (x := ((sz : Nat) : Int)) (y := ((4 : Nat) : Int)) (tgt := 24) hx hb dX1_push_20 (by decide) ⟨by omega, by omega⟩ ⟨by omega, by omega⟩ (fun c_2 => ?_) (fun c_2 => ?_)
    · refine lv_aload_n hx hb dX1_push_24 rfl (lv_at hl 0 rfl) ?_
      refine fw_get (ci := 1) (v := .ref (ad 4 (k))) (C := RX1) (T := TX1) (N := 5) hx hb hts hinX1 hown hK hP hst rfl 2 (by decide) hf11 (fun _ h9 => h9) rfl dX1_push_25 ?_
      refine lv_aload_n hx hb dX1_push_28 rfl (lv_at hl 0 rfl) ?_
      refine fw_get (ci := 1) (v := .int (iI ((sz : Nat) : Int))) (C := RX1) (T := TX1) (N := 5) hx hb hts hinX1 hown hK hP hst rfl 3 (by decide) hf17 (fun _ h9 => h9) rfl dX1_push_29 ?_
      refine lv_aload_n hx hb dX1_push_32 rfl (lv_at hl 1 rfl) ?_
      refine fw_astN (ci := 0) (r := (RX0, TX0, 8)) (f := f) hx hb hK hP hS har 2 rfl hbx rfl (by omega) (by decide) dX1_push_33 (fun H locs hP hS => ?_)
      obtain ⟨w_3, h_w_3⟩ : ∃ x, x = fw_up (w) 4 (k) (.inl (cA 2, 4, .inr (.inr (.inr (.inr (va_up (f) (sz) (some (ad 5 (c))))))))) := ⟨_, rfl⟩
      have hP : fw_P D vwCl z ad w_3 H := by rw [h_w_3]; exact hP
      refine lv_aload_n hx hb dX1_push_34 rfl (lv_at hl 1 rfl) ?_
      refine lv_aload_n hx hb dX1_push_35 rfl (lv_at hl 0 rfl) ?_
      refine fw_put (ci := 0) (v := .ref (ad 3 (k))) (ty := (.object "StowagePlan$Stack")) (C := RX0) (T := TX0) (N := 8) hx hb hts hinX0 tyX0 tyX0_ok nmX0 hown hK hP hS (by rw [h_w_3]; exact (fw_up_k (by decide)).trans hbx) rfl 6 (by decide) hf41 (fun _ h9 => h9) rfl (by decide +kernel) rfl rfl (Nat.le_of_ble_eq_true rfl) dX1_push_36 (fun H locs hP hS => ?_)
      obtain ⟨w_4, h_w_4⟩ : ∃ x, x = fw_up (w_3) 5 (c) (.inr (0, [B0, B1, B2, B3, B4, B5, .ref (ad 3 (k)), B7])) := ⟨_, rfl⟩
      have hP : fw_P D vwCl z ad w_4 H := by rw [h_w_4]; exact hP
      refine lv_aload_n hx hb dX1_push_39 rfl (lv_at hl 1 rfl) ?_
      refine lv_aload_n hx hb dX1_push_40 rfl (lv_at hl 0 rfl) ?_
      refine fw_get (ci := 1) (v := .int (iI ((sz : Nat) : Int))) (C := RX1) (T := TX1) (N := 5) hx hb hts hinX1 hown hK hP (by rw [h_w_4]; exact (fw_up_k (by decide)).trans (by rw [h_w_3]; exact (fw_up_k (by decide)).trans hst)) rfl 3 (by decide) hf17 (fun _ h9 => h9) rfl dX1_push_41 ?_
      refine fw_put (ci := 0) (v := .int (iI ((sz : Nat) : Int))) (ty := .int) (C := RX0) (T := TX0) (N := 8) hx hb hts hinX0 tyX0 tyX0_ok nmX0 hown hK hP hS (by rw [h_w_4]; exact fw_up_same _ _ _ _) rfl 7 (by decide) hf45 (fun _ h9 => h9) rfl (by decide +kernel) rfl rfl (Nat.le_of_ble_eq_true rfl) dX1_push_44 (fun H locs hP hS => ?_)
      obtain ⟨w_5, h_w_5⟩ : ∃ x, x = fw_up (w_4) 5 (c) (.inr (0, [B0, B1, B2, B3, B4, B5, .ref (ad 3 (k)), .int (iI ((sz : Nat) : Int))])) := ⟨_, rfl⟩
      have hP : fw_P D vwCl z ad w_5 H := by rw [h_w_5]; exact hP
      refine lv_aload_n hx hb dX1_push_47 rfl (lv_at hl 0 rfl) ?_
      refine lv_dup hx hb dX1_push_48 rfl ?_
      refine fw_get (ci := 1) (v := .int (iI ((sz : Nat) : Int))) (C := RX1) (T := TX1) (N := 5) hx hb hts hinX1 hown hK hP (by rw [h_w_5]; exact (fw_up_k (by decide)).trans (by rw [h_w_4]; exact (fw_up_k (by decide)).trans (by rw [h_w_3]; exact (fw_up_k (by decide)).trans hst))) rfl 3 (by decide) hf17 (fun _ h9 => h9) rfl dX1_push_49 ?_
      refine lv_iconst (v := iI ((1 : Nat) : Int)) hx hb dX1_push_52 (by decide) ?_
      refine fw_iaddN (a := sz) (b := 1) hx hb dX1_push_53 ?_
      refine fw_put (ci := 1) (v := .int (iI ((sz + 1 : Nat) : Int))) (ty := .int) (C := RX1) (T := TX1) (N := 5) hx hb hts hinX1 tyX1 tyX1_ok nmX1 hown hK hP hS (by rw [h_w_5]; exact (fw_up_k (by decide)).trans (by rw [h_w_4]; exact (fw_up_k (by decide)).trans (by rw [h_w_3]; exact (fw_up_k (by decide)).trans hst))) rfl 3 (by decide) hf17 (fun _ h9 => h9) rfl (by decide +kernel) rfl rfl (Nat.le_of_ble_eq_true rfl) dX1_push_54 (fun H locs hP hS => ?_)
      obtain ⟨w_6, h_w_6⟩ : ∃ x, x = fw_up (w_5) 3 (k) (.inr (1, [A0, A1, .ref (ad 4 (k)), .int (iI ((sz + 1 : Nat) : Int)), A4])) := ⟨_, rfl⟩
      have hP : fw_P D vwCl z ad w_6 H := by rw [h_w_6]; exact hP
      subst hQ
      exact fw_vret hx hb hr hlocks dX1_push_57 hP hS (by rw [h_w_6, h_w_5, h_w_4, h_w_3])
    · exfalso; omega

abbrev rm_X2_plan : Room := { frames := 6, cells := 0, slots := 0, locals := 141 }
abbrev po_X2_plan (cA : Nat → ClassId) (ad : fw_Ad) (σ : St) (μ : fw_W) : Int32 → fw_W → Prop := fun r w' => ∃ k, endsP σ k ∧ r = iI ((k : Nat) : Int) ∧ w' = WC cA ad (itP σ k) μ
set_option maxHeartbeats 4000000 in
set_option maxRecDepth 100000 in
theorem c_X2_plan (l : Launch) (D : va_G) (cA : Nat → ClassId) (z : Nat) (ad : fw_Ad) (σ : St) (μ : fw_W) (hI : Inv σ) : Met l yX2_plan wsX2_plan rm_X2_plan (va_Pc [.ref (ad 0 (0))] (fw_Pre D vwCl (fw_T cA) z ad (WC cA ad σ μ))) (fw_Qi D vwCl z ad (po_X2_plan cA ad σ μ)) 0 0 (fw_A z) := by
  refine Met.ofW (cc := cX2_plan) (maxL := 5) (ret := (some .int)) (by decide) rfl ?_
  intro pg en s m args below meth cd s₁ B hml hv
  obtain ⟨hargs, hP, hK⟩ := hv
  have hx := B.exec
  have hb := B.bytes
  have hr := B.returns
  have hts := atoms_spec (ws := wsX2_plan) B.pre
  have hown : s.vm.findClass RX2 = some m.cls := findClass_of_methodNamed B.named
  have hlocks := B.notSynchronized
  have hl := lv_entry ([.ref (ad 0 (0))]) (n := 5) (Nat.le_of_ble_eq_true rfl)
  have hent : entryFrame m args 5 = entryFrame m ([.ref (ad 0 (0))] : List Value).toArray 5 := by rw [hargs]
  rw [hent, lg_entry_eq]
  generalize (lg_sl ([.ref (ad 0 (0))]) ++ List.replicate (5 - (lg_sl ([.ref (ad 0 (0))])).length) Slot.unset).toArray = ls at hl ⊢
  have hl : lv_has ls 5 [(0, .ref (ad 0 (0)))] := hl
  generalize hQ : MQ below (fw_Qi D vwCl z ad (po_X2_plan cA ad σ μ)) args s 0 0 (fw_A z) = Q
  generalize hH : s.heap = H at hP ⊢
  have hS : va_S (fw_A z) s.heap H [] := by rw [← hH]; exact va_S.rf
  generalize ([] : List Loc) = locs at hS ⊢
  refine lv_iconst (v := iI ((0 : Nat) : Int)) hx hb dX2_plan_0 (by decide) ?_
  refine lv_istore_n (lv' := [(1, .int (iI ((0 : Nat) : Int))), (0, .ref (ad 0 (0)))]) hx hb dX2_plan_1 rfl hl (by decide) rfl (fun ls hl => ?_)
  refine lv_iconst (v := iI ((0 : Nat) : Int)) hx hb dX2_plan_2 (by decide) ?_
  refine lv_istore_n (lv' := [(2, .int (iI ((0 : Nat) : Int))), (1, .int (iI ((0 : Nat) : Int))), (0, .ref (ad 0 (0)))]) hx hb dX2_plan_3 rfl hl (by decide) rfl (fun ls hl => ?_)
  have loop_4 : ∀ (dd k : Nat), 40 + 1 ≤ k + dd → k ≤ 40 → (stepsP σ k) → ∀ (H : Heap) (locs : List Loc) (ls : Array Slot), fw_P D vwCl z ad (WC cA ad (itP σ k) μ) H → va_S (fw_A z) s.heap H locs → lv_has ls 5 [(0, .ref (ad 0 (0))), (1, .int (iI ((k : Nat) : Int))), (2, .int (iI ((k : Nat) : Int)))] → W pg l en (headSpec wsX2_plan rm_X2_plan).room s m args below meth cd H locs 0 0 Q (F0 m 4 ls []) := by
    intro dd
    induction dd with
    | zero => intro k hd_4 hi_4; omega
    | succ dd ih_4 =>
      intro k hd_4 hi_4 hst H locs ls hP hS hl
      have hik := (stepsP_inv hI hst).1
      refine lv_iload_n hx hb dX2_plan_4 rfl (lv_at hl 2 rfl) ?_
      refine lv_bipush (v := iI ((40 : Nat) : Int)) hx hb dX2_plan_5 (by decide) ?_
      refine fw_icmp_ge (x := ((k : Nat) : Int)) (y := ((40 : Nat) : Int)) (tgt := 44) hx hb dX2_plan_7 (by decide) ⟨by omega, by omega⟩ ⟨by omega, by omega⟩ (fun c_1 => ?_) (fun c_1 => ?_)
      · refine lv_iload_n hx hb dX2_plan_44 rfl (lv_at hl 1 rfl) ?_
        subst hQ
        exact fw_iret hx hb hr hlocks dX2_plan_45 hP hS ⟨k, ⟨hst, by rw [show k = 40 from by omega] at hst ⊢; exact stepsP_40 hI hst⟩, rfl, rfl⟩
      · refine lv_aload_n hx hb dX2_plan_10 rfl (lv_at hl 0 rfl) ?_
        refine fw_cVq (As := []) (rest := []) ⟨hx, hb, hml, hown, hts⟩ (c_X2_nextToLoad l D cA z ad (itP σ k) μ  hik) (cwV 0 hts gX2_plan_X2_nextToLoad rfl rfl rfl (by decide +kernel) ⟨Nat.le_of_ble_eq_true rfl, Nat.le_of_ble_eq_true rfl⟩) WC_0 rfl rfl hl.1 (Nat.le_of_ble_eq_true rfl) dX2_plan_11 ⟨Nat.le_of_ble_eq_true rfl, Nat.le_of_ble_eq_true rfl⟩ hK hP hS rfl (fun r w' H locs q_2 hP hS => ?_)
        obtain ⟨rfl, rfl⟩ := q_2
        cases hbb : bestB (itP σ k) ((itP σ k) 8 0) with
        | none =>
          refine fw_top (v' := .null) rfl ?_
          refine lv_astore_nN (lv' := [(3, .null), (0, .ref (ad 0 (0))), (1, .int (iI ((k : Nat) : Int))), (2, .int (iI ((k : Nat) : Int)))]) hx hb dX2_plan_14 rfl hl (by decide) rfl (fun ls hl => ?_)
          refine lv_aload_n hx hb dX2_plan_15 rfl (lv_at hl 1 rfl) ?_
          refine lv_aload_nN hx hb dX2_plan_16 rfl (lv_at hl 0 rfl) ?_
          refine fw_cVq (As := [.null]) (rest := []) ⟨hx, hb, hml, hown, hts⟩ (c_X2_bestStackFor_n l D cA z ad (itP σ k) μ hik) (cwV 1 hts gX2_plan_X2_bestStackFor rfl rfl rfl (by decide +kernel) ⟨Nat.le_of_ble_eq_true rfl, Nat.le_of_ble_eq_true rfl⟩) WC_0 rfl rfl hl.1 (Nat.le_of_ble_eq_true rfl) dX2_plan_17 ⟨Nat.le_of_ble_eq_true rfl, Nat.le_of_ble_eq_true rfl⟩ hK hP hS rfl (fun r w' H locs q_3 hP hS => ?_)
          obtain ⟨rfl, rfl⟩ := q_3
          refine fw_top (v' := .null) rfl ?_
          refine lv_astoreN (lv' := [(4, .null), (3, .null), (0, .ref (ad 0 (0))), (1, .int (iI ((k : Nat) : Int))), (2, .int (iI ((k : Nat) : Int)))]) hx hb dX2_plan_20 hl (by decide) rfl (fun ls hl => ?_)
          refine lv_aloadN hx hb dX2_plan_22 (lv_at hl 0 rfl) ?_
          refine lv_ifnonnullN hx hb dX2_plan_24 ?_
          refine lv_iload_n hx hb dX2_plan_27 rfl (lv_at hl 3 rfl) ?_
          subst hQ
          exact fw_iret hx hb hr hlocks dX2_plan_28 hP hS ⟨k, ⟨hst, stepP_none hbb⟩, rfl, rfl⟩
        | some bx =>
          refine fw_top (v' := .ref (ad 5 (bx))) rfl ?_
          have hbl := bestB_lt hbb
          refine lv_astore_n (lv' := [(3, .ref (ad 5 (bx))), (0, .ref (ad 0 (0))), (1, .int (iI ((k : Nat) : Int))), (2, .int (iI ((k : Nat) : Int)))]) hx hb dX2_plan_14 rfl hl (by decide) rfl (fun ls hl => ?_)
          refine lv_aload_n hx hb dX2_plan_15 rfl (lv_at hl 1 rfl) ?_
          refine lv_aload_n hx hb dX2_plan_16 rfl (lv_at hl 0 rfl) ?_
          refine fw_cVq (As := [.ref (ad 5 (bx))]) (rest := []) ⟨hx, hb, hml, hown, hts⟩ (c_X2_bestStackFor l D cA z ad (itP σ k) μ bx hik hbl) (cwV 1 hts gX2_plan_X2_bestStackFor rfl rfl rfl (by decide +kernel) ⟨Nat.le_of_ble_eq_true rfl, Nat.le_of_ble_eq_true rfl⟩) WC_0 rfl rfl hl.1 (Nat.le_of_ble_eq_true rfl) dX2_plan_17 ⟨Nat.le_of_ble_eq_true rfl, Nat.le_of_ble_eq_true rfl⟩ hK hP hS rfl (fun r w' H locs q_4 hP hS => ?_)
          obtain ⟨rfl, rfl⟩ := q_4
          obtain ⟨sx, hsx⟩ := best_both hbb
          have hsl := bestS_lt hsx
          have hok := bestS_ok hsx
          refine fw_top (v' := .ref (ad 3 (sx))) (by rw [hsx]; rfl) ?_
          refine lv_astore (lv' := [(4, .ref (ad 3 (sx))), (3, .ref (ad 5 (bx))), (0, .ref (ad 0 (0))), (1, .int (iI ((k : Nat) : Int))), (2, .int (iI ((k : Nat) : Int)))]) hx hb dX2_plan_20 hl (by decide) rfl (fun ls hl => ?_)
          refine lv_aload hx hb dX2_plan_22 (lv_at hl 0 rfl) ?_
          refine lv_ifnonnull (tgt := 29) hx hb dX2_plan_24 (by decide) ?_
          refine lv_aload hx hb dX2_plan_29 (lv_at hl 0 rfl) ?_
          refine lv_aload_n hx hb dX2_plan_31 rfl (lv_at hl 1 rfl) ?_
          refine fw_cVv (As := [.ref (ad 5 (bx))]) (rest := []) ⟨hx, hb, hml, hown, hts⟩ (c_X1_push l D cA z ad (WC cA ad (itP σ k) μ) sx bx (high (itP σ k) sx) (fun j => (occ (itP σ k) sx j).map (ad 5)) (.int (iI ((sx / 5 : Nat) : Int))) (.int (iI ((sx % 5 : Nat) : Int))) (.int (iI (((itP σ k) 7 sx : Nat) : Int))) (.int (iI ((bx : Nat) : Int))) (.int (iI (((itP σ k) 0 bx : Nat) : Int))) (.int (iI (((itP σ k) 1 bx : Nat) : Int))) (.int (iI (((itP σ k) 2 bx : Nat) : Int))) (.int (iI (((itP σ k) 3 bx : Nat) : Int))) (.int (iI (bI (decide ((itP σ k) 4 bx = 2))))) (va_rf (if (itP σ k) 4 bx = 1 then some (ad 3 ((itP σ k) 5 bx)) else none)) (.int (iI (((itP σ k) 6 bx : Nat) : Int))) (WC_3 hsl) (WC_4 hsl) (WC_5 hbl) hok.2.2.1) (cwV 1 hts gX2_plan_X1_push rfl rfl rfl (by decide +kernel) ⟨Nat.le_of_ble_eq_true rfl, Nat.le_of_ble_eq_true rfl⟩) (WC_3 hsl) rfl rfl hl.1 (Nat.le_of_ble_eq_true rfl) dX2_plan_32 ⟨Nat.le_of_ble_eq_true rfl, Nat.le_of_ble_eq_true rfl⟩ hK hP hS rfl (fun w' H locs q_5 hP hS => ?_)
          subst q_5
          have hP := wC_put hik hbl hsl hok.1 hP
          refine fw_iincN (x := k) (lv' := [(1, .int (iI ((k + 1 : Nat) : Int))), (4, .ref (ad 3 (sx))), (3, .ref (ad 5 (bx))), (0, .ref (ad 0 (0))), (2, .int (iI ((k : Nat) : Int)))]) hx hb dX2_plan_35 hl (k := 3) rfl (by decide) rfl (fun ls hl => ?_)
          refine fw_iincN (x := k) (lv' := [(2, .int (iI ((k + 1 : Nat) : Int))), (1, .int (iI ((k + 1 : Nat) : Int))), (4, .ref (ad 3 (sx))), (3, .ref (ad 5 (bx))), (0, .ref (ad 0 (0)))]) hx hb dX2_plan_38 hl (k := 4) rfl (by decide) rfl (fun ls hl => ?_)
          refine lv_goto (tgt := 4) hx hb dX2_plan_41 (by decide) ?_
          exact ih_4 (k + 1) (by omega) (by omega) (stepsP_s hst (stepP_some hbb hsx)) H locs ls (by rw [itP_s (stepP_some hbb hsx)]; exact hP) hS (lv_sub hl [4, 1, 0] rfl)
  exact loop_4 (40 + 1) (0) (by omega) (by omega) (by intro j hj; omega) H locs ls hP hS (lv_sub hl [2, 1, 0] rfl)

abbrev rm_X2_height : Room := { frames := 0, cells := 0, slots := 0, locals := 0 }
abbrev po_X2_height (cA : Nat → ClassId) (ad : fw_Ad) (σ : St) (μ : fw_W) : UInt64 → fw_W → Prop := fun r w' => r = hgt σ ∧ w' = WC cA ad σ μ
set_option maxHeartbeats 4000000 in
set_option maxRecDepth 100000 in
theorem c_X2_height (l : Launch) (D : va_G) (cA : Nat → ClassId) (z : Nat) (ad : fw_Ad) (σ : St) (μ : fw_W) (hI : Inv σ) : Met l yX2_height wsX2_height rm_X2_height (va_Pc [.ref (ad 0 (0))] (fw_Pre D vwCl (fw_T cA) z ad (WC cA ad σ μ))) (fw_Qd D vwCl z ad (po_X2_height cA ad σ μ)) 0 0 (fw_A z) := by
  refine Met.ofW (cc := cX2_height) (maxL := 7) (ret := (some .double)) (by decide) rfl ?_
  intro pg en s m args below meth cd s₁ B hml hv
  obtain ⟨hargs, hP, hK⟩ := hv
  have hx := B.exec
  have hb := B.bytes
  have hr := B.returns
  have hts := atoms_spec (ws := wsX2_height) B.pre
  have hown : s.vm.findClass RX2 = some m.cls := findClass_of_methodNamed B.named
  have hlocks := B.notSynchronized
  have hinX0 : ∀ w ∈ u_ws RX0 TX0 8, w ∈ wsX2_height := by decide +kernel
  have hinX2 : ∀ w ∈ u_ws RX2 TX2 8, w ∈ wsX2_height := by decide +kernel
  have hf11 := hts (.fieldLink RX2 11 "StowagePlan" "boxes" "[LStowagePlan$Box;") (by decide +kernel)
  have hf165 := hts (.fieldLink RX2 165 "StowagePlan$Box" "stack" "LStowagePlan$Stack;") (by decide +kernel)
  have hf169 := hts (.fieldLink RX2 169 "StowagePlan$Box" "weight" "I") (by decide +kernel)
  have hf107 := hts (.fieldLink RX2 107 "StowagePlan$Box" "tier" "I") (by decide +kernel)
  have hl := lv_entry ([.ref (ad 0 (0))]) (n := 7) (Nat.le_of_ble_eq_true rfl)
  have hent : entryFrame m args 7 = entryFrame m ([.ref (ad 0 (0))] : List Value).toArray 7 := by rw [hargs]
  rw [hent, lg_entry_eq]
  generalize (lg_sl ([.ref (ad 0 (0))]) ++ List.replicate (7 - (lg_sl ([.ref (ad 0 (0))])).length) Slot.unset).toArray = ls at hl ⊢
  have hl : lv_has ls 7 [(0, .ref (ad 0 (0)))] := hl
  generalize hQ : MQ below (fw_Qd D vwCl z ad (po_X2_height cA ad σ μ)) args s 0 0 (fw_A z) = Q
  generalize hH : s.heap = H at hP ⊢
  have hS : va_S (fw_A z) s.heap H [] := by rw [← hH]; exact va_S.rf
  generalize ([] : List Loc) = locs at hS ⊢
  refine lv_iconst (v := iI ((0 : Nat) : Int)) hx hb dX2_height_0 (by decide) ?_
  refine lv_istore_n (lv' := [(1, .int (iI ((0 : Nat) : Int))), (0, .ref (ad 0 (0)))]) hx hb dX2_height_1 rfl hl (by decide) rfl (fun ls hl => ?_)
  refine lv_iconst (v := iI ((0 : Nat) : Int)) hx hb dX2_height_2 (by decide) ?_
  refine lv_istore_n (lv' := [(2, .int (iI ((0 : Nat) : Int))), (1, .int (iI ((0 : Nat) : Int))), (0, .ref (ad 0 (0)))]) hx hb dX2_height_3 rfl hl (by decide) rfl (fun ls hl => ?_)
  refine lv_aload_n hx hb dX2_height_4 rfl (lv_at hl 2 rfl) ?_
  refine fw_get (ci := 2) (v := .ref (ad 1 (0))) (C := RX2) (T := TX2) (N := 8) hx hb hts hinX2 hown hK hP WC_0 rfl 0 (by decide) hf11 (fun _ h9 => h9) rfl dX2_height_5 ?_
  have hn_1 := hI.n
  have hm_2 := hI.lim
  refine lv_astore_n (lv' := [(3, .ref (ad 1 (0))), (2, .int (iI ((0 : Nat) : Int))), (1, .int (iI ((0 : Nat) : Int))), (0, .ref (ad 0 (0)))]) hx hb dX2_height_8 rfl hl (by decide) rfl (fun ls hl => ?_)
  refine lv_aload_n hx hb dX2_height_9 rfl (lv_at hl 0 rfl) ?_
  refine fw_alen (v := iI ((40 : Nat) : Int)) hx hb hK hP WC_1 2 rfl rfl dX2_height_10 ?_
  refine lv_istore (lv' := [(4, .int (iI ((40 : Nat) : Int))), (3, .ref (ad 1 (0))), (2, .int (iI ((0 : Nat) : Int))), (1, .int (iI ((0 : Nat) : Int))), (0, .ref (ad 0 (0)))]) hx hb dX2_height_11 hl (by decide) rfl (fun ls hl => ?_)
  refine lv_iconst (v := iI ((0 : Nat) : Int)) hx hb dX2_height_13 (by decide) ?_
  refine lv_istore (lv' := [(5, .int (iI ((0 : Nat) : Int))), (4, .int (iI ((40 : Nat) : Int))), (3, .ref (ad 1 (0))), (2, .int (iI ((0 : Nat) : Int))), (1, .int (iI ((0 : Nat) : Int))), (0, .ref (ad 0 (0)))]) hx hb dX2_height_14 hl (by decide) rfl (fun ls hl => ?_)
  have loop_16 : ∀ (dd i : Nat) (acc : Nat) (ac2 : Nat), 40 + 1 ≤ i + dd → i ≤ 40 → acc = sumN (fun i => if i < σ 8 0 then (if σ 4 i = 1 then σ 0 i else 0) else 0) i → ac2 = sumN (fun i => if i < σ 8 0 then (if σ 4 i = 1 then σ 0 i * (2 * σ 6 i + 1) else 0) else 0) i → ∀ (H : Heap) (locs : List Loc) (ls : Array Slot), fw_P D vwCl z ad (WC cA ad σ μ) H → va_S (fw_A z) s.heap H locs → lv_has ls 7 [(0, .ref (ad 0 (0))), (1, .int (iI ((acc : Nat) : Int))), (2, .int (iI ((ac2 : Nat) : Int))), (3, .ref (ad 1 (0))), (4, .int (iI ((40 : Nat) : Int))), (5, .int (iI ((i : Nat) : Int)))] → W pg l en (headSpec wsX2_height rm_X2_height).room s m args below meth cd H locs 0 0 Q (F0 m 16 ls []) := by
    intro dd
    induction dd with
    | zero => intro i acc ac2 hd_16 hi_16; omega
    | succ dd ih_16 =>
      intro i acc ac2 hd_16 hi_16 e_acc e_ac2 H locs ls hP hS hl
      subst e_acc
      subst e_ac2
      refine lv_iload hx hb dX2_height_16 (lv_at hl 5 rfl) ?_
      refine lv_iload hx hb dX2_height_18 (lv_at hl 4 rfl) ?_
      refine fw_icmp_ge (x := ((i : Nat) : Int)) (y := ((40 : Nat) : Int)) (tgt := 74) hx hb dX2_height_20 (by decide) ⟨by omega, by omega⟩ ⟨by omega, by omega⟩ (fun c_3 => ?_) (fun c_3 => ?_)
      · have hc1 : sumN (fun i => if i < σ 8 0 then (if σ 4 i = 1 then σ 0 i else 0) else 0) i = allS σ := by rw [show i = 40 from by omega]; exact sum_cut hI.n
        have hc2 : sumN (fun i => if i < σ 8 0 then (if σ 4 i = 1 then σ 0 i * (2 * σ 6 i + 1) else 0) else 0) i = upS σ := by rw [show i = 40 from by omega]; exact sum_cut hI.n
        rw [hc1, hc2] at hl
        have hle1 := allS_le hI; have hle2 := upS_le hI
        refine lv_iload_n hx hb dX2_height_74 rfl (lv_at hl 1 rfl) ?_
        refine fw_if_ne (x := ((allS σ : Nat) : Int)) (tgt := 80) hx hb dX2_height_75 (by decide) ⟨by omega, by omega⟩ (fun c_4 => ?_) (fun c_4 => ?_)
        · refine lv_iload_n hx hb dX2_height_80 rfl (lv_at hl 2 rfl) ?_
          refine lv_i2d hx hb dX2_height_81 ?_
          refine lv_iload_n hx hb dX2_height_82 rfl (lv_at hl 1 rfl) ?_
          refine lv_i2d hx hb dX2_height_83 ?_
          refine lv_ddiv hx hb dX2_height_84 (fp_vf (by omega) (by omega) (by omega)) ?_
          subst hQ
          exact fw_dret hx hb hr hlocks dX2_height_85 hP hS ⟨by unfold hgt; rw [if_neg (by omega)], rfl⟩
        · refine lv_dconst0 hx hb dX2_height_78 ?_
          subst hQ
          exact fw_dret hx hb hr hlocks dX2_height_79 hP hS ⟨by unfold hgt; rw [if_pos (by omega)], rfl⟩
      · refine lv_aload_n hx hb dX2_height_23 rfl (lv_at hl 3 rfl) ?_
        refine lv_iload hx hb dX2_height_24 (lv_at hl 5 rfl) ?_
        refine fw_aldN (j := i) hx hb hK hP WC_1 2 rfl (by omega) (by decide) dX2_height_26 ?_
        by_cases n_5 : i < σ 8 0
        · refine fw_top (v' := .ref (ad 5 (i))) (by rw [if_pos n_5]; rfl) ?_
          refine lv_astore (lv' := [(6, .ref (ad 5 (i))), (0, .ref (ad 0 (0))), (1, .int (iI ((sumN (fun i => if i < σ 8 0 then (if σ 4 i = 1 then σ 0 i else 0) else 0) i : Nat) : Int))), (2, .int (iI ((sumN (fun i => if i < σ 8 0 then (if σ 4 i = 1 then σ 0 i * (2 * σ 6 i + 1) else 0) else 0) i : Nat) : Int))), (3, .ref (ad 1 (0))), (4, .int (iI ((40 : Nat) : Int))), (5, .int (iI ((i : Nat) : Int)))]) hx hb dX2_height_27 hl (by decide) rfl (fun ls hl => ?_)
          refine lv_aload hx hb dX2_height_29 (lv_at hl 0 rfl) ?_
          refine lv_ifnull hx hb dX2_height_31 ?_
          refine lv_aload hx hb dX2_height_34 (lv_at hl 0 rfl) ?_
          refine fw_get (ci := 0) (v := va_rf (if σ 4 i = 1 then some (ad 3 (σ 5 i)) else none)) (C := RX0) (T := TX0) (N := 8) hx hb hts hinX0 hown hK hP (WC_5 n_5) rfl 6 (by decide) hf165 (fun _ h9 => h9) rfl dX2_height_36 ?_
          have hc_6 := hI.c i
          by_cases n_7 : σ 4 i = 1
          · refine fw_top (v' := .ref (ad 3 (σ 5 i))) (by rw [if_pos n_7]; rfl) ?_
            refine lv_ifnull hx hb dX2_height_39 ?_
            refine lv_iload_n hx hb dX2_height_42 rfl (lv_at hl 2 rfl) ?_
            refine lv_aload hx hb dX2_height_43 (lv_at hl 0 rfl) ?_
            refine fw_get (ci := 0) (v := .int (iI ((σ 0 i : Nat) : Int))) (C := RX0) (T := TX0) (N := 8) hx hb hts hinX0 hown hK hP (WC_5 n_5) rfl 1 (by decide) hf169 (fun _ h9 => h9) rfl dX2_height_45 ?_
            refine fw_iaddN (a := sumN (fun i => if i < σ 8 0 then (if σ 4 i = 1 then σ 0 i else 0) else 0) i) (b := σ 0 i) hx hb dX2_height_48 ?_
            refine lv_istore_n (lv' := [(1, .int (iI (((sumN (fun i => if i < σ 8 0 then (if σ 4 i = 1 then σ 0 i else 0) else 0) i) + (σ 0 i) : Nat) : Int))), (6, .ref (ad 5 (i))), (0, .ref (ad 0 (0))), (2, .int (iI ((sumN (fun i => if i < σ 8 0 then (if σ 4 i = 1 then σ 0 i * (2 * σ 6 i + 1) else 0) else 0) i : Nat) : Int))), (3, .ref (ad 1 (0))), (4, .int (iI ((40 : Nat) : Int))), (5, .int (iI ((i : Nat) : Int)))]) hx hb dX2_height_49 rfl hl (by decide) rfl (fun ls hl => ?_)
            refine lv_iload_n hx hb dX2_height_50 rfl (lv_at hl 3 rfl) ?_
            refine lv_aload hx hb dX2_height_51 (lv_at hl 1 rfl) ?_
            refine fw_get (ci := 0) (v := .int (iI ((σ 0 i : Nat) : Int))) (C := RX0) (T := TX0) (N := 8) hx hb hts hinX0 hown hK hP (WC_5 n_5) rfl 1 (by decide) hf169 (fun _ h9 => h9) rfl dX2_height_53 ?_
            refine lv_iconst (v := iI ((2 : Nat) : Int)) hx hb dX2_height_56 (by decide) ?_
            refine lv_aload hx hb dX2_height_57 (lv_at hl 1 rfl) ?_
            refine fw_get (ci := 0) (v := .int (iI ((σ 6 i : Nat) : Int))) (C := RX0) (T := TX0) (N := 8) hx hb hts hinX0 hown hK hP (WC_5 n_5) rfl 7 (by decide) hf107 (fun _ h9 => h9) rfl dX2_height_59 ?_
            refine fw_imulN (a := 2) (b := σ 6 i) hx hb dX2_height_62 ?_
            refine lv_iconst (v := iI ((1 : Nat) : Int)) hx hb dX2_height_63 (by decide) ?_
            refine fw_iaddN (a := 2 * (σ 6 i)) (b := 1) hx hb dX2_height_64 ?_
            refine fw_imulN (a := σ 0 i) (b := (2 * (σ 6 i)) + 1) hx hb dX2_height_65 ?_
            refine fw_iaddN (a := sumN (fun i => if i < σ 8 0 then (if σ 4 i = 1 then σ 0 i * (2 * σ 6 i + 1) else 0) else 0) i) (b := (σ 0 i) * ((2 * (σ 6 i)) + 1)) hx hb dX2_height_66 ?_
            refine lv_istore_n (lv' := [(2, .int (iI (((sumN (fun i => if i < σ 8 0 then (if σ 4 i = 1 then σ 0 i * (2 * σ 6 i + 1) else 0) else 0) i) + ((σ 0 i) * ((2 * (σ 6 i)) + 1)) : Nat) : Int))), (1, .int (iI (((sumN (fun i => if i < σ 8 0 then (if σ 4 i = 1 then σ 0 i else 0) else 0) i) + (σ 0 i) : Nat) : Int))), (6, .ref (ad 5 (i))), (0, .ref (ad 0 (0))), (3, .ref (ad 1 (0))), (4, .int (iI ((40 : Nat) : Int))), (5, .int (iI ((i : Nat) : Int)))]) hx hb dX2_height_67 rfl hl (by decide) rfl (fun ls hl => ?_)
            refine fw_iincN (x := i) (lv' := [(5, .int (iI ((i + 1 : Nat) : Int))), (2, .int (iI (((sumN (fun i => if i < σ 8 0 then (if σ 4 i = 1 then σ 0 i * (2 * σ 6 i + 1) else 0) else 0) i) + ((σ 0 i) * ((2 * (σ 6 i)) + 1)) : Nat) : Int))), (1, .int (iI (((sumN (fun i => if i < σ 8 0 then (if σ 4 i = 1 then σ 0 i else 0) else 0) i) + (σ 0 i) : Nat) : Int))), (6, .ref (ad 5 (i))), (0, .ref (ad 0 (0))), (3, .ref (ad 1 (0))), (4, .int (iI ((40 : Nat) : Int)))]) hx hb dX2_height_68 hl (k := 6) rfl (by decide) rfl (fun ls hl => ?_)
            refine lv_goto (tgt := 16) hx hb dX2_height_71 (by decide) ?_
            exact ih_16 (i + 1) _ _ (by omega) (by omega) (by rw [sumN, if_pos (by assumption)]; first | rw [if_pos (by assumption)] | (rw [if_neg (by assumption)]; rfl)) (by rw [sumN, if_pos (by assumption)]; first | rw [if_pos (by assumption)] | (rw [if_neg (by assumption)]; rfl)) H locs ls hP hS (lv_sub hl [4, 2, 1, 5, 6, 0] rfl)
          · refine fw_top (v' := .null) (by rw [if_neg n_7]; rfl) ?_
            refine lv_ifnullN (tgt := 68) hx hb dX2_height_39 (by decide) ?_
            refine fw_iincN (x := i) (lv' := [(5, .int (iI ((i + 1 : Nat) : Int))), (6, .ref (ad 5 (i))), (0, .ref (ad 0 (0))), (1, .int (iI ((sumN (fun i => if i < σ 8 0 then (if σ 4 i = 1 then σ 0 i else 0) else 0) i : Nat) : Int))), (2, .int (iI ((sumN (fun i => if i < σ 8 0 then (if σ 4 i = 1 then σ 0 i * (2 * σ 6 i + 1) else 0) else 0) i : Nat) : Int))), (3, .ref (ad 1 (0))), (4, .int (iI ((40 : Nat) : Int)))]) hx hb dX2_height_68 hl (k := 6) rfl (by decide) rfl (fun ls hl => ?_)
            refine lv_goto (tgt := 16) hx hb dX2_height_71 (by decide) ?_
            exact ih_16 (i + 1) _ _ (by omega) (by omega) (by rw [sumN, if_pos (by assumption)]; first | rw [if_pos (by assumption)] | (rw [if_neg (by assumption)]; rfl)) (by rw [sumN, if_pos (by assumption)]; first | rw [if_pos (by assumption)] | (rw [if_neg (by assumption)]; rfl)) H locs ls hP hS (lv_sub hl [2, 3, 4, 5, 6, 0] rfl)
        · refine fw_top (v' := .null) (by rw [if_neg n_5]; rfl) ?_
          refine lv_astoreN (lv' := [(6, .null), (0, .ref (ad 0 (0))), (1, .int (iI ((sumN (fun i => if i < σ 8 0 then (if σ 4 i = 1 then σ 0 i else 0) else 0) i : Nat) : Int))), (2, .int (iI ((sumN (fun i => if i < σ 8 0 then (if σ 4 i = 1 then σ 0 i * (2 * σ 6 i + 1) else 0) else 0) i : Nat) : Int))), (3, .ref (ad 1 (0))), (4, .int (iI ((40 : Nat) : Int))), (5, .int (iI ((i : Nat) : Int)))]) hx hb dX2_height_27 hl (by decide) rfl (fun ls hl => ?_)
          refine lv_aloadN hx hb dX2_height_29 (lv_at hl 0 rfl) ?_
          refine lv_ifnullN (tgt := 68) hx hb dX2_height_31 (by decide) ?_
          refine fw_iincN (x := i) (lv' := [(5, .int (iI ((i + 1 : Nat) : Int))), (6, .null), (0, .ref (ad 0 (0))), (1, .int (iI ((sumN (fun i => if i < σ 8 0 then (if σ 4 i = 1 then σ 0 i else 0) else 0) i : Nat) : Int))), (2, .int (iI ((sumN (fun i => if i < σ 8 0 then (if σ 4 i = 1 then σ 0 i * (2 * σ 6 i + 1) else 0) else 0) i : Nat) : Int))), (3, .ref (ad 1 (0))), (4, .int (iI ((40 : Nat) : Int)))]) hx hb dX2_height_68 hl (k := 6) rfl (by decide) rfl (fun ls hl => ?_)
          refine lv_goto (tgt := 16) hx hb dX2_height_71 (by decide) ?_
          exact ih_16 (i + 1) _ _ (by omega) (by omega) (by rw [sumN, if_neg (by assumption)]; rfl) (by rw [sumN, if_neg (by assumption)]; rfl) H locs ls hP hS (lv_sub hl [2, 3, 4, 5, 6, 0] rfl)
  exact loop_16 (40 + 1) (0) _ _ (by omega) (by omega) (by rfl) (by rfl) H locs ls hP hS (lv_sub hl [5, 4, 3, 2, 1, 0] rfl)

abbrev rm_X2_isSteady : Room := { frames := 2, cells := 0, slots := 0, locals := 51 }
abbrev po_X2_isSteady (cA : Nat → ClassId) (ad : fw_Ad) (σ : St) (μ : fw_W) : Int32 → fw_W → Prop := fun r w' => r = iI (bI (cB (steady σ))) ∧ w' = WC cA ad σ μ
set_option maxHeartbeats 4000000 in
set_option maxRecDepth 100000 in
theorem c_X2_isSteady (l : Launch) (D : va_G) (cA : Nat → ClassId) (z : Nat) (ad : fw_Ad) (σ : St) (μ : fw_W) (hI : Inv σ) : Met l yX2_isSteady wsX2_isSteady rm_X2_isSteady (va_Pc [.ref (ad 0 (0))] (fw_Pre D vwCl (fw_T cA) z ad (WC cA ad σ μ))) (fw_Qi D vwCl z ad (po_X2_isSteady cA ad σ μ)) 0 0 (fw_A z) := by
  refine Met.ofW (cc := cX2_isSteady) (maxL := 1) (ret := (some .boolean)) (by decide) rfl ?_
  intro pg en s m args below meth cd s₁ B hml hv
  obtain ⟨hargs, hP, hK⟩ := hv
  have hx := B.exec
  have hb := B.bytes
  have hr := B.returns
  have hts := atoms_spec (ws := wsX2_isSteady) B.pre
  have hown : s.vm.findClass RX2 = some m.cls := findClass_of_methodNamed B.named
  have hlocks := B.notSynchronized
  have hinX2 : ∀ w ∈ u_ws RX2 TX2 8, w ∈ wsX2_isSteady := by decide +kernel
  have hf31 := hts (.fieldLink RX2 31 "StowagePlan" "listLimit" "I") (by decide +kernel)
  have hf34 := hts (.fieldLink RX2 34 "StowagePlan" "trimLimit" "I") (by decide +kernel)
  have hl := lv_entry ([.ref (ad 0 (0))]) (n := 1) (Nat.le_of_ble_eq_true rfl)
  have hent : entryFrame m args 1 = entryFrame m ([.ref (ad 0 (0))] : List Value).toArray 1 := by rw [hargs]
  rw [hent, lg_entry_eq]
  generalize (lg_sl ([.ref (ad 0 (0))]) ++ List.replicate (1 - (lg_sl ([.ref (ad 0 (0))])).length) Slot.unset).toArray = ls at hl ⊢
  have hl : lv_has ls 1 [(0, .ref (ad 0 (0)))] := hl
  generalize hQ : MQ below (fw_Qi D vwCl z ad (po_X2_isSteady cA ad σ μ)) args s 0 0 (fw_A z) = Q
  generalize hH : s.heap = H at hP ⊢
  have hS : va_S (fw_A z) s.heap H [] := by rw [← hH]; exact va_S.rf
  generalize ([] : List Loc) = locs at hS ⊢
  refine lv_aload_n hx hb dX2_isSteady_0 rfl (lv_at hl 0 rfl) ?_
  refine lv_iconst (v := iI ((0 : Nat) : Int)) hx hb dX2_isSteady_1 (by decide) ?_
  refine fw_cVi (As := [.int (iI ((0 : Nat) : Int))]) (rest := []) ⟨hx, hb, hml, hown, hts⟩ (c_X2_moment l D cA z ad σ μ false hI) (cwV 1 hts gX2_isSteady_X2_moment rfl rfl rfl (by decide +kernel) ⟨Nat.le_of_ble_eq_true rfl, Nat.le_of_ble_eq_true rfl⟩) WC_0 rfl rfl hl.1 (Nat.le_of_ble_eq_true rfl) dX2_isSteady_2 ⟨Nat.le_of_ble_eq_true rfl, Nat.le_of_ble_eq_true rfl⟩ hK hP hS rfl (fun r w' H locs q_1 hP hS => ?_)
  obtain ⟨rfl, rfl⟩ := q_1
  have hmo_false := mom_le hI false
  refine fw_abs (x := (mom σ false)) hx hb (by rw [hml]; exact hl.1.symm) hown (hts (.methodLink RX2 176 Lib.Math.abs.name) (by decide +kernel)) (hts (.static Lib.Math.abs.name) (by decide +kernel)) (hts (.initialized "java/lang/Math") (by decide +kernel)) (hts (.code Lib.Math.abs.name Lib.Math.abs.code 1 (some .int)) (by decide +kernel)) (Nat.le_of_ble_eq_true rfl) (Nat.le_of_ble_eq_true rfl) (Nat.le_of_ble_eq_true rfl) (Nat.le_of_ble_eq_true rfl) ⟨by omega, by omega⟩ dX2_isSteady_5 ?_
  refine lv_aload_n hx hb dX2_isSteady_8 rfl (lv_at hl 0 rfl) ?_
  refine fw_get (ci := 2) (v := .int (iI ((σ 8 2 : Nat) : Int))) (C := RX2) (T := TX2) (N := 8) hx hb hts hinX2 hown hK hP WC_0 rfl 5 (by decide) hf31 (fun _ h9 => h9) rfl dX2_isSteady_9 ?_
  have hn_2 := hI.n
  have hm_3 := hI.lim
  refine fw_icmp_gt (x := ((Int.natAbs (mom σ false) : Nat) : Int)) (y := ((σ 8 2 : Nat) : Int)) (tgt := 45) hx hb dX2_isSteady_12 (by decide) ⟨by omega, by omega⟩ ⟨by omega, by omega⟩ (fun c_4 => ?_) (fun c_4 => ?_)
  · refine lv_iconst (v := iI ((0 : Nat) : Int)) hx hb dX2_isSteady_45 (by decide) ?_
    subst hQ
    exact fw_zret hx hb hr hlocks dX2_isSteady_46 hP hS rfl ⟨congrArg iI (bI_cf (by unfold steady; omega)), rfl⟩
  · refine lv_aload_n hx hb dX2_isSteady_15 rfl (lv_at hl 0 rfl) ?_
    refine lv_iconst (v := iI ((1 : Nat) : Int)) hx hb dX2_isSteady_16 (by decide) ?_
    refine fw_cVi (As := [.int (iI ((1 : Nat) : Int))]) (rest := []) ⟨hx, hb, hml, hown, hts⟩ (c_X2_moment l D cA z ad σ μ true hI) (cwV 1 hts gX2_isSteady_X2_moment rfl rfl rfl (by decide +kernel) ⟨Nat.le_of_ble_eq_true rfl, Nat.le_of_ble_eq_true rfl⟩) WC_0 rfl rfl hl.1 (Nat.le_of_ble_eq_true rfl) dX2_isSteady_17 ⟨Nat.le_of_ble_eq_true rfl, Nat.le_of_ble_eq_true rfl⟩ hK hP hS rfl (fun r w' H locs q_5 hP hS => ?_)
    obtain ⟨rfl, rfl⟩ := q_5
    have hmo_true := mom_le hI true
    refine fw_abs (x := (mom σ true)) hx hb (by rw [hml]; exact hl.1.symm) hown (hts (.methodLink RX2 176 Lib.Math.abs.name) (by decide +kernel)) (hts (.static Lib.Math.abs.name) (by decide +kernel)) (hts (.initialized "java/lang/Math") (by decide +kernel)) (hts (.code Lib.Math.abs.name Lib.Math.abs.code 1 (some .int)) (by decide +kernel)) (Nat.le_of_ble_eq_true rfl) (Nat.le_of_ble_eq_true rfl) (Nat.le_of_ble_eq_true rfl) (Nat.le_of_ble_eq_true rfl) ⟨by omega, by omega⟩ dX2_isSteady_20 ?_
    refine lv_aload_n hx hb dX2_isSteady_23 rfl (lv_at hl 0 rfl) ?_
    refine fw_get (ci := 2) (v := .int (iI ((σ 8 3 : Nat) : Int))) (C := RX2) (T := TX2) (N := 8) hx hb hts hinX2 hown hK hP WC_0 rfl 6 (by decide) hf34 (fun _ h9 => h9) rfl dX2_isSteady_24 ?_
    refine fw_icmp_gt (x := ((Int.natAbs (mom σ true) : Nat) : Int)) (y := ((σ 8 3 : Nat) : Int)) (tgt := 45) hx hb dX2_isSteady_27 (by decide) ⟨by omega, by omega⟩ ⟨by omega, by omega⟩ (fun c_6 => ?_) (fun c_6 => ?_)
    · refine lv_iconst (v := iI ((0 : Nat) : Int)) hx hb dX2_isSteady_45 (by decide) ?_
      subst hQ
      exact fw_zret hx hb hr hlocks dX2_isSteady_46 hP hS rfl ⟨congrArg iI (bI_cf (by unfold steady; omega)), rfl⟩
    · refine lv_aload_n hx hb dX2_isSteady_30 rfl (lv_at hl 0 rfl) ?_
      refine fw_cVd (As := []) (rest := []) ⟨hx, hb, hml, hown, hts⟩ (c_X2_height l D cA z ad σ μ  hI) (cwV 0 hts gX2_isSteady_X2_height rfl rfl rfl (by decide +kernel) ⟨Nat.le_of_ble_eq_true rfl, Nat.le_of_ble_eq_true rfl⟩) WC_0 rfl rfl hl.1 (Nat.le_of_ble_eq_true rfl) dX2_isSteady_31 ⟨Nat.le_of_ble_eq_true rfl, Nat.le_of_ble_eq_true rfl⟩ hK hP hS rfl (fun r w' H locs q_7 hP hS => ?_)
      obtain ⟨rfl, rfl⟩ := q_7
      refine lv_ldc2d (v := 4617315517961601024) hx hb hown (hts (.constantDouble RX2 185 (4617315517961601024)) (by decide +kernel)) dX2_isSteady_34 ?_
      refine lv_dcmp hx hb dX2_isSteady_37 ?_
      refine lv_if_gt (tgt := 45) hx hb dX2_isSteady_38 (by decide) (fun c_8 => ?_) (fun c_8 => ?_)
      · refine lv_iconst (v := iI ((0 : Nat) : Int)) hx hb dX2_isSteady_45 (by decide) ?_
        subst hQ
        exact fw_zret hx hb hr hlocks dX2_isSteady_46 hP hS rfl ⟨congrArg iI (bI_cf (by rintro ⟨q1, q2, q3⟩; have := (fp_gt hI).mp (by assumption); omega)), rfl⟩
      · refine lv_iconst (v := iI ((1 : Nat) : Int)) hx hb dX2_isSteady_41 (by decide) ?_
        refine lv_goto (tgt := 46) hx hb dX2_isSteady_42 (by decide) ?_
        subst hQ
        exact fw_zret hx hb hr hlocks dX2_isSteady_46 hP hS rfl ⟨congrArg iI (bI_ct (by refine ⟨by omega, by omega, ?_⟩; exact Nat.le_of_not_lt (fun q => absurd ((fp_gt hI).mpr q) (by assumption)))), rfl⟩
