abbrev rm_X2_init : Room := { frames := 2, cells := 62, slots := 340, locals := 43 }
abbrev po_X2_init (cA : Nat → ClassId) (ad : fw_Ad) (w : fw_W) (n : Nat) (A0 A1 A2 A3 A4 A5 A6 A7 : Value) : fw_W → Prop := fun w' => w' = WC cA ad σ0 (fun _ _ => none)
set_option maxHeartbeats 4000000 in
set_option maxRecDepth 100000 in
theorem c_X2_init (l : Launch) (D : va_G) (cA : Nat → ClassId) (z : Nat) (ad : fw_Ad) (w : fw_W) (n : Nat) (A0 A1 A2 A3 A4 A5 A6 A7 : Value) (hpl : w 0 0 = some (.inr (2, [A0, A1, A2, A3, A4, A5, A6, A7]))) (hn : ∀ b j, ¬ (b = 0 ∧ j = 0) → w b j = none) (had : ad 1 0 = n ∧ ad 2 0 = n + 1 ∧ ∀ k, k < 30 → ad 3 k = n + 2 + 2 * k ∧ ad 4 k = n + 3 + 2 * k) : Met l yX2_init wsX2_init rm_X2_init (va_Pc [.ref (ad 0 (0))] (fa_Pre D vwCl (fw_T cA) z ad (w) (n))) (fw_Qv D vwCl z ad (po_X2_init cA ad w n A0 A1 A2 A3 A4 A5 A6 A7)) 62 340 (fw_A z) := by
  refine Met.ofW (cc := cX2_init) (maxL := 3) (ret := none) (by decide) rfl ?_
  intro pg en s m args below meth cd s₁ B hml hv
  obtain ⟨hargs, ⟨hP, hK⟩, hH0, hAO⟩ := hv
  have hx := B.exec
  have hb := B.bytes
  have hr := B.returns
  have hts := atoms_spec (ws := wsX2_init) B.pre
  have hown : s.vm.findClass RX2 = some m.cls := findClass_of_methodNamed B.named
  have hlocks := B.notSynchronized
  have hinn : meth.name = "<init>" := (name_of_methodNamed B.named B.method).1
  have hinX1 : ∀ w ∈ u_ws RX1 TX1 5, w ∈ wsX2_init := by decide +kernel
  have hinX2 : ∀ w ∈ u_ws RX2 TX2 8, w ∈ wsX2_init := by decide +kernel
  have hf11 := hts (.fieldLink RX2 11 "StowagePlan" "boxes" "[LStowagePlan$Box;") (by decide +kernel)
  have hf17 := hts (.fieldLink RX2 17 "StowagePlan" "stacks" "[LStowagePlan$Stack;") (by decide +kernel)
  have hf21 := hts (.fieldLink RX2 21 "StowagePlan" "boxCount" "I") (by decide +kernel)
  have hf25 := hts (.fieldLink RX2 25 "StowagePlan" "shipPort" "I") (by decide +kernel)
  have hf28 := hts (.fieldLink RX2 28 "StowagePlan" "stackLimit" "I") (by decide +kernel)
  have hf31 := hts (.fieldLink RX2 31 "StowagePlan" "listLimit" "I") (by decide +kernel)
  have hf34 := hts (.fieldLink RX2 34 "StowagePlan" "trimLimit" "I") (by decide +kernel)
  have hf37 := hts (.fieldLink RX2 37 "StowagePlan" "putBack" "I") (by decide +kernel)
  have hl := lv_entry ([.ref (ad 0 (0))]) (n := 3) (Nat.le_of_ble_eq_true rfl)
  have hent : entryFrame m args 3 = entryFrame m ([.ref (ad 0 (0))] : List Value).toArray 3 := by rw [hargs]
  rw [hent, lg_entry_eq]
  generalize (lg_sl ([.ref (ad 0 (0))]) ++ List.replicate (3 - (lg_sl ([.ref (ad 0 (0))])).length) Slot.unset).toArray = ls at hl ⊢
  have hl : lv_has ls 3 [(0, .ref (ad 0 (0)))] := hl
  generalize hQ : MQ below (fw_Qv D vwCl z ad (po_X2_init cA ad w n A0 A1 A2 A3 A4 A5 A6 A7)) args s 62 340 (fw_A z) = Q
  generalize hH : s.heap = H at hP ⊢
  have hS : va_S (fw_A z) s.heap H [] := by rw [← hH]; exact va_S.rf
  generalize ([] : List Loc) = locs at hS ⊢
  refine lv_aload_n hx hb dX2_init_0 rfl (lv_at hl 0 rfl) ?_
  refine W.objInit hx hb hown (hts (.methodLink RX2 1 objectInit) (by decide +kernel)) (hts (.instanceMethod objectInit) (by decide +kernel)) (hts (.code objectInit ⟨#[0xb1]⟩ 1 none) (by decide +kernel)) rfl (hl.1.trans hml.symm) rfl dX2_init_1 (Nat.le_of_ble_eq_true rfl) (Nat.le_of_ble_eq_true rfl) ?_
  show W pg l en _ s m args below meth cd H locs _ _ Q (F0 m 4 ls [])
  refine lv_aload_n hx hb dX2_init_4 rfl (lv_at hl 0 rfl) ?_
  refine lv_bipush (v := iI ((40 : Nat) : Int)) hx hb dX2_init_5 (by decide) ?_
  refine W.sized (fun hsz => ?_)
  have hs1 := hS.1
  have hlt_1 := fw_lt (a := 0) (i := 0) hP hpl
  have hzz := (hP.1 0 (0) _ hpl).2
  refine fw_newq (a := 1) (i := 0) hx hb hown (hts (.classLink RX2 9 RX0) (by decide +kernel)) hAO.1 hK hP hS (by omega) 2 rfl (by decide) (hn _ _ (by decide)) (by omega) (Nat.le_of_ble_eq_true rfl) (Nat.le_of_ble_eq_true rfl) dX2_init_7 (fun H hP hS hsz2 => ?_)
  obtain ⟨w_2, h_w_2⟩ : ∃ x, x = fw_up (w) 1 (0) (.inl (cA 2, 40, .inr (.inr (.inr (.inr (fun _ => none)))))) := ⟨_, rfl⟩
  have hP : fw_P D vwCl z ad w_2 H := by rw [h_w_2]; exact hP
  refine fw_putF (ci := 2) (v := .ref (ad 1 (0))) (ty := (.array (.object "StowagePlan$Box"))) (C := RX2) (T := TX2) (N := 8) hx hb hts hinX2 tyX2 tyX2_ok nmX2 hown hK hP hS (by rw [h_w_2]; exact (fw_up_k (by decide)).trans hpl) rfl 0 (by decide) hf11 (fun _ h9 => h9) rfl hinn rfl (by decide +kernel) rfl rfl (Nat.le_of_ble_eq_true rfl) dX2_init_10 (fun H locs hP hS => ?_)
  obtain ⟨w_3, h_w_3⟩ : ∃ x, x = fw_up (w_2) 0 (0) (.inr (2, [.ref (ad 1 (0)), A1, A2, A3, A4, A5, A6, A7])) := ⟨_, rfl⟩
  have hP : fw_P D vwCl z ad w_3 H := by rw [h_w_3]; exact hP
  refine lv_aload_n hx hb dX2_init_13 rfl (lv_at hl 0 rfl) ?_
  refine lv_bipush (v := iI ((30 : Nat) : Int)) hx hb dX2_init_14 (by decide) ?_
  refine W.sized (fun hsz => ?_)
  have hs1 := hS.1
  have hlt_4 := fw_lt (a := 0) (i := 0) hP (by rw [h_w_3]; exact fw_up_same _ _ _ _)
  have hzz := (hP.1 0 (0) _ (by rw [h_w_3]; exact fw_up_same _ _ _ _)).2
  have hlt_5 := fw_lt (a := 1) (i := 0) hP (by rw [h_w_3]; exact (fw_up_k (by decide)).trans (by rw [h_w_2]; exact fw_up_same _ _ _ _))
  refine fw_newq (a := 2) (i := 0) hx hb hown (hts (.classLink RX2 15 RX1) (by decide +kernel)) hAO.2 hK hP hS (by omega) 3 rfl (by decide) (by rw [h_w_3, h_w_2]; repeat rw [fw_up_k (by decide)]; exact hn _ _ (by decide)) (by omega) (Nat.le_of_ble_eq_true rfl) (Nat.le_of_ble_eq_true rfl) dX2_init_16 (fun H hP hS hsz2 => ?_)
  obtain ⟨w_6, h_w_6⟩ : ∃ x, x = fw_up (w_3) 2 (0) (.inl (cA 3, 30, .inr (.inr (.inr (.inr (fun _ => none)))))) := ⟨_, rfl⟩
  have hP : fw_P D vwCl z ad w_6 H := by rw [h_w_6]; exact hP
  refine fw_putF (ci := 2) (v := .ref (ad 2 (0))) (ty := (.array (.object "StowagePlan$Stack"))) (C := RX2) (T := TX2) (N := 8) hx hb hts hinX2 tyX2 tyX2_ok nmX2 hown hK hP hS (by rw [h_w_6]; exact (fw_up_k (by decide)).trans (by rw [h_w_3]; exact fw_up_same _ _ _ _)) rfl 1 (by decide) hf17 (fun _ h9 => h9) rfl hinn rfl (by decide +kernel) rfl rfl (Nat.le_of_ble_eq_true rfl) dX2_init_19 (fun H locs hP hS => ?_)
  obtain ⟨w_7, h_w_7⟩ : ∃ x, x = fw_up (w_6) 0 (0) (.inr (2, [.ref (ad 1 (0)), .ref (ad 2 (0)), A2, A3, A4, A5, A6, A7])) := ⟨_, rfl⟩
  have hP : fw_P D vwCl z ad w_7 H := by rw [h_w_7]; exact hP
  refine lv_aload_n hx hb dX2_init_22 rfl (lv_at hl 0 rfl) ?_
  refine lv_iconst (v := iI ((0 : Nat) : Int)) hx hb dX2_init_23 (by decide) ?_
  refine fw_put (ci := 2) (v := .int (iI ((0 : Nat) : Int))) (ty := .int) (C := RX2) (T := TX2) (N := 8) hx hb hts hinX2 tyX2 tyX2_ok nmX2 hown hK hP hS (by rw [h_w_7]; exact fw_up_same _ _ _ _) rfl 2 (by decide) hf21 (fun _ h9 => h9) rfl (by decide +kernel) rfl rfl (Nat.le_of_ble_eq_true rfl) dX2_init_24 (fun H locs hP hS => ?_)
  obtain ⟨w_8, h_w_8⟩ : ∃ x, x = fw_up (w_7) 0 (0) (.inr (2, [.ref (ad 1 (0)), .ref (ad 2 (0)), .int (iI ((0 : Nat) : Int)), A3, A4, A5, A6, A7])) := ⟨_, rfl⟩
  have hP : fw_P D vwCl z ad w_8 H := by rw [h_w_8]; exact hP
  refine lv_aload_n hx hb dX2_init_27 rfl (lv_at hl 0 rfl) ?_
  refine lv_iconst (v := iI ((0 : Nat) : Int)) hx hb dX2_init_28 (by decide) ?_
  refine fw_put (ci := 2) (v := .int (iI ((0 : Nat) : Int))) (ty := .int) (C := RX2) (T := TX2) (N := 8) hx hb hts hinX2 tyX2 tyX2_ok nmX2 hown hK hP hS (by rw [h_w_8]; exact fw_up_same _ _ _ _) rfl 3 (by decide) hf25 (fun _ h9 => h9) rfl (by decide +kernel) rfl rfl (Nat.le_of_ble_eq_true rfl) dX2_init_29 (fun H locs hP hS => ?_)
  obtain ⟨w_9, h_w_9⟩ : ∃ x, x = fw_up (w_8) 0 (0) (.inr (2, [.ref (ad 1 (0)), .ref (ad 2 (0)), .int (iI ((0 : Nat) : Int)), .int (iI ((0 : Nat) : Int)), A4, A5, A6, A7])) := ⟨_, rfl⟩
  have hP : fw_P D vwCl z ad w_9 H := by rw [h_w_9]; exact hP
  refine lv_aload_n hx hb dX2_init_32 rfl (lv_at hl 0 rfl) ?_
  refine lv_bipush (v := iI ((60 : Nat) : Int)) hx hb dX2_init_33 (by decide) ?_
  refine fw_put (ci := 2) (v := .int (iI ((60 : Nat) : Int))) (ty := .int) (C := RX2) (T := TX2) (N := 8) hx hb hts hinX2 tyX2 tyX2_ok nmX2 hown hK hP hS (by rw [h_w_9]; exact fw_up_same _ _ _ _) rfl 4 (by decide) hf28 (fun _ h9 => h9) rfl (by decide +kernel) rfl rfl (Nat.le_of_ble_eq_true rfl) dX2_init_35 (fun H locs hP hS => ?_)
  obtain ⟨w_10, h_w_10⟩ : ∃ x, x = fw_up (w_9) 0 (0) (.inr (2, [.ref (ad 1 (0)), .ref (ad 2 (0)), .int (iI ((0 : Nat) : Int)), .int (iI ((0 : Nat) : Int)), .int (iI ((60 : Nat) : Int)), A5, A6, A7])) := ⟨_, rfl⟩
  have hP : fw_P D vwCl z ad w_10 H := by rw [h_w_10]; exact hP
  refine lv_aload_n hx hb dX2_init_38 rfl (lv_at hl 0 rfl) ?_
  refine lv_bipush (v := iI ((60 : Nat) : Int)) hx hb dX2_init_39 (by decide) ?_
  refine fw_put (ci := 2) (v := .int (iI ((60 : Nat) : Int))) (ty := .int) (C := RX2) (T := TX2) (N := 8) hx hb hts hinX2 tyX2 tyX2_ok nmX2 hown hK hP hS (by rw [h_w_10]; exact fw_up_same _ _ _ _) rfl 5 (by decide) hf31 (fun _ h9 => h9) rfl (by decide +kernel) rfl rfl (Nat.le_of_ble_eq_true rfl) dX2_init_41 (fun H locs hP hS => ?_)
  obtain ⟨w_11, h_w_11⟩ : ∃ x, x = fw_up (w_10) 0 (0) (.inr (2, [.ref (ad 1 (0)), .ref (ad 2 (0)), .int (iI ((0 : Nat) : Int)), .int (iI ((0 : Nat) : Int)), .int (iI ((60 : Nat) : Int)), .int (iI ((60 : Nat) : Int)), A6, A7])) := ⟨_, rfl⟩
  have hP : fw_P D vwCl z ad w_11 H := by rw [h_w_11]; exact hP
  refine lv_aload_n hx hb dX2_init_44 rfl (lv_at hl 0 rfl) ?_
  refine lv_sipush (v := iI ((200 : Nat) : Int)) hx hb dX2_init_45 (by decide) ?_
  refine fw_put (ci := 2) (v := .int (iI ((200 : Nat) : Int))) (ty := .int) (C := RX2) (T := TX2) (N := 8) hx hb hts hinX2 tyX2 tyX2_ok nmX2 hown hK hP hS (by rw [h_w_11]; exact fw_up_same _ _ _ _) rfl 6 (by decide) hf34 (fun _ h9 => h9) rfl (by decide +kernel) rfl rfl (Nat.le_of_ble_eq_true rfl) dX2_init_48 (fun H locs hP hS => ?_)
  obtain ⟨w_12, h_w_12⟩ : ∃ x, x = fw_up (w_11) 0 (0) (.inr (2, [.ref (ad 1 (0)), .ref (ad 2 (0)), .int (iI ((0 : Nat) : Int)), .int (iI ((0 : Nat) : Int)), .int (iI ((60 : Nat) : Int)), .int (iI ((60 : Nat) : Int)), .int (iI ((200 : Nat) : Int)), A7])) := ⟨_, rfl⟩
  have hP : fw_P D vwCl z ad w_12 H := by rw [h_w_12]; exact hP
  refine lv_aload_n hx hb dX2_init_51 rfl (lv_at hl 0 rfl) ?_
  refine lv_iconst (v := iI ((0 : Nat) : Int)) hx hb dX2_init_52 (by decide) ?_
  refine fw_put (ci := 2) (v := .int (iI ((0 : Nat) : Int))) (ty := .int) (C := RX2) (T := TX2) (N := 8) hx hb hts hinX2 tyX2 tyX2_ok nmX2 hown hK hP hS (by rw [h_w_12]; exact fw_up_same _ _ _ _) rfl 7 (by decide) hf37 (fun _ h9 => h9) rfl (by decide +kernel) rfl rfl (Nat.le_of_ble_eq_true rfl) dX2_init_53 (fun H locs hP hS => ?_)
  obtain ⟨w_13, h_w_13⟩ : ∃ x, x = fw_up (w_12) 0 (0) (.inr (2, [.ref (ad 1 (0)), .ref (ad 2 (0)), .int (iI ((0 : Nat) : Int)), .int (iI ((0 : Nat) : Int)), .int (iI ((60 : Nat) : Int)), .int (iI ((60 : Nat) : Int)), .int (iI ((200 : Nat) : Int)), .int (iI ((0 : Nat) : Int))])) := ⟨_, rfl⟩
  have hP : fw_P D vwCl z ad w_13 H := by rw [h_w_13]; exact hP
  have hP := WI_ext0 (by rw [h_w_13]; exact fw_up_same _ _ _ _) (by rw [h_w_13]; exact (fw_up_k (by decide)).trans (by rw [h_w_12]; exact (fw_up_k (by decide)).trans (by rw [h_w_11]; exact (fw_up_k (by decide)).trans (by rw [h_w_10]; exact (fw_up_k (by decide)).trans (by rw [h_w_9]; exact (fw_up_k (by decide)).trans (by rw [h_w_8]; exact (fw_up_k (by decide)).trans (by rw [h_w_7]; exact (fw_up_k (by decide)).trans (by rw [h_w_6]; exact (fw_up_k (by decide)).trans (by rw [h_w_3]; exact (fw_up_k (by decide)).trans (by rw [h_w_2]; exact fw_up_same _ _ _ _)))))))))) (by rw [h_w_13]; exact (fw_up_k (by decide)).trans (by rw [h_w_12]; exact (fw_up_k (by decide)).trans (by rw [h_w_11]; exact (fw_up_k (by decide)).trans (by rw [h_w_10]; exact (fw_up_k (by decide)).trans (by rw [h_w_9]; exact (fw_up_k (by decide)).trans (by rw [h_w_8]; exact (fw_up_k (by decide)).trans (by rw [h_w_7]; exact (fw_up_k (by decide)).trans (by rw [h_w_6]; exact fw_up_same _ _ _ _)))))))) hP
  refine lv_iconst (v := iI ((0 : Nat) : Int)) hx hb dX2_init_56 (by decide) ?_
  refine lv_istore_n (lv' := [(1, .int (iI ((0 : Nat) : Int))), (0, .ref (ad 0 (0)))]) hx hb dX2_init_57 rfl hl (by decide) rfl (fun ls hl => ?_)
  have loop_58 : ∀ (dd k : Nat), 30 + 1 ≤ k + dd → k ≤ 30 → ∀ (H : Heap) (locs : List Loc) (ls : Array Slot), fw_P D vwCl z ad (WI cA ad k) H → va_S (fw_A z) s.heap H locs → lv_has ls 3 [(0, .ref (ad 0 (0))), (1, .int (iI ((k : Nat) : Int)))] → W pg l en (headSpec wsX2_init rm_X2_init).room s m args below meth cd H locs (2 + 2 * k) (70 + 9 * k) Q (F0 m 58 ls []) := by
    intro dd
    induction dd with
    | zero => intro k hd_58 hi_58; omega
    | succ dd ih_58 =>
      intro k hd_58 hi_58 H locs ls hP hS hl
      have hlow := WI_size had.2.1 (fun j hj => (had.2.2 j hj).2) (by omega) hP
      refine lv_iload_n hx hb dX2_init_58 rfl (lv_at hl 1 rfl) ?_
      refine lv_aload_n hx hb dX2_init_59 rfl (lv_at hl 0 rfl) ?_
      refine fw_get (ci := 2) (v := .ref (ad 2 (0))) (C := RX2) (T := TX2) (N := 8) hx hb hts hinX2 hown hK hP WI_0 rfl 1 (by decide) hf17 (fun _ h9 => h9) rfl dX2_init_60 ?_
      refine fw_alen (v := iI ((30 : Nat) : Int)) hx hb hK hP WI_2 3 rfl rfl dX2_init_63 ?_
      refine fw_icmp_ge (x := ((k : Nat) : Int)) (y := ((30 : Nat) : Int)) (tgt := 109) hx hb dX2_init_64 (by decide) ⟨by omega, by omega⟩ ⟨by omega, by omega⟩ (fun c_14 => ?_) (fun c_14 => ?_)
      · have hk30 : k = 30 := by omega
        subst hk30
        have hP := WI_end hP
        subst hQ
        exact fw_vret hx hb hr hlocks dX2_init_109 hP hS rfl
      · refine lv_iload_n hx hb dX2_init_67 rfl (lv_at hl 1 rfl) ?_
        refine lv_iconst (v := iI ((5 : Nat) : Int)) hx hb dX2_init_68 (by decide) ?_
        refine fw_idivN (a := k) (b := 5) hx hb dX2_init_69 (by omega) (by omega) (by omega) ?_
        refine lv_istore_n (lv' := [(2, .int (iI ((k / 5 : Nat) : Int))), (0, .ref (ad 0 (0))), (1, .int (iI ((k : Nat) : Int)))]) hx hb dX2_init_70 rfl hl (by decide) rfl (fun ls hl => ?_)
        refine lv_aload_n hx hb dX2_init_71 rfl (lv_at hl 1 rfl) ?_
        refine fw_get (ci := 2) (v := .ref (ad 2 (0))) (C := RX2) (T := TX2) (N := 8) hx hb hts hinX2 hown hK hP WI_0 rfl 1 (by decide) hf17 (fun _ h9 => h9) rfl dX2_init_72 ?_
        refine lv_iload_n hx hb dX2_init_75 rfl (lv_at hl 2 rfl) ?_
        refine W.sized (fun hsz => ?_)
        have hs1 := hS.1
        have hlt_15 := fw_lt (a := 0) (i := 0) hP WI_0
        have hzz := (hP.1 0 (0) _ WI_0).2
        refine fw_new (a := 3) (i := k) (ci := 1) (fs := [.int (iI ((0 : Nat) : Int)), .int (iI ((0 : Nat) : Int)), .null, .int (iI ((0 : Nat) : Int)), .int (iI ((0 : Nat) : Int))]) (C := RX1) (T := TX1) (N := 5) hx hb hts hinX1 tyX1 tyX1_ok hown (hts (.classLink RX2 15 RX1) (by decide +kernel)) (hts (.instantiable RX1 5) (by decide +kernel)) (hts (.initialized RX1) (by decide +kernel)) hK hP hS (by omega) rfl (fun j hj => by rcases (show j = 0 ∨ j = 1 ∨ j = 2 ∨ j = 3 ∨ j = 4 by omega) with rfl | rfl | rfl | rfl | rfl <;> rfl) (WI_n3 (Nat.le_refl _)) (by have := (had.2.2 k (by omega)).1; omega) (show 2 + 2 * k + 1 ≤ 62 from by omega) (show 70 + 9 * k + 5 ≤ 340 from by omega) dX2_init_76 (fun H hP hS hsz2 => ?_)
        obtain ⟨w_16, h_w_16⟩ : ∃ x, x = fw_up (WI cA ad k) 3 (k) (.inr (1, [.int (iI ((0 : Nat) : Int)), .int (iI ((0 : Nat) : Int)), .null, .int (iI ((0 : Nat) : Int)), .int (iI ((0 : Nat) : Int))])) := ⟨_, rfl⟩
        have hP : fw_P D vwCl z ad w_16 H := by rw [h_w_16]; exact hP
        refine lv_dup hx hb dX2_init_79 rfl ?_
        refine lv_iload_n hx hb dX2_init_80 rfl (lv_at hl 0 rfl) ?_
        refine lv_iload_n hx hb dX2_init_81 rfl (lv_at hl 2 rfl) ?_
        refine lv_iconst (v := iI ((5 : Nat) : Int)) hx hb dX2_init_82 (by decide) ?_
        refine fw_iremN (a := k) (b := 5) hx hb dX2_init_83 (by omega) (by omega) (by omega) ?_
        refine lv_iload_n hx hb dX2_init_84 rfl (lv_at hl 0 rfl) ?_
        refine lv_iconst (v := iI ((2 : Nat) : Int)) hx hb dX2_init_85 (by decide) ?_
        refine fw_icmp_eq (x := ((k / 5 : Nat) : Int)) (y := ((2 : Nat) : Int)) (tgt := 94) hx hb dX2_init_86 (by decide) ⟨by omega, by omega⟩ ⟨by omega, by omega⟩ (fun c_17 => ?_) (fun c_17 => ?_)
        · refine lv_iconst (v := iI ((1 : Nat) : Int)) hx hb dX2_init_94 (by decide) ?_
          refine lv_goto (tgt := 99) hx hb dX2_init_95 (by decide) ?_
          refine fw_top (v' := .int (iI (bI true))) rfl ?_
          refine W.sized (fun hsz3 => ?_)
          have hlk := fw_lt hP (by rw [h_w_16]; exact fw_up_same _ _ _ _)
          have hnh : H.size = n + 3 + 2 * k := by (have := (had.2.2 k (by omega)).1; omega)
          refine fa_cI (As := [.int (iI ((k / 5 : Nat) : Int)), .int (iI ((k % 5 : Nat) : Int)), .int (iI ((1 : Nat) : Int))]) (rest := [.ref (ad 3 (k)), .int (iI ((k : Nat) : Int)), .ref (ad 2 (0))]) ⟨hx, hb, hml, hown, hts⟩ (c_X1_init l D cA z ad (w_16) k (k / 5) (k % 5) true (n + 3 + 2 * k) (.int (iI ((0 : Nat) : Int))) (.int (iI ((0 : Nat) : Int))) (.null) (.int (iI ((0 : Nat) : Int))) (.int (iI ((0 : Nat) : Int))) (by rw [h_w_16]; exact fw_up_same _ _ _ _) (by rw [h_w_16, fw_up_k (by decide)]; exact WI_n4 (by omega)) (by have := (had.2.2 k (by omega)).2; omega)) (cwI 3 hts gX2_init_X1_init rfl rfl rfl (hts (.initialized RX1) (by decide +kernel)) (hts (.methodLink RX2 40 yX1_init) (by decide +kernel)) (hts (.instanceMethod yX1_init) (by decide +kernel)) rfl (by decide +kernel) ⟨Nat.le_of_ble_eq_true rfl, Nat.le_of_ble_eq_true rfl⟩) rfl hl.1 (Nat.le_of_ble_eq_true rfl) dX2_init_99 ⟨show 2 + 2 * k + 1 + 1 ≤ 62 from by omega, show 70 + 9 * k + 5 + 4 ≤ 340 from by omega⟩ hK hnh hAO hP hS rfl (fun w' H locs q_18 hP hS => ?_)
          subst q_18
          rw [h_w_16] at hP
          refine fw_astN (ci := 1) (r := (RX1, TX1, 5)) (f := fun j => if j < k then some (ad 3 j) else none) hx hb hK hP hS WI_l2 3 rfl (fw_up_same _ _ _ _) rfl (by omega) (by decide) dX2_init_102 (fun H locs hP hS => ?_)
          refine fw_iincN (x := k) (lv' := [(1, .int (iI ((k + 1 : Nat) : Int))), (2, .int (iI ((k / 5 : Nat) : Int))), (0, .ref (ad 0 (0)))]) hx hb dX2_init_103 hl (k := 2) rfl (by decide) rfl (fun ls hl => ?_)
          refine lv_goto (tgt := 58) hx hb dX2_init_106 (by decide) ?_
          have hP := WI_step (k := k) (g := true) (by show bN true = if 10 ≤ k ∧ k < 20 then 1 else 0; rw [if_pos (by omega)]; rfl) hP
          refine W.widen (k := 2 + 2 * (k + 1)) (n := 70 + 9 * (k + 1)) (by omega) (by omega) ?_
          exact ih_58 (k + 1) (by omega) (by omega) H locs ls hP hS (lv_sub hl [2, 0] rfl)
        · refine lv_iload_n hx hb dX2_init_89 rfl (lv_at hl 0 rfl) ?_
          refine lv_iconst (v := iI ((3 : Nat) : Int)) hx hb dX2_init_90 (by decide) ?_
          refine fw_icmp_ne (x := ((k / 5 : Nat) : Int)) (y := ((3 : Nat) : Int)) (tgt := 98) hx hb dX2_init_91 (by decide) ⟨by omega, by omega⟩ ⟨by omega, by omega⟩ (fun c_19 => ?_) (fun c_19 => ?_)
          · refine lv_iconst (v := iI ((0 : Nat) : Int)) hx hb dX2_init_98 (by decide) ?_
            refine fw_top (v' := .int (iI (bI false))) rfl ?_
            refine W.sized (fun hsz3 => ?_)
            have hlk := fw_lt hP (by rw [h_w_16]; exact fw_up_same _ _ _ _)
            have hnh : H.size = n + 3 + 2 * k := by (have := (had.2.2 k (by omega)).1; omega)
            refine fa_cI (As := [.int (iI ((k / 5 : Nat) : Int)), .int (iI ((k % 5 : Nat) : Int)), .int (iI ((0 : Nat) : Int))]) (rest := [.ref (ad 3 (k)), .int (iI ((k : Nat) : Int)), .ref (ad 2 (0))]) ⟨hx, hb, hml, hown, hts⟩ (c_X1_init l D cA z ad (w_16) k (k / 5) (k % 5) false (n + 3 + 2 * k) (.int (iI ((0 : Nat) : Int))) (.int (iI ((0 : Nat) : Int))) (.null) (.int (iI ((0 : Nat) : Int))) (.int (iI ((0 : Nat) : Int))) (by rw [h_w_16]; exact fw_up_same _ _ _ _) (by rw [h_w_16, fw_up_k (by decide)]; exact WI_n4 (by omega)) (by have := (had.2.2 k (by omega)).2; omega)) (cwI 3 hts gX2_init_X1_init rfl rfl rfl (hts (.initialized RX1) (by decide +kernel)) (hts (.methodLink RX2 40 yX1_init) (by decide +kernel)) (hts (.instanceMethod yX1_init) (by decide +kernel)) rfl (by decide +kernel) ⟨Nat.le_of_ble_eq_true rfl, Nat.le_of_ble_eq_true rfl⟩) rfl hl.1 (Nat.le_of_ble_eq_true rfl) dX2_init_99 ⟨show 2 + 2 * k + 1 + 1 ≤ 62 from by omega, show 70 + 9 * k + 5 + 4 ≤ 340 from by omega⟩ hK hnh hAO hP hS rfl (fun w' H locs q_20 hP hS => ?_)
            subst q_20
            rw [h_w_16] at hP
            refine fw_astN (ci := 1) (r := (RX1, TX1, 5)) (f := fun j => if j < k then some (ad 3 j) else none) hx hb hK hP hS WI_l2 3 rfl (fw_up_same _ _ _ _) rfl (by omega) (by decide) dX2_init_102 (fun H locs hP hS => ?_)
            refine fw_iincN (x := k) (lv' := [(1, .int (iI ((k + 1 : Nat) : Int))), (2, .int (iI ((k / 5 : Nat) : Int))), (0, .ref (ad 0 (0)))]) hx hb dX2_init_103 hl (k := 2) rfl (by decide) rfl (fun ls hl => ?_)
            refine lv_goto (tgt := 58) hx hb dX2_init_106 (by decide) ?_
            have hP := WI_step (k := k) (g := false) (by show bN false = if 10 ≤ k ∧ k < 20 then 1 else 0; rw [if_neg (by omega)]; rfl) hP
            refine W.widen (k := 2 + 2 * (k + 1)) (n := 70 + 9 * (k + 1)) (by omega) (by omega) ?_
            exact ih_58 (k + 1) (by omega) (by omega) H locs ls hP hS (lv_sub hl [2, 0] rfl)
          · refine lv_iconst (v := iI ((1 : Nat) : Int)) hx hb dX2_init_94 (by decide) ?_
            refine lv_goto (tgt := 99) hx hb dX2_init_95 (by decide) ?_
            refine fw_top (v' := .int (iI (bI true))) rfl ?_
            refine W.sized (fun hsz3 => ?_)
            have hlk := fw_lt hP (by rw [h_w_16]; exact fw_up_same _ _ _ _)
            have hnh : H.size = n + 3 + 2 * k := by (have := (had.2.2 k (by omega)).1; omega)
            refine fa_cI (As := [.int (iI ((k / 5 : Nat) : Int)), .int (iI ((k % 5 : Nat) : Int)), .int (iI ((1 : Nat) : Int))]) (rest := [.ref (ad 3 (k)), .int (iI ((k : Nat) : Int)), .ref (ad 2 (0))]) ⟨hx, hb, hml, hown, hts⟩ (c_X1_init l D cA z ad (w_16) k (k / 5) (k % 5) true (n + 3 + 2 * k) (.int (iI ((0 : Nat) : Int))) (.int (iI ((0 : Nat) : Int))) (.null) (.int (iI ((0 : Nat) : Int))) (.int (iI ((0 : Nat) : Int))) (by rw [h_w_16]; exact fw_up_same _ _ _ _) (by rw [h_w_16, fw_up_k (by decide)]; exact WI_n4 (by omega)) (by have := (had.2.2 k (by omega)).2; omega)) (cwI 3 hts gX2_init_X1_init rfl rfl rfl (hts (.initialized RX1) (by decide +kernel)) (hts (.methodLink RX2 40 yX1_init) (by decide +kernel)) (hts (.instanceMethod yX1_init) (by decide +kernel)) rfl (by decide +kernel) ⟨Nat.le_of_ble_eq_true rfl, Nat.le_of_ble_eq_true rfl⟩) rfl hl.1 (Nat.le_of_ble_eq_true rfl) dX2_init_99 ⟨show 2 + 2 * k + 1 + 1 ≤ 62 from by omega, show 70 + 9 * k + 5 + 4 ≤ 340 from by omega⟩ hK hnh hAO hP hS rfl (fun w' H locs q_21 hP hS => ?_)
            subst q_21
            rw [h_w_16] at hP
            refine fw_astN (ci := 1) (r := (RX1, TX1, 5)) (f := fun j => if j < k then some (ad 3 j) else none) hx hb hK hP hS WI_l2 3 rfl (fw_up_same _ _ _ _) rfl (by omega) (by decide) dX2_init_102 (fun H locs hP hS => ?_)
            refine fw_iincN (x := k) (lv' := [(1, .int (iI ((k + 1 : Nat) : Int))), (2, .int (iI ((k / 5 : Nat) : Int))), (0, .ref (ad 0 (0)))]) hx hb dX2_init_103 hl (k := 2) rfl (by decide) rfl (fun ls hl => ?_)
            refine lv_goto (tgt := 58) hx hb dX2_init_106 (by decide) ?_
            have hP := WI_step (k := k) (g := true) (by show bN true = if 10 ≤ k ∧ k < 20 then 1 else 0; rw [if_pos (by omega)]; rfl) hP
            refine W.widen (k := 2 + 2 * (k + 1)) (n := 70 + 9 * (k + 1)) (by omega) (by omega) ?_
            exact ih_58 (k + 1) (by omega) (by omega) H locs ls hP hS (lv_sub hl [2, 0] rfl)
  exact loop_58 (30 + 1) (0) (by omega) (by omega) H locs ls hP hS (lv_sub hl [1, 0] rfl)
