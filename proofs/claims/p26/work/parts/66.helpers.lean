abbrev rm_L_told : Room := { frames := 7, cells := 1, slots := 6, locals := 116 }
abbrev po_L_told (cA : Nat → ClassId) (ad : fw_Ad) (σ : St) (μ : fw_W) (c k : Nat) : Int32 → fw_W → Prop := fun _ w' => (allowed σ c k ∧ w' = WC cA ad (putS σ c k) μ) ∨ w' = WC cA ad σ μ
set_option maxHeartbeats 4000000 in
set_option maxRecDepth 100000 in
theorem c_L_told (l : Launch) (hl0 : l.stackTraces = false) (D : va_G) (cA : Nat → ClassId) (z : Nat) (ad : fw_Ad) (sa : Nat → Nat) (σ : St) (μ : fw_W) (c k : Nat) (hI : Inv σ) (hc : c < σ 8 0) (hk : k < 30) (hn : σ 8 0 ≤ 40) : vx_Met l yL_told wsL_told rm_L_told (va_Pc [.ref (ad 0 (0)), .int (iI ((c : Nat) : Int)), .int (iI ((k : Nat) : Int))] (fx_Pre D vwCl (fw_T cA) z ad (WC cA ad σ μ) sa)) (fw_Qi D vwCl z ad (po_L_told cA ad σ μ c k)) (fun _ _ _ => False) 1 6 (fw_A z) := by
  refine vx_ofWH (cc := cL_told) (maxL := 4) (ret := (some .int)) (hh := [(0, 11, 12, 70)]) (by decide) rfl ?_
  intro pg en s m args below meth cd s₁ B hml hv
  obtain ⟨hargs, ⟨hP, hK⟩, hE⟩ := hv
  have hx := B.exec
  have hb := B.bytes
  have hr := B.returns
  have hts := atoms_spec (ws := wsL_told) B.pre
  have hown : s.vm.findClass RL = some m.cls := findClass_of_methodNamed B.named
  have hlocks := B.notSynchronized
  have htab := vx_table (x := yL_told) B (hts (.codeWith yL_told cL_told 4 (some .int) [(0, 11, 12, 70)]) (by decide +kernel))
  have hl := lv_entry ([.ref (ad 0 (0)), .int (iI ((c : Nat) : Int)), .int (iI ((k : Nat) : Int))]) (n := 4) (Nat.le_of_ble_eq_true rfl)
  have hent : entryFrame m args 4 = entryFrame m ([.ref (ad 0 (0)), .int (iI ((c : Nat) : Int)), .int (iI ((k : Nat) : Int))] : List Value).toArray 4 := by rw [hargs]
  rw [hent, lg_entry_eq]
  generalize (lg_sl ([.ref (ad 0 (0)), .int (iI ((c : Nat) : Int)), .int (iI ((k : Nat) : Int))]) ++ List.replicate (4 - (lg_sl ([.ref (ad 0 (0)), .int (iI ((c : Nat) : Int)), .int (iI ((k : Nat) : Int))])).length) Slot.unset).toArray = ls at hl ⊢
  have hl : lv_has ls 4 [(0, .ref (ad 0 (0))), (1, .int (iI ((c : Nat) : Int))), (2, .int (iI ((k : Nat) : Int)))] := hl
  generalize hQ : vx_MQ below (fw_Qi D vwCl z ad (po_L_told cA ad σ μ c k)) (fun _ _ _ => False) args s 1 6 (fw_A z) = Q
  generalize hH : s.heap = H at hP ⊢
  have hS : va_S (fw_A z) s.heap H [] := by rw [← hH]; exact va_S.rf
  generalize ([] : List Loc) = locs at hS ⊢
  refine lv_aload_n hx hb dL_told_0 rfl (lv_at hl 0 rfl) ?_
  refine lv_iload_n hx hb dL_told_1 rfl (lv_at hl 1 rfl) ?_
  refine lv_iload_n hx hb dL_told_2 rfl (lv_at hl 2 rfl) ?_
  refine lv_iconst (v := iI ((5 : Nat) : Int)) hx hb dL_told_3 (by decide) ?_
  refine fw_idivN (a := k) (b := 5) hx hb dL_told_4 (by omega) (by omega) (by omega) ?_
  refine lv_iload_n hx hb dL_told_5 rfl (lv_at hl 2 rfl) ?_
  refine lv_iconst (v := iI ((5 : Nat) : Int)) hx hb dL_told_6 (by decide) ?_
  refine fw_iremN (a := k) (b := 5) hx hb dL_told_7 (by omega) (by omega) (by omega) ?_
  refine fx_cVi (As := [.int (iI ((c : Nat) : Int)), .int (iI ((k / 5 : Nat) : Int)), .int (iI ((k % 5 : Nat) : Int))]) (rest := []) ⟨hx, hb, hml, hown, hts⟩ (c_X2_load l hl0 D cA z ad sa σ μ (((c : Nat) : Int)) (((k / 5 : Nat) : Int)) (((k % 5 : Nat) : Int)) hI ⟨by omega, by omega⟩ ⟨by omega, by omega⟩ ⟨by omega, by omega⟩) (cwV 3 hts gL_told_X2_load rfl rfl rfl (by decide +kernel) ⟨Nat.le_of_ble_eq_true rfl, Nat.le_of_ble_eq_true rfl⟩) WC_0 rfl rfl hl.1 (Nat.le_of_ble_eq_true rfl) dL_told_8 ⟨Nat.le_of_ble_eq_true rfl, Nat.le_of_ble_eq_true rfl⟩ hK hE hP hS rfl (fun E ce q9 w' H locs q_1 hP hS hcell hcv hcl => ?_) (fun r w' H locs q_1 hP hS => ?_)
  · obtain ⟨⟨rfl, hbad0⟩ | ⟨rfl, hbad0, hbad1⟩, rfl⟩ := q_1
    · exfalso; omega
    · refine vx_catch (name := tx_IS) hown [] ({ startPc := 0, endPc := 11, handlerPc := 12, catchType := 70 } : ExceptionTableEntry) [] (htab.trans rfl) (fun _ h => nomatch h) (by decide) (by decide) (hts (.classLink RL 70 tx_IS) (by decide +kernel)) (va_any rfl (hE.1 _ (by decide))) hcell hcv hcl ?_
      refine lv_astore_n (lv' := [(3, .ref q9), (0, .ref (ad 0 (0))), (1, .int (iI ((c : Nat) : Int))), (2, .int (iI ((k : Nat) : Int)))]) hx hb dL_told_12 rfl hl (by decide) rfl (fun ls hl => ?_)
      refine lv_bipush (v := iI (-3)) hx hb dL_told_13 (by decide) ?_
      subst hQ
      refine vx_ret (W.widen (k := 1) (n := 6) (Nat.le_of_ble_eq_true rfl) (Nat.le_of_ble_eq_true rfl) ?_)
      exact fw_iret hx hb hr hlocks dL_told_15 hP hS (Or.inr rfl)
  · obtain ⟨hok, hal, -, rfl⟩ := q_1
    rw [show 5 * Int.toNat ((k / 5 : Nat) : Int) + Int.toNat ((k % 5 : Nat) : Int) = k from by omega, show Int.toNat ((c : Nat) : Int) = c from rfl] at hal hP
    subst hQ
    refine vx_ret (W.widen (k := 1) (n := 6) (Nat.le_of_ble_eq_true rfl) (Nat.le_of_ble_eq_true rfl) ?_)
    exact fw_iret hx hb hr hlocks dL_told_11 hP hS (Or.inl ⟨hal, rfl⟩)

abbrev rm_L_fresh : Room := { frames := 0, cells := 1, slots := 360, locals := 0 }
abbrev po_L_fresh (cA : Nat → ClassId) (ad : fw_Ad) (σ : St) (n : Nat) : Option Nat → fw_W → Prop := fun r w' => r = some (ad 15 0) ∧ ∃ g : Nat → Int32, g 353 = iI ((0 : Nat) : Int) ∧ g 355 = iI ((0 : Nat) : Int) ∧ w' = WC cA ad σ (aW cA g)
set_option maxHeartbeats 4000000 in
set_option maxRecDepth 100000 in
theorem c_L_fresh (l : Launch) (D : va_G) (cA : Nat → ClassId) (z : Nat) (ad : fw_Ad) (σ : St) (n : Nat) (had : ad 15 0 = n) : Met l yL_fresh wsL_fresh rm_L_fresh (va_Pc [] (fa_Pre D vwCl (fw_T cA) z ad (WC cA ad σ nW) (n))) (fw_Qq D vwCl z ad (po_L_fresh cA ad σ n)) 1 360 (fw_A z) := by
  refine Met.ofW (cc := cL_fresh) (maxL := 2) (ret := (some (.array .int))) (by decide) rfl ?_
  intro pg en s m args below meth cd s₁ B hml hv
  obtain ⟨hargs, ⟨hP, hK⟩, hH0, hAO⟩ := hv
  have hx := B.exec
  have hb := B.bytes
  have hr := B.returns
  have hts := atoms_spec (ws := wsL_fresh) B.pre
  have hown : s.vm.findClass RL = some m.cls := findClass_of_methodNamed B.named
  have hlocks := B.notSynchronized
  have hl := lv_entry ([]) (n := 2) (Nat.le_of_ble_eq_true rfl)
  have hent : entryFrame m args 2 = entryFrame m ([] : List Value).toArray 2 := by rw [hargs]
  rw [hent, lg_entry_eq]
  generalize (lg_sl ([]) ++ List.replicate (2 - (lg_sl ([])).length) Slot.unset).toArray = ls at hl ⊢
  have hl : lv_has ls 2 [] := hl
  generalize hQ : MQ below (fw_Qq D vwCl z ad (po_L_fresh cA ad σ n)) args s 1 360 (fw_A z) = Q
  generalize hH : s.heap = H at hP ⊢
  have hS : va_S (fw_A z) s.heap H [] := by rw [← hH]; exact va_S.rf
  generalize ([] : List Loc) = locs at hS ⊢
  refine lv_sipush (v := iI ((360 : Nat) : Int)) hx hb dL_fresh_0 (by decide) ?_
  refine W.sized (fun hsz => ?_)
  have hs1 := hS.1
  have hlt_1 := fw_lt (a := 0) (i := 0) hP WC_0
  have hzz := (hP.1 0 (0) _ WC_0).2
  refine fw_newa (a := 15) (i := 0) (N := 360) (ty := .int) (a0 := (360, .inl (fun _ => 0))) hx hb (hts (.arrayClass .int) (by decide +kernel)) rfl hK hP hS (by omega) 0 rfl id (fun _ => rfl) rfl (by decide) (by decide) ((WC_r (by decide)).trans rfl) (by omega) (Nat.le_of_ble_eq_true rfl) (Nat.le_of_ble_eq_true rfl) dL_fresh_3 (fun H hP hS hsz2 => ?_)
  obtain ⟨w_2, h_w_2⟩ : ∃ w9, w9 = fw_up (WC cA ad σ nW) 15 (0) (.inl (cA 0, 360, .inl (fun _ => 0))) := ⟨_, rfl⟩
  have hP : fw_P D vwCl z ad w_2 H := by rw [h_w_2]; exact hP
  have hP : fw_P D vwCl z ad (WC cA ad σ (aW cA (fun _ => 0))) H := by rw [h_w_2, WC_up (by decide)] at hP; exact hP
  refine lv_astore_n (lv' := [(0, .ref (ad 15 (0)))]) hx hb dL_fresh_5 rfl hl (by decide) rfl (fun ls hl => ?_)
  refine lv_bipush (v := iI ((10 : Nat) : Int)) hx hb dL_fresh_6 (by decide) ?_
  refine lv_istore_n (lv' := [(1, .int (iI ((10 : Nat) : Int))), (0, .ref (ad 15 (0)))]) hx hb dL_fresh_8 rfl hl (by decide) rfl (fun ls hl => ?_)
  have loop_9 : ∀ (dd i : Nat) (g : Nat → Int32), 20 + 1 ≤ i + dd → i ≤ 20 → (g 353 = iI ((0 : Nat) : Int)) → (g 355 = iI ((0 : Nat) : Int)) → ∀ (H : Heap) (locs : List Loc) (ls : Array Slot), fw_P D vwCl z ad (WC cA ad σ ((aW cA g))) H → va_S (fw_A z) s.heap H locs → lv_has ls 2 [(0, .ref (ad 15 (0))), (1, .int (iI ((i : Nat) : Int)))] → W pg l en (headSpec wsL_fresh rm_L_fresh).room s m args below meth cd H locs (0 + 1) (0 + 360) Q (F0 m 9 ls []) := by
    intro dd
    induction dd with
    | zero => intro i g hd_9 hi_9; omega
    | succ dd ih_9 =>
      intro i g hd_9 hi_9 h3 h5 H locs ls hP hS hl
      refine lv_iload_n hx hb dL_fresh_9 rfl (lv_at hl 1 rfl) ?_
      refine lv_bipush (v := iI ((20 : Nat) : Int)) hx hb dL_fresh_10 (by decide) ?_
      refine fw_icmp_ge (x := ((i : Nat) : Int)) (y := ((20 : Nat) : Int)) (tgt := 29) hx hb dL_fresh_12 (by decide) ⟨by omega, by omega⟩ ⟨by omega, by omega⟩ (fun c_3 => ?_) (fun c_3 => ?_)
      · refine lv_aload_n hx hb dL_fresh_29 rfl (lv_at hl 0 rfl) ?_
        refine lv_sipush (v := iI ((350 : Nat) : Int)) hx hb dL_fresh_30 (by decide) ?_
        refine lv_bipush (v := iI ((60 : Nat) : Int)) hx hb dL_fresh_33 (by decide) ?_
        refine fw_iastN (j := 350) hx hb hK hP hS ((WC_r (by decide)).trans (aW_15 cA _)) 0 rfl (by omega) (by decide) dL_fresh_35 (fun H locs hP hS => ?_)
        obtain ⟨g_4, hg_4, hP⟩ : ∃ g9, g9 = upd g (350) (iI ((60 : Nat) : Int)) ∧ fw_P D vwCl z ad (WC cA ad σ (aW cA g9)) H := ⟨_, rfl, by rw [aW_up] at hP; exact hP⟩
        have h3 : g_4 353 = iI ((0 : Nat) : Int) := by rw [hg_4, upd_o (by omega)]; exact h3
        have h5 : g_4 355 = iI ((0 : Nat) : Int) := by rw [hg_4, upd_o (by omega)]; exact h5
        refine lv_aload_n hx hb dL_fresh_36 rfl (lv_at hl 0 rfl) ?_
        refine lv_sipush (v := iI ((351 : Nat) : Int)) hx hb dL_fresh_37 (by decide) ?_
        refine lv_bipush (v := iI ((60 : Nat) : Int)) hx hb dL_fresh_40 (by decide) ?_
        refine fw_iastN (j := 351) hx hb hK hP hS ((WC_r (by decide)).trans (aW_15 cA _)) 0 rfl (by omega) (by decide) dL_fresh_42 (fun H locs hP hS => ?_)
        obtain ⟨g_5, hg_5, hP⟩ : ∃ g9, g9 = upd g_4 (351) (iI ((60 : Nat) : Int)) ∧ fw_P D vwCl z ad (WC cA ad σ (aW cA g9)) H := ⟨_, rfl, by rw [aW_up] at hP; exact hP⟩
        have h3 : g_5 353 = iI ((0 : Nat) : Int) := by rw [hg_5, upd_o (by omega)]; exact h3
        have h5 : g_5 355 = iI ((0 : Nat) : Int) := by rw [hg_5, upd_o (by omega)]; exact h5
        refine lv_aload_n hx hb dL_fresh_43 rfl (lv_at hl 0 rfl) ?_
        refine lv_sipush (v := iI ((352 : Nat) : Int)) hx hb dL_fresh_44 (by decide) ?_
        refine lv_sipush (v := iI ((200 : Nat) : Int)) hx hb dL_fresh_47 (by decide) ?_
        refine fw_iastN (j := 352) hx hb hK hP hS ((WC_r (by decide)).trans (aW_15 cA _)) 0 rfl (by omega) (by decide) dL_fresh_50 (fun H locs hP hS => ?_)
        obtain ⟨g_6, hg_6, hP⟩ : ∃ g9, g9 = upd g_5 (352) (iI ((200 : Nat) : Int)) ∧ fw_P D vwCl z ad (WC cA ad σ (aW cA g9)) H := ⟨_, rfl, by rw [aW_up] at hP; exact hP⟩
        have h3 : g_6 353 = iI ((0 : Nat) : Int) := by rw [hg_6, upd_o (by omega)]; exact h3
        have h5 : g_6 355 = iI ((0 : Nat) : Int) := by rw [hg_6, upd_o (by omega)]; exact h5
        refine lv_aload_n hx hb dL_fresh_51 rfl (lv_at hl 0 rfl) ?_
        subst hQ
        refine W.widen (k := 1) (n := 360) (Nat.le_of_ble_eq_true rfl) (Nat.le_of_ble_eq_true rfl) ?_
        exact fw_rret hx hb hr (Or.inr ⟨_, rfl⟩) hlocks dL_fresh_52 hP hS ⟨rfl, g_6, h3, h5, rfl⟩
      · refine lv_aload_n hx hb dL_fresh_15 rfl (lv_at hl 0 rfl) ?_
        refine lv_sipush (v := iI ((320 : Nat) : Int)) hx hb dL_fresh_16 (by decide) ?_
        refine lv_iload_n hx hb dL_fresh_19 rfl (lv_at hl 1 rfl) ?_
        refine fw_iaddN (a := 320) (b := i) hx hb dL_fresh_20 ?_
        refine lv_iconst (v := iI ((1 : Nat) : Int)) hx hb dL_fresh_21 (by decide) ?_
        refine fw_iastN (j := 320 + i) hx hb hK hP hS ((WC_r (by decide)).trans (aW_15 cA _)) 0 rfl (by omega) (by decide) dL_fresh_22 (fun H locs hP hS => ?_)
        obtain ⟨g_7, hg_7, hP⟩ : ∃ g9, g9 = upd g (320 + i) (iI ((1 : Nat) : Int)) ∧ fw_P D vwCl z ad (WC cA ad σ (aW cA g9)) H := ⟨_, rfl, by rw [aW_up] at hP; exact hP⟩
        have h3 : g_7 353 = iI ((0 : Nat) : Int) := by rw [hg_7, upd_o (by omega)]; exact h3
        have h5 : g_7 355 = iI ((0 : Nat) : Int) := by rw [hg_7, upd_o (by omega)]; exact h5
        refine fw_iincN (x := i) (lv' := [(1, .int (iI ((i + 1 : Nat) : Int))), (0, .ref (ad 15 (0)))]) hx hb dL_fresh_23 hl (k := 1) rfl (by decide) rfl (fun ls hl => ?_)
        refine lv_goto (tgt := 9) hx hb dL_fresh_26 (by decide) ?_
        exact ih_9 (i + 1) g_7 (by omega) (by omega) h3 h5 H locs ls hP hS (lv_sub hl [1, 0] rfl)
  exact loop_9 (20 + 1) (10) (fun _ => 0) (by omega) (by omega) rfl rfl H locs ls hP hS (lv_sub hl [1, 0] rfl)

abbrev rm_L_add : Room := { frames := 7, cells := 2, slots := 13, locals := 107 }
abbrev po_L_add (cA : Nat → ClassId) (ad : fw_Ad) (σ : St) (f : Nat → Int32) (x : Int32) (n : Nat) : Int32 → fw_W → Prop := fun r w' => r = iI ((1 : Nat) : Int) ∧ ∃ (w1 f1 t1 q1 : Nat) (g : Nat → Int32), Inv (addS σ w1 f1 t1 q1) ∧ g 353 = iI ((0 : Nat) : Int) ∧ g 355 = iI ((σ 8 0 + 1 : Nat) : Int) ∧ w' = WC cA ad (addS σ w1 f1 t1 q1) (aW cA g)
set_option maxHeartbeats 4000000 in
set_option maxRecDepth 100000 in
theorem c_L_add (l : Launch) (hl0 : l.stackTraces = false) (D : va_G) (cA : Nat → ClassId) (z : Nat) (ad : fw_Ad) (sa : Nat → Nat) (σ : St) (f : Nat → Int32) (x : Int32) (n : Nat) (hI : Inv σ) (hc : σ 8 0 < 18) (h4 : σ 8 4 = 0) (h3 : f 353 = iI ((0 : Nat) : Int)) (h5 : f 355 = iI ((σ 8 0 : Nat) : Int)) (had : ad 5 (σ 8 0) = n ∧ ad 17 0 = n + 1) : Met l yL_add wsL_add rm_L_add (va_Pc [.ref (ad 0 (0)), .int x, .ref (ad 15 (0))] (fs_Pre D vwCl (fw_T cA) z ad (WC cA ad σ ((aW cA f))) sa (n))) (fw_Qi D vwCl z ad (po_L_add cA ad σ f x n)) 2 13 (fw_A z) := by
  refine Met.ofW (cc := cL_add) (maxL := 10) (ret := (some .int)) (by decide) rfl ?_
  intro pg en s m args below meth cd s₁ B hml hv
  obtain ⟨hargs, ⟨⟨hP, hK⟩, hE⟩, hH0⟩ := hv
  have hx := B.exec
  have hb := B.bytes
  have hr := B.returns
  have hts := atoms_spec (ws := wsL_add) B.pre
  have hown : s.vm.findClass RL = some m.cls := findClass_of_methodNamed B.named
  have hlocks := B.notSynchronized
  have hl := lv_entry ([.ref (ad 0 (0)), .int x, .ref (ad 15 (0))]) (n := 10) (Nat.le_of_ble_eq_true rfl)
  have hent : entryFrame m args 10 = entryFrame m ([.ref (ad 0 (0)), .int x, .ref (ad 15 (0))] : List Value).toArray 10 := by rw [hargs]
  rw [hent, lg_entry_eq]
  generalize (lg_sl ([.ref (ad 0 (0)), .int x, .ref (ad 15 (0))]) ++ List.replicate (10 - (lg_sl ([.ref (ad 0 (0)), .int x, .ref (ad 15 (0))])).length) Slot.unset).toArray = ls at hl ⊢
  have hl : lv_has ls 10 [(0, .ref (ad 0 (0))), (1, .int x), (2, .ref (ad 15 (0)))] := hl
  generalize hQ : MQ below (fw_Qi D vwCl z ad (po_L_add cA ad σ f x n)) args s 2 13 (fw_A z) = Q
  generalize hH : s.heap = H at hP ⊢
  have hS : va_S (fw_A z) s.heap H [] := by rw [← hH]; exact va_S.rf
  generalize ([] : List Loc) = locs at hS ⊢
  refine lv_iconst (v := iI ((1 : Nat) : Int)) hx hb dL_add_0 (by decide) ?_
  refine lv_iload_n hx hb dL_add_1 rfl (lv_at hl 1 rfl) ?_
  refine lv_bipush (v := iI ((30 : Nat) : Int)) hx hb dL_add_2 (by decide) ?_
  refine fl_below (x := (x)) (k := 30) (rest := [.int (iI ((1 : Nat) : Int))]) ⟨hx, hb, hml, hown, hts⟩ (va_cwS 2 hts gL_add_L_below rfl rfl rfl (by decide +kernel) ⟨Nat.le_of_ble_eq_true rfl, Nat.le_of_ble_eq_true rfl⟩) (by omega) (by omega) hl.1 (Nat.le_of_ble_eq_true rfl) dL_add_4 ⟨Nat.le_of_ble_eq_true rfl, Nat.le_of_ble_eq_true rfl⟩ hP hS (fun k_1 H locs hk_1 hP hS _ => ?_)
  refine fw_iaddN (a := 1) (b := k_1) hx hb dL_add_7 ?_
  refine lv_istore_n (lv' := [(3, .int (iI ((1 + k_1 : Nat) : Int))), (0, .ref (ad 0 (0))), (1, .int x), (2, .ref (ad 15 (0)))]) hx hb dL_add_8 rfl hl (by decide) rfl (fun ls hl => ?_)
  refine lv_iconst (v := iI ((4 : Nat) : Int)) hx hb dL_add_9 (by decide) ?_
  refine lv_aload_n hx hb dL_add_10 rfl (lv_at hl 3 rfl) ?_
  refine lv_sipush (v := iI ((353 : Nat) : Int)) hx hb dL_add_11 (by decide) ?_
  refine fw_ialdN (j := 353) hx hb hK hP ((WC_r (by decide)).trans (aW_15 cA _)) 0 rfl (by omega) (by decide) dL_add_14 ?_
  refine fw_topP (b := ((0 : Nat) : Int)) h3 ?_
  refine lv_iload_n hx hb dL_add_15 rfl (lv_at hl 2 rfl) ?_
  refine lv_iconst (v := iI ((2 : Nat) : Int)) hx hb dL_add_16 (by decide) ?_
  refine fl_shr hx hb dL_add_17 (fun v_2 => ?_)
  refine lv_iconst (v := iI ((3 : Nat) : Int)) hx hb dL_add_18 (by decide) ?_
  refine fl_below (x := (v_2)) (k := 3) (rest := [.int (iI ((0 : Nat) : Int)), .int (iI ((4 : Nat) : Int))]) ⟨hx, hb, hml, hown, hts⟩ (va_cwS 2 hts gL_add_L_below rfl rfl rfl (by decide +kernel) ⟨Nat.le_of_ble_eq_true rfl, Nat.le_of_ble_eq_true rfl⟩) (by omega) (by omega) hl.1 (Nat.le_of_ble_eq_true rfl) dL_add_19 ⟨Nat.le_of_ble_eq_true rfl, Nat.le_of_ble_eq_true rfl⟩ hP hS (fun k_3 H locs hk_3 hP hS _ => ?_)
  refine lv_iconst (v := iI ((2 : Nat) : Int)) hx hb dL_add_22 (by decide) ?_
  refine fw_idivN (a := k_3) (b := 2) hx hb dL_add_23 (by omega) (by omega) (by omega) ?_
  refine fw_iaddN (a := 0) (b := k_3 / 2) hx hb dL_add_24 ?_
  refine fw_min (x := ((4 : Nat) : Int)) (y := ((0 + (k_3 / 2) : Nat) : Int)) hx hb (by rw [hml]; exact hl.1.symm) hown (hts (.methodLink RL 15 Lib.Math.min.name) (by decide +kernel)) (hts (.static Lib.Math.min.name) (by decide +kernel)) (hts (.initialized "java/lang/Math") (by decide +kernel)) (hts (.code Lib.Math.min.name Lib.Math.min.code 2 (some .int)) (by decide +kernel)) (Nat.le_of_ble_eq_true rfl) (Nat.le_of_ble_eq_true rfl) (Nat.le_of_ble_eq_true rfl) (Nat.le_of_ble_eq_true rfl) ⟨by omega, by omega⟩ ⟨by omega, by omega⟩ dL_add_25 ?_
  obtain ⟨fr, hfr, hfr1⟩ : ∃ fr : Nat, (min ((4 : Nat) : Int) ((0 + (k_3 / 2) : Nat) : Int)) = ((fr : Nat) : Int) ∧ fr ≤ 1 := ⟨Int.toNat (min ((4 : Nat) : Int) ((0 + (k_3 / 2) : Nat) : Int)), by omega, by omega⟩
  refine fw_topI (b := ((fr : Nat) : Int)) hfr ?_
  refine lv_istore (lv' := [(4, .int (iI ((fr : Nat) : Int))), (3, .int (iI ((1 + k_1 : Nat) : Int))), (0, .ref (ad 0 (0))), (1, .int x), (2, .ref (ad 15 (0)))]) hx hb dL_add_28 hl (by decide) rfl (fun ls hl => ?_)
  refine lv_iload hx hb dL_add_30 (lv_at hl 0 rfl) ?_
  refine lv_iconst (v := iI ((1 : Nat) : Int)) hx hb dL_add_32 (by decide) ?_
  refine fw_iaddN (a := fr) (b := 1) hx hb dL_add_33 ?_
  refine lv_iload_n hx hb dL_add_34 rfl (lv_at hl 3 rfl) ?_
  refine lv_iconst (v := iI ((4 : Nat) : Int)) hx hb dL_add_35 (by decide) ?_
  refine fl_shr hx hb dL_add_36 (fun v_4 => ?_)
  refine lv_iconst (v := iI ((5 : Nat) : Int)) hx hb dL_add_37 (by decide) ?_
  refine lv_iload hx hb dL_add_38 (lv_at hl 0 rfl) ?_
  refine fw_isub (a := ((5 : Nat) : Int)) (b := ((fr : Nat) : Int)) hx hb dL_add_40 ?_
  refine fw_topI (b := ((5 - fr : Nat) : Int)) (by omega) ?_
  refine fl_below (x := (v_4)) (k := 5 - fr) (rest := [.int (iI ((fr + 1 : Nat) : Int))]) ⟨hx, hb, hml, hown, hts⟩ (va_cwS 2 hts gL_add_L_below rfl rfl rfl (by decide +kernel) ⟨Nat.le_of_ble_eq_true rfl, Nat.le_of_ble_eq_true rfl⟩) (by omega) (by omega) hl.1 (Nat.le_of_ble_eq_true rfl) dL_add_41 ⟨Nat.le_of_ble_eq_true rfl, Nat.le_of_ble_eq_true rfl⟩ hP hS (fun k_5 H locs hk_5 hP hS _ => ?_)
  refine fw_iaddN (a := fr + 1) (b := k_5) hx hb dL_add_44 ?_
  refine lv_istore (lv' := [(5, .int (iI (((fr + 1) + k_5 : Nat) : Int))), (4, .int (iI ((fr : Nat) : Int))), (3, .int (iI ((1 + k_1 : Nat) : Int))), (0, .ref (ad 0 (0))), (1, .int x), (2, .ref (ad 15 (0)))]) hx hb dL_add_45 hl (by decide) rfl (fun ls hl => ?_)
  refine lv_iload_n hx hb dL_add_47 rfl (lv_at hl 4 rfl) ?_
  refine lv_bipush (v := iI ((6 : Nat) : Int)) hx hb dL_add_48 (by decide) ?_
  refine fl_shr hx hb dL_add_50 (fun v_6 => ?_)
  refine lv_iconst (v := iI ((3 : Nat) : Int)) hx hb dL_add_51 (by decide) ?_
  refine fl_below (x := (v_6)) (k := 3) (rest := []) ⟨hx, hb, hml, hown, hts⟩ (va_cwS 2 hts gL_add_L_below rfl rfl rfl (by decide +kernel) ⟨Nat.le_of_ble_eq_true rfl, Nat.le_of_ble_eq_true rfl⟩) (by omega) (by omega) hl.1 (Nat.le_of_ble_eq_true rfl) dL_add_52 ⟨Nat.le_of_ble_eq_true rfl, Nat.le_of_ble_eq_true rfl⟩ hP hS (fun k_7 H locs hk_7 hP hS _ => ?_)
  refine fw_if_le (x := ((k_7 : Nat) : Int)) (tgt := 62) hx hb dL_add_55 (by decide) ⟨by omega, by omega⟩ (fun c_8 => ?_) (fun c_8 => ?_)
  · refine lv_iload_n hx hb dL_add_62 rfl (lv_at hl 4 rfl) ?_
    refine lv_bipush (v := iI ((7 : Nat) : Int)) hx hb dL_add_63 (by decide) ?_
    refine fl_shr hx hb dL_add_65 (fun v_9 => ?_)
    refine lv_iconst (v := iI ((5 : Nat) : Int)) hx hb dL_add_66 (by decide) ?_
    refine fl_below (x := (v_9)) (k := 5) (rest := []) ⟨hx, hb, hml, hown, hts⟩ (va_cwS 2 hts gL_add_L_below rfl rfl rfl (by decide +kernel) ⟨Nat.le_of_ble_eq_true rfl, Nat.le_of_ble_eq_true rfl⟩) (by omega) (by omega) hl.1 (Nat.le_of_ble_eq_true rfl) dL_add_67 ⟨Nat.le_of_ble_eq_true rfl, Nat.le_of_ble_eq_true rfl⟩ hP hS (fun k_10 H locs hk_10 hP hS _ => ?_)
    refine lv_istore (lv' := [(6, .int (iI ((k_10 : Nat) : Int))), (5, .int (iI (((fr + 1) + k_5 : Nat) : Int))), (4, .int (iI ((fr : Nat) : Int))), (3, .int (iI ((1 + k_1 : Nat) : Int))), (0, .ref (ad 0 (0))), (1, .int x), (2, .ref (ad 15 (0)))]) hx hb dL_add_70 hl (by decide) rfl (fun ls hl => ?_)
    refine lv_aload_n hx hb dL_add_72 rfl (lv_at hl 6 rfl) ?_
    refine lv_sipush (v := iI ((355 : Nat) : Int)) hx hb dL_add_73 (by decide) ?_
    refine fw_ialdN (j := 355) hx hb hK hP ((WC_r (by decide)).trans (aW_15 cA _)) 0 rfl (by omega) (by decide) dL_add_76 ?_
    refine fw_topP (b := ((σ 8 0 : Nat) : Int)) h5 ?_
    refine lv_istore (lv' := [(7, .int (iI ((σ 8 0 : Nat) : Int))), (6, .int (iI ((k_10 : Nat) : Int))), (5, .int (iI (((fr + 1) + k_5 : Nat) : Int))), (4, .int (iI ((fr : Nat) : Int))), (3, .int (iI ((1 + k_1 : Nat) : Int))), (0, .ref (ad 0 (0))), (1, .int x), (2, .ref (ad 15 (0)))]) hx hb dL_add_77 hl (by decide) rfl (fun ls hl => ?_)
    refine lv_aload_n hx hb dL_add_79 rfl (lv_at hl 7 rfl) ?_
    refine lv_sipush (v := iI ((353 : Nat) : Int)) hx hb dL_add_80 (by decide) ?_
    refine fw_ialdN (j := 353) hx hb hK hP ((WC_r (by decide)).trans (aW_15 cA _)) 0 rfl (by omega) (by decide) dL_add_83 ?_
    refine fw_topP (b := ((0 : Nat) : Int)) h3 ?_
    refine lv_iconst (v := iI ((4 : Nat) : Int)) hx hb dL_add_84 (by decide) ?_
    refine fw_icmp_le (x := ((0 : Nat) : Int)) (y := ((4 : Nat) : Int)) (tgt := 90) hx hb dL_add_85 (by decide) ⟨by omega, by omega⟩ ⟨by omega, by omega⟩ (fun c_11 => ?_) (fun c_11 => absurd c_11 (by decide))
    refine lv_aload_n hx hb dL_add_90 rfl (lv_at hl 5 rfl) ?_
    refine lv_iload_n hx hb dL_add_91 rfl (lv_at hl 4 rfl) ?_
    refine lv_iload hx hb dL_add_92 (lv_at hl 3 rfl) ?_
    refine lv_iload hx hb dL_add_94 (lv_at hl 2 rfl) ?_
    refine lv_iload hx hb dL_add_96 (lv_at hl 1 rfl) ?_
    refine W.sized (fun hsz => ?_)
    have hnh : H.size = ad 5 (σ 8 0) := by (have := hS.1; omega)
    refine fn_sVi (As := [.int (iI ((1 + k_1 : Nat) : Int)), .int (iI ((fr : Nat) : Int)), .int (iI (((fr + 1) + k_5 : Nat) : Int)), .int (iI ((k_10 : Nat) : Int))]) (rest := []) ⟨hx, hb, hml, hown, hts⟩ (c_X2_addContainer l hl0 D cA z ad sa σ (aW cA f) (((1 + k_1 : Nat) : Int)) (((fr : Nat) : Int)) ((((fr + 1) + k_5 : Nat) : Int)) (((k_10 : Nat) : Int)) hI ⟨by omega, by omega⟩ ⟨by omega, by omega⟩ ⟨by omega, by omega⟩ ⟨by omega, by omega⟩) (cwV 4 hts gL_add_X2_addContainer rfl rfl rfl (by decide +kernel) ⟨Nat.le_of_ble_eq_true rfl, Nat.le_of_ble_eq_true rfl⟩) WC_0 rfl rfl hl.1 (Nat.le_of_ble_eq_true rfl) dL_add_98 ⟨Nat.le_of_ble_eq_true rfl, Nat.le_of_ble_eq_true rfl⟩ hK hnh hE hP hS rfl (fun E w' q => by rcases q with ⟨⟨-, q⟩ | ⟨-, -, q⟩, -⟩ <;> omega) (fun r w' H locs q_12 hP hS => ?_)
    obtain ⟨hok, hok2, rfl, rfl⟩ := q_12
    have hP : fw_P D vwCl z ad (WC cA ad (addS σ (1 + k_1) (fr) ((fr + 1) + k_5) (k_10)) (aW cA f)) H := hP
    have hI2 : Inv (addS σ (1 + k_1) (fr) ((fr + 1) + k_5) (k_10)) := Inv_add hI (by omega) (by omega) (by omega) (by omega) (by omega)
    have hn2 : (addS σ (1 + k_1) (fr) ((fr + 1) + k_5) (k_10)) 8 0 = σ 8 0 + 1 := addS_n
    refine lv_iload hx hb dL_add_101 (lv_at hl 0 rfl) ?_
    refine fw_icmp_eq (x := ((σ 8 0 : Nat) : Int)) (y := ((σ 8 0 : Nat) : Int)) (tgt := 108) hx hb dL_add_103 (by decide) ⟨by omega, by omega⟩ ⟨by omega, by omega⟩ (fun c_13 => ?_) (fun c_13 => ?_)
    · refine lv_iconst (v := iI ((5 : Nat) : Int)) hx hb dL_add_108 (by decide) ?_
      refine W.sized (fun hsz => ?_)
      have hs1 := hS.1
      have hlt_14 := fw_lt (a := 5) (i := σ 8 0) hP (WC_5 (by rw [hn2]; omega))
      have hzz := (hP.1 5 (σ 8 0) _ (WC_5 (by rw [hn2]; omega))).2
      refine fw_newa (a := 17) (i := 0) (N := 5) (ty := .int) (a0 := (5, .inl (fun _ => 0))) hx hb (hts (.arrayClass .int) (by decide +kernel)) rfl hK hP hS (by omega) 0 rfl id (fun _ => rfl) rfl (by decide) (by decide) ((WC_r (by decide)).trans rfl) (by omega) (Nat.le_of_ble_eq_true rfl) (Nat.le_of_ble_eq_true rfl) dL_add_109 (fun H hP hS hsz2 => ?_)
      obtain ⟨w_15, h_w_15⟩ : ∃ w9, w9 = fw_up (WC cA ad (addS σ (1 + k_1) (fr) ((fr + 1) + k_5) (k_10)) ((aW cA f))) 17 (0) (.inl (cA 0, 5, .inl (fun _ => 0))) := ⟨_, rfl⟩
      have hP : fw_P D vwCl z ad w_15 H := by rw [h_w_15]; exact hP
      have hP : fw_P D vwCl z ad (WC cA ad (addS σ (1 + k_1) (fr) ((fr + 1) + k_5) (k_10)) (rW cA f (fun _ => 0))) H := by rw [h_w_15, WC_up (by decide)] at hP; exact hP
      refine lv_dup hx hb dL_add_111 rfl ?_
      refine lv_iconst (v := iI ((0 : Nat) : Int)) hx hb dL_add_112 (by decide) ?_
      refine lv_iload_n hx hb dL_add_113 rfl (lv_at hl 4 rfl) ?_
      refine fw_iastN (j := 0) hx hb hK hP hS ((WC_r (by decide)).trans (rW_17 cA _ _)) 0 rfl (by omega) (by decide) dL_add_114 (fun H locs hP hS => ?_)
      obtain ⟨g_16, hP⟩ : ∃ g9, fw_P D vwCl z ad (WC cA ad (addS σ (1 + k_1) (fr) ((fr + 1) + k_5) (k_10)) (rW cA f g9)) H := ⟨_, by rw [rW_up] at hP; exact hP⟩
      refine lv_dup hx hb dL_add_115 rfl ?_
      refine lv_iconst (v := iI ((1 : Nat) : Int)) hx hb dL_add_116 (by decide) ?_
      refine lv_iload hx hb dL_add_117 (lv_at hl 3 rfl) ?_
      refine fw_iastN (j := 1) hx hb hK hP hS ((WC_r (by decide)).trans (rW_17 cA _ _)) 0 rfl (by omega) (by decide) dL_add_119 (fun H locs hP hS => ?_)
      obtain ⟨g_17, hP⟩ : ∃ g9, fw_P D vwCl z ad (WC cA ad (addS σ (1 + k_1) (fr) ((fr + 1) + k_5) (k_10)) (rW cA f g9)) H := ⟨_, by rw [rW_up] at hP; exact hP⟩
      refine lv_dup hx hb dL_add_120 rfl ?_
      refine lv_iconst (v := iI ((2 : Nat) : Int)) hx hb dL_add_121 (by decide) ?_
      refine lv_iload hx hb dL_add_122 (lv_at hl 2 rfl) ?_
      refine fw_iastN (j := 2) hx hb hK hP hS ((WC_r (by decide)).trans (rW_17 cA _ _)) 0 rfl (by omega) (by decide) dL_add_124 (fun H locs hP hS => ?_)
      obtain ⟨g_18, hP⟩ : ∃ g9, fw_P D vwCl z ad (WC cA ad (addS σ (1 + k_1) (fr) ((fr + 1) + k_5) (k_10)) (rW cA f g9)) H := ⟨_, by rw [rW_up] at hP; exact hP⟩
      refine lv_dup hx hb dL_add_125 rfl ?_
      refine lv_iconst (v := iI ((3 : Nat) : Int)) hx hb dL_add_126 (by decide) ?_
      refine lv_iload hx hb dL_add_127 (lv_at hl 1 rfl) ?_
      refine fw_iastN (j := 3) hx hb hK hP hS ((WC_r (by decide)).trans (rW_17 cA _ _)) 0 rfl (by omega) (by decide) dL_add_129 (fun H locs hP hS => ?_)
      obtain ⟨g_19, hP⟩ : ∃ g9, fw_P D vwCl z ad (WC cA ad (addS σ (1 + k_1) (fr) ((fr + 1) + k_5) (k_10)) (rW cA f g9)) H := ⟨_, by rw [rW_up] at hP; exact hP⟩
      refine lv_dup hx hb dL_add_130 rfl ?_
      refine lv_iconst (v := iI ((4 : Nat) : Int)) hx hb dL_add_131 (by decide) ?_
      refine lv_iconst (v := iI ((0 : Nat) : Int)) hx hb dL_add_132 (by decide) ?_
      refine fw_iastN (j := 4) hx hb hK hP hS ((WC_r (by decide)).trans (rW_17 cA _ _)) 0 rfl (by omega) (by decide) dL_add_133 (fun H locs hP hS => ?_)
      obtain ⟨g_20, hP⟩ : ∃ g9, fw_P D vwCl z ad (WC cA ad (addS σ (1 + k_1) (fr) ((fr + 1) + k_5) (k_10)) (rW cA f g9)) H := ⟨_, by rw [rW_up] at hP; exact hP⟩
      refine lv_astore (lv' := [(8, .ref (ad 17 (0))), (7, .int (iI ((σ 8 0 : Nat) : Int))), (6, .int (iI ((k_10 : Nat) : Int))), (5, .int (iI (((fr + 1) + k_5 : Nat) : Int))), (4, .int (iI ((fr : Nat) : Int))), (3, .int (iI ((1 + k_1 : Nat) : Int))), (0, .ref (ad 0 (0))), (1, .int x), (2, .ref (ad 15 (0)))]) hx hb dL_add_134 hl (by decide) rfl (fun ls hl => ?_)
      refine lv_iconst (v := iI ((0 : Nat) : Int)) hx hb dL_add_136 (by decide) ?_
      refine lv_istore (lv' := [(9, .int (iI ((0 : Nat) : Int))), (8, .ref (ad 17 (0))), (7, .int (iI ((σ 8 0 : Nat) : Int))), (6, .int (iI ((k_10 : Nat) : Int))), (5, .int (iI (((fr + 1) + k_5 : Nat) : Int))), (4, .int (iI ((fr : Nat) : Int))), (3, .int (iI ((1 + k_1 : Nat) : Int))), (0, .ref (ad 0 (0))), (1, .int x), (2, .ref (ad 15 (0)))]) hx hb dL_add_137 hl (by decide) rfl (fun ls hl => ?_)
      have loop_139 : ∀ (dd i : Nat) (g : Nat → Int32) (t : Nat → Int32), 5 + 1 ≤ i + dd → i ≤ 5 → (g 353 = iI ((0 : Nat) : Int)) → (g 355 = iI ((σ 8 0 : Nat) : Int)) → ∀ (H : Heap) (locs : List Loc) (ls : Array Slot), fw_P D vwCl z ad (WC cA ad (addS σ (1 + k_1) (fr) ((fr + 1) + k_5) (k_10)) ((rW cA g t))) H → va_S (fw_A z) s.heap H locs → lv_has ls 10 [(0, .ref (ad 0 (0))), (1, .int x), (2, .ref (ad 15 (0))), (3, .int (iI ((1 + k_1 : Nat) : Int))), (4, .int (iI ((fr : Nat) : Int))), (5, .int (iI (((fr + 1) + k_5 : Nat) : Int))), (6, .int (iI ((k_10 : Nat) : Int))), (7, .int (iI ((σ 8 0 : Nat) : Int))), (8, .ref (ad 17 (0))), (9, .int (iI ((i : Nat) : Int)))] → W pg l en (headSpec wsL_add rm_L_add).room s m args below meth cd H locs (0 + 0 + 0 + 0 + 0 + 0 + 1 + 1) (0 + 0 + 0 + 0 + 0 + 0 + 8 + 5) Q (F0 m 139 ls []) := by
        intro dd
        induction dd with
        | zero => intro i g t hd_139 hi_139; omega
        | succ dd ih_139 =>
          intro i g t hd_139 hi_139 h3 h5 H locs ls hP hS hl
          refine lv_iload hx hb dL_add_139 (lv_at hl 9 rfl) ?_
          refine lv_iconst (v := iI ((5 : Nat) : Int)) hx hb dL_add_141 (by decide) ?_
          refine fw_icmp_ge (x := ((i : Nat) : Int)) (y := ((5 : Nat) : Int)) (tgt := 165) hx hb dL_add_142 (by decide) ⟨by omega, by omega⟩ ⟨by omega, by omega⟩ (fun c_21 => ?_) (fun c_21 => ?_)
          · have hP := fw_dropr hP
            refine lv_aload_n hx hb dL_add_165 rfl (lv_at hl 2 rfl) ?_
            refine lv_sipush (v := iI ((355 : Nat) : Int)) hx hb dL_add_166 (by decide) ?_
            refine lv_dup2_11 hx hb dL_add_169 rfl rfl ?_
            refine fw_ialdN (j := 355) hx hb hK hP ((WC_r (by decide)).trans (aW_15 cA _)) 0 rfl (by omega) (by decide) dL_add_170 ?_
            refine fw_topP (b := ((σ 8 0 : Nat) : Int)) h5 ?_
            refine lv_iconst (v := iI ((1 : Nat) : Int)) hx hb dL_add_171 (by decide) ?_
            refine fw_iaddN (a := σ 8 0) (b := 1) hx hb dL_add_172 ?_
            refine fw_iastN (j := 355) hx hb hK hP hS ((WC_r (by decide)).trans (aW_15 cA _)) 0 rfl (by omega) (by decide) dL_add_173 (fun H locs hP hS => ?_)
            obtain ⟨g_22, hg_22, hP⟩ : ∃ g9, g9 = upd g (355) (iI (((σ 8 0) + 1 : Nat) : Int)) ∧ fw_P D vwCl z ad (WC cA ad (addS σ (1 + k_1) (fr) ((fr + 1) + k_5) (k_10)) (aW cA g9)) H := ⟨_, rfl, by rw [aW_up] at hP; exact hP⟩
            have h3 : g_22 353 = iI ((0 : Nat) : Int) := by rw [hg_22, upd_o (by omega)]; exact h3
            have h5 : g_22 355 = (iI (((σ 8 0) + 1 : Nat) : Int)) := by rw [hg_22]; exact upd_s
            refine lv_iconst (v := iI ((1 : Nat) : Int)) hx hb dL_add_174 (by decide) ?_
            subst hQ
            refine W.widen (k := 2) (n := 13) (Nat.le_of_ble_eq_true rfl) (Nat.le_of_ble_eq_true rfl) ?_
            exact fw_iret hx hb hr hlocks dL_add_175 hP hS ⟨rfl, (1 + k_1), (fr), ((fr + 1) + k_5), (k_10), g_22, hI2, h3, h5, rfl⟩
          · refine lv_aload_n hx hb dL_add_145 rfl (lv_at hl 2 rfl) ?_
            refine lv_iconst (v := iI ((5 : Nat) : Int)) hx hb dL_add_146 (by decide) ?_
            refine lv_iload hx hb dL_add_147 (lv_at hl 7 rfl) ?_
            refine fw_imulN (a := 5) (b := σ 8 0) hx hb dL_add_149 ?_
            refine lv_iload hx hb dL_add_150 (lv_at hl 9 rfl) ?_
            refine fw_iaddN (a := 5 * (σ 8 0)) (b := i) hx hb dL_add_152 ?_
            refine lv_aload hx hb dL_add_153 (lv_at hl 8 rfl) ?_
            refine lv_iload hx hb dL_add_155 (lv_at hl 9 rfl) ?_
            refine fw_ialdN (j := i) hx hb hK hP ((WC_r (by decide)).trans (rW_17 cA _ _)) 0 rfl (by omega) (by decide) dL_add_157 ?_
            refine fw_iastN (j := (5 * (σ 8 0)) + i) hx hb hK hP hS ((WC_r (by decide)).trans (rW_15 cA _ _)) 0 rfl (by omega) (by decide) dL_add_158 (fun H locs hP hS => ?_)
            obtain ⟨g_23, hg_23, hP⟩ : ∃ g9, g9 = upd g ((5 * (σ 8 0)) + i) (t i) ∧ fw_P D vwCl z ad (WC cA ad (addS σ (1 + k_1) (fr) ((fr + 1) + k_5) (k_10)) (rW cA g9 t)) H := ⟨_, rfl, by rw [rW_up2] at hP; exact hP⟩
            have h3 : g_23 353 = iI ((0 : Nat) : Int) := by rw [hg_23, upd_o (by omega)]; exact h3
            have h5 : g_23 355 = iI ((σ 8 0 : Nat) : Int) := by rw [hg_23, upd_o (by omega)]; exact h5
            refine fw_iincN (x := i) (lv' := [(9, .int (iI ((i + 1 : Nat) : Int))), (0, .ref (ad 0 (0))), (1, .int x), (2, .ref (ad 15 (0))), (3, .int (iI ((1 + k_1 : Nat) : Int))), (4, .int (iI ((fr : Nat) : Int))), (5, .int (iI (((fr + 1) + k_5 : Nat) : Int))), (6, .int (iI ((k_10 : Nat) : Int))), (7, .int (iI ((σ 8 0 : Nat) : Int))), (8, .ref (ad 17 (0)))]) hx hb dL_add_159 hl (k := 9) rfl (by decide) rfl (fun ls hl => ?_)
            refine lv_goto (tgt := 139) hx hb dL_add_162 (by decide) ?_
            exact ih_139 (i + 1) g_23 t (by omega) (by omega) h3 h5 H locs ls hP hS (lv_sub hl [1, 2, 3, 4, 5, 6, 7, 8, 9, 0] rfl)
      exact loop_139 (5 + 1) (0) f _ (by omega) (by omega) h3 h5 H locs ls hP hS (lv_sub hl [7, 8, 9, 6, 5, 4, 3, 2, 1, 0] rfl)
    · exfalso; omega
  · refine lv_iconst (v := iI ((0 : Nat) : Int)) hx hb dL_add_58 (by decide) ?_
    refine lv_goto (tgt := 70) hx hb dL_add_59 (by decide) ?_
    refine lv_istore (lv' := [(6, .int (iI ((0 : Nat) : Int))), (5, .int (iI (((fr + 1) + k_5 : Nat) : Int))), (4, .int (iI ((fr : Nat) : Int))), (3, .int (iI ((1 + k_1 : Nat) : Int))), (0, .ref (ad 0 (0))), (1, .int x), (2, .ref (ad 15 (0)))]) hx hb dL_add_70 hl (by decide) rfl (fun ls hl => ?_)
    refine lv_aload_n hx hb dL_add_72 rfl (lv_at hl 6 rfl) ?_
    refine lv_sipush (v := iI ((355 : Nat) : Int)) hx hb dL_add_73 (by decide) ?_
    refine fw_ialdN (j := 355) hx hb hK hP ((WC_r (by decide)).trans (aW_15 cA _)) 0 rfl (by omega) (by decide) dL_add_76 ?_
    refine fw_topP (b := ((σ 8 0 : Nat) : Int)) h5 ?_
    refine lv_istore (lv' := [(7, .int (iI ((σ 8 0 : Nat) : Int))), (6, .int (iI ((0 : Nat) : Int))), (5, .int (iI (((fr + 1) + k_5 : Nat) : Int))), (4, .int (iI ((fr : Nat) : Int))), (3, .int (iI ((1 + k_1 : Nat) : Int))), (0, .ref (ad 0 (0))), (1, .int x), (2, .ref (ad 15 (0)))]) hx hb dL_add_77 hl (by decide) rfl (fun ls hl => ?_)
    refine lv_aload_n hx hb dL_add_79 rfl (lv_at hl 7 rfl) ?_
    refine lv_sipush (v := iI ((353 : Nat) : Int)) hx hb dL_add_80 (by decide) ?_
    refine fw_ialdN (j := 353) hx hb hK hP ((WC_r (by decide)).trans (aW_15 cA _)) 0 rfl (by omega) (by decide) dL_add_83 ?_
    refine fw_topP (b := ((0 : Nat) : Int)) h3 ?_
    refine lv_iconst (v := iI ((4 : Nat) : Int)) hx hb dL_add_84 (by decide) ?_
    refine fw_icmp_le (x := ((0 : Nat) : Int)) (y := ((4 : Nat) : Int)) (tgt := 90) hx hb dL_add_85 (by decide) ⟨by omega, by omega⟩ ⟨by omega, by omega⟩ (fun c_24 => ?_) (fun c_24 => absurd c_24 (by decide))
    refine lv_aload_n hx hb dL_add_90 rfl (lv_at hl 5 rfl) ?_
    refine lv_iload_n hx hb dL_add_91 rfl (lv_at hl 4 rfl) ?_
    refine lv_iload hx hb dL_add_92 (lv_at hl 3 rfl) ?_
    refine lv_iload hx hb dL_add_94 (lv_at hl 2 rfl) ?_
    refine lv_iload hx hb dL_add_96 (lv_at hl 1 rfl) ?_
    refine W.sized (fun hsz => ?_)
    have hnh : H.size = ad 5 (σ 8 0) := by (have := hS.1; omega)
    refine fn_sVi (As := [.int (iI ((1 + k_1 : Nat) : Int)), .int (iI ((fr : Nat) : Int)), .int (iI (((fr + 1) + k_5 : Nat) : Int)), .int (iI ((0 : Nat) : Int))]) (rest := []) ⟨hx, hb, hml, hown, hts⟩ (c_X2_addContainer l hl0 D cA z ad sa σ (aW cA f) (((1 + k_1 : Nat) : Int)) (((fr : Nat) : Int)) ((((fr + 1) + k_5 : Nat) : Int)) (((0 : Nat) : Int)) hI ⟨by omega, by omega⟩ ⟨by omega, by omega⟩ ⟨by omega, by omega⟩ ⟨by omega, by omega⟩) (cwV 4 hts gL_add_X2_addContainer rfl rfl rfl (by decide +kernel) ⟨Nat.le_of_ble_eq_true rfl, Nat.le_of_ble_eq_true rfl⟩) WC_0 rfl rfl hl.1 (Nat.le_of_ble_eq_true rfl) dL_add_98 ⟨Nat.le_of_ble_eq_true rfl, Nat.le_of_ble_eq_true rfl⟩ hK hnh hE hP hS rfl (fun E w' q => by rcases q with ⟨⟨-, q⟩ | ⟨-, -, q⟩, -⟩ <;> omega) (fun r w' H locs q_25 hP hS => ?_)
    obtain ⟨hok, hok2, rfl, rfl⟩ := q_25
    have hP : fw_P D vwCl z ad (WC cA ad (addS σ (1 + k_1) (fr) ((fr + 1) + k_5) (0)) (aW cA f)) H := hP
    have hI2 : Inv (addS σ (1 + k_1) (fr) ((fr + 1) + k_5) (0)) := Inv_add hI (by omega) (by omega) (by omega) (by omega) (by omega)
    have hn2 : (addS σ (1 + k_1) (fr) ((fr + 1) + k_5) (0)) 8 0 = σ 8 0 + 1 := addS_n
    refine lv_iload hx hb dL_add_101 (lv_at hl 0 rfl) ?_
    refine fw_icmp_eq (x := ((σ 8 0 : Nat) : Int)) (y := ((σ 8 0 : Nat) : Int)) (tgt := 108) hx hb dL_add_103 (by decide) ⟨by omega, by omega⟩ ⟨by omega, by omega⟩ (fun c_26 => ?_) (fun c_26 => ?_)
    · refine lv_iconst (v := iI ((5 : Nat) : Int)) hx hb dL_add_108 (by decide) ?_
      refine W.sized (fun hsz => ?_)
      have hs1 := hS.1
      have hlt_27 := fw_lt (a := 5) (i := σ 8 0) hP (WC_5 (by rw [hn2]; omega))
      have hzz := (hP.1 5 (σ 8 0) _ (WC_5 (by rw [hn2]; omega))).2
      refine fw_newa (a := 17) (i := 0) (N := 5) (ty := .int) (a0 := (5, .inl (fun _ => 0))) hx hb (hts (.arrayClass .int) (by decide +kernel)) rfl hK hP hS (by omega) 0 rfl id (fun _ => rfl) rfl (by decide) (by decide) ((WC_r (by decide)).trans rfl) (by omega) (Nat.le_of_ble_eq_true rfl) (Nat.le_of_ble_eq_true rfl) dL_add_109 (fun H hP hS hsz2 => ?_)
      obtain ⟨w_28, h_w_28⟩ : ∃ w9, w9 = fw_up (WC cA ad (addS σ (1 + k_1) (fr) ((fr + 1) + k_5) (0)) ((aW cA f))) 17 (0) (.inl (cA 0, 5, .inl (fun _ => 0))) := ⟨_, rfl⟩
      have hP : fw_P D vwCl z ad w_28 H := by rw [h_w_28]; exact hP
      have hP : fw_P D vwCl z ad (WC cA ad (addS σ (1 + k_1) (fr) ((fr + 1) + k_5) (0)) (rW cA f (fun _ => 0))) H := by rw [h_w_28, WC_up (by decide)] at hP; exact hP
      refine lv_dup hx hb dL_add_111 rfl ?_
      refine lv_iconst (v := iI ((0 : Nat) : Int)) hx hb dL_add_112 (by decide) ?_
      refine lv_iload_n hx hb dL_add_113 rfl (lv_at hl 4 rfl) ?_
      refine fw_iastN (j := 0) hx hb hK hP hS ((WC_r (by decide)).trans (rW_17 cA _ _)) 0 rfl (by omega) (by decide) dL_add_114 (fun H locs hP hS => ?_)
      obtain ⟨g_29, hP⟩ : ∃ g9, fw_P D vwCl z ad (WC cA ad (addS σ (1 + k_1) (fr) ((fr + 1) + k_5) (0)) (rW cA f g9)) H := ⟨_, by rw [rW_up] at hP; exact hP⟩
      refine lv_dup hx hb dL_add_115 rfl ?_
      refine lv_iconst (v := iI ((1 : Nat) : Int)) hx hb dL_add_116 (by decide) ?_
      refine lv_iload hx hb dL_add_117 (lv_at hl 3 rfl) ?_
      refine fw_iastN (j := 1) hx hb hK hP hS ((WC_r (by decide)).trans (rW_17 cA _ _)) 0 rfl (by omega) (by decide) dL_add_119 (fun H locs hP hS => ?_)
      obtain ⟨g_30, hP⟩ : ∃ g9, fw_P D vwCl z ad (WC cA ad (addS σ (1 + k_1) (fr) ((fr + 1) + k_5) (0)) (rW cA f g9)) H := ⟨_, by rw [rW_up] at hP; exact hP⟩
      refine lv_dup hx hb dL_add_120 rfl ?_
      refine lv_iconst (v := iI ((2 : Nat) : Int)) hx hb dL_add_121 (by decide) ?_
      refine lv_iload hx hb dL_add_122 (lv_at hl 2 rfl) ?_
      refine fw_iastN (j := 2) hx hb hK hP hS ((WC_r (by decide)).trans (rW_17 cA _ _)) 0 rfl (by omega) (by decide) dL_add_124 (fun H locs hP hS => ?_)
      obtain ⟨g_31, hP⟩ : ∃ g9, fw_P D vwCl z ad (WC cA ad (addS σ (1 + k_1) (fr) ((fr + 1) + k_5) (0)) (rW cA f g9)) H := ⟨_, by rw [rW_up] at hP; exact hP⟩
      refine lv_dup hx hb dL_add_125 rfl ?_
      refine lv_iconst (v := iI ((3 : Nat) : Int)) hx hb dL_add_126 (by decide) ?_
      refine lv_iload hx hb dL_add_127 (lv_at hl 1 rfl) ?_
      refine fw_iastN (j := 3) hx hb hK hP hS ((WC_r (by decide)).trans (rW_17 cA _ _)) 0 rfl (by omega) (by decide) dL_add_129 (fun H locs hP hS => ?_)
      obtain ⟨g_32, hP⟩ : ∃ g9, fw_P D vwCl z ad (WC cA ad (addS σ (1 + k_1) (fr) ((fr + 1) + k_5) (0)) (rW cA f g9)) H := ⟨_, by rw [rW_up] at hP; exact hP⟩
      refine lv_dup hx hb dL_add_130 rfl ?_
      refine lv_iconst (v := iI ((4 : Nat) : Int)) hx hb dL_add_131 (by decide) ?_
      refine lv_iconst (v := iI ((0 : Nat) : Int)) hx hb dL_add_132 (by decide) ?_
      refine fw_iastN (j := 4) hx hb hK hP hS ((WC_r (by decide)).trans (rW_17 cA _ _)) 0 rfl (by omega) (by decide) dL_add_133 (fun H locs hP hS => ?_)
      obtain ⟨g_33, hP⟩ : ∃ g9, fw_P D vwCl z ad (WC cA ad (addS σ (1 + k_1) (fr) ((fr + 1) + k_5) (0)) (rW cA f g9)) H := ⟨_, by rw [rW_up] at hP; exact hP⟩
      refine lv_astore (lv' := [(8, .ref (ad 17 (0))), (7, .int (iI ((σ 8 0 : Nat) : Int))), (6, .int (iI ((0 : Nat) : Int))), (5, .int (iI (((fr + 1) + k_5 : Nat) : Int))), (4, .int (iI ((fr : Nat) : Int))), (3, .int (iI ((1 + k_1 : Nat) : Int))), (0, .ref (ad 0 (0))), (1, .int x), (2, .ref (ad 15 (0)))]) hx hb dL_add_134 hl (by decide) rfl (fun ls hl => ?_)
      refine lv_iconst (v := iI ((0 : Nat) : Int)) hx hb dL_add_136 (by decide) ?_
      refine lv_istore (lv' := [(9, .int (iI ((0 : Nat) : Int))), (8, .ref (ad 17 (0))), (7, .int (iI ((σ 8 0 : Nat) : Int))), (6, .int (iI ((0 : Nat) : Int))), (5, .int (iI (((fr + 1) + k_5 : Nat) : Int))), (4, .int (iI ((fr : Nat) : Int))), (3, .int (iI ((1 + k_1 : Nat) : Int))), (0, .ref (ad 0 (0))), (1, .int x), (2, .ref (ad 15 (0)))]) hx hb dL_add_137 hl (by decide) rfl (fun ls hl => ?_)
      have loop_139 : ∀ (dd i : Nat) (g : Nat → Int32) (t : Nat → Int32), 5 + 1 ≤ i + dd → i ≤ 5 → (g 353 = iI ((0 : Nat) : Int)) → (g 355 = iI ((σ 8 0 : Nat) : Int)) → ∀ (H : Heap) (locs : List Loc) (ls : Array Slot), fw_P D vwCl z ad (WC cA ad (addS σ (1 + k_1) (fr) ((fr + 1) + k_5) (0)) ((rW cA g t))) H → va_S (fw_A z) s.heap H locs → lv_has ls 10 [(0, .ref (ad 0 (0))), (1, .int x), (2, .ref (ad 15 (0))), (3, .int (iI ((1 + k_1 : Nat) : Int))), (4, .int (iI ((fr : Nat) : Int))), (5, .int (iI (((fr + 1) + k_5 : Nat) : Int))), (6, .int (iI ((0 : Nat) : Int))), (7, .int (iI ((σ 8 0 : Nat) : Int))), (8, .ref (ad 17 (0))), (9, .int (iI ((i : Nat) : Int)))] → W pg l en (headSpec wsL_add rm_L_add).room s m args below meth cd H locs (0 + 0 + 0 + 0 + 0 + 1 + 1) (0 + 0 + 0 + 0 + 0 + 8 + 5) Q (F0 m 139 ls []) := by
        intro dd
        induction dd with
        | zero => intro i g t hd_139 hi_139; omega
        | succ dd ih_139 =>
          intro i g t hd_139 hi_139 h3 h5 H locs ls hP hS hl
          refine lv_iload hx hb dL_add_139 (lv_at hl 9 rfl) ?_
          refine lv_iconst (v := iI ((5 : Nat) : Int)) hx hb dL_add_141 (by decide) ?_
          refine fw_icmp_ge (x := ((i : Nat) : Int)) (y := ((5 : Nat) : Int)) (tgt := 165) hx hb dL_add_142 (by decide) ⟨by omega, by omega⟩ ⟨by omega, by omega⟩ (fun c_34 => ?_) (fun c_34 => ?_)
          · have hP := fw_dropr hP
            refine lv_aload_n hx hb dL_add_165 rfl (lv_at hl 2 rfl) ?_
            refine lv_sipush (v := iI ((355 : Nat) : Int)) hx hb dL_add_166 (by decide) ?_
            refine lv_dup2_11 hx hb dL_add_169 rfl rfl ?_
            refine fw_ialdN (j := 355) hx hb hK hP ((WC_r (by decide)).trans (aW_15 cA _)) 0 rfl (by omega) (by decide) dL_add_170 ?_
            refine fw_topP (b := ((σ 8 0 : Nat) : Int)) h5 ?_
            refine lv_iconst (v := iI ((1 : Nat) : Int)) hx hb dL_add_171 (by decide) ?_
            refine fw_iaddN (a := σ 8 0) (b := 1) hx hb dL_add_172 ?_
            refine fw_iastN (j := 355) hx hb hK hP hS ((WC_r (by decide)).trans (aW_15 cA _)) 0 rfl (by omega) (by decide) dL_add_173 (fun H locs hP hS => ?_)
            obtain ⟨g_35, hg_35, hP⟩ : ∃ g9, g9 = upd g (355) (iI (((σ 8 0) + 1 : Nat) : Int)) ∧ fw_P D vwCl z ad (WC cA ad (addS σ (1 + k_1) (fr) ((fr + 1) + k_5) (0)) (aW cA g9)) H := ⟨_, rfl, by rw [aW_up] at hP; exact hP⟩
            have h3 : g_35 353 = iI ((0 : Nat) : Int) := by rw [hg_35, upd_o (by omega)]; exact h3
            have h5 : g_35 355 = (iI (((σ 8 0) + 1 : Nat) : Int)) := by rw [hg_35]; exact upd_s
            refine lv_iconst (v := iI ((1 : Nat) : Int)) hx hb dL_add_174 (by decide) ?_
            subst hQ
            refine W.widen (k := 2) (n := 13) (Nat.le_of_ble_eq_true rfl) (Nat.le_of_ble_eq_true rfl) ?_
            exact fw_iret hx hb hr hlocks dL_add_175 hP hS ⟨rfl, (1 + k_1), (fr), ((fr + 1) + k_5), (0), g_35, hI2, h3, h5, rfl⟩
          · refine lv_aload_n hx hb dL_add_145 rfl (lv_at hl 2 rfl) ?_
            refine lv_iconst (v := iI ((5 : Nat) : Int)) hx hb dL_add_146 (by decide) ?_
            refine lv_iload hx hb dL_add_147 (lv_at hl 7 rfl) ?_
            refine fw_imulN (a := 5) (b := σ 8 0) hx hb dL_add_149 ?_
            refine lv_iload hx hb dL_add_150 (lv_at hl 9 rfl) ?_
            refine fw_iaddN (a := 5 * (σ 8 0)) (b := i) hx hb dL_add_152 ?_
            refine lv_aload hx hb dL_add_153 (lv_at hl 8 rfl) ?_
            refine lv_iload hx hb dL_add_155 (lv_at hl 9 rfl) ?_
            refine fw_ialdN (j := i) hx hb hK hP ((WC_r (by decide)).trans (rW_17 cA _ _)) 0 rfl (by omega) (by decide) dL_add_157 ?_
            refine fw_iastN (j := (5 * (σ 8 0)) + i) hx hb hK hP hS ((WC_r (by decide)).trans (rW_15 cA _ _)) 0 rfl (by omega) (by decide) dL_add_158 (fun H locs hP hS => ?_)
            obtain ⟨g_36, hg_36, hP⟩ : ∃ g9, g9 = upd g ((5 * (σ 8 0)) + i) (t i) ∧ fw_P D vwCl z ad (WC cA ad (addS σ (1 + k_1) (fr) ((fr + 1) + k_5) (0)) (rW cA g9 t)) H := ⟨_, rfl, by rw [rW_up2] at hP; exact hP⟩
            have h3 : g_36 353 = iI ((0 : Nat) : Int) := by rw [hg_36, upd_o (by omega)]; exact h3
            have h5 : g_36 355 = iI ((σ 8 0 : Nat) : Int) := by rw [hg_36, upd_o (by omega)]; exact h5
            refine fw_iincN (x := i) (lv' := [(9, .int (iI ((i + 1 : Nat) : Int))), (0, .ref (ad 0 (0))), (1, .int x), (2, .ref (ad 15 (0))), (3, .int (iI ((1 + k_1 : Nat) : Int))), (4, .int (iI ((fr : Nat) : Int))), (5, .int (iI (((fr + 1) + k_5 : Nat) : Int))), (6, .int (iI ((0 : Nat) : Int))), (7, .int (iI ((σ 8 0 : Nat) : Int))), (8, .ref (ad 17 (0)))]) hx hb dL_add_159 hl (k := 9) rfl (by decide) rfl (fun ls hl => ?_)
            refine lv_goto (tgt := 139) hx hb dL_add_162 (by decide) ?_
            exact ih_139 (i + 1) g_36 t (by omega) (by omega) h3 h5 H locs ls hP hS (lv_sub hl [1, 2, 3, 4, 5, 6, 7, 8, 9, 0] rfl)
      exact loop_139 (5 + 1) (0) f _ (by omega) (by omega) h3 h5 H locs ls hP hS (lv_sub hl [7, 8, 9, 6, 5, 4, 3, 2, 1, 0] rfl)
    · exfalso; omega
