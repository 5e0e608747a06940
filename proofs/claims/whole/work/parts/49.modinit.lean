def σP (i : Nat) : St := fun b j => if b = 7 then (if 10 ≤ j ∧ j < i then 1 else 0) else if b = 8 then (if j = 1 then 60 else if j = 2 then 60 else if j = 3 then 200 else 0) else 0
theorem σP_s {i : Nat} (h : 10 ≤ i) : up (σP i) 7 i 1 = σP (i + 1) := by
  funext b j
  unfold up σP
  by_cases e : b = 7
  · subst e
    by_cases e2 : j = i
    · subst e2; rw [if_pos ⟨rfl, rfl⟩, if_pos rfl, if_pos (by omega)]
    · rw [if_neg (fun q => e2 q.2), if_pos rfl, if_pos rfl]
      by_cases e3 : 10 ≤ j ∧ j < i
      · rw [if_pos e3, if_pos (by omega)]
      · rw [if_neg e3, if_neg (by omega)]
  · rw [if_neg (fun q => e q.1), if_neg e, if_neg e]
theorem σP_0 {i : Nat} (hi : i ≤ 10) : ∀ j, σP i 7 j = 0 := fun j => by
  unfold σP
  rw [if_pos rfl, if_neg (by omega)]
theorem σP_tab {i : Nat} (j : Nat) : σP i (j % 5) (j / 5) = 0 := by
  unfold σP
  rw [if_neg (by omega), if_neg (by omega)]
section MK
variable {D : va_G} {cl : List vw_C} {z : Nat} {cA : Nat → ClassId} {ad : fw_Ad} {H : Heap} {w : fw_W}
theorem WM_mk {σ : St} {th u a : Int} {μ : fw_W} (h10 : w 10 0 = some (cMod ad σ th u a)) (h11 : w 11 0 = some (.inl (cA 0, 200, .inl (fun _ => 0)))) (h12 : w 12 0 = some (.inl (cA 0, 40, .inl (fun _ => 0)))) (h13 : w 13 0 = some (.inl (cA 0, 40, .inl (fun _ => 0)))) (h14 : w 14 0 = some (.inl (cA 1, 30, .inl (fun _ => 0)))) (hr : ∀ b j, ¬ (10 ≤ b ∧ b ≤ 14) → w b j = μ b j)
    (hP : fw_P D cl z ad w H) (e11 : ∀ j, σ (j % 5) (j / 5) = 0 := by exact σP_tab) (e12 : ∀ j, σ 5 j = 0 := by exact fun _ => rfl) (e13 : ∀ j, σ 6 j = 0 := by exact fun _ => rfl) (e14 : ∀ j, σ 7 j = 0 := by exact σP_0 (by decide)) : fw_P D cl z ad (WM cA ad σ th u a μ) H := by
  refine fw_less hP (fun b j x hx => ?_) (fun _ _ _ _ => rfl)
  unfold WM at hx
  split at hx
  · split at hx
    · rename_i e; subst e; rw [h10]; exact hx
    · cases hx
  · split at hx
    · rename_i e; subst e; rw [h11, ← hx]; unfold cTab; rw [show (fun j => iI ((σ (j % 5) (j / 5) : Nat) : Int)) = fun _ => 0 from funext fun j => by rw [e11]; rfl]
    · cases hx
  · split at hx
    · rename_i e; subst e; rw [h12, ← hx]; unfold cRow; rw [show (fun j => iI ((σ 5 j : Nat) : Int)) = fun _ => 0 from funext fun j => by rw [e12]; rfl]
    · cases hx
  · split at hx
    · rename_i e; subst e; rw [h13, ← hx]; unfold cRow; rw [show (fun j => iI ((σ 6 j : Nat) : Int)) = fun _ => 0 from funext fun j => by rw [e13]; rfl]
    · cases hx
  · split at hx
    · rename_i e; subst e; rw [h14, ← hx]; unfold cPlugs; rw [show (fun j => iI ((σ 7 j : Nat) : Int)) = fun _ => 0 from funext fun j => by rw [e14]; rfl]
    · cases hx
  · rw [hr b j (by
      rintro ⟨g1, g2⟩
      rcases (by omega : b = 10 ∨ b = 11 ∨ b = 12 ∨ b = 13 ∨ b = 14) with rfl | rfl | rfl | rfl | rfl <;> exact absurd rfl (by assumption))]
    exact hx
end MK
abbrev rm_X3_init : Room := { frames := 1, cells := 4, slots := 310, locals := 20 }
abbrev po_X3_init (cA : Nat → ClassId) (ad : fw_Ad) (w μ : fw_W) (n : Nat) (A2 A3 A4 A5 A6 A7 A8 : Value) : fw_W → Prop := fun w' => w' = WM cA ad σ0 ((0 : Nat) : Int) ((0 : Nat) : Int) ((0 : Nat) : Int) μ
set_option maxHeartbeats 4000000 in
set_option maxRecDepth 100000 in
theorem c_X3_init (l : Launch) (D : va_G) (cA : Nat → ClassId) (z : Nat) (ad : fw_Ad) (w μ : fw_W) (n : Nat) (A2 A3 A4 A5 A6 A7 A8 : Value) (hmo : w 10 0 = some (.inr (3, [.int (iI ((0 : Nat) : Int)), .int (iI ((0 : Nat) : Int)), A2, A3, A4, A5, A6, A7, A8, .int (iI ((0 : Nat) : Int)), .int (iI ((0 : Nat) : Int)), .int (iI ((0 : Nat) : Int)), .int (iI ((0 : Nat) : Int))]))) (hn11 : w 11 0 = none) (hn12 : w 12 0 = none) (hn13 : w 13 0 = none) (hn14 : w 14 0 = none) (hw : ∀ b j, ¬ (10 ≤ b ∧ b ≤ 14) → w b j = μ b j) (had : ad 11 0 = n ∧ ad 12 0 = n + 1 ∧ ad 13 0 = n + 2 ∧ ad 14 0 = n + 3) : Met l yX3_init wsX3_init rm_X3_init (va_Pc [.ref (ad 10 (0))] (fa_Pre D vwCl (fw_T cA) z ad (w) (n))) (fw_Qv D vwCl z ad (po_X3_init cA ad w μ n A2 A3 A4 A5 A6 A7 A8)) 4 310 (fw_A z) := by
  refine Met.ofW (cc := cX3_init) (maxL := 2) (ret := none) (by decide) rfl ?_
  intro pg en s m args below meth cd s₁ B hml hv
  obtain ⟨hargs, ⟨hP, hK⟩, hH0, hAO⟩ := hv
  have hx := B.exec
  have hb := B.bytes
  have hr := B.returns
  have hts := atoms_spec (ws := wsX3_init) B.pre
  have hown : s.vm.findClass RX3 = some m.cls := findClass_of_methodNamed B.named
  have hlocks := B.notSynchronized
  have hinn : meth.name = "<init>" := (name_of_methodNamed B.named B.method).1
  have hinX3 : ∀ w ∈ u_ws RX3 TX3 13, w ∈ wsX3_init := by decide +kernel
  have hf9 := hts (.fieldLink RX3 9 "StowagePlanModel" "table" "[I") (by decide +kernel)
  have hf13 := hts (.fieldLink RX3 13 "StowagePlanModel" "stacks" "[I") (by decide +kernel)
  have hf16 := hts (.fieldLink RX3 16 "StowagePlanModel" "tiers" "[I") (by decide +kernel)
  have hf19 := hts (.fieldLink RX3 19 "StowagePlanModel" "plugs" "[Z") (by decide +kernel)
  have hf23 := hts (.fieldLink RX3 23 "StowagePlanModel" "stackLimit" "I") (by decide +kernel)
  have hf27 := hts (.fieldLink RX3 27 "StowagePlanModel" "listLimit" "I") (by decide +kernel)
  have hf30 := hts (.fieldLink RX3 30 "StowagePlanModel" "trimLimit" "I") (by decide +kernel)
  have hl := lv_entry ([.ref (ad 10 (0))]) (n := 2) (Nat.le_of_ble_eq_true rfl)
  have hent : entryFrame m args 2 = entryFrame m ([.ref (ad 10 (0))] : List Value).toArray 2 := by rw [hargs]
  rw [hent, lg_entry_eq]
  generalize (lg_sl ([.ref (ad 10 (0))]) ++ List.replicate (2 - (lg_sl ([.ref (ad 10 (0))])).length) Slot.unset).toArray = ls at hl ⊢
  have hl : lv_has ls 2 [(0, .ref (ad 10 (0)))] := hl
  generalize hQ : MQ below (fw_Qv D vwCl z ad (po_X3_init cA ad w μ n A2 A3 A4 A5 A6 A7 A8)) args s 4 310 (fw_A z) = Q
  generalize hH : s.heap = H at hP ⊢
  have hS : va_S (fw_A z) s.heap H [] := by rw [← hH]; exact va_S.rf
  generalize ([] : List Loc) = locs at hS ⊢
  refine lv_aload_n hx hb dX3_init_0 rfl (lv_at hl 0 rfl) ?_
  refine W.objInit hx hb hown (hts (.methodLink RX3 3 objectInit) (by decide +kernel)) (hts (.instanceMethod objectInit) (by decide +kernel)) (hts (.code objectInit ⟨#[0xb1]⟩ 1 none) (by decide +kernel)) rfl (hl.1.trans hml.symm) rfl dX3_init_1 (Nat.le_of_ble_eq_true rfl) (Nat.le_of_ble_eq_true rfl) ?_
  show W pg l en _ s m args below meth cd H locs _ _ Q (F0 m 4 ls [])
  refine lv_aload_n hx hb dX3_init_4 rfl (lv_at hl 0 rfl) ?_
  refine lv_sipush (v := iI ((200 : Nat) : Int)) hx hb dX3_init_5 (by decide) ?_
  refine W.sized (fun hsz => ?_)
  have hs1 := hS.1
  have hlt_1 := fw_lt (a := 10) (i := 0) hP hmo
  have hzz := (hP.1 10 (0) _ hmo).2
  refine fw_newa (a := 11) (i := 0) (N := 200) (ty := .int) (a0 := (200, .inl (fun _ => 0))) hx hb (hts (.arrayClass .int) (by decide +kernel)) rfl hK hP hS (by omega) 0 rfl id (fun _ => rfl) rfl (by decide) (by decide) hn11 (by omega) (Nat.le_of_ble_eq_true rfl) (Nat.le_of_ble_eq_true rfl) dX3_init_8 (fun H hP hS hsz2 => ?_)
  obtain ⟨w_2, h_w_2⟩ : ∃ x, x = fw_up (w) 11 (0) (.inl (cA 0, 200, .inl (fun _ => 0))) := ⟨_, rfl⟩
  have hP : fw_P D vwCl z ad w_2 H := by rw [h_w_2]; exact hP
  refine fw_putF (ci := 3) (v := .ref (ad 11 (0))) (ty := (.array .int)) (C := RX3) (T := TX3) (N := 13) hx hb hts hinX3 tyX3 tyX3_ok nmX3 hown hK hP hS (by rw [h_w_2]; exact (fw_up_k (by decide)).trans hmo) rfl 2 (by decide) hf9 (fun _ h9 => h9) rfl hinn rfl (by decide +kernel) rfl rfl (Nat.le_of_ble_eq_true rfl) dX3_init_10 (fun H locs hP hS => ?_)
  obtain ⟨w_3, h_w_3⟩ : ∃ x, x = fw_up (w_2) 10 (0) (.inr (3, [.int (iI ((0 : Nat) : Int)), .int (iI ((0 : Nat) : Int)), .ref (ad 11 (0)), A3, A4, A5, A6, A7, A8, .int (iI ((0 : Nat) : Int)), .int (iI ((0 : Nat) : Int)), .int (iI ((0 : Nat) : Int)), .int (iI ((0 : Nat) : Int))])) := ⟨_, rfl⟩
  have hP : fw_P D vwCl z ad w_3 H := by rw [h_w_3]; exact hP
  refine lv_aload_n hx hb dX3_init_13 rfl (lv_at hl 0 rfl) ?_
  refine lv_bipush (v := iI ((40 : Nat) : Int)) hx hb dX3_init_14 (by decide) ?_
  refine W.sized (fun hsz => ?_)
  have hs1 := hS.1
  have hlt_4 := fw_lt (a := 10) (i := 0) hP (by rw [h_w_3]; exact fw_up_same _ _ _ _)
  have hzz := (hP.1 10 (0) _ (by rw [h_w_3]; exact fw_up_same _ _ _ _)).2
  have hlt_5 := fw_lt (a := 11) (i := 0) hP (by rw [h_w_3]; exact (fw_up_k (by decide)).trans (by rw [h_w_2]; exact fw_up_same _ _ _ _))
  refine fw_newa (a := 12) (i := 0) (N := 40) (ty := .int) (a0 := (40, .inl (fun _ => 0))) hx hb (hts (.arrayClass .int) (by decide +kernel)) rfl hK hP hS (by omega) 0 rfl id (fun _ => rfl) rfl (by decide) (by decide) (by first | exact hn12 | (rw [h_w_3, h_w_2]; (repeat rw [fw_up_k (by decide)]); exact hn12)) (by omega) (Nat.le_of_ble_eq_true rfl) (Nat.le_of_ble_eq_true rfl) dX3_init_16 (fun H hP hS hsz2 => ?_)
  obtain ⟨w_6, h_w_6⟩ : ∃ x, x = fw_up (w_3) 12 (0) (.inl (cA 0, 40, .inl (fun _ => 0))) := ⟨_, rfl⟩
  have hP : fw_P D vwCl z ad w_6 H := by rw [h_w_6]; exact hP
  refine fw_putF (ci := 3) (v := .ref (ad 12 (0))) (ty := (.array .int)) (C := RX3) (T := TX3) (N := 13) hx hb hts hinX3 tyX3 tyX3_ok nmX3 hown hK hP hS (by rw [h_w_6]; exact (fw_up_k (by decide)).trans (by rw [h_w_3]; exact fw_up_same _ _ _ _)) rfl 3 (by decide) hf13 (fun _ h9 => h9) rfl hinn rfl (by decide +kernel) rfl rfl (Nat.le_of_ble_eq_true rfl) dX3_init_18 (fun H locs hP hS => ?_)
  obtain ⟨w_7, h_w_7⟩ : ∃ x, x = fw_up (w_6) 10 (0) (.inr (3, [.int (iI ((0 : Nat) : Int)), .int (iI ((0 : Nat) : Int)), .ref (ad 11 (0)), .ref (ad 12 (0)), A4, A5, A6, A7, A8, .int (iI ((0 : Nat) : Int)), .int (iI ((0 : Nat) : Int)), .int (iI ((0 : Nat) : Int)), .int (iI ((0 : Nat) : Int))])) := ⟨_, rfl⟩
  have hP : fw_P D vwCl z ad w_7 H := by rw [h_w_7]; exact hP
  refine lv_aload_n hx hb dX3_init_21 rfl (lv_at hl 0 rfl) ?_
  refine lv_bipush (v := iI ((40 : Nat) : Int)) hx hb dX3_init_22 (by decide) ?_
  refine W.sized (fun hsz => ?_)
  have hs1 := hS.1
  have hlt_8 := fw_lt (a := 10) (i := 0) hP (by rw [h_w_7]; exact fw_up_same _ _ _ _)
  have hzz := (hP.1 10 (0) _ (by rw [h_w_7]; exact fw_up_same _ _ _ _)).2
  have hlt_9 := fw_lt (a := 11) (i := 0) hP (by rw [h_w_7]; exact (fw_up_k (by decide)).trans (by rw [h_w_6]; exact (fw_up_k (by decide)).trans (by rw [h_w_3]; exact (fw_up_k (by decide)).trans (by rw [h_w_2]; exact fw_up_same _ _ _ _))))
  have hlt_10 := fw_lt (a := 12) (i := 0) hP (by rw [h_w_7]; exact (fw_up_k (by decide)).trans (by rw [h_w_6]; exact fw_up_same _ _ _ _))
  refine fw_newa (a := 13) (i := 0) (N := 40) (ty := .int) (a0 := (40, .inl (fun _ => 0))) hx hb (hts (.arrayClass .int) (by decide +kernel)) rfl hK hP hS (by omega) 0 rfl id (fun _ => rfl) rfl (by decide) (by decide) (by first | exact hn13 | (rw [h_w_7, h_w_6, h_w_3, h_w_2]; (repeat rw [fw_up_k (by decide)]); exact hn13)) (by omega) (Nat.le_of_ble_eq_true rfl) (Nat.le_of_ble_eq_true rfl) dX3_init_24 (fun H hP hS hsz2 => ?_)
  obtain ⟨w_11, h_w_11⟩ : ∃ x, x = fw_up (w_7) 13 (0) (.inl (cA 0, 40, .inl (fun _ => 0))) := ⟨_, rfl⟩
  have hP : fw_P D vwCl z ad w_11 H := by rw [h_w_11]; exact hP
  refine fw_putF (ci := 3) (v := .ref (ad 13 (0))) (ty := (.array .int)) (C := RX3) (T := TX3) (N := 13) hx hb hts hinX3 tyX3 tyX3_ok nmX3 hown hK hP hS (by rw [h_w_11]; exact (fw_up_k (by decide)).trans (by rw [h_w_7]; exact fw_up_same _ _ _ _)) rfl 4 (by decide) hf16 (fun _ h9 => h9) rfl hinn rfl (by decide +kernel) rfl rfl (Nat.le_of_ble_eq_true rfl) dX3_init_26 (fun H locs hP hS => ?_)
  obtain ⟨w_12, h_w_12⟩ : ∃ x, x = fw_up (w_11) 10 (0) (.inr (3, [.int (iI ((0 : Nat) : Int)), .int (iI ((0 : Nat) : Int)), .ref (ad 11 (0)), .ref (ad 12 (0)), .ref (ad 13 (0)), A5, A6, A7, A8, .int (iI ((0 : Nat) : Int)), .int (iI ((0 : Nat) : Int)), .int (iI ((0 : Nat) : Int)), .int (iI ((0 : Nat) : Int))])) := ⟨_, rfl⟩
  have hP : fw_P D vwCl z ad w_12 H := by rw [h_w_12]; exact hP
  refine lv_aload_n hx hb dX3_init_29 rfl (lv_at hl 0 rfl) ?_
  refine lv_bipush (v := iI ((30 : Nat) : Int)) hx hb dX3_init_30 (by decide) ?_
  refine W.sized (fun hsz => ?_)
  have hs1 := hS.1
  have hlt_13 := fw_lt (a := 10) (i := 0) hP (by rw [h_w_12]; exact fw_up_same _ _ _ _)
  have hzz := (hP.1 10 (0) _ (by rw [h_w_12]; exact fw_up_same _ _ _ _)).2
  have hlt_14 := fw_lt (a := 11) (i := 0) hP (by rw [h_w_12]; exact (fw_up_k (by decide)).trans (by rw [h_w_11]; exact (fw_up_k (by decide)).trans (by rw [h_w_7]; exact (fw_up_k (by decide)).trans (by rw [h_w_6]; exact (fw_up_k (by decide)).trans (by rw [h_w_3]; exact (fw_up_k (by decide)).trans (by rw [h_w_2]; exact fw_up_same _ _ _ _))))))
  have hlt_15 := fw_lt (a := 12) (i := 0) hP (by rw [h_w_12]; exact (fw_up_k (by decide)).trans (by rw [h_w_11]; exact (fw_up_k (by decide)).trans (by rw [h_w_7]; exact (fw_up_k (by decide)).trans (by rw [h_w_6]; exact fw_up_same _ _ _ _))))
  have hlt_16 := fw_lt (a := 13) (i := 0) hP (by rw [h_w_12]; exact (fw_up_k (by decide)).trans (by rw [h_w_11]; exact fw_up_same _ _ _ _))
  refine fw_newa (a := 14) (i := 0) (N := 30) (ty := .boolean) (a0 := (30, .inl (fun _ => 0))) hx hb (hts (.arrayClass .boolean) (by decide +kernel)) rfl hK hP hS (by omega) 1 rfl id (fun _ => rfl) rfl (by decide) (by decide) (by first | exact hn14 | (rw [h_w_12, h_w_11, h_w_7, h_w_6, h_w_3, h_w_2]; (repeat rw [fw_up_k (by decide)]); exact hn14)) (by omega) (Nat.le_of_ble_eq_true rfl) (Nat.le_of_ble_eq_true rfl) dX3_init_32 (fun H hP hS hsz2 => ?_)
  obtain ⟨w_17, h_w_17⟩ : ∃ x, x = fw_up (w_12) 14 (0) (.inl (cA 1, 30, .inl (fun _ => 0))) := ⟨_, rfl⟩
  have hP : fw_P D vwCl z ad w_17 H := by rw [h_w_17]; exact hP
  refine fw_putF (ci := 3) (v := .ref (ad 14 (0))) (ty := (.array .boolean)) (C := RX3) (T := TX3) (N := 13) hx hb hts hinX3 tyX3 tyX3_ok nmX3 hown hK hP hS (by rw [h_w_17]; exact (fw_up_k (by decide)).trans (by rw [h_w_12]; exact fw_up_same _ _ _ _)) rfl 5 (by decide) hf19 (fun _ h9 => h9) rfl hinn rfl (by decide +kernel) rfl rfl (Nat.le_of_ble_eq_true rfl) dX3_init_34 (fun H locs hP hS => ?_)
  obtain ⟨w_18, h_w_18⟩ : ∃ x, x = fw_up (w_17) 10 (0) (.inr (3, [.int (iI ((0 : Nat) : Int)), .int (iI ((0 : Nat) : Int)), .ref (ad 11 (0)), .ref (ad 12 (0)), .ref (ad 13 (0)), .ref (ad 14 (0)), A6, A7, A8, .int (iI ((0 : Nat) : Int)), .int (iI ((0 : Nat) : Int)), .int (iI ((0 : Nat) : Int)), .int (iI ((0 : Nat) : Int))])) := ⟨_, rfl⟩
  have hP : fw_P D vwCl z ad w_18 H := by rw [h_w_18]; exact hP
  refine lv_aload_n hx hb dX3_init_37 rfl (lv_at hl 0 rfl) ?_
  refine lv_bipush (v := iI ((60 : Nat) : Int)) hx hb dX3_init_38 (by decide) ?_
  refine fw_put (ci := 3) (v := .int (iI ((60 : Nat) : Int))) (ty := .int) (C := RX3) (T := TX3) (N := 13) hx hb hts hinX3 tyX3 tyX3_ok nmX3 hown hK hP hS (by rw [h_w_18]; exact fw_up_same _ _ _ _) rfl 6 (by decide) hf23 (fun _ h9 => h9) rfl (by decide +kernel) rfl rfl (Nat.le_of_ble_eq_true rfl) dX3_init_40 (fun H locs hP hS => ?_)
  obtain ⟨w_19, h_w_19⟩ : ∃ x, x = fw_up (w_18) 10 (0) (.inr (3, [.int (iI ((0 : Nat) : Int)), .int (iI ((0 : Nat) : Int)), .ref (ad 11 (0)), .ref (ad 12 (0)), .ref (ad 13 (0)), .ref (ad 14 (0)), .int (iI ((60 : Nat) : Int)), A7, A8, .int (iI ((0 : Nat) : Int)), .int (iI ((0 : Nat) : Int)), .int (iI ((0 : Nat) : Int)), .int (iI ((0 : Nat) : Int))])) := ⟨_, rfl⟩
  have hP : fw_P D vwCl z ad w_19 H := by rw [h_w_19]; exact hP
  refine lv_aload_n hx hb dX3_init_43 rfl (lv_at hl 0 rfl) ?_
  refine lv_bipush (v := iI ((60 : Nat) : Int)) hx hb dX3_init_44 (by decide) ?_
  refine fw_put (ci := 3) (v := .int (iI ((60 : Nat) : Int))) (ty := .int) (C := RX3) (T := TX3) (N := 13) hx hb hts hinX3 tyX3 tyX3_ok nmX3 hown hK hP hS (by rw [h_w_19]; exact fw_up_same _ _ _ _) rfl 7 (by decide) hf27 (fun _ h9 => h9) rfl (by decide +kernel) rfl rfl (Nat.le_of_ble_eq_true rfl) dX3_init_46 (fun H locs hP hS => ?_)
  obtain ⟨w_20, h_w_20⟩ : ∃ x, x = fw_up (w_19) 10 (0) (.inr (3, [.int (iI ((0 : Nat) : Int)), .int (iI ((0 : Nat) : Int)), .ref (ad 11 (0)), .ref (ad 12 (0)), .ref (ad 13 (0)), .ref (ad 14 (0)), .int (iI ((60 : Nat) : Int)), .int (iI ((60 : Nat) : Int)), A8, .int (iI ((0 : Nat) : Int)), .int (iI ((0 : Nat) : Int)), .int (iI ((0 : Nat) : Int)), .int (iI ((0 : Nat) : Int))])) := ⟨_, rfl⟩
  have hP : fw_P D vwCl z ad w_20 H := by rw [h_w_20]; exact hP
  refine lv_aload_n hx hb dX3_init_49 rfl (lv_at hl 0 rfl) ?_
  refine lv_sipush (v := iI ((200 : Nat) : Int)) hx hb dX3_init_50 (by decide) ?_
  refine fw_put (ci := 3) (v := .int (iI ((200 : Nat) : Int))) (ty := .int) (C := RX3) (T := TX3) (N := 13) hx hb hts hinX3 tyX3 tyX3_ok nmX3 hown hK hP hS (by rw [h_w_20]; exact fw_up_same _ _ _ _) rfl 8 (by decide) hf30 (fun _ h9 => h9) rfl (by decide +kernel) rfl rfl (Nat.le_of_ble_eq_true rfl) dX3_init_53 (fun H locs hP hS => ?_)
  obtain ⟨w_21, h_w_21⟩ : ∃ x, x = fw_up (w_20) 10 (0) (.inr (3, [.int (iI ((0 : Nat) : Int)), .int (iI ((0 : Nat) : Int)), .ref (ad 11 (0)), .ref (ad 12 (0)), .ref (ad 13 (0)), .ref (ad 14 (0)), .int (iI ((60 : Nat) : Int)), .int (iI ((60 : Nat) : Int)), .int (iI ((200 : Nat) : Int)), .int (iI ((0 : Nat) : Int)), .int (iI ((0 : Nat) : Int)), .int (iI ((0 : Nat) : Int)), .int (iI ((0 : Nat) : Int))])) := ⟨_, rfl⟩
  have hP : fw_P D vwCl z ad w_21 H := by rw [h_w_21]; exact hP
  have hP := WM_mk (σ := σP 10) (th := ((0 : Nat) : Int)) (u := ((0 : Nat) : Int)) (a := ((0 : Nat) : Int)) (μ := μ) (by rw [h_w_21]; exact fw_up_same _ _ _ _) ((by rw [h_w_21]; exact (fw_up_k (by decide)).trans (by rw [h_w_20]; exact (fw_up_k (by decide)).trans (by rw [h_w_19]; exact (fw_up_k (by decide)).trans (by rw [h_w_18]; exact (fw_up_k (by decide)).trans (by rw [h_w_17]; exact (fw_up_k (by decide)).trans (by rw [h_w_12]; exact (fw_up_k (by decide)).trans (by rw [h_w_11]; exact (fw_up_k (by decide)).trans (by rw [h_w_7]; exact (fw_up_k (by decide)).trans (by rw [h_w_6]; exact (fw_up_k (by decide)).trans (by rw [h_w_3]; exact (fw_up_k (by decide)).trans (by rw [h_w_2]; exact fw_up_same _ _ _ _)))))))))))) (by rw [h_w_21]; exact (fw_up_k (by decide)).trans (by rw [h_w_20]; exact (fw_up_k (by decide)).trans (by rw [h_w_19]; exact (fw_up_k (by decide)).trans (by rw [h_w_18]; exact (fw_up_k (by decide)).trans (by rw [h_w_17]; exact (fw_up_k (by decide)).trans (by rw [h_w_12]; exact (fw_up_k (by decide)).trans (by rw [h_w_11]; exact (fw_up_k (by decide)).trans (by rw [h_w_7]; exact (fw_up_k (by decide)).trans (by rw [h_w_6]; exact fw_up_same _ _ _ _))))))))) (by rw [h_w_21]; exact (fw_up_k (by decide)).trans (by rw [h_w_20]; exact (fw_up_k (by decide)).trans (by rw [h_w_19]; exact (fw_up_k (by decide)).trans (by rw [h_w_18]; exact (fw_up_k (by decide)).trans (by rw [h_w_17]; exact (fw_up_k (by decide)).trans (by rw [h_w_12]; exact (fw_up_k (by decide)).trans (by rw [h_w_11]; exact fw_up_same _ _ _ _))))))) (by rw [h_w_21]; exact (fw_up_k (by decide)).trans (by rw [h_w_20]; exact (fw_up_k (by decide)).trans (by rw [h_w_19]; exact (fw_up_k (by decide)).trans (by rw [h_w_18]; exact (fw_up_k (by decide)).trans (by rw [h_w_17]; exact fw_up_same _ _ _ _))))) (fun b j hb => by rw [h_w_21, h_w_20, h_w_19, h_w_18, h_w_17, h_w_12, h_w_11, h_w_7, h_w_6, h_w_3, h_w_2]; (repeat rw [fw_up_k (by omega)]); exact hw b j hb) hP
  refine lv_bipush (v := iI ((10 : Nat) : Int)) hx hb dX3_init_56 (by decide) ?_
  refine lv_istore_n (lv' := [(1, .int (iI ((10 : Nat) : Int))), (0, .ref (ad 10 (0)))]) hx hb dX3_init_58 rfl hl (by decide) rfl (fun ls hl => ?_)
  have loop_59 : ∀ (dd i : Nat), 20 + 1 ≤ i + dd → i ≤ 20 → (10 ≤ i) → ∀ (H : Heap) (locs : List Loc) (ls : Array Slot), fw_P D vwCl z ad (WM cA ad (σP i) (((0 : Nat) : Int)) (((0 : Nat) : Int)) (((0 : Nat) : Int)) μ) H → va_S (fw_A z) s.heap H locs → lv_has ls 2 [(0, .ref (ad 10 (0))), (1, .int (iI ((i : Nat) : Int)))] → W pg l en (headSpec wsX3_init rm_X3_init).room s m args below meth cd H locs 4 310 Q (F0 m 59 ls []) := by
    intro dd
    induction dd with
    | zero => intro i hd_59 hi_59; omega
    | succ dd ih_59 =>
      intro i hd_59 hi_59 h10 H locs ls hP hS hl
      refine lv_iload_n hx hb dX3_init_59 rfl (lv_at hl 1 rfl) ?_
      refine lv_bipush (v := iI ((20 : Nat) : Int)) hx hb dX3_init_60 (by decide) ?_
      refine fw_icmp_ge (x := ((i : Nat) : Int)) (y := ((20 : Nat) : Int)) (tgt := 78) hx hb dX3_init_62 (by decide) ⟨by omega, by omega⟩ ⟨by omega, by omega⟩ (fun c_22 => ?_) (fun c_22 => ?_)
      · have hi20 : i = 20 := by omega
        subst hi20
        subst hQ
        exact fw_vret hx hb hr hlocks dX3_init_78 hP hS rfl
      · refine lv_aload_n hx hb dX3_init_65 rfl (lv_at hl 0 rfl) ?_
        refine fw_get (ci := 3) (v := .ref (ad 14 (0))) (C := RX3) (T := TX3) (N := 13) hx hb hts hinX3 hown hK hP WM_10 rfl 5 (by decide) hf19 (fun _ h9 => h9) rfl dX3_init_66 ?_
        refine lv_iload_n hx hb dX3_init_69 rfl (lv_at hl 1 rfl) ?_
        refine lv_iconst (v := iI ((1 : Nat) : Int)) hx hb dX3_init_70 (by decide) ?_
        refine fw_zastN (j := i) hx hb hK hP hS WM_14 1 rfl rfl (by omega) (by decide) dX3_init_71 (fun H locs hP hS => ?_)
        have hP := wM_7 (c := i) (v := 1) hP (cPlug_set rfl)
        refine fw_iincN (x := i) (lv' := [(1, .int (iI ((i + 1 : Nat) : Int))), (0, .ref (ad 10 (0)))]) hx hb dX3_init_72 hl (k := 1) rfl (by decide) rfl (fun ls hl => ?_)
        refine lv_goto (tgt := 59) hx hb dX3_init_75 (by decide) ?_
        exact ih_59 (i + 1) (by omega) (by omega) (by omega) H locs ls (by rw [σP_s h10] at hP; exact hP) hS (lv_sub hl [1, 0] rfl)
  exact loop_59 (20 + 1) (10) (by omega) (by omega) (by omega) H locs ls hP hS (lv_sub hl [1, 0] rfl)
