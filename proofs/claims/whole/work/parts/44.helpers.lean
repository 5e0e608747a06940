section LASTN
variable {p : Program} {l : Launch} {e : Env} {R : Room} {s : State} {m : MethodId} {args : Array Value} {below : List Frame} {meth : Method} {c : Code} {H : Heap} {locs : List Loc} {cells slots : Nat} {Q : State → Prop}
variable {cc : ByteArray} {pc : Nat} {ls : Array Slot} {rest : List Value} {D : va_G} {cl : List vw_C} {tys : List (ClassId × FieldType)} {H0 : Heap} {z : Nat} {ad : fw_Ad} {w : fw_W} {a i : Nat}
theorem fw_lastN (hexec : p.tables.exec = Jvm.exec) (hb : c.code = cc) (hK : va_K D cl tys s) (hP : fw_P D cl z ad w H) (hS : va_S (fw_A z) H0 H locs) {cA : ClassId} {n : Nat} {f : Nat → Int64} (he : w a i = some (.inl (cA, n, .inr (.inl f)))) (t0 : Nat) (ht : tys[t0]? = some (cA, .long)) {j : Nat} {x : Int64} (hj : j < n) (hn : n < 2147483648) (hdg : decode cc pc = .ok (.lastore, 1))
    (kk : ∀ (H1 : Heap) (locs1 : List Loc), fw_P D cl z ad (fw_up w a i (.inl (cA, n, .inr (.inl (vp_updL f j x))))) H1 → va_S (fw_A z) H0 H1 locs1 → W p l e R s m args below meth c H1 locs1 cells slots Q (F0 m (pc + 1) ls rest)) : W p l e R s m args below meth c H locs cells slots Q (F0 m pc ls (.long x :: .int (iI (j : Int)) :: .ref (ad a i) :: rest)) :=
  fw_last hexec hb hK hP hS he t0 ht (iI_in hj hn) hdg (by rw [iI_idx (by omega)]; exact kk)
end LASTN
abbrev rm_L_container : Room := { frames := 7, cells := 1, slots := 6, locals := 105 }
abbrev po_L_container (cA : Nat → ClassId) (ad : fw_Ad) (σ : St) (μ : fw_W) (f : Nat → Int64) (x q : Int) : Int32 → fw_W → Prop := fun r w' => (((0 ≤ x ∧ x < ((σ 8 0 : Nat) : Int)) ∧ 0 ≤ q ∧ q ≤ 4) ∧ r = iI 0 ∧ w' = WC cA ad σ (oU cA μ f ((iI ((σ (Int.toNat q) (Int.toNat x) : Nat) : Int)).toInt64))) ∨ (¬ ((0 ≤ x ∧ x < ((σ 8 0 : Nat) : Int)) ∧ 0 ≤ q ∧ q ≤ 4) ∧ r = iI 1 ∧ w' = WC cA ad σ μ)
set_option maxHeartbeats 4000000 in
set_option maxRecDepth 100000 in
theorem c_L_container (l : Launch) (hl0 : l.stackTraces = false) (D : va_G) (cA : Nat → ClassId) (z : Nat) (ad : fw_Ad) (sa : Nat → Nat) (σ : St) (μ : fw_W) (f : Nat → Int64) (x q : Int) (hI : Inv σ) (hout : μ 15 0 = some (.inl (cA 4, 1, .inr (.inl f)))) (hx0 : -2147483648 ≤ x ∧ x ≤ 2147483647) (hq0 : -2147483648 ≤ q ∧ q ≤ 2147483647) : vx_Met l yL_container wsL_container rm_L_container (va_Pc [.ref (ad 0 (0)), .int (iI (x)), .int (iI (q)), .ref (ad 15 (0))] (fx_Pre D vwCl (fw_T cA) z ad (WC cA ad σ μ) sa)) (fw_Qi D vwCl z ad (po_L_container cA ad σ μ f x q)) (fun _ _ _ => False) 1 6 (fw_A z) := by
  refine vx_ofWH (cc := cL_container) (maxL := 5) (ret := (some .int)) (hh := [(0, 10, 13, 21)]) (by decide) rfl ?_
  intro pg en s m args below meth cd s₁ B hml hv
  obtain ⟨hargs, ⟨hP, hK⟩, hE⟩ := hv
  have hx := B.exec
  have hb := B.bytes
  have hr := B.returns
  have hts := atoms_spec (ws := wsL_container) B.pre
  have hown : s.vm.findClass RL = some m.cls := findClass_of_methodNamed B.named
  have hlocks := B.notSynchronized
  have htab := vx_table (x := yL_container) B (hts (.codeWith yL_container cL_container 5 (some .int) [(0, 10, 13, 21)]) (by decide +kernel))
  have hl := lv_entry ([.ref (ad 0 (0)), .int (iI (x)), .int (iI (q)), .ref (ad 15 (0))]) (n := 5) (Nat.le_of_ble_eq_true rfl)
  have hent : entryFrame m args 5 = entryFrame m ([.ref (ad 0 (0)), .int (iI (x)), .int (iI (q)), .ref (ad 15 (0))] : List Value).toArray 5 := by rw [hargs]
  rw [hent, lg_entry_eq]
  generalize (lg_sl ([.ref (ad 0 (0)), .int (iI (x)), .int (iI (q)), .ref (ad 15 (0))]) ++ List.replicate (5 - (lg_sl ([.ref (ad 0 (0)), .int (iI (x)), .int (iI (q)), .ref (ad 15 (0))])).length) Slot.unset).toArray = ls at hl ⊢
  have hl : lv_has ls 5 [(0, .ref (ad 0 (0))), (1, .int (iI (x))), (2, .int (iI (q))), (3, .ref (ad 15 (0)))] := hl
  generalize hQ : vx_MQ below (fw_Qi D vwCl z ad (po_L_container cA ad σ μ f x q)) (fun _ _ _ => False) args s 1 6 (fw_A z) = Q
  generalize hH : s.heap = H at hP ⊢
  have hS : va_S (fw_A z) s.heap H [] := by rw [← hH]; exact va_S.rf
  generalize ([] : List Loc) = locs at hS ⊢
  refine lv_aload_n hx hb dL_container_0 rfl (lv_at hl 3 rfl) ?_
  refine lv_iconst (v := iI ((0 : Nat) : Int)) hx hb dL_container_1 (by decide) ?_
  refine lv_aload_n hx hb dL_container_2 rfl (lv_at hl 0 rfl) ?_
  refine lv_iload_n hx hb dL_container_3 rfl (lv_at hl 1 rfl) ?_
  refine lv_iload_n hx hb dL_container_4 rfl (lv_at hl 2 rfl) ?_
  refine fx_cVi (As := [.int (iI (x)), .int (iI (q))]) (rest := [.int (iI ((0 : Nat) : Int)), .ref (ad 15 (0))]) ⟨hx, hb, hml, hown, hts⟩ (c_X2_container l hl0 D cA z ad sa σ μ ((x)) ((q)) hI ⟨by omega, by omega⟩ ⟨by omega, by omega⟩) (cwV 2 hts gL_container_X2_container rfl rfl rfl (by decide +kernel) ⟨Nat.le_of_ble_eq_true rfl, Nat.le_of_ble_eq_true rfl⟩) WC_0 rfl rfl hl.1 (Nat.le_of_ble_eq_true rfl) dL_container_5 ⟨Nat.le_of_ble_eq_true rfl, Nat.le_of_ble_eq_true rfl⟩ hK hE hP hS rfl (fun E ce q9 w' H locs q_1 hP hS hcell hcv hcl => ?_) (fun r w' H locs q_1 hP hS => ?_)
  · obtain ⟨rfl, hbad0, rfl⟩ := q_1
    refine vx_catch (name := tx_IO) hown [] ({ startPc := 0, endPc := 10, handlerPc := 13, catchType := 21 } : ExceptionTableEntry) [] (htab.trans rfl) (fun _ h => nomatch h) (by decide) (by decide) (hts (.classLink RL 21 tx_IO) (by decide +kernel)) (va_any rfl (hE.1 _ (by decide))) hcell hcv hcl ?_
    refine lv_astore (lv' := [(4, .ref q9), (0, .ref (ad 0 (0))), (1, .int (iI (x))), (2, .int (iI (q))), (3, .ref (ad 15 (0)))]) hx hb dL_container_13 hl (by decide) rfl (fun ls hl => ?_)
    refine lv_iconst (v := iI ((1 : Nat) : Int)) hx hb dL_container_15 (by decide) ?_
    subst hQ
    refine vx_ret (W.widen (k := 1) (n := 6) (Nat.le_of_ble_eq_true rfl) (Nat.le_of_ble_eq_true rfl) ?_)
    exact fw_iret hx hb hr hlocks dL_container_16 hP hS (Or.inr ⟨hbad0, rfl, rfl⟩)
  · obtain ⟨hok, rfl, rfl⟩ := q_1
    refine lv_i2l (v := (iI (((σ (Int.toNat q) (Int.toNat x) : Nat) : Int))).toInt64) hx hb dL_container_8 rfl ?_
    refine fw_lastN (j := 0) (x := (iI (((σ (Int.toNat q) (Int.toNat x) : Nat) : Int))).toInt64) hx hb hK hP hS ((WC_r (by decide)).trans hout) 4 rfl (by decide) (by decide) dL_container_9 (fun H locs hP hS => ?_)
    rw [WC_out] at hP
    have hP : fw_P D vwCl z ad (WC cA ad σ (oU cA μ f ((iI (((σ (Int.toNat q) (Int.toNat x) : Nat) : Int))).toInt64))) H := hP
    refine lv_goto (tgt := 17) hx hb dL_container_10 (by decide) ?_
    refine lv_iconst (v := iI ((0 : Nat) : Int)) hx hb dL_container_17 (by decide) ?_
    subst hQ
    refine vx_ret (W.widen (k := 1) (n := 6) (Nat.le_of_ble_eq_true rfl) (Nat.le_of_ble_eq_true rfl) ?_)
    exact fw_iret hx hb hr hlocks dL_container_18 hP hS (Or.inl ⟨by omega, rfl, rfl⟩)

abbrev rm_L_where : Room := { frames := 7, cells := 1, slots := 6, locals := 104 }
abbrev po_L_where (cA : Nat → ClassId) (ad : fw_Ad) (σ : St) (μ : fw_W) (f : Nat → Int64) (x : Int) : Int32 → fw_W → Prop := fun r w' => ((0 ≤ x ∧ x < ((σ 8 0 : Nat) : Int)) ∧ r = iI 0 ∧ w' = WC cA ad σ (oU cA μ f ((iI (plc σ (Int.toNat x))).toInt64))) ∨ (¬ (0 ≤ x ∧ x < ((σ 8 0 : Nat) : Int)) ∧ r = iI 1 ∧ w' = WC cA ad σ μ)
set_option maxHeartbeats 4000000 in
set_option maxRecDepth 100000 in
theorem c_L_where (l : Launch) (hl0 : l.stackTraces = false) (D : va_G) (cA : Nat → ClassId) (z : Nat) (ad : fw_Ad) (sa : Nat → Nat) (σ : St) (μ : fw_W) (f : Nat → Int64) (x : Int) (hI : Inv σ) (hout : μ 15 0 = some (.inl (cA 4, 1, .inr (.inl f)))) (hx0 : -2147483648 ≤ x ∧ x ≤ 2147483647) : vx_Met l yL_where wsL_where rm_L_where (va_Pc [.ref (ad 0 (0)), .int (iI (x)), .ref (ad 15 (0))] (fx_Pre D vwCl (fw_T cA) z ad (WC cA ad σ μ) sa)) (fw_Qi D vwCl z ad (po_L_where cA ad σ μ f x)) (fun _ _ _ => False) 1 6 (fw_A z) := by
  refine vx_ofWH (cc := cL_where) (maxL := 4) (ret := (some .int)) (hh := [(0, 9, 12, 21)]) (by decide) rfl ?_
  intro pg en s m args below meth cd s₁ B hml hv
  obtain ⟨hargs, ⟨hP, hK⟩, hE⟩ := hv
  have hx := B.exec
  have hb := B.bytes
  have hr := B.returns
  have hts := atoms_spec (ws := wsL_where) B.pre
  have hown : s.vm.findClass RL = some m.cls := findClass_of_methodNamed B.named
  have hlocks := B.notSynchronized
  have htab := vx_table (x := yL_where) B (hts (.codeWith yL_where cL_where 4 (some .int) [(0, 9, 12, 21)]) (by decide +kernel))
  have hl := lv_entry ([.ref (ad 0 (0)), .int (iI (x)), .ref (ad 15 (0))]) (n := 4) (Nat.le_of_ble_eq_true rfl)
  have hent : entryFrame m args 4 = entryFrame m ([.ref (ad 0 (0)), .int (iI (x)), .ref (ad 15 (0))] : List Value).toArray 4 := by rw [hargs]
  rw [hent, lg_entry_eq]
  generalize (lg_sl ([.ref (ad 0 (0)), .int (iI (x)), .ref (ad 15 (0))]) ++ List.replicate (4 - (lg_sl ([.ref (ad 0 (0)), .int (iI (x)), .ref (ad 15 (0))])).length) Slot.unset).toArray = ls at hl ⊢
  have hl : lv_has ls 4 [(0, .ref (ad 0 (0))), (1, .int (iI (x))), (2, .ref (ad 15 (0)))] := hl
  generalize hQ : vx_MQ below (fw_Qi D vwCl z ad (po_L_where cA ad σ μ f x)) (fun _ _ _ => False) args s 1 6 (fw_A z) = Q
  generalize hH : s.heap = H at hP ⊢
  have hS : va_S (fw_A z) s.heap H [] := by rw [← hH]; exact va_S.rf
  generalize ([] : List Loc) = locs at hS ⊢
  refine lv_aload_n hx hb dL_where_0 rfl (lv_at hl 2 rfl) ?_
  refine lv_iconst (v := iI ((0 : Nat) : Int)) hx hb dL_where_1 (by decide) ?_
  refine lv_aload_n hx hb dL_where_2 rfl (lv_at hl 0 rfl) ?_
  refine lv_iload_n hx hb dL_where_3 rfl (lv_at hl 1 rfl) ?_
  refine fx_cVi (As := [.int (iI (x))]) (rest := [.int (iI ((0 : Nat) : Int)), .ref (ad 15 (0))]) ⟨hx, hb, hml, hown, hts⟩ (c_X2_where l hl0 D cA z ad sa σ μ ((x)) hI ⟨by omega, by omega⟩) (cwV 1 hts gL_where_X2_where rfl rfl rfl (by decide +kernel) ⟨Nat.le_of_ble_eq_true rfl, Nat.le_of_ble_eq_true rfl⟩) WC_0 rfl rfl hl.1 (Nat.le_of_ble_eq_true rfl) dL_where_4 ⟨Nat.le_of_ble_eq_true rfl, Nat.le_of_ble_eq_true rfl⟩ hK hE hP hS rfl (fun E ce q9 w' H locs q_1 hP hS hcell hcv hcl => ?_) (fun r w' H locs q_1 hP hS => ?_)
  · obtain ⟨rfl, hbad0, rfl⟩ := q_1
    refine vx_catch (name := tx_IO) hown [] ({ startPc := 0, endPc := 9, handlerPc := 12, catchType := 21 } : ExceptionTableEntry) [] (htab.trans rfl) (fun _ h => nomatch h) (by decide) (by decide) (hts (.classLink RL 21 tx_IO) (by decide +kernel)) (va_any rfl (hE.1 _ (by decide))) hcell hcv hcl ?_
    refine lv_astore_n (lv' := [(3, .ref q9), (0, .ref (ad 0 (0))), (1, .int (iI (x))), (2, .ref (ad 15 (0)))]) hx hb dL_where_12 rfl hl (by decide) rfl (fun ls hl => ?_)
    refine lv_iconst (v := iI ((1 : Nat) : Int)) hx hb dL_where_13 (by decide) ?_
    subst hQ
    refine vx_ret (W.widen (k := 1) (n := 6) (Nat.le_of_ble_eq_true rfl) (Nat.le_of_ble_eq_true rfl) ?_)
    exact fw_iret hx hb hr hlocks dL_where_14 hP hS (Or.inr ⟨hbad0, rfl, rfl⟩)
  · obtain ⟨hok, rfl, rfl⟩ := q_1
    refine lv_i2l (v := (iI ((plc σ (Int.toNat x)))).toInt64) hx hb dL_where_7 rfl ?_
    refine fw_lastN (j := 0) (x := (iI ((plc σ (Int.toNat x)))).toInt64) hx hb hK hP hS ((WC_r (by decide)).trans hout) 4 rfl (by decide) (by decide) dL_where_8 (fun H locs hP hS => ?_)
    rw [WC_out] at hP
    have hP : fw_P D vwCl z ad (WC cA ad σ (oU cA μ f ((iI ((plc σ (Int.toNat x)))).toInt64))) H := hP
    refine lv_goto (tgt := 15) hx hb dL_where_9 (by decide) ?_
    refine lv_iconst (v := iI ((0 : Nat) : Int)) hx hb dL_where_15 (by decide) ?_
    subst hQ
    refine vx_ret (W.widen (k := 1) (n := 6) (Nat.le_of_ble_eq_true rfl) (Nat.le_of_ble_eq_true rfl) ?_)
    exact fw_iret hx hb hr hlocks dL_where_16 hP hS (Or.inl ⟨by omega, rfl, rfl⟩)

abbrev rm_L_at : Room := { frames := 7, cells := 1, slots := 6, locals := 106 }
abbrev po_L_at (cA : Nat → ClassId) (ad : fw_Ad) (σ : St) (μ : fw_W) (f : Nat → Int64) (b q t : Int) : Int32 → fw_W → Prop := fun r w' => (((0 ≤ b ∧ b ≤ 5) ∧ (0 ≤ q ∧ q ≤ 4) ∧ 0 ≤ t ∧ t ≤ 3) ∧ r = iI 0 ∧ w' = WC cA ad σ (oU cA μ f ((iI (optI (occ σ (5 * Int.toNat b + Int.toNat q) (Int.toNat t)))).toInt64))) ∨ (¬ ((0 ≤ b ∧ b ≤ 5) ∧ (0 ≤ q ∧ q ≤ 4) ∧ 0 ≤ t ∧ t ≤ 3) ∧ r = iI 1 ∧ w' = WC cA ad σ μ)
set_option maxHeartbeats 4000000 in
set_option maxRecDepth 100000 in
theorem c_L_at (l : Launch) (hl0 : l.stackTraces = false) (D : va_G) (cA : Nat → ClassId) (z : Nat) (ad : fw_Ad) (sa : Nat → Nat) (σ : St) (μ : fw_W) (f : Nat → Int64) (b q t : Int) (hI : Inv σ) (hout : μ 15 0 = some (.inl (cA 4, 1, .inr (.inl f)))) (hb0 : -2147483648 ≤ b ∧ b ≤ 2147483647) (hq0 : -2147483648 ≤ q ∧ q ≤ 2147483647) (ht0 : -2147483648 ≤ t ∧ t ≤ 2147483647) : vx_Met l yL_at wsL_at rm_L_at (va_Pc [.ref (ad 0 (0)), .int (iI (b)), .int (iI (q)), .int (iI (t)), .ref (ad 15 (0))] (fx_Pre D vwCl (fw_T cA) z ad (WC cA ad σ μ) sa)) (fw_Qi D vwCl z ad (po_L_at cA ad σ μ f b q t)) (fun _ _ _ => False) 1 6 (fw_A z) := by
  refine vx_ofWH (cc := cL_at) (maxL := 6) (ret := (some .int)) (hh := [(0, 12, 15, 21)]) (by decide) rfl ?_
  intro pg en s m args below meth cd s₁ B hml hv
  obtain ⟨hargs, ⟨hP, hK⟩, hE⟩ := hv
  have hx := B.exec
  have hb := B.bytes
  have hr := B.returns
  have hts := atoms_spec (ws := wsL_at) B.pre
  have hown : s.vm.findClass RL = some m.cls := findClass_of_methodNamed B.named
  have hlocks := B.notSynchronized
  have htab := vx_table (x := yL_at) B (hts (.codeWith yL_at cL_at 6 (some .int) [(0, 12, 15, 21)]) (by decide +kernel))
  have hl := lv_entry ([.ref (ad 0 (0)), .int (iI (b)), .int (iI (q)), .int (iI (t)), .ref (ad 15 (0))]) (n := 6) (Nat.le_of_ble_eq_true rfl)
  have hent : entryFrame m args 6 = entryFrame m ([.ref (ad 0 (0)), .int (iI (b)), .int (iI (q)), .int (iI (t)), .ref (ad 15 (0))] : List Value).toArray 6 := by rw [hargs]
  rw [hent, lg_entry_eq]
  generalize (lg_sl ([.ref (ad 0 (0)), .int (iI (b)), .int (iI (q)), .int (iI (t)), .ref (ad 15 (0))]) ++ List.replicate (6 - (lg_sl ([.ref (ad 0 (0)), .int (iI (b)), .int (iI (q)), .int (iI (t)), .ref (ad 15 (0))])).length) Slot.unset).toArray = ls at hl ⊢
  have hl : lv_has ls 6 [(0, .ref (ad 0 (0))), (1, .int (iI (b))), (2, .int (iI (q))), (3, .int (iI (t))), (4, .ref (ad 15 (0)))] := hl
  generalize hQ : vx_MQ below (fw_Qi D vwCl z ad (po_L_at cA ad σ μ f b q t)) (fun _ _ _ => False) args s 1 6 (fw_A z) = Q
  generalize hH : s.heap = H at hP ⊢
  have hS : va_S (fw_A z) s.heap H [] := by rw [← hH]; exact va_S.rf
  generalize ([] : List Loc) = locs at hS ⊢
  refine lv_aload hx hb dL_at_0 (lv_at hl 4 rfl) ?_
  refine lv_iconst (v := iI ((0 : Nat) : Int)) hx hb dL_at_2 (by decide) ?_
  refine lv_aload_n hx hb dL_at_3 rfl (lv_at hl 0 rfl) ?_
  refine lv_iload_n hx hb dL_at_4 rfl (lv_at hl 1 rfl) ?_
  refine lv_iload_n hx hb dL_at_5 rfl (lv_at hl 2 rfl) ?_
  refine lv_iload_n hx hb dL_at_6 rfl (lv_at hl 3 rfl) ?_
  refine fx_cVi (As := [.int (iI (b)), .int (iI (q)), .int (iI (t))]) (rest := [.int (iI ((0 : Nat) : Int)), .ref (ad 15 (0))]) ⟨hx, hb, hml, hown, hts⟩ (c_X2_at l hl0 D cA z ad sa σ μ ((b)) ((q)) ((t)) hI ⟨by omega, by omega⟩ ⟨by omega, by omega⟩ ⟨by omega, by omega⟩) (cwV 3 hts gL_at_X2_at rfl rfl rfl (by decide +kernel) ⟨Nat.le_of_ble_eq_true rfl, Nat.le_of_ble_eq_true rfl⟩) WC_0 rfl rfl hl.1 (Nat.le_of_ble_eq_true rfl) dL_at_7 ⟨Nat.le_of_ble_eq_true rfl, Nat.le_of_ble_eq_true rfl⟩ hK hE hP hS rfl (fun E ce q9 w' H locs q_1 hP hS hcell hcv hcl => ?_) (fun r w' H locs q_1 hP hS => ?_)
  · obtain ⟨rfl, hbad0, rfl⟩ := q_1
    refine vx_catch (name := tx_IO) hown [] ({ startPc := 0, endPc := 12, handlerPc := 15, catchType := 21 } : ExceptionTableEntry) [] (htab.trans rfl) (fun _ h => nomatch h) (by decide) (by decide) (hts (.classLink RL 21 tx_IO) (by decide +kernel)) (va_any rfl (hE.1 _ (by decide))) hcell hcv hcl ?_
    refine lv_astore (lv' := [(5, .ref q9), (0, .ref (ad 0 (0))), (1, .int (iI (b))), (2, .int (iI (q))), (3, .int (iI (t))), (4, .ref (ad 15 (0)))]) hx hb dL_at_15 hl (by decide) rfl (fun ls hl => ?_)
    refine lv_iconst (v := iI ((1 : Nat) : Int)) hx hb dL_at_17 (by decide) ?_
    subst hQ
    refine vx_ret (W.widen (k := 1) (n := 6) (Nat.le_of_ble_eq_true rfl) (Nat.le_of_ble_eq_true rfl) ?_)
    exact fw_iret hx hb hr hlocks dL_at_18 hP hS (Or.inr ⟨hbad0, rfl, rfl⟩)
  · obtain ⟨hok, rfl, rfl⟩ := q_1
    refine lv_i2l (v := (iI ((optI (occ σ (5 * Int.toNat b + Int.toNat q) (Int.toNat t))))).toInt64) hx hb dL_at_10 rfl ?_
    refine fw_lastN (j := 0) (x := (iI ((optI (occ σ (5 * Int.toNat b + Int.toNat q) (Int.toNat t))))).toInt64) hx hb hK hP hS ((WC_r (by decide)).trans hout) 4 rfl (by decide) (by decide) dL_at_11 (fun H locs hP hS => ?_)
    rw [WC_out] at hP
    have hP : fw_P D vwCl z ad (WC cA ad σ (oU cA μ f ((iI ((optI (occ σ (5 * Int.toNat b + Int.toNat q) (Int.toNat t))))).toInt64))) H := hP
    refine lv_goto (tgt := 19) hx hb dL_at_12 (by decide) ?_
    refine lv_iconst (v := iI ((0 : Nat) : Int)) hx hb dL_at_19 (by decide) ?_
    subst hQ
    refine vx_ret (W.widen (k := 1) (n := 6) (Nat.le_of_ble_eq_true rfl) (Nat.le_of_ble_eq_true rfl) ?_)
    exact fw_iret hx hb hr hlocks dL_at_20 hP hS (Or.inl ⟨by omega, rfl, rfl⟩)

abbrev rm_L_weight : Room := { frames := 7, cells := 1, slots := 6, locals := 108 }
abbrev po_L_weight (cA : Nat → ClassId) (ad : fw_Ad) (σ : St) (μ : fw_W) (f : Nat → Int64) (b : Int) : Int32 → fw_W → Prop := fun r w' => ((0 ≤ b ∧ b ≤ 5) ∧ r = iI 0 ∧ w' = WC cA ad σ (oU cA μ f ((iI ((sumN (fun q => wOf σ (5 * Int.toNat b + q)) 5 : Nat) : Int)).toInt64))) ∨ (¬ (0 ≤ b ∧ b ≤ 5) ∧ r = iI 1 ∧ w' = WC cA ad σ μ)
set_option maxHeartbeats 4000000 in
set_option maxRecDepth 100000 in
theorem c_L_weight (l : Launch) (hl0 : l.stackTraces = false) (D : va_G) (cA : Nat → ClassId) (z : Nat) (ad : fw_Ad) (sa : Nat → Nat) (σ : St) (μ : fw_W) (f : Nat → Int64) (b : Int) (hI : Inv σ) (hout : μ 15 0 = some (.inl (cA 4, 1, .inr (.inl f)))) (hb0 : -2147483648 ≤ b ∧ b ≤ 2147483647) : vx_Met l yL_weight wsL_weight rm_L_weight (va_Pc [.ref (ad 0 (0)), .int (iI (b)), .ref (ad 15 (0))] (fx_Pre D vwCl (fw_T cA) z ad (WC cA ad σ μ) sa)) (fw_Qi D vwCl z ad (po_L_weight cA ad σ μ f b)) (fun _ _ _ => False) 1 6 (fw_A z) := by
  refine vx_ofWH (cc := cL_weight) (maxL := 4) (ret := (some .int)) (hh := [(0, 9, 12, 21)]) (by decide) rfl ?_
  intro pg en s m args below meth cd s₁ B hml hv
  obtain ⟨hargs, ⟨hP, hK⟩, hE⟩ := hv
  have hx := B.exec
  have hb := B.bytes
  have hr := B.returns
  have hts := atoms_spec (ws := wsL_weight) B.pre
  have hown : s.vm.findClass RL = some m.cls := findClass_of_methodNamed B.named
  have hlocks := B.notSynchronized
  have htab := vx_table (x := yL_weight) B (hts (.codeWith yL_weight cL_weight 4 (some .int) [(0, 9, 12, 21)]) (by decide +kernel))
  have hl := lv_entry ([.ref (ad 0 (0)), .int (iI (b)), .ref (ad 15 (0))]) (n := 4) (Nat.le_of_ble_eq_true rfl)
  have hent : entryFrame m args 4 = entryFrame m ([.ref (ad 0 (0)), .int (iI (b)), .ref (ad 15 (0))] : List Value).toArray 4 := by rw [hargs]
  rw [hent, lg_entry_eq]
  generalize (lg_sl ([.ref (ad 0 (0)), .int (iI (b)), .ref (ad 15 (0))]) ++ List.replicate (4 - (lg_sl ([.ref (ad 0 (0)), .int (iI (b)), .ref (ad 15 (0))])).length) Slot.unset).toArray = ls at hl ⊢
  have hl : lv_has ls 4 [(0, .ref (ad 0 (0))), (1, .int (iI (b))), (2, .ref (ad 15 (0)))] := hl
  generalize hQ : vx_MQ below (fw_Qi D vwCl z ad (po_L_weight cA ad σ μ f b)) (fun _ _ _ => False) args s 1 6 (fw_A z) = Q
  generalize hH : s.heap = H at hP ⊢
  have hS : va_S (fw_A z) s.heap H [] := by rw [← hH]; exact va_S.rf
  generalize ([] : List Loc) = locs at hS ⊢
  refine lv_aload_n hx hb dL_weight_0 rfl (lv_at hl 2 rfl) ?_
  refine lv_iconst (v := iI ((0 : Nat) : Int)) hx hb dL_weight_1 (by decide) ?_
  refine lv_aload_n hx hb dL_weight_2 rfl (lv_at hl 0 rfl) ?_
  refine lv_iload_n hx hb dL_weight_3 rfl (lv_at hl 1 rfl) ?_
  refine fx_cVi (As := [.int (iI (b))]) (rest := [.int (iI ((0 : Nat) : Int)), .ref (ad 15 (0))]) ⟨hx, hb, hml, hown, hts⟩ (c_X2_weight l hl0 D cA z ad sa σ μ ((b)) hI ⟨by omega, by omega⟩) (cwV 1 hts gL_weight_X2_weight rfl rfl rfl (by decide +kernel) ⟨Nat.le_of_ble_eq_true rfl, Nat.le_of_ble_eq_true rfl⟩) WC_0 rfl rfl hl.1 (Nat.le_of_ble_eq_true rfl) dL_weight_4 ⟨Nat.le_of_ble_eq_true rfl, Nat.le_of_ble_eq_true rfl⟩ hK hE hP hS rfl (fun E ce q9 w' H locs q_1 hP hS hcell hcv hcl => ?_) (fun r w' H locs q_1 hP hS => ?_)
  · obtain ⟨rfl, hbad0, rfl⟩ := q_1
    refine vx_catch (name := tx_IO) hown [] ({ startPc := 0, endPc := 9, handlerPc := 12, catchType := 21 } : ExceptionTableEntry) [] (htab.trans rfl) (fun _ h => nomatch h) (by decide) (by decide) (hts (.classLink RL 21 tx_IO) (by decide +kernel)) (va_any rfl (hE.1 _ (by decide))) hcell hcv hcl ?_
    refine lv_astore_n (lv' := [(3, .ref q9), (0, .ref (ad 0 (0))), (1, .int (iI (b))), (2, .ref (ad 15 (0)))]) hx hb dL_weight_12 rfl hl (by decide) rfl (fun ls hl => ?_)
    refine lv_iconst (v := iI ((1 : Nat) : Int)) hx hb dL_weight_13 (by decide) ?_
    subst hQ
    refine vx_ret (W.widen (k := 1) (n := 6) (Nat.le_of_ble_eq_true rfl) (Nat.le_of_ble_eq_true rfl) ?_)
    exact fw_iret hx hb hr hlocks dL_weight_14 hP hS (Or.inr ⟨hbad0, rfl, rfl⟩)
  · obtain ⟨hok, rfl, rfl⟩ := q_1
    refine lv_i2l (v := (iI (((sumN (fun q => wOf σ (5 * Int.toNat b + q)) 5 : Nat) : Int))).toInt64) hx hb dL_weight_7 rfl ?_
    refine fw_lastN (j := 0) (x := (iI (((sumN (fun q => wOf σ (5 * Int.toNat b + q)) 5 : Nat) : Int))).toInt64) hx hb hK hP hS ((WC_r (by decide)).trans hout) 4 rfl (by decide) (by decide) dL_weight_8 (fun H locs hP hS => ?_)
    rw [WC_out] at hP
    have hP : fw_P D vwCl z ad (WC cA ad σ (oU cA μ f ((iI (((sumN (fun q => wOf σ (5 * Int.toNat b + q)) 5 : Nat) : Int))).toInt64))) H := hP
    refine lv_goto (tgt := 15) hx hb dL_weight_9 (by decide) ?_
    refine lv_iconst (v := iI ((0 : Nat) : Int)) hx hb dL_weight_15 (by decide) ?_
    subst hQ
    refine vx_ret (W.widen (k := 1) (n := 6) (Nat.le_of_ble_eq_true rfl) (Nat.le_of_ble_eq_true rfl) ?_)
    exact fw_iret hx hb hr hlocks dL_weight_16 hP hS (Or.inl ⟨by omega, rfl, rfl⟩)

abbrev rm_L_lifts : Room := { frames := 7, cells := 1, slots := 6, locals := 108 }
abbrev po_L_lifts (cA : Nat → ClassId) (ad : fw_Ad) (σ : St) (μ : fw_W) (f : Nat → Int64) (t : Int) : Int32 → fw_W → Prop := fun r w' => ((0 ≤ t ∧ t ≤ 5) ∧ r = iI 0 ∧ w' = WC cA ad σ (oU cA μ f ((iI ((lifAt σ (Int.toNat t) : Nat) : Int)).toInt64))) ∨ (¬ (0 ≤ t ∧ t ≤ 5) ∧ r = iI 1 ∧ w' = WC cA ad σ μ)
set_option maxHeartbeats 4000000 in
set_option maxRecDepth 100000 in
theorem c_L_lifts (l : Launch) (hl0 : l.stackTraces = false) (D : va_G) (cA : Nat → ClassId) (z : Nat) (ad : fw_Ad) (sa : Nat → Nat) (σ : St) (μ : fw_W) (f : Nat → Int64) (t : Int) (hI : Inv σ) (hout : μ 15 0 = some (.inl (cA 4, 1, .inr (.inl f)))) (ht0 : -2147483648 ≤ t ∧ t ≤ 2147483647) : vx_Met l yL_lifts wsL_lifts rm_L_lifts (va_Pc [.ref (ad 0 (0)), .int (iI (t)), .ref (ad 15 (0))] (fx_Pre D vwCl (fw_T cA) z ad (WC cA ad σ μ) sa)) (fw_Qi D vwCl z ad (po_L_lifts cA ad σ μ f t)) (fun _ _ _ => False) 1 6 (fw_A z) := by
  refine vx_ofWH (cc := cL_lifts) (maxL := 4) (ret := (some .int)) (hh := [(0, 9, 12, 21)]) (by decide) rfl ?_
  intro pg en s m args below meth cd s₁ B hml hv
  obtain ⟨hargs, ⟨hP, hK⟩, hE⟩ := hv
  have hx := B.exec
  have hb := B.bytes
  have hr := B.returns
  have hts := atoms_spec (ws := wsL_lifts) B.pre
  have hown : s.vm.findClass RL = some m.cls := findClass_of_methodNamed B.named
  have hlocks := B.notSynchronized
  have htab := vx_table (x := yL_lifts) B (hts (.codeWith yL_lifts cL_lifts 4 (some .int) [(0, 9, 12, 21)]) (by decide +kernel))
  have hl := lv_entry ([.ref (ad 0 (0)), .int (iI (t)), .ref (ad 15 (0))]) (n := 4) (Nat.le_of_ble_eq_true rfl)
  have hent : entryFrame m args 4 = entryFrame m ([.ref (ad 0 (0)), .int (iI (t)), .ref (ad 15 (0))] : List Value).toArray 4 := by rw [hargs]
  rw [hent, lg_entry_eq]
  generalize (lg_sl ([.ref (ad 0 (0)), .int (iI (t)), .ref (ad 15 (0))]) ++ List.replicate (4 - (lg_sl ([.ref (ad 0 (0)), .int (iI (t)), .ref (ad 15 (0))])).length) Slot.unset).toArray = ls at hl ⊢
  have hl : lv_has ls 4 [(0, .ref (ad 0 (0))), (1, .int (iI (t))), (2, .ref (ad 15 (0)))] := hl
  generalize hQ : vx_MQ below (fw_Qi D vwCl z ad (po_L_lifts cA ad σ μ f t)) (fun _ _ _ => False) args s 1 6 (fw_A z) = Q
  generalize hH : s.heap = H at hP ⊢
  have hS : va_S (fw_A z) s.heap H [] := by rw [← hH]; exact va_S.rf
  generalize ([] : List Loc) = locs at hS ⊢
  refine lv_aload_n hx hb dL_lifts_0 rfl (lv_at hl 2 rfl) ?_
  refine lv_iconst (v := iI ((0 : Nat) : Int)) hx hb dL_lifts_1 (by decide) ?_
  refine lv_aload_n hx hb dL_lifts_2 rfl (lv_at hl 0 rfl) ?_
  refine lv_iload_n hx hb dL_lifts_3 rfl (lv_at hl 1 rfl) ?_
  refine fx_cVi (As := [.int (iI (t))]) (rest := [.int (iI ((0 : Nat) : Int)), .ref (ad 15 (0))]) ⟨hx, hb, hml, hown, hts⟩ (c_X2_lifts l hl0 D cA z ad sa σ μ ((t)) hI ⟨by omega, by omega⟩) (cwV 1 hts gL_lifts_X2_lifts rfl rfl rfl (by decide +kernel) ⟨Nat.le_of_ble_eq_true rfl, Nat.le_of_ble_eq_true rfl⟩) WC_0 rfl rfl hl.1 (Nat.le_of_ble_eq_true rfl) dL_lifts_4 ⟨Nat.le_of_ble_eq_true rfl, Nat.le_of_ble_eq_true rfl⟩ hK hE hP hS rfl (fun E ce q9 w' H locs q_1 hP hS hcell hcv hcl => ?_) (fun r w' H locs q_1 hP hS => ?_)
  · obtain ⟨rfl, hbad0, rfl⟩ := q_1
    refine vx_catch (name := tx_IO) hown [] ({ startPc := 0, endPc := 9, handlerPc := 12, catchType := 21 } : ExceptionTableEntry) [] (htab.trans rfl) (fun _ h => nomatch h) (by decide) (by decide) (hts (.classLink RL 21 tx_IO) (by decide +kernel)) (va_any rfl (hE.1 _ (by decide))) hcell hcv hcl ?_
    refine lv_astore_n (lv' := [(3, .ref q9), (0, .ref (ad 0 (0))), (1, .int (iI (t))), (2, .ref (ad 15 (0)))]) hx hb dL_lifts_12 rfl hl (by decide) rfl (fun ls hl => ?_)
    refine lv_iconst (v := iI ((1 : Nat) : Int)) hx hb dL_lifts_13 (by decide) ?_
    subst hQ
    refine vx_ret (W.widen (k := 1) (n := 6) (Nat.le_of_ble_eq_true rfl) (Nat.le_of_ble_eq_true rfl) ?_)
    exact fw_iret hx hb hr hlocks dL_lifts_14 hP hS (Or.inr ⟨hbad0, rfl, rfl⟩)
  · obtain ⟨hok, rfl, rfl⟩ := q_1
    refine lv_i2l (v := (iI (((lifAt σ (Int.toNat t) : Nat) : Int))).toInt64) hx hb dL_lifts_7 rfl ?_
    refine fw_lastN (j := 0) (x := (iI (((lifAt σ (Int.toNat t) : Nat) : Int))).toInt64) hx hb hK hP hS ((WC_r (by decide)).trans hout) 4 rfl (by decide) (by decide) dL_lifts_8 (fun H locs hP hS => ?_)
    rw [WC_out] at hP
    have hP : fw_P D vwCl z ad (WC cA ad σ (oU cA μ f ((iI (((lifAt σ (Int.toNat t) : Nat) : Int))).toInt64))) H := hP
    refine lv_goto (tgt := 15) hx hb dL_lifts_9 (by decide) ?_
    refine lv_iconst (v := iI ((0 : Nat) : Int)) hx hb dL_lifts_15 (by decide) ?_
    subst hQ
    refine vx_ret (W.widen (k := 1) (n := 6) (Nat.le_of_ble_eq_true rfl) (Nat.le_of_ble_eq_true rfl) ?_)
    exact fw_iret hx hb hr hlocks dL_lifts_16 hP hS (Or.inl ⟨by omega, rfl, rfl⟩)

abbrev rm_L_choices : Room := { frames := 7, cells := 1, slots := 6, locals := 118 }
abbrev po_L_choices (cA : Nat → ClassId) (ad : fw_Ad) (σ : St) (μ : fw_W) (f : Nat → Int64) (x : Int) : Int32 → fw_W → Prop := fun r w' => ((0 ≤ x ∧ x < ((σ 8 0 : Nat) : Int)) ∧ r = iI 0 ∧ w' = WC cA ad σ (oU cA μ f ((iI ((choices σ (Int.toNat x) : Nat) : Int)).toInt64))) ∨ (¬ (0 ≤ x ∧ x < ((σ 8 0 : Nat) : Int)) ∧ r = iI 1 ∧ w' = WC cA ad σ μ)
set_option maxHeartbeats 4000000 in
set_option maxRecDepth 100000 in
theorem c_L_choices (l : Launch) (hl0 : l.stackTraces = false) (D : va_G) (cA : Nat → ClassId) (z : Nat) (ad : fw_Ad) (sa : Nat → Nat) (σ : St) (μ : fw_W) (f : Nat → Int64) (x : Int) (hI : Inv σ) (hout : μ 15 0 = some (.inl (cA 4, 1, .inr (.inl f)))) (hx0 : -2147483648 ≤ x ∧ x ≤ 2147483647) : vx_Met l yL_choices wsL_choices rm_L_choices (va_Pc [.ref (ad 0 (0)), .int (iI (x)), .ref (ad 15 (0))] (fx_Pre D vwCl (fw_T cA) z ad (WC cA ad σ μ) sa)) (fw_Qi D vwCl z ad (po_L_choices cA ad σ μ f x)) (fun _ _ _ => False) 1 6 (fw_A z) := by
  refine vx_ofWH (cc := cL_choices) (maxL := 4) (ret := (some .int)) (hh := [(0, 9, 12, 21)]) (by decide) rfl ?_
  intro pg en s m args below meth cd s₁ B hml hv
  obtain ⟨hargs, ⟨hP, hK⟩, hE⟩ := hv
  have hx := B.exec
  have hb := B.bytes
  have hr := B.returns
  have hts := atoms_spec (ws := wsL_choices) B.pre
  have hown : s.vm.findClass RL = some m.cls := findClass_of_methodNamed B.named
  have hlocks := B.notSynchronized
  have htab := vx_table (x := yL_choices) B (hts (.codeWith yL_choices cL_choices 4 (some .int) [(0, 9, 12, 21)]) (by decide +kernel))
  have hl := lv_entry ([.ref (ad 0 (0)), .int (iI (x)), .ref (ad 15 (0))]) (n := 4) (Nat.le_of_ble_eq_true rfl)
  have hent : entryFrame m args 4 = entryFrame m ([.ref (ad 0 (0)), .int (iI (x)), .ref (ad 15 (0))] : List Value).toArray 4 := by rw [hargs]
  rw [hent, lg_entry_eq]
  generalize (lg_sl ([.ref (ad 0 (0)), .int (iI (x)), .ref (ad 15 (0))]) ++ List.replicate (4 - (lg_sl ([.ref (ad 0 (0)), .int (iI (x)), .ref (ad 15 (0))])).length) Slot.unset).toArray = ls at hl ⊢
  have hl : lv_has ls 4 [(0, .ref (ad 0 (0))), (1, .int (iI (x))), (2, .ref (ad 15 (0)))] := hl
  generalize hQ : vx_MQ below (fw_Qi D vwCl z ad (po_L_choices cA ad σ μ f x)) (fun _ _ _ => False) args s 1 6 (fw_A z) = Q
  generalize hH : s.heap = H at hP ⊢
  have hS : va_S (fw_A z) s.heap H [] := by rw [← hH]; exact va_S.rf
  generalize ([] : List Loc) = locs at hS ⊢
  refine lv_aload_n hx hb dL_choices_0 rfl (lv_at hl 2 rfl) ?_
  refine lv_iconst (v := iI ((0 : Nat) : Int)) hx hb dL_choices_1 (by decide) ?_
  refine lv_aload_n hx hb dL_choices_2 rfl (lv_at hl 0 rfl) ?_
  refine lv_iload_n hx hb dL_choices_3 rfl (lv_at hl 1 rfl) ?_
  refine fx_cVi (As := [.int (iI (x))]) (rest := [.int (iI ((0 : Nat) : Int)), .ref (ad 15 (0))]) ⟨hx, hb, hml, hown, hts⟩ (c_X2_choices l hl0 D cA z ad sa σ μ ((x)) hI ⟨by omega, by omega⟩) (cwV 1 hts gL_choices_X2_choices rfl rfl rfl (by decide +kernel) ⟨Nat.le_of_ble_eq_true rfl, Nat.le_of_ble_eq_true rfl⟩) WC_0 rfl rfl hl.1 (Nat.le_of_ble_eq_true rfl) dL_choices_4 ⟨Nat.le_of_ble_eq_true rfl, Nat.le_of_ble_eq_true rfl⟩ hK hE hP hS rfl (fun E ce q9 w' H locs q_1 hP hS hcell hcv hcl => ?_) (fun r w' H locs q_1 hP hS => ?_)
  · obtain ⟨rfl, hbad0, rfl⟩ := q_1
    refine vx_catch (name := tx_IO) hown [] ({ startPc := 0, endPc := 9, handlerPc := 12, catchType := 21 } : ExceptionTableEntry) [] (htab.trans rfl) (fun _ h => nomatch h) (by decide) (by decide) (hts (.classLink RL 21 tx_IO) (by decide +kernel)) (va_any rfl (hE.1 _ (by decide))) hcell hcv hcl ?_
    refine lv_astore_n (lv' := [(3, .ref q9), (0, .ref (ad 0 (0))), (1, .int (iI (x))), (2, .ref (ad 15 (0)))]) hx hb dL_choices_12 rfl hl (by decide) rfl (fun ls hl => ?_)
    refine lv_iconst (v := iI ((1 : Nat) : Int)) hx hb dL_choices_13 (by decide) ?_
    subst hQ
    refine vx_ret (W.widen (k := 1) (n := 6) (Nat.le_of_ble_eq_true rfl) (Nat.le_of_ble_eq_true rfl) ?_)
    exact fw_iret hx hb hr hlocks dL_choices_14 hP hS (Or.inr ⟨hbad0, rfl, rfl⟩)
  · obtain ⟨hok, rfl, rfl⟩ := q_1
    refine lv_i2l (v := (iI (((choices σ (Int.toNat x) : Nat) : Int))).toInt64) hx hb dL_choices_7 rfl ?_
    refine fw_lastN (j := 0) (x := (iI (((choices σ (Int.toNat x) : Nat) : Int))).toInt64) hx hb hK hP hS ((WC_r (by decide)).trans hout) 4 rfl (by decide) (by decide) dL_choices_8 (fun H locs hP hS => ?_)
    rw [WC_out] at hP
    have hP : fw_P D vwCl z ad (WC cA ad σ (oU cA μ f ((iI (((choices σ (Int.toNat x) : Nat) : Int))).toInt64))) H := hP
    refine lv_goto (tgt := 15) hx hb dL_choices_9 (by decide) ?_
    refine lv_iconst (v := iI ((0 : Nat) : Int)) hx hb dL_choices_15 (by decide) ?_
    subst hQ
    refine vx_ret (W.widen (k := 1) (n := 6) (Nat.le_of_ble_eq_true rfl) (Nat.le_of_ble_eq_true rfl) ?_)
    exact fw_iret hx hb hr hlocks dL_choices_16 hP hS (Or.inl ⟨by omega, rfl, rfl⟩)

abbrev rm_L_setLimits : Room := { frames := 7, cells := 1, slots := 6, locals := 106 }
abbrev po_L_setLimits (cA : Nat → ClassId) (ad : fw_Ad) (σ : St) (μ : fw_W) (f : Nat → Int64) (x y v : Int) : Int32 → fw_W → Prop := fun r w' => (((1 ≤ x ∧ x ≤ 120) ∧ (0 ≤ y ∧ y ≤ 1000) ∧ 0 ≤ v ∧ v ≤ 1000) ∧ r = iI 0 ∧ w' = WC cA ad (limS σ (Int.toNat x) (Int.toNat y) (Int.toNat v)) (oU cA μ f ((iI ((σ 8 1 : Nat) : Int)).toInt64))) ∨ (¬ ((1 ≤ x ∧ x ≤ 120) ∧ (0 ≤ y ∧ y ≤ 1000) ∧ 0 ≤ v ∧ v ≤ 1000) ∧ r = iI 1 ∧ w' = WC cA ad σ μ)
set_option maxHeartbeats 4000000 in
set_option maxRecDepth 100000 in
theorem c_L_setLimits (l : Launch) (hl0 : l.stackTraces = false) (D : va_G) (cA : Nat → ClassId) (z : Nat) (ad : fw_Ad) (sa : Nat → Nat) (σ : St) (μ : fw_W) (f : Nat → Int64) (x y v : Int) (hI : Inv σ) (hout : μ 15 0 = some (.inl (cA 4, 1, .inr (.inl f)))) (hx0 : -2147483648 ≤ x ∧ x ≤ 2147483647) (hy0 : -2147483648 ≤ y ∧ y ≤ 2147483647) (hv0 : -2147483648 ≤ v ∧ v ≤ 2147483647) : vx_Met l yL_setLimits wsL_setLimits rm_L_setLimits (va_Pc [.ref (ad 0 (0)), .int (iI (x)), .int (iI (y)), .int (iI (v)), .ref (ad 15 (0))] (fx_Pre D vwCl (fw_T cA) z ad (WC cA ad σ μ) sa)) (fw_Qi D vwCl z ad (po_L_setLimits cA ad σ μ f x y v)) (fun _ _ _ => False) 1 6 (fw_A z) := by
  refine vx_ofWH (cc := cL_setLimits) (maxL := 6) (ret := (some .int)) (hh := [(0, 12, 15, 13)]) (by decide) rfl ?_
  intro pg en s m args below meth cd s₁ B hml hv
  obtain ⟨hargs, ⟨hP, hK⟩, hE⟩ := hv
  have hx := B.exec
  have hb := B.bytes
  have hr := B.returns
  have hts := atoms_spec (ws := wsL_setLimits) B.pre
  have hown : s.vm.findClass RL = some m.cls := findClass_of_methodNamed B.named
  have hlocks := B.notSynchronized
  have htab := vx_table (x := yL_setLimits) B (hts (.codeWith yL_setLimits cL_setLimits 6 (some .int) [(0, 12, 15, 13)]) (by decide +kernel))
  have hl := lv_entry ([.ref (ad 0 (0)), .int (iI (x)), .int (iI (y)), .int (iI (v)), .ref (ad 15 (0))]) (n := 6) (Nat.le_of_ble_eq_true rfl)
  have hent : entryFrame m args 6 = entryFrame m ([.ref (ad 0 (0)), .int (iI (x)), .int (iI (y)), .int (iI (v)), .ref (ad 15 (0))] : List Value).toArray 6 := by rw [hargs]
  rw [hent, lg_entry_eq]
  generalize (lg_sl ([.ref (ad 0 (0)), .int (iI (x)), .int (iI (y)), .int (iI (v)), .ref (ad 15 (0))]) ++ List.replicate (6 - (lg_sl ([.ref (ad 0 (0)), .int (iI (x)), .int (iI (y)), .int (iI (v)), .ref (ad 15 (0))])).length) Slot.unset).toArray = ls at hl ⊢
  have hl : lv_has ls 6 [(0, .ref (ad 0 (0))), (1, .int (iI (x))), (2, .int (iI (y))), (3, .int (iI (v))), (4, .ref (ad 15 (0)))] := hl
  generalize hQ : vx_MQ below (fw_Qi D vwCl z ad (po_L_setLimits cA ad σ μ f x y v)) (fun _ _ _ => False) args s 1 6 (fw_A z) = Q
  generalize hH : s.heap = H at hP ⊢
  have hS : va_S (fw_A z) s.heap H [] := by rw [← hH]; exact va_S.rf
  generalize ([] : List Loc) = locs at hS ⊢
  refine lv_aload hx hb dL_setLimits_0 (lv_at hl 4 rfl) ?_
  refine lv_iconst (v := iI ((0 : Nat) : Int)) hx hb dL_setLimits_2 (by decide) ?_
  refine lv_aload_n hx hb dL_setLimits_3 rfl (lv_at hl 0 rfl) ?_
  refine lv_iload_n hx hb dL_setLimits_4 rfl (lv_at hl 1 rfl) ?_
  refine lv_iload_n hx hb dL_setLimits_5 rfl (lv_at hl 2 rfl) ?_
  refine lv_iload_n hx hb dL_setLimits_6 rfl (lv_at hl 3 rfl) ?_
  refine fx_cVi (As := [.int (iI (x)), .int (iI (y)), .int (iI (v))]) (rest := [.int (iI ((0 : Nat) : Int)), .ref (ad 15 (0))]) ⟨hx, hb, hml, hown, hts⟩ (c_X2_setLimits l hl0 D cA z ad sa σ μ ((x)) ((y)) ((v)) hI ⟨by omega, by omega⟩ ⟨by omega, by omega⟩ ⟨by omega, by omega⟩) (cwV 3 hts gL_setLimits_X2_setLimits rfl rfl rfl (by decide +kernel) ⟨Nat.le_of_ble_eq_true rfl, Nat.le_of_ble_eq_true rfl⟩) WC_0 rfl rfl hl.1 (Nat.le_of_ble_eq_true rfl) dL_setLimits_7 ⟨Nat.le_of_ble_eq_true rfl, Nat.le_of_ble_eq_true rfl⟩ hK hE hP hS rfl (fun E ce q9 w' H locs q_1 hP hS hcell hcv hcl => ?_) (fun r w' H locs q_1 hP hS => ?_)
  · obtain ⟨rfl, hbad0, rfl⟩ := q_1
    refine vx_catch (name := tx_IA) hown [] ({ startPc := 0, endPc := 12, handlerPc := 15, catchType := 13 } : ExceptionTableEntry) [] (htab.trans rfl) (fun _ h => nomatch h) (by decide) (by decide) (hts (.classLink RL 13 tx_IA) (by decide +kernel)) (va_any rfl (hE.1 _ (by decide))) hcell hcv hcl ?_
    refine lv_astore (lv' := [(5, .ref q9), (0, .ref (ad 0 (0))), (1, .int (iI (x))), (2, .int (iI (y))), (3, .int (iI (v))), (4, .ref (ad 15 (0)))]) hx hb dL_setLimits_15 hl (by decide) rfl (fun ls hl => ?_)
    refine lv_iconst (v := iI ((1 : Nat) : Int)) hx hb dL_setLimits_17 (by decide) ?_
    subst hQ
    refine vx_ret (W.widen (k := 1) (n := 6) (Nat.le_of_ble_eq_true rfl) (Nat.le_of_ble_eq_true rfl) ?_)
    exact fw_iret hx hb hr hlocks dL_setLimits_18 hP hS (Or.inr ⟨hbad0, rfl, rfl⟩)
  · obtain ⟨hok, rfl, rfl⟩ := q_1
    refine lv_i2l (v := (iI (((σ 8 1 : Nat) : Int))).toInt64) hx hb dL_setLimits_10 rfl ?_
    refine fw_lastN (j := 0) (x := (iI (((σ 8 1 : Nat) : Int))).toInt64) hx hb hK hP hS ((WC_r (by decide)).trans hout) 4 rfl (by decide) (by decide) dL_setLimits_11 (fun H locs hP hS => ?_)
    rw [WC_out] at hP
    have hP : fw_P D vwCl z ad (WC cA ad (limS σ (Int.toNat x) (Int.toNat y) (Int.toNat v)) (oU cA μ f ((iI (((σ 8 1 : Nat) : Int))).toInt64))) H := hP
    refine lv_goto (tgt := 19) hx hb dL_setLimits_12 (by decide) ?_
    refine lv_iconst (v := iI ((0 : Nat) : Int)) hx hb dL_setLimits_19 (by decide) ?_
    subst hQ
    refine vx_ret (W.widen (k := 1) (n := 6) (Nat.le_of_ble_eq_true rfl) (Nat.le_of_ble_eq_true rfl) ?_)
    exact fw_iret hx hb hr hlocks dL_setLimits_20 hP hS (Or.inl ⟨by omega, rfl, rfl⟩)

abbrev rm_L_sail : Room := { frames := 7, cells := 1, slots := 6, locals := 107 }
abbrev po_L_sail (cA : Nat → ClassId) (ad : fw_Ad) (σ : St) (μ : fw_W) (f : Nat → Int64) : Int32 → fw_W → Prop := fun r w' => ((σ 8 4 < 5 ∧ steady σ) ∧ r = iI 0 ∧ w' = WC cA ad (sailS σ) (oU cA μ f ((iI ((lifAt (ptS σ) (σ 8 4 + 1) : Nat) : Int)).toInt64))) ∨ (¬ (σ 8 4 < 5 ∧ steady σ) ∧ r = iI 1 ∧ w' = WC cA ad σ μ)
set_option maxHeartbeats 4000000 in
set_option maxRecDepth 100000 in
theorem c_L_sail (l : Launch) (hl0 : l.stackTraces = false) (D : va_G) (cA : Nat → ClassId) (z : Nat) (ad : fw_Ad) (sa : Nat → Nat) (σ : St) (μ : fw_W) (f : Nat → Int64) (hI : Inv σ) (hout : μ 15 0 = some (.inl (cA 4, 1, .inr (.inl f))))  : vx_Met l yL_sail wsL_sail rm_L_sail (va_Pc [.ref (ad 0 (0)), .ref (ad 15 (0))] (fx_Pre D vwCl (fw_T cA) z ad (WC cA ad σ μ) sa)) (fw_Qi D vwCl z ad (po_L_sail cA ad σ μ f)) (fun _ _ _ => False) 1 6 (fw_A z) := by
  refine vx_ofWH (cc := cL_sail) (maxL := 3) (ret := (some .int)) (hh := [(0, 8, 11, 15)]) (by decide) rfl ?_
  intro pg en s m args below meth cd s₁ B hml hv
  obtain ⟨hargs, ⟨hP, hK⟩, hE⟩ := hv
  have hx := B.exec
  have hb := B.bytes
  have hr := B.returns
  have hts := atoms_spec (ws := wsL_sail) B.pre
  have hown : s.vm.findClass RL = some m.cls := findClass_of_methodNamed B.named
  have hlocks := B.notSynchronized
  have htab := vx_table (x := yL_sail) B (hts (.codeWith yL_sail cL_sail 3 (some .int) [(0, 8, 11, 15)]) (by decide +kernel))
  have hl := lv_entry ([.ref (ad 0 (0)), .ref (ad 15 (0))]) (n := 3) (Nat.le_of_ble_eq_true rfl)
  have hent : entryFrame m args 3 = entryFrame m ([.ref (ad 0 (0)), .ref (ad 15 (0))] : List Value).toArray 3 := by rw [hargs]
  rw [hent, lg_entry_eq]
  generalize (lg_sl ([.ref (ad 0 (0)), .ref (ad 15 (0))]) ++ List.replicate (3 - (lg_sl ([.ref (ad 0 (0)), .ref (ad 15 (0))])).length) Slot.unset).toArray = ls at hl ⊢
  have hl : lv_has ls 3 [(0, .ref (ad 0 (0))), (1, .ref (ad 15 (0)))] := hl
  generalize hQ : vx_MQ below (fw_Qi D vwCl z ad (po_L_sail cA ad σ μ f)) (fun _ _ _ => False) args s 1 6 (fw_A z) = Q
  generalize hH : s.heap = H at hP ⊢
  have hS : va_S (fw_A z) s.heap H [] := by rw [← hH]; exact va_S.rf
  generalize ([] : List Loc) = locs at hS ⊢
  refine lv_aload_n hx hb dL_sail_0 rfl (lv_at hl 1 rfl) ?_
  refine lv_iconst (v := iI ((0 : Nat) : Int)) hx hb dL_sail_1 (by decide) ?_
  refine lv_aload_n hx hb dL_sail_2 rfl (lv_at hl 0 rfl) ?_
  refine fx_cVi (As := []) (rest := [.int (iI ((0 : Nat) : Int)), .ref (ad 15 (0))]) ⟨hx, hb, hml, hown, hts⟩ (c_X2_sail l hl0 D cA z ad sa σ μ  hI ) (cwV 0 hts gL_sail_X2_sail rfl rfl rfl (by decide +kernel) ⟨Nat.le_of_ble_eq_true rfl, Nat.le_of_ble_eq_true rfl⟩) WC_0 rfl rfl hl.1 (Nat.le_of_ble_eq_true rfl) dL_sail_3 ⟨Nat.le_of_ble_eq_true rfl, Nat.le_of_ble_eq_true rfl⟩ hK hE hP hS rfl (fun E ce q9 w' H locs q_1 hP hS hcell hcv hcl => ?_) (fun r w' H locs q_1 hP hS => ?_)
  · obtain ⟨rfl, hbad0, rfl⟩ := q_1
    refine vx_catch (name := tx_IS) hown [] ({ startPc := 0, endPc := 8, handlerPc := 11, catchType := 15 } : ExceptionTableEntry) [] (htab.trans rfl) (fun _ h => nomatch h) (by decide) (by decide) (hts (.classLink RL 15 tx_IS) (by decide +kernel)) (va_any rfl (hE.1 _ (by decide))) hcell hcv hcl ?_
    refine lv_astore_n (lv' := [(2, .ref q9), (0, .ref (ad 0 (0))), (1, .ref (ad 15 (0)))]) hx hb dL_sail_11 rfl hl (by decide) rfl (fun ls hl => ?_)
    refine lv_iconst (v := iI ((1 : Nat) : Int)) hx hb dL_sail_12 (by decide) ?_
    subst hQ
    refine vx_ret (W.widen (k := 1) (n := 6) (Nat.le_of_ble_eq_true rfl) (Nat.le_of_ble_eq_true rfl) ?_)
    exact fw_iret hx hb hr hlocks dL_sail_13 hP hS (Or.inr ⟨hbad0, rfl, rfl⟩)
  · obtain ⟨hok, rfl, rfl⟩ := q_1
    refine lv_i2l (v := (iI (((lifAt (ptS σ) (σ 8 4 + 1) : Nat) : Int))).toInt64) hx hb dL_sail_6 rfl ?_
    refine fw_lastN (j := 0) (x := (iI (((lifAt (ptS σ) (σ 8 4 + 1) : Nat) : Int))).toInt64) hx hb hK hP hS ((WC_r (by decide)).trans hout) 4 rfl (by decide) (by decide) dL_sail_7 (fun H locs hP hS => ?_)
    rw [WC_out] at hP
    have hP : fw_P D vwCl z ad (WC cA ad (sailS σ) (oU cA μ f ((iI (((lifAt (ptS σ) (σ 8 4 + 1) : Nat) : Int))).toInt64))) H := hP
    refine lv_goto (tgt := 14) hx hb dL_sail_8 (by decide) ?_
    refine lv_iconst (v := iI ((0 : Nat) : Int)) hx hb dL_sail_14 (by decide) ?_
    subst hQ
    refine vx_ret (W.widen (k := 1) (n := 6) (Nat.le_of_ble_eq_true rfl) (Nat.le_of_ble_eq_true rfl) ?_)
    exact fw_iret hx hb hr hlocks dL_sail_15 hP hS (Or.inl ⟨hok, rfl, rfl⟩)

abbrev rm_L_load : Room := { frames := 7, cells := 1, slots := 6, locals := 116 }
abbrev po_L_load (cA : Nat → ClassId) (ad : fw_Ad) (σ : St) (μ : fw_W) (f : Nat → Int64) (x b q : Int) : Int32 → fw_W → Prop := fun r w' => (((0 ≤ x ∧ x < ((σ 8 0 : Nat) : Int)) ∧ ((0 ≤ b ∧ b ≤ 5) ∧ 0 ≤ q ∧ q ≤ 4)) ∧ allowed σ (Int.toNat x) (5 * Int.toNat b + Int.toNat q) ∧ r = iI 0 ∧ w' = WC cA ad (putS σ (Int.toNat x) (5 * Int.toNat b + Int.toNat q)) (oU cA μ f ((iI ((high σ (5 * Int.toNat b + Int.toNat q) : Nat) : Int)).toInt64))) ∨ ((¬ ((0 ≤ x ∧ x < ((σ 8 0 : Nat) : Int)) ∧ ((0 ≤ b ∧ b ≤ 5) ∧ 0 ≤ q ∧ q ≤ 4)) ∧ r = iI 1 ∧ w' = WC cA ad σ μ) ∨ (((0 ≤ x ∧ x < ((σ 8 0 : Nat) : Int)) ∧ ((0 ≤ b ∧ b ≤ 5) ∧ 0 ≤ q ∧ q ≤ 4)) ∧ ¬ allowed σ (Int.toNat x) (5 * Int.toNat b + Int.toNat q) ∧ r = iI 2 ∧ w' = WC cA ad σ μ))
set_option maxHeartbeats 4000000 in
set_option maxRecDepth 100000 in
theorem c_L_load (l : Launch) (hl0 : l.stackTraces = false) (D : va_G) (cA : Nat → ClassId) (z : Nat) (ad : fw_Ad) (sa : Nat → Nat) (σ : St) (μ : fw_W) (f : Nat → Int64) (x b q : Int) (hI : Inv σ) (hout : μ 15 0 = some (.inl (cA 4, 1, .inr (.inl f)))) (hx0 : -2147483648 ≤ x ∧ x ≤ 2147483647) (hb0 : -2147483648 ≤ b ∧ b ≤ 2147483647) (hq0 : -2147483648 ≤ q ∧ q ≤ 2147483647) : vx_Met l yL_load wsL_load rm_L_load (va_Pc [.ref (ad 0 (0)), .int (iI (x)), .int (iI (b)), .int (iI (q)), .ref (ad 15 (0))] (fx_Pre D vwCl (fw_T cA) z ad (WC cA ad σ μ) sa)) (fw_Qi D vwCl z ad (po_L_load cA ad σ μ f x b q)) (fun _ _ _ => False) 1 6 (fw_A z) := by
  refine vx_ofWH (cc := cL_load) (maxL := 6) (ret := (some .int)) (hh := [(0, 12, 15, 21), (0, 12, 19, 15)]) (by decide) rfl ?_
  intro pg en s m args below meth cd s₁ B hml hv
  obtain ⟨hargs, ⟨hP, hK⟩, hE⟩ := hv
  have hx := B.exec
  have hb := B.bytes
  have hr := B.returns
  have hts := atoms_spec (ws := wsL_load) B.pre
  have hown : s.vm.findClass RL = some m.cls := findClass_of_methodNamed B.named
  have hlocks := B.notSynchronized
  have htab := vx_table (x := yL_load) B (hts (.codeWith yL_load cL_load 6 (some .int) [(0, 12, 15, 21), (0, 12, 19, 15)]) (by decide +kernel))
  have hl := lv_entry ([.ref (ad 0 (0)), .int (iI (x)), .int (iI (b)), .int (iI (q)), .ref (ad 15 (0))]) (n := 6) (Nat.le_of_ble_eq_true rfl)
  have hent : entryFrame m args 6 = entryFrame m ([.ref (ad 0 (0)), .int (iI (x)), .int (iI (b)), .int (iI (q)), .ref (ad 15 (0))] : List Value).toArray 6 := by rw [hargs]
  rw [hent, lg_entry_eq]
  generalize (lg_sl ([.ref (ad 0 (0)), .int (iI (x)), .int (iI (b)), .int (iI (q)), .ref (ad 15 (0))]) ++ List.replicate (6 - (lg_sl ([.ref (ad 0 (0)), .int (iI (x)), .int (iI (b)), .int (iI (q)), .ref (ad 15 (0))])).length) Slot.unset).toArray = ls at hl ⊢
  have hl : lv_has ls 6 [(0, .ref (ad 0 (0))), (1, .int (iI (x))), (2, .int (iI (b))), (3, .int (iI (q))), (4, .ref (ad 15 (0)))] := hl
  generalize hQ : vx_MQ below (fw_Qi D vwCl z ad (po_L_load cA ad σ μ f x b q)) (fun _ _ _ => False) args s 1 6 (fw_A z) = Q
  generalize hH : s.heap = H at hP ⊢
  have hS : va_S (fw_A z) s.heap H [] := by rw [← hH]; exact va_S.rf
  generalize ([] : List Loc) = locs at hS ⊢
  refine lv_aload hx hb dL_load_0 (lv_at hl 4 rfl) ?_
  refine lv_iconst (v := iI ((0 : Nat) : Int)) hx hb dL_load_2 (by decide) ?_
  refine lv_aload_n hx hb dL_load_3 rfl (lv_at hl 0 rfl) ?_
  refine lv_iload_n hx hb dL_load_4 rfl (lv_at hl 1 rfl) ?_
  refine lv_iload_n hx hb dL_load_5 rfl (lv_at hl 2 rfl) ?_
  refine lv_iload_n hx hb dL_load_6 rfl (lv_at hl 3 rfl) ?_
  refine fx_cVi (As := [.int (iI (x)), .int (iI (b)), .int (iI (q))]) (rest := [.int (iI ((0 : Nat) : Int)), .ref (ad 15 (0))]) ⟨hx, hb, hml, hown, hts⟩ (c_X2_load l hl0 D cA z ad sa σ μ ((x)) ((b)) ((q)) hI ⟨by omega, by omega⟩ ⟨by omega, by omega⟩ ⟨by omega, by omega⟩) (cwV 3 hts gL_load_X2_load rfl rfl rfl (by decide +kernel) ⟨Nat.le_of_ble_eq_true rfl, Nat.le_of_ble_eq_true rfl⟩) WC_0 rfl rfl hl.1 (Nat.le_of_ble_eq_true rfl) dL_load_7 ⟨Nat.le_of_ble_eq_true rfl, Nat.le_of_ble_eq_true rfl⟩ hK hE hP hS rfl (fun E ce q9 w' H locs q_1 hP hS hcell hcv hcl => ?_) (fun r w' H locs q_1 hP hS => ?_)
  · obtain ⟨⟨rfl, hbad0⟩ | ⟨rfl, hbad0, hbad1⟩, rfl⟩ := q_1
    · refine vx_catch (name := tx_IO) hown [] ({ startPc := 0, endPc := 12, handlerPc := 15, catchType := 21 } : ExceptionTableEntry) [({ startPc := 0, endPc := 12, handlerPc := 19, catchType := 15 } : ExceptionTableEntry)] (htab.trans rfl) (fun _ h => nomatch h) (by decide) (by decide) (hts (.classLink RL 21 tx_IO) (by decide +kernel)) (va_any rfl (hE.1 _ (by decide))) hcell hcv hcl ?_
      refine lv_astore (lv' := [(5, .ref q9), (0, .ref (ad 0 (0))), (1, .int (iI (x))), (2, .int (iI (b))), (3, .int (iI (q))), (4, .ref (ad 15 (0)))]) hx hb dL_load_15 hl (by decide) rfl (fun ls hl => ?_)
      refine lv_iconst (v := iI ((1 : Nat) : Int)) hx hb dL_load_17 (by decide) ?_
      subst hQ
      refine vx_ret (W.widen (k := 1) (n := 6) (Nat.le_of_ble_eq_true rfl) (Nat.le_of_ble_eq_true rfl) ?_)
      exact fw_iret hx hb hr hlocks dL_load_18 hP hS (Or.inr (Or.inl ⟨hbad0, rfl, rfl⟩))
    · refine vx_catch (name := tx_IS) hown [({ startPc := 0, endPc := 12, handlerPc := 15, catchType := 21 } : ExceptionTableEntry)] ({ startPc := 0, endPc := 12, handlerPc := 19, catchType := 15 } : ExceptionTableEntry) [] (htab.trans rfl) (fun z hz => by rw [List.mem_singleton.mp hz]; exact Or.inr ⟨by decide, tx_IO, hts (.classLink RL 21 tx_IO) (by decide +kernel), hE.2.2.2.2.1⟩) (by decide) (by decide) (hts (.classLink RL 15 tx_IS) (by decide +kernel)) (va_any rfl (hE.1 _ (by decide))) hcell hcv hcl ?_
      refine lv_astore (lv' := [(5, .ref q9), (0, .ref (ad 0 (0))), (1, .int (iI (x))), (2, .int (iI (b))), (3, .int (iI (q))), (4, .ref (ad 15 (0)))]) hx hb dL_load_19 hl (by decide) rfl (fun ls hl => ?_)
      refine lv_iconst (v := iI ((2 : Nat) : Int)) hx hb dL_load_21 (by decide) ?_
      subst hQ
      refine vx_ret (W.widen (k := 1) (n := 6) (Nat.le_of_ble_eq_true rfl) (Nat.le_of_ble_eq_true rfl) ?_)
      exact fw_iret hx hb hr hlocks dL_load_22 hP hS (Or.inr (Or.inr ⟨hbad0, hbad1, rfl, rfl⟩))
  · obtain ⟨hok, hal, rfl, rfl⟩ := q_1
    refine lv_i2l (v := (iI (((high σ (5 * Int.toNat b + Int.toNat q) : Nat) : Int))).toInt64) hx hb dL_load_10 rfl ?_
    refine fw_lastN (j := 0) (x := (iI (((high σ (5 * Int.toNat b + Int.toNat q) : Nat) : Int))).toInt64) hx hb hK hP hS ((WC_r (by decide)).trans hout) 4 rfl (by decide) (by decide) dL_load_11 (fun H locs hP hS => ?_)
    rw [WC_out] at hP
    have hP : fw_P D vwCl z ad (WC cA ad (putS σ (Int.toNat x) (5 * Int.toNat b + Int.toNat q)) (oU cA μ f ((iI (((high σ (5 * Int.toNat b + Int.toNat q) : Nat) : Int))).toInt64))) H := hP
    refine lv_goto (tgt := 23) hx hb dL_load_12 (by decide) ?_
    refine lv_iconst (v := iI ((0 : Nat) : Int)) hx hb dL_load_23 (by decide) ?_
    subst hQ
    refine vx_ret (W.widen (k := 1) (n := 6) (Nat.le_of_ble_eq_true rfl) (Nat.le_of_ble_eq_true rfl) ?_)
    exact fw_iret hx hb hr hlocks dL_load_24 hP hS (Or.inl ⟨by omega, hal, rfl, rfl⟩)

abbrev rm_L_lift : Room := { frames := 7, cells := 1, slots := 6, locals := 106 }
abbrev po_L_lift (cA : Nat → ClassId) (ad : fw_Ad) (σ : St) (μ : fw_W) (f : Nat → Int64) (b q : Int) : Int32 → fw_W → Prop := fun r w' => (((0 ≤ b ∧ b ≤ 5) ∧ 0 ≤ q ∧ q ≤ 4) ∧ ∃ c, occ σ (5 * Int.toNat b + Int.toNat q) (high σ (5 * Int.toNat b + Int.toNat q) - 1) = some c ∧ σ 1 c = σ 8 4 ∧ r = iI 0 ∧ w' = WC cA ad (up σ 4 c 0) (oU cA μ f ((iI ((c : Nat) : Int)).toInt64))) ∨ ((¬ ((0 ≤ b ∧ b ≤ 5) ∧ 0 ≤ q ∧ q ≤ 4) ∧ r = iI 1 ∧ w' = WC cA ad σ μ) ∨ (((0 ≤ b ∧ b ≤ 5) ∧ 0 ≤ q ∧ q ≤ 4) ∧ ¬ liftOk σ (5 * Int.toNat b + Int.toNat q) ∧ r = iI 2 ∧ w' = WC cA ad σ μ))
set_option maxHeartbeats 4000000 in
set_option maxRecDepth 100000 in
theorem c_L_lift (l : Launch) (hl0 : l.stackTraces = false) (D : va_G) (cA : Nat → ClassId) (z : Nat) (ad : fw_Ad) (sa : Nat → Nat) (σ : St) (μ : fw_W) (f : Nat → Int64) (b q : Int) (hI : Inv σ) (hout : μ 15 0 = some (.inl (cA 4, 1, .inr (.inl f)))) (hb0 : -2147483648 ≤ b ∧ b ≤ 2147483647) (hq0 : -2147483648 ≤ q ∧ q ≤ 2147483647) : vx_Met l yL_lift wsL_lift rm_L_lift (va_Pc [.ref (ad 0 (0)), .int (iI (b)), .int (iI (q)), .ref (ad 15 (0))] (fx_Pre D vwCl (fw_T cA) z ad (WC cA ad σ μ) sa)) (fw_Qi D vwCl z ad (po_L_lift cA ad σ μ f b q)) (fun _ _ _ => False) 1 6 (fw_A z) := by
  refine vx_ofWH (cc := cL_lift) (maxL := 5) (ret := (some .int)) (hh := [(0, 10, 13, 21), (0, 10, 17, 15)]) (by decide) rfl ?_
  intro pg en s m args below meth cd s₁ B hml hv
  obtain ⟨hargs, ⟨hP, hK⟩, hE⟩ := hv
  have hx := B.exec
  have hb := B.bytes
  have hr := B.returns
  have hts := atoms_spec (ws := wsL_lift) B.pre
  have hown : s.vm.findClass RL = some m.cls := findClass_of_methodNamed B.named
  have hlocks := B.notSynchronized
  have htab := vx_table (x := yL_lift) B (hts (.codeWith yL_lift cL_lift 5 (some .int) [(0, 10, 13, 21), (0, 10, 17, 15)]) (by decide +kernel))
  have hl := lv_entry ([.ref (ad 0 (0)), .int (iI (b)), .int (iI (q)), .ref (ad 15 (0))]) (n := 5) (Nat.le_of_ble_eq_true rfl)
  have hent : entryFrame m args 5 = entryFrame m ([.ref (ad 0 (0)), .int (iI (b)), .int (iI (q)), .ref (ad 15 (0))] : List Value).toArray 5 := by rw [hargs]
  rw [hent, lg_entry_eq]
  generalize (lg_sl ([.ref (ad 0 (0)), .int (iI (b)), .int (iI (q)), .ref (ad 15 (0))]) ++ List.replicate (5 - (lg_sl ([.ref (ad 0 (0)), .int (iI (b)), .int (iI (q)), .ref (ad 15 (0))])).length) Slot.unset).toArray = ls at hl ⊢
  have hl : lv_has ls 5 [(0, .ref (ad 0 (0))), (1, .int (iI (b))), (2, .int (iI (q))), (3, .ref (ad 15 (0)))] := hl
  generalize hQ : vx_MQ below (fw_Qi D vwCl z ad (po_L_lift cA ad σ μ f b q)) (fun _ _ _ => False) args s 1 6 (fw_A z) = Q
  generalize hH : s.heap = H at hP ⊢
  have hS : va_S (fw_A z) s.heap H [] := by rw [← hH]; exact va_S.rf
  generalize ([] : List Loc) = locs at hS ⊢
  refine lv_aload_n hx hb dL_lift_0 rfl (lv_at hl 3 rfl) ?_
  refine lv_iconst (v := iI ((0 : Nat) : Int)) hx hb dL_lift_1 (by decide) ?_
  refine lv_aload_n hx hb dL_lift_2 rfl (lv_at hl 0 rfl) ?_
  refine lv_iload_n hx hb dL_lift_3 rfl (lv_at hl 1 rfl) ?_
  refine lv_iload_n hx hb dL_lift_4 rfl (lv_at hl 2 rfl) ?_
  refine fx_cVi (As := [.int (iI (b)), .int (iI (q))]) (rest := [.int (iI ((0 : Nat) : Int)), .ref (ad 15 (0))]) ⟨hx, hb, hml, hown, hts⟩ (c_X2_lift l hl0 D cA z ad sa σ μ ((b)) ((q)) hI ⟨by omega, by omega⟩ ⟨by omega, by omega⟩) (cwV 2 hts gL_lift_X2_lift rfl rfl rfl (by decide +kernel) ⟨Nat.le_of_ble_eq_true rfl, Nat.le_of_ble_eq_true rfl⟩) WC_0 rfl rfl hl.1 (Nat.le_of_ble_eq_true rfl) dL_lift_5 ⟨Nat.le_of_ble_eq_true rfl, Nat.le_of_ble_eq_true rfl⟩ hK hE hP hS rfl (fun E ce q9 w' H locs q_1 hP hS hcell hcv hcl => ?_) (fun r w' H locs q_1 hP hS => ?_)
  · obtain ⟨⟨rfl, hbad0⟩ | ⟨rfl, hbad0, hbad1⟩, rfl⟩ := q_1
    · refine vx_catch (name := tx_IO) hown [] ({ startPc := 0, endPc := 10, handlerPc := 13, catchType := 21 } : ExceptionTableEntry) [({ startPc := 0, endPc := 10, handlerPc := 17, catchType := 15 } : ExceptionTableEntry)] (htab.trans rfl) (fun _ h => nomatch h) (by decide) (by decide) (hts (.classLink RL 21 tx_IO) (by decide +kernel)) (va_any rfl (hE.1 _ (by decide))) hcell hcv hcl ?_
      refine lv_astore (lv' := [(4, .ref q9), (0, .ref (ad 0 (0))), (1, .int (iI (b))), (2, .int (iI (q))), (3, .ref (ad 15 (0)))]) hx hb dL_lift_13 hl (by decide) rfl (fun ls hl => ?_)
      refine lv_iconst (v := iI ((1 : Nat) : Int)) hx hb dL_lift_15 (by decide) ?_
      subst hQ
      refine vx_ret (W.widen (k := 1) (n := 6) (Nat.le_of_ble_eq_true rfl) (Nat.le_of_ble_eq_true rfl) ?_)
      exact fw_iret hx hb hr hlocks dL_lift_16 hP hS (Or.inr (Or.inl ⟨hbad0, rfl, rfl⟩))
    · refine vx_catch (name := tx_IS) hown [({ startPc := 0, endPc := 10, handlerPc := 13, catchType := 21 } : ExceptionTableEntry)] ({ startPc := 0, endPc := 10, handlerPc := 17, catchType := 15 } : ExceptionTableEntry) [] (htab.trans rfl) (fun z hz => by rw [List.mem_singleton.mp hz]; exact Or.inr ⟨by decide, tx_IO, hts (.classLink RL 21 tx_IO) (by decide +kernel), hE.2.2.2.2.1⟩) (by decide) (by decide) (hts (.classLink RL 15 tx_IS) (by decide +kernel)) (va_any rfl (hE.1 _ (by decide))) hcell hcv hcl ?_
      refine lv_astore (lv' := [(4, .ref q9), (0, .ref (ad 0 (0))), (1, .int (iI (b))), (2, .int (iI (q))), (3, .ref (ad 15 (0)))]) hx hb dL_lift_17 hl (by decide) rfl (fun ls hl => ?_)
      refine lv_iconst (v := iI ((2 : Nat) : Int)) hx hb dL_lift_19 (by decide) ?_
      subst hQ
      refine vx_ret (W.widen (k := 1) (n := 6) (Nat.le_of_ble_eq_true rfl) (Nat.le_of_ble_eq_true rfl) ?_)
      exact fw_iret hx hb hr hlocks dL_lift_20 hP hS (Or.inr (Or.inr ⟨hbad0, hbad1, rfl, rfl⟩))
  · obtain ⟨hok, tc, hto, hfr, rfl, rfl⟩ := q_1
    refine lv_i2l (v := (iI (((tc : Nat) : Int))).toInt64) hx hb dL_lift_8 rfl ?_
    refine fw_lastN (j := 0) (x := (iI (((tc : Nat) : Int))).toInt64) hx hb hK hP hS ((WC_r (by decide)).trans hout) 4 rfl (by decide) (by decide) dL_lift_9 (fun H locs hP hS => ?_)
    rw [WC_out] at hP
    have hP : fw_P D vwCl z ad (WC cA ad (up σ 4 tc 0) (oU cA μ f ((iI (((tc : Nat) : Int))).toInt64))) H := hP
    refine lv_goto (tgt := 21) hx hb dL_lift_10 (by decide) ?_
    refine lv_iconst (v := iI ((0 : Nat) : Int)) hx hb dL_lift_21 (by decide) ?_
    subst hQ
    refine vx_ret (W.widen (k := 1) (n := 6) (Nat.le_of_ble_eq_true rfl) (Nat.le_of_ble_eq_true rfl) ?_)
    exact fw_iret hx hb hr hlocks dL_lift_22 hP hS (Or.inl ⟨by omega, tc, hto, hfr, rfl, rfl⟩)

abbrev rm_L_canLoad : Room := { frames := 7, cells := 1, slots := 6, locals := 116 }
abbrev po_L_canLoad (cA : Nat → ClassId) (ad : fw_Ad) (σ : St) (μ : fw_W) (f : Nat → Int64) (x b q : Int) : Int32 → fw_W → Prop := fun r w' => (((0 ≤ x ∧ x < ((σ 8 0 : Nat) : Int)) ∧ ((0 ≤ b ∧ b ≤ 5) ∧ 0 ≤ q ∧ q ≤ 4)) ∧ r = iI 0 ∧ w' = WC cA ad σ (oU cA μ f (bL (cB (allowed σ (Int.toNat x) (5 * Int.toNat b + Int.toNat q)))))) ∨ (¬ ((0 ≤ x ∧ x < ((σ 8 0 : Nat) : Int)) ∧ ((0 ≤ b ∧ b ≤ 5) ∧ 0 ≤ q ∧ q ≤ 4)) ∧ r = iI 1 ∧ w' = WC cA ad σ μ)
set_option maxHeartbeats 4000000 in
set_option maxRecDepth 100000 in
theorem c_L_canLoad (l : Launch) (hl0 : l.stackTraces = false) (D : va_G) (cA : Nat → ClassId) (z : Nat) (ad : fw_Ad) (sa : Nat → Nat) (σ : St) (μ : fw_W) (f : Nat → Int64) (x b q : Int) (hI : Inv σ) (hout : μ 15 0 = some (.inl (cA 4, 1, .inr (.inl f)))) (hx0 : -2147483648 ≤ x ∧ x ≤ 2147483647) (hb0 : -2147483648 ≤ b ∧ b ≤ 2147483647) (hq0 : -2147483648 ≤ q ∧ q ≤ 2147483647) : vx_Met l yL_canLoad wsL_canLoad rm_L_canLoad (va_Pc [.ref (ad 0 (0)), .int (iI (x)), .int (iI (b)), .int (iI (q)), .ref (ad 15 (0))] (fx_Pre D vwCl (fw_T cA) z ad (WC cA ad σ μ) sa)) (fw_Qi D vwCl z ad (po_L_canLoad cA ad σ μ f x b q)) (fun _ _ _ => False) 1 6 (fw_A z) := by
  refine vx_ofWH (cc := cL_canLoad) (maxL := 6) (ret := (some .int)) (hh := [(0, 19, 22, 21)]) (by decide) rfl ?_
  intro pg en s m args below meth cd s₁ B hml hv
  obtain ⟨hargs, ⟨hP, hK⟩, hE⟩ := hv
  have hx := B.exec
  have hb := B.bytes
  have hr := B.returns
  have hts := atoms_spec (ws := wsL_canLoad) B.pre
  have hown : s.vm.findClass RL = some m.cls := findClass_of_methodNamed B.named
  have hlocks := B.notSynchronized
  have htab := vx_table (x := yL_canLoad) B (hts (.codeWith yL_canLoad cL_canLoad 6 (some .int) [(0, 19, 22, 21)]) (by decide +kernel))
  have hl := lv_entry ([.ref (ad 0 (0)), .int (iI (x)), .int (iI (b)), .int (iI (q)), .ref (ad 15 (0))]) (n := 6) (Nat.le_of_ble_eq_true rfl)
  have hent : entryFrame m args 6 = entryFrame m ([.ref (ad 0 (0)), .int (iI (x)), .int (iI (b)), .int (iI (q)), .ref (ad 15 (0))] : List Value).toArray 6 := by rw [hargs]
  rw [hent, lg_entry_eq]
  generalize (lg_sl ([.ref (ad 0 (0)), .int (iI (x)), .int (iI (b)), .int (iI (q)), .ref (ad 15 (0))]) ++ List.replicate (6 - (lg_sl ([.ref (ad 0 (0)), .int (iI (x)), .int (iI (b)), .int (iI (q)), .ref (ad 15 (0))])).length) Slot.unset).toArray = ls at hl ⊢
  have hl : lv_has ls 6 [(0, .ref (ad 0 (0))), (1, .int (iI (x))), (2, .int (iI (b))), (3, .int (iI (q))), (4, .ref (ad 15 (0)))] := hl
  generalize hQ : vx_MQ below (fw_Qi D vwCl z ad (po_L_canLoad cA ad σ μ f x b q)) (fun _ _ _ => False) args s 1 6 (fw_A z) = Q
  generalize hH : s.heap = H at hP ⊢
  have hS : va_S (fw_A z) s.heap H [] := by rw [← hH]; exact va_S.rf
  generalize ([] : List Loc) = locs at hS ⊢
  refine lv_aload hx hb dL_canLoad_0 (lv_at hl 4 rfl) ?_
  refine lv_iconst (v := iI ((0 : Nat) : Int)) hx hb dL_canLoad_2 (by decide) ?_
  refine lv_aload_n hx hb dL_canLoad_3 rfl (lv_at hl 0 rfl) ?_
  refine lv_iload_n hx hb dL_canLoad_4 rfl (lv_at hl 1 rfl) ?_
  refine lv_iload_n hx hb dL_canLoad_5 rfl (lv_at hl 2 rfl) ?_
  refine lv_iload_n hx hb dL_canLoad_6 rfl (lv_at hl 3 rfl) ?_
  refine fx_cVi (As := [.int (iI (x)), .int (iI (b)), .int (iI (q))]) (rest := [.int (iI ((0 : Nat) : Int)), .ref (ad 15 (0))]) ⟨hx, hb, hml, hown, hts⟩ (c_X2_canLoad l hl0 D cA z ad sa σ μ ((x)) ((b)) ((q)) hI ⟨by omega, by omega⟩ ⟨by omega, by omega⟩ ⟨by omega, by omega⟩) (cwV 3 hts gL_canLoad_X2_canLoad rfl rfl rfl (by decide +kernel) ⟨Nat.le_of_ble_eq_true rfl, Nat.le_of_ble_eq_true rfl⟩) WC_0 rfl rfl hl.1 (Nat.le_of_ble_eq_true rfl) dL_canLoad_7 ⟨Nat.le_of_ble_eq_true rfl, Nat.le_of_ble_eq_true rfl⟩ hK hE hP hS rfl (fun E ce q9 w' H locs q_1 hP hS hcell hcv hcl => ?_) (fun r w' H locs q_1 hP hS => ?_)
  · obtain ⟨rfl, hbad0, rfl⟩ := q_1
    refine vx_catch (name := tx_IO) hown [] ({ startPc := 0, endPc := 19, handlerPc := 22, catchType := 21 } : ExceptionTableEntry) [] (htab.trans rfl) (fun _ h => nomatch h) (by decide) (by decide) (hts (.classLink RL 21 tx_IO) (by decide +kernel)) (va_any rfl (hE.1 _ (by decide))) hcell hcv hcl ?_
    refine lv_astore (lv' := [(5, .ref q9), (0, .ref (ad 0 (0))), (1, .int (iI (x))), (2, .int (iI (b))), (3, .int (iI (q))), (4, .ref (ad 15 (0)))]) hx hb dL_canLoad_22 hl (by decide) rfl (fun ls hl => ?_)
    refine lv_iconst (v := iI ((1 : Nat) : Int)) hx hb dL_canLoad_24 (by decide) ?_
    subst hQ
    refine vx_ret (W.widen (k := 1) (n := 6) (Nat.le_of_ble_eq_true rfl) (Nat.le_of_ble_eq_true rfl) ?_)
    exact fw_iret hx hb hr hlocks dL_canLoad_25 hP hS (Or.inr ⟨hbad0, rfl, rfl⟩)
  · obtain ⟨hok, rfl, rfl⟩ := q_1
    refine fw_if_eqB (x := cB (allowed σ (Int.toNat x) (5 * Int.toNat b + Int.toNat q))) (tgt := 17) hx hb dL_canLoad_10 (by decide) (fun c_2 => ?_) (fun c_2 => ?_)
    · replace c_2 := cB_f.mp c_2
      refine lv_lconst (v := (0 : Int64)) hx hb dL_canLoad_17 (by decide) ?_
      refine fw_top (v' := .long (bL (cB (allowed σ (Int.toNat x) (5 * Int.toNat b + Int.toNat q))))) (congrArg Value.long (by rw [bL, if_neg (fun q9 => absurd (cB_t.mp q9) (by assumption))])) ?_
      refine fw_lastN (j := 0) (x := bL (cB (allowed σ (Int.toNat x) (5 * Int.toNat b + Int.toNat q)))) hx hb hK hP hS ((WC_r (by decide)).trans hout) 4 rfl (by decide) (by decide) dL_canLoad_18 (fun H locs hP hS => ?_)
      rw [WC_out] at hP
      have hP : fw_P D vwCl z ad (WC cA ad σ (oU cA μ f (bL (cB (allowed σ (Int.toNat x) (5 * Int.toNat b + Int.toNat q)))))) H := hP
      refine lv_goto (tgt := 26) hx hb dL_canLoad_19 (by decide) ?_
      refine lv_iconst (v := iI ((0 : Nat) : Int)) hx hb dL_canLoad_26 (by decide) ?_
      subst hQ
      refine vx_ret (W.widen (k := 1) (n := 6) (Nat.le_of_ble_eq_true rfl) (Nat.le_of_ble_eq_true rfl) ?_)
      exact fw_iret hx hb hr hlocks dL_canLoad_27 hP hS (Or.inl ⟨by omega, rfl, rfl⟩)
    · replace c_2 := cB_t.mp c_2
      refine lv_lconst (v := (1 : Int64)) hx hb dL_canLoad_13 (by decide) ?_
      refine lv_goto (tgt := 18) hx hb dL_canLoad_14 (by decide) ?_
      refine fw_top (v' := .long (bL (cB (allowed σ (Int.toNat x) (5 * Int.toNat b + Int.toNat q))))) (congrArg Value.long (by rw [bL, if_pos (cB_t.mpr (by assumption))])) ?_
      refine fw_lastN (j := 0) (x := bL (cB (allowed σ (Int.toNat x) (5 * Int.toNat b + Int.toNat q)))) hx hb hK hP hS ((WC_r (by decide)).trans hout) 4 rfl (by decide) (by decide) dL_canLoad_18 (fun H locs hP hS => ?_)
      rw [WC_out] at hP
      have hP : fw_P D vwCl z ad (WC cA ad σ (oU cA μ f (bL (cB (allowed σ (Int.toNat x) (5 * Int.toNat b + Int.toNat q)))))) H := hP
      refine lv_goto (tgt := 26) hx hb dL_canLoad_19 (by decide) ?_
      refine lv_iconst (v := iI ((0 : Nat) : Int)) hx hb dL_canLoad_26 (by decide) ?_
      subst hQ
      refine vx_ret (W.widen (k := 1) (n := 6) (Nat.le_of_ble_eq_true rfl) (Nat.le_of_ble_eq_true rfl) ?_)
      exact fw_iret hx hb hr hlocks dL_canLoad_27 hP hS (Or.inl ⟨by omega, rfl, rfl⟩)

abbrev rm_L_setPlug : Room := { frames := 7, cells := 1, slots := 6, locals := 107 }
abbrev po_L_setPlug (cA : Nat → ClassId) (ad : fw_Ad) (σ : St) (μ : fw_W) (f : Nat → Int64) (b q : Int) (o : Bool) : Int32 → fw_W → Prop := fun r w' => (((0 ≤ b ∧ b ≤ 5) ∧ 0 ≤ q ∧ q ≤ 4) ∧ ¬ (o = false ∧ reef σ (5 * Int.toNat b + Int.toNat q)) ∧ r = iI 0 ∧ w' = WC cA ad (up σ 7 (5 * Int.toNat b + Int.toNat q) (bN o)) (oU cA μ f (bL (decide (σ 7 (5 * Int.toNat b + Int.toNat q) = 1))))) ∨ ((¬ ((0 ≤ b ∧ b ≤ 5) ∧ 0 ≤ q ∧ q ≤ 4) ∧ r = iI 1 ∧ w' = WC cA ad σ μ) ∨ (((0 ≤ b ∧ b ≤ 5) ∧ 0 ≤ q ∧ q ≤ 4) ∧ (o = false ∧ reef σ (5 * Int.toNat b + Int.toNat q)) ∧ r = iI 2 ∧ w' = WC cA ad σ μ))
set_option maxHeartbeats 4000000 in
set_option maxRecDepth 100000 in
theorem c_L_setPlug (l : Launch) (hl0 : l.stackTraces = false) (D : va_G) (cA : Nat → ClassId) (z : Nat) (ad : fw_Ad) (sa : Nat → Nat) (σ : St) (μ : fw_W) (f : Nat → Int64) (b q : Int) (o : Bool) (hI : Inv σ) (hout : μ 15 0 = some (.inl (cA 4, 1, .inr (.inl f)))) (hb0 : -2147483648 ≤ b ∧ b ≤ 2147483647) (hq0 : -2147483648 ≤ q ∧ q ≤ 2147483647) : vx_Met l yL_setPlug wsL_setPlug rm_L_setPlug (va_Pc [.ref (ad 0 (0)), .int (iI (b)), .int (iI (q)), .int (iI (bI (o))), .ref (ad 15 (0))] (fx_Pre D vwCl (fw_T cA) z ad (WC cA ad σ μ) sa)) (fw_Qi D vwCl z ad (po_L_setPlug cA ad σ μ f b q o)) (fun _ _ _ => False) 1 6 (fw_A z) := by
  refine vx_ofWH (cc := cL_setPlug) (maxL := 6) (ret := (some .int)) (hh := [(0, 19, 22, 21), (0, 19, 26, 15)]) (by decide) rfl ?_
  intro pg en s m args below meth cd s₁ B hml hv
  obtain ⟨hargs, ⟨hP, hK⟩, hE⟩ := hv
  have hx := B.exec
  have hb := B.bytes
  have hr := B.returns
  have hts := atoms_spec (ws := wsL_setPlug) B.pre
  have hown : s.vm.findClass RL = some m.cls := findClass_of_methodNamed B.named
  have hlocks := B.notSynchronized
  have htab := vx_table (x := yL_setPlug) B (hts (.codeWith yL_setPlug cL_setPlug 6 (some .int) [(0, 19, 22, 21), (0, 19, 26, 15)]) (by decide +kernel))
  have hl := lv_entry ([.ref (ad 0 (0)), .int (iI (b)), .int (iI (q)), .int (iI (bI (o))), .ref (ad 15 (0))]) (n := 6) (Nat.le_of_ble_eq_true rfl)
  have hent : entryFrame m args 6 = entryFrame m ([.ref (ad 0 (0)), .int (iI (b)), .int (iI (q)), .int (iI (bI (o))), .ref (ad 15 (0))] : List Value).toArray 6 := by rw [hargs]
  rw [hent, lg_entry_eq]
  generalize (lg_sl ([.ref (ad 0 (0)), .int (iI (b)), .int (iI (q)), .int (iI (bI (o))), .ref (ad 15 (0))]) ++ List.replicate (6 - (lg_sl ([.ref (ad 0 (0)), .int (iI (b)), .int (iI (q)), .int (iI (bI (o))), .ref (ad 15 (0))])).length) Slot.unset).toArray = ls at hl ⊢
  have hl : lv_has ls 6 [(0, .ref (ad 0 (0))), (1, .int (iI (b))), (2, .int (iI (q))), (3, .int (iI (bI (o)))), (4, .ref (ad 15 (0)))] := hl
  generalize hQ : vx_MQ below (fw_Qi D vwCl z ad (po_L_setPlug cA ad σ μ f b q o)) (fun _ _ _ => False) args s 1 6 (fw_A z) = Q
  generalize hH : s.heap = H at hP ⊢
  have hS : va_S (fw_A z) s.heap H [] := by rw [← hH]; exact va_S.rf
  generalize ([] : List Loc) = locs at hS ⊢
  refine lv_aload hx hb dL_setPlug_0 (lv_at hl 4 rfl) ?_
  refine lv_iconst (v := iI ((0 : Nat) : Int)) hx hb dL_setPlug_2 (by decide) ?_
  refine lv_aload_n hx hb dL_setPlug_3 rfl (lv_at hl 0 rfl) ?_
  refine lv_iload_n hx hb dL_setPlug_4 rfl (lv_at hl 1 rfl) ?_
  refine lv_iload_n hx hb dL_setPlug_5 rfl (lv_at hl 2 rfl) ?_
  refine lv_iload_n hx hb dL_setPlug_6 rfl (lv_at hl 3 rfl) ?_
  refine fx_cVi (As := [.int (iI (b)), .int (iI (q)), .int (iI (bI (o)))]) (rest := [.int (iI ((0 : Nat) : Int)), .ref (ad 15 (0))]) ⟨hx, hb, hml, hown, hts⟩ (c_X2_setPlug l hl0 D cA z ad sa σ μ ((b)) ((q)) (o) hI ⟨by omega, by omega⟩ ⟨by omega, by omega⟩) (cwV 3 hts gL_setPlug_X2_setPlug rfl rfl rfl (by decide +kernel) ⟨Nat.le_of_ble_eq_true rfl, Nat.le_of_ble_eq_true rfl⟩) WC_0 rfl rfl hl.1 (Nat.le_of_ble_eq_true rfl) dL_setPlug_7 ⟨Nat.le_of_ble_eq_true rfl, Nat.le_of_ble_eq_true rfl⟩ hK hE hP hS rfl (fun E ce q9 w' H locs q_1 hP hS hcell hcv hcl => ?_) (fun r w' H locs q_1 hP hS => ?_)
  · obtain ⟨⟨rfl, hbad0⟩ | ⟨rfl, hbad0, hbad1⟩, rfl⟩ := q_1
    · refine vx_catch (name := tx_IO) hown [] ({ startPc := 0, endPc := 19, handlerPc := 22, catchType := 21 } : ExceptionTableEntry) [({ startPc := 0, endPc := 19, handlerPc := 26, catchType := 15 } : ExceptionTableEntry)] (htab.trans rfl) (fun _ h => nomatch h) (by decide) (by decide) (hts (.classLink RL 21 tx_IO) (by decide +kernel)) (va_any rfl (hE.1 _ (by decide))) hcell hcv hcl ?_
      refine lv_astore (lv' := [(5, .ref q9), (0, .ref (ad 0 (0))), (1, .int (iI (b))), (2, .int (iI (q))), (3, .int (iI (bI (o)))), (4, .ref (ad 15 (0)))]) hx hb dL_setPlug_22 hl (by decide) rfl (fun ls hl => ?_)
      refine lv_iconst (v := iI ((1 : Nat) : Int)) hx hb dL_setPlug_24 (by decide) ?_
      subst hQ
      refine vx_ret (W.widen (k := 1) (n := 6) (Nat.le_of_ble_eq_true rfl) (Nat.le_of_ble_eq_true rfl) ?_)
      exact fw_iret hx hb hr hlocks dL_setPlug_25 hP hS (Or.inr (Or.inl ⟨hbad0, rfl, rfl⟩))
    · refine vx_catch (name := tx_IS) hown [({ startPc := 0, endPc := 19, handlerPc := 22, catchType := 21 } : ExceptionTableEntry)] ({ startPc := 0, endPc := 19, handlerPc := 26, catchType := 15 } : ExceptionTableEntry) [] (htab.trans rfl) (fun z hz => by rw [List.mem_singleton.mp hz]; exact Or.inr ⟨by decide, tx_IO, hts (.classLink RL 21 tx_IO) (by decide +kernel), hE.2.2.2.2.1⟩) (by decide) (by decide) (hts (.classLink RL 15 tx_IS) (by decide +kernel)) (va_any rfl (hE.1 _ (by decide))) hcell hcv hcl ?_
      refine lv_astore (lv' := [(5, .ref q9), (0, .ref (ad 0 (0))), (1, .int (iI (b))), (2, .int (iI (q))), (3, .int (iI (bI (o)))), (4, .ref (ad 15 (0)))]) hx hb dL_setPlug_26 hl (by decide) rfl (fun ls hl => ?_)
      refine lv_iconst (v := iI ((2 : Nat) : Int)) hx hb dL_setPlug_28 (by decide) ?_
      subst hQ
      refine vx_ret (W.widen (k := 1) (n := 6) (Nat.le_of_ble_eq_true rfl) (Nat.le_of_ble_eq_true rfl) ?_)
      exact fw_iret hx hb hr hlocks dL_setPlug_29 hP hS (Or.inr (Or.inr ⟨hbad0, hbad1, rfl, rfl⟩))
  · obtain ⟨hok, hnr, rfl, rfl⟩ := q_1
    have hpl := hI.pl (5 * Int.toNat b + Int.toNat q)
    refine fw_if_eq (x := ((σ 7 (5 * Int.toNat b + Int.toNat q) : Nat) : Int)) (tgt := 17) hx hb dL_setPlug_10 (by decide) ⟨by omega, by omega⟩ (fun c_2 => ?_) (fun c_2 => ?_)
    · refine lv_lconst (v := (0 : Int64)) hx hb dL_setPlug_17 (by decide) ?_
      refine fw_top (v' := .long (bL (decide (σ 7 (5 * Int.toNat b + Int.toNat q) = 1)))) (congrArg Value.long (by rw [bL, if_neg (fun q9 => absurd (of_decide_eq_true q9) (by omega))])) ?_
      refine fw_lastN (j := 0) (x := bL (decide (σ 7 (5 * Int.toNat b + Int.toNat q) = 1))) hx hb hK hP hS ((WC_r (by decide)).trans hout) 4 rfl (by decide) (by decide) dL_setPlug_18 (fun H locs hP hS => ?_)
      rw [WC_out] at hP
      have hP : fw_P D vwCl z ad (WC cA ad (up σ 7 (5 * Int.toNat b + Int.toNat q) (bN o)) (oU cA μ f (bL (decide (σ 7 (5 * Int.toNat b + Int.toNat q) = 1))))) H := hP
      refine lv_goto (tgt := 30) hx hb dL_setPlug_19 (by decide) ?_
      refine lv_iconst (v := iI ((0 : Nat) : Int)) hx hb dL_setPlug_30 (by decide) ?_
      subst hQ
      refine vx_ret (W.widen (k := 1) (n := 6) (Nat.le_of_ble_eq_true rfl) (Nat.le_of_ble_eq_true rfl) ?_)
      exact fw_iret hx hb hr hlocks dL_setPlug_31 hP hS (Or.inl ⟨by omega, hnr, rfl, rfl⟩)
    · refine lv_lconst (v := (1 : Int64)) hx hb dL_setPlug_13 (by decide) ?_
      refine lv_goto (tgt := 18) hx hb dL_setPlug_14 (by decide) ?_
      refine fw_top (v' := .long (bL (decide (σ 7 (5 * Int.toNat b + Int.toNat q) = 1)))) (congrArg Value.long (by rw [bL, if_pos (decide_eq_true (by omega))])) ?_
      refine fw_lastN (j := 0) (x := bL (decide (σ 7 (5 * Int.toNat b + Int.toNat q) = 1))) hx hb hK hP hS ((WC_r (by decide)).trans hout) 4 rfl (by decide) (by decide) dL_setPlug_18 (fun H locs hP hS => ?_)
      rw [WC_out] at hP
      have hP : fw_P D vwCl z ad (WC cA ad (up σ 7 (5 * Int.toNat b + Int.toNat q) (bN o)) (oU cA μ f (bL (decide (σ 7 (5 * Int.toNat b + Int.toNat q) = 1))))) H := hP
      refine lv_goto (tgt := 30) hx hb dL_setPlug_19 (by decide) ?_
      refine lv_iconst (v := iI ((0 : Nat) : Int)) hx hb dL_setPlug_30 (by decide) ?_
      subst hQ
      refine vx_ret (W.widen (k := 1) (n := 6) (Nat.le_of_ble_eq_true rfl) (Nat.le_of_ble_eq_true rfl) ?_)
      exact fw_iret hx hb hr hlocks dL_setPlug_31 hP hS (Or.inl ⟨by omega, hnr, rfl, rfl⟩)
