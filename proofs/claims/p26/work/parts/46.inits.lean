def fa_Pre (D : va_G) (cl : List vw_C) (tys : List (ClassId × FieldType)) (z : Nat) (ad : fw_Ad) (w : fw_W) (n : Nat) : State → Prop := fun U => fw_Pre D cl tys z ad w U ∧ U.heap.size = n ∧ va_AO RX0 U ∧ va_AO RX1 U
theorem fa_blind {D : va_G} {cl : List vw_C} {tys : List (ClassId × FieldType)} {z : Nat} {ad : fw_Ad} {w : fw_W} {n : Nat} {av : List Value} : FrameBlind (va_Pc av (fa_Pre D cl tys z ad w n)) := by
  rintro a U g mk ⟨q0, q1, q2⟩
  have b1 := fw_pre_blind (av := av) a U g mk ⟨q0, q1⟩
  exact ⟨b1.1, b1.2, q2.1, va_AO.moved (Vm.Alike.refl U.vm) q2.2.1, va_AO.moved (Vm.Alike.refl U.vm) q2.2.2⟩
section FA
variable {p : Program} {l : Launch} {e : Env} {R : Room} {s : State} {m : MethodId} {args : Array Value} {below : List Frame} {meth : Method} {c : Code} {H : Heap} {locs : List Loc} {cells slots : Nat} {Q : State → Prop}
variable {cc : ByteArray} {pc : Nat} {ls : Array Slot} {rest As stk : List Value} {D : va_G} {cl : List vw_C} {tys : List (ClassId × FieldType)} {H0 : Heap} {z : Nat} {ad : fw_Ad} {w : fw_W} {b k : Nat}
variable {y : MethodName} {bytes : ByteArray} {maxL nL mc ms n nh index ci N : Nat} {ret : Option FieldType} {ws : List Cond} {rm : Room} {Ts : List Cond} {own C : String} {T : u_T} {fs : List Value}
theorem fa_cI {post : fw_W → Prop} (S : CallFix p m c cc nL s args Ts own) {a : Nat} (hM : Met l y ws rm (va_Pc (.ref a :: As) (fa_Pre D cl tys z ad w nh)) (fw_Qv D cl z ad post) mc ms (fw_A z)) (cw : CallB R s args own index y bytes maxL none ws rm mc ms n ∧ y.name = "<init>" ∧ (Cond.instanceMethod y).before args s = true) (hn : As.length = n) (hsize : ls.size = nL) (hW : (rest.map fun v => v.category).sum ≤ 8) (hdg : decode cc pc = .ok (.invokespecial index, 3)) (hf : cells + mc ≤ R.cells ∧ slots + ms ≤ R.slots) (hK : va_K D cl tys s) (hnh : H.size = nh) (hAO : va_AO RX0 s ∧ va_AO RX1 s) (hP : fw_P D cl z ad w H) (hS : va_S (fw_A z) H0 H locs) (hstk : stk = As.reverse ++ .ref a :: rest)
    (kk : ∀ (w' : fw_W) (H1 : Heap) (locs1 : List Loc), post w' → fw_P D cl z ad w' H1 → va_S (fw_A z) H0 H1 locs1 → W p l e R s m args below meth c H1 locs1 (cells + mc) (slots + ms) Q (F0 m (pc + 3) ls (rest))) : W p l e R s m args below meth c H locs cells slots Q (F0 m pc ls stk) := by
  subst hstk
  exact va_callv (va_runI (As := As) (rest := rest) S hM cw ⟨fa_blind, fun U hU hW => ⟨rfl, ⟨by rw [hU]; exact hP, va_K.moved hW.alike hK⟩, by rw [hU]; exact hnh, va_AO.moved hW.alike hAO.1, va_AO.moved hW.alike hAO.2⟩⟩ rfl hn hsize rfl (lv_room hW) hdg hf) hS (fun q _ h => h) (fun q h => h) (fun u t H1 locs1 ht hvm hp hB hz hk hS1 => kk u H1 locs1 hp (by rw [← ht]; exact hB) hS1)
theorem fa_cVi {post : Int32 → fw_W → Prop} (S : CallFix p m c cc nL s args Ts own) (hM : Met l y ws rm (va_Pc (.ref (ad b k) :: As) (fa_Pre D cl tys z ad w nh)) (fw_Qi D cl z ad post) mc ms (fw_A z)) (cw : CallW R s args own C index y bytes maxL ret ws rm mc ms n) (hrc : w b k = some (.inr (ci, fs))) (hc : cl[ci]? = some (C, T, N)) (hn : As.length = n) (hsize : ls.size = nL) (hW : (rest.map fun v => v.category).sum ≤ 8) (hdg : decode cc pc = .ok (.invokevirtual index, 3)) (hf : cells + mc ≤ R.cells ∧ slots + ms ≤ R.slots) (hK : va_K D cl tys s) (hnh : H.size = nh) (hAO : va_AO RX0 s ∧ va_AO RX1 s) (hP : fw_P D cl z ad w H) (hS : va_S (fw_A z) H0 H locs) (hstk : stk = As.reverse ++ .ref (ad b k) :: rest)
    (kk : ∀ (r : Int32) (w' : fw_W) (H1 : Heap) (locs1 : List Loc), post r w' → fw_P D cl z ad w' H1 → va_S (fw_A z) H0 H1 locs1 → W p l e R s m args below meth c H1 locs1 (cells + mc) (slots + ms) Q (F0 m (pc + 3) ls (.int r :: rest))) : W p l e R s m args below meth c H locs cells slots Q (F0 m pc ls stk) := by
  subst hstk
  exact va_calli (va_runV (As := As) (rest := rest) S hM cw ⟨fa_blind, va_recv hK (fw_one hP hrc) hc (q0 := 0) rfl, fun U hU hW => ⟨rfl, ⟨by rw [hU]; exact hP, va_K.moved hW.alike hK⟩, by rw [hU]; exact hnh, va_AO.moved hW.alike hAO.1, va_AO.moved hW.alike hAO.2⟩⟩ rfl hn hsize rfl (lv_room hW) hdg hf) hS (fun q _ h => h) (fun q h => h) (fun r u t H1 locs1 ht hvm hp hB hz hk hS1 => kk r u H1 locs1 hp (by rw [← ht]; exact hB) hS1)
end FA
theorem fw_up_up (w : fw_W) (a i : Nat) (x y : va_E) : fw_up (fw_up w a i x) a i y = fw_up w a i y := by
  funext b j
  unfold fw_up
  split <;> rfl
abbrev rm_X0_init : Room := { frames := 1, cells := 0, slots := 0, locals := 20 }
abbrev po_X0_init (cA : Nat → ClassId) (ad : fw_Ad) (w : fw_W) (c : Nat) (n : Nat) (x0 x1 x2 x3 : Int) (A0 A1 A2 A3 A4 A5 A6 A7 : Value) : fw_W → Prop := fun w' => w' = fw_up w 5 c (.inr (0, [.int (iI ((n : Nat) : Int)), .int (iI x0), .int (iI x1), .int (iI x2), .int (iI x3), .int (iI 0), .null, .int (iI 0)]))
set_option maxHeartbeats 4000000 in
set_option maxRecDepth 100000 in
theorem c_X0_init (l : Launch) (D : va_G) (cA : Nat → ClassId) (z : Nat) (ad : fw_Ad) (w : fw_W) (c : Nat) (n : Nat) (x0 x1 x2 x3 : Int) (A0 A1 A2 A3 A4 A5 A6 A7 : Value) (hbx : w 5 c = some (.inr (0, [A0, A1, A2, A3, A4, A5, A6, A7]))) : Met l yX0_init wsX0_init rm_X0_init (va_Pc [.ref (ad 5 (c)), .int (iI ((n : Nat) : Int)), .int (iI (x0)), .int (iI (x1)), .int (iI (x2)), .int (iI (x3))] (fw_Pre D vwCl (fw_T cA) z ad (w))) (fw_Qv D vwCl z ad (po_X0_init cA ad w c n x0 x1 x2 x3 A0 A1 A2 A3 A4 A5 A6 A7)) 0 0 (fw_A z) := by
  refine Met.ofW (cc := cX0_init) (maxL := 6) (ret := none) (by decide) rfl ?_
  intro pg en s m args below meth cd s₁ B hml hv
  obtain ⟨hargs, hP, hK⟩ := hv
  have hx := B.exec
  have hb := B.bytes
  have hr := B.returns
  have hts := atoms_spec (ws := wsX0_init) B.pre
  have hown : s.vm.findClass RX0 = some m.cls := findClass_of_methodNamed B.named
  have hlocks := B.notSynchronized
  have hinn : meth.name = "<init>" := (name_of_methodNamed B.named B.method).1
  have hinX0 : ∀ w ∈ u_ws RX0 TX0 8, w ∈ wsX0_init := by decide +kernel
  have hf9 := hts (.fieldLink RX0 9 "StowagePlan$Box" "isLanded" "Z") (by decide +kernel)
  have hf15 := hts (.fieldLink RX0 15 "StowagePlan$Box" "stack" "LStowagePlan$Stack;") (by decide +kernel)
  have hf19 := hts (.fieldLink RX0 19 "StowagePlan$Box" "tier" "I") (by decide +kernel)
  have hf23 := hts (.fieldLink RX0 23 "StowagePlan$Box" "number" "I") (by decide +kernel)
  have hf26 := hts (.fieldLink RX0 26 "StowagePlan$Box" "weight" "I") (by decide +kernel)
  have hf29 := hts (.fieldLink RX0 29 "StowagePlan$Box" "from" "I") (by decide +kernel)
  have hf32 := hts (.fieldLink RX0 32 "StowagePlan$Box" "to" "I") (by decide +kernel)
  have hf35 := hts (.fieldLink RX0 35 "StowagePlan$Box" "kind" "I") (by decide +kernel)
  have hl := lv_entry ([.ref (ad 5 (c)), .int (iI ((n : Nat) : Int)), .int (iI (x0)), .int (iI (x1)), .int (iI (x2)), .int (iI (x3))]) (n := 6) (Nat.le_of_ble_eq_true rfl)
  have hent : entryFrame m args 6 = entryFrame m ([.ref (ad 5 (c)), .int (iI ((n : Nat) : Int)), .int (iI (x0)), .int (iI (x1)), .int (iI (x2)), .int (iI (x3))] : List Value).toArray 6 := by rw [hargs]
  rw [hent, lg_entry_eq]
  generalize (lg_sl ([.ref (ad 5 (c)), .int (iI ((n : Nat) : Int)), .int (iI (x0)), .int (iI (x1)), .int (iI (x2)), .int (iI (x3))]) ++ List.replicate (6 - (lg_sl ([.ref (ad 5 (c)), .int (iI ((n : Nat) : Int)), .int (iI (x0)), .int (iI (x1)), .int (iI (x2)), .int (iI (x3))])).length) Slot.unset).toArray = ls at hl ⊢
  have hl : lv_has ls 6 [(0, .ref (ad 5 (c))), (1, .int (iI ((n : Nat) : Int))), (2, .int (iI (x0))), (3, .int (iI (x1))), (4, .int (iI (x2))), (5, .int (iI (x3)))] := hl
  generalize hQ : MQ below (fw_Qv D vwCl z ad (po_X0_init cA ad w c n x0 x1 x2 x3 A0 A1 A2 A3 A4 A5 A6 A7)) args s 0 0 (fw_A z) = Q
  generalize hH : s.heap = H at hP ⊢
  have hS : va_S (fw_A z) s.heap H [] := by rw [← hH]; exact va_S.rf
  generalize ([] : List Loc) = locs at hS ⊢
  refine lv_aload_n hx hb dX0_init_0 rfl (lv_at hl 0 rfl) ?_
  refine W.objInit hx hb hown (hts (.methodLink RX0 3 objectInit) (by decide +kernel)) (hts (.instanceMethod objectInit) (by decide +kernel)) (hts (.code objectInit ⟨#[0xb1]⟩ 1 none) (by decide +kernel)) rfl (hl.1.trans hml.symm) rfl dX0_init_1 (Nat.le_of_ble_eq_true rfl) (Nat.le_of_ble_eq_true rfl) ?_
  show W pg l en _ s m args below meth cd H locs _ _ Q (F0 m 4 ls [])
  refine lv_aload_n hx hb dX0_init_4 rfl (lv_at hl 0 rfl) ?_
  refine lv_iconst (v := iI ((0 : Nat) : Int)) hx hb dX0_init_5 (by decide) ?_
  refine fw_put (ci := 0) (v := .int (iI ((0 : Nat) : Int))) (ty := .boolean) (C := RX0) (T := TX0) (N := 8) hx hb hts hinX0 tyX0 tyX0_ok nmX0 hown hK hP hS hbx rfl 5 (by decide) hf9 (fun _ h9 => h9) rfl (by decide +kernel) rfl rfl (Nat.le_of_ble_eq_true rfl) dX0_init_6 (fun H locs hP hS => ?_)
  obtain ⟨w_1, h_w_1⟩ : ∃ x, x = fw_up (w) 5 (c) (.inr (0, [A0, A1, A2, A3, A4, .int (iI ((0 : Nat) : Int)), A6, A7])) := ⟨_, rfl⟩
  have hP : fw_P D vwCl z ad w_1 H := by rw [h_w_1]; exact hP
  refine lv_aload_n hx hb dX0_init_9 rfl (lv_at hl 0 rfl) ?_
  refine lv_null hx hb dX0_init_10 ?_
  refine fw_put (ci := 0) (v := .null) (ty := (.object "StowagePlan$Stack")) (C := RX0) (T := TX0) (N := 8) hx hb hts hinX0 tyX0 tyX0_ok nmX0 hown hK hP hS (by rw [h_w_1]; exact fw_up_same _ _ _ _) rfl 6 (by decide) hf15 (fun _ h9 => h9) rfl (by decide +kernel) rfl rfl (Nat.le_of_ble_eq_true rfl) dX0_init_11 (fun H locs hP hS => ?_)
  obtain ⟨w_2, h_w_2⟩ : ∃ x, x = fw_up (w_1) 5 (c) (.inr (0, [A0, A1, A2, A3, A4, .int (iI ((0 : Nat) : Int)), .null, A7])) := ⟨_, rfl⟩
  have hP : fw_P D vwCl z ad w_2 H := by rw [h_w_2]; exact hP
  refine lv_aload_n hx hb dX0_init_14 rfl (lv_at hl 0 rfl) ?_
  refine lv_iconst (v := iI ((0 : Nat) : Int)) hx hb dX0_init_15 (by decide) ?_
  refine fw_put (ci := 0) (v := .int (iI ((0 : Nat) : Int))) (ty := .int) (C := RX0) (T := TX0) (N := 8) hx hb hts hinX0 tyX0 tyX0_ok nmX0 hown hK hP hS (by rw [h_w_2]; exact fw_up_same _ _ _ _) rfl 7 (by decide) hf19 (fun _ h9 => h9) rfl (by decide +kernel) rfl rfl (Nat.le_of_ble_eq_true rfl) dX0_init_16 (fun H locs hP hS => ?_)
  obtain ⟨w_3, h_w_3⟩ : ∃ x, x = fw_up (w_2) 5 (c) (.inr (0, [A0, A1, A2, A3, A4, .int (iI ((0 : Nat) : Int)), .null, .int (iI ((0 : Nat) : Int))])) := ⟨_, rfl⟩
  have hP : fw_P D vwCl z ad w_3 H := by rw [h_w_3]; exact hP
  refine lv_aload_n hx hb dX0_init_19 rfl (lv_at hl 0 rfl) ?_
  refine lv_iload_n hx hb dX0_init_20 rfl (lv_at hl 1 rfl) ?_
  refine fw_putF (ci := 0) (v := .int (iI ((n : Nat) : Int))) (ty := .int) (C := RX0) (T := TX0) (N := 8) hx hb hts hinX0 tyX0 tyX0_ok nmX0 hown hK hP hS (by rw [h_w_3]; exact fw_up_same _ _ _ _) rfl 0 (by decide) hf23 (fun _ h9 => h9) rfl hinn rfl (by decide +kernel) rfl rfl (Nat.le_of_ble_eq_true rfl) dX0_init_21 (fun H locs hP hS => ?_)
  obtain ⟨w_4, h_w_4⟩ : ∃ x, x = fw_up (w_3) 5 (c) (.inr (0, [.int (iI ((n : Nat) : Int)), A1, A2, A3, A4, .int (iI ((0 : Nat) : Int)), .null, .int (iI ((0 : Nat) : Int))])) := ⟨_, rfl⟩
  have hP : fw_P D vwCl z ad w_4 H := by rw [h_w_4]; exact hP
  refine lv_aload_n hx hb dX0_init_24 rfl (lv_at hl 0 rfl) ?_
  refine lv_iload_n hx hb dX0_init_25 rfl (lv_at hl 2 rfl) ?_
  refine fw_putF (ci := 0) (v := .int (iI (x0))) (ty := .int) (C := RX0) (T := TX0) (N := 8) hx hb hts hinX0 tyX0 tyX0_ok nmX0 hown hK hP hS (by rw [h_w_4]; exact fw_up_same _ _ _ _) rfl 1 (by decide) hf26 (fun _ h9 => h9) rfl hinn rfl (by decide +kernel) rfl rfl (Nat.le_of_ble_eq_true rfl) dX0_init_26 (fun H locs hP hS => ?_)
  obtain ⟨w_5, h_w_5⟩ : ∃ x, x = fw_up (w_4) 5 (c) (.inr (0, [.int (iI ((n : Nat) : Int)), .int (iI (x0)), A2, A3, A4, .int (iI ((0 : Nat) : Int)), .null, .int (iI ((0 : Nat) : Int))])) := ⟨_, rfl⟩
  have hP : fw_P D vwCl z ad w_5 H := by rw [h_w_5]; exact hP
  refine lv_aload_n hx hb dX0_init_29 rfl (lv_at hl 0 rfl) ?_
  refine lv_iload_n hx hb dX0_init_30 rfl (lv_at hl 3 rfl) ?_
  refine fw_putF (ci := 0) (v := .int (iI (x1))) (ty := .int) (C := RX0) (T := TX0) (N := 8) hx hb hts hinX0 tyX0 tyX0_ok nmX0 hown hK hP hS (by rw [h_w_5]; exact fw_up_same _ _ _ _) rfl 2 (by decide) hf29 (fun _ h9 => h9) rfl hinn rfl (by decide +kernel) rfl rfl (Nat.le_of_ble_eq_true rfl) dX0_init_31 (fun H locs hP hS => ?_)
  obtain ⟨w_6, h_w_6⟩ : ∃ x, x = fw_up (w_5) 5 (c) (.inr (0, [.int (iI ((n : Nat) : Int)), .int (iI (x0)), .int (iI (x1)), A3, A4, .int (iI ((0 : Nat) : Int)), .null, .int (iI ((0 : Nat) : Int))])) := ⟨_, rfl⟩
  have hP : fw_P D vwCl z ad w_6 H := by rw [h_w_6]; exact hP
  refine lv_aload_n hx hb dX0_init_34 rfl (lv_at hl 0 rfl) ?_
  refine lv_iload hx hb dX0_init_35 (lv_at hl 4 rfl) ?_
  refine fw_putF (ci := 0) (v := .int (iI (x2))) (ty := .int) (C := RX0) (T := TX0) (N := 8) hx hb hts hinX0 tyX0 tyX0_ok nmX0 hown hK hP hS (by rw [h_w_6]; exact fw_up_same _ _ _ _) rfl 3 (by decide) hf32 (fun _ h9 => h9) rfl hinn rfl (by decide +kernel) rfl rfl (Nat.le_of_ble_eq_true rfl) dX0_init_37 (fun H locs hP hS => ?_)
  obtain ⟨w_7, h_w_7⟩ : ∃ x, x = fw_up (w_6) 5 (c) (.inr (0, [.int (iI ((n : Nat) : Int)), .int (iI (x0)), .int (iI (x1)), .int (iI (x2)), A4, .int (iI ((0 : Nat) : Int)), .null, .int (iI ((0 : Nat) : Int))])) := ⟨_, rfl⟩
  have hP : fw_P D vwCl z ad w_7 H := by rw [h_w_7]; exact hP
  refine lv_aload_n hx hb dX0_init_40 rfl (lv_at hl 0 rfl) ?_
  refine lv_iload hx hb dX0_init_41 (lv_at hl 5 rfl) ?_
  refine fw_putF (ci := 0) (v := .int (iI (x3))) (ty := .int) (C := RX0) (T := TX0) (N := 8) hx hb hts hinX0 tyX0 tyX0_ok nmX0 hown hK hP hS (by rw [h_w_7]; exact fw_up_same _ _ _ _) rfl 4 (by decide) hf35 (fun _ h9 => h9) rfl hinn rfl (by decide +kernel) rfl rfl (Nat.le_of_ble_eq_true rfl) dX0_init_43 (fun H locs hP hS => ?_)
  obtain ⟨w_8, h_w_8⟩ : ∃ x, x = fw_up (w_7) 5 (c) (.inr (0, [.int (iI ((n : Nat) : Int)), .int (iI (x0)), .int (iI (x1)), .int (iI (x2)), .int (iI (x3)), .int (iI ((0 : Nat) : Int)), .null, .int (iI ((0 : Nat) : Int))])) := ⟨_, rfl⟩
  have hP : fw_P D vwCl z ad w_8 H := by rw [h_w_8]; exact hP
  subst hQ
  exact fw_vret hx hb hr hlocks dX0_init_46 hP hS (by rw [h_w_8, h_w_7, h_w_6, h_w_5, h_w_4, h_w_3, h_w_2, h_w_1]; first | (simp only [fw_up_up]; done) | (simp only [fw_up_up]; rfl))

abbrev rm_X1_init : Room := { frames := 1, cells := 1, slots := 4, locals := 20 }
abbrev po_X1_init (cA : Nat → ClassId) (ad : fw_Ad) (w : fw_W) (k : Nat) (bb rr : Nat) (g : Bool) (n : Nat) (A0 A1 A2 A3 A4 : Value) : fw_W → Prop := fun w' => w' = fw_up (fw_up w 4 k (.inl (cA 2, 4, .inr (.inr (.inr (.inr (fun _ => none))))))) 3 k (.inr (1, [.int (iI ((bb : Nat) : Int)), .int (iI ((rr : Nat) : Int)), .ref (ad 4 k), .int (iI ((0 : Nat) : Int)), .int (iI (bI g))]))
set_option maxHeartbeats 4000000 in
set_option maxRecDepth 100000 in
theorem c_X1_init (l : Launch) (D : va_G) (cA : Nat → ClassId) (z : Nat) (ad : fw_Ad) (w : fw_W) (k : Nat) (bb rr : Nat) (g : Bool) (n : Nat) (A0 A1 A2 A3 A4 : Value) (hst : w 3 k = some (.inr (1, [A0, A1, A2, A3, A4]))) (hfr : w 4 k = none) (hq4 : ad 4 k = n) : Met l yX1_init wsX1_init rm_X1_init (va_Pc [.ref (ad 3 (k)), .int (iI ((bb : Nat) : Int)), .int (iI ((rr : Nat) : Int)), .int (iI (bI (g)))] (fa_Pre D vwCl (fw_T cA) z ad (w) (n))) (fw_Qv D vwCl z ad (po_X1_init cA ad w k bb rr g n A0 A1 A2 A3 A4)) 1 4 (fw_A z) := by
  refine Met.ofW (cc := cX1_init) (maxL := 4) (ret := none) (by decide) rfl ?_
  intro pg en s m args below meth cd s₁ B hml hv
  obtain ⟨hargs, ⟨hP, hK⟩, hH0, hAO⟩ := hv
  have hx := B.exec
  have hb := B.bytes
  have hr := B.returns
  have hts := atoms_spec (ws := wsX1_init) B.pre
  have hown : s.vm.findClass RX1 = some m.cls := findClass_of_methodNamed B.named
  have hlocks := B.notSynchronized
  have hinn : meth.name = "<init>" := (name_of_methodNamed B.named B.method).1
  have hinX1 : ∀ w ∈ u_ws RX1 TX1 5, w ∈ wsX1_init := by decide +kernel
  have hf11 := hts (.fieldLink RX1 11 "StowagePlan$Stack" "boxes" "[LStowagePlan$Box;") (by decide +kernel)
  have hf17 := hts (.fieldLink RX1 17 "StowagePlan$Stack" "size" "I") (by decide +kernel)
  have hf21 := hts (.fieldLink RX1 21 "StowagePlan$Stack" "bay" "I") (by decide +kernel)
  have hf24 := hts (.fieldLink RX1 24 "StowagePlan$Stack" "row" "I") (by decide +kernel)
  have hf27 := hts (.fieldLink RX1 27 "StowagePlan$Stack" "hasPlug" "Z") (by decide +kernel)
  have hl := lv_entry ([.ref (ad 3 (k)), .int (iI ((bb : Nat) : Int)), .int (iI ((rr : Nat) : Int)), .int (iI (bI (g)))]) (n := 4) (Nat.le_of_ble_eq_true rfl)
  have hent : entryFrame m args 4 = entryFrame m ([.ref (ad 3 (k)), .int (iI ((bb : Nat) : Int)), .int (iI ((rr : Nat) : Int)), .int (iI (bI (g)))] : List Value).toArray 4 := by rw [hargs]
  rw [hent, lg_entry_eq]
  generalize (lg_sl ([.ref (ad 3 (k)), .int (iI ((bb : Nat) : Int)), .int (iI ((rr : Nat) : Int)), .int (iI (bI (g)))]) ++ List.replicate (4 - (lg_sl ([.ref (ad 3 (k)), .int (iI ((bb : Nat) : Int)), .int (iI ((rr : Nat) : Int)), .int (iI (bI (g)))])).length) Slot.unset).toArray = ls at hl ⊢
  have hl : lv_has ls 4 [(0, .ref (ad 3 (k))), (1, .int (iI ((bb : Nat) : Int))), (2, .int (iI ((rr : Nat) : Int))), (3, .int (iI (bI (g))))] := hl
  generalize hQ : MQ below (fw_Qv D vwCl z ad (po_X1_init cA ad w k bb rr g n A0 A1 A2 A3 A4)) args s 1 4 (fw_A z) = Q
  generalize hH : s.heap = H at hP ⊢
  have hS : va_S (fw_A z) s.heap H [] := by rw [← hH]; exact va_S.rf
  generalize ([] : List Loc) = locs at hS ⊢
  refine lv_aload_n hx hb dX1_init_0 rfl (lv_at hl 0 rfl) ?_
  refine W.objInit hx hb hown (hts (.methodLink RX1 3 objectInit) (by decide +kernel)) (hts (.instanceMethod objectInit) (by decide +kernel)) (hts (.code objectInit ⟨#[0xb1]⟩ 1 none) (by decide +kernel)) rfl (hl.1.trans hml.symm) rfl dX1_init_1 (Nat.le_of_ble_eq_true rfl) (Nat.le_of_ble_eq_true rfl) ?_
  show W pg l en _ s m args below meth cd H locs _ _ Q (F0 m 4 ls [])
  refine lv_aload_n hx hb dX1_init_4 rfl (lv_at hl 0 rfl) ?_
  refine lv_iconst (v := iI ((4 : Nat) : Int)) hx hb dX1_init_5 (by decide) ?_
  refine W.sized (fun hsz => ?_)
  have hs1 := hS.1
  have hlt_1 := fw_lt hP hst
  have hzz := (hP.1 _ _ _ hst).2
  refine fw_newq (a := 4) (i := k) hx hb hown (hts (.classLink RX1 9 RX0) (by decide +kernel)) hAO.1 hK hP hS (by omega) 2 rfl (by decide) hfr (by omega) (Nat.le_of_ble_eq_true rfl) (Nat.le_of_ble_eq_true rfl) dX1_init_6 (fun H hP hS hsz2 => ?_)
  obtain ⟨w_2, h_w_2⟩ : ∃ x, x = fw_up (w) 4 (k) (.inl (cA 2, 4, .inr (.inr (.inr (.inr (fun _ => none)))))) := ⟨_, rfl⟩
  have hP : fw_P D vwCl z ad w_2 H := by rw [h_w_2]; exact hP
  refine fw_putF (ci := 1) (v := .ref (ad 4 (k))) (ty := (.array (.object "StowagePlan$Box"))) (C := RX1) (T := TX1) (N := 5) hx hb hts hinX1 tyX1 tyX1_ok nmX1 hown hK hP hS (by rw [h_w_2]; exact (fw_up_k (by decide)).trans hst) rfl 2 (by decide) hf11 (fun _ h9 => h9) rfl hinn rfl (by decide +kernel) rfl rfl (Nat.le_of_ble_eq_true rfl) dX1_init_9 (fun H locs hP hS => ?_)
  obtain ⟨w_3, h_w_3⟩ : ∃ x, x = fw_up (w_2) 3 (k) (.inr (1, [A0, A1, .ref (ad 4 (k)), A3, A4])) := ⟨_, rfl⟩
  have hP : fw_P D vwCl z ad w_3 H := by rw [h_w_3]; exact hP
  refine lv_aload_n hx hb dX1_init_12 rfl (lv_at hl 0 rfl) ?_
  refine lv_iconst (v := iI ((0 : Nat) : Int)) hx hb dX1_init_13 (by decide) ?_
  refine fw_put (ci := 1) (v := .int (iI ((0 : Nat) : Int))) (ty := .int) (C := RX1) (T := TX1) (N := 5) hx hb hts hinX1 tyX1 tyX1_ok nmX1 hown hK hP hS (by rw [h_w_3]; exact fw_up_same _ _ _ _) rfl 3 (by decide) hf17 (fun _ h9 => h9) rfl (by decide +kernel) rfl rfl (Nat.le_of_ble_eq_true rfl) dX1_init_14 (fun H locs hP hS => ?_)
  obtain ⟨w_4, h_w_4⟩ : ∃ x, x = fw_up (w_3) 3 (k) (.inr (1, [A0, A1, .ref (ad 4 (k)), .int (iI ((0 : Nat) : Int)), A4])) := ⟨_, rfl⟩
  have hP : fw_P D vwCl z ad w_4 H := by rw [h_w_4]; exact hP
  refine lv_aload_n hx hb dX1_init_17 rfl (lv_at hl 0 rfl) ?_
  refine lv_iload_n hx hb dX1_init_18 rfl (lv_at hl 1 rfl) ?_
  refine fw_putF (ci := 1) (v := .int (iI ((bb : Nat) : Int))) (ty := .int) (C := RX1) (T := TX1) (N := 5) hx hb hts hinX1 tyX1 tyX1_ok nmX1 hown hK hP hS (by rw [h_w_4]; exact fw_up_same _ _ _ _) rfl 0 (by decide) hf21 (fun _ h9 => h9) rfl hinn rfl (by decide +kernel) rfl rfl (Nat.le_of_ble_eq_true rfl) dX1_init_19 (fun H locs hP hS => ?_)
  obtain ⟨w_5, h_w_5⟩ : ∃ x, x = fw_up (w_4) 3 (k) (.inr (1, [.int (iI ((bb : Nat) : Int)), A1, .ref (ad 4 (k)), .int (iI ((0 : Nat) : Int)), A4])) := ⟨_, rfl⟩
  have hP : fw_P D vwCl z ad w_5 H := by rw [h_w_5]; exact hP
  refine lv_aload_n hx hb dX1_init_22 rfl (lv_at hl 0 rfl) ?_
  refine lv_iload_n hx hb dX1_init_23 rfl (lv_at hl 2 rfl) ?_
  refine fw_putF (ci := 1) (v := .int (iI ((rr : Nat) : Int))) (ty := .int) (C := RX1) (T := TX1) (N := 5) hx hb hts hinX1 tyX1 tyX1_ok nmX1 hown hK hP hS (by rw [h_w_5]; exact fw_up_same _ _ _ _) rfl 1 (by decide) hf24 (fun _ h9 => h9) rfl hinn rfl (by decide +kernel) rfl rfl (Nat.le_of_ble_eq_true rfl) dX1_init_24 (fun H locs hP hS => ?_)
  obtain ⟨w_6, h_w_6⟩ : ∃ x, x = fw_up (w_5) 3 (k) (.inr (1, [.int (iI ((bb : Nat) : Int)), .int (iI ((rr : Nat) : Int)), .ref (ad 4 (k)), .int (iI ((0 : Nat) : Int)), A4])) := ⟨_, rfl⟩
  have hP : fw_P D vwCl z ad w_6 H := by rw [h_w_6]; exact hP
  refine lv_aload_n hx hb dX1_init_27 rfl (lv_at hl 0 rfl) ?_
  refine lv_iload_n hx hb dX1_init_28 rfl (lv_at hl 3 rfl) ?_
  refine fw_put (ci := 1) (v := .int (iI (bI (g)))) (ty := .boolean) (C := RX1) (T := TX1) (N := 5) hx hb hts hinX1 tyX1 tyX1_ok nmX1 hown hK hP hS (by rw [h_w_6]; exact fw_up_same _ _ _ _) rfl 4 (by decide) hf27 (fun _ h9 => h9) rfl (by decide +kernel) (iI_narrow _) (iI_fitsb _) (Nat.le_of_ble_eq_true rfl) dX1_init_29 (fun H locs hP hS => ?_)
  obtain ⟨w_7, h_w_7⟩ : ∃ x, x = fw_up (w_6) 3 (k) (.inr (1, [.int (iI ((bb : Nat) : Int)), .int (iI ((rr : Nat) : Int)), .ref (ad 4 (k)), .int (iI ((0 : Nat) : Int)), .int (iI (bI (g)))])) := ⟨_, rfl⟩
  have hP : fw_P D vwCl z ad w_7 H := by rw [h_w_7]; exact hP
  subst hQ
  exact fw_vret hx hb hr hlocks dX1_init_32 hP hS (by rw [h_w_7, h_w_6, h_w_5, h_w_4, h_w_3, h_w_2]; first | (simp only [fw_up_up]; done) | (simp only [fw_up_up]; rfl))
