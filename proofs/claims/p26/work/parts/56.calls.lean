/-! ===== the law's own calls ===== -/
theorem lx_and (a b : Nat) : nI a &&& nI b = nI (a &&& b) := by
  apply Int32.toBitVec_inj.1
  show BitVec.ofNat 32 a &&& BitVec.ofNat 32 b = BitVec.ofNat 32 (a &&& b)
  apply BitVec.eq_of_getLsbD_eq
  intro i hi
  simp [hi]
theorem lx_mask (x : Int32) : ∃ k : Nat, k ≤ 2147483647 ∧ x &&& 2147483647 = iI (k : Int) := by
  have e : x = nI x.toBitVec.toNat := by
    apply Int32.toBitVec_inj.1
    show x.toBitVec = BitVec.ofNat 32 x.toBitVec.toNat
    simp
  have hm : x.toBitVec.toNat % 2147483648 < 2147483648 := Nat.mod_lt _ (by omega)
  refine ⟨x.toBitVec.toNat % 2147483648, by omega, ?_⟩
  have e2 : nI x.toBitVec.toNat &&& nI 2147483647 = nI (x.toBitVec.toNat % 2147483648) := by
    rw [lx_and, show (2147483647 : Nat) = 2 ^ 31 - 1 from rfl, Nat.and_two_pow_sub_one_eq_mod]
  rw [iI_nI, ← e2, ← e]
  rfl
theorem upd_o {f : Nat → Int32} {j i : Nat} {x : Int32} (h : i ≠ j) : upd f j x i = f i := if_neg h
theorem upd_s {f : Nat → Int32} {j : Nat} {x : Int32} : upd f j x j = x := if_pos rfl
abbrev rm_L_below : Room := { frames := 0, cells := 0, slots := 0, locals := 0 }
set_option maxHeartbeats 4000000 in
set_option maxRecDepth 100000 in
theorem c_L_below (l : Launch) (x : Int32) (n : Nat) (hn : 0 < n) (hn2 : n ≤ 2147483647) : Met l yL_below wsL_below rm_L_below (va_Pc [.int x, .int (iI (n : Int))] (fun _ => True)) (va_Qi (S := Unit) (fun r _ => ∃ k : Nat, k < n ∧ r = iI (k : Int)) (fun _ _ => True) (fun _ => False)) 0 0 (fun _ => False) := by
  refine Met.ofW (cc := cL_below) (maxL := 2) (ret := (some .int)) (by decide) rfl ?_
  intro pg en s m args below meth cd s₁ B hml hv
  obtain ⟨hargs, -⟩ := hv
  have hx := B.exec
  have hb := B.bytes
  have hr := B.returns
  have hts := atoms_spec (ws := wsL_below) B.pre
  have hown : s.vm.findClass RL = some m.cls := findClass_of_methodNamed B.named
  have hlocks := B.notSynchronized
  have hl := lv_entry ([.int x, .int (iI (n : Int))]) (n := 2) (Nat.le_of_ble_eq_true rfl)
  have hent : entryFrame m args 2 = entryFrame m ([.int x, .int (iI (n : Int))] : List Value).toArray 2 := by rw [hargs]
  rw [hent, lg_entry_eq]
  generalize (lg_sl ([.int x, .int (iI (n : Int))]) ++ List.replicate (2 - (lg_sl ([.int x, .int (iI (n : Int))])).length) Slot.unset).toArray = ls at hl ⊢
  have hl : lv_has ls 2 [(0, .int x), (1, .int (iI (n : Int)))] := hl
  have hS : va_S (fun _ => False) s.heap s.heap [] := va_S.rf
  refine lv_iload_n hx hb dL_below_0 rfl (lv_at hl 0 rfl) ?_
  refine lv_ldc (v := 2147483647) hx hb hown (hts (.constant RL 7 (2147483647)) (by decide +kernel)) dL_below_1 ?_
  refine lv_iand hx hb dL_below_3 ?_
  obtain ⟨k, hk, hke⟩ := lx_mask x
  refine fw_top (v' := .int (iI (k : Int))) (congrArg Value.int hke) ?_
  refine lv_iload_n hx hb dL_below_4 rfl (lv_at hl 1 rfl) ?_
  refine fw_iremN (a := k) (b := n) hx hb dL_below_5 hk hn hn2 ?_
  exact W.iret hx hb hr (fun t ht hW => ⟨⟨_, (), rfl, ⟨k % n, Nat.mod_lt _ hn, rfl⟩, trivial⟩, hS.F ht⟩) hS.2.2 dL_below_6 hlocks
abbrev rm_L_cell : Room := { frames := 0, cells := 0, slots := 0, locals := 0 }
def lc_Pre (b L : Nat) (xs : Nat → Int32) : State → Prop := fun U => va_X b L xs U U.heap ∧ b < U.heap.size
set_option maxHeartbeats 4000000 in
set_option maxRecDepth 100000 in
theorem c_L_cell (l : Launch) (b L : Nat) (xs : Nat → Int32) (hL : L ≤ 260) (n : Nat) (hn : n ≤ 1000) : Met l yL_cell wsL_cell rm_L_cell (va_Pc [.ref b, .int (iI (n : Int))] (lc_Pre b L xs)) (va_Qi (S := Unit) (fun _ _ => True) (fun _ _ => True) (fun _ => False)) 0 0 (fun _ => False) := by
  refine Met.ofW (cc := cL_cell) (maxL := 2) (ret := (some .int)) (by decide) rfl ?_
  intro pg en s m args below meth cd s₁ B hml hv
  obtain ⟨hargs, hX, hbl⟩ := hv
  have hx := B.exec
  have hb := B.bytes
  have hr := B.returns
  have hts := atoms_spec (ws := wsL_cell) B.pre
  have hown : s.vm.findClass RL = some m.cls := findClass_of_methodNamed B.named
  have hlocks := B.notSynchronized
  have hl := lv_entry ([.ref b, .int (iI (n : Int))]) (n := 2) (Nat.le_of_ble_eq_true rfl)
  have hent : entryFrame m args 2 = entryFrame m ([.ref b, .int (iI (n : Int))] : List Value).toArray 2 := by rw [hargs]
  rw [hent, lg_entry_eq]
  generalize (lg_sl ([.ref b, .int (iI (n : Int))]) ++ List.replicate (2 - (lg_sl ([.ref b, .int (iI (n : Int))])).length) Slot.unset).toArray = ls at hl ⊢
  have hl : lv_has ls 2 [(0, .ref b), (1, .int (iI (n : Int)))] := hl
  have hS : va_S (fun _ => False) s.heap s.heap [] := va_S.rf
  refine lv_iload_n hx hb dL_cell_0 rfl (lv_at hl 1 rfl) ?_
  refine lv_aload_n hx hb dL_cell_1 rfl (lv_at hl 0 rfl) ?_
  refine va_slen hx hb hX hbl (A := fun _ => False) id hS dL_cell_2 ?_
  refine fw_topP (b := (L : Int)) (iI_nI L).symm ?_
  refine fw_icmp_ge (x := (n : Int)) (y := (L : Int)) (tgt := 12) hx hb dL_cell_3 (by decide) ⟨by omega, by omega⟩ ⟨by omega, by omega⟩ (fun q => ?_) (fun q => ?_)
  · refine lv_ldc (v := 790386105) hx hb hown (hts (.constant RL 8 (790386105)) (by decide +kernel)) dL_cell_12 ?_
    refine lv_iload_n hx hb dL_cell_14 rfl (lv_at hl 1 rfl) ?_
    refine lv_iconst (v := iI ((3 : Nat) : Int)) hx hb dL_cell_15 (by decide) ?_
    refine lv_iadd hx hb dL_cell_16 ?_
    refine lv_imul hx hb dL_cell_17 ?_
    exact W.iret hx hb hr (fun t ht hW => ⟨⟨_, (), rfl, trivial, trivial⟩, hS.F ht⟩) hS.2.2 dL_cell_18 hlocks
  · refine lv_aload_n hx hb dL_cell_6 rfl (lv_at hl 0 rfl) ?_
    refine lv_iload_n hx hb dL_cell_7 rfl (lv_at hl 1 rfl) ?_
    refine va_sld hx hb hX hbl (A := fun _ => False) id hS (iI_in (k := n) (by omega) (by omega)) dL_cell_8 ?_
    refine lv_goto (tgt := 18) hx hb dL_cell_9 (by decide) ?_
    exact W.iret hx hb hr (fun t ht hW => ⟨⟨_, (), rfl, trivial, trivial⟩, hS.F ht⟩) hS.2.2 dL_cell_18 hlocks
section LAWC
variable {p : Program} {l : Launch} {e : Env} {R : Room} {s : State} {m : MethodId} {args : Array Value} {below : List Frame} {meth : Method} {c : Code} {H : Heap} {locs : List Loc} {cells slots : Nat} {Q : State → Prop}
variable {cc : ByteArray} {pc : Nat} {ls : Array Slot} {rest As stk : List Value} {D : va_G} {cl : List vw_C} {tys : List (ClassId × FieldType)} {z : Nat} {ad : fw_Ad} {w : fw_W} {sa : Nat → Nat} {b k : Nat}
variable {y : MethodName} {bytes : ByteArray} {maxL nL mc ms n nh index ci N : Nat} {ret : Option FieldType} {ws : List Cond} {rm : Room} {Ts : List Cond} {own C : String} {T : u_T} {fs : List Value} {hh : List (Nat × Nat × Nat × Nat)}
theorem fl_shr (hexec : p.tables.exec = Jvm.exec) (hb : c.code = cc) {x y : Int32} (hdg : decode cc pc = .ok (.ishr, 1)) (kk : ∀ v : Int32, W p l e R s m args below meth c H locs cells slots Q (F0 m (pc + 1) ls (.int v :: rest))) : W p l e R s m args below meth c H locs cells slots Q (F0 m pc ls (.int y :: .int x :: rest)) := lv_ishr hexec hb hdg (kk _)
theorem fl_below {x : Int32} {k : Nat} (S : CallFix p m c cc nL s args Ts own) (cw : CallB R s args own index yL_below bytes maxL ret wsL_below rm_L_below 0 0 2 ∧ (Cond.static yL_below).before args s = true) (hk0 : 0 < k) (hk2 : k ≤ 2147483647) (hsize : ls.size = nL) (hW : (rest.map fun v => v.category).sum ≤ 8) (hdg : decode cc pc = .ok (.invokestatic index, 3)) (hf : cells + 0 ≤ R.cells ∧ slots + 0 ≤ R.slots) (hP : fw_P D cl z ad w H) (hS : va_S (fw_A z) s.heap H locs)
    (kk : ∀ (r : Nat) (H1 : Heap) (locs1 : List Loc), r < k → fw_P D cl z ad w H1 → va_S (fw_A z) s.heap H1 locs1 → H.size ≤ H1.size → W p l e R s m args below meth c H1 locs1 (cells + 0) (slots + 0) Q (F0 m (pc + 3) ls (.int (iI (r : Int)) :: rest))) : W p l e R s m args below meth c H locs cells slots Q (F0 m pc ls (.int (iI (k : Int)) :: .int x :: rest)) :=
  va_calli (va_runS (As := [.int x, .int (iI (k : Int))]) (rest := rest) S (c_L_below l x k hk0 hk2) cw ⟨fun _ _ _ _ q => q, fun U hU hW => ⟨rfl, trivial⟩⟩ rfl rfl hsize rfl (lv_room hW) hdg hf) hS (fun q _ h => h.elim) (fun q h => h.elim)
    (fun r u t H1 locs1 ht hvm hp hB hz hk hS1 => by
      obtain ⟨j, hj, rfl⟩ := hp
      exact kk j H1 locs1 hj (fw_grow hP (fun q hq => hk q hq id)) hS1 hz)
theorem fl_cell {sb L : Nat} {xs : Nat → Int32} {k : Nat} (S : CallFix p m c cc nL s args Ts own) (cw : CallB R s args own index yL_cell bytes maxL ret wsL_cell rm_L_cell 0 0 2 ∧ (Cond.static yL_cell).before args s = true) (hX : va_X sb L xs s s.heap) (hbl : sb < s.heap.size) (hbz : ¬ fw_A z sb) (hL : L ≤ 260) (hk : k ≤ 1000) (hsize : ls.size = nL) (hW : (rest.map fun v => v.category).sum ≤ 8) (hdg : decode cc pc = .ok (.invokestatic index, 3)) (hf : cells + 0 ≤ R.cells ∧ slots + 0 ≤ R.slots) (hP : fw_P D cl z ad w H) (hS : va_S (fw_A z) s.heap H locs)
    (kk : ∀ (r : Int32) (H1 : Heap) (locs1 : List Loc), fw_P D cl z ad w H1 → va_S (fw_A z) s.heap H1 locs1 → W p l e R s m args below meth c H1 locs1 (cells + 0) (slots + 0) Q (F0 m (pc + 3) ls (.int r :: rest))) : W p l e R s m args below meth c H locs cells slots Q (F0 m pc ls (.int (iI (k : Int)) :: .ref sb :: rest)) :=
  va_calli (va_runS (As := [.ref sb, .int (iI (k : Int))]) (rest := rest) S (c_L_cell l sb L xs hL k hk) cw ⟨fun _ U _ _ q => ⟨q.1, va_X.moved (u := U) (Vm.Alike.refl U.vm) q.2.1, q.2.2⟩, fun U hU hW => ⟨rfl, by rw [hU]; exact (hX.kept (hS.2.1 sb hbl hbz)).moved hW.alike, by rw [hU]; exact Nat.lt_of_lt_of_le hbl hS.1⟩⟩ rfl rfl hsize rfl (lv_room hW) hdg hf) hS (fun q _ h => h.elim) (fun q h => h.elim)
    (fun r u t H1 locs1 ht hvm hp hB hz hk hS1 => kk r H1 locs1 (fw_grow hP (fun q hq => hk q hq id)) hS1)
/-- a call of a method that may throw, where it can't -/
theorem fn_cVi {post : Int32 → fw_W → Prop} {px : String → fw_W → Prop} (S : CallFix p m c cc nL s args Ts own) (hM : vx_Met l y ws rm (va_Pc (.ref (ad b k) :: As) (fx_Pre D cl tys z ad w sa)) (fw_Qi D cl z ad post) (fx_X D cl z ad px) mc ms (fw_A z)) (cw : CallW R s args own C index y bytes maxL ret ws rm mc ms n) (hrc : w b k = some (.inr (ci, fs))) (hc : cl[ci]? = some (C, T, N)) (hn : As.length = n) (hsize : ls.size = nL) (hW : (rest.map fun v => v.category).sum ≤ 8) (hdg : decode cc pc = .ok (.invokevirtual index, 3)) (hf : cells + mc ≤ R.cells ∧ slots + ms ≤ R.slots) (hK : va_K D cl tys s) (hE : tx_E z sa s s.heap) (hP : fw_P D cl z ad w H) (hS : va_S (fw_A z) s.heap H locs) (hstk : stk = As.reverse ++ .ref (ad b k) :: rest)
    (kx : ∀ (E : String) (w' : fw_W), px E w' → False)
    (kk : ∀ (r : Int32) (w' : fw_W) (H1 : Heap) (locs1 : List Loc), post r w' → fw_P D cl z ad w' H1 → va_S (fw_A z) s.heap H1 locs1 → W p l e R s m args below meth c H1 locs1 (cells + mc) (slots + ms) Q (F0 m (pc + 3) ls (.int r :: rest))) : W p l e R s m args below meth c H locs cells slots Q (F0 m pc ls stk) :=
  fx_cVi S hM cw hrc hc hn hsize hW hdg hf hK hE hP hS hstk (fun E _ _ w' _ _ h => (kx E w' h).elim) kk
theorem fn_sVi {post : Int32 → fw_W → Prop} {px : String → fw_W → Prop} (S : CallFix p m c cc nL s args Ts own) (hM : vx_Met l y ws rm (va_Pc (.ref (ad b k) :: As) (fs_Pre D cl tys z ad w sa nh)) (fw_Qi D cl z ad post) (fx_X D cl z ad px) mc ms (fw_A z)) (cw : CallW R s args own C index y bytes maxL ret ws rm mc ms n) (hrc : w b k = some (.inr (ci, fs))) (hc : cl[ci]? = some (C, T, N)) (hn : As.length = n) (hsize : ls.size = nL) (hW : (rest.map fun v => v.category).sum ≤ 8) (hdg : decode cc pc = .ok (.invokevirtual index, 3)) (hf : cells + mc ≤ R.cells ∧ slots + ms ≤ R.slots) (hK : va_K D cl tys s) (hnh : H.size = nh) (hE : tx_E z sa s s.heap) (hP : fw_P D cl z ad w H) (hS : va_S (fw_A z) s.heap H locs) (hstk : stk = As.reverse ++ .ref (ad b k) :: rest)
    (kx : ∀ (E : String) (w' : fw_W), px E w' → False)
    (kk : ∀ (r : Int32) (w' : fw_W) (H1 : Heap) (locs1 : List Loc), post r w' → fw_P D cl z ad w' H1 → va_S (fw_A z) s.heap H1 locs1 → W p l e R s m args below meth c H1 locs1 (cells + mc) (slots + ms) Q (F0 m (pc + 3) ls (.int r :: rest))) : W p l e R s m args below meth c H locs cells slots Q (F0 m pc ls stk) :=
  fs_cVi S hM cw hrc hc hn hsize hW hdg hf hK hnh hE hP hS hstk (fun E _ _ w' _ _ h => (kx E w' h).elim) kk
/-- a static call, the heap's size known -/
theorem fa_cSq {post : Option Nat → fw_W → Prop} {H0 : Heap} (S : CallFix p m c cc nL s args Ts own) (hM : Met l y ws rm (va_Pc As (fa_Pre D cl tys z ad w nh)) (fw_Qq D cl z ad post) mc ms (fw_A z)) (cw : CallB R s args own index y bytes maxL ret ws rm mc ms n ∧ (Cond.static y).before args s = true) (hn : As.length = n) (hsize : ls.size = nL) (hW : (rest.map fun v => v.category).sum ≤ 8) (hdg : decode cc pc = .ok (.invokestatic index, 3)) (hf : cells + mc ≤ R.cells ∧ slots + ms ≤ R.slots) (hK : va_K D cl tys s) (hnh : H.size = nh) (hAO : va_AO RX0 s ∧ va_AO RX1 s) (hP : fw_P D cl z ad w H) (hS : va_S (fw_A z) H0 H locs) (hstk : stk = As.reverse ++ rest)
    (kk : ∀ (r : Option Nat) (w' : fw_W) (H1 : Heap) (locs1 : List Loc), post r w' → fw_P D cl z ad w' H1 → va_S (fw_A z) H0 H1 locs1 → W p l e R s m args below meth c H1 locs1 (cells + mc) (slots + ms) Q (F0 m (pc + 3) ls (va_rf r :: rest))) : W p l e R s m args below meth c H locs cells slots Q (F0 m pc ls stk) := by
  subst hstk
  exact va_callq (va_runS (As := As) (rest := rest) S hM cw ⟨fa_blind, fun U hU hW => ⟨rfl, ⟨by rw [hU]; exact hP, va_K.moved hW.alike hK⟩, by rw [hU]; exact hnh, va_AO.moved hW.alike hAO.1, va_AO.moved hW.alike hAO.2⟩⟩ rfl hn hsize rfl (lv_room hW) hdg hf) hS (fun q _ h => h) (fun q h => h) (fun r u t H1 locs1 ht hvm hp hB hz hk hS1 => kk r u H1 locs1 hp (by rw [← ht]; exact hB) hS1)
theorem fz_cSi {post : Int32 → fw_W → Prop} (S : CallFix p m c cc nL s args Ts own) (hM : Met l y ws rm (va_Pc As (fs_Pre D cl tys z ad w sa nh)) (fw_Qi D cl z ad post) mc ms (fw_A z)) (cw : CallB R s args own index y bytes maxL ret ws rm mc ms n ∧ (Cond.static y).before args s = true) (hn : As.length = n) (hsize : ls.size = nL) (hW : (rest.map fun v => v.category).sum ≤ 8) (hdg : decode cc pc = .ok (.invokestatic index, 3)) (hf : cells + mc ≤ R.cells ∧ slots + ms ≤ R.slots) (hK : va_K D cl tys s) (hnh : H.size = nh) (hE : tx_E z sa s s.heap) (hP : fw_P D cl z ad w H) (hS : va_S (fw_A z) s.heap H locs) (hstk : stk = As.reverse ++ rest)
    (kk : ∀ (r : Int32) (w' : fw_W) (H1 : Heap) (locs1 : List Loc), post r w' → fw_P D cl z ad w' H1 → va_S (fw_A z) s.heap H1 locs1 → W p l e R s m args below meth c H1 locs1 (cells + mc) (slots + ms) Q (F0 m (pc + 3) ls (.int r :: rest))) : W p l e R s m args below meth c H locs cells slots Q (F0 m pc ls stk) := by
  subst hstk
  exact va_calli (va_runS (As := As) (rest := rest) S hM cw ⟨fs_blind, fun U hU hW => ⟨rfl, ⟨⟨by rw [hU]; exact hP, va_K.moved hW.alike hK⟩, by rw [hU]; exact (hE.kept hS).warm hW⟩, by rw [hU]; exact hnh⟩⟩ rfl hn hsize rfl (lv_room hW) hdg hf) hS (fun q _ h => h) (fun q h => h) (fun r u t H1 locs1 ht hvm hp hB hz hk hS1 => kk r u H1 locs1 hp (by rw [← ht]; exact hB) hS1)
end LAWC
/-! the law's own arrays beside the plan's cells -/
theorem WC_up {cA : Nat → ClassId} {ad : fw_Ad} {σ : St} {μ : fw_W} {i k : Nat} {x : va_E} (h : 6 ≤ i) : fw_up (WC cA ad σ μ) i k x = WC cA ad σ (fw_up μ i k x) := by
  funext b j
  by_cases q : b = i ∧ j = k
  · obtain ⟨rfl, rfl⟩ := q
    rw [fw_up_same, WC_r h, fw_up_same]
  · rw [fw_up_ne q]
    by_cases hb : 6 ≤ b
    · rw [WC_r hb, WC_r hb, fw_up_ne q]
    · rcases (by omega : b = 0 ∨ b = 1 ∨ b = 2 ∨ b = 3 ∨ b = 4 ∨ b = 5) with rfl | rfl | rfl | rfl | rfl | rfl <;> rfl
def nW : fw_W := fun _ _ => none
def aW (cA : Nat → ClassId) (f : Nat → Int32) : fw_W := fw_up nW 15 0 (.inl (cA 0, 360, .inl f))
def rW (cA : Nat → ClassId) (f r : Nat → Int32) : fw_W := fw_up (aW cA f) 17 0 (.inl (cA 0, 5, .inl r))
def sW (cA : Nat → ClassId) (f : Nat → Int32) : fw_W := fw_up nW 18 0 (.inl (cA 0, 18, .inl f))
theorem aW_15 (cA : Nat → ClassId) (f : Nat → Int32) : aW cA f 15 0 = some (.inl (cA 0, 360, .inl f)) := fw_up_same _ _ _ _
theorem rW_15 (cA : Nat → ClassId) (f r : Nat → Int32) : rW cA f r 15 0 = some (.inl (cA 0, 360, .inl f)) := (fw_up_k (by decide)).trans (aW_15 cA f)
theorem rW_17 (cA : Nat → ClassId) (f r : Nat → Int32) : rW cA f r 17 0 = some (.inl (cA 0, 5, .inl r)) := fw_up_same _ _ _ _
theorem sW_18 (cA : Nat → ClassId) (f : Nat → Int32) : sW cA f 18 0 = some (.inl (cA 0, 18, .inl f)) := fw_up_same _ _ _ _
theorem aW_up (cA : Nat → ClassId) (ad : fw_Ad) (σ : St) (f f2 : Nat → Int32) : fw_up (WC cA ad σ (aW cA f)) 15 0 (.inl (cA 0, 360, .inl f2)) = WC cA ad σ (aW cA f2) := by
  rw [WC_up (by decide), aW, fw_up_up]; rfl
theorem rW_up (cA : Nat → ClassId) (ad : fw_Ad) (σ : St) (f r r2 : Nat → Int32) : fw_up (WC cA ad σ (rW cA f r)) 17 0 (.inl (cA 0, 5, .inl r2)) = WC cA ad σ (rW cA f r2) := by
  rw [WC_up (by decide), rW, fw_up_up]; rfl
theorem rW_up2 (cA : Nat → ClassId) (ad : fw_Ad) (σ : St) (f r f2 : Nat → Int32) : fw_up (WC cA ad σ (rW cA f r)) 15 0 (.inl (cA 0, 360, .inl f2)) = WC cA ad σ (rW cA f2 r) := by
  rw [WC_up (by decide)]
  have : fw_up (rW cA f r) 15 0 (.inl (cA 0, 360, .inl f2)) = rW cA f2 r := by
    funext b j
    unfold rW aW fw_up
    by_cases h : b = 15 ∧ j = 0
    · rw [if_pos h, if_neg (by omega), if_pos h]
    · rw [if_neg h, if_neg h, if_neg h]
  rw [this]
theorem sW_up (cA : Nat → ClassId) (ad : fw_Ad) (σ : St) (f f2 : Nat → Int32) : fw_up (WC cA ad σ (sW cA f)) 18 0 (.inl (cA 0, 18, .inl f2)) = WC cA ad σ (sW cA f2) := by
  rw [WC_up (by decide), sW, fw_up_up]; rfl
/-- the law's own cells are let go -/
theorem fw_drop {D : va_G} {cl : List vw_C} {z : Nat} {cA : Nat → ClassId} {ad : fw_Ad} {σ : St} {μ ν : fw_W} {H : Heap} (h : fw_P D cl z ad (WC cA ad σ μ) H) (hs : ∀ b j x, 6 ≤ b → ν b j = some x → μ b j = some x) : fw_P D cl z ad (WC cA ad σ ν) H := by
  refine fw_less h (fun b j x hx => ?_) (fun _ _ _ _ => rfl)
  by_cases hb : 6 ≤ b
  · rw [WC_r hb] at hx
    rw [WC_r hb]
    exact hs b j x hb hx
  · rcases (by omega : b = 0 ∨ b = 1 ∨ b = 2 ∨ b = 3 ∨ b = 4 ∨ b = 5) with rfl | rfl | rfl | rfl | rfl | rfl <;> exact hx
theorem fw_dropn {D : va_G} {cl : List vw_C} {z : Nat} {cA : Nat → ClassId} {ad : fw_Ad} {σ : St} {μ : fw_W} {H : Heap} (h : fw_P D cl z ad (WC cA ad σ μ) H) : fw_P D cl z ad (WC cA ad σ nW) H := fw_drop h (fun b j x _ q => by cases q)
theorem fw_dropr {D : va_G} {cl : List vw_C} {z : Nat} {cA : Nat → ClassId} {ad : fw_Ad} {σ : St} {f r : Nat → Int32} {H : Heap} (h : fw_P D cl z ad (WC cA ad σ (rW cA f r)) H) : fw_P D cl z ad (WC cA ad σ (aW cA f)) H := fw_drop h (fun b j x _ q => by
  by_cases e : b = 17 ∧ j = 0
  · obtain ⟨rfl, rfl⟩ := e
    have : aW cA f 17 0 = none := fw_up_k (by decide)
    rw [this] at q; cases q
  · rw [rW, fw_up_ne e]; exact q)
