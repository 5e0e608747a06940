/-! ===== the law's start: the addresses of what it makes ===== -/
def adZ (z : Nat) : fw_Ad := fun b j => if b = 0 then z else if b = 1 then z + 1 else if b = 2 then z + 2 else if b = 3 then z + 3 + 2 * j else if b = 4 then z + 4 + 2 * j else if b = 10 then z + 63 else if b = 15 then z + 68 else z + 53 + b
theorem st_W {D : va_G} {cl : List vw_C} {z : Nat} {ad : fw_Ad} {cA : Nat → ClassId} {σ : St} {th u a : Int} {H : Heap} (hP : fw_P D cl z ad (fw_up (WM cA ad σ th u a (WC cA ad σ (fun _ _ => none))) 15 0 (.inl (cA 4, 1, .inr (.inl (fun _ => 0))))) H) : fw_P D cl z ad (WC cA ad σ (WM cA ad σ th u a (oW cA (fun _ => 0)))) H := by
  refine fw_less hP (fun b j x hx => ?_) (fun _ _ _ _ => rfl)
  rw [WCM] at hx
  by_cases h : b = 15 ∧ j = 0
  · obtain ⟨rfl, rfl⟩ := h
    rw [fw_up_same]
    have e : WM cA ad σ th u a (WC cA ad σ (oW cA (fun _ => 0))) 15 0 = some (.inl (cA 4, 1, .inr (.inl (fun _ => 0)))) := (show WC cA ad σ (oW cA (fun _ => 0)) 15 0 = some (.inl (cA 4, 1, .inr (.inl (fun _ => 0)))) from (WC_r (by decide)).trans (oW_15 cA _))
    rw [e] at hx
    exact hx
  · rw [fw_up_ne h]
    by_cases h2 : 10 ≤ b ∧ b ≤ 14
    · rcases (by omega : b = 10 ∨ b = 11 ∨ b = 12 ∨ b = 13 ∨ b = 14) with rfl | rfl | rfl | rfl | rfl <;> exact hx
    · have e : ∀ ν : fw_W, WM cA ad σ th u a ν b j = ν b j := by
        intro ν
        unfold WM
        split <;> first | omega | rfl
      rw [e] at hx ⊢
      by_cases h6 : 6 ≤ b
      · rw [WC_r h6] at hx
        unfold oW at hx
        rw [if_neg h] at hx
        cases hx
      · rcases (by omega : b = 0 ∨ b = 1 ∨ b = 2 ∨ b = 3 ∨ b = 4 ∨ b = 5) with rfl | rfl | rfl | rfl | rfl | rfl <;> exact hx
set_option maxHeartbeats 4000000 in
set_option maxRecDepth 100000 in
theorem law_entry {p : Program} {l : Launch} {e : Env} {s : State} {m : MethodId} {below : List Frame} {meth : Method} {cd : Code} {Q : State → Prop} {b L : Nat} {xs : Nat → Int32} (hx : p.tables.exec = Jvm.exec) (hb : cd.code = cL_law) (hml : cd.maxLocals = 9) (hown : s.vm.findClass RL = some m.cls) (hts : ∀ w ∈ lw_tbl, w.before #[Value.ref b] s = true) (hX : va_X b L xs s s.heap) (hbl : b < s.heap.size) (hL : L ≤ 2560) (hlocks : meth.locks = false) (hgv : (Jvm.Cond.and given_1 narrow_1).before #[Value.ref b] s = true) (hl0 : l.stackTraces = false)
    (kend : ∀ (H : Heap) (locs : List Loc) (ls : Array Slot), va_S (fw_A s.heap.size) s.heap H locs → W p l e room_1 s m #[Value.ref b] below meth cd H locs 658709 7119977 Q (F0 m 1291 ls [])) : W p l e room_1 s m #[Value.ref b] below meth cd s.heap [] 0 0 Q (entryFrame m ([Value.ref b] : List Value).toArray 9) := by
  obtain ⟨D, cA, hK⟩ := st_K hts
  have hAO := st_AO hts
  obtain ⟨sa, hE⟩ := st_E hts hgv
  have hts2 : ∀ w ∈ wsL_law, w.before #[Value.ref b] s = true := fun w hw => hts w (wsL_law_in w hw)
  have X : LX p l s m #[Value.ref b] cd b L xs D cA sa := ⟨hx, hb, hml, hown, hts2, hX, hbl, hL, hK, hAO, hE, hl0⟩
  have hl := lv_entry ([.ref b]) (n := 9) (Nat.le_of_ble_eq_true rfl)
  rw [lg_entry_eq]
  generalize (lg_sl ([.ref b]) ++ List.replicate (9 - (lg_sl ([.ref b])).length) Slot.unset).toArray = ls at hl ⊢
  have hl : lv_has ls 9 [(0, .ref b)] := hl
  obtain ⟨ad, a0, a1, a2, a3, a10, a11, a12, a13, a14, a15⟩ : ∃ ad : fw_Ad, ad 0 0 = s.heap.size ∧ ad 1 0 = s.heap.size + 1 ∧ ad 2 0 = s.heap.size + 1 + 1 ∧ (∀ k, k < 30 → ad 3 k = s.heap.size + 1 + 2 + 2 * k ∧ ad 4 k = s.heap.size + 1 + 3 + 2 * k) ∧ ad 10 0 = s.heap.size + 63 ∧ ad 11 0 = s.heap.size + 64 ∧ ad 12 0 = s.heap.size + 64 + 1 ∧ ad 13 0 = s.heap.size + 64 + 2 ∧ ad 14 0 = s.heap.size + 64 + 3 ∧ ad 15 0 = s.heap.size + 68 :=
    ⟨adZ s.heap.size, rfl, rfl, rfl, fun k _ => ⟨rfl, rfl⟩, rfl, rfl, rfl, rfl, rfl, rfl⟩
  have hP : fw_P D vwCl s.heap.size ad (fun _ _ => none) s.heap := ⟨fun _ _ _ h => (by cases h), fun _ _ _ _ _ _ h => (by cases h)⟩
  have hS : va_S (fw_A s.heap.size) s.heap s.heap [] := va_S.rf
  refine fw_new (a := 0) (i := 0) (ci := 2) (fs := [.null, .null, .int (iI ((0 : Nat) : Int)), .int (iI ((0 : Nat) : Int)), .int (iI ((0 : Nat) : Int)), .int (iI ((0 : Nat) : Int)), .int (iI ((0 : Nat) : Int)), .int (iI ((0 : Nat) : Int))]) (C := RX2) (T := TX2) (N := 8) hx hb hts2 inlX2 tyX2 tyX2_ok hown (hts2 (.classLink RL 8 RX2) (by decide +kernel)) (hts2 (.instantiable RX2 8) (by decide +kernel)) (hts2 (.initialized RX2) (by decide +kernel)) hK hP hS (Nat.le_refl _) rfl (fun j hj => by rcases (show j = 0 ∨ j = 1 ∨ j = 2 ∨ j = 3 ∨ j = 4 ∨ j = 5 ∨ j = 6 ∨ j = 7 by omega) with rfl | rfl | rfl | rfl | rfl | rfl | rfl | rfl <;> rfl) rfl a0 (Nat.le_of_ble_eq_true rfl) (Nat.le_of_ble_eq_true rfl) dL_law_0 (fun H hP hS hsz => ?_)
  refine lv_dup hx hb dL_law_3 rfl ?_
  obtain ⟨w1, h1⟩ : ∃ w9 : fw_W, w9 = fw_up (fun _ _ => none) 0 0 (.inr (2, [.null, .null, .int (iI ((0 : Nat) : Int)), .int (iI ((0 : Nat) : Int)), .int (iI ((0 : Nat) : Int)), .int (iI ((0 : Nat) : Int)), .int (iI ((0 : Nat) : Int)), .int (iI ((0 : Nat) : Int))])) := ⟨_, rfl⟩
  have hP : fw_P D vwCl s.heap.size ad w1 H := by rw [h1]; exact hP
  refine fa_cI (As := []) (rest := [.ref (ad 0 0)]) ⟨hx, hb, hml, hown, hts2⟩ (c_X2_init l D cA s.heap.size ad w1 (s.heap.size + 1) .null .null (.int (iI ((0 : Nat) : Int))) (.int (iI ((0 : Nat) : Int))) (.int (iI ((0 : Nat) : Int))) (.int (iI ((0 : Nat) : Int))) (.int (iI ((0 : Nat) : Int))) (.int (iI ((0 : Nat) : Int))) (by rw [h1]; exact fw_up_same _ _ _ _) (fun b j h => by rw [h1]; exact (fw_up_ne h).trans rfl) ⟨a1, a2, a3⟩) (cwI 0 hts2 gL_law_X2_init rfl rfl rfl (hts2 (.initialized RX2) (by decide +kernel)) (hts2 (.methodLink RL 61 yX2_init) (by decide +kernel)) (hts2 (.instanceMethod yX2_init) (by decide +kernel)) rfl (by decide +kernel) ⟨Nat.le_of_ble_eq_true rfl, Nat.le_of_ble_eq_true rfl⟩) rfl hl.1 (Nat.le_of_ble_eq_true rfl) dL_law_4 ⟨Nat.le_of_ble_eq_true rfl, Nat.le_of_ble_eq_true rfl⟩ hK hsz hAO hP hS rfl (fun w' H locs q hP hS => ?_)
  subst q
  refine W.sized (fun hsz2 => ?_)
  have hlt := fw_lt hP (WC_4 (k := 29) (by decide))
  have hsz3 : H.size = s.heap.size + 63 := by have := (a3 29 (by decide)).2; omega
  refine lv_astore_n (lv' := [(1, .ref (ad 0 0)), (0, .ref b)]) hx hb dL_law_7 rfl hl (by decide) rfl (fun ls hl => ?_)
  refine fw_new (a := 10) (i := 0) (ci := 3) (fs := [.int (iI ((0 : Nat) : Int)), .int (iI ((0 : Nat) : Int)), .null, .null, .null, .null, .int (iI ((0 : Nat) : Int)), .int (iI ((0 : Nat) : Int)), .int (iI ((0 : Nat) : Int)), .int (iI ((0 : Nat) : Int)), .int (iI ((0 : Nat) : Int)), .int (iI ((0 : Nat) : Int)), .int (iI ((0 : Nat) : Int))]) (C := RX3) (T := TX3) (N := 13) hx hb hts2 inlX3 tyX3 tyX3_ok hown (hts2 (.classLink RL 62 RX3) (by decide +kernel)) (hts2 (.instantiable RX3 13) (by decide +kernel)) (hts2 (.initialized RX3) (by decide +kernel)) hK hP hS hS.1 rfl (fun j hj => by rcases (show j = 0 ∨ j = 1 ∨ j = 2 ∨ j = 3 ∨ j = 4 ∨ j = 5 ∨ j = 6 ∨ j = 7 ∨ j = 8 ∨ j = 9 ∨ j = 10 ∨ j = 11 ∨ j = 12 by omega) with rfl | rfl | rfl | rfl | rfl | rfl | rfl | rfl | rfl | rfl | rfl | rfl | rfl <;> rfl) ((WC_r (by decide)).trans rfl) (a10.trans hsz3.symm) (Nat.le_of_ble_eq_true rfl) (Nat.le_of_ble_eq_true rfl) dL_law_8 (fun H hP hS hsz4 => ?_)
  refine lv_dup hx hb dL_law_11 rfl ?_
  obtain ⟨w2, h2⟩ : ∃ w9 : fw_W, w9 = fw_up (WC cA ad σ0 (fun _ _ => none)) 10 0 (.inr (3, [.int (iI ((0 : Nat) : Int)), .int (iI ((0 : Nat) : Int)), .null, .null, .null, .null, .int (iI ((0 : Nat) : Int)), .int (iI ((0 : Nat) : Int)), .int (iI ((0 : Nat) : Int)), .int (iI ((0 : Nat) : Int)), .int (iI ((0 : Nat) : Int)), .int (iI ((0 : Nat) : Int)), .int (iI ((0 : Nat) : Int))])) := ⟨_, rfl⟩
  have hP : fw_P D vwCl s.heap.size ad w2 H := by rw [h2]; exact hP
  have hn : ∀ b, 11 ≤ b → w2 b 0 = none := fun b hb9 => by rw [h2, fw_up_k (by omega), WC_r (by omega)]
  refine fa_cI (As := []) (rest := [.ref (ad 10 0)]) ⟨hx, hb, hml, hown, hts2⟩ (c_X3_init l D cA s.heap.size ad w2 (WC cA ad σ0 (fun _ _ => none)) (s.heap.size + 64) .null .null .null .null (.int (iI ((0 : Nat) : Int))) (.int (iI ((0 : Nat) : Int))) (.int (iI ((0 : Nat) : Int))) (by rw [h2]; exact fw_up_same _ _ _ _) (hn 11 (by decide)) (hn 12 (by decide)) (hn 13 (by decide)) (hn 14 (by decide)) (fun b j h => by rw [h2]; exact fw_up_ne (fun q => h (by omega))) ⟨a11, a12, a13, a14⟩) (cwI 0 hts2 gL_law_X3_init rfl rfl rfl (hts2 (.initialized RX3) (by decide +kernel)) (hts2 (.methodLink RL 64 yX3_init) (by decide +kernel)) (hts2 (.instanceMethod yX3_init) (by decide +kernel)) rfl (by decide +kernel) ⟨Nat.le_of_ble_eq_true rfl, Nat.le_of_ble_eq_true rfl⟩) rfl hl.1 (Nat.le_of_ble_eq_true rfl) dL_law_12 ⟨Nat.le_of_ble_eq_true rfl, Nat.le_of_ble_eq_true rfl⟩ hK (by omega) hAO hP hS rfl (fun w' H locs q hP hS => ?_)
  subst q
  refine W.sized (fun hsz5 => ?_)
  have hlt2 := fw_lt hP WM_14
  have hsz6 : H.size = s.heap.size + 68 := by omega
  refine lv_astore_n (lv' := [(2, .ref (ad 10 0)), (1, .ref (ad 0 0)), (0, .ref b)]) hx hb dL_law_15 rfl hl (by decide) rfl (fun ls hl => ?_)
  refine lv_iconst (v := iI ((1 : Nat) : Int)) hx hb dL_law_16 (by decide) ?_
  refine fw_newa (a := 15) (i := 0) (N := 1) (ty := .long) (a0 := (1, .inr (.inl (fun _ => 0)))) hx hb (hts2 (.arrayClass .long) (by decide +kernel)) rfl hK hP hS hS.1 4 rfl id (fun _ => rfl) rfl (by decide) (by decide) (show WC cA ad σ0 (fun _ _ => none) 15 0 = none from (WC_r (by decide)).trans rfl) (a15.trans hsz6.symm) (Nat.le_of_ble_eq_true rfl) (Nat.le_of_ble_eq_true rfl) dL_law_17 (fun H hP hS hsz7 => ?_)
  have hP := st_W hP
  refine lv_astore_n (lv' := [(3, .ref (ad 15 0)), (2, .ref (ad 10 0)), (1, .ref (ad 0 0)), (0, .ref b)]) hx hb dL_law_19 rfl hl (by decide) rfl (fun ls hl => ?_)
  refine lv_iconst (v := iI ((0 : Nat) : Int)) hx hb dL_law_20 (by decide) ?_
  refine lv_istore (lv' := [(4, .int (iI ((0 : Nat) : Int))), (3, .ref (ad 15 0)), (2, .ref (ad 10 0)), (1, .ref (ad 0 0)), (0, .ref b)]) hx hb dL_law_21 hl (by decide) rfl (fun ls hl => ?_)
  exact law_loop X hlocks kend 512 0 _ _ σ0 ad _ _ _ _ H _ ls (by omega) (by decide) (Nat.le_of_ble_eq_true rfl) (Nat.le_of_ble_eq_true rfl) Inv_0 hP hS (lv_sub hl [4, 3, 2, 1, 0] rfl)
