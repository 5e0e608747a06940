set_option maxHeartbeats 4000000 in
set_option maxRecDepth 100000 in
theorem law_entry {p : Program} {l : Launch} {e : Env} {s : State} {m : MethodId} {below : List Frame} {meth : Method} {cd : Code} {Q : State → Prop} {b L : Nat} {xs : Nat → Int32} (hx : p.tables.exec = Jvm.exec) (hb : cd.code = cL_law) (hml : cd.maxLocals = 17) (hown : s.vm.findClass RL = some m.cls) (hts : ∀ w ∈ lw_tbl, w.before #[Value.ref b] s = true) (hX : va_X b L xs s s.heap) (hbl : b < s.heap.size) (hL : L ≤ 260) (hgv : (Jvm.Cond.and given_1 narrow_1).before #[Value.ref b] s = true) (hl0 : l.stackTraces = false)
    (kend : ∀ pc : Nat, decode cL_law pc = .ok (.ireturn, 1) → ∀ (H : Heap) (locs : List Loc) (ls : Array Slot), va_S (fw_A s.heap.size) s.heap H locs → W p l e room_1 s m #[Value.ref b] below meth cd H locs 623024 7232551 Q (F0 m pc ls [.int (iI ((1 : Nat) : Int))])) : W p l e room_1 s m #[Value.ref b] below meth cd s.heap [] 0 0 Q (entryFrame m ([Value.ref b] : List Value).toArray 17) := by
  obtain ⟨D, cA, hK⟩ := st_K hts
  have hAO := st_AO hts
  obtain ⟨sa, hE⟩ := st_E hts hgv
  have hts2 : ∀ w ∈ wsL_law, w.before #[Value.ref b] s = true := fun w hw => hts w (wsL_law_in w hw)
  have X : LX p l s m #[Value.ref b] cd b L xs D cA sa s.heap.size := ⟨hx, hb, hml, hown, hts2, hX, hbl, hL, hK, hAO, hE, hl0, rfl, fun h => by have : s.heap.size ≤ b := h; omega⟩
  have hl := lv_entry ([.ref b]) (n := 17) (Nat.le_of_ble_eq_true rfl)
  rw [lg_entry_eq]
  generalize (lg_sl ([.ref b]) ++ List.replicate (17 - (lg_sl ([.ref b])).length) Slot.unset).toArray = ls at hl ⊢
  have hl : lv_has ls 17 [(0, .ref b)] := hl
  obtain ⟨ad, a0, a1, a2, a3⟩ : ∃ ad : fw_Ad, ad 0 0 = s.heap.size ∧ ad 1 0 = s.heap.size + 1 ∧ ad 2 0 = s.heap.size + 1 + 1 ∧ (∀ k, k < 30 → ad 3 k = s.heap.size + 1 + 2 + 2 * k ∧ ad 4 k = s.heap.size + 1 + 3 + 2 * k) :=
    ⟨fun b j => if b = 0 then s.heap.size else if b = 1 then s.heap.size + 1 else if b = 2 then s.heap.size + 1 + 1 else if b = 3 then s.heap.size + 1 + 2 + 2 * j else s.heap.size + 1 + 3 + 2 * j, rfl, rfl, rfl, fun k _ => ⟨rfl, rfl⟩⟩
  have hP : fw_P D vwCl s.heap.size ad (fun _ _ => none) s.heap := ⟨fun _ _ _ h => (by cases h), fun _ _ _ _ _ _ h => (by cases h)⟩
  have hS : va_S (fw_A s.heap.size) s.heap s.heap [] := va_S.rf
  refine fw_new (a := 0) (i := 0) (ci := 2) (fs := [.null, .null, .int (iI ((0 : Nat) : Int)), .int (iI ((0 : Nat) : Int)), .int (iI ((0 : Nat) : Int)), .int (iI ((0 : Nat) : Int)), .int (iI ((0 : Nat) : Int)), .int (iI ((0 : Nat) : Int))]) (C := RX2) (T := TX2) (N := 8) hx hb hts2 inlX2 tyX2 tyX2_ok hown (hts2 (.classLink RL 21 RX2) (by decide +kernel)) (hts2 (.instantiable RX2 8) (by decide +kernel)) (hts2 (.initialized RX2) (by decide +kernel)) hK hP hS (Nat.le_refl _) rfl (fun j hj => by rcases (show j = 0 ∨ j = 1 ∨ j = 2 ∨ j = 3 ∨ j = 4 ∨ j = 5 ∨ j = 6 ∨ j = 7 by omega) with rfl | rfl | rfl | rfl | rfl | rfl | rfl | rfl <;> rfl) rfl a0 (Nat.le_of_ble_eq_true rfl) (Nat.le_of_ble_eq_true rfl) dL_law_0 (fun H hP hS hsz => ?_)
  refine lv_dup hx hb dL_law_3 rfl ?_
  obtain ⟨w1, h1⟩ : ∃ w9 : fw_W, w9 = fw_up (fun _ _ => none) 0 0 (.inr (2, [.null, .null, .int (iI ((0 : Nat) : Int)), .int (iI ((0 : Nat) : Int)), .int (iI ((0 : Nat) : Int)), .int (iI ((0 : Nat) : Int)), .int (iI ((0 : Nat) : Int)), .int (iI ((0 : Nat) : Int))])) := ⟨_, rfl⟩
  have hP : fw_P D vwCl s.heap.size ad w1 H := by rw [h1]; exact hP
  refine fa_cI (As := []) (rest := [.ref (ad 0 0)]) ⟨hx, hb, hml, hown, hts2⟩ (c_X2_init l D cA s.heap.size ad w1 (s.heap.size + 1) .null .null (.int (iI ((0 : Nat) : Int))) (.int (iI ((0 : Nat) : Int))) (.int (iI ((0 : Nat) : Int))) (.int (iI ((0 : Nat) : Int))) (.int (iI ((0 : Nat) : Int))) (.int (iI ((0 : Nat) : Int))) (by rw [h1]; exact fw_up_same _ _ _ _) (fun b j h => by rw [h1]; exact (fw_up_ne h).trans rfl) ⟨a1, a2, a3⟩) (cwI 0 hts2 gL_law_X2_init rfl rfl rfl (hts2 (.initialized RX2) (by decide +kernel)) (hts2 (.methodLink RL 72 yX2_init) (by decide +kernel)) (hts2 (.instanceMethod yX2_init) (by decide +kernel)) rfl (by decide +kernel) ⟨Nat.le_of_ble_eq_true rfl, Nat.le_of_ble_eq_true rfl⟩) rfl hl.1 (Nat.le_of_ble_eq_true rfl) dL_law_4 ⟨Nat.le_of_ble_eq_true rfl, Nat.le_of_ble_eq_true rfl⟩ hK hsz hAO hP hS rfl (fun w' H locs q hP hS => ?_)
  subst q
  refine lv_astore_n (lv' := [(1, .ref (ad 0 0)), (0, .ref b)]) hx hb dL_law_7 rfl hl (by decide) rfl (fun ls hl => ?_)
  exact law_pre X ⟨Nat.le_of_ble_eq_true rfl, Nat.le_of_ble_eq_true rfl⟩ hP hS (lv_sub hl [1, 0] rfl) kend
