/-! ===== the law: what stands through the whole of it ===== -/
def LX (p : Program) (l : Launch) (s : State) (m : MethodId) (args : Array Value) (cd : Code) (b L : Nat) (xs : Nat → Int32) (D : va_G) (cA : Nat → ClassId) (sa : Nat → Nat) (z : Nat) : Prop :=
  p.tables.exec = Jvm.exec ∧ cd.code = cL_law ∧ cd.maxLocals = 17 ∧ s.vm.findClass RL = some m.cls ∧ (∀ w ∈ wsL_law, w.before args s = true) ∧ va_X b L xs s s.heap ∧ b < s.heap.size ∧ L ≤ 260 ∧ va_K D vwCl (fw_T cA) s ∧ (va_AO RX0 s ∧ va_AO RX1 s) ∧ tx_E z sa s s.heap ∧ l.stackTraces = false ∧ s.heap.size = z ∧ ¬ fw_A z b
set_option maxHeartbeats 4000000 in
set_option maxRecDepth 100000 in
theorem law_ch {p : Program} {l : Launch} {e : Env} {s : State} {m : MethodId} {args : Array Value} {below : List Frame} {meth : Method} {cd : Code} {Q : State → Prop} {D : va_G} {cA : Nat → ClassId} {sa : Nat → Nat} {b L z : Nat} {xs : Nat → Int32} {ad : fw_Ad} {σ : St} {μ : fw_W} {lim leg : Nat} (X : LX p l s m args cd b L xs D cA sa z) (hI : Inv σ) (hSf : Safe σ lim) (hch : ∀ c, c < 18 → choices σ c = 0) {C S9 : Nat} (hro : C ≤ 623024 ∧ S9 ≤ 7232551)
    (kk : ∀ (H : Heap) (locs : List Loc) (ls : Array Slot), fw_P D vwCl z ad (WC cA ad σ μ) H → va_S (fw_A z) s.heap H locs → lv_has ls 17 [(0, .ref b), (1, .ref (ad 0 (0))), (2, .int (iI ((lim : Nat) : Int))), (4, .int (iI ((leg : Nat) : Int)))] → W p l e room_1 s m args below meth cd H locs C S9 Q (F0 m 200 ls [])) :
    ∀ (dd i cells slots : Nat) (H : Heap) (locs : List Loc) (ls : Array Slot), 18 + 1 ≤ i + dd → i ≤ 18 → cells + 1 * dd ≤ C → slots + 6 * dd ≤ S9 → fw_P D vwCl z ad (WC cA ad σ μ) H → va_S (fw_A z) s.heap H locs → lv_has ls 17 [(0, .ref b), (1, .ref (ad 0 (0))), (2, .int (iI ((lim : Nat) : Int))), (4, .int (iI ((leg : Nat) : Int))), (7, .int (iI ((i : Nat) : Int)))] → W p l e room_1 s m args below meth cd H locs cells slots Q (F0 m 176 ls []) := by
  have X0 := X
  obtain ⟨hx, hb, hml, hown, hts, hX, hbl, hL, hK, hAO, hE, hl0, hz, hbz⟩ := X
  have h8 : σ 8 0 = 18 := hSf.1.1
  intro dd
  induction dd with
  | zero => intro i cells slots H locs ls hd hi; omega
  | succ dd ih =>
    intro i cells slots H locs ls hd hi hc9 hs9 hP hS hl
    have hcl := choices_le (σ := σ) (c := i)
    refine lv_iload hx hb dL_law_176 (lv_at hl 4 rfl) ?_
    refine lv_bipush (v := iI ((18 : Nat) : Int)) hx hb dL_law_178 (by decide) ?_
    refine fw_icmp_ge (x := ((i : Nat) : Int)) (y := ((18 : Nat) : Int)) (tgt := 200) hx hb dL_law_180 (by decide) ⟨by omega, by omega⟩ ⟨by omega, by omega⟩ (fun c_1 => ?_) (fun c_1 => ?_)
    · refine W.widen (k := C) (n := S9) (by omega) (by omega) ?_
      exact kk H locs ls hP hS (lv_sub hl [0, 1, 2, 3] rfl)
    · refine lv_aload_n hx hb dL_law_183 rfl (lv_at hl 1 rfl) ?_
      refine lv_iload hx hb dL_law_184 (lv_at hl 4 rfl) ?_
      refine fn_cVi (As := [.int (iI ((i : Nat) : Int))]) (rest := []) ⟨hx, hb, hml, hown, hts⟩ (c_X2_choices l hl0 D cA z ad sa σ μ (((i : Nat) : Int)) hI ⟨by omega, by omega⟩) (cwV 1 hts gL_law_X2_choices rfl rfl rfl (by decide +kernel) ⟨Nat.le_of_ble_eq_true rfl, Nat.le_of_ble_eq_true rfl⟩) WC_0 rfl rfl hl.1 (Nat.le_of_ble_eq_true rfl) dL_law_186 ⟨show _ ≤ 623024 from by omega, show _ ≤ 7232551 from by omega⟩ hK hE hP hS rfl (fun E w' q => by obtain ⟨-, q, -⟩ := q; omega) (fun r w' H locs q_2 hP hS => ?_)
      obtain ⟨-, rfl, rfl⟩ := q_2
      refine fw_topI (b := ((choices σ i : Nat) : Int)) rfl ?_
      refine fw_if_eq (x := ((choices σ i : Nat) : Int)) (tgt := 194) hx hb dL_law_189 (by decide) ⟨by omega, by omega⟩ (fun c_3 => ?_) (fun c_3 => ?_)
      · refine fw_iincN (x := i) (lv' := [(7, .int (iI ((i + 1 : Nat) : Int))), (0, .ref b), (1, .ref (ad 0 (0))), (2, .int (iI ((lim : Nat) : Int))), (4, .int (iI ((leg : Nat) : Int)))]) hx hb dL_law_194 hl (k := 4) rfl (by decide) rfl (fun ls hl => ?_)
        refine lv_goto (tgt := 176) hx hb dL_law_197 (by decide) ?_
        refine W.widen (k := cells + 1) (n := slots + 6) (by omega) (by omega) ?_
        exact ih (i + 1) (cells + 1) (slots + 6) H locs ls (by omega) (by omega) (by omega) (by omega) hP hS (lv_sub hl [1, 2, 3, 4, 0] rfl)
      · exfalso; have := hch i (by omega); omega

set_option maxHeartbeats 4000000 in
set_option maxRecDepth 100000 in
theorem law_o {p : Program} {l : Launch} {e : Env} {s : State} {m : MethodId} {args : Array Value} {below : List Frame} {meth : Method} {cd : Code} {Q : State → Prop} {D : va_G} {cA : Nat → ClassId} {sa : Nat → Nat} {b L z : Nat} {xs : Nat → Int32} {ad : fw_Ad} {σ : St} {μ : fw_W} {lim leg k t c : Nat} {v7 v8 v10 v11 : Int32} (X : LX p l s m args cd b L xs D cA sa z) (hI : Inv σ) (hSf : Safe σ lim) (hc : c < 18) (hk : k < 30) (hO : occ σ k t = some c) {C S9 : Nat} (hro : C ≤ 623024 ∧ S9 ≤ 7232551)
    (kk : ∀ (H : Heap) (locs : List Loc) (ls : Array Slot), fw_P D vwCl z ad (WC cA ad σ μ) H → va_S (fw_A z) s.heap H locs → lv_has ls 17 [(0, .ref b), (1, .ref (ad 0 (0))), (2, .int (iI ((lim : Nat) : Int))), (4, .int (iI ((leg : Nat) : Int))), (7, .int v7), (8, .int v8), (9, .int (iI ((k : Nat) : Int))), (10, .int v10), (11, .int v11), (12, .int (iI ((t : Nat) : Int)))] → W p l e room_1 s m args below meth cd H locs C S9 Q (F0 m 490 ls [])) :
    ∀ (dd o cells slots : Nat) (H : Heap) (locs : List Loc) (ls : Array Slot), c + 1 ≤ o + dd → o ≤ c → cells + 5 * dd ≤ C → slots + 30 * dd ≤ S9 → fw_P D vwCl z ad (WC cA ad σ μ) H → va_S (fw_A z) s.heap H locs → lv_has ls 17 [(0, .ref b), (1, .ref (ad 0 (0))), (2, .int (iI ((lim : Nat) : Int))), (4, .int (iI ((leg : Nat) : Int))), (7, .int v7), (8, .int v8), (9, .int (iI ((k : Nat) : Int))), (10, .int v10), (11, .int v11), (12, .int (iI ((t : Nat) : Int))), (13, .int (iI ((c : Nat) : Int))), (14, .int (iI ((σ 3 c : Nat) : Int))), (15, .int (iI ((o : Nat) : Int)))] → W p l e room_1 s m args below meth cd H locs cells slots Q (F0 m 380 ls []) := by
  have X0 := X
  obtain ⟨hx, hb, hml, hown, hts, hX, hbl, hL, hK, hAO, hE, hl0, hz, hbz⟩ := X
  have h8 : σ 8 0 = 18 := hSf.1.1
  obtain ⟨-, hc4, hc5, hc6⟩ := occ_some hO
  intro dd
  induction dd with
  | zero => intro o cells slots H locs ls hd hi; omega
  | succ dd ih =>
    intro o cells slots H locs ls hd hi hc9 hs9 hP hS hl
    have hco := hI.c o
    have hcc := hI.c c
    refine lv_iload hx hb dL_law_380 (lv_at hl 12 rfl) ?_
    refine lv_iload hx hb dL_law_382 (lv_at hl 10 rfl) ?_
    refine fw_icmp_ge (x := ((o : Nat) : Int)) (y := ((c : Nat) : Int)) (tgt := 490) hx hb dL_law_384 (by decide) ⟨by omega, by omega⟩ ⟨by omega, by omega⟩ (fun c_1 => ?_) (fun c_1 => ?_)
    · refine W.widen (k := C) (n := S9) (by omega) (by omega) ?_
      exact kk H locs ls hP hS (lv_sub hl [0, 1, 2, 3, 4, 5, 6, 7, 8, 9] rfl)
    · refine lv_iload hx hb dL_law_387 (lv_at hl 11 rfl) ?_
      refine lv_iconst (v := iI ((1 : Nat) : Int)) hx hb dL_law_389 (by decide) ?_
      refine fw_icmp_le (x := ((σ 3 c : Nat) : Int)) (y := ((1 : Nat) : Int)) (tgt := 490) hx hb dL_law_390 (by decide) ⟨by omega, by omega⟩ ⟨by omega, by omega⟩ (fun c_2 => ?_) (fun c_2 => ?_)
      · refine W.widen (k := C) (n := S9) (by omega) (by omega) ?_
        exact kk H locs ls hP hS (lv_sub hl [0, 1, 2, 3, 4, 5, 6, 7, 8, 9] rfl)
      · refine lv_aload_n hx hb dL_law_393 rfl (lv_at hl 1 rfl) ?_
        refine lv_iload hx hb dL_law_394 (lv_at hl 12 rfl) ?_
        refine fn_cVi (As := [.int (iI ((o : Nat) : Int))]) (rest := []) ⟨hx, hb, hml, hown, hts⟩ (c_X2_where l hl0 D cA z ad sa σ μ (((o : Nat) : Int)) hI ⟨by omega, by omega⟩) (cwV 1 hts gL_law_X2_where rfl rfl rfl (by decide +kernel) ⟨Nat.le_of_ble_eq_true rfl, Nat.le_of_ble_eq_true rfl⟩) WC_0 rfl rfl hl.1 (Nat.le_of_ble_eq_true rfl) dL_law_396 ⟨show _ ≤ 623024 from by omega, show _ ≤ 7232551 from by omega⟩ hK hE hP hS rfl (fun E w' q => by obtain ⟨-, q, -⟩ := q; omega) (fun r w' H locs q_3 hP hS => ?_)
        obtain ⟨-, rfl, rfl⟩ := q_3
        by_cases hon : σ 4 o = 1
        · refine fw_topI (b := ((100 * (σ 5 o / 5) + 10 * (σ 5 o % 5) + σ 6 o : Nat) : Int)) (show plc σ o = _ from by rw [plc, if_pos hon]) ?_
          refine fw_if_lt (x := ((100 * (σ 5 o / 5) + 10 * (σ 5 o % 5) + σ 6 o : Nat) : Int)) (tgt := 484) hx hb dL_law_399 (by decide) ⟨by omega, by omega⟩ (fun c_4 => ?_) (fun c_4 => ?_)
          · exfalso; omega
          · refine lv_aload_n hx hb dL_law_402 rfl (lv_at hl 1 rfl) ?_
            refine lv_iload hx hb dL_law_403 (lv_at hl 12 rfl) ?_
            refine lv_iconst (v := iI ((3 : Nat) : Int)) hx hb dL_law_405 (by decide) ?_
            refine fn_cVi (As := [.int (iI ((o : Nat) : Int)), .int (iI ((3 : Nat) : Int))]) (rest := []) ⟨hx, hb, hml, hown, hts⟩ (c_X2_container l hl0 D cA z ad sa σ μ (((o : Nat) : Int)) (((3 : Nat) : Int)) hI ⟨by omega, by omega⟩ ⟨by omega, by omega⟩) (cwV 2 hts gL_law_X2_container rfl rfl rfl (by decide +kernel) ⟨Nat.le_of_ble_eq_true rfl, Nat.le_of_ble_eq_true rfl⟩) WC_0 rfl rfl hl.1 (Nat.le_of_ble_eq_true rfl) dL_law_406 ⟨show _ ≤ 623024 from by omega, show _ ≤ 7232551 from by omega⟩ hK hE hP hS rfl (fun E w' q => by obtain ⟨-, q, -⟩ := q; omega) (fun r w' H locs q_5 hP hS => ?_)
            obtain ⟨-, rfl, rfl⟩ := q_5
            refine fw_topI (b := ((σ 3 o : Nat) : Int)) rfl ?_
            refine lv_iconst (v := iI ((2 : Nat) : Int)) hx hb dL_law_409 (by decide) ?_
            refine fw_icmp_lt (x := ((σ 3 o : Nat) : Int)) (y := ((2 : Nat) : Int)) (tgt := 484) hx hb dL_law_410 (by decide) ⟨by omega, by omega⟩ ⟨by omega, by omega⟩ (fun c_6 => ?_) (fun c_6 => ?_)
            · refine fw_iincN (x := o) (lv' := [(15, .int (iI ((o + 1 : Nat) : Int))), (0, .ref b), (1, .ref (ad 0 (0))), (2, .int (iI ((lim : Nat) : Int))), (4, .int (iI ((leg : Nat) : Int))), (7, .int v7), (8, .int v8), (9, .int (iI ((k : Nat) : Int))), (10, .int v10), (11, .int v11), (12, .int (iI ((t : Nat) : Int))), (13, .int (iI ((c : Nat) : Int))), (14, .int (iI ((σ 3 c : Nat) : Int)))]) hx hb dL_law_484 hl (k := 12) rfl (by decide) rfl (fun ls hl => ?_)
              refine lv_goto (tgt := 380) hx hb dL_law_487 (by decide) ?_
              refine W.widen (k := cells + 5) (n := slots + 30) (by omega) (by omega) ?_
              exact ih (o + 1) (cells + 5) (slots + 30) H locs ls (by omega) (by omega) (by omega) (by omega) hP hS (lv_sub hl [1, 2, 3, 4, 5, 6, 7, 8, 9, 10, 11, 12, 0] rfl)
            · refine lv_aload_n hx hb dL_law_413 rfl (lv_at hl 1 rfl) ?_
              refine lv_iload hx hb dL_law_414 (lv_at hl 12 rfl) ?_
              refine lv_iconst (v := iI ((3 : Nat) : Int)) hx hb dL_law_416 (by decide) ?_
              refine fn_cVi (As := [.int (iI ((o : Nat) : Int)), .int (iI ((3 : Nat) : Int))]) (rest := []) ⟨hx, hb, hml, hown, hts⟩ (c_X2_container l hl0 D cA z ad sa σ μ (((o : Nat) : Int)) (((3 : Nat) : Int)) hI ⟨by omega, by omega⟩ ⟨by omega, by omega⟩) (cwV 2 hts gL_law_X2_container rfl rfl rfl (by decide +kernel) ⟨Nat.le_of_ble_eq_true rfl, Nat.le_of_ble_eq_true rfl⟩) WC_0 rfl rfl hl.1 (Nat.le_of_ble_eq_true rfl) dL_law_417 ⟨show _ ≤ 623024 from by omega, show _ ≤ 7232551 from by omega⟩ hK hE hP hS rfl (fun E w' q => by obtain ⟨-, q, -⟩ := q; omega) (fun r w' H locs q_7 hP hS => ?_)
              obtain ⟨-, rfl, rfl⟩ := q_7
              refine fw_topI (b := ((σ 3 o : Nat) : Int)) rfl ?_
              refine lv_iload hx hb dL_law_420 (lv_at hl 11 rfl) ?_
              refine fw_icmp_ne (x := ((σ 3 o : Nat) : Int)) (y := ((σ 3 c : Nat) : Int)) (tgt := 428) hx hb dL_law_422 (by decide) ⟨by omega, by omega⟩ ⟨by omega, by omega⟩ (fun c_8 => ?_) (fun c_8 => ?_)
              · have hap := apart_c (hSf.2.2.2.2.2 c o hc (by omega) hc4 hon (by omega) (by omega) (by omega))
                rw [hc5] at hap
                refine lv_aload_n hx hb dL_law_428 rfl (lv_at hl 1 rfl) ?_
                refine lv_iload hx hb dL_law_429 (lv_at hl 12 rfl) ?_
                refine fn_cVi (As := [.int (iI ((o : Nat) : Int))]) (rest := []) ⟨hx, hb, hml, hown, hts⟩ (c_X2_where l hl0 D cA z ad sa σ μ (((o : Nat) : Int)) hI ⟨by omega, by omega⟩) (cwV 1 hts gL_law_X2_where rfl rfl rfl (by decide +kernel) ⟨Nat.le_of_ble_eq_true rfl, Nat.le_of_ble_eq_true rfl⟩) WC_0 rfl rfl hl.1 (Nat.le_of_ble_eq_true rfl) dL_law_431 ⟨show _ ≤ 623024 from by omega, show _ ≤ 7232551 from by omega⟩ hK hE hP hS rfl (fun E w' q => by obtain ⟨-, q, -⟩ := q; omega) (fun r w' H locs q_9 hP hS => ?_)
                obtain ⟨-, rfl, rfl⟩ := q_9
                refine fw_topI (b := ((100 * (σ 5 o / 5) + 10 * (σ 5 o % 5) + σ 6 o : Nat) : Int)) (show plc σ o = _ from by rw [plc, if_pos hon]) ?_
                refine lv_bipush (v := iI ((100 : Nat) : Int)) hx hb dL_law_434 (by decide) ?_
                refine fw_idivN (a := 100 * (σ 5 o / 5) + 10 * (σ 5 o % 5) + σ 6 o) (b := 100) hx hb dL_law_436 (by omega) (by omega) (by omega) ?_
                refine fw_topI (b := ((σ 5 o / 5 : Nat) : Int)) (by omega) ?_
                refine lv_iload hx hb dL_law_437 (lv_at hl 6 rfl) ?_
                refine lv_iconst (v := iI ((5 : Nat) : Int)) hx hb dL_law_439 (by decide) ?_
                refine fw_idivN (a := k) (b := 5) hx hb dL_law_440 (by omega) (by omega) (by omega) ?_
                refine fw_isub (a := ((σ 5 o / 5 : Nat) : Int)) (b := ((k / 5 : Nat) : Int)) hx hb dL_law_441 ?_
                refine fw_abs (x := (((σ 5 o / 5 : Nat) : Int) - ((k / 5 : Nat) : Int))) hx hb (by rw [hml]; exact hl.1.symm) hown (hts (.methodLink RL 34 Lib.Math.abs.name) (by decide +kernel)) (hts (.static Lib.Math.abs.name) (by decide +kernel)) (hts (.initialized "java/lang/Math") (by decide +kernel)) (hts (.code Lib.Math.abs.name Lib.Math.abs.code 1 (some .int)) (by decide +kernel)) (Nat.le_of_ble_eq_true rfl) (Nat.le_of_ble_eq_true rfl) (show _ ≤ 623024 from by omega) (show _ ≤ 7232551 from by omega) ⟨by omega, by omega⟩ dL_law_442 ?_
                refine lv_istore (lv' := [(16, .int (iI ((Int.natAbs (((σ 5 o / 5 : Nat) : Int) - ((k / 5 : Nat) : Int)) : Nat) : Int))), (0, .ref b), (1, .ref (ad 0 (0))), (2, .int (iI ((lim : Nat) : Int))), (4, .int (iI ((leg : Nat) : Int))), (7, .int v7), (8, .int v8), (9, .int (iI ((k : Nat) : Int))), (10, .int v10), (11, .int v11), (12, .int (iI ((t : Nat) : Int))), (13, .int (iI ((c : Nat) : Int))), (14, .int (iI ((σ 3 c : Nat) : Int))), (15, .int (iI ((o : Nat) : Int)))]) hx hb dL_law_445 hl (by decide) rfl (fun ls hl => ?_)
                refine lv_iload hx hb dL_law_447 (lv_at hl 0 rfl) ?_
                refine fw_if_eq (x := ((Int.natAbs (((σ 5 o / 5 : Nat) : Int) - ((k / 5 : Nat) : Int)) : Nat) : Int)) (tgt := 482) hx hb dL_law_449 (by decide) ⟨by omega, by omega⟩ (fun c_10 => ?_) (fun c_10 => ?_)
                · exfalso; omega
                · refine lv_iload hx hb dL_law_452 (lv_at hl 0 rfl) ?_
                  refine lv_iconst (v := iI ((1 : Nat) : Int)) hx hb dL_law_454 (by decide) ?_
                  refine fw_icmp_ne (x := ((Int.natAbs (((σ 5 o / 5 : Nat) : Int) - ((k / 5 : Nat) : Int)) : Nat) : Int)) (y := ((1 : Nat) : Int)) (tgt := 484) hx hb dL_law_455 (by decide) ⟨by omega, by omega⟩ ⟨by omega, by omega⟩ (fun c_11 => ?_) (fun c_11 => ?_)
                  · refine fw_iincN (x := o) (lv' := [(15, .int (iI ((o + 1 : Nat) : Int))), (16, .int (iI ((Int.natAbs (((σ 5 o / 5 : Nat) : Int) - ((k / 5 : Nat) : Int)) : Nat) : Int))), (0, .ref b), (1, .ref (ad 0 (0))), (2, .int (iI ((lim : Nat) : Int))), (4, .int (iI ((leg : Nat) : Int))), (7, .int v7), (8, .int v8), (9, .int (iI ((k : Nat) : Int))), (10, .int v10), (11, .int v11), (12, .int (iI ((t : Nat) : Int))), (13, .int (iI ((c : Nat) : Int))), (14, .int (iI ((σ 3 c : Nat) : Int)))]) hx hb dL_law_484 hl (k := 13) rfl (by decide) rfl (fun ls hl => ?_)
                    refine lv_goto (tgt := 380) hx hb dL_law_487 (by decide) ?_
                    refine W.widen (k := cells + 5) (n := slots + 30) (by omega) (by omega) ?_
                    exact ih (o + 1) (cells + 5) (slots + 30) H locs ls (by omega) (by omega) (by omega) (by omega) hP hS (lv_sub hl [2, 3, 4, 5, 6, 7, 8, 9, 10, 11, 12, 13, 0] rfl)
                  · refine lv_aload_n hx hb dL_law_458 rfl (lv_at hl 2 rfl) ?_
                    refine lv_iload hx hb dL_law_459 (lv_at hl 13 rfl) ?_
                    refine fn_cVi (As := [.int (iI ((o : Nat) : Int))]) (rest := []) ⟨hx, hb, hml, hown, hts⟩ (c_X2_where l hl0 D cA z ad sa σ μ (((o : Nat) : Int)) hI ⟨by omega, by omega⟩) (cwV 1 hts gL_law_X2_where rfl rfl rfl (by decide +kernel) ⟨Nat.le_of_ble_eq_true rfl, Nat.le_of_ble_eq_true rfl⟩) WC_0 rfl rfl hl.1 (Nat.le_of_ble_eq_true rfl) dL_law_461 ⟨show _ ≤ 623024 from by omega, show _ ≤ 7232551 from by omega⟩ hK hE hP hS rfl (fun E w' q => by obtain ⟨-, q, -⟩ := q; omega) (fun r w' H locs q_12 hP hS => ?_)
                    obtain ⟨-, rfl, rfl⟩ := q_12
                    refine fw_topI (b := ((100 * (σ 5 o / 5) + 10 * (σ 5 o % 5) + σ 6 o : Nat) : Int)) (show plc σ o = _ from by rw [plc, if_pos hon]) ?_
                    refine lv_bipush (v := iI ((10 : Nat) : Int)) hx hb dL_law_464 (by decide) ?_
                    refine fw_idivN (a := 100 * (σ 5 o / 5) + 10 * (σ 5 o % 5) + σ 6 o) (b := 10) hx hb dL_law_466 (by omega) (by omega) (by omega) ?_
                    refine lv_bipush (v := iI ((10 : Nat) : Int)) hx hb dL_law_467 (by decide) ?_
                    refine fw_iremN (a := (100 * (σ 5 o / 5) + 10 * (σ 5 o % 5) + σ 6 o) / 10) (b := 10) hx hb dL_law_469 (by omega) (by omega) (by omega) ?_
                    refine fw_topI (b := ((σ 5 o % 5 : Nat) : Int)) (by omega) ?_
                    refine lv_iload hx hb dL_law_470 (lv_at hl 7 rfl) ?_
                    refine lv_iconst (v := iI ((5 : Nat) : Int)) hx hb dL_law_472 (by decide) ?_
                    refine fw_iremN (a := k) (b := 5) hx hb dL_law_473 (by omega) (by omega) (by omega) ?_
                    refine fw_isub (a := ((σ 5 o % 5 : Nat) : Int)) (b := ((k % 5 : Nat) : Int)) hx hb dL_law_474 ?_
                    refine fw_abs (x := (((σ 5 o % 5 : Nat) : Int) - ((k % 5 : Nat) : Int))) hx hb (by rw [hml]; exact hl.1.symm) hown (hts (.methodLink RL 34 Lib.Math.abs.name) (by decide +kernel)) (hts (.static Lib.Math.abs.name) (by decide +kernel)) (hts (.initialized "java/lang/Math") (by decide +kernel)) (hts (.code Lib.Math.abs.name Lib.Math.abs.code 1 (some .int)) (by decide +kernel)) (Nat.le_of_ble_eq_true rfl) (Nat.le_of_ble_eq_true rfl) (show _ ≤ 623024 from by omega) (show _ ≤ 7232551 from by omega) ⟨by omega, by omega⟩ dL_law_475 ?_
                    refine lv_iconst (v := iI ((2 : Nat) : Int)) hx hb dL_law_478 (by decide) ?_
                    refine fw_icmp_ge (x := ((Int.natAbs (((σ 5 o % 5 : Nat) : Int) - ((k % 5 : Nat) : Int)) : Nat) : Int)) (y := ((2 : Nat) : Int)) (tgt := 484) hx hb dL_law_479 (by decide) ⟨by omega, by omega⟩ ⟨by omega, by omega⟩ (fun c_13 => ?_) (fun c_13 => ?_)
                    · refine fw_iincN (x := o) (lv' := [(15, .int (iI ((o + 1 : Nat) : Int))), (16, .int (iI ((Int.natAbs (((σ 5 o / 5 : Nat) : Int) - ((k / 5 : Nat) : Int)) : Nat) : Int))), (0, .ref b), (1, .ref (ad 0 (0))), (2, .int (iI ((lim : Nat) : Int))), (4, .int (iI ((leg : Nat) : Int))), (7, .int v7), (8, .int v8), (9, .int (iI ((k : Nat) : Int))), (10, .int v10), (11, .int v11), (12, .int (iI ((t : Nat) : Int))), (13, .int (iI ((c : Nat) : Int))), (14, .int (iI ((σ 3 c : Nat) : Int)))]) hx hb dL_law_484 hl (k := 13) rfl (by decide) rfl (fun ls hl => ?_)
                      refine lv_goto (tgt := 380) hx hb dL_law_487 (by decide) ?_
                      refine W.widen (k := cells + 5) (n := slots + 30) (by omega) (by omega) ?_
                      exact ih (o + 1) (cells + 5) (slots + 30) H locs ls (by omega) (by omega) (by omega) (by omega) hP hS (lv_sub hl [2, 3, 4, 5, 6, 7, 8, 9, 10, 11, 12, 13, 0] rfl)
                    · exfalso; omega
              · refine lv_goto (tgt := 484) hx hb dL_law_425 (by decide) ?_
                refine fw_iincN (x := o) (lv' := [(15, .int (iI ((o + 1 : Nat) : Int))), (0, .ref b), (1, .ref (ad 0 (0))), (2, .int (iI ((lim : Nat) : Int))), (4, .int (iI ((leg : Nat) : Int))), (7, .int v7), (8, .int v8), (9, .int (iI ((k : Nat) : Int))), (10, .int v10), (11, .int v11), (12, .int (iI ((t : Nat) : Int))), (13, .int (iI ((c : Nat) : Int))), (14, .int (iI ((σ 3 c : Nat) : Int)))]) hx hb dL_law_484 hl (k := 12) rfl (by decide) rfl (fun ls hl => ?_)
                refine lv_goto (tgt := 380) hx hb dL_law_487 (by decide) ?_
                refine W.widen (k := cells + 5) (n := slots + 30) (by omega) (by omega) ?_
                exact ih (o + 1) (cells + 5) (slots + 30) H locs ls (by omega) (by omega) (by omega) (by omega) hP hS (lv_sub hl [1, 2, 3, 4, 5, 6, 7, 8, 9, 10, 11, 12, 0] rfl)
        · refine fw_topI (b := -1) (show plc σ o = -1 from by rw [plc, if_neg hon]) ?_
          refine fw_if_lt (x := (-1)) (tgt := 484) hx hb dL_law_399 (by decide) ⟨by omega, by omega⟩ (fun c_14 => ?_) (fun c_14 => absurd c_14 (by decide))
          refine fw_iincN (x := o) (lv' := [(15, .int (iI ((o + 1 : Nat) : Int))), (0, .ref b), (1, .ref (ad 0 (0))), (2, .int (iI ((lim : Nat) : Int))), (4, .int (iI ((leg : Nat) : Int))), (7, .int v7), (8, .int v8), (9, .int (iI ((k : Nat) : Int))), (10, .int v10), (11, .int v11), (12, .int (iI ((t : Nat) : Int))), (13, .int (iI ((c : Nat) : Int))), (14, .int (iI ((σ 3 c : Nat) : Int)))]) hx hb dL_law_484 hl (k := 12) rfl (by decide) rfl (fun ls hl => ?_)
          refine lv_goto (tgt := 380) hx hb dL_law_487 (by decide) ?_
          refine W.widen (k := cells + 5) (n := slots + 30) (by omega) (by omega) ?_
          exact ih (o + 1) (cells + 5) (slots + 30) H locs ls (by omega) (by omega) (by omega) (by omega) hP hS (lv_sub hl [1, 2, 3, 4, 5, 6, 7, 8, 9, 10, 11, 12, 0] rfl)

set_option maxHeartbeats 4000000 in
set_option maxRecDepth 100000 in
theorem law_t {p : Program} {l : Launch} {e : Env} {s : State} {m : MethodId} {args : Array Value} {below : List Frame} {meth : Method} {cd : Code} {Q : State → Prop} {D : va_G} {cA : Nat → ClassId} {sa : Nat → Nat} {b L z : Nat} {xs : Nat → Int32} {ad : fw_Ad} {σ : St} {μ : fw_W} {lim leg k : Nat} (X : LX p l s m args cd b L xs D cA sa z) (hI : Inv σ) (hSf : Safe σ lim) (hk : k < 30) (hleg : σ 8 4 = leg) {C S9 : Nat} (hro : C ≤ 623024 ∧ S9 ≤ 7232551)
    (kk : ∀ (H : Heap) (locs : List Loc) (ls : Array Slot), fw_P D vwCl z ad (WC cA ad σ μ) H → va_S (fw_A z) s.heap H locs → lv_has ls 17 [(0, .ref b), (1, .ref (ad 0 (0))), (2, .int (iI ((lim : Nat) : Int))), (4, .int (iI ((leg : Nat) : Int))), (7, .int (iI (lst σ k 4))), (8, .int (iI ((fnd σ k 4 : Nat) : Int))), (9, .int (iI ((k : Nat) : Int))), (10, .int (iI ((wts σ k 4 : Nat) : Int))), (11, .int (iI (bI (decide (high σ k < 4))))), (12, .int (iI ((4 : Nat) : Int)))] → W p l e room_1 s m args below meth cd H locs C S9 Q (F0 m 496 ls [])) :
    ∀ (dd t cells slots : Nat) (H : Heap) (locs : List Loc) (ls : Array Slot), 4 + 1 ≤ t + dd → t ≤ 4 → cells + 110 * dd ≤ C → slots + 660 * dd ≤ S9 → fw_P D vwCl z ad (WC cA ad σ μ) H → va_S (fw_A z) s.heap H locs → lv_has ls 17 [(0, .ref b), (1, .ref (ad 0 (0))), (2, .int (iI ((lim : Nat) : Int))), (4, .int (iI ((leg : Nat) : Int))), (7, .int (iI (lst σ k t))), (8, .int (iI ((fnd σ k t : Nat) : Int))), (9, .int (iI ((k : Nat) : Int))), (10, .int (iI ((wts σ k t : Nat) : Int))), (11, .int (iI (bI (decide (high σ k < t))))), (12, .int (iI ((t : Nat) : Int)))] → W p l e room_1 s m args below meth cd H locs cells slots Q (F0 m 225 ls []) := by
  have X0 := X
  obtain ⟨hx, hb, hml, hown, hts, hX, hbl, hL, hK, hAO, hE, hl0, hz, hbz⟩ := X
  have h8 : σ 8 0 = 18 := hSf.1.1
  intro dd
  induction dd with
  | zero => intro t cells slots H locs ls hd hi; omega
  | succ dd ih =>
    intro t cells slots H locs ls hd hi hc9 hs9 hP hS hl
    refine lv_iload hx hb dL_law_225 (lv_at hl 9 rfl) ?_
    refine lv_iconst (v := iI ((4 : Nat) : Int)) hx hb dL_law_227 (by decide) ?_
    refine fw_icmp_ge (x := ((t : Nat) : Int)) (y := ((4 : Nat) : Int)) (tgt := 496) hx hb dL_law_228 (by decide) ⟨by omega, by omega⟩ ⟨by omega, by omega⟩ (fun c_1 => ?_) (fun c_1 => ?_)
    · have ht4 : t = 4 := by omega
      subst ht4
      refine W.widen (k := C) (n := S9) (by omega) (by omega) ?_
      exact kk H locs ls hP hS (lv_sub hl [0, 1, 2, 3, 4, 5, 6, 7, 8, 9] rfl)
    · refine lv_aload_n hx hb dL_law_231 rfl (lv_at hl 1 rfl) ?_
      refine lv_iload hx hb dL_law_232 (lv_at hl 6 rfl) ?_
      refine lv_iconst (v := iI ((5 : Nat) : Int)) hx hb dL_law_234 (by decide) ?_
      refine fw_idivN (a := k) (b := 5) hx hb dL_law_235 (by omega) (by omega) (by omega) ?_
      refine lv_iload hx hb dL_law_236 (lv_at hl 6 rfl) ?_
      refine lv_iconst (v := iI ((5 : Nat) : Int)) hx hb dL_law_238 (by decide) ?_
      refine fw_iremN (a := k) (b := 5) hx hb dL_law_239 (by omega) (by omega) (by omega) ?_
      refine lv_iload hx hb dL_law_240 (lv_at hl 9 rfl) ?_
      refine fn_cVi (As := [.int (iI ((k / 5 : Nat) : Int)), .int (iI ((k % 5 : Nat) : Int)), .int (iI ((t : Nat) : Int))]) (rest := []) ⟨hx, hb, hml, hown, hts⟩ (c_X2_at l hl0 D cA z ad sa σ μ (((k / 5 : Nat) : Int)) (((k % 5 : Nat) : Int)) (((t : Nat) : Int)) hI ⟨by omega, by omega⟩ ⟨by omega, by omega⟩ ⟨by omega, by omega⟩) (cwV 3 hts gL_law_X2_at rfl rfl rfl (by decide +kernel) ⟨Nat.le_of_ble_eq_true rfl, Nat.le_of_ble_eq_true rfl⟩) WC_0 rfl rfl hl.1 (Nat.le_of_ble_eq_true rfl) dL_law_242 ⟨show _ ≤ 623024 from by omega, show _ ≤ 7232551 from by omega⟩ hK hE hP hS rfl (fun E w' q => by obtain ⟨-, q, -⟩ := q; omega) (fun r w' H locs q_2 hP hS => ?_)
      obtain ⟨-, rfl, rfl⟩ := q_2
      refine fw_topI (b := (optI (occ σ k t))) (by rw [show 5 * Int.toNat ((k / 5 : Nat) : Int) + Int.toNat ((k % 5 : Nat) : Int) = k from by omega]; rfl) ?_
      cases hO : occ σ k t with
      | none =>
        refine fw_topI (b := -1) rfl ?_
        refine lv_istore (lv' := [(13, .int (iI (-1))), (0, .ref b), (1, .ref (ad 0 (0))), (2, .int (iI ((lim : Nat) : Int))), (4, .int (iI ((leg : Nat) : Int))), (7, .int (iI (lst σ k t))), (8, .int (iI ((fnd σ k t : Nat) : Int))), (9, .int (iI ((k : Nat) : Int))), (10, .int (iI ((wts σ k t : Nat) : Int))), (11, .int (iI (bI (decide (high σ k < t))))), (12, .int (iI ((t : Nat) : Int)))]) hx hb dL_law_245 hl (by decide) rfl (fun ls hl => ?_)
        refine lv_iload hx hb dL_law_247 (lv_at hl 0 rfl) ?_
        refine fw_if_ge (x := (-1)) (tgt := 258) hx hb dL_law_249 (by decide) ⟨by omega, by omega⟩ (fun c_3 => absurd c_3 (by decide)) (fun c_3 => ?_)
        refine lv_iconst (v := iI ((1 : Nat) : Int)) hx hb dL_law_252 (by decide) ?_
        refine lv_istore (lv' := [(11, .int (iI ((1 : Nat) : Int))), (13, .int (iI (-1))), (0, .ref b), (1, .ref (ad 0 (0))), (2, .int (iI ((lim : Nat) : Int))), (4, .int (iI ((leg : Nat) : Int))), (7, .int (iI (lst σ k t))), (8, .int (iI ((fnd σ k t : Nat) : Int))), (9, .int (iI ((k : Nat) : Int))), (10, .int (iI ((wts σ k t : Nat) : Int))), (12, .int (iI ((t : Nat) : Int)))]) hx hb dL_law_253 hl (by decide) rfl (fun ls hl => ?_)
        refine lv_goto (tgt := 490) hx hb dL_law_255 (by decide) ?_
        refine fw_iincN (x := t) (lv' := [(12, .int (iI ((t + 1 : Nat) : Int))), (11, .int (iI ((1 : Nat) : Int))), (13, .int (iI (-1))), (0, .ref b), (1, .ref (ad 0 (0))), (2, .int (iI ((lim : Nat) : Int))), (4, .int (iI ((leg : Nat) : Int))), (7, .int (iI (lst σ k t))), (8, .int (iI ((fnd σ k t : Nat) : Int))), (9, .int (iI ((k : Nat) : Int))), (10, .int (iI ((wts σ k t : Nat) : Int)))]) hx hb dL_law_490 hl (k := 10) rfl (by decide) rfl (fun ls hl => ?_)
        refine lv_goto (tgt := 225) hx hb dL_law_493 (by decide) ?_
        have hl := lv_conv hl (l2 := [(12, .int (iI ((t + 1 : Nat) : Int))), (11, .int (iI (bI (decide (high σ k < (t + 1)))))), (13, .int (iI (-1))), (0, .ref b), (1, .ref (ad 0 (0))), (2, .int (iI ((lim : Nat) : Int))), (4, .int (iI ((leg : Nat) : Int))), (7, .int (iI (lst σ k (t + 1)))), (8, .int (iI ((fnd σ k (t + 1) : Nat) : Int))), (9, .int (iI ((k : Nat) : Int))), (10, .int (iI ((wts σ k (t + 1) : Nat) : Int)))]) (by rw [lst_n hO, fnd_n hO, wts_n hO, end_n hI (by omega) hO]; rfl)
        refine W.widen (k := cells + 110) (n := slots + 660) (by omega) (by omega) ?_
        exact ih (t + 1) (cells + 110) (slots + 660) H locs ls (by omega) (by omega) (by omega) (by omega) hP hS (lv_sub hl [3, 4, 5, 6, 7, 8, 9, 10, 1, 0] rfl)
      | some c =>
        refine fw_topI (b := ((c : Nat) : Int)) rfl ?_
        obtain ⟨hc0, hc4, hc5, hc6⟩ := occ_some hO
        have hc : c < 18 := by omega
        have hcc := hI.c c
        have hhi := (high_full hI k (by omega)).mp ⟨c, hO⟩
        have hbd := hSf.2.2.1 c hc hc4
        have hrf := hSf.2.2.2.2.1 c hc hc4
        rw [hc5] at hrf
        refine lv_istore (lv' := [(13, .int (iI ((c : Nat) : Int))), (0, .ref b), (1, .ref (ad 0 (0))), (2, .int (iI ((lim : Nat) : Int))), (4, .int (iI ((leg : Nat) : Int))), (7, .int (iI (lst σ k t))), (8, .int (iI ((fnd σ k t : Nat) : Int))), (9, .int (iI ((k : Nat) : Int))), (10, .int (iI ((wts σ k t : Nat) : Int))), (11, .int (iI (bI (decide (high σ k < t))))), (12, .int (iI ((t : Nat) : Int)))]) hx hb dL_law_245 hl (by decide) rfl (fun ls hl => ?_)
        refine lv_iload hx hb dL_law_247 (lv_at hl 0 rfl) ?_
        refine fw_if_ge (x := ((c : Nat) : Int)) (tgt := 258) hx hb dL_law_249 (by decide) ⟨by omega, by omega⟩ (fun c_4 => ?_) (fun c_4 => ?_)
        · refine lv_iload hx hb dL_law_258 (lv_at hl 9 rfl) ?_
          refine fw_if_neB (x := decide (high σ k < t)) (tgt := 302) hx hb dL_law_260 (by decide) (fun c_5 => ?_) (fun c_5 => ?_)
          · replace c_5 := of_decide_eq_true c_5
            exfalso; omega
          · replace c_5 := of_decide_eq_false c_5
            refine lv_aload_n hx hb dL_law_263 rfl (lv_at hl 2 rfl) ?_
            refine lv_iload hx hb dL_law_264 (lv_at hl 0 rfl) ?_
            refine lv_iconst (v := iI ((4 : Nat) : Int)) hx hb dL_law_266 (by decide) ?_
            refine fn_cVi (As := [.int (iI ((c : Nat) : Int)), .int (iI ((4 : Nat) : Int))]) (rest := []) ⟨hx, hb, hml, hown, hts⟩ (c_X2_container l hl0 D cA z ad sa σ μ (((c : Nat) : Int)) (((4 : Nat) : Int)) hI ⟨by omega, by omega⟩ ⟨by omega, by omega⟩) (cwV 2 hts gL_law_X2_container rfl rfl rfl (by decide +kernel) ⟨Nat.le_of_ble_eq_true rfl, Nat.le_of_ble_eq_true rfl⟩) WC_0 rfl rfl hl.1 (Nat.le_of_ble_eq_true rfl) dL_law_267 ⟨show _ ≤ 623024 from by omega, show _ ≤ 7232551 from by omega⟩ hK hE hP hS rfl (fun E w' q => by obtain ⟨-, q, -⟩ := q; omega) (fun r w' H locs q_6 hP hS => ?_)
            obtain ⟨-, rfl, rfl⟩ := q_6
            refine fw_topI (b := ((σ 4 c : Nat) : Int)) rfl ?_
            refine lv_iconst (v := iI ((1 : Nat) : Int)) hx hb dL_law_270 (by decide) ?_
            refine fw_icmp_ne (x := ((σ 4 c : Nat) : Int)) (y := ((1 : Nat) : Int)) (tgt := 302) hx hb dL_law_271 (by decide) ⟨by omega, by omega⟩ ⟨by omega, by omega⟩ (fun c_7 => ?_) (fun c_7 => ?_)
            · exfalso; omega
            · refine lv_aload_n hx hb dL_law_274 rfl (lv_at hl 2 rfl) ?_
              refine lv_iload hx hb dL_law_275 (lv_at hl 0 rfl) ?_
              refine lv_iconst (v := iI ((1 : Nat) : Int)) hx hb dL_law_277 (by decide) ?_
              refine fn_cVi (As := [.int (iI ((c : Nat) : Int)), .int (iI ((1 : Nat) : Int))]) (rest := []) ⟨hx, hb, hml, hown, hts⟩ (c_X2_container l hl0 D cA z ad sa σ μ (((c : Nat) : Int)) (((1 : Nat) : Int)) hI ⟨by omega, by omega⟩ ⟨by omega, by omega⟩) (cwV 2 hts gL_law_X2_container rfl rfl rfl (by decide +kernel) ⟨Nat.le_of_ble_eq_true rfl, Nat.le_of_ble_eq_true rfl⟩) WC_0 rfl rfl hl.1 (Nat.le_of_ble_eq_true rfl) dL_law_278 ⟨show _ ≤ 623024 from by omega, show _ ≤ 7232551 from by omega⟩ hK hE hP hS rfl (fun E w' q => by obtain ⟨-, q, -⟩ := q; omega) (fun r w' H locs q_8 hP hS => ?_)
              obtain ⟨-, rfl, rfl⟩ := q_8
              refine fw_topI (b := ((σ 1 c : Nat) : Int)) rfl ?_
              refine lv_aload_n hx hb dL_law_281 rfl (lv_at hl 2 rfl) ?_
              refine fw_cVi (As := []) (rest := [.int (iI ((σ 1 c : Nat) : Int))]) ⟨hx, hb, hml, hown, hts⟩ (c_X2_port l D cA z ad σ μ hI) (cwV 0 hts gL_law_X2_port rfl rfl rfl (by decide +kernel) ⟨Nat.le_of_ble_eq_true rfl, Nat.le_of_ble_eq_true rfl⟩) WC_0 rfl rfl hl.1 (Nat.le_of_ble_eq_true rfl) dL_law_282 ⟨show _ ≤ 623024 from by omega, show _ ≤ 7232551 from by omega⟩ hK hP hS rfl (fun r w' H locs q_9 hP hS => ?_)
              obtain ⟨rfl, rfl⟩ := q_9
              refine fw_icmp_gt (x := ((σ 1 c : Nat) : Int)) (y := ((σ 8 4 : Nat) : Int)) (tgt := 302) hx hb dL_law_285 (by decide) ⟨by omega, by omega⟩ ⟨by omega, by omega⟩ (fun c_10 => ?_) (fun c_10 => ?_)
              · exfalso; omega
              · refine lv_aload_n hx hb dL_law_288 rfl (lv_at hl 2 rfl) ?_
                refine lv_iload hx hb dL_law_289 (lv_at hl 0 rfl) ?_
                refine lv_iconst (v := iI ((2 : Nat) : Int)) hx hb dL_law_291 (by decide) ?_
                refine fn_cVi (As := [.int (iI ((c : Nat) : Int)), .int (iI ((2 : Nat) : Int))]) (rest := []) ⟨hx, hb, hml, hown, hts⟩ (c_X2_container l hl0 D cA z ad sa σ μ (((c : Nat) : Int)) (((2 : Nat) : Int)) hI ⟨by omega, by omega⟩ ⟨by omega, by omega⟩) (cwV 2 hts gL_law_X2_container rfl rfl rfl (by decide +kernel) ⟨Nat.le_of_ble_eq_true rfl, Nat.le_of_ble_eq_true rfl⟩) WC_0 rfl rfl hl.1 (Nat.le_of_ble_eq_true rfl) dL_law_292 ⟨show _ ≤ 623024 from by omega, show _ ≤ 7232551 from by omega⟩ hK hE hP hS rfl (fun E w' q => by obtain ⟨-, q, -⟩ := q; omega) (fun r w' H locs q_11 hP hS => ?_)
                obtain ⟨-, rfl, rfl⟩ := q_11
                refine fw_topI (b := ((σ 2 c : Nat) : Int)) rfl ?_
                refine lv_aload_n hx hb dL_law_295 rfl (lv_at hl 2 rfl) ?_
                refine fw_cVi (As := []) (rest := [.int (iI ((σ 2 c : Nat) : Int))]) ⟨hx, hb, hml, hown, hts⟩ (c_X2_port l D cA z ad σ μ hI) (cwV 0 hts gL_law_X2_port rfl rfl rfl (by decide +kernel) ⟨Nat.le_of_ble_eq_true rfl, Nat.le_of_ble_eq_true rfl⟩) WC_0 rfl rfl hl.1 (Nat.le_of_ble_eq_true rfl) dL_law_296 ⟨show _ ≤ 623024 from by omega, show _ ≤ 7232551 from by omega⟩ hK hP hS rfl (fun r w' H locs q_12 hP hS => ?_)
                obtain ⟨rfl, rfl⟩ := q_12
                refine fw_icmp_gt (x := ((σ 2 c : Nat) : Int)) (y := ((σ 8 4 : Nat) : Int)) (tgt := 304) hx hb dL_law_299 (by decide) ⟨by omega, by omega⟩ ⟨by omega, by omega⟩ (fun c_13 => ?_) (fun c_13 => ?_)
                · refine lv_iload hx hb dL_law_304 (lv_at hl 8 rfl) ?_
                  refine lv_aload_n hx hb dL_law_306 rfl (lv_at hl 2 rfl) ?_
                  refine lv_iload hx hb dL_law_307 (lv_at hl 0 rfl) ?_
                  refine lv_iconst (v := iI ((0 : Nat) : Int)) hx hb dL_law_309 (by decide) ?_
                  refine fn_cVi (As := [.int (iI ((c : Nat) : Int)), .int (iI ((0 : Nat) : Int))]) (rest := [.int (iI ((wts σ k t : Nat) : Int))]) ⟨hx, hb, hml, hown, hts⟩ (c_X2_container l hl0 D cA z ad sa σ μ (((c : Nat) : Int)) (((0 : Nat) : Int)) hI ⟨by omega, by omega⟩ ⟨by omega, by omega⟩) (cwV 2 hts gL_law_X2_container rfl rfl rfl (by decide +kernel) ⟨Nat.le_of_ble_eq_true rfl, Nat.le_of_ble_eq_true rfl⟩) WC_0 rfl rfl hl.1 (Nat.le_of_ble_eq_true rfl) dL_law_310 ⟨show _ ≤ 623024 from by omega, show _ ≤ 7232551 from by omega⟩ hK hE hP hS rfl (fun E w' q => by obtain ⟨-, q, -⟩ := q; omega) (fun r w' H locs q_14 hP hS => ?_)
                  obtain ⟨-, rfl, rfl⟩ := q_14
                  refine fw_topI (b := ((σ 0 c : Nat) : Int)) rfl ?_
                  refine fw_iaddN (a := wts σ k t) (b := σ 0 c) hx hb dL_law_313 ?_
                  refine lv_istore (lv' := [(10, .int (iI (((wts σ k t) + (σ 0 c) : Nat) : Int))), (13, .int (iI ((c : Nat) : Int))), (0, .ref b), (1, .ref (ad 0 (0))), (2, .int (iI ((lim : Nat) : Int))), (4, .int (iI ((leg : Nat) : Int))), (7, .int (iI (lst σ k t))), (8, .int (iI ((fnd σ k t : Nat) : Int))), (9, .int (iI ((k : Nat) : Int))), (11, .int (iI (bI (decide (high σ k < t))))), (12, .int (iI ((t : Nat) : Int)))]) hx hb dL_law_314 hl (by decide) rfl (fun ls hl => ?_)
                  refine fw_iincN (x := fnd σ k t) (lv' := [(8, .int (iI (((fnd σ k t) + 1 : Nat) : Int))), (10, .int (iI (((wts σ k t) + (σ 0 c) : Nat) : Int))), (13, .int (iI ((c : Nat) : Int))), (0, .ref b), (1, .ref (ad 0 (0))), (2, .int (iI ((lim : Nat) : Int))), (4, .int (iI ((leg : Nat) : Int))), (7, .int (iI (lst σ k t))), (9, .int (iI ((k : Nat) : Int))), (11, .int (iI (bI (decide (high σ k < t))))), (12, .int (iI ((t : Nat) : Int)))]) hx hb dL_law_316 hl (k := 7) rfl (by decide) rfl (fun ls hl => ?_)
                  refine lv_iload hx hb dL_law_319 (lv_at hl 7 rfl) ?_
                  refine lv_aload_n hx hb dL_law_321 rfl (lv_at hl 4 rfl) ?_
                  refine lv_iload hx hb dL_law_322 (lv_at hl 2 rfl) ?_
                  refine lv_iconst (v := iI ((0 : Nat) : Int)) hx hb dL_law_324 (by decide) ?_
                  refine fn_cVi (As := [.int (iI ((c : Nat) : Int)), .int (iI ((0 : Nat) : Int))]) (rest := [.int (iI (lst σ k t))]) ⟨hx, hb, hml, hown, hts⟩ (c_X2_container l hl0 D cA z ad sa σ μ (((c : Nat) : Int)) (((0 : Nat) : Int)) hI ⟨by omega, by omega⟩ ⟨by omega, by omega⟩) (cwV 2 hts gL_law_X2_container rfl rfl rfl (by decide +kernel) ⟨Nat.le_of_ble_eq_true rfl, Nat.le_of_ble_eq_true rfl⟩) WC_0 rfl rfl hl.1 (Nat.le_of_ble_eq_true rfl) dL_law_325 ⟨show _ ≤ 623024 from by omega, show _ ≤ 7232551 from by omega⟩ hK hE hP hS rfl (fun E w' q => by obtain ⟨-, q, -⟩ := q; omega) (fun r w' H locs q_15 hP hS => ?_)
                  obtain ⟨-, rfl, rfl⟩ := q_15
                  refine fw_topI (b := ((σ 0 c : Nat) : Int)) rfl ?_
                  refine lv_iload hx hb dL_law_328 (lv_at hl 8 rfl) ?_
                  refine lv_iconst (v := iI ((5 : Nat) : Int)) hx hb dL_law_330 (by decide) ?_
                  refine fw_iremN (a := k) (b := 5) hx hb dL_law_331 (by omega) (by omega) (by omega) ?_
                  refine lv_iconst (v := iI ((2 : Nat) : Int)) hx hb dL_law_332 (by decide) ?_
                  refine fw_isub (a := ((k % 5 : Nat) : Int)) (b := ((2 : Nat) : Int)) hx hb dL_law_333 ?_
                  refine fw_imul (a := ((σ 0 c : Nat) : Int)) (b := (((k % 5 : Nat) : Int) - ((2 : Nat) : Int))) hx hb dL_law_334 ?_
                  refine fw_iadd (a := (lst σ k t)) (b := (((σ 0 c : Nat) : Int) * (((k % 5 : Nat) : Int) - ((2 : Nat) : Int)))) hx hb dL_law_335 ?_
                  refine lv_istore (lv' := [(7, .int (iI ((lst σ k t) + (((σ 0 c : Nat) : Int) * (((k % 5 : Nat) : Int) - ((2 : Nat) : Int)))))), (8, .int (iI (((fnd σ k t) + 1 : Nat) : Int))), (10, .int (iI (((wts σ k t) + (σ 0 c) : Nat) : Int))), (13, .int (iI ((c : Nat) : Int))), (0, .ref b), (1, .ref (ad 0 (0))), (2, .int (iI ((lim : Nat) : Int))), (4, .int (iI ((leg : Nat) : Int))), (9, .int (iI ((k : Nat) : Int))), (11, .int (iI (bI (decide (high σ k < t))))), (12, .int (iI ((t : Nat) : Int)))]) hx hb dL_law_336 hl (by decide) rfl (fun ls hl => ?_)
                  refine lv_aload_n hx hb dL_law_338 rfl (lv_at hl 5 rfl) ?_
                  refine lv_iload hx hb dL_law_339 (lv_at hl 3 rfl) ?_
                  refine lv_iconst (v := iI ((3 : Nat) : Int)) hx hb dL_law_341 (by decide) ?_
                  refine fn_cVi (As := [.int (iI ((c : Nat) : Int)), .int (iI ((3 : Nat) : Int))]) (rest := []) ⟨hx, hb, hml, hown, hts⟩ (c_X2_container l hl0 D cA z ad sa σ μ (((c : Nat) : Int)) (((3 : Nat) : Int)) hI ⟨by omega, by omega⟩ ⟨by omega, by omega⟩) (cwV 2 hts gL_law_X2_container rfl rfl rfl (by decide +kernel) ⟨Nat.le_of_ble_eq_true rfl, Nat.le_of_ble_eq_true rfl⟩) WC_0 rfl rfl hl.1 (Nat.le_of_ble_eq_true rfl) dL_law_342 ⟨show _ ≤ 623024 from by omega, show _ ≤ 7232551 from by omega⟩ hK hE hP hS rfl (fun E w' q => by obtain ⟨-, q, -⟩ := q; omega) (fun r w' H locs q_16 hP hS => ?_)
                  obtain ⟨-, rfl, rfl⟩ := q_16
                  refine fw_topI (b := ((σ 3 c : Nat) : Int)) rfl ?_
                  refine lv_istore (lv' := [(14, .int (iI ((σ 3 c : Nat) : Int))), (7, .int (iI ((lst σ k t) + (((σ 0 c : Nat) : Int) * (((k % 5 : Nat) : Int) - ((2 : Nat) : Int)))))), (8, .int (iI (((fnd σ k t) + 1 : Nat) : Int))), (10, .int (iI (((wts σ k t) + (σ 0 c) : Nat) : Int))), (13, .int (iI ((c : Nat) : Int))), (0, .ref b), (1, .ref (ad 0 (0))), (2, .int (iI ((lim : Nat) : Int))), (4, .int (iI ((leg : Nat) : Int))), (9, .int (iI ((k : Nat) : Int))), (11, .int (iI (bI (decide (high σ k < t))))), (12, .int (iI ((t : Nat) : Int)))]) hx hb dL_law_345 hl (by decide) rfl (fun ls hl => ?_)
                  refine lv_iload hx hb dL_law_347 (lv_at hl 0 rfl) ?_
                  refine lv_iconst (v := iI ((1 : Nat) : Int)) hx hb dL_law_349 (by decide) ?_
                  refine fw_icmp_ne (x := ((σ 3 c : Nat) : Int)) (y := ((1 : Nat) : Int)) (tgt := 377) hx hb dL_law_350 (by decide) ⟨by omega, by omega⟩ ⟨by omega, by omega⟩ (fun c_17 => ?_) (fun c_17 => ?_)
                  · refine lv_iconst (v := iI ((0 : Nat) : Int)) hx hb dL_law_377 (by decide) ?_
                    refine lv_istore (lv' := [(15, .int (iI ((0 : Nat) : Int))), (14, .int (iI ((σ 3 c : Nat) : Int))), (7, .int (iI ((lst σ k t) + (((σ 0 c : Nat) : Int) * (((k % 5 : Nat) : Int) - ((2 : Nat) : Int)))))), (8, .int (iI (((fnd σ k t) + 1 : Nat) : Int))), (10, .int (iI (((wts σ k t) + (σ 0 c) : Nat) : Int))), (13, .int (iI ((c : Nat) : Int))), (0, .ref b), (1, .ref (ad 0 (0))), (2, .int (iI ((lim : Nat) : Int))), (4, .int (iI ((leg : Nat) : Int))), (9, .int (iI ((k : Nat) : Int))), (11, .int (iI (bI (decide (high σ k < t))))), (12, .int (iI ((t : Nat) : Int)))]) hx hb dL_law_378 hl (by decide) rfl (fun ls hl => ?_)
                    refine W.widen (k := cells + 7) (n := slots + 42) (by omega) (by omega) ?_
                    refine law_o X0 hI hSf hc hk hO (C := cells + 107) (S9 := slots + 642) ⟨by omega, by omega⟩ (fun H locs ls hP hS hl => ?_) (c + 1) 0 (cells + 7) (slots + 42) H locs ls (by omega) (by omega) (by omega) (by omega) hP hS (lv_sub hl [6, 7, 8, 9, 2, 3, 10, 4, 11, 12, 5, 1, 0] rfl)
                    refine fw_iincN (x := t) (lv' := [(12, .int (iI ((t + 1 : Nat) : Int))), (0, .ref b), (1, .ref (ad 0 (0))), (2, .int (iI ((lim : Nat) : Int))), (4, .int (iI ((leg : Nat) : Int))), (7, .int (iI ((lst σ k t) + (((σ 0 c : Nat) : Int) * (((k % 5 : Nat) : Int) - ((2 : Nat) : Int)))))), (8, .int (iI (((fnd σ k t) + 1 : Nat) : Int))), (9, .int (iI ((k : Nat) : Int))), (10, .int (iI (((wts σ k t) + (σ 0 c) : Nat) : Int))), (11, .int (iI (bI (decide (high σ k < t)))))]) hx hb dL_law_490 hl (k := 9) rfl (by decide) rfl (fun ls hl => ?_)
                    refine lv_goto (tgt := 225) hx hb dL_law_493 (by decide) ?_
                    have hl := lv_conv hl (l2 := [(12, .int (iI ((t + 1 : Nat) : Int))), (0, .ref b), (1, .ref (ad 0 (0))), (2, .int (iI ((lim : Nat) : Int))), (4, .int (iI ((leg : Nat) : Int))), (7, .int (iI (lst σ k (t + 1)))), (8, .int (iI ((fnd σ k (t + 1) : Nat) : Int))), (9, .int (iI ((k : Nat) : Int))), (10, .int (iI ((wts σ k (t + 1) : Nat) : Int))), (11, .int (iI (bI (decide (high σ k < (t + 1))))))]) (by rw [lst_s hO, fnd_s hO, wts_s hO, (end_s hI (by omega) hO).1, (end_s hI (by omega) hO).2])
                    refine W.widen (k := cells + 110) (n := slots + 660) (by omega) (by omega) ?_
                    exact ih (t + 1) (cells + 110) (slots + 660) H locs ls (by omega) (by omega) (by omega) (by omega) hP hS (lv_sub hl [1, 2, 3, 4, 5, 6, 7, 8, 9, 0] rfl)
                  · refine lv_iload hx hb dL_law_353 (lv_at hl 11 rfl) ?_
                    refine lv_iconst (v := iI ((1 : Nat) : Int)) hx hb dL_law_355 (by decide) ?_
                    refine fw_icmp_gt (x := ((t : Nat) : Int)) (y := ((1 : Nat) : Int)) (tgt := 375) hx hb dL_law_356 (by decide) ⟨by omega, by omega⟩ ⟨by omega, by omega⟩ (fun c_18 => ?_) (fun c_18 => ?_)
                    · exfalso; have := hrf (by omega); have := plg_1 this.1; omega
                    · refine lv_iload hx hb dL_law_359 (lv_at hl 9 rfl) ?_
                      refine lv_iconst (v := iI ((5 : Nat) : Int)) hx hb dL_law_361 (by decide) ?_
                      refine fw_idivN (a := k) (b := 5) hx hb dL_law_362 (by omega) (by omega) (by omega) ?_
                      refine lv_iconst (v := iI ((2 : Nat) : Int)) hx hb dL_law_363 (by decide) ?_
                      refine fw_icmp_eq (x := ((k / 5 : Nat) : Int)) (y := ((2 : Nat) : Int)) (tgt := 377) hx hb dL_law_364 (by decide) ⟨by omega, by omega⟩ ⟨by omega, by omega⟩ (fun c_19 => ?_) (fun c_19 => ?_)
                      · refine lv_iconst (v := iI ((0 : Nat) : Int)) hx hb dL_law_377 (by decide) ?_
                        refine lv_istore (lv' := [(15, .int (iI ((0 : Nat) : Int))), (14, .int (iI ((σ 3 c : Nat) : Int))), (7, .int (iI ((lst σ k t) + (((σ 0 c : Nat) : Int) * (((k % 5 : Nat) : Int) - ((2 : Nat) : Int)))))), (8, .int (iI (((fnd σ k t) + 1 : Nat) : Int))), (10, .int (iI (((wts σ k t) + (σ 0 c) : Nat) : Int))), (13, .int (iI ((c : Nat) : Int))), (0, .ref b), (1, .ref (ad 0 (0))), (2, .int (iI ((lim : Nat) : Int))), (4, .int (iI ((leg : Nat) : Int))), (9, .int (iI ((k : Nat) : Int))), (11, .int (iI (bI (decide (high σ k < t))))), (12, .int (iI ((t : Nat) : Int)))]) hx hb dL_law_378 hl (by decide) rfl (fun ls hl => ?_)
                        refine W.widen (k := cells + 7) (n := slots + 42) (by omega) (by omega) ?_
                        refine law_o X0 hI hSf hc hk hO (C := cells + 107) (S9 := slots + 642) ⟨by omega, by omega⟩ (fun H locs ls hP hS hl => ?_) (c + 1) 0 (cells + 7) (slots + 42) H locs ls (by omega) (by omega) (by omega) (by omega) hP hS (lv_sub hl [6, 7, 8, 9, 2, 3, 10, 4, 11, 12, 5, 1, 0] rfl)
                        refine fw_iincN (x := t) (lv' := [(12, .int (iI ((t + 1 : Nat) : Int))), (0, .ref b), (1, .ref (ad 0 (0))), (2, .int (iI ((lim : Nat) : Int))), (4, .int (iI ((leg : Nat) : Int))), (7, .int (iI ((lst σ k t) + (((σ 0 c : Nat) : Int) * (((k % 5 : Nat) : Int) - ((2 : Nat) : Int)))))), (8, .int (iI (((fnd σ k t) + 1 : Nat) : Int))), (9, .int (iI ((k : Nat) : Int))), (10, .int (iI (((wts σ k t) + (σ 0 c) : Nat) : Int))), (11, .int (iI (bI (decide (high σ k < t)))))]) hx hb dL_law_490 hl (k := 9) rfl (by decide) rfl (fun ls hl => ?_)
                        refine lv_goto (tgt := 225) hx hb dL_law_493 (by decide) ?_
                        have hl := lv_conv hl (l2 := [(12, .int (iI ((t + 1 : Nat) : Int))), (0, .ref b), (1, .ref (ad 0 (0))), (2, .int (iI ((lim : Nat) : Int))), (4, .int (iI ((leg : Nat) : Int))), (7, .int (iI (lst σ k (t + 1)))), (8, .int (iI ((fnd σ k (t + 1) : Nat) : Int))), (9, .int (iI ((k : Nat) : Int))), (10, .int (iI ((wts σ k (t + 1) : Nat) : Int))), (11, .int (iI (bI (decide (high σ k < (t + 1))))))]) (by rw [lst_s hO, fnd_s hO, wts_s hO, (end_s hI (by omega) hO).1, (end_s hI (by omega) hO).2])
                        refine W.widen (k := cells + 110) (n := slots + 660) (by omega) (by omega) ?_
                        exact ih (t + 1) (cells + 110) (slots + 660) H locs ls (by omega) (by omega) (by omega) (by omega) hP hS (lv_sub hl [1, 2, 3, 4, 5, 6, 7, 8, 9, 0] rfl)
                      · refine lv_iload hx hb dL_law_367 (lv_at hl 9 rfl) ?_
                        refine lv_iconst (v := iI ((5 : Nat) : Int)) hx hb dL_law_369 (by decide) ?_
                        refine fw_idivN (a := k) (b := 5) hx hb dL_law_370 (by omega) (by omega) (by omega) ?_
                        refine lv_iconst (v := iI ((3 : Nat) : Int)) hx hb dL_law_371 (by decide) ?_
                        refine fw_icmp_eq (x := ((k / 5 : Nat) : Int)) (y := ((3 : Nat) : Int)) (tgt := 377) hx hb dL_law_372 (by decide) ⟨by omega, by omega⟩ ⟨by omega, by omega⟩ (fun c_20 => ?_) (fun c_20 => ?_)
                        · refine lv_iconst (v := iI ((0 : Nat) : Int)) hx hb dL_law_377 (by decide) ?_
                          refine lv_istore (lv' := [(15, .int (iI ((0 : Nat) : Int))), (14, .int (iI ((σ 3 c : Nat) : Int))), (7, .int (iI ((lst σ k t) + (((σ 0 c : Nat) : Int) * (((k % 5 : Nat) : Int) - ((2 : Nat) : Int)))))), (8, .int (iI (((fnd σ k t) + 1 : Nat) : Int))), (10, .int (iI (((wts σ k t) + (σ 0 c) : Nat) : Int))), (13, .int (iI ((c : Nat) : Int))), (0, .ref b), (1, .ref (ad 0 (0))), (2, .int (iI ((lim : Nat) : Int))), (4, .int (iI ((leg : Nat) : Int))), (9, .int (iI ((k : Nat) : Int))), (11, .int (iI (bI (decide (high σ k < t))))), (12, .int (iI ((t : Nat) : Int)))]) hx hb dL_law_378 hl (by decide) rfl (fun ls hl => ?_)
                          refine W.widen (k := cells + 7) (n := slots + 42) (by omega) (by omega) ?_
                          refine law_o X0 hI hSf hc hk hO (C := cells + 107) (S9 := slots + 642) ⟨by omega, by omega⟩ (fun H locs ls hP hS hl => ?_) (c + 1) 0 (cells + 7) (slots + 42) H locs ls (by omega) (by omega) (by omega) (by omega) hP hS (lv_sub hl [6, 7, 8, 9, 2, 3, 10, 4, 11, 12, 5, 1, 0] rfl)
                          refine fw_iincN (x := t) (lv' := [(12, .int (iI ((t + 1 : Nat) : Int))), (0, .ref b), (1, .ref (ad 0 (0))), (2, .int (iI ((lim : Nat) : Int))), (4, .int (iI ((leg : Nat) : Int))), (7, .int (iI ((lst σ k t) + (((σ 0 c : Nat) : Int) * (((k % 5 : Nat) : Int) - ((2 : Nat) : Int)))))), (8, .int (iI (((fnd σ k t) + 1 : Nat) : Int))), (9, .int (iI ((k : Nat) : Int))), (10, .int (iI (((wts σ k t) + (σ 0 c) : Nat) : Int))), (11, .int (iI (bI (decide (high σ k < t)))))]) hx hb dL_law_490 hl (k := 9) rfl (by decide) rfl (fun ls hl => ?_)
                          refine lv_goto (tgt := 225) hx hb dL_law_493 (by decide) ?_
                          have hl := lv_conv hl (l2 := [(12, .int (iI ((t + 1 : Nat) : Int))), (0, .ref b), (1, .ref (ad 0 (0))), (2, .int (iI ((lim : Nat) : Int))), (4, .int (iI ((leg : Nat) : Int))), (7, .int (iI (lst σ k (t + 1)))), (8, .int (iI ((fnd σ k (t + 1) : Nat) : Int))), (9, .int (iI ((k : Nat) : Int))), (10, .int (iI ((wts σ k (t + 1) : Nat) : Int))), (11, .int (iI (bI (decide (high σ k < (t + 1))))))]) (by rw [lst_s hO, fnd_s hO, wts_s hO, (end_s hI (by omega) hO).1, (end_s hI (by omega) hO).2])
                          refine W.widen (k := cells + 110) (n := slots + 660) (by omega) (by omega) ?_
                          exact ih (t + 1) (cells + 110) (slots + 660) H locs ls (by omega) (by omega) (by omega) (by omega) hP hS (lv_sub hl [1, 2, 3, 4, 5, 6, 7, 8, 9, 0] rfl)
                        · exfalso; have := hrf (by omega); have := plg_1 this.1; omega
                · exfalso; omega
        · exfalso; omega

set_option maxHeartbeats 4000000 in
set_option maxRecDepth 100000 in
theorem law_k {p : Program} {l : Launch} {e : Env} {s : State} {m : MethodId} {args : Array Value} {below : List Frame} {meth : Method} {cd : Code} {Q : State → Prop} {D : va_G} {cA : Nat → ClassId} {sa : Nat → Nat} {b L z : Nat} {xs : Nat → Int32} {ad : fw_Ad} {σ : St} {μ : fw_W} {lim leg : Nat} (X : LX p l s m args cd b L xs D cA sa z) (hI : Inv σ) (hSf : Safe σ lim) (hleg : σ 8 4 = leg) {C S9 : Nat} (hro : C ≤ 623024 ∧ S9 ≤ 7232551)
    (kk : ∀ (H : Heap) (locs : List Loc) (ls : Array Slot), fw_P D vwCl z ad (WC cA ad σ μ) H → va_S (fw_A z) s.heap H locs → lv_has ls 17 [(0, .ref b), (1, .ref (ad 0 (0))), (2, .int (iI ((lim : Nat) : Int))), (4, .int (iI ((leg : Nat) : Int))), (7, .int (iI (lst σ 30 0))), (8, .int (iI ((fnd σ 30 0 : Nat) : Int))), (9, .int (iI ((30 : Nat) : Int)))] → W p l e room_1 s m args below meth cd H locs C S9 Q (F0 m 510 ls [])) :
    ∀ (dd k cells slots : Nat) (H : Heap) (locs : List Loc) (ls : Array Slot), 30 + 1 ≤ k + dd → k ≤ 30 → cells + 560 * dd ≤ C → slots + 3360 * dd ≤ S9 → fw_P D vwCl z ad (WC cA ad σ μ) H → va_S (fw_A z) s.heap H locs → lv_has ls 17 [(0, .ref b), (1, .ref (ad 0 (0))), (2, .int (iI ((lim : Nat) : Int))), (4, .int (iI ((leg : Nat) : Int))), (7, .int (iI (lst σ k 0))), (8, .int (iI ((fnd σ k 0 : Nat) : Int))), (9, .int (iI ((k : Nat) : Int)))] → W p l e room_1 s m args below meth cd H locs cells slots Q (F0 m 209 ls []) := by
  have X0 := X
  obtain ⟨hx, hb, hml, hown, hts, hX, hbl, hL, hK, hAO, hE, hl0, hz, hbz⟩ := X
  have h8 : σ 8 0 = 18 := hSf.1.1
  have hlm := hI.lim
  have hlm1 := hSf.1.2.1
  intro dd
  induction dd with
  | zero => intro k cells slots H locs ls hd hi; omega
  | succ dd ih =>
    intro k cells slots H locs ls hd hi hc9 hs9 hP hS hl
    refine lv_iload hx hb dL_law_209 (lv_at hl 6 rfl) ?_
    refine lv_bipush (v := iI ((30 : Nat) : Int)) hx hb dL_law_211 (by decide) ?_
    refine fw_icmp_ge (x := ((k : Nat) : Int)) (y := ((30 : Nat) : Int)) (tgt := 510) hx hb dL_law_213 (by decide) ⟨by omega, by omega⟩ ⟨by omega, by omega⟩ (fun c_1 => ?_) (fun c_1 => ?_)
    · have hk30 : k = 30 := by omega
      subst hk30
      refine W.widen (k := C) (n := S9) (by omega) (by omega) ?_
      exact kk H locs ls hP hS (lv_sub hl [0, 1, 2, 3, 4, 5, 6] rfl)
    · refine lv_iconst (v := iI ((0 : Nat) : Int)) hx hb dL_law_216 (by decide) ?_
      refine lv_istore (lv' := [(10, .int (iI ((0 : Nat) : Int))), (0, .ref b), (1, .ref (ad 0 (0))), (2, .int (iI ((lim : Nat) : Int))), (4, .int (iI ((leg : Nat) : Int))), (7, .int (iI (lst σ k 0))), (8, .int (iI ((fnd σ k 0 : Nat) : Int))), (9, .int (iI ((k : Nat) : Int)))]) hx hb dL_law_217 hl (by decide) rfl (fun ls hl => ?_)
      refine lv_iconst (v := iI ((0 : Nat) : Int)) hx hb dL_law_219 (by decide) ?_
      refine lv_istore (lv' := [(11, .int (iI ((0 : Nat) : Int))), (10, .int (iI ((0 : Nat) : Int))), (0, .ref b), (1, .ref (ad 0 (0))), (2, .int (iI ((lim : Nat) : Int))), (4, .int (iI ((leg : Nat) : Int))), (7, .int (iI (lst σ k 0))), (8, .int (iI ((fnd σ k 0 : Nat) : Int))), (9, .int (iI ((k : Nat) : Int)))]) hx hb dL_law_220 hl (by decide) rfl (fun ls hl => ?_)
      refine lv_iconst (v := iI ((0 : Nat) : Int)) hx hb dL_law_222 (by decide) ?_
      refine lv_istore (lv' := [(12, .int (iI ((0 : Nat) : Int))), (11, .int (iI ((0 : Nat) : Int))), (10, .int (iI ((0 : Nat) : Int))), (0, .ref b), (1, .ref (ad 0 (0))), (2, .int (iI ((lim : Nat) : Int))), (4, .int (iI ((leg : Nat) : Int))), (7, .int (iI (lst σ k 0))), (8, .int (iI ((fnd σ k 0 : Nat) : Int))), (9, .int (iI ((k : Nat) : Int)))]) hx hb dL_law_223 hl (by decide) rfl (fun ls hl => ?_)
      have hl := lv_conv hl (l2 := [(12, .int (iI ((0 : Nat) : Int))), (11, .int (iI (bI (decide (high σ k < 0))))), (10, .int (iI ((wts σ k 0 : Nat) : Int))), (0, .ref b), (1, .ref (ad 0 (0))), (2, .int (iI ((lim : Nat) : Int))), (4, .int (iI ((leg : Nat) : Int))), (7, .int (iI (lst σ k 0))), (8, .int (iI ((fnd σ k 0 : Nat) : Int))), (9, .int (iI ((k : Nat) : Int)))]) (by rw [show decide (high σ k < 0) = false from decide_eq_false (by omega)]; rfl)
      refine law_t X0 hI hSf (by omega) hleg (C := cells + 550) (S9 := slots + 3300) ⟨by omega, by omega⟩ (fun H locs ls hP hS hl => ?_) 5 0 cells slots H locs ls (by omega) (by omega) (by omega) (by omega) hP hS (lv_sub hl [3, 4, 5, 6, 7, 8, 9, 2, 1, 0] rfl)
      have hw4 : wts σ k 4 ≤ lim := by rw [wts_4 hI]; exact hSf.2.2.2.1 k
      refine lv_iload hx hb dL_law_496 (lv_at hl 7 rfl) ?_
      refine lv_iload_n hx hb dL_law_498 rfl (lv_at hl 2 rfl) ?_
      refine fw_icmp_le (x := ((wts σ k 4 : Nat) : Int)) (y := ((lim : Nat) : Int)) (tgt := 504) hx hb dL_law_499 (by decide) ⟨by omega, by omega⟩ ⟨by omega, by omega⟩ (fun c_2 => ?_) (fun c_2 => ?_)
      · refine fw_iincN (x := k) (lv' := [(9, .int (iI ((k + 1 : Nat) : Int))), (0, .ref b), (1, .ref (ad 0 (0))), (2, .int (iI ((lim : Nat) : Int))), (4, .int (iI ((leg : Nat) : Int))), (7, .int (iI (lst σ k 4))), (8, .int (iI ((fnd σ k 4 : Nat) : Int))), (10, .int (iI ((wts σ k 4 : Nat) : Int))), (11, .int (iI (bI (decide (high σ k < 4))))), (12, .int (iI ((4 : Nat) : Int)))]) hx hb dL_law_504 hl (k := 6) rfl (by decide) rfl (fun ls hl => ?_)
        refine lv_goto (tgt := 209) hx hb dL_law_507 (by decide) ?_
        have hl := lv_conv hl (l2 := [(9, .int (iI ((k + 1 : Nat) : Int))), (0, .ref b), (1, .ref (ad 0 (0))), (2, .int (iI ((lim : Nat) : Int))), (4, .int (iI ((leg : Nat) : Int))), (7, .int (iI (lst σ (k + 1) 0))), (8, .int (iI ((fnd σ (k + 1) 0 : Nat) : Int))), (10, .int (iI ((wts σ k 4 : Nat) : Int))), (11, .int (iI (bI (decide (high σ k < 4))))), (12, .int (iI ((4 : Nat) : Int)))]) (by rw [lst_4 hI, fnd_4 hI])
        refine W.widen (k := cells + 560) (n := slots + 3360) (by omega) (by omega) ?_
        exact ih (k + 1) (cells + 560) (slots + 3360) H locs ls (by omega) (by omega) (by omega) (by omega) hP hS (lv_sub hl [1, 2, 3, 4, 5, 6, 0] rfl)
      · exfalso; omega

set_option maxHeartbeats 4000000 in
set_option maxRecDepth 100000 in
theorem law_st {p : Program} {l : Launch} {e : Env} {s : State} {m : MethodId} {args : Array Value} {below : List Frame} {meth : Method} {cd : Code} {Q : State → Prop} {D : va_G} {cA : Nat → ClassId} {sa : Nat → Nat} {b L z : Nat} {xs : Nat → Int32} {ad : fw_Ad} {σ : St} {lim leg : Nat} (X : LX p l s m args cd b L xs D cA sa z) (hI : Inv σ) (hSf : Safe σ lim) {C S9 : Nat} (hro : C ≤ 623024 ∧ S9 ≤ 7232551)
    (kk : ∀ (f : Nat → Int32), (∀ j, j < 18 → f j = iI ((σ 4 j : Nat) : Int)) → ∀ (H : Heap) (locs : List Loc) (ls : Array Slot), fw_P D vwCl z ad (WC cA ad σ ((sW cA f))) H → va_S (fw_A z) s.heap H locs → lv_has ls 17 [(0, .ref b), (1, .ref (ad 0 (0))), (2, .int (iI ((lim : Nat) : Int))), (4, .int (iI ((leg : Nat) : Int))), (9, .ref (ad 18 (0)))] → W p l e room_1 s m args below meth cd H locs C S9 Q (F0 m 615 ls [])) :
    ∀ (dd i cells slots : Nat) (f : Nat → Int32) (H : Heap) (locs : List Loc) (ls : Array Slot), 18 + 1 ≤ i + dd → i ≤ 18 → cells + 1 * dd ≤ C → slots + 6 * dd ≤ S9 → (∀ j, j < i → f j = iI ((σ 4 j : Nat) : Int)) → fw_P D vwCl z ad (WC cA ad σ ((sW cA f))) H → va_S (fw_A z) s.heap H locs → lv_has ls 17 [(0, .ref b), (1, .ref (ad 0 (0))), (2, .int (iI ((lim : Nat) : Int))), (4, .int (iI ((leg : Nat) : Int))), (9, .ref (ad 18 (0))), (10, .int (iI ((i : Nat) : Int)))] → W p l e room_1 s m args below meth cd H locs cells slots Q (F0 m 590 ls []) := by
  have X0 := X
  obtain ⟨hx, hb, hml, hown, hts, hX, hbl, hL, hK, hAO, hE, hl0, hz, hbz⟩ := X
  have h8 : σ 8 0 = 18 := hSf.1.1
  intro dd
  induction dd with
  | zero => intro i cells slots f H locs ls hd hi; omega
  | succ dd ih =>
    intro i cells slots f H locs ls hd hi hc9 hs9 hf hP hS hl
    refine lv_iload hx hb dL_law_590 (lv_at hl 5 rfl) ?_
    refine lv_bipush (v := iI ((18 : Nat) : Int)) hx hb dL_law_592 (by decide) ?_
    refine fw_icmp_ge (x := ((i : Nat) : Int)) (y := ((18 : Nat) : Int)) (tgt := 615) hx hb dL_law_594 (by decide) ⟨by omega, by omega⟩ ⟨by omega, by omega⟩ (fun c_1 => ?_) (fun c_1 => ?_)
    · refine W.widen (k := C) (n := S9) (by omega) (by omega) ?_
      exact kk f (fun j hj => hf j (by omega)) H locs ls hP hS (lv_sub hl [0, 1, 2, 3, 4] rfl)
    · refine lv_aload hx hb dL_law_597 (lv_at hl 4 rfl) ?_
      refine lv_iload hx hb dL_law_599 (lv_at hl 5 rfl) ?_
      refine lv_aload_n hx hb dL_law_601 rfl (lv_at hl 1 rfl) ?_
      refine lv_iload hx hb dL_law_602 (lv_at hl 5 rfl) ?_
      refine lv_iconst (v := iI ((4 : Nat) : Int)) hx hb dL_law_604 (by decide) ?_
      refine fn_cVi (As := [.int (iI ((i : Nat) : Int)), .int (iI ((4 : Nat) : Int))]) (rest := [.int (iI ((i : Nat) : Int)), .ref (ad 18 (0))]) ⟨hx, hb, hml, hown, hts⟩ (c_X2_container l hl0 D cA z ad sa σ ((sW cA f)) (((i : Nat) : Int)) (((4 : Nat) : Int)) hI ⟨by omega, by omega⟩ ⟨by omega, by omega⟩) (cwV 2 hts gL_law_X2_container rfl rfl rfl (by decide +kernel) ⟨Nat.le_of_ble_eq_true rfl, Nat.le_of_ble_eq_true rfl⟩) WC_0 rfl rfl hl.1 (Nat.le_of_ble_eq_true rfl) dL_law_605 ⟨show _ ≤ 623024 from by omega, show _ ≤ 7232551 from by omega⟩ hK hE hP hS rfl (fun E w' q => by obtain ⟨-, q, -⟩ := q; omega) (fun r w' H locs q_2 hP hS => ?_)
      obtain ⟨-, rfl, rfl⟩ := q_2
      refine fw_topI (b := ((σ 4 i : Nat) : Int)) rfl ?_
      refine fw_iastN (j := i) hx hb hK hP hS ((WC_r (by decide)).trans (sW_18 cA _)) 0 rfl (by omega) (by decide) dL_law_608 (fun H locs hP hS => ?_)
      rw [sW_up] at hP
      obtain ⟨f2, hf2⟩ : ∃ f9, f9 = upd f (i) (iI ((σ 4 i : Nat) : Int)) := ⟨_, rfl⟩
      rw [← hf2] at hP
      have hf3 : ∀ j, j < i + 1 → f2 j = iI ((σ 4 j : Nat) : Int) := fun j hj => by
        rw [hf2]
        by_cases q : j = i
        · rw [q]; exact upd_s
        · rw [upd_o q]; exact hf j (by omega)
      refine fw_iincN (x := i) (lv' := [(10, .int (iI ((i + 1 : Nat) : Int))), (0, .ref b), (1, .ref (ad 0 (0))), (2, .int (iI ((lim : Nat) : Int))), (4, .int (iI ((leg : Nat) : Int))), (9, .ref (ad 18 (0)))]) hx hb dL_law_609 hl (k := 5) rfl (by decide) rfl (fun ls hl => ?_)
      refine lv_goto (tgt := 590) hx hb dL_law_612 (by decide) ?_
      refine W.widen (k := cells + 1) (n := slots + 6) (by omega) (by omega) ?_
      exact ih (i + 1) (cells + 1) (slots + 6) f2 H locs ls (by omega) (by omega) (by omega) (by omega) hf3 hP hS (lv_sub hl [1, 2, 3, 4, 5, 0] rfl)

set_option maxHeartbeats 4000000 in
set_option maxRecDepth 100000 in
theorem law_ld {p : Program} {l : Launch} {e : Env} {s : State} {m : MethodId} {args : Array Value} {below : List Frame} {meth : Method} {cd : Code} {Q : State → Prop} {D : va_G} {cA : Nat → ClassId} {sa : Nat → Nat} {b L z : Nat} {xs : Nat → Int32} {ad : fw_Ad} {σ : St} {lim leg : Nat} {f : Nat → Int32} (X : LX p l s m args cd b L xs D cA sa z) (hI : Inv σ) (hSf : Safe σ lim) (h5 : σ 8 4 < 5) (hf : ∀ j, j < 18 → f j = iI ((σ 4 j : Nat) : Int)) {C S9 : Nat} (hro : C ≤ 623024 ∧ S9 ≤ 7232551)
    (kk : ∀ (H : Heap) (locs : List Loc) (ls : Array Slot), fw_P D vwCl z ad (WC cA ad (sailS σ) ((sW cA f))) H → va_S (fw_A z) s.heap H locs → lv_has ls 17 [(0, .ref b), (1, .ref (ad 0 (0))), (2, .int (iI ((lim : Nat) : Int))), (4, .int (iI ((leg : Nat) : Int)))] → W p l e room_1 s m args below meth cd H locs C S9 Q (F0 m 698 ls [])) :
    ∀ (dd i cells slots : Nat) (H : Heap) (locs : List Loc) (ls : Array Slot), 18 + 1 ≤ i + dd → i ≤ 18 → cells + 2 * dd ≤ C → slots + 12 * dd ≤ S9 → fw_P D vwCl z ad (WC cA ad (sailS σ) ((sW cA f))) H → va_S (fw_A z) s.heap H locs → lv_has ls 17 [(0, .ref b), (1, .ref (ad 0 (0))), (2, .int (iI ((lim : Nat) : Int))), (4, .int (iI ((leg : Nat) : Int))), (9, .ref (ad 18 (0))), (11, .int (iI ((i : Nat) : Int)))] → W p l e room_1 s m args below meth cd H locs cells slots Q (F0 m 641 ls []) := by
  have X0 := X
  obtain ⟨hx, hb, hml, hown, hts, hX, hbl, hL, hK, hAO, hE, hl0, hz, hbz⟩ := X
  have h8 : σ 8 0 = 18 := hSf.1.1
  have h82 : sailS σ 8 0 = 18 := by rw [sail_8 (by decide)]; exact h8
  have hI2 := sailS_inv hI h5
  have h84 : sailS σ 8 4 = σ 8 4 + 1 := sail_84
  intro dd
  induction dd with
  | zero => intro i cells slots H locs ls hd hi; omega
  | succ dd ih =>
    intro i cells slots H locs ls hd hi hc9 hs9 hP hS hl
    have hci := hI.c i
    have hci2 := hI2.c i
    have hs4 : i < 18 → ((σ 4 i = 1 ∧ σ 2 i = σ 8 4 + 1 → sailS σ 4 i = 2) ∧ (¬ (σ 4 i = 1 ∧ σ 2 i = σ 8 4 + 1) → sailS σ 4 i = σ 4 i)) := fun q => by
      have e := sail_4 hI h5 (c := i) (by omega)
      exact ⟨fun w => by rw [e, if_pos w], fun w => by rw [e, if_neg w]⟩
    have hs2 : sailS σ 2 i = σ 2 i := sail_o (by decide)
    refine lv_iload hx hb dL_law_641 (lv_at hl 5 rfl) ?_
    refine lv_bipush (v := iI ((18 : Nat) : Int)) hx hb dL_law_643 (by decide) ?_
    refine fw_icmp_ge (x := ((i : Nat) : Int)) (y := ((18 : Nat) : Int)) (tgt := 698) hx hb dL_law_645 (by decide) ⟨by omega, by omega⟩ ⟨by omega, by omega⟩ (fun c_1 => ?_) (fun c_1 => ?_)
    · refine W.widen (k := C) (n := S9) (by omega) (by omega) ?_
      exact kk H locs ls hP hS (lv_sub hl [0, 1, 2, 3] rfl)
    · refine lv_aload_n hx hb dL_law_648 rfl (lv_at hl 1 rfl) ?_
      refine lv_iload hx hb dL_law_649 (lv_at hl 5 rfl) ?_
      refine lv_iconst (v := iI ((4 : Nat) : Int)) hx hb dL_law_651 (by decide) ?_
      refine fn_cVi (As := [.int (iI ((i : Nat) : Int)), .int (iI ((4 : Nat) : Int))]) (rest := []) ⟨hx, hb, hml, hown, hts⟩ (c_X2_container l hl0 D cA z ad sa (sailS σ) ((sW cA f)) (((i : Nat) : Int)) (((4 : Nat) : Int)) hI2 ⟨by omega, by omega⟩ ⟨by omega, by omega⟩) (cwV 2 hts gL_law_X2_container rfl rfl rfl (by decide +kernel) ⟨Nat.le_of_ble_eq_true rfl, Nat.le_of_ble_eq_true rfl⟩) WC_0 rfl rfl hl.1 (Nat.le_of_ble_eq_true rfl) dL_law_652 ⟨show _ ≤ 623024 from by omega, show _ ≤ 7232551 from by omega⟩ hK hE hP hS rfl (fun E w' q => by obtain ⟨-, q, -⟩ := q; omega) (fun r w' H locs q_2 hP hS => ?_)
      obtain ⟨-, rfl, rfl⟩ := q_2
      refine fw_topI (b := (((sailS σ) 4 i : Nat) : Int)) rfl ?_
      refine lv_aload hx hb dL_law_655 (lv_at hl 4 rfl) ?_
      refine lv_iload hx hb dL_law_657 (lv_at hl 5 rfl) ?_
      refine fw_ialdN (j := i) hx hb hK hP ((WC_r (by decide)).trans (sW_18 cA _)) 0 rfl (by omega) (by decide) dL_law_659 ?_
      refine fw_topP (b := ((σ 4 i : Nat) : Int)) (hf i (by omega)) ?_
      refine lv_iconst (v := iI ((1 : Nat) : Int)) hx hb dL_law_660 (by decide) ?_
      refine fw_icmp_ne (x := ((σ 4 i : Nat) : Int)) (y := ((1 : Nat) : Int)) (tgt := 682) hx hb dL_law_661 (by decide) ⟨by omega, by omega⟩ ⟨by omega, by omega⟩ (fun c_3 => ?_) (fun c_3 => ?_)
      · refine lv_aload hx hb dL_law_682 (lv_at hl 4 rfl) ?_
        refine lv_iload hx hb dL_law_684 (lv_at hl 5 rfl) ?_
        refine fw_ialdN (j := i) hx hb hK hP ((WC_r (by decide)).trans (sW_18 cA _)) 0 rfl (by omega) (by decide) dL_law_686 ?_
        refine fw_topP (b := ((σ 4 i : Nat) : Int)) (hf i (by omega)) ?_
        refine fw_icmp_eq (x := (((sailS σ) 4 i : Nat) : Int)) (y := ((σ 4 i : Nat) : Int)) (tgt := 692) hx hb dL_law_687 (by decide) ⟨by omega, by omega⟩ ⟨by omega, by omega⟩ (fun c_4 => ?_) (fun c_4 => ?_)
        · refine fw_iincN (x := i) (lv' := [(11, .int (iI ((i + 1 : Nat) : Int))), (0, .ref b), (1, .ref (ad 0 (0))), (2, .int (iI ((lim : Nat) : Int))), (4, .int (iI ((leg : Nat) : Int))), (9, .ref (ad 18 (0)))]) hx hb dL_law_692 hl (k := 5) rfl (by decide) rfl (fun ls hl => ?_)
          refine lv_goto (tgt := 641) hx hb dL_law_695 (by decide) ?_
          refine W.widen (k := cells + 2) (n := slots + 12) (by omega) (by omega) ?_
          exact ih (i + 1) (cells + 2) (slots + 12) H locs ls (by omega) (by omega) (by omega) (by omega) hP hS (lv_sub hl [1, 2, 3, 4, 5, 0] rfl)
        · exfalso; have := hs4 (by omega); omega
      · refine lv_aload_n hx hb dL_law_664 rfl (lv_at hl 1 rfl) ?_
        refine lv_iload hx hb dL_law_665 (lv_at hl 5 rfl) ?_
        refine lv_iconst (v := iI ((2 : Nat) : Int)) hx hb dL_law_667 (by decide) ?_
        refine fn_cVi (As := [.int (iI ((i : Nat) : Int)), .int (iI ((2 : Nat) : Int))]) (rest := [.int (iI (((sailS σ) 4 i : Nat) : Int))]) ⟨hx, hb, hml, hown, hts⟩ (c_X2_container l hl0 D cA z ad sa (sailS σ) ((sW cA f)) (((i : Nat) : Int)) (((2 : Nat) : Int)) hI2 ⟨by omega, by omega⟩ ⟨by omega, by omega⟩) (cwV 2 hts gL_law_X2_container rfl rfl rfl (by decide +kernel) ⟨Nat.le_of_ble_eq_true rfl, Nat.le_of_ble_eq_true rfl⟩) WC_0 rfl rfl hl.1 (Nat.le_of_ble_eq_true rfl) dL_law_668 ⟨show _ ≤ 623024 from by omega, show _ ≤ 7232551 from by omega⟩ hK hE hP hS rfl (fun E w' q => by obtain ⟨-, q, -⟩ := q; omega) (fun r w' H locs q_5 hP hS => ?_)
        obtain ⟨-, rfl, rfl⟩ := q_5
        refine fw_topI (b := (((sailS σ) 2 i : Nat) : Int)) rfl ?_
        refine lv_aload_n hx hb dL_law_671 rfl (lv_at hl 1 rfl) ?_
        refine fw_cVi (As := []) (rest := [.int (iI (((sailS σ) 2 i : Nat) : Int)), .int (iI (((sailS σ) 4 i : Nat) : Int))]) ⟨hx, hb, hml, hown, hts⟩ (c_X2_port l D cA z ad (sailS σ) ((sW cA f)) hI2) (cwV 0 hts gL_law_X2_port rfl rfl rfl (by decide +kernel) ⟨Nat.le_of_ble_eq_true rfl, Nat.le_of_ble_eq_true rfl⟩) WC_0 rfl rfl hl.1 (Nat.le_of_ble_eq_true rfl) dL_law_672 ⟨show _ ≤ 623024 from by omega, show _ ≤ 7232551 from by omega⟩ hK hP hS rfl (fun r w' H locs q_6 hP hS => ?_)
        obtain ⟨rfl, rfl⟩ := q_6
        refine fw_icmp_ne (x := (((sailS σ) 2 i : Nat) : Int)) (y := (((sailS σ) 8 4 : Nat) : Int)) (tgt := 682) hx hb dL_law_675 (by decide) ⟨by omega, by omega⟩ ⟨by omega, by omega⟩ (fun c_7 => ?_) (fun c_7 => ?_)
        · refine lv_aload hx hb dL_law_682 (lv_at hl 4 rfl) ?_
          refine lv_iload hx hb dL_law_684 (lv_at hl 5 rfl) ?_
          refine fw_ialdN (j := i) hx hb hK hP ((WC_r (by decide)).trans (sW_18 cA _)) 0 rfl (by omega) (by decide) dL_law_686 ?_
          refine fw_topP (b := ((σ 4 i : Nat) : Int)) (hf i (by omega)) ?_
          refine fw_icmp_eq (x := (((sailS σ) 4 i : Nat) : Int)) (y := ((σ 4 i : Nat) : Int)) (tgt := 692) hx hb dL_law_687 (by decide) ⟨by omega, by omega⟩ ⟨by omega, by omega⟩ (fun c_8 => ?_) (fun c_8 => ?_)
          · refine fw_iincN (x := i) (lv' := [(11, .int (iI ((i + 1 : Nat) : Int))), (0, .ref b), (1, .ref (ad 0 (0))), (2, .int (iI ((lim : Nat) : Int))), (4, .int (iI ((leg : Nat) : Int))), (9, .ref (ad 18 (0)))]) hx hb dL_law_692 hl (k := 5) rfl (by decide) rfl (fun ls hl => ?_)
            refine lv_goto (tgt := 641) hx hb dL_law_695 (by decide) ?_
            refine W.widen (k := cells + 2) (n := slots + 12) (by omega) (by omega) ?_
            exact ih (i + 1) (cells + 2) (slots + 12) H locs ls (by omega) (by omega) (by omega) (by omega) hP hS (lv_sub hl [1, 2, 3, 4, 5, 0] rfl)
          · exfalso; have := hs4 (by omega); omega
        · refine lv_iconst (v := iI ((2 : Nat) : Int)) hx hb dL_law_678 (by decide) ?_
          refine lv_goto (tgt := 687) hx hb dL_law_679 (by decide) ?_
          refine fw_icmp_eq (x := (((sailS σ) 4 i : Nat) : Int)) (y := ((2 : Nat) : Int)) (tgt := 692) hx hb dL_law_687 (by decide) ⟨by omega, by omega⟩ ⟨by omega, by omega⟩ (fun c_9 => ?_) (fun c_9 => ?_)
          · refine fw_iincN (x := i) (lv' := [(11, .int (iI ((i + 1 : Nat) : Int))), (0, .ref b), (1, .ref (ad 0 (0))), (2, .int (iI ((lim : Nat) : Int))), (4, .int (iI ((leg : Nat) : Int))), (9, .ref (ad 18 (0)))]) hx hb dL_law_692 hl (k := 5) rfl (by decide) rfl (fun ls hl => ?_)
            refine lv_goto (tgt := 641) hx hb dL_law_695 (by decide) ?_
            refine W.widen (k := cells + 2) (n := slots + 12) (by omega) (by omega) ?_
            exact ih (i + 1) (cells + 2) (slots + 12) H locs ls (by omega) (by omega) (by omega) (by omega) hP hS (lv_sub hl [1, 2, 3, 4, 5, 0] rfl)
          · exfalso; have := hs4 (by omega); omega
