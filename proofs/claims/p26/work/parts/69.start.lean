/-! ===== the law's start ===== -/
theorem adN15 {D : va_G} {cl : List vw_C} {z : Nat} {ad : fw_Ad} {cA : Nat → ClassId} {σ : St} {H : Heap} {ls : Array Slot} {b : Nat} {x2 : Value} (hP : fw_P D cl z ad (WC cA ad σ nW) H) (hl : lv_has ls 17 [(2, x2), (0, .ref b), (1, .ref (ad 0 0))]) : ∃ ad1 : fw_Ad, fw_P D cl z ad1 (WC cA ad1 σ nW) H ∧ lv_has ls 17 [(2, x2), (0, .ref b), (1, .ref (ad1 0 0))] ∧ ad1 15 0 = H.size := by
  have e0 : (adU ad 15 0 H.size) 0 0 = ad 0 0 := adU_ne (by omega)
  have hc : ∀ b j, b ≤ 5 → (b = 5 → j < σ 8 0) → (adU ad 15 0 H.size) b j = ad b j := fun b j hb hj => adU_ne (fun q => by obtain ⟨q1, q2⟩ := q; omega)
  refine ⟨adU ad 15 0 H.size, ?_, ?_, adU_same _ _ _ _⟩
  · rw [WC_ad (cA := cA) (σ := σ) hc]
    exact fw_adU _ hP ((WC_r (by decide)).trans rfl)
  · rw [e0]; exact hl
theorem adN517 {D : va_G} {cl : List vw_C} {z : Nat} {ad : fw_Ad} {cA : Nat → ClassId} {σ : St} {f : Nat → Int32} {H : Heap} {ls : Array Slot} {b : Nat} {x2 x4 : Value} (hP : fw_P D cl z ad (WC cA ad σ (aW cA f)) H) (hl : lv_has ls 17 [(0, .ref b), (1, .ref (ad 0 0)), (2, x2), (3, .ref (ad 15 0)), (4, x4)]) : ∃ ad1 : fw_Ad, fw_P D cl z ad1 (WC cA ad1 σ (aW cA f)) H ∧ lv_has ls 17 [(0, .ref b), (1, .ref (ad1 0 0)), (2, x2), (3, .ref (ad1 15 0)), (4, x4)] ∧ ad 0 0 = ad1 0 0 ∧ ad 15 0 = ad1 15 0 ∧ ad1 5 (σ 8 0) = H.size ∧ ad1 17 0 = H.size + 1 := by
  obtain ⟨a1, ha1⟩ : ∃ a9, a9 = adU ad 5 (σ 8 0) H.size := ⟨_, rfl⟩
  have k0 : a1 0 0 = ad 0 0 := by rw [ha1]; exact adU_ne (by omega)
  have k15 : a1 15 0 = ad 15 0 := by rw [ha1]; exact adU_ne (by omega)
  have k5 : a1 5 (σ 8 0) = H.size := by rw [ha1]; exact adU_same _ _ _ _
  have hc : ∀ b j, b ≤ 5 → (b = 5 → j < σ 8 0) → a1 b j = ad b j := fun b j hb hj => by rw [ha1]; exact adU_ne (fun q => by obtain ⟨q1, q2⟩ := q; have := hj q1; omega)
  have hP1 : fw_P D cl z a1 (WC cA a1 σ (aW cA f)) H := by
    rw [WC_ad (cA := cA) (σ := σ) hc, ha1]
    exact fw_adU _ hP (WC_n5 (Nat.le_refl _))
  have e0 : (adU a1 17 0 (H.size + 1)) 0 0 = a1 0 0 := adU_ne (by omega)
  have e15 : (adU a1 17 0 (H.size + 1)) 15 0 = a1 15 0 := adU_ne (by omega)
  have e5 : (adU a1 17 0 (H.size + 1)) 5 (σ 8 0) = a1 5 (σ 8 0) := adU_ne (by omega)
  have hc2 : ∀ b j, b ≤ 5 → (b = 5 → j < σ 8 0) → (adU a1 17 0 (H.size + 1)) b j = a1 b j := fun b j hb hj => adU_ne (fun q => by obtain ⟨q1, q2⟩ := q; omega)
  refine ⟨adU a1 17 0 (H.size + 1), ?_, ?_, by rw [e0, k0], by rw [e15, k15], by rw [e5, k5], adU_same _ _ _ _⟩
  · rw [WC_ad (cA := cA) (σ := σ) hc2]
    exact fw_adU _ hP1 ((WC_r (by decide)).trans ((fw_up_k (by decide)).trans rfl))
  · rw [e0, e15, k0, k15]; exact hl
set_option maxHeartbeats 4000000 in
set_option maxRecDepth 100000 in
theorem law_add {p : Program} {l : Launch} {e : Env} {s : State} {m : MethodId} {args : Array Value} {below : List Frame} {meth : Method} {cd : Code} {Q : State → Prop} {D : va_G} {cA : Nat → ClassId} {sa : Nat → Nat} {b L z : Nat} {xs : Nat → Int32} {lim : Nat} (X : LX p l s m args cd b L xs D cA sa z)  {C S9 : Nat} (hro : C ≤ 623024 ∧ S9 ≤ 7232551)
    (kk : ∀ (ad : fw_Ad) (σ : St) (H : Heap) (locs : List Loc) (ls : Array Slot), Inv σ → All0 σ 18 lim → fw_P D vwCl z ad (WC cA ad σ nW) H → va_S (fw_A z) s.heap H locs → lv_has ls 17 [(0, .ref b), (1, .ref (ad 0 (0))), (2, .int (iI ((lim : Nat) : Int)))] → W p l e room_1 s m args below meth cd H locs C S9 Q (F0 m 88 ls [])) :
    ∀ (dd i cells slots : Nat) (ad : fw_Ad) (σ : St) (f : Nat → Int32) (H : Heap) (locs : List Loc) (ls : Array Slot), 18 + 1 ≤ i + dd → i ≤ 18 → cells + 2 * dd ≤ C → slots + 13 * dd ≤ S9 → Inv σ → All0 σ i lim → f 353 = iI ((0 : Nat) : Int) → f 355 = iI ((σ 8 0 : Nat) : Int) → fw_P D vwCl z ad (WC cA ad σ ((aW cA f))) H → va_S (fw_A z) s.heap H locs → lv_has ls 17 [(0, .ref b), (1, .ref (ad 0 (0))), (2, .int (iI ((lim : Nat) : Int))), (3, .ref (ad 15 (0))), (4, .int (iI ((i : Nat) : Int)))] → W p l e room_1 s m args below meth cd H locs cells slots Q (F0 m 48 ls []) := by
  have X0 := X
  obtain ⟨hx, hb, hml, hown, hts, hX, hbl, hL, hK, hAO, hE, hl0, hz, hbz⟩ := X
  intro dd
  induction dd with
  | zero => intro i cells slots ad σ f H locs ls hd hi; omega
  | succ dd ih =>
    intro i cells slots ad σ f H locs ls hd hi hc9 hs9 hI hA h3 h5 hP hS hl
    have h80 : σ 8 0 = i := hA.1.1
    have h84 : σ 8 4 = 0 := hA.1.2.2.2.2
    refine lv_iload hx hb dL_law_48 (lv_at hl 4 rfl) ?_
    refine lv_bipush (v := iI ((18 : Nat) : Int)) hx hb dL_law_50 (by decide) ?_
    refine fw_icmp_ge (x := ((i : Nat) : Int)) (y := ((18 : Nat) : Int)) (tgt := 88) hx hb dL_law_52 (by decide) ⟨by omega, by omega⟩ ⟨by omega, by omega⟩ (fun c_1 => ?_) (fun c_1 => ?_)
    · refine W.widen (k := C) (n := S9) (by omega) (by omega) ?_
      exact kk ad σ H locs ls hI (by rw [show 18 = i from by omega]; exact hA) (fw_dropn hP) hS (lv_sub hl [0, 1, 2] rfl)
    · refine lv_aload_n hx hb dL_law_55 rfl (lv_at hl 1 rfl) ?_
      refine lv_aload_n hx hb dL_law_56 rfl (lv_at hl 0 rfl) ?_
      refine lv_iload hx hb dL_law_57 (lv_at hl 4 rfl) ?_
      refine lv_bipush (v := iI ((16 : Nat) : Int)) hx hb dL_law_59 (by decide) ?_
      refine fw_iremN (a := i) (b := 16) hx hb dL_law_61 (by omega) (by omega) (by omega) ?_
      refine fl_cell (k := i % 16) (rest := [.ref (ad 0 (0))]) ⟨hx, hb, hml, hown, hts⟩ (va_cwS 2 hts gL_law_L_cell rfl rfl rfl (by decide +kernel) ⟨Nat.le_of_ble_eq_true rfl, Nat.le_of_ble_eq_true rfl⟩) hX hbl hbz hL (by omega) hl.1 (Nat.le_of_ble_eq_true rfl) dL_law_62 ⟨show _ ≤ 623024 from by omega, show _ ≤ 7232551 from by omega⟩ hP hS (fun v_3 H locs hP hS => ?_)
      refine lv_iload hx hb dL_law_65 (lv_at hl 4 rfl) ?_
      refine lv_bipush (v := iI ((16 : Nat) : Int)) hx hb dL_law_67 (by decide) ?_
      refine fw_idivN (a := i) (b := 16) hx hb dL_law_69 (by omega) (by omega) (by omega) ?_
      refine lv_iconst (v := iI ((4 : Nat) : Int)) hx hb dL_law_70 (by decide) ?_
      refine fw_imulN (a := i / 16) (b := 4) hx hb dL_law_71 ?_
      refine fl_shr hx hb dL_law_72 (fun v_4 => ?_)
      refine lv_aload_n hx hb dL_law_73 rfl (lv_at hl 3 rfl) ?_
      obtain ⟨ad, hP, hl, e0, e15, h5n, h17⟩ := adN517 hP hl
      rw [e0, e15]
      refine fz_cSi (As := [.ref (ad 0 0), .int v_4, .ref (ad 15 0)]) (rest := []) ⟨hx, hb, hml, hown, hts⟩ (c_L_add l hl0 D cA z ad sa σ f (v_4) H.size hI (by omega) h84 h3 h5 ⟨h5n, h17⟩) (va_cwS 3 hts gL_law_L_add rfl rfl rfl (by decide +kernel) ⟨Nat.le_of_ble_eq_true rfl, Nat.le_of_ble_eq_true rfl⟩) rfl hl.1 (Nat.le_of_ble_eq_true rfl) dL_law_74 ⟨show _ ≤ 623024 from by omega, show _ ≤ 7232551 from by omega⟩ hK rfl hE hP hS rfl (fun r w' H locs q_5 hP hS => ?_)
      obtain ⟨rfl, w1, f1, t1, q1, g, hI2, h3g, h5g, rfl⟩ := q_5
      refine fw_if_ge (x := ((1 : Nat) : Int)) (tgt := 82) hx hb dL_law_77 (by decide) ⟨by omega, by omega⟩ (fun c_6 => ?_) (fun c_6 => absurd c_6 (by decide))
      refine fw_iincN (x := i) (lv' := [(4, .int (iI ((i + 1 : Nat) : Int))), (0, .ref b), (1, .ref (ad 0 (0))), (2, .int (iI ((lim : Nat) : Int))), (3, .ref (ad 15 (0)))]) hx hb dL_law_82 hl (k := 4) rfl (by decide) rfl (fun ls hl => ?_)
      refine lv_goto (tgt := 48) hx hb dL_law_85 (by decide) ?_
      refine W.widen (k := cells + 2) (n := slots + 13) (by omega) (by omega) ?_
      exact ih (i + 1) (cells + 2) (slots + 13) ad (addS σ w1 f1 t1 q1) g H locs ls (by omega) (by omega) (by omega) (by omega) hI2 (All0_add hA) h3g (by rw [addS_n]; exact h5g) hP hS (lv_sub hl [1, 2, 3, 4, 0] rfl)

set_option maxHeartbeats 4000000 in
set_option maxRecDepth 100000 in
theorem law_told {p : Program} {l : Launch} {e : Env} {s : State} {m : MethodId} {args : Array Value} {below : List Frame} {meth : Method} {cd : Code} {Q : State → Prop} {D : va_G} {cA : Nat → ClassId} {sa : Nat → Nat} {b L z : Nat} {xs : Nat → Int32} {ad : fw_Ad} {lim : Nat} (X : LX p l s m args cd b L xs D cA sa z)  {C S9 : Nat} (hro : C ≤ 623024 ∧ S9 ≤ 7232551)
    (kk : ∀ (σ : St) (H : Heap) (locs : List Loc) (ls : Array Slot), Inv σ → Safe σ lim → σ 8 4 = 0 → fw_P D vwCl z ad (WC cA ad σ nW) H → va_S (fw_A z) s.heap H locs → lv_has ls 17 [(0, .ref b), (1, .ref (ad 0 (0))), (2, .int (iI ((lim : Nat) : Int)))] → W p l e room_1 s m args below meth cd H locs C S9 Q (F0 m 136 ls [])) :
    ∀ (dd i cells slots : Nat) (σ : St) (H : Heap) (locs : List Loc) (ls : Array Slot), 6 + 1 ≤ i + dd → i ≤ 6 → cells + 1 * dd ≤ C → slots + 6 * dd ≤ S9 → Inv σ → Safe σ lim → σ 8 4 = 0 → fw_P D vwCl z ad (WC cA ad σ nW) H → va_S (fw_A z) s.heap H locs → lv_has ls 17 [(0, .ref b), (1, .ref (ad 0 (0))), (2, .int (iI ((lim : Nat) : Int))), (4, .int (iI ((i : Nat) : Int)))] → W p l e room_1 s m args below meth cd H locs cells slots Q (F0 m 91 ls []) := by
  have X0 := X
  obtain ⟨hx, hb, hml, hown, hts, hX, hbl, hL, hK, hAO, hE, hl0, hz, hbz⟩ := X
  intro dd
  induction dd with
  | zero => intro i cells slots σ H locs ls hd hi; omega
  | succ dd ih =>
    intro i cells slots σ H locs ls hd hi hc9 hs9 hI hSf h84 hP hS hl
    have h80 : σ 8 0 = 18 := hSf.1.1
    refine lv_iload hx hb dL_law_91 (lv_at hl 3 rfl) ?_
    refine lv_bipush (v := iI ((6 : Nat) : Int)) hx hb dL_law_93 (by decide) ?_
    refine fw_icmp_ge (x := ((i : Nat) : Int)) (y := ((6 : Nat) : Int)) (tgt := 136) hx hb dL_law_95 (by decide) ⟨by omega, by omega⟩ ⟨by omega, by omega⟩ (fun c_1 => ?_) (fun c_1 => ?_)
    · refine W.widen (k := C) (n := S9) (by omega) (by omega) ?_
      exact kk σ H locs ls hI hSf h84 hP hS (lv_sub hl [0, 1, 2] rfl)
    · refine lv_aload_n hx hb dL_law_98 rfl (lv_at hl 1 rfl) ?_
      refine lv_aload_n hx hb dL_law_99 rfl (lv_at hl 0 rfl) ?_
      refine lv_iload hx hb dL_law_100 (lv_at hl 3 rfl) ?_
      refine fl_cell (k := i) (rest := [.ref (ad 0 (0))]) ⟨hx, hb, hml, hown, hts⟩ (va_cwS 2 hts gL_law_L_cell rfl rfl rfl (by decide +kernel) ⟨Nat.le_of_ble_eq_true rfl, Nat.le_of_ble_eq_true rfl⟩) hX hbl hbz hL (by omega) hl.1 (Nat.le_of_ble_eq_true rfl) dL_law_102 ⟨show _ ≤ 623024 from by omega, show _ ≤ 7232551 from by omega⟩ hP hS (fun v_3 H locs hP hS => ?_)
      refine lv_bipush (v := iI ((9 : Nat) : Int)) hx hb dL_law_105 (by decide) ?_
      refine fl_shr hx hb dL_law_107 (fun v_4 => ?_)
      refine lv_bipush (v := iI ((18 : Nat) : Int)) hx hb dL_law_108 (by decide) ?_
      refine fl_below (x := (v_4)) (k := 18) (rest := [.ref (ad 0 (0))]) ⟨hx, hb, hml, hown, hts⟩ (va_cwS 2 hts gL_law_L_below rfl rfl rfl (by decide +kernel) ⟨Nat.le_of_ble_eq_true rfl, Nat.le_of_ble_eq_true rfl⟩) (by omega) (by omega) hl.1 (Nat.le_of_ble_eq_true rfl) dL_law_110 ⟨show _ ≤ 623024 from by omega, show _ ≤ 7232551 from by omega⟩ hP hS (fun k_6 H locs hk_6 hP hS _ => ?_)
      refine lv_aload_n hx hb dL_law_113 rfl (lv_at hl 0 rfl) ?_
      refine lv_iload hx hb dL_law_114 (lv_at hl 3 rfl) ?_
      refine fl_cell (k := i) (rest := [.int (iI ((k_6 : Nat) : Int)), .ref (ad 0 (0))]) ⟨hx, hb, hml, hown, hts⟩ (va_cwS 2 hts gL_law_L_cell rfl rfl rfl (by decide +kernel) ⟨Nat.le_of_ble_eq_true rfl, Nat.le_of_ble_eq_true rfl⟩) hX hbl hbz hL (by omega) hl.1 (Nat.le_of_ble_eq_true rfl) dL_law_116 ⟨show _ ≤ 623024 from by omega, show _ ≤ 7232551 from by omega⟩ hP hS (fun v_8 H locs hP hS => ?_)
      refine lv_iconst (v := iI ((4 : Nat) : Int)) hx hb dL_law_119 (by decide) ?_
      refine fl_shr hx hb dL_law_120 (fun v_9 => ?_)
      refine lv_bipush (v := iI ((30 : Nat) : Int)) hx hb dL_law_121 (by decide) ?_
      refine fl_below (x := (v_9)) (k := 30) (rest := [.int (iI ((k_6 : Nat) : Int)), .ref (ad 0 (0))]) ⟨hx, hb, hml, hown, hts⟩ (va_cwS 2 hts gL_law_L_below rfl rfl rfl (by decide +kernel) ⟨Nat.le_of_ble_eq_true rfl, Nat.le_of_ble_eq_true rfl⟩) (by omega) (by omega) hl.1 (Nat.le_of_ble_eq_true rfl) dL_law_123 ⟨show _ ≤ 623024 from by omega, show _ ≤ 7232551 from by omega⟩ hP hS (fun k_11 H locs hk_11 hP hS _ => ?_)
      refine fh_cSi (As := [.ref (ad 0 0), .int (iI ((k_6 : Nat) : Int)), .int (iI ((k_11 : Nat) : Int))]) (rest := []) ⟨hx, hb, hml, hown, hts⟩ (c_L_told l hl0 D cA z ad sa σ nW k_6 k_11 hI (by omega) (by omega) (by omega)) (vx_cwSW 3 hts gL_law_L_told rfl rfl rfl (by decide +kernel) ⟨Nat.le_of_ble_eq_true rfl, Nat.le_of_ble_eq_true rfl⟩) rfl hl.1 (Nat.le_of_ble_eq_true rfl) dL_law_126 ⟨show _ ≤ 623024 from by omega, show _ ≤ 7232551 from by omega⟩ hK hE hP hS rfl (fun r w' H locs q_12 hP hS => ?_)
      rcases q_12 with ⟨hal, rfl⟩ | rfl
      · refine lv_pop hx hb dL_law_129 rfl ?_
        refine fw_iincN (x := i) (lv' := [(4, .int (iI ((i + 1 : Nat) : Int))), (0, .ref b), (1, .ref (ad 0 (0))), (2, .int (iI ((lim : Nat) : Int)))]) hx hb dL_law_130 hl (k := 3) rfl (by decide) rfl (fun ls hl => ?_)
        refine lv_goto (tgt := 91) hx hb dL_law_133 (by decide) ?_
        refine W.widen (k := cells + 1) (n := slots + 6) (by omega) (by omega) ?_
        exact ih (i + 1) (cells + 1) (slots + 6) (putS σ k_6 k_11) H locs ls (by omega) (by omega) (by omega) (by omega) (Inv_put hI (by omega) (by omega) hal.1 hal.2.2.1) (Safe_put hI hSf (by omega) hal) ((putS_o (by decide) 4).trans h84) hP hS (lv_sub hl [1, 2, 3, 0] rfl)
      · refine lv_pop hx hb dL_law_129 rfl ?_
        refine fw_iincN (x := i) (lv' := [(4, .int (iI ((i + 1 : Nat) : Int))), (0, .ref b), (1, .ref (ad 0 (0))), (2, .int (iI ((lim : Nat) : Int)))]) hx hb dL_law_130 hl (k := 3) rfl (by decide) rfl (fun ls hl => ?_)
        refine lv_goto (tgt := 91) hx hb dL_law_133 (by decide) ?_
        refine W.widen (k := cells + 1) (n := slots + 6) (by omega) (by omega) ?_
        exact ih (i + 1) (cells + 1) (slots + 6) σ H locs ls (by omega) (by omega) (by omega) (by omega) hI hSf h84 hP hS (lv_sub hl [1, 2, 3, 0] rfl)

set_option maxHeartbeats 4000000 in
set_option maxRecDepth 100000 in
theorem law_pre {p : Program} {l : Launch} {e : Env} {s : State} {m : MethodId} {args : Array Value} {below : List Frame} {meth : Method} {cd : Code} {Q : State → Prop} {D : va_G} {cA : Nat → ClassId} {sa : Nat → Nat} {b L z : Nat} {xs : Nat → Int32} {ad : fw_Ad} {cells slots : Nat} {H : Heap} {locs : List Loc} {ls : Array Slot} (X : LX p l s m args cd b L xs D cA sa z) (hro : cells + 100000 ≤ 623024 ∧ slots + 600000 ≤ 7232551) (hP : fw_P D vwCl z ad (WC cA ad σ0 nW) H) (hS : va_S (fw_A z) s.heap H locs) (hl : lv_has ls 17 [(0, .ref b), (1, .ref (ad 0 (0)))])
    (kend : ∀ pc : Nat, decode cL_law pc = .ok (.ireturn, 1) → ∀ (H : Heap) (locs : List Loc) (ls : Array Slot), va_S (fw_A z) s.heap H locs → W p l e room_1 s m args below meth cd H locs 623024 7232551 Q (F0 m pc ls [.int (iI ((1 : Nat) : Int))])) : W p l e room_1 s m args below meth cd H locs cells slots Q (F0 m 8 ls []) := by
  have X0 := X
  obtain ⟨hx, hb, hml, hown, hts, hX, hbl, hL, hK, hAO, hE, hl0, hz, hbz⟩ := X
  refine lv_bipush (v := iI ((30 : Nat) : Int)) hx hb dL_law_8 (by decide) ?_
  refine lv_aload_n hx hb dL_law_10 rfl (lv_at hl 0 rfl) ?_
  refine lv_bipush (v := iI ((15 : Nat) : Int)) hx hb dL_law_11 (by decide) ?_
  refine fl_cell (k := 15) (rest := [.int (iI ((30 : Nat) : Int))]) ⟨hx, hb, hml, hown, hts⟩ (va_cwS 2 hts gL_law_L_cell rfl rfl rfl (by decide +kernel) ⟨Nat.le_of_ble_eq_true rfl, Nat.le_of_ble_eq_true rfl⟩) hX hbl hbz hL (by omega) hl.1 (Nat.le_of_ble_eq_true rfl) dL_law_13 ⟨show _ ≤ 623024 from by omega, show _ ≤ 7232551 from by omega⟩ hP hS (fun v_2 H locs hP hS => ?_)
  refine lv_bipush (v := iI ((60 : Nat) : Int)) hx hb dL_law_16 (by decide) ?_
  refine fl_below (x := (v_2)) (k := 60) (rest := [.int (iI ((30 : Nat) : Int))]) ⟨hx, hb, hml, hown, hts⟩ (va_cwS 2 hts gL_law_L_below rfl rfl rfl (by decide +kernel) ⟨Nat.le_of_ble_eq_true rfl, Nat.le_of_ble_eq_true rfl⟩) (by omega) (by omega) hl.1 (Nat.le_of_ble_eq_true rfl) dL_law_18 ⟨show _ ≤ 623024 from by omega, show _ ≤ 7232551 from by omega⟩ hP hS (fun k_4 H locs hk_4 hP hS _ => ?_)
  refine fw_iaddN (a := 30) (b := k_4) hx hb dL_law_21 ?_
  obtain ⟨lim, hlim, hlim1⟩ : ∃ n : Nat, n = 30 + k_4 ∧ 30 ≤ n ∧ n ≤ 89 := ⟨_, rfl, by omega, by omega⟩
  refine fw_topI (b := ((lim : Nat) : Int)) (by omega) ?_
  refine lv_istore_n (lv' := [(2, .int (iI ((lim : Nat) : Int))), (0, .ref b), (1, .ref (ad 0 (0)))]) hx hb dL_law_22 rfl hl (by decide) rfl (fun ls hl => ?_)
  refine lv_aload_n hx hb dL_law_23 rfl (lv_at hl 2 rfl) ?_
  refine lv_iload_n hx hb dL_law_24 rfl (lv_at hl 0 rfl) ?_
  refine lv_sipush (v := iI ((1000 : Nat) : Int)) hx hb dL_law_25 (by decide) ?_
  refine lv_sipush (v := iI ((1000 : Nat) : Int)) hx hb dL_law_28 (by decide) ?_
  refine fn_cVi (As := [.int (iI ((lim : Nat) : Int)), .int (iI ((1000 : Nat) : Int)), .int (iI ((1000 : Nat) : Int))]) (rest := []) ⟨hx, hb, hml, hown, hts⟩ (c_X2_setLimits l hl0 D cA z ad sa σ0 nW (((lim : Nat) : Int)) (((1000 : Nat) : Int)) (((1000 : Nat) : Int)) Inv_0 ⟨by omega, by omega⟩ ⟨by omega, by omega⟩ ⟨by omega, by omega⟩) (cwV 3 hts gL_law_X2_setLimits rfl rfl rfl (by decide +kernel) ⟨Nat.le_of_ble_eq_true rfl, Nat.le_of_ble_eq_true rfl⟩) WC_0 rfl rfl hl.1 (Nat.le_of_ble_eq_true rfl) dL_law_31 ⟨show _ ≤ 623024 from by omega, show _ ≤ 7232551 from by omega⟩ hK hE hP hS rfl (fun E w' q => by obtain ⟨-, q, -⟩ := q; omega) (fun r w' H locs q_6 hP hS => ?_)
  obtain ⟨-, hr9, rfl⟩ := q_6
  have hP : fw_P D vwCl z ad (WC cA ad (limS σ0 lim 1000 1000) nW) H := hP
  refine lv_pop hx hb dL_law_34 rfl ?_
  obtain ⟨ad, hP, hl, h15⟩ := adN15 hP hl
  refine fa_cSq (As := []) (rest := []) ⟨hx, hb, hml, hown, hts⟩ (c_L_fresh l D cA z ad (limS σ0 lim 1000 1000) H.size h15) (va_cwS 0 hts gL_law_L_fresh rfl rfl rfl (by decide +kernel) ⟨Nat.le_of_ble_eq_true rfl, Nat.le_of_ble_eq_true rfl⟩) rfl hl.1 (Nat.le_of_ble_eq_true rfl) dL_law_35 ⟨show _ ≤ 623024 from by omega, show _ ≤ 7232551 from by omega⟩ hK rfl hAO hP hS rfl (fun r w' H locs q_7 hP hS => ?_)
  obtain ⟨rfl, f, h3, h5, rfl⟩ := q_7
  refine fw_top (v' := .ref (ad 15 (0))) rfl ?_
  refine lv_astore_n (lv' := [(3, .ref (ad 15 (0))), (2, .int (iI ((lim : Nat) : Int))), (0, .ref b), (1, .ref (ad 0 (0)))]) hx hb dL_law_38 rfl hl (by decide) rfl (fun ls hl => ?_)
  refine lv_aload_n hx hb dL_law_39 rfl (lv_at hl 0 rfl) ?_
  refine lv_sipush (v := iI ((350 : Nat) : Int)) hx hb dL_law_40 (by decide) ?_
  refine lv_iload_n hx hb dL_law_43 rfl (lv_at hl 1 rfl) ?_
  refine fw_iastN (j := 350) hx hb hK hP hS ((WC_r (by decide)).trans (aW_15 cA _)) 0 rfl (by omega) (by decide) dL_law_44 (fun H locs hP hS => ?_)
  obtain ⟨g_8, hg_8, hP⟩ : ∃ g9, g9 = upd f (350) (iI ((lim : Nat) : Int)) ∧ fw_P D vwCl z ad (WC cA ad (limS σ0 lim 1000 1000) (aW cA g9)) H := ⟨_, rfl, by rw [aW_up] at hP; exact hP⟩
  have h3 : g_8 353 = iI ((0 : Nat) : Int) := by rw [hg_8, upd_o (by omega)]; exact h3
  have h5 : g_8 355 = iI ((0 : Nat) : Int) := by rw [hg_8, upd_o (by omega)]; exact h5
  refine lv_iconst (v := iI ((0 : Nat) : Int)) hx hb dL_law_45 (by decide) ?_
  refine lv_istore (lv' := [(4, .int (iI ((0 : Nat) : Int))), (3, .ref (ad 15 (0))), (2, .int (iI ((lim : Nat) : Int))), (0, .ref b), (1, .ref (ad 0 (0)))]) hx hb dL_law_46 hl (by decide) rfl (fun ls hl => ?_)
  have hI1 : Inv (limS σ0 lim 1000 1000) := Inv_lim Inv_0 (by omega) (by omega) (by omega)
  refine W.widen (k := cells + 10) (n := slots + 400) (by omega) (by omega) ?_
  refine law_add X0 (lim := lim) (C := cells + 50) (S9 := slots + 700) ⟨by omega, by omega⟩ (fun ad σ H locs ls hI hA hP hS hl => ?_) 19 0 (cells + 10) (slots + 400) ad (limS σ0 lim 1000 1000) g_8 H locs ls (by omega) (by omega) (by omega) (by omega) hI1 All0_lim h3 h5 hP hS (lv_sub hl [3, 4, 2, 1, 0] rfl)
  have hSf := All0_safe hA
  have h84 : σ 8 4 = 0 := hA.1.2.2.2.2
  refine lv_iconst (v := iI ((0 : Nat) : Int)) hx hb dL_law_88 (by decide) ?_
  refine lv_istore (lv' := [(4, .int (iI ((0 : Nat) : Int))), (0, .ref b), (1, .ref (ad 0 (0))), (2, .int (iI ((lim : Nat) : Int)))]) hx hb dL_law_89 hl (by decide) rfl (fun ls hl => ?_)
  refine law_told X0 (C := cells + 60) (S9 := slots + 750) ⟨by omega, by omega⟩ (fun σ H locs ls hI hSf h84 hP hS hl => ?_) 7 0 (cells + 50) (slots + 700) σ H locs ls (by omega) (by omega) (by omega) (by omega) hI hSf h84 hP hS (lv_sub hl [1, 2, 3, 0] rfl)
  refine lv_iconst (v := iI ((0 : Nat) : Int)) hx hb dL_law_136 (by decide) ?_
  refine lv_istore (lv' := [(4, .int (iI ((0 : Nat) : Int))), (0, .ref b), (1, .ref (ad 0 (0))), (2, .int (iI ((lim : Nat) : Int)))]) hx hb dL_law_137 hl (by decide) rfl (fun ls hl => ?_)
  exact law_legs X0 (C := 623024) (S9 := 7232551) ⟨Nat.le_refl _, Nat.le_refl _⟩ kend 5 0 (cells + 60) (slots + 750) ad σ H locs ls rfl (by omega) (Nat.le_trans (show slots + 750 + 528000 ≤ slots + 600000 by omega) hro.2) hI hSf h84 hP hS (lv_sub hl [1, 2, 3, 0] rfl)
