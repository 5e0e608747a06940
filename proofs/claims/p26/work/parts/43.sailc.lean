abbrev rm_X2_sail : Room := { frames := 6, cells := 1, slots := 6, locals := 82 }
abbrev po_X2_sail (cA : Nat → ClassId) (ad : fw_Ad) (σ : St) (μ : fw_W) : Int32 → fw_W → Prop := fun r w' => (σ 8 4 < 5 ∧ steady σ) ∧ r = iI ((lifAt (ptS σ) (σ 8 4 + 1) : Nat) : Int) ∧ w' = WC cA ad (sailS σ) μ
abbrev px_X2_sail (cA : Nat → ClassId) (ad : fw_Ad) (σ : St) (μ : fw_W) : String → fw_W → Prop := fun E w' => E = tx_IS ∧ ¬ (σ 8 4 < 5 ∧ steady σ) ∧ w' = WC cA ad σ μ
set_option maxHeartbeats 4000000 in
set_option maxRecDepth 100000 in
theorem c_X2_sail (l : Launch) (hl0 : l.stackTraces = false) (D : va_G) (cA : Nat → ClassId) (z : Nat) (ad : fw_Ad) (sa : Nat → Nat) (σ : St) (μ : fw_W) (hI : Inv σ)  : vx_Met l yX2_sail wsX2_sail rm_X2_sail (va_Pc [.ref (ad 0 (0))] (fx_Pre D vwCl (fw_T cA) z ad (WC cA ad σ μ) sa)) (fw_Qi D vwCl z ad (po_X2_sail cA ad σ μ)) (fx_X D vwCl z ad (px_X2_sail cA ad σ μ)) 1 6 (fw_A z) := by
  refine vx_ofW (cc := cX2_sail) (maxL := 6) (ret := (some .int)) (by decide) rfl ?_
  intro pg en s m args below meth cd s₁ B hml hnx hv
  obtain ⟨hargs, ⟨hP, hK⟩, hE⟩ := hv
  have hx := B.exec
  have hb := B.bytes
  have hr := B.returns
  have hts := atoms_spec (ws := wsX2_sail) B.pre
  have hown : s.vm.findClass RX2 = some m.cls := findClass_of_methodNamed B.named
  have hlocks := B.notSynchronized
  have hinX2 : ∀ w ∈ u_ws RX2 TX2 8, w ∈ wsX2_sail := by decide +kernel
  have hf25 := hts (.fieldLink RX2 25 "StowagePlan" "shipPort" "I") (by decide +kernel)
  have hf17 := hts (.fieldLink RX2 17 "StowagePlan" "stacks" "[LStowagePlan$Stack;") (by decide +kernel)
  have hf37 := hts (.fieldLink RX2 37 "StowagePlan" "putBack" "I") (by decide +kernel)
  have hl := lv_entry ([.ref (ad 0 (0))]) (n := 6) (Nat.le_of_ble_eq_true rfl)
  have hent : entryFrame m args 6 = entryFrame m ([.ref (ad 0 (0))] : List Value).toArray 6 := by rw [hargs]
  rw [hent, lg_entry_eq]
  generalize (lg_sl ([.ref (ad 0 (0))]) ++ List.replicate (6 - (lg_sl ([.ref (ad 0 (0))])).length) Slot.unset).toArray = ls at hl ⊢
  have hl : lv_has ls 6 [(0, .ref (ad 0 (0)))] := hl
  generalize hQ : vx_MQ below (fw_Qi D vwCl z ad (po_X2_sail cA ad σ μ)) (fx_X D vwCl z ad (px_X2_sail cA ad σ μ)) args s 1 6 (fw_A z) = Q
  generalize hH : s.heap = H at hP ⊢
  have hS : va_S (fw_A z) s.heap H [] := by rw [← hH]; exact va_S.rf
  generalize ([] : List Loc) = locs at hS ⊢
  refine lv_aload_n hx hb dX2_sail_0 rfl (lv_at hl 0 rfl) ?_
  refine fw_get (ci := 2) (v := .int (iI ((σ 8 4 : Nat) : Int))) (C := RX2) (T := TX2) (N := 8) hx hb hts hinX2 hown hK hP WC_0 rfl 3 (by decide) hf25 (fun _ h9 => h9) rfl dX2_sail_1 ?_
  have hn_1 := hI.n
  have hm_2 := hI.lim
  refine lv_iconst (v := iI ((5 : Nat) : Int)) hx hb dX2_sail_4 (by decide) ?_
  refine fw_icmp_ge (x := ((σ 8 4 : Nat) : Int)) (y := ((5 : Nat) : Int)) (tgt := 15) hx hb dX2_sail_5 (by decide) ⟨by omega, by omega⟩ ⟨by omega, by omega⟩ (fun c_3 => ?_) (fun c_3 => ?_)
  · subst hQ
    refine fx_throw (cls := tx_IS) (text := "the ship cannot sail") hx hb hl0 hown hE tx_54 (hts (.classLink RX2 54 tx_IS) (by decide +kernel)) (hts (.initialized tx_IS) (by decide +kernel)) (fun w hw => hts w ((by decide +kernel : ∀ w ∈ (vx_atS RX2 58 tx_IS tx_n).filter goodWord, w ∈ wsX2_sail) w hw)) (by decide) dX2_sail_15 dX2_sail_18 dX2_sail_19 dX2_sail_21 dX2_sail_24 hnx ⟨Nat.le_of_ble_eq_true rfl, Nat.le_of_ble_eq_true rfl, Nat.le_of_ble_eq_true rfl, Nat.le_of_ble_eq_true rfl⟩ hlocks (hl.1.trans hml.symm) hP hS ?_ (Nat.le_of_ble_eq_true rfl) (Nat.le_of_ble_eq_true rfl)
    exact ⟨rfl, by first | omega | (rintro ⟨-, q⟩; exact absurd q (by assumption)), rfl⟩
  · refine lv_aload_n hx hb dX2_sail_8 rfl (lv_at hl 0 rfl) ?_
    refine fw_cVi (As := []) (rest := []) ⟨hx, hb, hml, hown, hts⟩ (c_X2_isSteady l D cA z ad σ μ  hI) (cwV 0 hts gX2_sail_X2_isSteady rfl rfl rfl (by decide +kernel) ⟨Nat.le_of_ble_eq_true rfl, Nat.le_of_ble_eq_true rfl⟩) WC_0 rfl rfl hl.1 (Nat.le_of_ble_eq_true rfl) dX2_sail_9 ⟨Nat.le_of_ble_eq_true rfl, Nat.le_of_ble_eq_true rfl⟩ hK hP hS rfl (fun r w' H locs q_4 hP hS => ?_)
    obtain ⟨rfl, rfl⟩ := q_4
    refine fw_if_neB (x := cB (steady σ)) (tgt := 25) hx hb dX2_sail_12 (by decide) (fun c_5 => ?_) (fun c_5 => ?_)
    · replace c_5 := cB_t.mp c_5
      refine lv_aload_n hx hb dX2_sail_25 rfl (lv_at hl 0 rfl) ?_
      refine lv_dup hx hb dX2_sail_26 rfl ?_
      refine fw_get (ci := 2) (v := .int (iI ((σ 8 4 : Nat) : Int))) (C := RX2) (T := TX2) (N := 8) hx hb hts hinX2 hown hK hP WC_0 rfl 3 (by decide) hf25 (fun _ h9 => h9) rfl dX2_sail_27 ?_
      refine lv_iconst (v := iI ((1 : Nat) : Int)) hx hb dX2_sail_30 (by decide) ?_
      refine fw_iaddN (a := σ 8 4) (b := 1) hx hb dX2_sail_31 ?_
      refine fw_put (ci := 2) (v := .int (iI (((σ 8 4) + 1 : Nat) : Int))) (ty := .int) (C := RX2) (T := TX2) (N := 8) hx hb hts hinX2 tyX2 tyX2_ok nmX2 hown hK hP hS WC_0 rfl 3 (by decide) hf25 (fun _ h9 => h9) rfl (by decide +kernel) rfl rfl (Nat.le_of_ble_eq_true rfl) dX2_sail_32 (fun H locs hP hS => ?_)
      have hP := wC_8 (j := 4) (v := (σ 8 4) + 1) hP (by decide) rfl
      obtain ⟨pp, hpp⟩ : ∃ t, t = σ 8 4 + 1 := ⟨_, rfl⟩
      obtain ⟨σ1, hσ1⟩ : ∃ t, t = ptS σ := ⟨_, rfl⟩
      rw [show (up σ 8 4 ((σ 8 4) + 1)) = σ1 from hσ1.symm] at hP
      have hI1 : Inv σ1 := by rw [hσ1]; exact ptS_inv hI (by omega)
      have h14 : σ1 8 4 = pp := by rw [hσ1, hpp]; exact up_same ..
      have hpl : pp ≤ 5 := by omega
      have h15 : σ1 8 5 = σ 8 5 := by rw [hσ1]; exact up8 (Or.inr (by decide))
      refine lv_iconst (v := iI ((0 : Nat) : Int)) hx hb dX2_sail_35 (by decide) ?_
      refine lv_istore_n (lv' := [(1, .int (iI ((0 : Nat) : Int))), (0, .ref (ad 0 (0)))]) hx hb dX2_sail_36 rfl hl (by decide) rfl (fun ls hl => ?_)
      refine lv_aload_n hx hb dX2_sail_37 rfl (lv_at hl 1 rfl) ?_
      refine fw_get (ci := 2) (v := .ref (ad 2 (0))) (C := RX2) (T := TX2) (N := 8) hx hb hts hinX2 hown hK hP WC_0 rfl 1 (by decide) hf17 (fun _ h9 => h9) rfl dX2_sail_38 ?_
      have hn_6 := hI1.n
      have hm_7 := hI1.lim
      refine lv_astore_n (lv' := [(2, .ref (ad 2 (0))), (1, .int (iI ((0 : Nat) : Int))), (0, .ref (ad 0 (0)))]) hx hb dX2_sail_41 rfl hl (by decide) rfl (fun ls hl => ?_)
      refine lv_aload_n hx hb dX2_sail_42 rfl (lv_at hl 0 rfl) ?_
      refine fw_alen (v := iI ((30 : Nat) : Int)) hx hb hK hP WC_2 3 rfl rfl dX2_sail_43 ?_
      refine lv_istore_n (lv' := [(3, .int (iI ((30 : Nat) : Int))), (2, .ref (ad 2 (0))), (1, .int (iI ((0 : Nat) : Int))), (0, .ref (ad 0 (0)))]) hx hb dX2_sail_44 rfl hl (by decide) rfl (fun ls hl => ?_)
      refine lv_iconst (v := iI ((0 : Nat) : Int)) hx hb dX2_sail_45 (by decide) ?_
      refine lv_istore (lv' := [(4, .int (iI ((0 : Nat) : Int))), (3, .int (iI ((30 : Nat) : Int))), (2, .ref (ad 2 (0))), (1, .int (iI ((0 : Nat) : Int))), (0, .ref (ad 0 (0)))]) hx hb dX2_sail_46 hl (by decide) rfl (fun ls hl => ?_)
      have loop_48 : ∀ (dd i : Nat) (acc : Nat), 30 + 1 ≤ i + dd → i ≤ 30 → acc = sumN (fun k => lifS σ1 k pp) i → ∀ (H : Heap) (locs : List Loc) (ls : Array Slot), fw_P D vwCl z ad (WC cA ad (slS σ1 pp i) μ) H → va_S (fw_A z) s.heap H locs → lv_has ls 6 [(0, .ref (ad 0 (0))), (1, .int (iI ((acc : Nat) : Int))), (2, .ref (ad 2 (0))), (3, .int (iI ((30 : Nat) : Int))), (4, .int (iI ((i : Nat) : Int)))] → W pg l en (headSpec wsX2_sail rm_X2_sail).room s m args below meth cd H locs 0 0 Q (F0 m 48 ls []) := by
        intro dd
        induction dd with
        | zero => intro i acc hd_48 hi_48; omega
        | succ dd ih_48 =>
          intro i acc hd_48 hi_48 e_acc H locs ls hP hS hl
          subst e_acc
          obtain ⟨ρ, hρ⟩ : ∃ t, t = slS σ1 pp i := ⟨_, rfl⟩
          rw [← hρ] at hP
          have hIρ : Inv ρ := by rw [hρ]; exact slS_inv hI1 pp i
          have hρ4 : ρ 8 4 = pp := by rw [hρ, slS_o (by decide)]; exact h14
          have hρ5 : ρ 8 5 = σ 8 5 := by rw [hρ, slS_o (by decide)]; exact h15
          have hls : lifS ρ i pp = lifS σ1 i pp := by rw [hρ]; exact lifS_sl pp i
          refine lv_iload hx hb dX2_sail_48 (lv_at hl 4 rfl) ?_
          refine lv_iload_n hx hb dX2_sail_50 rfl (lv_at hl 3 rfl) ?_
          refine fw_icmp_ge (x := ((i : Nat) : Int)) (y := ((30 : Nat) : Int)) (tgt := 92) hx hb dX2_sail_51 (by decide) ⟨by omega, by omega⟩ ⟨by omega, by omega⟩ (fun c_8 => ?_) (fun c_8 => ?_)
          · have hac : sumN (fun k => lifS σ1 k pp) i = lifAt σ1 pp := by rw [show i = 30 from by omega]; exact lifAt_stk hI1 pp
            refine lv_aload_n hx hb dX2_sail_92 rfl (lv_at hl 0 rfl) ?_
            refine lv_dup hx hb dX2_sail_93 rfl ?_
            refine fw_get (ci := 2) (v := .int (iI ((ρ 8 5 : Nat) : Int))) (C := RX2) (T := TX2) (N := 8) hx hb hts hinX2 hown hK hP WC_0 rfl 7 (by decide) hf37 (fun _ h9 => h9) rfl dX2_sail_94 ?_
            have hn_9 := hIρ.n
            have hm_10 := hIρ.lim
            refine lv_iload_n hx hb dX2_sail_97 rfl (lv_at hl 1 rfl) ?_
            refine fw_iaddN (a := ρ 8 5) (b := sumN (fun k => lifS σ1 k pp) i) hx hb dX2_sail_98 ?_
            refine fw_put (ci := 2) (v := .int (iI (((ρ 8 5) + (sumN (fun k => lifS σ1 k pp) i) : Nat) : Int))) (ty := .int) (C := RX2) (T := TX2) (N := 8) hx hb hts hinX2 tyX2 tyX2_ok nmX2 hown hK hP hS WC_0 rfl 7 (by decide) hf37 (fun _ h9 => h9) rfl (by decide +kernel) rfl rfl (Nat.le_of_ble_eq_true rfl) dX2_sail_99 (fun H locs hP hS => ?_)
            have hP := wC_8 (j := 5) (v := (ρ 8 5) + (sumN (fun k => lifS σ1 k pp) i)) hP (by decide) rfl
            refine lv_iload_n hx hb dX2_sail_102 rfl (lv_at hl 1 rfl) ?_
            have hSS : (up ρ 8 5 ((ρ 8 5) + (sumN (fun k => lifS σ1 k pp) i))) = sailS σ := by (rw [hρ5, hac, hρ, show i = 30 from by omega, hσ1, hpp]; rfl)
            rw [hSS] at hP
            subst hQ
            refine vx_ret (W.widen (k := 1) (n := 6) (Nat.le_of_ble_eq_true rfl) (Nat.le_of_ble_eq_true rfl) ?_)
            exact fw_iret hx hb hr hlocks dX2_sail_103 hP hS ⟨⟨by omega, by assumption⟩, by rw [hac, hσ1, hpp], rfl⟩
          · refine lv_aload_n hx hb dX2_sail_54 rfl (lv_at hl 2 rfl) ?_
            refine lv_iload hx hb dX2_sail_55 (lv_at hl 4 rfl) ?_
            refine fw_aldN (j := i) hx hb hK hP WC_2 3 rfl (by omega) (by decide) dX2_sail_57 ?_
            refine fw_top (v' := .ref (ad 3 (i))) rfl ?_
            refine lv_astore (lv' := [(5, .ref (ad 3 (i))), (0, .ref (ad 0 (0))), (1, .int (iI ((sumN (fun k => lifS σ1 k pp) i : Nat) : Int))), (2, .ref (ad 2 (0))), (3, .int (iI ((30 : Nat) : Int))), (4, .int (iI ((i : Nat) : Int)))]) hx hb dX2_sail_58 hl (by decide) rfl (fun ls hl => ?_)
            refine lv_aload hx hb dX2_sail_60 (lv_at hl 0 rfl) ?_
            refine lv_ifnull hx hb dX2_sail_62 ?_
            refine lv_iload_n hx hb dX2_sail_65 rfl (lv_at hl 2 rfl) ?_
            refine lv_aload hx hb dX2_sail_66 (lv_at hl 0 rfl) ?_
            refine lv_aload_n hx hb dX2_sail_68 rfl (lv_at hl 1 rfl) ?_
            refine fw_get (ci := 2) (v := .int (iI ((ρ 8 4 : Nat) : Int))) (C := RX2) (T := TX2) (N := 8) hx hb hts hinX2 hown hK hP WC_0 rfl 3 (by decide) hf25 (fun _ h9 => h9) rfl dX2_sail_69 ?_
            have hn_11 := hIρ.n
            have hm_12 := hIρ.lim
            refine fw_topI (b := ((pp : Nat) : Int)) (by omega) ?_
            refine fw_cVi (As := [.int (iI ((pp : Nat) : Int))]) (rest := [.int (iI ((sumN (fun k => lifS σ1 k pp) i : Nat) : Int))]) ⟨hx, hb, hml, hown, hts⟩ (c_X1_liftsFor l D cA z ad ρ μ i pp hIρ (by omega) (by omega)) (cwV 1 hts gX2_sail_X1_liftsFor rfl rfl rfl (by decide +kernel) ⟨Nat.le_of_ble_eq_true rfl, Nat.le_of_ble_eq_true rfl⟩) (WC_3 (by omega)) rfl rfl hl.1 (Nat.le_of_ble_eq_true rfl) dX2_sail_72 ⟨Nat.le_of_ble_eq_true rfl, Nat.le_of_ble_eq_true rfl⟩ hK hP hS rfl (fun r w' H locs q_13 hP hS => ?_)
            obtain ⟨rfl, rfl⟩ := q_13
            have hh_14 := high_le hIρ i
            have hp_15 := hIρ.pl i
            have hlle := lifS_le hIρ i pp
            refine fw_iaddN (a := sumN (fun k => lifS σ1 k pp) i) (b := lifS ρ i pp) hx hb dX2_sail_75 ?_
            refine lv_istore_n (lv' := [(1, .int (iI (((sumN (fun k => lifS σ1 k pp) i) + (lifS ρ i pp) : Nat) : Int))), (5, .ref (ad 3 (i))), (0, .ref (ad 0 (0))), (2, .ref (ad 2 (0))), (3, .int (iI ((30 : Nat) : Int))), (4, .int (iI ((i : Nat) : Int)))]) hx hb dX2_sail_76 rfl hl (by decide) rfl (fun ls hl => ?_)
            refine lv_aload hx hb dX2_sail_77 (lv_at hl 1 rfl) ?_
            refine lv_aload_n hx hb dX2_sail_79 rfl (lv_at hl 2 rfl) ?_
            refine fw_get (ci := 2) (v := .int (iI ((ρ 8 4 : Nat) : Int))) (C := RX2) (T := TX2) (N := 8) hx hb hts hinX2 hown hK hP WC_0 rfl 3 (by decide) hf25 (fun _ h9 => h9) rfl dX2_sail_80 ?_
            refine fw_topI (b := ((pp : Nat) : Int)) (by omega) ?_
            refine fw_cVv (As := [.int (iI ((pp : Nat) : Int))]) (rest := []) ⟨hx, hb, hml, hown, hts⟩ (c_X1_land l D cA z ad ρ μ i pp hIρ (by omega) (by omega)) (cwV 1 hts gX2_sail_X1_land rfl rfl rfl (by decide +kernel) ⟨Nat.le_of_ble_eq_true rfl, Nat.le_of_ble_eq_true rfl⟩) (WC_3 (by omega)) rfl rfl hl.1 (Nat.le_of_ble_eq_true rfl) dX2_sail_83 ⟨Nat.le_of_ble_eq_true rfl, Nat.le_of_ble_eq_true rfl⟩ hK hP hS rfl (fun w' H locs q_16 hP hS => ?_)
            subst q_16
            refine fw_iincN (x := i) (lv' := [(4, .int (iI ((i + 1 : Nat) : Int))), (1, .int (iI (((sumN (fun k => lifS σ1 k pp) i) + (lifS ρ i pp) : Nat) : Int))), (5, .ref (ad 3 (i))), (0, .ref (ad 0 (0))), (2, .ref (ad 2 (0))), (3, .int (iI ((30 : Nat) : Int)))]) hx hb dX2_sail_86 hl (k := 5) rfl (by decide) rfl (fun ls hl => ?_)
            refine lv_goto (tgt := 48) hx hb dX2_sail_89 (by decide) ?_
            exact ih_48 (i + 1) _ (by omega) (by omega) (by rw [sumN, hls]) H locs ls (by rw [hρ] at hP; exact hP) hS (lv_sub hl [3, 1, 4, 5, 0] rfl)
      exact loop_48 (30 + 1) (0) _ (by omega) (by omega) (by rfl) H locs ls hP hS (lv_sub hl [4, 3, 2, 1, 0] rfl)
    · replace c_5 := cB_f.mp c_5
      subst hQ
      refine fx_throw (cls := tx_IS) (text := "the ship cannot sail") hx hb hl0 hown hE tx_54 (hts (.classLink RX2 54 tx_IS) (by decide +kernel)) (hts (.initialized tx_IS) (by decide +kernel)) (fun w hw => hts w ((by decide +kernel : ∀ w ∈ (vx_atS RX2 58 tx_IS tx_n).filter goodWord, w ∈ wsX2_sail) w hw)) (by decide) dX2_sail_15 dX2_sail_18 dX2_sail_19 dX2_sail_21 dX2_sail_24 hnx ⟨Nat.le_of_ble_eq_true rfl, Nat.le_of_ble_eq_true rfl, Nat.le_of_ble_eq_true rfl, Nat.le_of_ble_eq_true rfl⟩ hlocks (hl.1.trans hml.symm) hP hS ?_ (Nat.le_of_ble_eq_true rfl) (Nat.le_of_ble_eq_true rfl)
      exact ⟨rfl, by first | omega | (rintro ⟨-, q⟩; exact absurd q (by assumption)), rfl⟩
