abbrev rm_X3_sail : Room := { frames := 4, cells := 0, slots := 0, locals := 90 }
abbrev po_X3_sail (cA : Nat → ClassId) (ad : fw_Ad) (σ : St) (th u a : Int) (μ : fw_W) : Int32 → fw_W → Prop := fun r w' => ((σ 8 4 < 5 ∧ steady σ) ∧ r = iI ((lifAt (ptS σ) (σ 8 4 + 1) : Nat) : Int) ∧ ∃ u' a', w' = WM cA ad (sailS σ) ((0 : Nat) : Int) u' a' μ) ∨ (¬ (σ 8 4 < 5 ∧ steady σ) ∧ r = iI 0 ∧ ∃ u' a', w' = WM cA ad σ ((1 : Nat) : Int) u' a' μ)
set_option maxHeartbeats 4000000 in
set_option maxRecDepth 100000 in
theorem c_X3_sail (l : Launch) (D : va_G) (cA : Nat → ClassId) (z : Nat) (ad : fw_Ad) (σ : St) (th u a : Int) (μ : fw_W) (hI : Inv σ) : Met l yX3_sail wsX3_sail rm_X3_sail (va_Pc [.ref (ad 10 (0))] (fw_Pre D vwCl (fw_T cA) z ad (WM cA ad σ th u a μ))) (fw_Qi D vwCl z ad (po_X3_sail cA ad σ th u a μ)) 0 0 (fw_A z) := by
  refine Met.ofW (cc := cX3_sail) (maxL := 7) (ret := (some .int)) (by decide) rfl ?_
  intro pg en s m args below meth cd s₁ B hml hv
  obtain ⟨hargs, hP, hK⟩ := hv
  have hx := B.exec
  have hb := B.bytes
  have hr := B.returns
  have hts := atoms_spec (ws := wsX3_sail) B.pre
  have hown : s.vm.findClass RX3 = some m.cls := findClass_of_methodNamed B.named
  have hlocks := B.notSynchronized
  have hinX3 : ∀ w ∈ u_ws RX3 TX3 13, w ∈ wsX3_sail := by decide +kernel
  have hf33 := hts (.fieldLink RX3 33 "StowagePlanModel" "thrown" "I") (by decide +kernel)
  have hf54 := hts (.fieldLink RX3 54 "StowagePlanModel" "port" "I") (by decide +kernel)
  have hf149 := hts (.fieldLink RX3 149 "StowagePlanModel" "lifted" "I") (by decide +kernel)
  have hf16 := hts (.fieldLink RX3 16 "StowagePlanModel" "tiers" "[I") (by decide +kernel)
  have hf9 := hts (.fieldLink RX3 9 "StowagePlanModel" "table" "[I") (by decide +kernel)
  have hl := lv_entry ([.ref (ad 10 (0))]) (n := 7) (Nat.le_of_ble_eq_true rfl)
  have hent : entryFrame m args 7 = entryFrame m ([.ref (ad 10 (0))] : List Value).toArray 7 := by rw [hargs]
  rw [hent, lg_entry_eq]
  generalize (lg_sl ([.ref (ad 10 (0))]) ++ List.replicate (7 - (lg_sl ([.ref (ad 10 (0))])).length) Slot.unset).toArray = ls at hl ⊢
  have hl : lv_has ls 7 [(0, .ref (ad 10 (0)))] := hl
  generalize hQ : MQ below (fw_Qi D vwCl z ad (po_X3_sail cA ad σ th u a μ)) args s 0 0 (fw_A z) = Q
  generalize hH : s.heap = H at hP ⊢
  have hS : va_S (fw_A z) s.heap H [] := by rw [← hH]; exact va_S.rf
  generalize ([] : List Loc) = locs at hS ⊢
  refine lv_aload_n hx hb dX3_sail_0 rfl (lv_at hl 0 rfl) ?_
  refine lv_iconst (v := iI ((0 : Nat) : Int)) hx hb dX3_sail_1 (by decide) ?_
  refine fw_put (ci := 3) (v := .int (iI ((0 : Nat) : Int))) (ty := .int) (C := RX3) (T := TX3) (N := 13) hx hb hts hinX3 tyX3 tyX3_ok nmX3 hown hK hP hS WM_10 rfl 0 (by decide) hf33 (fun _ h9 => h9) rfl (by decide +kernel) rfl rfl (Nat.le_of_ble_eq_true rfl) dX3_sail_2 (fun H locs hP hS => ?_)
  have hP := wM_put (th' := ((0 : Nat) : Int)) (u' := u) (a' := a) hP rfl
  refine lv_aload_n hx hb dX3_sail_5 rfl (lv_at hl 0 rfl) ?_
  refine fw_get (ci := 3) (v := .int (iI ((σ 8 4 : Nat) : Int))) (C := RX3) (T := TX3) (N := 13) hx hb hts hinX3 hown hK hP WM_10 rfl 9 (by decide) hf54 (fun _ h9 => h9) rfl dX3_sail_6 ?_
  have hn_1 := hI.n
  have hm_2 := hI.lim
  refine lv_iconst (v := iI ((5 : Nat) : Int)) hx hb dX3_sail_9 (by decide) ?_
  refine fw_icmp_eq (x := ((σ 8 4 : Nat) : Int)) (y := ((5 : Nat) : Int)) (tgt := 20) hx hb dX3_sail_10 (by decide) ⟨by omega, by omega⟩ ⟨by omega, by omega⟩ (fun c_3 => ?_) (fun c_3 => ?_)
  · refine lv_aload_n hx hb dX3_sail_20 rfl (lv_at hl 0 rfl) ?_
    refine lv_iconst (v := iI ((1 : Nat) : Int)) hx hb dX3_sail_21 (by decide) ?_
    refine fw_cVi (As := [.int (iI ((1 : Nat) : Int))]) (rest := []) ⟨hx, hb, hml, hown, hts⟩ (c_X3_fail l D cA z ad σ (((0 : Nat) : Int)) u a μ ((1 : Nat) : Int) hI) (cwV 1 hts gX3_sail_X3_fail rfl rfl rfl (by decide +kernel) ⟨Nat.le_of_ble_eq_true rfl, Nat.le_of_ble_eq_true rfl⟩) WM_10 rfl rfl hl.1 (Nat.le_of_ble_eq_true rfl) dX3_sail_22 ⟨Nat.le_of_ble_eq_true rfl, Nat.le_of_ble_eq_true rfl⟩ hK hP hS rfl (fun r w' H locs q_4 hP hS => ?_)
    obtain ⟨rfl, rfl⟩ := q_4
    subst hQ
    exact fw_iret hx hb hr hlocks dX3_sail_25 hP hS (Or.inr ⟨by omega, rfl, _, _, rfl⟩)
  · refine lv_aload_n hx hb dX3_sail_13 rfl (lv_at hl 0 rfl) ?_
    refine fw_cVi (As := []) (rest := []) ⟨hx, hb, hml, hown, hts⟩ (c_X3_steady l D cA z ad σ (((0 : Nat) : Int)) u a μ hI) (cwV 0 hts gX3_sail_X3_steady rfl rfl rfl (by decide +kernel) ⟨Nat.le_of_ble_eq_true rfl, Nat.le_of_ble_eq_true rfl⟩) WM_10 rfl rfl hl.1 (Nat.le_of_ble_eq_true rfl) dX3_sail_14 ⟨Nat.le_of_ble_eq_true rfl, Nat.le_of_ble_eq_true rfl⟩ hK hP hS rfl (fun r w' H locs q_5 hP hS => ?_)
    obtain ⟨rfl, rfl⟩ := q_5
    refine fw_if_neB (x := cB (steady σ)) (tgt := 26) hx hb dX3_sail_17 (by decide) (fun c_6 => ?_) (fun c_6 => ?_)
    · replace c_6 := cB_t.mp c_6
      refine lv_aload_n hx hb dX3_sail_26 rfl (lv_at hl 0 rfl) ?_
      refine lv_dup hx hb dX3_sail_27 rfl ?_
      refine fw_get (ci := 3) (v := .int (iI ((σ 8 4 : Nat) : Int))) (C := RX3) (T := TX3) (N := 13) hx hb hts hinX3 hown hK hP WM_10 rfl 9 (by decide) hf54 (fun _ h9 => h9) rfl dX3_sail_28 ?_
      refine lv_iconst (v := iI ((1 : Nat) : Int)) hx hb dX3_sail_31 (by decide) ?_
      refine fw_iaddN (a := σ 8 4) (b := 1) hx hb dX3_sail_32 ?_
      refine fw_put (ci := 3) (v := .int (iI (((σ 8 4) + 1 : Nat) : Int))) (ty := .int) (C := RX3) (T := TX3) (N := 13) hx hb hts hinX3 tyX3 tyX3_ok nmX3 hown hK hP hS WM_10 rfl 9 (by decide) hf54 (fun _ h9 => h9) rfl (by decide +kernel) rfl rfl (Nat.le_of_ble_eq_true rfl) dX3_sail_33 (fun H locs hP hS => ?_)
      have hP := wM_8 (c := 4) (v := (σ 8 4) + 1) hP rfl
      have hI0 : Inv (ptS σ) := ptS_inv hI (by omega)
      refine lv_aload_n hx hb dX3_sail_36 rfl (lv_at hl 0 rfl) ?_
      refine lv_aload_n hx hb dX3_sail_37 rfl (lv_at hl 0 rfl) ?_
      refine fw_get (ci := 3) (v := .int (iI (((up σ 8 4 ((σ 8 4) + 1)) 8 4 : Nat) : Int))) (C := RX3) (T := TX3) (N := 13) hx hb hts hinX3 hown hK hP WM_10 rfl 9 (by decide) hf54 (fun _ h9 => h9) rfl dX3_sail_38 ?_
      have hn_7 := hI0.n
      have hm_8 := hI0.lim
      refine fw_topI (b := (((σ 8 4 + 1) : Nat) : Int)) (by rw [up_same]) ?_
      refine fw_cVi (As := [.int (iI ((σ 8 4 + 1 : Nat) : Int))]) (rest := []) ⟨hx, hb, hml, hown, hts⟩ (c_X3_liftsAt l D cA z ad (up σ 8 4 ((σ 8 4) + 1)) (((0 : Nat) : Int)) (((upS σ : Nat) : Int)) (((allS σ : Nat) : Int)) μ (σ 8 4 + 1) hI0 (by omega)) (cwV 1 hts gX3_sail_X3_liftsAt rfl rfl rfl (by decide +kernel) ⟨Nat.le_of_ble_eq_true rfl, Nat.le_of_ble_eq_true rfl⟩) WM_10 rfl rfl hl.1 (Nat.le_of_ble_eq_true rfl) dX3_sail_41 ⟨Nat.le_of_ble_eq_true rfl, Nat.le_of_ble_eq_true rfl⟩ hK hP hS rfl (fun r w' H locs q_9 hP hS => ?_)
      obtain ⟨rfl, rfl⟩ := q_9
      refine lv_istore_n (lv' := [(1, .int (iI ((lifAt (up σ 8 4 ((σ 8 4) + 1)) (σ 8 4 + 1) : Nat) : Int))), (0, .ref (ad 10 (0)))]) hx hb dX3_sail_44 rfl hl (by decide) rfl (fun ls hl => ?_)
      refine lv_aload_n hx hb dX3_sail_45 rfl (lv_at hl 1 rfl) ?_
      refine lv_dup hx hb dX3_sail_46 rfl ?_
      refine fw_get (ci := 3) (v := .int (iI (((up σ 8 4 ((σ 8 4) + 1)) 8 5 : Nat) : Int))) (C := RX3) (T := TX3) (N := 13) hx hb hts hinX3 hown hK hP WM_10 rfl 10 (by decide) hf149 (fun _ h9 => h9) rfl dX3_sail_47 ?_
      refine lv_iload_n hx hb dX3_sail_50 rfl (lv_at hl 0 rfl) ?_
      refine fw_iaddN (a := (up σ 8 4 ((σ 8 4) + 1)) 8 5) (b := lifAt (up σ 8 4 ((σ 8 4) + 1)) (σ 8 4 + 1)) hx hb dX3_sail_51 ?_
      refine fw_put (ci := 3) (v := .int (iI ((((up σ 8 4 ((σ 8 4) + 1)) 8 5) + (lifAt (up σ 8 4 ((σ 8 4) + 1)) (σ 8 4 + 1)) : Nat) : Int))) (ty := .int) (C := RX3) (T := TX3) (N := 13) hx hb hts hinX3 tyX3 tyX3_ok nmX3 hown hK hP hS WM_10 rfl 10 (by decide) hf149 (fun _ h9 => h9) rfl (by decide +kernel) rfl rfl (Nat.le_of_ble_eq_true rfl) dX3_sail_52 (fun H locs hP hS => ?_)
      have hP := wM_8 (c := 5) (v := ((up σ 8 4 ((σ 8 4) + 1)) 8 5) + (lifAt (up σ 8 4 ((σ 8 4) + 1)) (σ 8 4 + 1))) hP rfl
      obtain ⟨pp, hpp⟩ : ∃ t, t = σ 8 4 + 1 := ⟨_, rfl⟩
      obtain ⟨σ1, hσ1⟩ : ∃ t, t = (up (up σ 8 4 ((σ 8 4) + 1)) 8 5 (((up σ 8 4 ((σ 8 4) + 1)) 8 5) + (lifAt (up σ 8 4 ((σ 8 4) + 1)) (σ 8 4 + 1)))) := ⟨_, rfl⟩
      rw [← hσ1] at hP
      have hs1 : σ1 = up (ptS σ) 8 5 (σ 8 5 + lifAt (ptS σ) (σ 8 4 + 1)) := hσ1
      have hI1 : Inv σ1 := by rw [hs1]; exact Inv_85 hI (by omega)
      have h14 : σ1 8 4 = pp := by rw [hs1, up8 (Or.inr (by decide)), hpp]; exact up_same ..
      have hpl : pp ≤ 5 := by omega
      refine lv_iconst (v := iI ((0 : Nat) : Int)) hx hb dX3_sail_55 (by decide) ?_
      refine lv_istore_n (lv' := [(2, .int (iI ((0 : Nat) : Int))), (1, .int (iI ((lifAt (up σ 8 4 ((σ 8 4) + 1)) (σ 8 4 + 1) : Nat) : Int))), (0, .ref (ad 10 (0)))]) hx hb dX3_sail_56 rfl hl (by decide) rfl (fun ls hl => ?_)
      have loop_57 : ∀ (dd k : Nat), 30 + 1 ≤ k + dd → k ≤ 30 → ∀ (H : Heap) (locs : List Loc) (ls : Array Slot), fw_P D vwCl z ad (WM cA ad (slS σ1 pp k) (((0 : Nat) : Int)) (((upS σ : Nat) : Int)) (((allS σ : Nat) : Int)) μ) H → va_S (fw_A z) s.heap H locs → lv_has ls 7 [(0, .ref (ad 10 (0))), (1, .int (iI ((lifAt (up σ 8 4 ((σ 8 4) + 1)) (σ 8 4 + 1) : Nat) : Int))), (2, .int (iI ((k : Nat) : Int)))] → W pg l en (headSpec wsX3_sail rm_X3_sail).room s m args below meth cd H locs 0 0 Q (F0 m 57 ls []) := by
        intro dd
        induction dd with
        | zero => intro k hd_57 hi_57; omega
        | succ dd ih_57 =>
          intro k hd_57 hi_57 H locs ls hP hS hl
          obtain ⟨ρ, hρ⟩ : ∃ t, t = slS σ1 pp k := ⟨_, rfl⟩
          rw [← hρ] at hP
          have hIρ : Inv ρ := by rw [hρ]; exact slS_inv hI1 pp k
          have hρ4 : ρ 8 4 = pp := by rw [hρ, slS_o (by decide)]; exact h14
          refine lv_iload_n hx hb dX3_sail_57 rfl (lv_at hl 2 rfl) ?_
          refine lv_bipush (v := iI ((30 : Nat) : Int)) hx hb dX3_sail_58 (by decide) ?_
          refine fw_icmp_ge (x := ((k : Nat) : Int)) (y := ((30 : Nat) : Int)) (tgt := 142) hx hb dX3_sail_60 (by decide) ⟨by omega, by omega⟩ ⟨by omega, by omega⟩ (fun c_10 => ?_) (fun c_10 => ?_)
          · refine lv_iload_n hx hb dX3_sail_142 rfl (lv_at hl 1 rfl) ?_
            subst hQ
            exact fw_iret hx hb hr hlocks dX3_sail_143 hP hS (Or.inl ⟨⟨by omega, by assumption⟩, rfl, _, _, by rw [hρ, show k = 30 from by omega, hs1, slS_8 (by decide), hpp]; rfl⟩)
          · refine lv_aload_n hx hb dX3_sail_63 rfl (lv_at hl 0 rfl) ?_
            refine lv_iload_n hx hb dX3_sail_64 rfl (lv_at hl 2 rfl) ?_
            refine fw_cVi (As := [.int (iI ((k : Nat) : Int))]) (rest := []) ⟨hx, hb, hml, hown, hts⟩ (c_X3_high l D cA z ad ρ (((0 : Nat) : Int)) (((upS σ : Nat) : Int)) (((allS σ : Nat) : Int)) μ k hIρ (by omega)) (cwV 1 hts gX3_sail_X3_high rfl rfl rfl (by decide +kernel) ⟨Nat.le_of_ble_eq_true rfl, Nat.le_of_ble_eq_true rfl⟩) WM_10 rfl rfl hl.1 (Nat.le_of_ble_eq_true rfl) dX3_sail_65 ⟨Nat.le_of_ble_eq_true rfl, Nat.le_of_ble_eq_true rfl⟩ hK hP hS rfl (fun r w' H locs q_11 hP hS => ?_)
            obtain ⟨rfl, rfl⟩ := q_11
            have hn_12 := hIρ.n
            have hm_13 := hIρ.lim
            have hh_14 := high_le hIρ k
            refine lv_istore_n (lv' := [(3, .int (iI ((high ρ k : Nat) : Int))), (0, .ref (ad 10 (0))), (1, .int (iI ((lifAt (up σ 8 4 ((σ 8 4) + 1)) (σ 8 4 + 1) : Nat) : Int))), (2, .int (iI ((k : Nat) : Int)))]) hx hb dX3_sail_68 rfl hl (by decide) rfl (fun ls hl => ?_)
            refine lv_iconst (v := iI ((0 : Nat) : Int)) hx hb dX3_sail_69 (by decide) ?_
            refine lv_istore (lv' := [(4, .int (iI ((0 : Nat) : Int))), (3, .int (iI ((high ρ k : Nat) : Int))), (0, .ref (ad 10 (0))), (1, .int (iI ((lifAt (up σ 8 4 ((σ 8 4) + 1)) (σ 8 4 + 1) : Nat) : Int))), (2, .int (iI ((k : Nat) : Int)))]) hx hb dX3_sail_70 hl (by decide) rfl (fun ls hl => ?_)
            refine lv_iconst (v := iI ((0 : Nat) : Int)) hx hb dX3_sail_72 (by decide) ?_
            refine lv_istore (lv' := [(5, .int (iI ((0 : Nat) : Int))), (4, .int (iI ((0 : Nat) : Int))), (3, .int (iI ((high ρ k : Nat) : Int))), (0, .ref (ad 10 (0))), (1, .int (iI ((lifAt (up σ 8 4 ((σ 8 4) + 1)) (σ 8 4 + 1) : Nat) : Int))), (2, .int (iI ((k : Nat) : Int)))]) hx hb dX3_sail_73 hl (by decide) rfl (fun ls hl => ?_)
            have loop_75 : ∀ (dd j : Nat) (acc : Nat), (high ρ k) + 1 ≤ j + dd → j ≤ (high ρ k) → acc = cu ρ k pp j → ∀ (H : Heap) (locs : List Loc) (ls : Array Slot), fw_P D vwCl z ad (WM cA ad (ldS ρ k pp j) (((0 : Nat) : Int)) (((upS σ : Nat) : Int)) (((allS σ : Nat) : Int)) μ) H → va_S (fw_A z) s.heap H locs → lv_has ls 7 [(0, .ref (ad 10 (0))), (1, .int (iI ((lifAt (up σ 8 4 ((σ 8 4) + 1)) (σ 8 4 + 1) : Nat) : Int))), (2, .int (iI ((k : Nat) : Int))), (3, .int (iI ((high ρ k : Nat) : Int))), (4, .int (iI ((acc : Nat) : Int))), (5, .int (iI ((j : Nat) : Int)))] → W pg l en (headSpec wsX3_sail rm_X3_sail).room s m args below meth cd H locs 0 0 Q (F0 m 75 ls []) := by
              intro dd
              induction dd with
              | zero => intro j acc hd_75 hi_75; omega
              | succ dd ih_75 =>
                intro j acc hd_75 hi_75 e_acc H locs ls hP hS hl
                subst e_acc
                obtain ⟨τ, hτ⟩ : ∃ t, t = ldS ρ k pp j := ⟨_, rfl⟩
                rw [← hτ] at hP
                have hcj := cu_le (σ := ρ) (s := k) (p := pp) j
                have hh4 := high_le hIρ k
                have hBτ : Bnd τ := by rw [hτ]; exact Bnd_land hIρ k pp j
                have hoc : occ τ k j = occ ρ k j := by rw [hτ]; exact ldS_occ k pp j j (Nat.le_refl _)
                have e2 : ∀ c, τ 2 c = ρ 2 c := fun c => by rw [hτ]; exact ldS_o (by decide) c
                have e84 : τ 8 4 = pp := by rw [hτ, ldS_o (by decide)]; exact hρ4
                refine lv_iload hx hb dX3_sail_75 (lv_at hl 5 rfl) ?_
                refine lv_iload_n hx hb dX3_sail_77 rfl (lv_at hl 3 rfl) ?_
                refine fw_icmp_ge (x := ((j : Nat) : Int)) (y := ((high ρ k : Nat) : Int)) (tgt := 136) hx hb dX3_sail_78 (by decide) ⟨by omega, by omega⟩ ⟨by omega, by omega⟩ (fun c_15 => ?_) (fun c_15 => ?_)
                · refine fw_iincN (x := k) (lv' := [(2, .int (iI ((k + 1 : Nat) : Int))), (0, .ref (ad 10 (0))), (1, .int (iI ((lifAt (up σ 8 4 ((σ 8 4) + 1)) (σ 8 4 + 1) : Nat) : Int))), (3, .int (iI ((high ρ k : Nat) : Int))), (4, .int (iI ((cu ρ k pp j : Nat) : Int))), (5, .int (iI ((j : Nat) : Int)))]) hx hb dX3_sail_136 hl (k := 2) rfl (by decide) rfl (fun ls hl => ?_)
                  refine lv_goto (tgt := 57) hx hb dX3_sail_139 (by decide) ?_
                  have hle4 : j = high ρ k := by omega
                  rw [hτ, hle4, ldS_top hIρ, hρ] at hP
                  exact ih_57 (k + 1) (by omega) (by omega) H locs ls hP hS (lv_sub hl [1, 2, 0] rfl)
                · refine lv_aload_n hx hb dX3_sail_81 rfl (lv_at hl 0 rfl) ?_
                  refine lv_iload_n hx hb dX3_sail_82 rfl (lv_at hl 2 rfl) ?_
                  refine lv_iload hx hb dX3_sail_83 (lv_at hl 5 rfl) ?_
                  refine fw_cVi (As := [.int (iI ((k : Nat) : Int)), .int (iI ((j : Nat) : Int))]) (rest := []) ⟨hx, hb, hml, hown, hts⟩ (c_X3_find l D cA z ad τ (((0 : Nat) : Int)) (((upS σ : Nat) : Int)) (((allS σ : Nat) : Int)) μ k j hBτ (by omega) (by omega)) (cwV 2 hts gX3_sail_X3_find rfl rfl rfl (by decide +kernel) ⟨Nat.le_of_ble_eq_true rfl, Nat.le_of_ble_eq_true rfl⟩) WM_10 rfl rfl hl.1 (Nat.le_of_ble_eq_true rfl) dX3_sail_85 ⟨Nat.le_of_ble_eq_true rfl, Nat.le_of_ble_eq_true rfl⟩ hK hP hS rfl (fun r w' H locs q_16 hP hS => ?_)
                  obtain ⟨rfl, rfl⟩ := q_16
                  have hn_17 := hBτ.n
                  have hm_18 := hBτ.lim
                  obtain ⟨tc, htc⟩ := (high_full hIρ k (j := j) (by omega)).mpr (by omega)
                  refine fw_topI (b := ((tc : Nat) : Int)) (by rw [hoc, htc]; rfl) ?_
                  obtain ⟨ht1, ht2, ht3, ht4⟩ := occ_some htc
                  have e2c := e2 tc
                  have htn := hIρ.n
                  refine lv_istore (lv' := [(6, .int (iI ((tc : Nat) : Int))), (0, .ref (ad 10 (0))), (1, .int (iI ((lifAt (up σ 8 4 ((σ 8 4) + 1)) (σ 8 4 + 1) : Nat) : Int))), (2, .int (iI ((k : Nat) : Int))), (3, .int (iI ((high ρ k : Nat) : Int))), (4, .int (iI ((cu ρ k pp j : Nat) : Int))), (5, .int (iI ((j : Nat) : Int)))]) hx hb dX3_sail_88 hl (by decide) rfl (fun ls hl => ?_)
                  refine lv_aload_n hx hb dX3_sail_90 rfl (lv_at hl 1 rfl) ?_
                  refine lv_iload hx hb dX3_sail_91 (lv_at hl 0 rfl) ?_
                  refine fw_cVi (As := [.int (iI ((tc : Nat) : Int))]) (rest := []) ⟨hx, hb, hml, hown, hts⟩ (c_X3_to l D cA z ad τ (((0 : Nat) : Int)) (((upS σ : Nat) : Int)) (((allS σ : Nat) : Int)) μ tc hBτ (by omega)) (cwV 1 hts gX3_sail_X3_to rfl rfl rfl (by decide +kernel) ⟨Nat.le_of_ble_eq_true rfl, Nat.le_of_ble_eq_true rfl⟩) WM_10 rfl rfl hl.1 (Nat.le_of_ble_eq_true rfl) dX3_sail_93 ⟨Nat.le_of_ble_eq_true rfl, Nat.le_of_ble_eq_true rfl⟩ hK hP hS rfl (fun r w' H locs q_19 hP hS => ?_)
                  obtain ⟨rfl, rfl⟩ := q_19
                  have hc_20 := hBτ.c tc
                  refine lv_aload_n hx hb dX3_sail_96 rfl (lv_at hl 1 rfl) ?_
                  refine fw_get (ci := 3) (v := .int (iI ((τ 8 4 : Nat) : Int))) (C := RX3) (T := TX3) (N := 13) hx hb hts hinX3 hown hK hP WM_10 rfl 9 (by decide) hf54 (fun _ h9 => h9) rfl dX3_sail_97 ?_
                  refine fw_icmp_ne (x := ((τ 2 tc : Nat) : Int)) (y := ((τ 8 4 : Nat) : Int)) (tgt := 118) hx hb dX3_sail_100 (by decide) ⟨by omega, by omega⟩ ⟨by omega, by omega⟩ (fun c_21 => ?_) (fun c_21 => ?_)
                  · refine lv_aload_n hx hb dX3_sail_118 rfl (lv_at hl 1 rfl) ?_
                    refine fw_get (ci := 3) (v := .ref (ad 13 (0))) (C := RX3) (T := TX3) (N := 13) hx hb hts hinX3 hown hK hP WM_10 rfl 4 (by decide) hf16 (fun _ h9 => h9) rfl dX3_sail_119 ?_
                    refine lv_iload hx hb dX3_sail_122 (lv_at hl 0 rfl) ?_
                    refine lv_iload hx hb dX3_sail_124 (lv_at hl 5 rfl) ?_
                    refine fw_iastN (j := tc) hx hb hK hP hS WM_13 0 rfl (by omega) (by decide) dX3_sail_126 (fun H locs hP hS => ?_)
                    have hP := wM_6 (c := tc) (v := cu ρ k pp j) hP (cRow_set rfl)
                    refine fw_iincN (x := cu ρ k pp j) (lv' := [(4, .int (iI (((cu ρ k pp j) + 1 : Nat) : Int))), (6, .int (iI ((tc : Nat) : Int))), (0, .ref (ad 10 (0))), (1, .int (iI ((lifAt (up σ 8 4 ((σ 8 4) + 1)) (σ 8 4 + 1) : Nat) : Int))), (2, .int (iI ((k : Nat) : Int))), (3, .int (iI ((high ρ k : Nat) : Int))), (5, .int (iI ((j : Nat) : Int)))]) hx hb dX3_sail_127 hl (k := 5) rfl (by decide) rfl (fun ls hl => ?_)
                    refine fw_iincN (x := j) (lv' := [(5, .int (iI ((j + 1 : Nat) : Int))), (4, .int (iI (((cu ρ k pp j) + 1 : Nat) : Int))), (6, .int (iI ((tc : Nat) : Int))), (0, .ref (ad 10 (0))), (1, .int (iI ((lifAt (up σ 8 4 ((σ 8 4) + 1)) (σ 8 4 + 1) : Nat) : Int))), (2, .int (iI ((k : Nat) : Int))), (3, .int (iI ((high ρ k : Nat) : Int)))]) hx hb dX3_sail_130 hl (k := 6) rfl (by decide) rfl (fun ls hl => ?_)
                    refine lv_goto (tgt := 75) hx hb dX3_sail_133 (by decide) ?_
                    have htp : ¬ ρ 2 tc = pp := by omega
                    have hlc := ldS_c (p := pp) hIρ htc
                    rw [if_neg htp, ← hτ] at hlc
                    have hcu := cu_s (p := pp) htc
                    rw [if_neg htp] at hcu
                    exact ih_75 (j + 1) _ (by omega) (by omega) (by rw [hcu]) H locs ls (by rw [hlc]; exact hP) hS (lv_sub hl [3, 4, 5, 6, 1, 0] rfl)
                  · refine lv_aload_n hx hb dX3_sail_103 rfl (lv_at hl 1 rfl) ?_
                    refine fw_get (ci := 3) (v := .ref (ad 11 (0))) (C := RX3) (T := TX3) (N := 13) hx hb hts hinX3 hown hK hP WM_10 rfl 2 (by decide) hf9 (fun _ h9 => h9) rfl dX3_sail_104 ?_
                    refine lv_iconst (v := iI ((5 : Nat) : Int)) hx hb dX3_sail_107 (by decide) ?_
                    refine lv_iload hx hb dX3_sail_108 (lv_at hl 0 rfl) ?_
                    refine fw_imulN (a := 5) (b := tc) hx hb dX3_sail_110 ?_
                    refine lv_iconst (v := iI ((4 : Nat) : Int)) hx hb dX3_sail_111 (by decide) ?_
                    refine fw_iaddN (a := 5 * tc) (b := 4) hx hb dX3_sail_112 ?_
                    refine lv_iconst (v := iI ((2 : Nat) : Int)) hx hb dX3_sail_113 (by decide) ?_
                    refine fw_iastN (j := (5 * tc) + 4) hx hb hK hP hS WM_11 0 rfl (by omega) (by decide) dX3_sail_114 (fun H locs hP hS => ?_)
                    have hP := wM_tab (q := 4) (c := tc) (v := 2) hP (by decide) (cTab_set (by decide) rfl)
                    refine lv_goto (tgt := 130) hx hb dX3_sail_115 (by decide) ?_
                    refine fw_iincN (x := j) (lv' := [(5, .int (iI ((j + 1 : Nat) : Int))), (6, .int (iI ((tc : Nat) : Int))), (0, .ref (ad 10 (0))), (1, .int (iI ((lifAt (up σ 8 4 ((σ 8 4) + 1)) (σ 8 4 + 1) : Nat) : Int))), (2, .int (iI ((k : Nat) : Int))), (3, .int (iI ((high ρ k : Nat) : Int))), (4, .int (iI ((cu ρ k pp j : Nat) : Int)))]) hx hb dX3_sail_130 hl (k := 6) rfl (by decide) rfl (fun ls hl => ?_)
                    refine lv_goto (tgt := 75) hx hb dX3_sail_133 (by decide) ?_
                    have htp : ρ 2 tc = pp := by omega
                    have hlc := ldS_c (p := pp) hIρ htc
                    rw [if_pos htp, ← hτ] at hlc
                    have hcu := cu_s (p := pp) htc
                    rw [if_pos htp, Nat.add_zero (cu ρ k pp j)] at hcu
                    exact ih_75 (j + 1) _ (by omega) (by omega) (by rw [hcu]) H locs ls (by rw [hlc]; exact hP) hS (lv_sub hl [2, 3, 4, 5, 6, 0] rfl)
            exact loop_75 ((high ρ k) + 1) (0) _ (by omega) (by omega) (by rfl) H locs ls (by rw [ldS_0]; exact hP) hS (lv_sub hl [3, 4, 5, 2, 1, 0] rfl)
      exact loop_57 (30 + 1) (0) (by omega) (by omega) H locs ls hP hS (lv_sub hl [2, 1, 0] rfl)
    · replace c_6 := cB_f.mp c_6
      refine lv_aload_n hx hb dX3_sail_20 rfl (lv_at hl 0 rfl) ?_
      refine lv_iconst (v := iI ((1 : Nat) : Int)) hx hb dX3_sail_21 (by decide) ?_
      refine fw_cVi (As := [.int (iI ((1 : Nat) : Int))]) (rest := []) ⟨hx, hb, hml, hown, hts⟩ (c_X3_fail l D cA z ad σ (((0 : Nat) : Int)) (((upS σ : Nat) : Int)) (((allS σ : Nat) : Int)) μ ((1 : Nat) : Int) hI) (cwV 1 hts gX3_sail_X3_fail rfl rfl rfl (by decide +kernel) ⟨Nat.le_of_ble_eq_true rfl, Nat.le_of_ble_eq_true rfl⟩) WM_10 rfl rfl hl.1 (Nat.le_of_ble_eq_true rfl) dX3_sail_22 ⟨Nat.le_of_ble_eq_true rfl, Nat.le_of_ble_eq_true rfl⟩ hK hP hS rfl (fun r w' H locs q_22 hP hS => ?_)
      obtain ⟨rfl, rfl⟩ := q_22
      subst hQ
      exact fw_iret hx hb hr hlocks dX3_sail_25 hP hS (Or.inr ⟨by rintro ⟨-, q⟩; exact absurd q (by assumption), rfl, _, _, rfl⟩)
