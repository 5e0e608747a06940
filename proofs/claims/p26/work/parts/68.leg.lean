/-! ===== a leg of the voyage, and the end ===== -/
theorem fp_gtl {σ : St} (hI : Inv σ) (h : 5 * allS σ < upS σ) : 0 < Op.cmpValue (FP.dcmp (hgt σ) 4617315517961601024) .l := by
  rw [(fp_steady hI).1.mpr h]
  decide
theorem adN18 {D : va_G} {cl : List vw_C} {z : Nat} {ad : fw_Ad} {cA : Nat → ClassId} {σ : St} {H : Heap} {ls : Array Slot} {b : Nat} {x2 x4 : Value} (hP : fw_P D cl z ad (WC cA ad σ nW) H) (hl : lv_has ls 17 [(0, .ref b), (1, .ref (ad 0 0)), (2, x2), (4, x4)]) : ∃ ad1 : fw_Ad, fw_P D cl z ad1 (WC cA ad1 σ nW) H ∧ lv_has ls 17 [(0, .ref b), (1, .ref (ad1 0 0)), (2, x2), (4, x4)] ∧ ad1 18 0 = H.size := by
  have e0 : (adU ad 18 0 H.size) 0 0 = ad 0 0 := adU_ne (by omega)
  have hc : ∀ b j, b ≤ 5 → (b = 5 → j < σ 8 0) → (adU ad 18 0 H.size) b j = ad b j := fun b j hb hj => adU_ne (fun q => by obtain ⟨q1, q2⟩ := q; omega)
  refine ⟨adU ad 18 0 H.size, ?_, ?_, adU_same _ _ _ _⟩
  · rw [WC_ad (cA := cA) (σ := σ) hc]
    exact fw_adU _ hP ((WC_r (by decide)).trans rfl)
  · rw [e0]; exact hl
set_option maxHeartbeats 4000000 in
set_option maxRecDepth 100000 in
theorem law_leg {p : Program} {l : Launch} {e : Env} {s : State} {m : MethodId} {args : Array Value} {below : List Frame} {meth : Method} {cd : Code} {Q : State → Prop} {D : va_G} {cA : Nat → ClassId} {sa : Nat → Nat} {b L z : Nat} {xs : Nat → Int32} {ad : fw_Ad} {σ : St} {lim leg cells slots : Nat} {H : Heap} {locs : List Loc} {ls : Array Slot} (X : LX p l s m args cd b L xs D cA sa z) (hI : Inv σ) (hSf : Safe σ lim) (hleg : σ 8 4 = leg) (h5 : leg < 5) (hro : cells + 17600 ≤ 623024 ∧ slots + 105600 ≤ 7232551) (hP : fw_P D vwCl z ad (WC cA ad σ nW) H) (hS : va_S (fw_A z) s.heap H locs) (hl : lv_has ls 17 [(0, .ref b), (1, .ref (ad 0 (0))), (2, .int (iI ((lim : Nat) : Int))), (4, .int (iI ((leg : Nat) : Int)))])
    (kend : ∀ pc : Nat, decode cL_law pc = .ok (.ireturn, 1) → ∀ (H : Heap) (locs : List Loc) (ls : Array Slot), va_S (fw_A z) s.heap H locs → W p l e room_1 s m args below meth cd H locs 623024 7232551 Q (F0 m pc ls [.int (iI ((1 : Nat) : Int))]))
    (kk : ∀ (ad : fw_Ad) (σ : St) (H : Heap) (locs : List Loc) (ls : Array Slot), Inv σ → Safe σ lim → σ 8 4 = leg + 1 → fw_P D vwCl z ad (WC cA ad σ nW) H → va_S (fw_A z) s.heap H locs → lv_has ls 17 [(0, .ref b), (1, .ref (ad 0 (0))), (2, .int (iI ((lim : Nat) : Int))), (4, .int (iI ((leg + 1 : Nat) : Int)))] → W p l e room_1 s m args below meth cd H locs (cells + 17600) (slots + 105600) Q (F0 m 139 ls [])) : W p l e room_1 s m args below meth cd H locs cells slots Q (F0 m 139 ls []) := by
  have X0 := X
  obtain ⟨hx, hb, hml, hown, hts, hX, hbl, hL, hK, hAO, hE, hl0, hz, hbz⟩ := X
  have h80 : σ 8 0 = 18 := hSf.1.1
  refine lv_iload hx hb dL_law_139 (lv_at hl 3 rfl) ?_
  refine lv_iconst (v := iI ((5 : Nat) : Int)) hx hb dL_law_141 (by decide) ?_
  refine fw_icmp_ge (x := ((leg : Nat) : Int)) (y := ((5 : Nat) : Int)) (tgt := 704) hx hb dL_law_142 (by decide) ⟨by omega, by omega⟩ ⟨by omega, by omega⟩ (fun c_1 => ?_) (fun c_1 => ?_)
  · exfalso; omega
  · refine lv_aload_n hx hb dL_law_145 rfl (lv_at hl 1 rfl) ?_
    refine lv_iconst (v := iI ((0 : Nat) : Int)) hx hb dL_law_146 (by decide) ?_
    refine fw_cVi (As := [.int (iI ((0 : Nat) : Int))]) (rest := []) ⟨hx, hb, hml, hown, hts⟩ (c_X2_count l D cA z ad σ nW false hI) (cwV 1 hts gL_law_X2_count rfl rfl rfl (by decide +kernel) ⟨Nat.le_of_ble_eq_true rfl, Nat.le_of_ble_eq_true rfl⟩) WC_0 rfl rfl hl.1 (Nat.le_of_ble_eq_true rfl) dL_law_147 ⟨show _ ≤ 623024 from by omega, show _ ≤ 7232551 from by omega⟩ hK hP hS rfl (fun r w' H locs q_2 hP hS => ?_)
    obtain ⟨rfl, rfl⟩ := q_2
    refine lv_istore (lv' := [(5, .int (iI ((cnt σ false : Nat) : Int))), (0, .ref b), (1, .ref (ad 0 (0))), (2, .int (iI ((lim : Nat) : Int))), (4, .int (iI ((leg : Nat) : Int)))]) hx hb dL_law_150 hl (by decide) rfl (fun ls hl => ?_)
    refine lv_aload_n hx hb dL_law_152 rfl (lv_at hl 2 rfl) ?_
    refine fw_cVi (As := []) (rest := []) ⟨hx, hb, hml, hown, hts⟩ (c_X2_plan l D cA z ad σ nW hI) (cwV 0 hts gL_law_X2_plan rfl rfl rfl (by decide +kernel) ⟨Nat.le_of_ble_eq_true rfl, Nat.le_of_ble_eq_true rfl⟩) WC_0 rfl rfl hl.1 (Nat.le_of_ble_eq_true rfl) dL_law_153 ⟨show _ ≤ 623024 from by omega, show _ ≤ 7232551 from by omega⟩ hK hP hS rfl (fun r w' H locs q_3 hP hS => ?_)
    obtain ⟨k1, he1, rfl, rfl⟩ := q_3
    have hI2 : Inv (itP σ k1) := (stepsP_inv hI he1.1).1
    have hk1 := stepsP_le hI he1.1
    have hch := ends_none he1
    obtain ⟨hSf2, h842, hon2⟩ := Safe_it hI hSf he1.1
    generalize itP σ k1 = τ at hP hI2 hSf2 h842 hon2 hch
    have h8 : τ 8 0 = 18 := hSf2.1.1
    have h82 : τ 8 2 = 1000 := hSf2.1.2.2.1
    have h83 : τ 8 3 = 1000 := hSf2.1.2.2.2
    have hch : ∀ c, c < 18 → choices τ c = 0 := fun c hc => hch c (by omega)
    have hleg2 : τ 8 4 = leg := by omega
    have hcn1 := cnt_on σ
    have hcn2 := cnt_on τ
    have hol1 := onN_le σ
    have hol2 := onN_le τ
    have hmo1 := mom_le hI2 false
    have hmo2 := mom_le hI2 true
    have hla := lifAt_le (σ := τ) (τ 8 4 + 1)
    refine lv_istore (lv' := [(6, .int (iI ((k1 : Nat) : Int))), (5, .int (iI ((cnt σ false : Nat) : Int))), (0, .ref b), (1, .ref (ad 0 (0))), (2, .int (iI ((lim : Nat) : Int))), (4, .int (iI ((leg : Nat) : Int)))]) hx hb dL_law_156 hl (by decide) rfl (fun ls hl => ?_)
    refine lv_aload_n hx hb dL_law_158 rfl (lv_at hl 3 rfl) ?_
    refine lv_iconst (v := iI ((0 : Nat) : Int)) hx hb dL_law_159 (by decide) ?_
    refine fw_cVi (As := [.int (iI ((0 : Nat) : Int))]) (rest := []) ⟨hx, hb, hml, hown, hts⟩ (c_X2_count l D cA z ad τ nW false hI2) (cwV 1 hts gL_law_X2_count rfl rfl rfl (by decide +kernel) ⟨Nat.le_of_ble_eq_true rfl, Nat.le_of_ble_eq_true rfl⟩) WC_0 rfl rfl hl.1 (Nat.le_of_ble_eq_true rfl) dL_law_160 ⟨show _ ≤ 623024 from by omega, show _ ≤ 7232551 from by omega⟩ hK hP hS rfl (fun r w' H locs q_4 hP hS => ?_)
    obtain ⟨rfl, rfl⟩ := q_4
    refine lv_iload hx hb dL_law_163 (lv_at hl 1 rfl) ?_
    refine lv_iload hx hb dL_law_165 (lv_at hl 0 rfl) ?_
    refine fw_iaddN (a := cnt σ false) (b := k1) hx hb dL_law_167 ?_
    refine fw_icmp_eq (x := ((cnt τ false : Nat) : Int)) (y := (((cnt σ false) + k1 : Nat) : Int)) (tgt := 173) hx hb dL_law_168 (by decide) ⟨by omega, by omega⟩ ⟨by omega, by omega⟩ (fun c_5 => ?_) (fun c_5 => ?_)
    · refine lv_iconst (v := iI ((0 : Nat) : Int)) hx hb dL_law_173 (by decide) ?_
      refine lv_istore (lv' := [(7, .int (iI ((0 : Nat) : Int))), (6, .int (iI ((k1 : Nat) : Int))), (5, .int (iI ((cnt σ false : Nat) : Int))), (0, .ref b), (1, .ref (ad 0 (0))), (2, .int (iI ((lim : Nat) : Int))), (4, .int (iI ((leg : Nat) : Int)))]) hx hb dL_law_174 hl (by decide) rfl (fun ls hl => ?_)
      refine W.widen (k := cells + 0) (n := slots + 0) (by omega) (by omega) ?_
      refine law_ch X0 hI2 hSf2 hch (C := cells + 100) (S9 := slots + 600) ⟨by omega, by omega⟩ (fun H locs ls hP hS hl => ?_) 19 0 (cells + 0) (slots + 0) H locs ls (by omega) (by omega) (by omega) (by omega) hP hS (lv_sub hl [3, 4, 5, 6, 0] rfl)
      refine lv_iconst (v := iI ((0 : Nat) : Int)) hx hb dL_law_200 (by decide) ?_
      refine lv_istore (lv' := [(7, .int (iI ((0 : Nat) : Int))), (0, .ref b), (1, .ref (ad 0 (0))), (2, .int (iI ((lim : Nat) : Int))), (4, .int (iI ((leg : Nat) : Int)))]) hx hb dL_law_201 hl (by decide) rfl (fun ls hl => ?_)
      refine lv_iconst (v := iI ((0 : Nat) : Int)) hx hb dL_law_203 (by decide) ?_
      refine lv_istore (lv' := [(8, .int (iI ((0 : Nat) : Int))), (7, .int (iI ((0 : Nat) : Int))), (0, .ref b), (1, .ref (ad 0 (0))), (2, .int (iI ((lim : Nat) : Int))), (4, .int (iI ((leg : Nat) : Int)))]) hx hb dL_law_204 hl (by decide) rfl (fun ls hl => ?_)
      refine lv_iconst (v := iI ((0 : Nat) : Int)) hx hb dL_law_206 (by decide) ?_
      refine lv_istore (lv' := [(9, .int (iI ((0 : Nat) : Int))), (8, .int (iI ((0 : Nat) : Int))), (7, .int (iI ((0 : Nat) : Int))), (0, .ref b), (1, .ref (ad 0 (0))), (2, .int (iI ((lim : Nat) : Int))), (4, .int (iI ((leg : Nat) : Int)))]) hx hb dL_law_207 hl (by decide) rfl (fun ls hl => ?_)
      have hl := lv_conv hl (l2 := [(9, .int (iI ((0 : Nat) : Int))), (8, .int (iI ((fnd τ 0 0 : Nat) : Int))), (7, .int (iI (lst τ 0 0))), (0, .ref b), (1, .ref (ad 0 (0))), (2, .int (iI ((lim : Nat) : Int))), (4, .int (iI ((leg : Nat) : Int)))]) (by rw [lst_0, fnd_0]; first | done | rfl)
      refine W.widen (k := cells + 100) (n := slots + 600) (by omega) (by omega) ?_
      refine law_k X0 hI2 hSf2 hleg2 (C := cells + 17460) (S9 := slots + 104760) ⟨by omega, by omega⟩ (fun H locs ls hP hS hl => ?_) 31 0 (cells + 100) (slots + 600) H locs ls (by omega) (by omega) (by omega) (by omega) hP hS (lv_sub hl [3, 4, 5, 6, 2, 1, 0] rfl)
      have hl := lv_conv hl (l2 := [(0, .ref b), (1, .ref (ad 0 (0))), (2, .int (iI ((lim : Nat) : Int))), (4, .int (iI ((leg : Nat) : Int))), (7, .int (iI (mom τ false))), (8, .int (iI ((onN τ : Nat) : Int))), (9, .int (iI ((30 : Nat) : Int)))]) (by rw [lst_end hI2, fnd_end hI2])
      refine lv_iload hx hb dL_law_510 (lv_at hl 5 rfl) ?_
      refine lv_aload_n hx hb dL_law_512 rfl (lv_at hl 1 rfl) ?_
      refine lv_iconst (v := iI ((0 : Nat) : Int)) hx hb dL_law_513 (by decide) ?_
      refine fw_cVi (As := [.int (iI ((0 : Nat) : Int))]) (rest := [.int (iI ((onN τ : Nat) : Int))]) ⟨hx, hb, hml, hown, hts⟩ (c_X2_count l D cA z ad τ nW false hI2) (cwV 1 hts gL_law_X2_count rfl rfl rfl (by decide +kernel) ⟨Nat.le_of_ble_eq_true rfl, Nat.le_of_ble_eq_true rfl⟩) WC_0 rfl rfl hl.1 (Nat.le_of_ble_eq_true rfl) dL_law_514 ⟨show _ ≤ 623024 from by omega, show _ ≤ 7232551 from by omega⟩ hK hP hS rfl (fun r w' H locs q_6 hP hS => ?_)
      obtain ⟨rfl, rfl⟩ := q_6
      refine fw_icmp_ne (x := ((onN τ : Nat) : Int)) (y := ((cnt τ false : Nat) : Int)) (tgt := 530) hx hb dL_law_517 (by decide) ⟨by omega, by omega⟩ ⟨by omega, by omega⟩ (fun c_7 => ?_) (fun c_7 => ?_)
      · exfalso; omega
      · refine lv_iload hx hb dL_law_520 (lv_at hl 4 rfl) ?_
        refine lv_aload_n hx hb dL_law_522 rfl (lv_at hl 1 rfl) ?_
        refine lv_iconst (v := iI ((0 : Nat) : Int)) hx hb dL_law_523 (by decide) ?_
        refine fw_cVi (As := [.int (iI ((0 : Nat) : Int))]) (rest := [.int (iI (mom τ false))]) ⟨hx, hb, hml, hown, hts⟩ (c_X2_moment l D cA z ad τ nW false hI2) (cwV 1 hts gL_law_X2_moment rfl rfl rfl (by decide +kernel) ⟨Nat.le_of_ble_eq_true rfl, Nat.le_of_ble_eq_true rfl⟩) WC_0 rfl rfl hl.1 (Nat.le_of_ble_eq_true rfl) dL_law_524 ⟨show _ ≤ 623024 from by omega, show _ ≤ 7232551 from by omega⟩ hK hP hS rfl (fun r w' H locs q_8 hP hS => ?_)
        obtain ⟨rfl, rfl⟩ := q_8
        refine fw_icmp_eq (x := (mom τ false)) (y := (mom τ false)) (tgt := 532) hx hb dL_law_527 (by decide) ⟨by omega, by omega⟩ ⟨by omega, by omega⟩ (fun c_9 => ?_) (fun c_9 => ?_)
        · refine lv_aload_n hx hb dL_law_532 rfl (lv_at hl 1 rfl) ?_
          refine fw_cVi (As := []) (rest := []) ⟨hx, hb, hml, hown, hts⟩ (c_X2_isSteady l D cA z ad τ nW hI2) (cwV 0 hts gL_law_X2_isSteady rfl rfl rfl (by decide +kernel) ⟨Nat.le_of_ble_eq_true rfl, Nat.le_of_ble_eq_true rfl⟩) WC_0 rfl rfl hl.1 (Nat.le_of_ble_eq_true rfl) dL_law_533 ⟨show _ ≤ 623024 from by omega, show _ ≤ 7232551 from by omega⟩ hK hP hS rfl (fun r w' H locs q_10 hP hS => ?_)
          obtain ⟨rfl, rfl⟩ := q_10
          refine fw_if_neB (x := cB (steady τ)) (tgt := 581) hx hb dL_law_536 (by decide) (fun c_11 => ?_) (fun c_11 => ?_)
          · replace c_11 := cB_t.mp c_11
            have hst := c_11
            have hl := lv_sub hl [0, 1, 2, 3] rfl
            have hl : lv_has ls 17 [(0, .ref b), (1, .ref (ad 0 (0))), (2, .int (iI ((lim : Nat) : Int))), (4, .int (iI ((leg : Nat) : Int)))] := hl
            obtain ⟨ad, hP, hl, hq18⟩ := adN18 hP hl
            refine lv_bipush (v := iI ((18 : Nat) : Int)) hx hb dL_law_581 (by decide) ?_
            have hs1 := hS.1
            refine fw_newa (a := 18) (i := 0) (N := 18) (ty := .int) (a0 := (18, .inl (fun _ => 0))) hx hb (hts (.arrayClass .int) (by decide +kernel)) rfl hK hP hS (by omega) 0 rfl id (fun _ => rfl) rfl (by decide) (by decide) ((WC_r (by decide)).trans rfl) hq18 (show _ ≤ 623024 from by omega) (show _ ≤ 7232551 from by omega) dL_law_583 (fun H hP hS hsz2 => ?_)
            have hP : fw_P D vwCl z ad (WC cA ad τ (sW cA (fun _ => 0))) H := by rw [WC_up (by decide)] at hP; exact hP
            refine lv_astore (lv' := [(9, .ref (ad 18 (0))), (0, .ref b), (1, .ref (ad 0 (0))), (2, .int (iI ((lim : Nat) : Int))), (4, .int (iI ((leg : Nat) : Int)))]) hx hb dL_law_585 hl (by decide) rfl (fun ls hl => ?_)
            refine lv_iconst (v := iI ((0 : Nat) : Int)) hx hb dL_law_587 (by decide) ?_
            refine lv_istore (lv' := [(10, .int (iI ((0 : Nat) : Int))), (9, .ref (ad 18 (0))), (0, .ref b), (1, .ref (ad 0 (0))), (2, .int (iI ((lim : Nat) : Int))), (4, .int (iI ((leg : Nat) : Int)))]) hx hb dL_law_588 hl (by decide) rfl (fun ls hl => ?_)
            refine W.widen (k := cells + 17461) (n := slots + 104778) (by omega) (by omega) ?_
            refine law_st X0 hI2 hSf2 (C := cells + 17500) (S9 := slots + 105000) ⟨by omega, by omega⟩ (fun f hf H locs ls hP hS hl => ?_) 19 0 (cells + 17461) (slots + 104778) (fun _ => 0) H locs ls (by omega) (by omega) (by omega) (by omega) (fun j hj => absurd hj (by omega)) hP hS (lv_sub hl [2, 3, 4, 5, 1, 0] rfl)
            refine lv_aload_n hx hb dL_law_615 rfl (lv_at hl 1 rfl) ?_
            refine lv_aload_n hx hb dL_law_616 rfl (lv_at hl 1 rfl) ?_
            refine fw_cVi (As := []) (rest := [.ref (ad 0 (0))]) ⟨hx, hb, hml, hown, hts⟩ (c_X2_port l D cA z ad τ ((sW cA f)) hI2) (cwV 0 hts gL_law_X2_port rfl rfl rfl (by decide +kernel) ⟨Nat.le_of_ble_eq_true rfl, Nat.le_of_ble_eq_true rfl⟩) WC_0 rfl rfl hl.1 (Nat.le_of_ble_eq_true rfl) dL_law_617 ⟨show _ ≤ 623024 from by omega, show _ ≤ 7232551 from by omega⟩ hK hP hS rfl (fun r w' H locs q_12 hP hS => ?_)
            obtain ⟨rfl, rfl⟩ := q_12
            refine lv_iconst (v := iI ((1 : Nat) : Int)) hx hb dL_law_620 (by decide) ?_
            refine fw_iaddN (a := τ 8 4) (b := 1) hx hb dL_law_621 ?_
            refine fn_cVi (As := [.int (iI (((τ 8 4) + 1 : Nat) : Int))]) (rest := []) ⟨hx, hb, hml, hown, hts⟩ (c_X2_lifts l hl0 D cA z ad sa τ ((sW cA f)) ((((τ 8 4) + 1 : Nat) : Int)) hI2 ⟨by omega, by omega⟩) (cwV 1 hts gL_law_X2_lifts rfl rfl rfl (by decide +kernel) ⟨Nat.le_of_ble_eq_true rfl, Nat.le_of_ble_eq_true rfl⟩) WC_0 rfl rfl hl.1 (Nat.le_of_ble_eq_true rfl) dL_law_622 ⟨show _ ≤ 623024 from by omega, show _ ≤ 7232551 from by omega⟩ hK hE hP hS rfl (fun E w' q => by obtain ⟨-, q, -⟩ := q; omega) (fun r w' H locs q_13 hP hS => ?_)
            obtain ⟨-, rfl, rfl⟩ := q_13
            refine fw_topI (b := ((lifAt τ ((τ 8 4) + 1) : Nat) : Int)) rfl ?_
            refine lv_istore (lv' := [(10, .int (iI ((lifAt τ ((τ 8 4) + 1) : Nat) : Int))), (0, .ref b), (1, .ref (ad 0 (0))), (2, .int (iI ((lim : Nat) : Int))), (4, .int (iI ((leg : Nat) : Int))), (9, .ref (ad 18 (0)))]) hx hb dL_law_625 hl (by decide) rfl (fun ls hl => ?_)
            refine lv_aload_n hx hb dL_law_627 rfl (lv_at hl 2 rfl) ?_
            refine fn_cVi (As := []) (rest := []) ⟨hx, hb, hml, hown, hts⟩ (c_X2_sail l hl0 D cA z ad sa τ ((sW cA f)) hI2) (cwV 0 hts gL_law_X2_sail rfl rfl rfl (by decide +kernel) ⟨Nat.le_of_ble_eq_true rfl, Nat.le_of_ble_eq_true rfl⟩) WC_0 rfl rfl hl.1 (Nat.le_of_ble_eq_true rfl) dL_law_628 ⟨show _ ≤ 623024 from by omega, show _ ≤ 7232551 from by omega⟩ hK hE hP hS rfl (fun E w' q => q.2.1 ⟨by omega, hst⟩) (fun r w' H locs q_14 hP hS => ?_)
            obtain ⟨-, rfl, rfl⟩ := q_14
            refine fw_topI (b := ((lifAt τ (τ 8 4 + 1) : Nat) : Int)) (by rw [lifAt_pt]) ?_
            refine lv_iload hx hb dL_law_631 (lv_at hl 0 rfl) ?_
            refine fw_icmp_eq (x := ((lifAt τ (τ 8 4 + 1) : Nat) : Int)) (y := ((lifAt τ ((τ 8 4) + 1) : Nat) : Int)) (tgt := 638) hx hb dL_law_633 (by decide) ⟨by omega, by omega⟩ ⟨by omega, by omega⟩ (fun c_15 => ?_) (fun c_15 => ?_)
            · refine lv_iconst (v := iI ((0 : Nat) : Int)) hx hb dL_law_638 (by decide) ?_
              refine lv_istore (lv' := [(11, .int (iI ((0 : Nat) : Int))), (10, .int (iI ((lifAt τ ((τ 8 4) + 1) : Nat) : Int))), (0, .ref b), (1, .ref (ad 0 (0))), (2, .int (iI ((lim : Nat) : Int))), (4, .int (iI ((leg : Nat) : Int))), (9, .ref (ad 18 (0)))]) hx hb dL_law_639 hl (by decide) rfl (fun ls hl => ?_)
              refine W.widen (k := cells + 17502) (n := slots + 105012) (by omega) (by omega) ?_
              refine law_ld X0 hI2 hSf2 (by omega) hf (C := cells + 17600) (S9 := slots + 105600) ⟨by omega, by omega⟩ (fun H locs ls hP hS hl => ?_) 19 0 (cells + 17502) (slots + 105012) H locs ls (by omega) (by omega) (by omega) (by omega) hP hS (lv_sub hl [2, 3, 4, 5, 6, 0] rfl)
              refine fw_iincN (x := leg) (lv' := [(4, .int (iI ((leg + 1 : Nat) : Int))), (0, .ref b), (1, .ref (ad 0 (0))), (2, .int (iI ((lim : Nat) : Int)))]) hx hb dL_law_698 hl (k := 3) rfl (by decide) rfl (fun ls hl => ?_)
              refine lv_goto (tgt := 139) hx hb dL_law_701 (by decide) ?_
              refine W.widen (k := cells + 17600) (n := slots + 105600) (by omega) (by omega) ?_
              exact kk ad (sailS τ) H locs ls (sailS_inv hI2 (by omega)) (Safe_sail hI2 hSf2 (by omega)) (by rw [sail_84]; omega) (fw_dropn hP) hS (lv_sub hl [1, 2, 3, 0] rfl)
            · exfalso; omega
          · replace c_11 := cB_f.mp c_11
            have hns := c_11
            refine lv_aload_n hx hb dL_law_539 rfl (lv_at hl 1 rfl) ?_
            refine fw_cVd (As := []) (rest := []) ⟨hx, hb, hml, hown, hts⟩ (c_X2_height l D cA z ad τ nW hI2) (cwV 0 hts gL_law_X2_height rfl rfl rfl (by decide +kernel) ⟨Nat.le_of_ble_eq_true rfl, Nat.le_of_ble_eq_true rfl⟩) WC_0 rfl rfl hl.1 (Nat.le_of_ble_eq_true rfl) dL_law_540 ⟨show _ ≤ 623024 from by omega, show _ ≤ 7232551 from by omega⟩ hK hP hS rfl (fun r w' H locs q_16 hP hS => ?_)
            obtain ⟨rfl, rfl⟩ := q_16
            refine lv_ldc2d (v := 4617315517961601024) hx hb hown (hts (.constantDouble RL 108 (4617315517961601024)) (by decide +kernel)) dL_law_543 ?_
            obtain ⟨v9, hv9, hv9a, hv9b⟩ := iI_ex (Op.cmpValue (FP.dcmp (hgt τ) 4617315517961601024) .l)
            refine lv_dcmp hx hb dL_law_546 ?_
            refine fw_top (v' := .int (iI v9)) (congrArg Value.int hv9) ?_
            have hv10 : 5 * allS τ < upS τ → 0 < v9 := fun q => by
              have q2 := fp_gtl hI2 q
              rw [hv9] at q2
              exact (iI_lt (a := 0) (b := v9) ⟨by omega, by omega⟩ ⟨hv9a, hv9b⟩).mp q2
            refine fw_if_gt (x := (v9)) (tgt := 575) hx hb dL_law_547 (by decide) ⟨by omega, by omega⟩ (fun c_17 => ?_) (fun c_17 => ?_)
            · refine lv_iconst (v := iI ((1 : Nat) : Int)) hx hb dL_law_575 (by decide) ?_
              refine lv_goto (tgt := 580) hx hb dL_law_576 (by decide) ?_
              refine W.widen (k := 623024) (n := 7232551) (by omega) (by omega) ?_
              exact kend 580 dL_law_580 H locs ls hS
            · refine lv_aload_n hx hb dL_law_550 rfl (lv_at hl 1 rfl) ?_
              refine lv_iconst (v := iI ((1 : Nat) : Int)) hx hb dL_law_551 (by decide) ?_
              refine fw_cVi (As := [.int (iI ((1 : Nat) : Int))]) (rest := []) ⟨hx, hb, hml, hown, hts⟩ (c_X2_moment l D cA z ad τ nW true hI2) (cwV 1 hts gL_law_X2_moment rfl rfl rfl (by decide +kernel) ⟨Nat.le_of_ble_eq_true rfl, Nat.le_of_ble_eq_true rfl⟩) WC_0 rfl rfl hl.1 (Nat.le_of_ble_eq_true rfl) dL_law_552 ⟨show _ ≤ 623024 from by omega, show _ ≤ 7232551 from by omega⟩ hK hP hS rfl (fun r w' H locs q_18 hP hS => ?_)
              obtain ⟨rfl, rfl⟩ := q_18
              refine fw_abs (x := (mom τ true)) hx hb (by rw [hml]; exact hl.1.symm) hown (hts (.methodLink RL 34 Lib.Math.abs.name) (by decide +kernel)) (hts (.static Lib.Math.abs.name) (by decide +kernel)) (hts (.initialized "java/lang/Math") (by decide +kernel)) (hts (.code Lib.Math.abs.name Lib.Math.abs.code 1 (some .int)) (by decide +kernel)) (Nat.le_of_ble_eq_true rfl) (Nat.le_of_ble_eq_true rfl) (show _ ≤ 623024 from by omega) (show _ ≤ 7232551 from by omega) ⟨by omega, by omega⟩ dL_law_555 ?_
              refine lv_sipush (v := iI ((1000 : Nat) : Int)) hx hb dL_law_558 (by decide) ?_
              refine fw_icmp_gt (x := ((Int.natAbs (mom τ true) : Nat) : Int)) (y := ((1000 : Nat) : Int)) (tgt := 575) hx hb dL_law_561 (by decide) ⟨by omega, by omega⟩ ⟨by omega, by omega⟩ (fun c_19 => ?_) (fun c_19 => ?_)
              · refine lv_iconst (v := iI ((1 : Nat) : Int)) hx hb dL_law_575 (by decide) ?_
                refine lv_goto (tgt := 580) hx hb dL_law_576 (by decide) ?_
                refine W.widen (k := 623024) (n := 7232551) (by omega) (by omega) ?_
                exact kend 580 dL_law_580 H locs ls hS
              · refine lv_iload hx hb dL_law_564 (lv_at hl 4 rfl) ?_
                refine fw_abs (x := (mom τ false)) hx hb (by rw [hml]; exact hl.1.symm) hown (hts (.methodLink RL 34 Lib.Math.abs.name) (by decide +kernel)) (hts (.static Lib.Math.abs.name) (by decide +kernel)) (hts (.initialized "java/lang/Math") (by decide +kernel)) (hts (.code Lib.Math.abs.name Lib.Math.abs.code 1 (some .int)) (by decide +kernel)) (Nat.le_of_ble_eq_true rfl) (Nat.le_of_ble_eq_true rfl) (show _ ≤ 623024 from by omega) (show _ ≤ 7232551 from by omega) ⟨by omega, by omega⟩ dL_law_566 ?_
                refine lv_sipush (v := iI ((1000 : Nat) : Int)) hx hb dL_law_569 (by decide) ?_
                refine fw_icmp_le (x := ((Int.natAbs (mom τ false) : Nat) : Int)) (y := ((1000 : Nat) : Int)) (tgt := 579) hx hb dL_law_572 (by decide) ⟨by omega, by omega⟩ ⟨by omega, by omega⟩ (fun c_20 => ?_) (fun c_20 => ?_)
                · exfalso; exact hns ⟨by omega, by omega, by omega⟩
                · refine lv_iconst (v := iI ((1 : Nat) : Int)) hx hb dL_law_575 (by decide) ?_
                  refine lv_goto (tgt := 580) hx hb dL_law_576 (by decide) ?_
                  refine W.widen (k := 623024) (n := 7232551) (by omega) (by omega) ?_
                  exact kend 580 dL_law_580 H locs ls hS
        · exfalso; omega
    · exfalso; omega

set_option maxHeartbeats 4000000 in
set_option maxRecDepth 100000 in
theorem law_end {p : Program} {l : Launch} {e : Env} {s : State} {m : MethodId} {args : Array Value} {below : List Frame} {meth : Method} {cd : Code} {Q : State → Prop} {D : va_G} {cA : Nat → ClassId} {sa : Nat → Nat} {b L z : Nat} {xs : Nat → Int32} {ad : fw_Ad} {σ : St} {lim cells slots : Nat} {H : Heap} {locs : List Loc} {ls : Array Slot} (X : LX p l s m args cd b L xs D cA sa z) (hI : Inv σ) (hSf : Safe σ lim) (hleg : σ 8 4 = 5) (hro : cells ≤ 623024 ∧ slots ≤ 7232551) (hP : fw_P D vwCl z ad (WC cA ad σ nW) H) (hS : va_S (fw_A z) s.heap H locs) (hl : lv_has ls 17 [(0, .ref b), (1, .ref (ad 0 (0))), (2, .int (iI ((lim : Nat) : Int))), (4, .int (iI ((5 : Nat) : Int)))])
    (kend : ∀ pc : Nat, decode cL_law pc = .ok (.ireturn, 1) → ∀ (H : Heap) (locs : List Loc) (ls : Array Slot), va_S (fw_A z) s.heap H locs → W p l e room_1 s m args below meth cd H locs 623024 7232551 Q (F0 m pc ls [.int (iI ((1 : Nat) : Int))])) : W p l e room_1 s m args below meth cd H locs cells slots Q (F0 m 139 ls []) := by
  have X0 := X
  obtain ⟨hx, hb, hml, hown, hts, hX, hbl, hL, hK, hAO, hE, hl0, hz, hbz⟩ := X
  have hcn := cnt_on σ
  have hon := Safe_end hI hSf hleg
  refine lv_iload hx hb dL_law_139 (lv_at hl 3 rfl) ?_
  refine lv_iconst (v := iI ((5 : Nat) : Int)) hx hb dL_law_141 (by decide) ?_
  refine fw_icmp_ge (x := ((5 : Nat) : Int)) (y := ((5 : Nat) : Int)) (tgt := 704) hx hb dL_law_142 (by decide) ⟨by omega, by omega⟩ ⟨by omega, by omega⟩ (fun c_1 => ?_) (fun c_1 => absurd c_1 (by decide))
  refine lv_aload_n hx hb dL_law_704 rfl (lv_at hl 1 rfl) ?_
  refine fw_cVi (As := []) (rest := []) ⟨hx, hb, hml, hown, hts⟩ (c_X2_port l D cA z ad σ nW hI) (cwV 0 hts gL_law_X2_port rfl rfl rfl (by decide +kernel) ⟨Nat.le_of_ble_eq_true rfl, Nat.le_of_ble_eq_true rfl⟩) WC_0 rfl rfl hl.1 (Nat.le_of_ble_eq_true rfl) dL_law_705 ⟨show _ ≤ 623024 from by omega, show _ ≤ 7232551 from by omega⟩ hK hP hS rfl (fun r w' H locs q_2 hP hS => ?_)
  obtain ⟨rfl, rfl⟩ := q_2
  refine lv_iconst (v := iI ((5 : Nat) : Int)) hx hb dL_law_708 (by decide) ?_
  refine fw_icmp_ne (x := ((σ 8 4 : Nat) : Int)) (y := ((5 : Nat) : Int)) (tgt := 724) hx hb dL_law_709 (by decide) ⟨by omega, by omega⟩ ⟨by omega, by omega⟩ (fun c_3 => ?_) (fun c_3 => ?_)
  · exfalso; omega
  · refine lv_aload_n hx hb dL_law_712 rfl (lv_at hl 1 rfl) ?_
    refine lv_iconst (v := iI ((0 : Nat) : Int)) hx hb dL_law_713 (by decide) ?_
    refine fw_cVi (As := [.int (iI ((0 : Nat) : Int))]) (rest := []) ⟨hx, hb, hml, hown, hts⟩ (c_X2_count l D cA z ad σ nW false hI) (cwV 1 hts gL_law_X2_count rfl rfl rfl (by decide +kernel) ⟨Nat.le_of_ble_eq_true rfl, Nat.le_of_ble_eq_true rfl⟩) WC_0 rfl rfl hl.1 (Nat.le_of_ble_eq_true rfl) dL_law_714 ⟨show _ ≤ 623024 from by omega, show _ ≤ 7232551 from by omega⟩ hK hP hS rfl (fun r w' H locs q_4 hP hS => ?_)
    obtain ⟨rfl, rfl⟩ := q_4
    refine fw_if_ne (x := ((cnt σ false : Nat) : Int)) (tgt := 724) hx hb dL_law_717 (by decide) ⟨by omega, by omega⟩ (fun c_5 => ?_) (fun c_5 => ?_)
    · exfalso; omega
    · refine lv_iconst (v := iI ((1 : Nat) : Int)) hx hb dL_law_720 (by decide) ?_
      refine lv_goto (tgt := 725) hx hb dL_law_721 (by decide) ?_
      refine W.widen (k := 623024) (n := 7232551) (by omega) (by omega) ?_
      exact kend 725 dL_law_725 H locs ls hS
set_option maxHeartbeats 4000000 in
set_option maxRecDepth 100000 in
theorem law_legs {p : Program} {l : Launch} {e : Env} {s : State} {m : MethodId} {args : Array Value} {below : List Frame} {meth : Method} {cd : Code} {Q : State → Prop} {D : va_G} {cA : Nat → ClassId} {sa : Nat → Nat} {b L z : Nat} {xs : Nat → Int32} {lim C S9 : Nat} (X : LX p l s m args cd b L xs D cA sa z) (hro : C ≤ 623024 ∧ S9 ≤ 7232551)
    (kend : ∀ pc : Nat, decode cL_law pc = .ok (.ireturn, 1) → ∀ (H : Heap) (locs : List Loc) (ls : Array Slot), va_S (fw_A z) s.heap H locs → W p l e room_1 s m args below meth cd H locs 623024 7232551 Q (F0 m pc ls [.int (iI ((1 : Nat) : Int))])) :
    ∀ (dd leg cells slots : Nat) (ad : fw_Ad) (σ : St) (H : Heap) (locs : List Loc) (ls : Array Slot), leg + dd = 5 → cells + 17600 * dd ≤ C → slots + 105600 * dd ≤ S9 → Inv σ → Safe σ lim → σ 8 4 = leg → fw_P D vwCl z ad (WC cA ad σ nW) H → va_S (fw_A z) s.heap H locs → lv_has ls 17 [(0, .ref b), (1, .ref (ad 0 (0))), (2, .int (iI ((lim : Nat) : Int))), (4, .int (iI ((leg : Nat) : Int)))] → W p l e room_1 s m args below meth cd H locs cells slots Q (F0 m 139 ls []) := by
  intro dd
  induction dd with
  | zero =>
    intro leg cells slots ad σ H locs ls hd hc hs hI hSf hleg hP hS hl
    have h5 : leg = 5 := by omega
    subst h5
    exact law_end X hI hSf hleg ⟨Nat.le_trans (by omega) hro.1, Nat.le_trans (by omega) hro.2⟩ hP hS hl kend
  | succ dd ih =>
    intro leg cells slots ad σ H locs ls hd hc hs hI hSf hleg hP hS hl
    have h5 : leg < 5 := by omega
    have hs2 : slots + 105600 ≤ slots + 105600 * (dd + 1) := Nat.add_le_add_left (Nat.le_mul_of_pos_right 105600 (Nat.succ_pos dd)) slots
    have hs3 : slots + 105600 + 105600 * dd ≤ S9 := by rw [Nat.mul_succ] at hs; rw [Nat.add_assoc, Nat.add_comm 105600]; exact hs
    have hr : cells + 17600 ≤ 623024 ∧ slots + 105600 ≤ 7232551 := ⟨Nat.le_trans (by omega) hro.1, Nat.le_trans (Nat.le_trans hs2 hs) hro.2⟩
    exact law_leg X hI hSf hleg h5 hr hP hS hl kend (fun ad σ H locs ls hI hSf hleg hP hS hl => ih (leg + 1) (cells + 17600) (slots + 105600) ad σ H locs ls (by omega) (by omega) hs3 hI hSf hleg hP hS hl)
