set_option maxHeartbeats 4000000 in
set_option maxRecDepth 100000 in
theorem arm_where {p : Program} {l : Launch} {e : Env} {s : State} {m : MethodId} {args : Array Value} {below : List Frame} {meth : Method} {cd : Code} {Q : State → Prop} {D : va_G} {cA : Nat → ClassId} {sa : Nat → Nat} {b L : Nat} {xs : Nat → Int32} {H : Heap} {locs : List Loc} {cells slots : Nat} {ls : Array Slot} {ad : fw_Ad} {σ : St} {th u a : Int} {f : Nat → Int64} {j : Nat} (X : LX p l s m args cd b L xs D cA sa) (hj : j + 5 ≤ L) (hI : Inv σ) (hP : fw_P D vwCl s.heap.size ad (WC cA ad σ (WM cA ad σ th u a (oW cA f))) H) (hS : va_S (fw_A s.heap.size) s.heap H locs) (hl : lv_has ls 9 [(0, .ref b), (1, .ref (ad 0 0)), (2, .ref (ad 10 0)), (3, .ref (ad 15 0)), (4, .int (iI ((j : Nat) : Int)))]) (hro : cells + 3 ≤ 658709 ∧ slots + 20 ≤ 7119977) (hlocks : meth.locks = false)
    (kk : ∀ (σ : St) (ad : fw_Ad) (th u a : Int) (f : Nat → Int64) (H : Heap) (locs : List Loc) (ls : Array Slot), Inv σ → fw_P D vwCl s.heap.size ad (WC cA ad σ (WM cA ad σ th u a (oW cA f))) H → va_S (fw_A s.heap.size) s.heap H locs → lv_has ls 9 [(0, .ref b), (1, .ref (ad 0 0)), (2, .ref (ad 10 0)), (3, .ref (ad 15 0)), (4, .int (iI ((j : Nat) : Int)))] → W p l e room_1 s m args below meth cd H locs (cells + 3) (slots + 20) Q (F0 m 1285 ls [])) : W p l e room_1 s m args below meth cd H locs cells slots Q (F0 m 872 ls []) := by
  obtain ⟨hx, hb, hml, hown, hts, hX, hbl, hL, hK, hAO, hE, hl0⟩ := X
  generalize hz : s.heap.size = z at hP hS kk hE
  refine lv_aload_n hx hb dL_law_872 rfl (lv_at hl 1 rfl) ?_
  refine lv_aload_n hx hb dL_law_873 rfl (lv_at hl 0 rfl) ?_
  refine lv_iload hx hb dL_law_874 (lv_at hl 4 rfl) ?_
  refine lv_iconst (v := iI ((1 : Nat) : Int)) hx hb dL_law_876 (by decide) ?_
  refine fw_iaddN (a := j) (b := 1) hx hb dL_law_877 ?_
  obtain ⟨v_1, hv_1, hv_1a, hv_1b⟩ := iI_ex (xs (j + 1))
  refine ls_ldv (j := j + 1) (v := iI v_1) hv_1 hx hb hX hbl (by rw [hz]; exact hS) (by omega) hL dL_law_878 ?_
  refine lv_aload_n hx hb dL_law_879 rfl (lv_at hl 3 rfl) ?_
  refine fh_cSi (As := [.ref (ad 0 (0)), .int (iI (v_1)), .ref (ad 15 (0))]) (rest := []) ⟨hx, hb, hml, hown, hts⟩ (c_L_where l hl0 D cA z ad sa σ (WM cA ad σ th u a (oW cA f)) f ((v_1)) hI (oW_15 cA _) ⟨by omega, by omega⟩) (vx_cwSW 3 hts gL_law_L_where rfl rfl rfl (by decide +kernel) ⟨Nat.le_of_ble_eq_true rfl, Nat.le_of_ble_eq_true rfl⟩) rfl hl.1 (Nat.le_of_ble_eq_true rfl) dL_law_880 ⟨show _ ≤ 658709 from by omega, show _ ≤ 7119977 from by omega⟩ hK hE hP hS rfl (fun r w' H locs q_2 hP hS => ?_)
  rcases q_2 with ⟨hok, rfl, rfl⟩ | ⟨hbad, rfl, rfl⟩
  · rw [oU_W] at hP
    refine lv_istore (lv' := [(5, .int (iI (0))), (0, .ref b), (1, .ref (ad 0 (0))), (2, .ref (ad 10 (0))), (3, .ref (ad 15 (0))), (4, .int (iI ((j : Nat) : Int)))]) hx hb dL_law_883 hl (by decide) rfl (fun ls hl => ?_)
    refine lv_aload_n hx hb dL_law_885 rfl (lv_at hl 3 rfl) ?_
    refine lv_aload_n hx hb dL_law_886 rfl (lv_at hl 1 rfl) ?_
    refine lv_iload hx hb dL_law_887 (lv_at hl 5 rfl) ?_
    refine lv_iconst (v := iI ((1 : Nat) : Int)) hx hb dL_law_889 (by decide) ?_
    refine fw_iaddN (a := j) (b := 1) hx hb dL_law_890 ?_
    refine ls_ldv (j := j + 1) (v := iI v_1) hv_1 hx hb hX hbl (by rw [hz]; exact hS) (by omega) hL dL_law_891 ?_
    rw [WCM] at hP
    refine fw_cVi (As := [.int (iI (v_1))]) (rest := []) ⟨hx, hb, hml, hown, hts⟩ (c_X3_where l D cA z ad σ th u a ((WC cA ad σ (oW cA (vp_updL f 0 ((iI (plc σ (Int.toNat v_1))).toInt64))))) ((v_1)) hI ⟨by omega, by omega⟩) (cwV 1 hts gL_law_X3_where rfl rfl rfl (by decide +kernel) ⟨Nat.le_of_ble_eq_true rfl, Nat.le_of_ble_eq_true rfl⟩) WM_10 rfl rfl hl.1 (Nat.le_of_ble_eq_true rfl) dL_law_892 ⟨show _ ≤ 658709 from by omega, show _ ≤ 7119977 from by omega⟩ hK hP hS rfl (fun r w' H locs q_3 hP hS => ?_)
    rcases q_3 with ⟨hok2, rfl, rfl⟩ | ⟨hbad2, rfl, rfl⟩
    · rw [← WCM] at hP
      refine lv_istore (lv' := [(6, .int (iI (plc σ (Int.toNat v_1)))), (5, .int (iI (0))), (0, .ref b), (1, .ref (ad 0 (0))), (2, .ref (ad 10 (0))), (3, .ref (ad 15 (0))), (4, .int (iI ((j : Nat) : Int)))]) hx hb dL_law_895 hl (by decide) rfl (fun ls hl => ?_)
      refine lv_aload_n hx hb dL_law_897 rfl (lv_at hl 4 rfl) ?_
      rw [WCM] at hP
      refine fw_cVi (As := []) (rest := []) ⟨hx, hb, hml, hown, hts⟩ (c_X3_thrown l D cA z ad σ (((0 : Nat) : Int)) u a ((WC cA ad σ (oW cA (vp_updL f 0 ((iI (plc σ (Int.toNat v_1))).toInt64)))))  hI) (cwV 0 hts gL_law_X3_thrown rfl rfl rfl (by decide +kernel) ⟨Nat.le_of_ble_eq_true rfl, Nat.le_of_ble_eq_true rfl⟩) WM_10 rfl rfl hl.1 (Nat.le_of_ble_eq_true rfl) dL_law_898 ⟨show _ ≤ 658709 from by omega, show _ ≤ 7119977 from by omega⟩ hK hP hS rfl (fun r w' H locs q_4 hP hS => ?_)
      obtain ⟨rfl, rfl⟩ := q_4
      have hn_5 := hI.n
      have hm_6 := hI.lim
      rw [← WCM] at hP
      refine lv_iload hx hb dL_law_901 (lv_at hl 1 rfl) ?_
      refine lw_same (tgt := 908) hx hb dL_law_903 (by decide) ?_
      refine lv_iload hx hb dL_law_908 (lv_at hl 1 rfl) ?_
      refine fw_if_ne (x := (0)) (tgt := 925) hx hb dL_law_910 (by decide) ⟨by omega, by omega⟩ (fun c_7 => absurd c_7 (by decide)) (fun c_7 => ?_)
      refine lv_aload_n hx hb dL_law_913 rfl (lv_at hl 5 rfl) ?_
      refine lv_iconst (v := iI ((0 : Nat) : Int)) hx hb dL_law_914 (by decide) ?_
      refine lw_ld0 (x := (iI (plc σ (Int.toNat v_1))).toInt64) hx hb hK hP ((WC_r (by decide)).trans (oW_15 cA _)) 4 rfl dL_law_915 ?_
      refine lv_iload hx hb dL_law_916 (lv_at hl 0 rfl) ?_
      refine lv_i2l (v := (iI ((plc σ (Int.toNat v_1)))).toInt64) hx hb dL_law_918 rfl ?_
      refine W.lcmp hx hb dL_law_919 ?_
      refine fw_top (v' := .int (iI 0)) (by rw [lg_cmp_self]) ?_
      refine fw_if_eq (x := (0)) (tgt := 925) hx hb dL_law_920 (by decide) ⟨by omega, by omega⟩ (fun c_8 => ?_) (fun c_8 => absurd c_8 (by decide))
      refine lv_goto (tgt := 1285) hx hb dL_law_925 (by decide) ?_
      refine W.widen (k := cells + 3) (n := slots + 20) (by omega) (by omega) ?_
      exact kk σ ad (((0 : Nat) : Int)) u a (vp_updL f 0 ((iI (plc σ (Int.toNat v_1))).toInt64)) H locs ls hI hP hS (lv_sub hl [2, 3, 4, 5, 6] rfl)
    · exfalso; omega
  · have hP := hP
    refine lv_istore (lv' := [(5, .int (iI (1))), (0, .ref b), (1, .ref (ad 0 (0))), (2, .ref (ad 10 (0))), (3, .ref (ad 15 (0))), (4, .int (iI ((j : Nat) : Int)))]) hx hb dL_law_883 hl (by decide) rfl (fun ls hl => ?_)
    refine lv_aload_n hx hb dL_law_885 rfl (lv_at hl 3 rfl) ?_
    refine lv_aload_n hx hb dL_law_886 rfl (lv_at hl 1 rfl) ?_
    refine lv_iload hx hb dL_law_887 (lv_at hl 5 rfl) ?_
    refine lv_iconst (v := iI ((1 : Nat) : Int)) hx hb dL_law_889 (by decide) ?_
    refine fw_iaddN (a := j) (b := 1) hx hb dL_law_890 ?_
    refine ls_ldv (j := j + 1) (v := iI v_1) hv_1 hx hb hX hbl (by rw [hz]; exact hS) (by omega) hL dL_law_891 ?_
    rw [WCM] at hP
    refine fw_cVi (As := [.int (iI (v_1))]) (rest := []) ⟨hx, hb, hml, hown, hts⟩ (c_X3_where l D cA z ad σ th u a ((WC cA ad σ (oW cA f))) ((v_1)) hI ⟨by omega, by omega⟩) (cwV 1 hts gL_law_X3_where rfl rfl rfl (by decide +kernel) ⟨Nat.le_of_ble_eq_true rfl, Nat.le_of_ble_eq_true rfl⟩) WM_10 rfl rfl hl.1 (Nat.le_of_ble_eq_true rfl) dL_law_892 ⟨show _ ≤ 658709 from by omega, show _ ≤ 7119977 from by omega⟩ hK hP hS rfl (fun r w' H locs q_9 hP hS => ?_)
    rcases q_9 with ⟨hok2, rfl, rfl⟩ | ⟨hbad2, rfl, rfl⟩
    · exfalso; omega
    · rw [← WCM] at hP
      refine lv_istore (lv' := [(6, .int (iI (0))), (5, .int (iI (1))), (0, .ref b), (1, .ref (ad 0 (0))), (2, .ref (ad 10 (0))), (3, .ref (ad 15 (0))), (4, .int (iI ((j : Nat) : Int)))]) hx hb dL_law_895 hl (by decide) rfl (fun ls hl => ?_)
      refine lv_aload_n hx hb dL_law_897 rfl (lv_at hl 4 rfl) ?_
      rw [WCM] at hP
      refine fw_cVi (As := []) (rest := []) ⟨hx, hb, hml, hown, hts⟩ (c_X3_thrown l D cA z ad σ (((1 : Nat) : Int)) u a ((WC cA ad σ (oW cA f)))  hI) (cwV 0 hts gL_law_X3_thrown rfl rfl rfl (by decide +kernel) ⟨Nat.le_of_ble_eq_true rfl, Nat.le_of_ble_eq_true rfl⟩) WM_10 rfl rfl hl.1 (Nat.le_of_ble_eq_true rfl) dL_law_898 ⟨show _ ≤ 658709 from by omega, show _ ≤ 7119977 from by omega⟩ hK hP hS rfl (fun r w' H locs q_10 hP hS => ?_)
      obtain ⟨rfl, rfl⟩ := q_10
      have hn_11 := hI.n
      have hm_12 := hI.lim
      rw [← WCM] at hP
      refine lv_iload hx hb dL_law_901 (lv_at hl 1 rfl) ?_
      refine lw_same (tgt := 908) hx hb dL_law_903 (by decide) ?_
      refine lv_iload hx hb dL_law_908 (lv_at hl 1 rfl) ?_
      refine fw_if_ne (x := (1)) (tgt := 925) hx hb dL_law_910 (by decide) ⟨by omega, by omega⟩ (fun c_13 => ?_) (fun c_13 => absurd c_13 (by decide))
      refine lv_goto (tgt := 1285) hx hb dL_law_925 (by decide) ?_
      refine W.widen (k := cells + 3) (n := slots + 20) (by omega) (by omega) ?_
      exact kk σ ad (((1 : Nat) : Int)) u a f H locs ls hI hP hS (lv_sub hl [2, 3, 4, 5, 6] rfl)

set_option maxHeartbeats 4000000 in
set_option maxRecDepth 100000 in
theorem arm_container {p : Program} {l : Launch} {e : Env} {s : State} {m : MethodId} {args : Array Value} {below : List Frame} {meth : Method} {cd : Code} {Q : State → Prop} {D : va_G} {cA : Nat → ClassId} {sa : Nat → Nat} {b L : Nat} {xs : Nat → Int32} {H : Heap} {locs : List Loc} {cells slots : Nat} {ls : Array Slot} {ad : fw_Ad} {σ : St} {th u a : Int} {f : Nat → Int64} {j : Nat} (X : LX p l s m args cd b L xs D cA sa) (hj : j + 5 ≤ L) (hI : Inv σ) (hP : fw_P D vwCl s.heap.size ad (WC cA ad σ (WM cA ad σ th u a (oW cA f))) H) (hS : va_S (fw_A s.heap.size) s.heap H locs) (hl : lv_has ls 9 [(0, .ref b), (1, .ref (ad 0 0)), (2, .ref (ad 10 0)), (3, .ref (ad 15 0)), (4, .int (iI ((j : Nat) : Int)))]) (hro : cells + 3 ≤ 658709 ∧ slots + 20 ≤ 7119977) (hlocks : meth.locks = false)
    (kk : ∀ (σ : St) (ad : fw_Ad) (th u a : Int) (f : Nat → Int64) (H : Heap) (locs : List Loc) (ls : Array Slot), Inv σ → fw_P D vwCl s.heap.size ad (WC cA ad σ (WM cA ad σ th u a (oW cA f))) H → va_S (fw_A s.heap.size) s.heap H locs → lv_has ls 9 [(0, .ref b), (1, .ref (ad 0 0)), (2, .ref (ad 10 0)), (3, .ref (ad 15 0)), (4, .int (iI ((j : Nat) : Int)))] → W p l e room_1 s m args below meth cd H locs (cells + 3) (slots + 20) Q (F0 m 1285 ls [])) : W p l e room_1 s m args below meth cd H locs cells slots Q (F0 m 236 ls []) := by
  obtain ⟨hx, hb, hml, hown, hts, hX, hbl, hL, hK, hAO, hE, hl0⟩ := X
  generalize hz : s.heap.size = z at hP hS kk hE
  refine lv_aload_n hx hb dL_law_236 rfl (lv_at hl 1 rfl) ?_
  refine lv_aload_n hx hb dL_law_237 rfl (lv_at hl 0 rfl) ?_
  refine lv_iload hx hb dL_law_238 (lv_at hl 4 rfl) ?_
  refine lv_iconst (v := iI ((1 : Nat) : Int)) hx hb dL_law_240 (by decide) ?_
  refine fw_iaddN (a := j) (b := 1) hx hb dL_law_241 ?_
  obtain ⟨v_1, hv_1, hv_1a, hv_1b⟩ := iI_ex (xs (j + 1))
  refine ls_ldv (j := j + 1) (v := iI v_1) hv_1 hx hb hX hbl (by rw [hz]; exact hS) (by omega) hL dL_law_242 ?_
  refine lv_aload_n hx hb dL_law_243 rfl (lv_at hl 0 rfl) ?_
  refine lv_iload hx hb dL_law_244 (lv_at hl 4 rfl) ?_
  refine lv_iconst (v := iI ((2 : Nat) : Int)) hx hb dL_law_246 (by decide) ?_
  refine fw_iaddN (a := j) (b := 2) hx hb dL_law_247 ?_
  obtain ⟨v_2, hv_2, hv_2a, hv_2b⟩ := iI_ex (xs (j + 2))
  refine ls_ldv (j := j + 2) (v := iI v_2) hv_2 hx hb hX hbl (by rw [hz]; exact hS) (by omega) hL dL_law_248 ?_
  refine lv_aload_n hx hb dL_law_249 rfl (lv_at hl 3 rfl) ?_
  refine fh_cSi (As := [.ref (ad 0 (0)), .int (iI (v_1)), .int (iI (v_2)), .ref (ad 15 (0))]) (rest := []) ⟨hx, hb, hml, hown, hts⟩ (c_L_container l hl0 D cA z ad sa σ (WM cA ad σ th u a (oW cA f)) f ((v_1)) ((v_2)) hI (oW_15 cA _) ⟨by omega, by omega⟩ ⟨by omega, by omega⟩) (vx_cwSW 4 hts gL_law_L_container rfl rfl rfl (by decide +kernel) ⟨Nat.le_of_ble_eq_true rfl, Nat.le_of_ble_eq_true rfl⟩) rfl hl.1 (Nat.le_of_ble_eq_true rfl) dL_law_250 ⟨show _ ≤ 658709 from by omega, show _ ≤ 7119977 from by omega⟩ hK hE hP hS rfl (fun r w' H locs q_3 hP hS => ?_)
  rcases q_3 with ⟨hok, rfl, rfl⟩ | ⟨hbad, rfl, rfl⟩
  · rw [oU_W] at hP
    refine lv_istore (lv' := [(5, .int (iI (0))), (0, .ref b), (1, .ref (ad 0 (0))), (2, .ref (ad 10 (0))), (3, .ref (ad 15 (0))), (4, .int (iI ((j : Nat) : Int)))]) hx hb dL_law_253 hl (by decide) rfl (fun ls hl => ?_)
    refine lv_aload_n hx hb dL_law_255 rfl (lv_at hl 3 rfl) ?_
    refine lv_aload_n hx hb dL_law_256 rfl (lv_at hl 1 rfl) ?_
    refine lv_iload hx hb dL_law_257 (lv_at hl 5 rfl) ?_
    refine lv_iconst (v := iI ((1 : Nat) : Int)) hx hb dL_law_259 (by decide) ?_
    refine fw_iaddN (a := j) (b := 1) hx hb dL_law_260 ?_
    refine ls_ldv (j := j + 1) (v := iI v_1) hv_1 hx hb hX hbl (by rw [hz]; exact hS) (by omega) hL dL_law_261 ?_
    refine lv_aload_n hx hb dL_law_262 rfl (lv_at hl 1 rfl) ?_
    refine lv_iload hx hb dL_law_263 (lv_at hl 5 rfl) ?_
    refine lv_iconst (v := iI ((2 : Nat) : Int)) hx hb dL_law_265 (by decide) ?_
    refine fw_iaddN (a := j) (b := 2) hx hb dL_law_266 ?_
    refine ls_ldv (j := j + 2) (v := iI v_2) hv_2 hx hb hX hbl (by rw [hz]; exact hS) (by omega) hL dL_law_267 ?_
    rw [WCM] at hP
    refine fw_cVi (As := [.int (iI (v_1)), .int (iI (v_2))]) (rest := []) ⟨hx, hb, hml, hown, hts⟩ (c_X3_container l D cA z ad σ th u a ((WC cA ad σ (oW cA (vp_updL f 0 ((iI ((σ (Int.toNat v_2) (Int.toNat v_1) : Nat) : Int)).toInt64))))) ((v_1)) ((v_2)) hI ⟨by omega, by omega⟩ ⟨by omega, by omega⟩) (cwV 2 hts gL_law_X3_container rfl rfl rfl (by decide +kernel) ⟨Nat.le_of_ble_eq_true rfl, Nat.le_of_ble_eq_true rfl⟩) WM_10 rfl rfl hl.1 (Nat.le_of_ble_eq_true rfl) dL_law_268 ⟨show _ ≤ 658709 from by omega, show _ ≤ 7119977 from by omega⟩ hK hP hS rfl (fun r w' H locs q_4 hP hS => ?_)
    rcases q_4 with ⟨hok2, rfl, rfl⟩ | ⟨hbad2, rfl, rfl⟩
    · rw [← WCM] at hP
      refine lv_istore (lv' := [(6, .int (iI ((σ (Int.toNat v_2) (Int.toNat v_1) : Nat) : Int))), (5, .int (iI (0))), (0, .ref b), (1, .ref (ad 0 (0))), (2, .ref (ad 10 (0))), (3, .ref (ad 15 (0))), (4, .int (iI ((j : Nat) : Int)))]) hx hb dL_law_271 hl (by decide) rfl (fun ls hl => ?_)
      refine lv_aload_n hx hb dL_law_273 rfl (lv_at hl 4 rfl) ?_
      rw [WCM] at hP
      refine fw_cVi (As := []) (rest := []) ⟨hx, hb, hml, hown, hts⟩ (c_X3_thrown l D cA z ad σ (((0 : Nat) : Int)) u a ((WC cA ad σ (oW cA (vp_updL f 0 ((iI ((σ (Int.toNat v_2) (Int.toNat v_1) : Nat) : Int)).toInt64)))))  hI) (cwV 0 hts gL_law_X3_thrown rfl rfl rfl (by decide +kernel) ⟨Nat.le_of_ble_eq_true rfl, Nat.le_of_ble_eq_true rfl⟩) WM_10 rfl rfl hl.1 (Nat.le_of_ble_eq_true rfl) dL_law_274 ⟨show _ ≤ 658709 from by omega, show _ ≤ 7119977 from by omega⟩ hK hP hS rfl (fun r w' H locs q_5 hP hS => ?_)
      obtain ⟨rfl, rfl⟩ := q_5
      have hn_6 := hI.n
      have hm_7 := hI.lim
      rw [← WCM] at hP
      refine lv_iload hx hb dL_law_277 (lv_at hl 1 rfl) ?_
      refine lw_same (tgt := 284) hx hb dL_law_279 (by decide) ?_
      refine lv_iload hx hb dL_law_284 (lv_at hl 1 rfl) ?_
      refine fw_if_ne (x := (0)) (tgt := 301) hx hb dL_law_286 (by decide) ⟨by omega, by omega⟩ (fun c_8 => absurd c_8 (by decide)) (fun c_8 => ?_)
      refine lv_aload_n hx hb dL_law_289 rfl (lv_at hl 5 rfl) ?_
      refine lv_iconst (v := iI ((0 : Nat) : Int)) hx hb dL_law_290 (by decide) ?_
      refine lw_ld0 (x := (iI ((σ (Int.toNat v_2) (Int.toNat v_1) : Nat) : Int)).toInt64) hx hb hK hP ((WC_r (by decide)).trans (oW_15 cA _)) 4 rfl dL_law_291 ?_
      refine lv_iload hx hb dL_law_292 (lv_at hl 0 rfl) ?_
      refine lv_i2l (v := (iI (((σ (Int.toNat v_2) (Int.toNat v_1) : Nat) : Int))).toInt64) hx hb dL_law_294 rfl ?_
      refine W.lcmp hx hb dL_law_295 ?_
      refine fw_top (v' := .int (iI 0)) (by rw [lg_cmp_self]) ?_
      refine fw_if_eq (x := (0)) (tgt := 301) hx hb dL_law_296 (by decide) ⟨by omega, by omega⟩ (fun c_9 => ?_) (fun c_9 => absurd c_9 (by decide))
      refine lv_goto (tgt := 1285) hx hb dL_law_301 (by decide) ?_
      refine W.widen (k := cells + 3) (n := slots + 20) (by omega) (by omega) ?_
      exact kk σ ad (((0 : Nat) : Int)) u a (vp_updL f 0 ((iI ((σ (Int.toNat v_2) (Int.toNat v_1) : Nat) : Int)).toInt64)) H locs ls hI hP hS (lv_sub hl [2, 3, 4, 5, 6] rfl)
    · exfalso; omega
  · have hP := hP
    refine lv_istore (lv' := [(5, .int (iI (1))), (0, .ref b), (1, .ref (ad 0 (0))), (2, .ref (ad 10 (0))), (3, .ref (ad 15 (0))), (4, .int (iI ((j : Nat) : Int)))]) hx hb dL_law_253 hl (by decide) rfl (fun ls hl => ?_)
    refine lv_aload_n hx hb dL_law_255 rfl (lv_at hl 3 rfl) ?_
    refine lv_aload_n hx hb dL_law_256 rfl (lv_at hl 1 rfl) ?_
    refine lv_iload hx hb dL_law_257 (lv_at hl 5 rfl) ?_
    refine lv_iconst (v := iI ((1 : Nat) : Int)) hx hb dL_law_259 (by decide) ?_
    refine fw_iaddN (a := j) (b := 1) hx hb dL_law_260 ?_
    refine ls_ldv (j := j + 1) (v := iI v_1) hv_1 hx hb hX hbl (by rw [hz]; exact hS) (by omega) hL dL_law_261 ?_
    refine lv_aload_n hx hb dL_law_262 rfl (lv_at hl 1 rfl) ?_
    refine lv_iload hx hb dL_law_263 (lv_at hl 5 rfl) ?_
    refine lv_iconst (v := iI ((2 : Nat) : Int)) hx hb dL_law_265 (by decide) ?_
    refine fw_iaddN (a := j) (b := 2) hx hb dL_law_266 ?_
    refine ls_ldv (j := j + 2) (v := iI v_2) hv_2 hx hb hX hbl (by rw [hz]; exact hS) (by omega) hL dL_law_267 ?_
    rw [WCM] at hP
    refine fw_cVi (As := [.int (iI (v_1)), .int (iI (v_2))]) (rest := []) ⟨hx, hb, hml, hown, hts⟩ (c_X3_container l D cA z ad σ th u a ((WC cA ad σ (oW cA f))) ((v_1)) ((v_2)) hI ⟨by omega, by omega⟩ ⟨by omega, by omega⟩) (cwV 2 hts gL_law_X3_container rfl rfl rfl (by decide +kernel) ⟨Nat.le_of_ble_eq_true rfl, Nat.le_of_ble_eq_true rfl⟩) WM_10 rfl rfl hl.1 (Nat.le_of_ble_eq_true rfl) dL_law_268 ⟨show _ ≤ 658709 from by omega, show _ ≤ 7119977 from by omega⟩ hK hP hS rfl (fun r w' H locs q_10 hP hS => ?_)
    rcases q_10 with ⟨hok2, rfl, rfl⟩ | ⟨hbad2, rfl, rfl⟩
    · exfalso; omega
    · rw [← WCM] at hP
      refine lv_istore (lv' := [(6, .int (iI (0))), (5, .int (iI (1))), (0, .ref b), (1, .ref (ad 0 (0))), (2, .ref (ad 10 (0))), (3, .ref (ad 15 (0))), (4, .int (iI ((j : Nat) : Int)))]) hx hb dL_law_271 hl (by decide) rfl (fun ls hl => ?_)
      refine lv_aload_n hx hb dL_law_273 rfl (lv_at hl 4 rfl) ?_
      rw [WCM] at hP
      refine fw_cVi (As := []) (rest := []) ⟨hx, hb, hml, hown, hts⟩ (c_X3_thrown l D cA z ad σ (((1 : Nat) : Int)) u a ((WC cA ad σ (oW cA f)))  hI) (cwV 0 hts gL_law_X3_thrown rfl rfl rfl (by decide +kernel) ⟨Nat.le_of_ble_eq_true rfl, Nat.le_of_ble_eq_true rfl⟩) WM_10 rfl rfl hl.1 (Nat.le_of_ble_eq_true rfl) dL_law_274 ⟨show _ ≤ 658709 from by omega, show _ ≤ 7119977 from by omega⟩ hK hP hS rfl (fun r w' H locs q_11 hP hS => ?_)
      obtain ⟨rfl, rfl⟩ := q_11
      have hn_12 := hI.n
      have hm_13 := hI.lim
      rw [← WCM] at hP
      refine lv_iload hx hb dL_law_277 (lv_at hl 1 rfl) ?_
      refine lw_same (tgt := 284) hx hb dL_law_279 (by decide) ?_
      refine lv_iload hx hb dL_law_284 (lv_at hl 1 rfl) ?_
      refine fw_if_ne (x := (1)) (tgt := 301) hx hb dL_law_286 (by decide) ⟨by omega, by omega⟩ (fun c_14 => ?_) (fun c_14 => absurd c_14 (by decide))
      refine lv_goto (tgt := 1285) hx hb dL_law_301 (by decide) ?_
      refine W.widen (k := cells + 3) (n := slots + 20) (by omega) (by omega) ?_
      exact kk σ ad (((1 : Nat) : Int)) u a f H locs ls hI hP hS (lv_sub hl [2, 3, 4, 5, 6] rfl)

set_option maxHeartbeats 4000000 in
set_option maxRecDepth 100000 in
theorem arm_at {p : Program} {l : Launch} {e : Env} {s : State} {m : MethodId} {args : Array Value} {below : List Frame} {meth : Method} {cd : Code} {Q : State → Prop} {D : va_G} {cA : Nat → ClassId} {sa : Nat → Nat} {b L : Nat} {xs : Nat → Int32} {H : Heap} {locs : List Loc} {cells slots : Nat} {ls : Array Slot} {ad : fw_Ad} {σ : St} {th u a : Int} {f : Nat → Int64} {j : Nat} (X : LX p l s m args cd b L xs D cA sa) (hj : j + 5 ≤ L) (hI : Inv σ) (hP : fw_P D vwCl s.heap.size ad (WC cA ad σ (WM cA ad σ th u a (oW cA f))) H) (hS : va_S (fw_A s.heap.size) s.heap H locs) (hl : lv_has ls 9 [(0, .ref b), (1, .ref (ad 0 0)), (2, .ref (ad 10 0)), (3, .ref (ad 15 0)), (4, .int (iI ((j : Nat) : Int)))]) (hro : cells + 3 ≤ 658709 ∧ slots + 20 ≤ 7119977) (hlocks : meth.locks = false)
    (kk : ∀ (σ : St) (ad : fw_Ad) (th u a : Int) (f : Nat → Int64) (H : Heap) (locs : List Loc) (ls : Array Slot), Inv σ → fw_P D vwCl s.heap.size ad (WC cA ad σ (WM cA ad σ th u a (oW cA f))) H → va_S (fw_A s.heap.size) s.heap H locs → lv_has ls 9 [(0, .ref b), (1, .ref (ad 0 0)), (2, .ref (ad 10 0)), (3, .ref (ad 15 0)), (4, .int (iI ((j : Nat) : Int)))] → W p l e room_1 s m args below meth cd H locs (cells + 3) (slots + 20) Q (F0 m 1285 ls [])) : W p l e room_1 s m args below meth cd H locs cells slots Q (F0 m 792 ls []) := by
  obtain ⟨hx, hb, hml, hown, hts, hX, hbl, hL, hK, hAO, hE, hl0⟩ := X
  generalize hz : s.heap.size = z at hP hS kk hE
  refine lv_aload_n hx hb dL_law_792 rfl (lv_at hl 1 rfl) ?_
  refine lv_aload_n hx hb dL_law_793 rfl (lv_at hl 0 rfl) ?_
  refine lv_iload hx hb dL_law_794 (lv_at hl 4 rfl) ?_
  refine lv_iconst (v := iI ((1 : Nat) : Int)) hx hb dL_law_796 (by decide) ?_
  refine fw_iaddN (a := j) (b := 1) hx hb dL_law_797 ?_
  obtain ⟨v_1, hv_1, hv_1a, hv_1b⟩ := iI_ex (xs (j + 1))
  refine ls_ldv (j := j + 1) (v := iI v_1) hv_1 hx hb hX hbl (by rw [hz]; exact hS) (by omega) hL dL_law_798 ?_
  refine lv_aload_n hx hb dL_law_799 rfl (lv_at hl 0 rfl) ?_
  refine lv_iload hx hb dL_law_800 (lv_at hl 4 rfl) ?_
  refine lv_iconst (v := iI ((2 : Nat) : Int)) hx hb dL_law_802 (by decide) ?_
  refine fw_iaddN (a := j) (b := 2) hx hb dL_law_803 ?_
  obtain ⟨v_2, hv_2, hv_2a, hv_2b⟩ := iI_ex (xs (j + 2))
  refine ls_ldv (j := j + 2) (v := iI v_2) hv_2 hx hb hX hbl (by rw [hz]; exact hS) (by omega) hL dL_law_804 ?_
  refine lv_aload_n hx hb dL_law_805 rfl (lv_at hl 0 rfl) ?_
  refine lv_iload hx hb dL_law_806 (lv_at hl 4 rfl) ?_
  refine lv_iconst (v := iI ((3 : Nat) : Int)) hx hb dL_law_808 (by decide) ?_
  refine fw_iaddN (a := j) (b := 3) hx hb dL_law_809 ?_
  obtain ⟨v_3, hv_3, hv_3a, hv_3b⟩ := iI_ex (xs (j + 3))
  refine ls_ldv (j := j + 3) (v := iI v_3) hv_3 hx hb hX hbl (by rw [hz]; exact hS) (by omega) hL dL_law_810 ?_
  refine lv_aload_n hx hb dL_law_811 rfl (lv_at hl 3 rfl) ?_
  refine fh_cSi (As := [.ref (ad 0 (0)), .int (iI (v_1)), .int (iI (v_2)), .int (iI (v_3)), .ref (ad 15 (0))]) (rest := []) ⟨hx, hb, hml, hown, hts⟩ (c_L_at l hl0 D cA z ad sa σ (WM cA ad σ th u a (oW cA f)) f ((v_1)) ((v_2)) ((v_3)) hI (oW_15 cA _) ⟨by omega, by omega⟩ ⟨by omega, by omega⟩ ⟨by omega, by omega⟩) (vx_cwSW 5 hts gL_law_L_at rfl rfl rfl (by decide +kernel) ⟨Nat.le_of_ble_eq_true rfl, Nat.le_of_ble_eq_true rfl⟩) rfl hl.1 (Nat.le_of_ble_eq_true rfl) dL_law_812 ⟨show _ ≤ 658709 from by omega, show _ ≤ 7119977 from by omega⟩ hK hE hP hS rfl (fun r w' H locs q_4 hP hS => ?_)
  rcases q_4 with ⟨hok, rfl, rfl⟩ | ⟨hbad, rfl, rfl⟩
  · rw [oU_W] at hP
    refine lv_istore (lv' := [(5, .int (iI (0))), (0, .ref b), (1, .ref (ad 0 (0))), (2, .ref (ad 10 (0))), (3, .ref (ad 15 (0))), (4, .int (iI ((j : Nat) : Int)))]) hx hb dL_law_815 hl (by decide) rfl (fun ls hl => ?_)
    refine lv_aload_n hx hb dL_law_817 rfl (lv_at hl 3 rfl) ?_
    refine lv_aload_n hx hb dL_law_818 rfl (lv_at hl 1 rfl) ?_
    refine lv_iload hx hb dL_law_819 (lv_at hl 5 rfl) ?_
    refine lv_iconst (v := iI ((1 : Nat) : Int)) hx hb dL_law_821 (by decide) ?_
    refine fw_iaddN (a := j) (b := 1) hx hb dL_law_822 ?_
    refine ls_ldv (j := j + 1) (v := iI v_1) hv_1 hx hb hX hbl (by rw [hz]; exact hS) (by omega) hL dL_law_823 ?_
    refine lv_aload_n hx hb dL_law_824 rfl (lv_at hl 1 rfl) ?_
    refine lv_iload hx hb dL_law_825 (lv_at hl 5 rfl) ?_
    refine lv_iconst (v := iI ((2 : Nat) : Int)) hx hb dL_law_827 (by decide) ?_
    refine fw_iaddN (a := j) (b := 2) hx hb dL_law_828 ?_
    refine ls_ldv (j := j + 2) (v := iI v_2) hv_2 hx hb hX hbl (by rw [hz]; exact hS) (by omega) hL dL_law_829 ?_
    refine lv_aload_n hx hb dL_law_830 rfl (lv_at hl 1 rfl) ?_
    refine lv_iload hx hb dL_law_831 (lv_at hl 5 rfl) ?_
    refine lv_iconst (v := iI ((3 : Nat) : Int)) hx hb dL_law_833 (by decide) ?_
    refine fw_iaddN (a := j) (b := 3) hx hb dL_law_834 ?_
    refine ls_ldv (j := j + 3) (v := iI v_3) hv_3 hx hb hX hbl (by rw [hz]; exact hS) (by omega) hL dL_law_835 ?_
    rw [WCM] at hP
    refine fw_cVi (As := [.int (iI (v_1)), .int (iI (v_2)), .int (iI (v_3))]) (rest := []) ⟨hx, hb, hml, hown, hts⟩ (c_X3_at l D cA z ad σ th u a ((WC cA ad σ (oW cA (vp_updL f 0 ((iI (optI (occ σ (5 * Int.toNat v_1 + Int.toNat v_2) (Int.toNat v_3)))).toInt64))))) ((v_1)) ((v_2)) ((v_3)) hI ⟨by omega, by omega⟩ ⟨by omega, by omega⟩ ⟨by omega, by omega⟩) (cwV 3 hts gL_law_X3_at rfl rfl rfl (by decide +kernel) ⟨Nat.le_of_ble_eq_true rfl, Nat.le_of_ble_eq_true rfl⟩) WM_10 rfl rfl hl.1 (Nat.le_of_ble_eq_true rfl) dL_law_836 ⟨show _ ≤ 658709 from by omega, show _ ≤ 7119977 from by omega⟩ hK hP hS rfl (fun r w' H locs q_5 hP hS => ?_)
    rcases q_5 with ⟨hok2, rfl, rfl⟩ | ⟨hbad2, rfl, rfl⟩
    · rw [← WCM] at hP
      refine lv_istore (lv' := [(6, .int (iI (optI (occ σ (5 * Int.toNat v_1 + Int.toNat v_2) (Int.toNat v_3))))), (5, .int (iI (0))), (0, .ref b), (1, .ref (ad 0 (0))), (2, .ref (ad 10 (0))), (3, .ref (ad 15 (0))), (4, .int (iI ((j : Nat) : Int)))]) hx hb dL_law_839 hl (by decide) rfl (fun ls hl => ?_)
      refine lv_aload_n hx hb dL_law_841 rfl (lv_at hl 4 rfl) ?_
      rw [WCM] at hP
      refine fw_cVi (As := []) (rest := []) ⟨hx, hb, hml, hown, hts⟩ (c_X3_thrown l D cA z ad σ (((0 : Nat) : Int)) u a ((WC cA ad σ (oW cA (vp_updL f 0 ((iI (optI (occ σ (5 * Int.toNat v_1 + Int.toNat v_2) (Int.toNat v_3)))).toInt64)))))  hI) (cwV 0 hts gL_law_X3_thrown rfl rfl rfl (by decide +kernel) ⟨Nat.le_of_ble_eq_true rfl, Nat.le_of_ble_eq_true rfl⟩) WM_10 rfl rfl hl.1 (Nat.le_of_ble_eq_true rfl) dL_law_842 ⟨show _ ≤ 658709 from by omega, show _ ≤ 7119977 from by omega⟩ hK hP hS rfl (fun r w' H locs q_6 hP hS => ?_)
      obtain ⟨rfl, rfl⟩ := q_6
      have hn_7 := hI.n
      have hm_8 := hI.lim
      rw [← WCM] at hP
      refine lv_iload hx hb dL_law_845 (lv_at hl 1 rfl) ?_
      refine lw_same (tgt := 852) hx hb dL_law_847 (by decide) ?_
      refine lv_iload hx hb dL_law_852 (lv_at hl 1 rfl) ?_
      refine fw_if_ne (x := (0)) (tgt := 869) hx hb dL_law_854 (by decide) ⟨by omega, by omega⟩ (fun c_9 => absurd c_9 (by decide)) (fun c_9 => ?_)
      refine lv_aload_n hx hb dL_law_857 rfl (lv_at hl 5 rfl) ?_
      refine lv_iconst (v := iI ((0 : Nat) : Int)) hx hb dL_law_858 (by decide) ?_
      refine lw_ld0 (x := (iI (optI (occ σ (5 * Int.toNat v_1 + Int.toNat v_2) (Int.toNat v_3)))).toInt64) hx hb hK hP ((WC_r (by decide)).trans (oW_15 cA _)) 4 rfl dL_law_859 ?_
      refine lv_iload hx hb dL_law_860 (lv_at hl 0 rfl) ?_
      refine lv_i2l (v := (iI ((optI (occ σ (5 * Int.toNat v_1 + Int.toNat v_2) (Int.toNat v_3))))).toInt64) hx hb dL_law_862 rfl ?_
      refine W.lcmp hx hb dL_law_863 ?_
      refine fw_top (v' := .int (iI 0)) (by rw [lg_cmp_self]) ?_
      refine fw_if_eq (x := (0)) (tgt := 869) hx hb dL_law_864 (by decide) ⟨by omega, by omega⟩ (fun c_10 => ?_) (fun c_10 => absurd c_10 (by decide))
      refine lv_goto (tgt := 1285) hx hb dL_law_869 (by decide) ?_
      refine W.widen (k := cells + 3) (n := slots + 20) (by omega) (by omega) ?_
      exact kk σ ad (((0 : Nat) : Int)) u a (vp_updL f 0 ((iI (optI (occ σ (5 * Int.toNat v_1 + Int.toNat v_2) (Int.toNat v_3)))).toInt64)) H locs ls hI hP hS (lv_sub hl [2, 3, 4, 5, 6] rfl)
    · exfalso; omega
  · have hP := hP
    refine lv_istore (lv' := [(5, .int (iI (1))), (0, .ref b), (1, .ref (ad 0 (0))), (2, .ref (ad 10 (0))), (3, .ref (ad 15 (0))), (4, .int (iI ((j : Nat) : Int)))]) hx hb dL_law_815 hl (by decide) rfl (fun ls hl => ?_)
    refine lv_aload_n hx hb dL_law_817 rfl (lv_at hl 3 rfl) ?_
    refine lv_aload_n hx hb dL_law_818 rfl (lv_at hl 1 rfl) ?_
    refine lv_iload hx hb dL_law_819 (lv_at hl 5 rfl) ?_
    refine lv_iconst (v := iI ((1 : Nat) : Int)) hx hb dL_law_821 (by decide) ?_
    refine fw_iaddN (a := j) (b := 1) hx hb dL_law_822 ?_
    refine ls_ldv (j := j + 1) (v := iI v_1) hv_1 hx hb hX hbl (by rw [hz]; exact hS) (by omega) hL dL_law_823 ?_
    refine lv_aload_n hx hb dL_law_824 rfl (lv_at hl 1 rfl) ?_
    refine lv_iload hx hb dL_law_825 (lv_at hl 5 rfl) ?_
    refine lv_iconst (v := iI ((2 : Nat) : Int)) hx hb dL_law_827 (by decide) ?_
    refine fw_iaddN (a := j) (b := 2) hx hb dL_law_828 ?_
    refine ls_ldv (j := j + 2) (v := iI v_2) hv_2 hx hb hX hbl (by rw [hz]; exact hS) (by omega) hL dL_law_829 ?_
    refine lv_aload_n hx hb dL_law_830 rfl (lv_at hl 1 rfl) ?_
    refine lv_iload hx hb dL_law_831 (lv_at hl 5 rfl) ?_
    refine lv_iconst (v := iI ((3 : Nat) : Int)) hx hb dL_law_833 (by decide) ?_
    refine fw_iaddN (a := j) (b := 3) hx hb dL_law_834 ?_
    refine ls_ldv (j := j + 3) (v := iI v_3) hv_3 hx hb hX hbl (by rw [hz]; exact hS) (by omega) hL dL_law_835 ?_
    rw [WCM] at hP
    refine fw_cVi (As := [.int (iI (v_1)), .int (iI (v_2)), .int (iI (v_3))]) (rest := []) ⟨hx, hb, hml, hown, hts⟩ (c_X3_at l D cA z ad σ th u a ((WC cA ad σ (oW cA f))) ((v_1)) ((v_2)) ((v_3)) hI ⟨by omega, by omega⟩ ⟨by omega, by omega⟩ ⟨by omega, by omega⟩) (cwV 3 hts gL_law_X3_at rfl rfl rfl (by decide +kernel) ⟨Nat.le_of_ble_eq_true rfl, Nat.le_of_ble_eq_true rfl⟩) WM_10 rfl rfl hl.1 (Nat.le_of_ble_eq_true rfl) dL_law_836 ⟨show _ ≤ 658709 from by omega, show _ ≤ 7119977 from by omega⟩ hK hP hS rfl (fun r w' H locs q_11 hP hS => ?_)
    rcases q_11 with ⟨hok2, rfl, rfl⟩ | ⟨hbad2, rfl, rfl⟩
    · exfalso; omega
    · rw [← WCM] at hP
      refine lv_istore (lv' := [(6, .int (iI (0))), (5, .int (iI (1))), (0, .ref b), (1, .ref (ad 0 (0))), (2, .ref (ad 10 (0))), (3, .ref (ad 15 (0))), (4, .int (iI ((j : Nat) : Int)))]) hx hb dL_law_839 hl (by decide) rfl (fun ls hl => ?_)
      refine lv_aload_n hx hb dL_law_841 rfl (lv_at hl 4 rfl) ?_
      rw [WCM] at hP
      refine fw_cVi (As := []) (rest := []) ⟨hx, hb, hml, hown, hts⟩ (c_X3_thrown l D cA z ad σ (((1 : Nat) : Int)) u a ((WC cA ad σ (oW cA f)))  hI) (cwV 0 hts gL_law_X3_thrown rfl rfl rfl (by decide +kernel) ⟨Nat.le_of_ble_eq_true rfl, Nat.le_of_ble_eq_true rfl⟩) WM_10 rfl rfl hl.1 (Nat.le_of_ble_eq_true rfl) dL_law_842 ⟨show _ ≤ 658709 from by omega, show _ ≤ 7119977 from by omega⟩ hK hP hS rfl (fun r w' H locs q_12 hP hS => ?_)
      obtain ⟨rfl, rfl⟩ := q_12
      have hn_13 := hI.n
      have hm_14 := hI.lim
      rw [← WCM] at hP
      refine lv_iload hx hb dL_law_845 (lv_at hl 1 rfl) ?_
      refine lw_same (tgt := 852) hx hb dL_law_847 (by decide) ?_
      refine lv_iload hx hb dL_law_852 (lv_at hl 1 rfl) ?_
      refine fw_if_ne (x := (1)) (tgt := 869) hx hb dL_law_854 (by decide) ⟨by omega, by omega⟩ (fun c_15 => ?_) (fun c_15 => absurd c_15 (by decide))
      refine lv_goto (tgt := 1285) hx hb dL_law_869 (by decide) ?_
      refine W.widen (k := cells + 3) (n := slots + 20) (by omega) (by omega) ?_
      exact kk σ ad (((1 : Nat) : Int)) u a f H locs ls hI hP hS (lv_sub hl [2, 3, 4, 5, 6] rfl)

set_option maxHeartbeats 4000000 in
set_option maxRecDepth 100000 in
theorem arm_weight {p : Program} {l : Launch} {e : Env} {s : State} {m : MethodId} {args : Array Value} {below : List Frame} {meth : Method} {cd : Code} {Q : State → Prop} {D : va_G} {cA : Nat → ClassId} {sa : Nat → Nat} {b L : Nat} {xs : Nat → Int32} {H : Heap} {locs : List Loc} {cells slots : Nat} {ls : Array Slot} {ad : fw_Ad} {σ : St} {th u a : Int} {f : Nat → Int64} {j : Nat} (X : LX p l s m args cd b L xs D cA sa) (hj : j + 5 ≤ L) (hI : Inv σ) (hP : fw_P D vwCl s.heap.size ad (WC cA ad σ (WM cA ad σ th u a (oW cA f))) H) (hS : va_S (fw_A s.heap.size) s.heap H locs) (hl : lv_has ls 9 [(0, .ref b), (1, .ref (ad 0 0)), (2, .ref (ad 10 0)), (3, .ref (ad 15 0)), (4, .int (iI ((j : Nat) : Int)))]) (hro : cells + 3 ≤ 658709 ∧ slots + 20 ≤ 7119977) (hlocks : meth.locks = false)
    (kk : ∀ (σ : St) (ad : fw_Ad) (th u a : Int) (f : Nat → Int64) (H : Heap) (locs : List Loc) (ls : Array Slot), Inv σ → fw_P D vwCl s.heap.size ad (WC cA ad σ (WM cA ad σ th u a (oW cA f))) H → va_S (fw_A s.heap.size) s.heap H locs → lv_has ls 9 [(0, .ref b), (1, .ref (ad 0 0)), (2, .ref (ad 10 0)), (3, .ref (ad 15 0)), (4, .int (iI ((j : Nat) : Int)))] → W p l e room_1 s m args below meth cd H locs (cells + 3) (slots + 20) Q (F0 m 1285 ls [])) : W p l e room_1 s m args below meth cd H locs cells slots Q (F0 m 1064 ls []) := by
  obtain ⟨hx, hb, hml, hown, hts, hX, hbl, hL, hK, hAO, hE, hl0⟩ := X
  generalize hz : s.heap.size = z at hP hS kk hE
  refine lv_aload_n hx hb dL_law_1064 rfl (lv_at hl 1 rfl) ?_
  refine lv_aload_n hx hb dL_law_1065 rfl (lv_at hl 0 rfl) ?_
  refine lv_iload hx hb dL_law_1066 (lv_at hl 4 rfl) ?_
  refine lv_iconst (v := iI ((1 : Nat) : Int)) hx hb dL_law_1068 (by decide) ?_
  refine fw_iaddN (a := j) (b := 1) hx hb dL_law_1069 ?_
  obtain ⟨v_1, hv_1, hv_1a, hv_1b⟩ := iI_ex (xs (j + 1))
  refine ls_ldv (j := j + 1) (v := iI v_1) hv_1 hx hb hX hbl (by rw [hz]; exact hS) (by omega) hL dL_law_1070 ?_
  refine lv_aload_n hx hb dL_law_1071 rfl (lv_at hl 3 rfl) ?_
  refine fh_cSi (As := [.ref (ad 0 (0)), .int (iI (v_1)), .ref (ad 15 (0))]) (rest := []) ⟨hx, hb, hml, hown, hts⟩ (c_L_weight l hl0 D cA z ad sa σ (WM cA ad σ th u a (oW cA f)) f ((v_1)) hI (oW_15 cA _) ⟨by omega, by omega⟩) (vx_cwSW 3 hts gL_law_L_weight rfl rfl rfl (by decide +kernel) ⟨Nat.le_of_ble_eq_true rfl, Nat.le_of_ble_eq_true rfl⟩) rfl hl.1 (Nat.le_of_ble_eq_true rfl) dL_law_1072 ⟨show _ ≤ 658709 from by omega, show _ ≤ 7119977 from by omega⟩ hK hE hP hS rfl (fun r w' H locs q_2 hP hS => ?_)
  rcases q_2 with ⟨hok, rfl, rfl⟩ | ⟨hbad, rfl, rfl⟩
  · rw [oU_W] at hP
    refine lv_istore (lv' := [(5, .int (iI (0))), (0, .ref b), (1, .ref (ad 0 (0))), (2, .ref (ad 10 (0))), (3, .ref (ad 15 (0))), (4, .int (iI ((j : Nat) : Int)))]) hx hb dL_law_1075 hl (by decide) rfl (fun ls hl => ?_)
    refine lv_aload_n hx hb dL_law_1077 rfl (lv_at hl 3 rfl) ?_
    refine lv_aload_n hx hb dL_law_1078 rfl (lv_at hl 1 rfl) ?_
    refine lv_iload hx hb dL_law_1079 (lv_at hl 5 rfl) ?_
    refine lv_iconst (v := iI ((1 : Nat) : Int)) hx hb dL_law_1081 (by decide) ?_
    refine fw_iaddN (a := j) (b := 1) hx hb dL_law_1082 ?_
    refine ls_ldv (j := j + 1) (v := iI v_1) hv_1 hx hb hX hbl (by rw [hz]; exact hS) (by omega) hL dL_law_1083 ?_
    rw [WCM] at hP
    refine fw_cVi (As := [.int (iI (v_1))]) (rest := []) ⟨hx, hb, hml, hown, hts⟩ (c_X3_weight l D cA z ad σ th u a ((WC cA ad σ (oW cA (vp_updL f 0 ((iI ((sumN (fun q => wOf σ (5 * Int.toNat v_1 + q)) 5 : Nat) : Int)).toInt64))))) ((v_1)) hI ⟨by omega, by omega⟩) (cwV 1 hts gL_law_X3_weight rfl rfl rfl (by decide +kernel) ⟨Nat.le_of_ble_eq_true rfl, Nat.le_of_ble_eq_true rfl⟩) WM_10 rfl rfl hl.1 (Nat.le_of_ble_eq_true rfl) dL_law_1084 ⟨show _ ≤ 658709 from by omega, show _ ≤ 7119977 from by omega⟩ hK hP hS rfl (fun r w' H locs q_3 hP hS => ?_)
    rcases q_3 with ⟨hok2, rfl, rfl⟩ | ⟨hbad2, rfl, rfl⟩
    · rw [← WCM] at hP
      refine lv_istore (lv' := [(6, .int (iI ((sumN (fun q => wOf σ (5 * Int.toNat v_1 + q)) 5 : Nat) : Int))), (5, .int (iI (0))), (0, .ref b), (1, .ref (ad 0 (0))), (2, .ref (ad 10 (0))), (3, .ref (ad 15 (0))), (4, .int (iI ((j : Nat) : Int)))]) hx hb dL_law_1087 hl (by decide) rfl (fun ls hl => ?_)
      refine lv_aload_n hx hb dL_law_1089 rfl (lv_at hl 4 rfl) ?_
      rw [WCM] at hP
      refine fw_cVi (As := []) (rest := []) ⟨hx, hb, hml, hown, hts⟩ (c_X3_thrown l D cA z ad σ (((0 : Nat) : Int)) u a ((WC cA ad σ (oW cA (vp_updL f 0 ((iI ((sumN (fun q => wOf σ (5 * Int.toNat v_1 + q)) 5 : Nat) : Int)).toInt64)))))  hI) (cwV 0 hts gL_law_X3_thrown rfl rfl rfl (by decide +kernel) ⟨Nat.le_of_ble_eq_true rfl, Nat.le_of_ble_eq_true rfl⟩) WM_10 rfl rfl hl.1 (Nat.le_of_ble_eq_true rfl) dL_law_1090 ⟨show _ ≤ 658709 from by omega, show _ ≤ 7119977 from by omega⟩ hK hP hS rfl (fun r w' H locs q_4 hP hS => ?_)
      obtain ⟨rfl, rfl⟩ := q_4
      have hn_5 := hI.n
      have hm_6 := hI.lim
      rw [← WCM] at hP
      refine lv_iload hx hb dL_law_1093 (lv_at hl 1 rfl) ?_
      refine lw_same (tgt := 1100) hx hb dL_law_1095 (by decide) ?_
      refine lv_iload hx hb dL_law_1100 (lv_at hl 1 rfl) ?_
      refine fw_if_ne (x := (0)) (tgt := 1117) hx hb dL_law_1102 (by decide) ⟨by omega, by omega⟩ (fun c_7 => absurd c_7 (by decide)) (fun c_7 => ?_)
      refine lv_aload_n hx hb dL_law_1105 rfl (lv_at hl 5 rfl) ?_
      refine lv_iconst (v := iI ((0 : Nat) : Int)) hx hb dL_law_1106 (by decide) ?_
      refine lw_ld0 (x := (iI ((sumN (fun q => wOf σ (5 * Int.toNat v_1 + q)) 5 : Nat) : Int)).toInt64) hx hb hK hP ((WC_r (by decide)).trans (oW_15 cA _)) 4 rfl dL_law_1107 ?_
      refine lv_iload hx hb dL_law_1108 (lv_at hl 0 rfl) ?_
      refine lv_i2l (v := (iI (((sumN (fun q => wOf σ (5 * Int.toNat v_1 + q)) 5 : Nat) : Int))).toInt64) hx hb dL_law_1110 rfl ?_
      refine W.lcmp hx hb dL_law_1111 ?_
      refine fw_top (v' := .int (iI 0)) (by rw [lg_cmp_self]) ?_
      refine fw_if_eq (x := (0)) (tgt := 1117) hx hb dL_law_1112 (by decide) ⟨by omega, by omega⟩ (fun c_8 => ?_) (fun c_8 => absurd c_8 (by decide))
      refine lv_goto (tgt := 1285) hx hb dL_law_1117 (by decide) ?_
      refine W.widen (k := cells + 3) (n := slots + 20) (by omega) (by omega) ?_
      exact kk σ ad (((0 : Nat) : Int)) u a (vp_updL f 0 ((iI ((sumN (fun q => wOf σ (5 * Int.toNat v_1 + q)) 5 : Nat) : Int)).toInt64)) H locs ls hI hP hS (lv_sub hl [2, 3, 4, 5, 6] rfl)
    · exfalso; omega
  · have hP := hP
    refine lv_istore (lv' := [(5, .int (iI (1))), (0, .ref b), (1, .ref (ad 0 (0))), (2, .ref (ad 10 (0))), (3, .ref (ad 15 (0))), (4, .int (iI ((j : Nat) : Int)))]) hx hb dL_law_1075 hl (by decide) rfl (fun ls hl => ?_)
    refine lv_aload_n hx hb dL_law_1077 rfl (lv_at hl 3 rfl) ?_
    refine lv_aload_n hx hb dL_law_1078 rfl (lv_at hl 1 rfl) ?_
    refine lv_iload hx hb dL_law_1079 (lv_at hl 5 rfl) ?_
    refine lv_iconst (v := iI ((1 : Nat) : Int)) hx hb dL_law_1081 (by decide) ?_
    refine fw_iaddN (a := j) (b := 1) hx hb dL_law_1082 ?_
    refine ls_ldv (j := j + 1) (v := iI v_1) hv_1 hx hb hX hbl (by rw [hz]; exact hS) (by omega) hL dL_law_1083 ?_
    rw [WCM] at hP
    refine fw_cVi (As := [.int (iI (v_1))]) (rest := []) ⟨hx, hb, hml, hown, hts⟩ (c_X3_weight l D cA z ad σ th u a ((WC cA ad σ (oW cA f))) ((v_1)) hI ⟨by omega, by omega⟩) (cwV 1 hts gL_law_X3_weight rfl rfl rfl (by decide +kernel) ⟨Nat.le_of_ble_eq_true rfl, Nat.le_of_ble_eq_true rfl⟩) WM_10 rfl rfl hl.1 (Nat.le_of_ble_eq_true rfl) dL_law_1084 ⟨show _ ≤ 658709 from by omega, show _ ≤ 7119977 from by omega⟩ hK hP hS rfl (fun r w' H locs q_9 hP hS => ?_)
    rcases q_9 with ⟨hok2, rfl, rfl⟩ | ⟨hbad2, rfl, rfl⟩
    · exfalso; omega
    · rw [← WCM] at hP
      refine lv_istore (lv' := [(6, .int (iI (0))), (5, .int (iI (1))), (0, .ref b), (1, .ref (ad 0 (0))), (2, .ref (ad 10 (0))), (3, .ref (ad 15 (0))), (4, .int (iI ((j : Nat) : Int)))]) hx hb dL_law_1087 hl (by decide) rfl (fun ls hl => ?_)
      refine lv_aload_n hx hb dL_law_1089 rfl (lv_at hl 4 rfl) ?_
      rw [WCM] at hP
      refine fw_cVi (As := []) (rest := []) ⟨hx, hb, hml, hown, hts⟩ (c_X3_thrown l D cA z ad σ (((1 : Nat) : Int)) u a ((WC cA ad σ (oW cA f)))  hI) (cwV 0 hts gL_law_X3_thrown rfl rfl rfl (by decide +kernel) ⟨Nat.le_of_ble_eq_true rfl, Nat.le_of_ble_eq_true rfl⟩) WM_10 rfl rfl hl.1 (Nat.le_of_ble_eq_true rfl) dL_law_1090 ⟨show _ ≤ 658709 from by omega, show _ ≤ 7119977 from by omega⟩ hK hP hS rfl (fun r w' H locs q_10 hP hS => ?_)
      obtain ⟨rfl, rfl⟩ := q_10
      have hn_11 := hI.n
      have hm_12 := hI.lim
      rw [← WCM] at hP
      refine lv_iload hx hb dL_law_1093 (lv_at hl 1 rfl) ?_
      refine lw_same (tgt := 1100) hx hb dL_law_1095 (by decide) ?_
      refine lv_iload hx hb dL_law_1100 (lv_at hl 1 rfl) ?_
      refine fw_if_ne (x := (1)) (tgt := 1117) hx hb dL_law_1102 (by decide) ⟨by omega, by omega⟩ (fun c_13 => ?_) (fun c_13 => absurd c_13 (by decide))
      refine lv_goto (tgt := 1285) hx hb dL_law_1117 (by decide) ?_
      refine W.widen (k := cells + 3) (n := slots + 20) (by omega) (by omega) ?_
      exact kk σ ad (((1 : Nat) : Int)) u a f H locs ls hI hP hS (lv_sub hl [2, 3, 4, 5, 6] rfl)

set_option maxHeartbeats 4000000 in
set_option maxRecDepth 100000 in
theorem arm_lifts {p : Program} {l : Launch} {e : Env} {s : State} {m : MethodId} {args : Array Value} {below : List Frame} {meth : Method} {cd : Code} {Q : State → Prop} {D : va_G} {cA : Nat → ClassId} {sa : Nat → Nat} {b L : Nat} {xs : Nat → Int32} {H : Heap} {locs : List Loc} {cells slots : Nat} {ls : Array Slot} {ad : fw_Ad} {σ : St} {th u a : Int} {f : Nat → Int64} {j : Nat} (X : LX p l s m args cd b L xs D cA sa) (hj : j + 5 ≤ L) (hI : Inv σ) (hP : fw_P D vwCl s.heap.size ad (WC cA ad σ (WM cA ad σ th u a (oW cA f))) H) (hS : va_S (fw_A s.heap.size) s.heap H locs) (hl : lv_has ls 9 [(0, .ref b), (1, .ref (ad 0 0)), (2, .ref (ad 10 0)), (3, .ref (ad 15 0)), (4, .int (iI ((j : Nat) : Int)))]) (hro : cells + 3 ≤ 658709 ∧ slots + 20 ≤ 7119977) (hlocks : meth.locks = false)
    (kk : ∀ (σ : St) (ad : fw_Ad) (th u a : Int) (f : Nat → Int64) (H : Heap) (locs : List Loc) (ls : Array Slot), Inv σ → fw_P D vwCl s.heap.size ad (WC cA ad σ (WM cA ad σ th u a (oW cA f))) H → va_S (fw_A s.heap.size) s.heap H locs → lv_has ls 9 [(0, .ref b), (1, .ref (ad 0 0)), (2, .ref (ad 10 0)), (3, .ref (ad 15 0)), (4, .int (iI ((j : Nat) : Int)))] → W p l e room_1 s m args below meth cd H locs (cells + 3) (slots + 20) Q (F0 m 1285 ls [])) : W p l e room_1 s m args below meth cd H locs cells slots Q (F0 m 1133 ls []) := by
  obtain ⟨hx, hb, hml, hown, hts, hX, hbl, hL, hK, hAO, hE, hl0⟩ := X
  generalize hz : s.heap.size = z at hP hS kk hE
  refine lv_aload_n hx hb dL_law_1133 rfl (lv_at hl 1 rfl) ?_
  refine lv_aload_n hx hb dL_law_1134 rfl (lv_at hl 0 rfl) ?_
  refine lv_iload hx hb dL_law_1135 (lv_at hl 4 rfl) ?_
  refine lv_iconst (v := iI ((1 : Nat) : Int)) hx hb dL_law_1137 (by decide) ?_
  refine fw_iaddN (a := j) (b := 1) hx hb dL_law_1138 ?_
  obtain ⟨v_1, hv_1, hv_1a, hv_1b⟩ := iI_ex (xs (j + 1))
  refine ls_ldv (j := j + 1) (v := iI v_1) hv_1 hx hb hX hbl (by rw [hz]; exact hS) (by omega) hL dL_law_1139 ?_
  refine lv_aload_n hx hb dL_law_1140 rfl (lv_at hl 3 rfl) ?_
  refine fh_cSi (As := [.ref (ad 0 (0)), .int (iI (v_1)), .ref (ad 15 (0))]) (rest := []) ⟨hx, hb, hml, hown, hts⟩ (c_L_lifts l hl0 D cA z ad sa σ (WM cA ad σ th u a (oW cA f)) f ((v_1)) hI (oW_15 cA _) ⟨by omega, by omega⟩) (vx_cwSW 3 hts gL_law_L_lifts rfl rfl rfl (by decide +kernel) ⟨Nat.le_of_ble_eq_true rfl, Nat.le_of_ble_eq_true rfl⟩) rfl hl.1 (Nat.le_of_ble_eq_true rfl) dL_law_1141 ⟨show _ ≤ 658709 from by omega, show _ ≤ 7119977 from by omega⟩ hK hE hP hS rfl (fun r w' H locs q_2 hP hS => ?_)
  rcases q_2 with ⟨hok, rfl, rfl⟩ | ⟨hbad, rfl, rfl⟩
  · rw [oU_W] at hP
    refine lv_istore (lv' := [(5, .int (iI (0))), (0, .ref b), (1, .ref (ad 0 (0))), (2, .ref (ad 10 (0))), (3, .ref (ad 15 (0))), (4, .int (iI ((j : Nat) : Int)))]) hx hb dL_law_1144 hl (by decide) rfl (fun ls hl => ?_)
    refine lv_aload_n hx hb dL_law_1146 rfl (lv_at hl 3 rfl) ?_
    refine lv_aload_n hx hb dL_law_1147 rfl (lv_at hl 1 rfl) ?_
    refine lv_iload hx hb dL_law_1148 (lv_at hl 5 rfl) ?_
    refine lv_iconst (v := iI ((1 : Nat) : Int)) hx hb dL_law_1150 (by decide) ?_
    refine fw_iaddN (a := j) (b := 1) hx hb dL_law_1151 ?_
    refine ls_ldv (j := j + 1) (v := iI v_1) hv_1 hx hb hX hbl (by rw [hz]; exact hS) (by omega) hL dL_law_1152 ?_
    rw [WCM] at hP
    refine fw_cVi (As := [.int (iI (v_1))]) (rest := []) ⟨hx, hb, hml, hown, hts⟩ (c_X3_lifts l D cA z ad σ th u a ((WC cA ad σ (oW cA (vp_updL f 0 ((iI ((lifAt σ (Int.toNat v_1) : Nat) : Int)).toInt64))))) ((v_1)) hI ⟨by omega, by omega⟩) (cwV 1 hts gL_law_X3_lifts rfl rfl rfl (by decide +kernel) ⟨Nat.le_of_ble_eq_true rfl, Nat.le_of_ble_eq_true rfl⟩) WM_10 rfl rfl hl.1 (Nat.le_of_ble_eq_true rfl) dL_law_1153 ⟨show _ ≤ 658709 from by omega, show _ ≤ 7119977 from by omega⟩ hK hP hS rfl (fun r w' H locs q_3 hP hS => ?_)
    rcases q_3 with ⟨hok2, rfl, rfl⟩ | ⟨hbad2, rfl, rfl⟩
    · rw [← WCM] at hP
      refine lv_istore (lv' := [(6, .int (iI ((lifAt σ (Int.toNat v_1) : Nat) : Int))), (5, .int (iI (0))), (0, .ref b), (1, .ref (ad 0 (0))), (2, .ref (ad 10 (0))), (3, .ref (ad 15 (0))), (4, .int (iI ((j : Nat) : Int)))]) hx hb dL_law_1156 hl (by decide) rfl (fun ls hl => ?_)
      refine lv_aload_n hx hb dL_law_1158 rfl (lv_at hl 4 rfl) ?_
      rw [WCM] at hP
      refine fw_cVi (As := []) (rest := []) ⟨hx, hb, hml, hown, hts⟩ (c_X3_thrown l D cA z ad σ (((0 : Nat) : Int)) u a ((WC cA ad σ (oW cA (vp_updL f 0 ((iI ((lifAt σ (Int.toNat v_1) : Nat) : Int)).toInt64)))))  hI) (cwV 0 hts gL_law_X3_thrown rfl rfl rfl (by decide +kernel) ⟨Nat.le_of_ble_eq_true rfl, Nat.le_of_ble_eq_true rfl⟩) WM_10 rfl rfl hl.1 (Nat.le_of_ble_eq_true rfl) dL_law_1159 ⟨show _ ≤ 658709 from by omega, show _ ≤ 7119977 from by omega⟩ hK hP hS rfl (fun r w' H locs q_4 hP hS => ?_)
      obtain ⟨rfl, rfl⟩ := q_4
      have hn_5 := hI.n
      have hm_6 := hI.lim
      rw [← WCM] at hP
      refine lv_iload hx hb dL_law_1162 (lv_at hl 1 rfl) ?_
      refine lw_same (tgt := 1169) hx hb dL_law_1164 (by decide) ?_
      refine lv_iload hx hb dL_law_1169 (lv_at hl 1 rfl) ?_
      refine fw_if_ne (x := (0)) (tgt := 1186) hx hb dL_law_1171 (by decide) ⟨by omega, by omega⟩ (fun c_7 => absurd c_7 (by decide)) (fun c_7 => ?_)
      refine lv_aload_n hx hb dL_law_1174 rfl (lv_at hl 5 rfl) ?_
      refine lv_iconst (v := iI ((0 : Nat) : Int)) hx hb dL_law_1175 (by decide) ?_
      refine lw_ld0 (x := (iI ((lifAt σ (Int.toNat v_1) : Nat) : Int)).toInt64) hx hb hK hP ((WC_r (by decide)).trans (oW_15 cA _)) 4 rfl dL_law_1176 ?_
      refine lv_iload hx hb dL_law_1177 (lv_at hl 0 rfl) ?_
      refine lv_i2l (v := (iI (((lifAt σ (Int.toNat v_1) : Nat) : Int))).toInt64) hx hb dL_law_1179 rfl ?_
      refine W.lcmp hx hb dL_law_1180 ?_
      refine fw_top (v' := .int (iI 0)) (by rw [lg_cmp_self]) ?_
      refine fw_if_eq (x := (0)) (tgt := 1186) hx hb dL_law_1181 (by decide) ⟨by omega, by omega⟩ (fun c_8 => ?_) (fun c_8 => absurd c_8 (by decide))
      refine lv_goto (tgt := 1285) hx hb dL_law_1186 (by decide) ?_
      refine W.widen (k := cells + 3) (n := slots + 20) (by omega) (by omega) ?_
      exact kk σ ad (((0 : Nat) : Int)) u a (vp_updL f 0 ((iI ((lifAt σ (Int.toNat v_1) : Nat) : Int)).toInt64)) H locs ls hI hP hS (lv_sub hl [2, 3, 4, 5, 6] rfl)
    · exfalso; omega
  · have hP := hP
    refine lv_istore (lv' := [(5, .int (iI (1))), (0, .ref b), (1, .ref (ad 0 (0))), (2, .ref (ad 10 (0))), (3, .ref (ad 15 (0))), (4, .int (iI ((j : Nat) : Int)))]) hx hb dL_law_1144 hl (by decide) rfl (fun ls hl => ?_)
    refine lv_aload_n hx hb dL_law_1146 rfl (lv_at hl 3 rfl) ?_
    refine lv_aload_n hx hb dL_law_1147 rfl (lv_at hl 1 rfl) ?_
    refine lv_iload hx hb dL_law_1148 (lv_at hl 5 rfl) ?_
    refine lv_iconst (v := iI ((1 : Nat) : Int)) hx hb dL_law_1150 (by decide) ?_
    refine fw_iaddN (a := j) (b := 1) hx hb dL_law_1151 ?_
    refine ls_ldv (j := j + 1) (v := iI v_1) hv_1 hx hb hX hbl (by rw [hz]; exact hS) (by omega) hL dL_law_1152 ?_
    rw [WCM] at hP
    refine fw_cVi (As := [.int (iI (v_1))]) (rest := []) ⟨hx, hb, hml, hown, hts⟩ (c_X3_lifts l D cA z ad σ th u a ((WC cA ad σ (oW cA f))) ((v_1)) hI ⟨by omega, by omega⟩) (cwV 1 hts gL_law_X3_lifts rfl rfl rfl (by decide +kernel) ⟨Nat.le_of_ble_eq_true rfl, Nat.le_of_ble_eq_true rfl⟩) WM_10 rfl rfl hl.1 (Nat.le_of_ble_eq_true rfl) dL_law_1153 ⟨show _ ≤ 658709 from by omega, show _ ≤ 7119977 from by omega⟩ hK hP hS rfl (fun r w' H locs q_9 hP hS => ?_)
    rcases q_9 with ⟨hok2, rfl, rfl⟩ | ⟨hbad2, rfl, rfl⟩
    · exfalso; omega
    · rw [← WCM] at hP
      refine lv_istore (lv' := [(6, .int (iI (0))), (5, .int (iI (1))), (0, .ref b), (1, .ref (ad 0 (0))), (2, .ref (ad 10 (0))), (3, .ref (ad 15 (0))), (4, .int (iI ((j : Nat) : Int)))]) hx hb dL_law_1156 hl (by decide) rfl (fun ls hl => ?_)
      refine lv_aload_n hx hb dL_law_1158 rfl (lv_at hl 4 rfl) ?_
      rw [WCM] at hP
      refine fw_cVi (As := []) (rest := []) ⟨hx, hb, hml, hown, hts⟩ (c_X3_thrown l D cA z ad σ (((1 : Nat) : Int)) u a ((WC cA ad σ (oW cA f)))  hI) (cwV 0 hts gL_law_X3_thrown rfl rfl rfl (by decide +kernel) ⟨Nat.le_of_ble_eq_true rfl, Nat.le_of_ble_eq_true rfl⟩) WM_10 rfl rfl hl.1 (Nat.le_of_ble_eq_true rfl) dL_law_1159 ⟨show _ ≤ 658709 from by omega, show _ ≤ 7119977 from by omega⟩ hK hP hS rfl (fun r w' H locs q_10 hP hS => ?_)
      obtain ⟨rfl, rfl⟩ := q_10
      have hn_11 := hI.n
      have hm_12 := hI.lim
      rw [← WCM] at hP
      refine lv_iload hx hb dL_law_1162 (lv_at hl 1 rfl) ?_
      refine lw_same (tgt := 1169) hx hb dL_law_1164 (by decide) ?_
      refine lv_iload hx hb dL_law_1169 (lv_at hl 1 rfl) ?_
      refine fw_if_ne (x := (1)) (tgt := 1186) hx hb dL_law_1171 (by decide) ⟨by omega, by omega⟩ (fun c_13 => ?_) (fun c_13 => absurd c_13 (by decide))
      refine lv_goto (tgt := 1285) hx hb dL_law_1186 (by decide) ?_
      refine W.widen (k := cells + 3) (n := slots + 20) (by omega) (by omega) ?_
      exact kk σ ad (((1 : Nat) : Int)) u a f H locs ls hI hP hS (lv_sub hl [2, 3, 4, 5, 6] rfl)

set_option maxHeartbeats 4000000 in
set_option maxRecDepth 100000 in
theorem arm_choices {p : Program} {l : Launch} {e : Env} {s : State} {m : MethodId} {args : Array Value} {below : List Frame} {meth : Method} {cd : Code} {Q : State → Prop} {D : va_G} {cA : Nat → ClassId} {sa : Nat → Nat} {b L : Nat} {xs : Nat → Int32} {H : Heap} {locs : List Loc} {cells slots : Nat} {ls : Array Slot} {ad : fw_Ad} {σ : St} {th u a : Int} {f : Nat → Int64} {j : Nat} (X : LX p l s m args cd b L xs D cA sa) (hj : j + 5 ≤ L) (hI : Inv σ) (hP : fw_P D vwCl s.heap.size ad (WC cA ad σ (WM cA ad σ th u a (oW cA f))) H) (hS : va_S (fw_A s.heap.size) s.heap H locs) (hl : lv_has ls 9 [(0, .ref b), (1, .ref (ad 0 0)), (2, .ref (ad 10 0)), (3, .ref (ad 15 0)), (4, .int (iI ((j : Nat) : Int)))]) (hro : cells + 3 ≤ 658709 ∧ slots + 20 ≤ 7119977) (hlocks : meth.locks = false)
    (kk : ∀ (σ : St) (ad : fw_Ad) (th u a : Int) (f : Nat → Int64) (H : Heap) (locs : List Loc) (ls : Array Slot), Inv σ → fw_P D vwCl s.heap.size ad (WC cA ad σ (WM cA ad σ th u a (oW cA f))) H → va_S (fw_A s.heap.size) s.heap H locs → lv_has ls 9 [(0, .ref b), (1, .ref (ad 0 0)), (2, .ref (ad 10 0)), (3, .ref (ad 15 0)), (4, .int (iI ((j : Nat) : Int)))] → W p l e room_1 s m args below meth cd H locs (cells + 3) (slots + 20) Q (F0 m 1285 ls [])) : W p l e room_1 s m args below meth cd H locs cells slots Q (F0 m 1202 ls []) := by
  obtain ⟨hx, hb, hml, hown, hts, hX, hbl, hL, hK, hAO, hE, hl0⟩ := X
  generalize hz : s.heap.size = z at hP hS kk hE
  refine lv_aload_n hx hb dL_law_1202 rfl (lv_at hl 1 rfl) ?_
  refine lv_aload_n hx hb dL_law_1203 rfl (lv_at hl 0 rfl) ?_
  refine lv_iload hx hb dL_law_1204 (lv_at hl 4 rfl) ?_
  refine lv_iconst (v := iI ((1 : Nat) : Int)) hx hb dL_law_1206 (by decide) ?_
  refine fw_iaddN (a := j) (b := 1) hx hb dL_law_1207 ?_
  obtain ⟨v_1, hv_1, hv_1a, hv_1b⟩ := iI_ex (xs (j + 1))
  refine ls_ldv (j := j + 1) (v := iI v_1) hv_1 hx hb hX hbl (by rw [hz]; exact hS) (by omega) hL dL_law_1208 ?_
  refine lv_aload_n hx hb dL_law_1209 rfl (lv_at hl 3 rfl) ?_
  refine fh_cSi (As := [.ref (ad 0 (0)), .int (iI (v_1)), .ref (ad 15 (0))]) (rest := []) ⟨hx, hb, hml, hown, hts⟩ (c_L_choices l hl0 D cA z ad sa σ (WM cA ad σ th u a (oW cA f)) f ((v_1)) hI (oW_15 cA _) ⟨by omega, by omega⟩) (vx_cwSW 3 hts gL_law_L_choices rfl rfl rfl (by decide +kernel) ⟨Nat.le_of_ble_eq_true rfl, Nat.le_of_ble_eq_true rfl⟩) rfl hl.1 (Nat.le_of_ble_eq_true rfl) dL_law_1210 ⟨show _ ≤ 658709 from by omega, show _ ≤ 7119977 from by omega⟩ hK hE hP hS rfl (fun r w' H locs q_2 hP hS => ?_)
  rcases q_2 with ⟨hok, rfl, rfl⟩ | ⟨hbad, rfl, rfl⟩
  · rw [oU_W] at hP
    refine lv_istore (lv' := [(5, .int (iI (0))), (0, .ref b), (1, .ref (ad 0 (0))), (2, .ref (ad 10 (0))), (3, .ref (ad 15 (0))), (4, .int (iI ((j : Nat) : Int)))]) hx hb dL_law_1213 hl (by decide) rfl (fun ls hl => ?_)
    refine lv_aload_n hx hb dL_law_1215 rfl (lv_at hl 3 rfl) ?_
    refine lv_aload_n hx hb dL_law_1216 rfl (lv_at hl 1 rfl) ?_
    refine lv_iload hx hb dL_law_1217 (lv_at hl 5 rfl) ?_
    refine lv_iconst (v := iI ((1 : Nat) : Int)) hx hb dL_law_1219 (by decide) ?_
    refine fw_iaddN (a := j) (b := 1) hx hb dL_law_1220 ?_
    refine ls_ldv (j := j + 1) (v := iI v_1) hv_1 hx hb hX hbl (by rw [hz]; exact hS) (by omega) hL dL_law_1221 ?_
    rw [WCM] at hP
    refine fw_cVi (As := [.int (iI (v_1))]) (rest := []) ⟨hx, hb, hml, hown, hts⟩ (c_X3_choices l D cA z ad σ th u a ((WC cA ad σ (oW cA (vp_updL f 0 ((iI ((choices σ (Int.toNat v_1) : Nat) : Int)).toInt64))))) ((v_1)) hI ⟨by omega, by omega⟩) (cwV 1 hts gL_law_X3_choices rfl rfl rfl (by decide +kernel) ⟨Nat.le_of_ble_eq_true rfl, Nat.le_of_ble_eq_true rfl⟩) WM_10 rfl rfl hl.1 (Nat.le_of_ble_eq_true rfl) dL_law_1222 ⟨show _ ≤ 658709 from by omega, show _ ≤ 7119977 from by omega⟩ hK hP hS rfl (fun r w' H locs q_3 hP hS => ?_)
    rcases q_3 with ⟨hok2, rfl, rfl⟩ | ⟨hbad2, rfl, rfl⟩
    · rw [← WCM] at hP
      refine lv_istore (lv' := [(6, .int (iI ((choices σ (Int.toNat v_1) : Nat) : Int))), (5, .int (iI (0))), (0, .ref b), (1, .ref (ad 0 (0))), (2, .ref (ad 10 (0))), (3, .ref (ad 15 (0))), (4, .int (iI ((j : Nat) : Int)))]) hx hb dL_law_1225 hl (by decide) rfl (fun ls hl => ?_)
      refine lv_aload_n hx hb dL_law_1227 rfl (lv_at hl 4 rfl) ?_
      rw [WCM] at hP
      refine fw_cVi (As := []) (rest := []) ⟨hx, hb, hml, hown, hts⟩ (c_X3_thrown l D cA z ad σ (((0 : Nat) : Int)) u a ((WC cA ad σ (oW cA (vp_updL f 0 ((iI ((choices σ (Int.toNat v_1) : Nat) : Int)).toInt64)))))  hI) (cwV 0 hts gL_law_X3_thrown rfl rfl rfl (by decide +kernel) ⟨Nat.le_of_ble_eq_true rfl, Nat.le_of_ble_eq_true rfl⟩) WM_10 rfl rfl hl.1 (Nat.le_of_ble_eq_true rfl) dL_law_1228 ⟨show _ ≤ 658709 from by omega, show _ ≤ 7119977 from by omega⟩ hK hP hS rfl (fun r w' H locs q_4 hP hS => ?_)
      obtain ⟨rfl, rfl⟩ := q_4
      have hn_5 := hI.n
      have hm_6 := hI.lim
      rw [← WCM] at hP
      refine lv_iload hx hb dL_law_1231 (lv_at hl 1 rfl) ?_
      refine lw_same (tgt := 1238) hx hb dL_law_1233 (by decide) ?_
      refine lv_iload hx hb dL_law_1238 (lv_at hl 1 rfl) ?_
      refine fw_if_ne (x := (0)) (tgt := 1255) hx hb dL_law_1240 (by decide) ⟨by omega, by omega⟩ (fun c_7 => absurd c_7 (by decide)) (fun c_7 => ?_)
      refine lv_aload_n hx hb dL_law_1243 rfl (lv_at hl 5 rfl) ?_
      refine lv_iconst (v := iI ((0 : Nat) : Int)) hx hb dL_law_1244 (by decide) ?_
      refine lw_ld0 (x := (iI ((choices σ (Int.toNat v_1) : Nat) : Int)).toInt64) hx hb hK hP ((WC_r (by decide)).trans (oW_15 cA _)) 4 rfl dL_law_1245 ?_
      refine lv_iload hx hb dL_law_1246 (lv_at hl 0 rfl) ?_
      refine lv_i2l (v := (iI (((choices σ (Int.toNat v_1) : Nat) : Int))).toInt64) hx hb dL_law_1248 rfl ?_
      refine W.lcmp hx hb dL_law_1249 ?_
      refine fw_top (v' := .int (iI 0)) (by rw [lg_cmp_self]) ?_
      refine fw_if_eq (x := (0)) (tgt := 1255) hx hb dL_law_1250 (by decide) ⟨by omega, by omega⟩ (fun c_8 => ?_) (fun c_8 => absurd c_8 (by decide))
      refine lv_goto (tgt := 1285) hx hb dL_law_1255 (by decide) ?_
      refine W.widen (k := cells + 3) (n := slots + 20) (by omega) (by omega) ?_
      exact kk σ ad (((0 : Nat) : Int)) u a (vp_updL f 0 ((iI ((choices σ (Int.toNat v_1) : Nat) : Int)).toInt64)) H locs ls hI hP hS (lv_sub hl [2, 3, 4, 5, 6] rfl)
    · exfalso; omega
  · have hP := hP
    refine lv_istore (lv' := [(5, .int (iI (1))), (0, .ref b), (1, .ref (ad 0 (0))), (2, .ref (ad 10 (0))), (3, .ref (ad 15 (0))), (4, .int (iI ((j : Nat) : Int)))]) hx hb dL_law_1213 hl (by decide) rfl (fun ls hl => ?_)
    refine lv_aload_n hx hb dL_law_1215 rfl (lv_at hl 3 rfl) ?_
    refine lv_aload_n hx hb dL_law_1216 rfl (lv_at hl 1 rfl) ?_
    refine lv_iload hx hb dL_law_1217 (lv_at hl 5 rfl) ?_
    refine lv_iconst (v := iI ((1 : Nat) : Int)) hx hb dL_law_1219 (by decide) ?_
    refine fw_iaddN (a := j) (b := 1) hx hb dL_law_1220 ?_
    refine ls_ldv (j := j + 1) (v := iI v_1) hv_1 hx hb hX hbl (by rw [hz]; exact hS) (by omega) hL dL_law_1221 ?_
    rw [WCM] at hP
    refine fw_cVi (As := [.int (iI (v_1))]) (rest := []) ⟨hx, hb, hml, hown, hts⟩ (c_X3_choices l D cA z ad σ th u a ((WC cA ad σ (oW cA f))) ((v_1)) hI ⟨by omega, by omega⟩) (cwV 1 hts gL_law_X3_choices rfl rfl rfl (by decide +kernel) ⟨Nat.le_of_ble_eq_true rfl, Nat.le_of_ble_eq_true rfl⟩) WM_10 rfl rfl hl.1 (Nat.le_of_ble_eq_true rfl) dL_law_1222 ⟨show _ ≤ 658709 from by omega, show _ ≤ 7119977 from by omega⟩ hK hP hS rfl (fun r w' H locs q_9 hP hS => ?_)
    rcases q_9 with ⟨hok2, rfl, rfl⟩ | ⟨hbad2, rfl, rfl⟩
    · exfalso; omega
    · rw [← WCM] at hP
      refine lv_istore (lv' := [(6, .int (iI (0))), (5, .int (iI (1))), (0, .ref b), (1, .ref (ad 0 (0))), (2, .ref (ad 10 (0))), (3, .ref (ad 15 (0))), (4, .int (iI ((j : Nat) : Int)))]) hx hb dL_law_1225 hl (by decide) rfl (fun ls hl => ?_)
      refine lv_aload_n hx hb dL_law_1227 rfl (lv_at hl 4 rfl) ?_
      rw [WCM] at hP
      refine fw_cVi (As := []) (rest := []) ⟨hx, hb, hml, hown, hts⟩ (c_X3_thrown l D cA z ad σ (((1 : Nat) : Int)) u a ((WC cA ad σ (oW cA f)))  hI) (cwV 0 hts gL_law_X3_thrown rfl rfl rfl (by decide +kernel) ⟨Nat.le_of_ble_eq_true rfl, Nat.le_of_ble_eq_true rfl⟩) WM_10 rfl rfl hl.1 (Nat.le_of_ble_eq_true rfl) dL_law_1228 ⟨show _ ≤ 658709 from by omega, show _ ≤ 7119977 from by omega⟩ hK hP hS rfl (fun r w' H locs q_10 hP hS => ?_)
      obtain ⟨rfl, rfl⟩ := q_10
      have hn_11 := hI.n
      have hm_12 := hI.lim
      rw [← WCM] at hP
      refine lv_iload hx hb dL_law_1231 (lv_at hl 1 rfl) ?_
      refine lw_same (tgt := 1238) hx hb dL_law_1233 (by decide) ?_
      refine lv_iload hx hb dL_law_1238 (lv_at hl 1 rfl) ?_
      refine fw_if_ne (x := (1)) (tgt := 1255) hx hb dL_law_1240 (by decide) ⟨by omega, by omega⟩ (fun c_13 => ?_) (fun c_13 => absurd c_13 (by decide))
      refine lv_goto (tgt := 1285) hx hb dL_law_1255 (by decide) ?_
      refine W.widen (k := cells + 3) (n := slots + 20) (by omega) (by omega) ?_
      exact kk σ ad (((1 : Nat) : Int)) u a f H locs ls hI hP hS (lv_sub hl [2, 3, 4, 5, 6] rfl)

set_option maxHeartbeats 4000000 in
set_option maxRecDepth 100000 in
theorem arm_limits {p : Program} {l : Launch} {e : Env} {s : State} {m : MethodId} {args : Array Value} {below : List Frame} {meth : Method} {cd : Code} {Q : State → Prop} {D : va_G} {cA : Nat → ClassId} {sa : Nat → Nat} {b L : Nat} {xs : Nat → Int32} {H : Heap} {locs : List Loc} {cells slots : Nat} {ls : Array Slot} {ad : fw_Ad} {σ : St} {th u a : Int} {f : Nat → Int64} {j : Nat} (X : LX p l s m args cd b L xs D cA sa) (hj : j + 5 ≤ L) (hI : Inv σ) (hP : fw_P D vwCl s.heap.size ad (WC cA ad σ (WM cA ad σ th u a (oW cA f))) H) (hS : va_S (fw_A s.heap.size) s.heap H locs) (hl : lv_has ls 9 [(0, .ref b), (1, .ref (ad 0 0)), (2, .ref (ad 10 0)), (3, .ref (ad 15 0)), (4, .int (iI ((j : Nat) : Int)))]) (hro : cells + 3 ≤ 658709 ∧ slots + 20 ≤ 7119977) (hlocks : meth.locks = false)
    (kk : ∀ (σ : St) (ad : fw_Ad) (th u a : Int) (f : Nat → Int64) (H : Heap) (locs : List Loc) (ls : Array Slot), Inv σ → fw_P D vwCl s.heap.size ad (WC cA ad σ (WM cA ad σ th u a (oW cA f))) H → va_S (fw_A s.heap.size) s.heap H locs → lv_has ls 9 [(0, .ref b), (1, .ref (ad 0 0)), (2, .ref (ad 10 0)), (3, .ref (ad 15 0)), (4, .int (iI ((j : Nat) : Int)))] → W p l e room_1 s m args below meth cd H locs (cells + 3) (slots + 20) Q (F0 m 1285 ls [])) : W p l e room_1 s m args below meth cd H locs cells slots Q (F0 m 304 ls []) := by
  obtain ⟨hx, hb, hml, hown, hts, hX, hbl, hL, hK, hAO, hE, hl0⟩ := X
  generalize hz : s.heap.size = z at hP hS kk hE
  refine lv_aload_n hx hb dL_law_304 rfl (lv_at hl 1 rfl) ?_
  refine lv_aload_n hx hb dL_law_305 rfl (lv_at hl 0 rfl) ?_
  refine lv_iload hx hb dL_law_306 (lv_at hl 4 rfl) ?_
  refine lv_iconst (v := iI ((1 : Nat) : Int)) hx hb dL_law_308 (by decide) ?_
  refine fw_iaddN (a := j) (b := 1) hx hb dL_law_309 ?_
  obtain ⟨v_1, hv_1, hv_1a, hv_1b⟩ := iI_ex (xs (j + 1))
  refine ls_ldv (j := j + 1) (v := iI v_1) hv_1 hx hb hX hbl (by rw [hz]; exact hS) (by omega) hL dL_law_310 ?_
  refine lv_aload_n hx hb dL_law_311 rfl (lv_at hl 0 rfl) ?_
  refine lv_iload hx hb dL_law_312 (lv_at hl 4 rfl) ?_
  refine lv_iconst (v := iI ((2 : Nat) : Int)) hx hb dL_law_314 (by decide) ?_
  refine fw_iaddN (a := j) (b := 2) hx hb dL_law_315 ?_
  obtain ⟨v_2, hv_2, hv_2a, hv_2b⟩ := iI_ex (xs (j + 2))
  refine ls_ldv (j := j + 2) (v := iI v_2) hv_2 hx hb hX hbl (by rw [hz]; exact hS) (by omega) hL dL_law_316 ?_
  refine lv_aload_n hx hb dL_law_317 rfl (lv_at hl 0 rfl) ?_
  refine lv_iload hx hb dL_law_318 (lv_at hl 4 rfl) ?_
  refine lv_iconst (v := iI ((3 : Nat) : Int)) hx hb dL_law_320 (by decide) ?_
  refine fw_iaddN (a := j) (b := 3) hx hb dL_law_321 ?_
  obtain ⟨v_3, hv_3, hv_3a, hv_3b⟩ := iI_ex (xs (j + 3))
  refine ls_ldv (j := j + 3) (v := iI v_3) hv_3 hx hb hX hbl (by rw [hz]; exact hS) (by omega) hL dL_law_322 ?_
  refine lv_aload_n hx hb dL_law_323 rfl (lv_at hl 3 rfl) ?_
  refine fh_cSi (As := [.ref (ad 0 (0)), .int (iI (v_1)), .int (iI (v_2)), .int (iI (v_3)), .ref (ad 15 (0))]) (rest := []) ⟨hx, hb, hml, hown, hts⟩ (c_L_setLimits l hl0 D cA z ad sa σ (WM cA ad σ th u a (oW cA f)) f ((v_1)) ((v_2)) ((v_3)) hI (oW_15 cA _) ⟨by omega, by omega⟩ ⟨by omega, by omega⟩ ⟨by omega, by omega⟩) (vx_cwSW 5 hts gL_law_L_setLimits rfl rfl rfl (by decide +kernel) ⟨Nat.le_of_ble_eq_true rfl, Nat.le_of_ble_eq_true rfl⟩) rfl hl.1 (Nat.le_of_ble_eq_true rfl) dL_law_324 ⟨show _ ≤ 658709 from by omega, show _ ≤ 7119977 from by omega⟩ hK hE hP hS rfl (fun r w' H locs q_4 hP hS => ?_)
  rcases q_4 with ⟨hok, rfl, rfl⟩ | ⟨hbad, rfl, rfl⟩
  · rw [oU_W] at hP
    refine lv_istore (lv' := [(5, .int (iI (0))), (0, .ref b), (1, .ref (ad 0 (0))), (2, .ref (ad 10 (0))), (3, .ref (ad 15 (0))), (4, .int (iI ((j : Nat) : Int)))]) hx hb dL_law_327 hl (by decide) rfl (fun ls hl => ?_)
    refine lv_aload_n hx hb dL_law_329 rfl (lv_at hl 3 rfl) ?_
    refine lv_aload_n hx hb dL_law_330 rfl (lv_at hl 1 rfl) ?_
    refine lv_iload hx hb dL_law_331 (lv_at hl 5 rfl) ?_
    refine lv_iconst (v := iI ((1 : Nat) : Int)) hx hb dL_law_333 (by decide) ?_
    refine fw_iaddN (a := j) (b := 1) hx hb dL_law_334 ?_
    refine ls_ldv (j := j + 1) (v := iI v_1) hv_1 hx hb hX hbl (by rw [hz]; exact hS) (by omega) hL dL_law_335 ?_
    refine lv_aload_n hx hb dL_law_336 rfl (lv_at hl 1 rfl) ?_
    refine lv_iload hx hb dL_law_337 (lv_at hl 5 rfl) ?_
    refine lv_iconst (v := iI ((2 : Nat) : Int)) hx hb dL_law_339 (by decide) ?_
    refine fw_iaddN (a := j) (b := 2) hx hb dL_law_340 ?_
    refine ls_ldv (j := j + 2) (v := iI v_2) hv_2 hx hb hX hbl (by rw [hz]; exact hS) (by omega) hL dL_law_341 ?_
    refine lv_aload_n hx hb dL_law_342 rfl (lv_at hl 1 rfl) ?_
    refine lv_iload hx hb dL_law_343 (lv_at hl 5 rfl) ?_
    refine lv_iconst (v := iI ((3 : Nat) : Int)) hx hb dL_law_345 (by decide) ?_
    refine fw_iaddN (a := j) (b := 3) hx hb dL_law_346 ?_
    refine ls_ldv (j := j + 3) (v := iI v_3) hv_3 hx hb hX hbl (by rw [hz]; exact hS) (by omega) hL dL_law_347 ?_
    rw [WCM] at hP
    refine fw_cVi (As := [.int (iI (v_1)), .int (iI (v_2)), .int (iI (v_3))]) (rest := []) ⟨hx, hb, hml, hown, hts⟩ (c_X3_setLimits l D cA z ad σ th u a ((WC cA ad (limS σ (Int.toNat v_1) (Int.toNat v_2) (Int.toNat v_3)) (oW cA (vp_updL f 0 ((iI ((σ 8 1 : Nat) : Int)).toInt64))))) ((v_1)) ((v_2)) ((v_3)) hI ⟨by omega, by omega⟩ ⟨by omega, by omega⟩ ⟨by omega, by omega⟩) (cwV 3 hts gL_law_X3_setLimits rfl rfl rfl (by decide +kernel) ⟨Nat.le_of_ble_eq_true rfl, Nat.le_of_ble_eq_true rfl⟩) WM_10 rfl rfl hl.1 (Nat.le_of_ble_eq_true rfl) dL_law_348 ⟨show _ ≤ 658709 from by omega, show _ ≤ 7119977 from by omega⟩ hK hP hS rfl (fun r w' H locs q_5 hP hS => ?_)
    rcases q_5 with ⟨hok2, rfl, rfl⟩ | ⟨hbad2, rfl, rfl⟩
    · rw [← WCM] at hP
      have hI2 : Inv (limS σ (Int.toNat v_1) (Int.toNat v_2) (Int.toNat v_3)) := Inv_lim hI (by omega) (by omega) (by omega)
      refine lv_istore (lv' := [(6, .int (iI ((σ 8 1 : Nat) : Int))), (5, .int (iI (0))), (0, .ref b), (1, .ref (ad 0 (0))), (2, .ref (ad 10 (0))), (3, .ref (ad 15 (0))), (4, .int (iI ((j : Nat) : Int)))]) hx hb dL_law_351 hl (by decide) rfl (fun ls hl => ?_)
      refine lv_aload_n hx hb dL_law_353 rfl (lv_at hl 4 rfl) ?_
      rw [WCM] at hP
      refine fw_cVi (As := []) (rest := []) ⟨hx, hb, hml, hown, hts⟩ (c_X3_thrown l D cA z ad (limS σ (Int.toNat v_1) (Int.toNat v_2) (Int.toNat v_3)) (((0 : Nat) : Int)) u a ((WC cA ad (limS σ (Int.toNat v_1) (Int.toNat v_2) (Int.toNat v_3)) (oW cA (vp_updL f 0 ((iI ((σ 8 1 : Nat) : Int)).toInt64)))))  hI2) (cwV 0 hts gL_law_X3_thrown rfl rfl rfl (by decide +kernel) ⟨Nat.le_of_ble_eq_true rfl, Nat.le_of_ble_eq_true rfl⟩) WM_10 rfl rfl hl.1 (Nat.le_of_ble_eq_true rfl) dL_law_354 ⟨show _ ≤ 658709 from by omega, show _ ≤ 7119977 from by omega⟩ hK hP hS rfl (fun r w' H locs q_6 hP hS => ?_)
      obtain ⟨rfl, rfl⟩ := q_6
      have hn_7 := hI2.n
      have hm_8 := hI2.lim
      rw [← WCM] at hP
      refine lv_iload hx hb dL_law_357 (lv_at hl 1 rfl) ?_
      refine lw_same (tgt := 364) hx hb dL_law_359 (by decide) ?_
      refine lv_iload hx hb dL_law_364 (lv_at hl 1 rfl) ?_
      refine fw_if_ne (x := (0)) (tgt := 381) hx hb dL_law_366 (by decide) ⟨by omega, by omega⟩ (fun c_9 => absurd c_9 (by decide)) (fun c_9 => ?_)
      refine lv_aload_n hx hb dL_law_369 rfl (lv_at hl 5 rfl) ?_
      refine lv_iconst (v := iI ((0 : Nat) : Int)) hx hb dL_law_370 (by decide) ?_
      refine lw_ld0 (x := (iI ((σ 8 1 : Nat) : Int)).toInt64) hx hb hK hP ((WC_r (by decide)).trans (oW_15 cA _)) 4 rfl dL_law_371 ?_
      refine lv_iload hx hb dL_law_372 (lv_at hl 0 rfl) ?_
      refine lv_i2l (v := (iI (((σ 8 1 : Nat) : Int))).toInt64) hx hb dL_law_374 rfl ?_
      refine W.lcmp hx hb dL_law_375 ?_
      refine fw_top (v' := .int (iI 0)) (by rw [lg_cmp_self]) ?_
      refine fw_if_eq (x := (0)) (tgt := 381) hx hb dL_law_376 (by decide) ⟨by omega, by omega⟩ (fun c_10 => ?_) (fun c_10 => absurd c_10 (by decide))
      refine lv_goto (tgt := 1285) hx hb dL_law_381 (by decide) ?_
      refine W.widen (k := cells + 3) (n := slots + 20) (by omega) (by omega) ?_
      exact kk (limS σ (Int.toNat v_1) (Int.toNat v_2) (Int.toNat v_3)) ad (((0 : Nat) : Int)) u a (vp_updL f 0 ((iI ((σ 8 1 : Nat) : Int)).toInt64)) H locs ls hI2 hP hS (lv_sub hl [2, 3, 4, 5, 6] rfl)
    · exfalso; omega
  · have hP := hP
    refine lv_istore (lv' := [(5, .int (iI (1))), (0, .ref b), (1, .ref (ad 0 (0))), (2, .ref (ad 10 (0))), (3, .ref (ad 15 (0))), (4, .int (iI ((j : Nat) : Int)))]) hx hb dL_law_327 hl (by decide) rfl (fun ls hl => ?_)
    refine lv_aload_n hx hb dL_law_329 rfl (lv_at hl 3 rfl) ?_
    refine lv_aload_n hx hb dL_law_330 rfl (lv_at hl 1 rfl) ?_
    refine lv_iload hx hb dL_law_331 (lv_at hl 5 rfl) ?_
    refine lv_iconst (v := iI ((1 : Nat) : Int)) hx hb dL_law_333 (by decide) ?_
    refine fw_iaddN (a := j) (b := 1) hx hb dL_law_334 ?_
    refine ls_ldv (j := j + 1) (v := iI v_1) hv_1 hx hb hX hbl (by rw [hz]; exact hS) (by omega) hL dL_law_335 ?_
    refine lv_aload_n hx hb dL_law_336 rfl (lv_at hl 1 rfl) ?_
    refine lv_iload hx hb dL_law_337 (lv_at hl 5 rfl) ?_
    refine lv_iconst (v := iI ((2 : Nat) : Int)) hx hb dL_law_339 (by decide) ?_
    refine fw_iaddN (a := j) (b := 2) hx hb dL_law_340 ?_
    refine ls_ldv (j := j + 2) (v := iI v_2) hv_2 hx hb hX hbl (by rw [hz]; exact hS) (by omega) hL dL_law_341 ?_
    refine lv_aload_n hx hb dL_law_342 rfl (lv_at hl 1 rfl) ?_
    refine lv_iload hx hb dL_law_343 (lv_at hl 5 rfl) ?_
    refine lv_iconst (v := iI ((3 : Nat) : Int)) hx hb dL_law_345 (by decide) ?_
    refine fw_iaddN (a := j) (b := 3) hx hb dL_law_346 ?_
    refine ls_ldv (j := j + 3) (v := iI v_3) hv_3 hx hb hX hbl (by rw [hz]; exact hS) (by omega) hL dL_law_347 ?_
    rw [WCM] at hP
    refine fw_cVi (As := [.int (iI (v_1)), .int (iI (v_2)), .int (iI (v_3))]) (rest := []) ⟨hx, hb, hml, hown, hts⟩ (c_X3_setLimits l D cA z ad σ th u a ((WC cA ad σ (oW cA f))) ((v_1)) ((v_2)) ((v_3)) hI ⟨by omega, by omega⟩ ⟨by omega, by omega⟩ ⟨by omega, by omega⟩) (cwV 3 hts gL_law_X3_setLimits rfl rfl rfl (by decide +kernel) ⟨Nat.le_of_ble_eq_true rfl, Nat.le_of_ble_eq_true rfl⟩) WM_10 rfl rfl hl.1 (Nat.le_of_ble_eq_true rfl) dL_law_348 ⟨show _ ≤ 658709 from by omega, show _ ≤ 7119977 from by omega⟩ hK hP hS rfl (fun r w' H locs q_11 hP hS => ?_)
    rcases q_11 with ⟨hok2, rfl, rfl⟩ | ⟨hbad2, rfl, rfl⟩
    · exfalso; omega
    · rw [← WCM] at hP
      refine lv_istore (lv' := [(6, .int (iI (0))), (5, .int (iI (1))), (0, .ref b), (1, .ref (ad 0 (0))), (2, .ref (ad 10 (0))), (3, .ref (ad 15 (0))), (4, .int (iI ((j : Nat) : Int)))]) hx hb dL_law_351 hl (by decide) rfl (fun ls hl => ?_)
      refine lv_aload_n hx hb dL_law_353 rfl (lv_at hl 4 rfl) ?_
      rw [WCM] at hP
      refine fw_cVi (As := []) (rest := []) ⟨hx, hb, hml, hown, hts⟩ (c_X3_thrown l D cA z ad σ (((1 : Nat) : Int)) u a ((WC cA ad σ (oW cA f)))  hI) (cwV 0 hts gL_law_X3_thrown rfl rfl rfl (by decide +kernel) ⟨Nat.le_of_ble_eq_true rfl, Nat.le_of_ble_eq_true rfl⟩) WM_10 rfl rfl hl.1 (Nat.le_of_ble_eq_true rfl) dL_law_354 ⟨show _ ≤ 658709 from by omega, show _ ≤ 7119977 from by omega⟩ hK hP hS rfl (fun r w' H locs q_12 hP hS => ?_)
      obtain ⟨rfl, rfl⟩ := q_12
      have hn_13 := hI.n
      have hm_14 := hI.lim
      rw [← WCM] at hP
      refine lv_iload hx hb dL_law_357 (lv_at hl 1 rfl) ?_
      refine lw_same (tgt := 364) hx hb dL_law_359 (by decide) ?_
      refine lv_iload hx hb dL_law_364 (lv_at hl 1 rfl) ?_
      refine fw_if_ne (x := (1)) (tgt := 381) hx hb dL_law_366 (by decide) ⟨by omega, by omega⟩ (fun c_15 => ?_) (fun c_15 => absurd c_15 (by decide))
      refine lv_goto (tgt := 1285) hx hb dL_law_381 (by decide) ?_
      refine W.widen (k := cells + 3) (n := slots + 20) (by omega) (by omega) ?_
      exact kk σ ad (((1 : Nat) : Int)) u a f H locs ls hI hP hS (lv_sub hl [2, 3, 4, 5, 6] rfl)

set_option maxHeartbeats 4000000 in
set_option maxRecDepth 100000 in
theorem arm_load {p : Program} {l : Launch} {e : Env} {s : State} {m : MethodId} {args : Array Value} {below : List Frame} {meth : Method} {cd : Code} {Q : State → Prop} {D : va_G} {cA : Nat → ClassId} {sa : Nat → Nat} {b L : Nat} {xs : Nat → Int32} {H : Heap} {locs : List Loc} {cells slots : Nat} {ls : Array Slot} {ad : fw_Ad} {σ : St} {th u a : Int} {f : Nat → Int64} {j : Nat} (X : LX p l s m args cd b L xs D cA sa) (hj : j + 5 ≤ L) (hI : Inv σ) (hP : fw_P D vwCl s.heap.size ad (WC cA ad σ (WM cA ad σ th u a (oW cA f))) H) (hS : va_S (fw_A s.heap.size) s.heap H locs) (hl : lv_has ls 9 [(0, .ref b), (1, .ref (ad 0 0)), (2, .ref (ad 10 0)), (3, .ref (ad 15 0)), (4, .int (iI ((j : Nat) : Int)))]) (hro : cells + 3 ≤ 658709 ∧ slots + 20 ≤ 7119977) (hlocks : meth.locks = false)
    (kk : ∀ (σ : St) (ad : fw_Ad) (th u a : Int) (f : Nat → Int64) (H : Heap) (locs : List Loc) (ls : Array Slot), Inv σ → fw_P D vwCl s.heap.size ad (WC cA ad σ (WM cA ad σ th u a (oW cA f))) H → va_S (fw_A s.heap.size) s.heap H locs → lv_has ls 9 [(0, .ref b), (1, .ref (ad 0 0)), (2, .ref (ad 10 0)), (3, .ref (ad 15 0)), (4, .int (iI ((j : Nat) : Int)))] → W p l e room_1 s m args below meth cd H locs (cells + 3) (slots + 20) Q (F0 m 1285 ls [])) : W p l e room_1 s m args below meth cd H locs cells slots Q (F0 m 574 ls []) := by
  obtain ⟨hx, hb, hml, hown, hts, hX, hbl, hL, hK, hAO, hE, hl0⟩ := X
  generalize hz : s.heap.size = z at hP hS kk hE
  refine lv_aload_n hx hb dL_law_574 rfl (lv_at hl 1 rfl) ?_
  refine lv_aload_n hx hb dL_law_575 rfl (lv_at hl 0 rfl) ?_
  refine lv_iload hx hb dL_law_576 (lv_at hl 4 rfl) ?_
  refine lv_iconst (v := iI ((1 : Nat) : Int)) hx hb dL_law_578 (by decide) ?_
  refine fw_iaddN (a := j) (b := 1) hx hb dL_law_579 ?_
  obtain ⟨v_1, hv_1, hv_1a, hv_1b⟩ := iI_ex (xs (j + 1))
  refine ls_ldv (j := j + 1) (v := iI v_1) hv_1 hx hb hX hbl (by rw [hz]; exact hS) (by omega) hL dL_law_580 ?_
  refine lv_aload_n hx hb dL_law_581 rfl (lv_at hl 0 rfl) ?_
  refine lv_iload hx hb dL_law_582 (lv_at hl 4 rfl) ?_
  refine lv_iconst (v := iI ((2 : Nat) : Int)) hx hb dL_law_584 (by decide) ?_
  refine fw_iaddN (a := j) (b := 2) hx hb dL_law_585 ?_
  obtain ⟨v_2, hv_2, hv_2a, hv_2b⟩ := iI_ex (xs (j + 2))
  refine ls_ldv (j := j + 2) (v := iI v_2) hv_2 hx hb hX hbl (by rw [hz]; exact hS) (by omega) hL dL_law_586 ?_
  refine lv_aload_n hx hb dL_law_587 rfl (lv_at hl 0 rfl) ?_
  refine lv_iload hx hb dL_law_588 (lv_at hl 4 rfl) ?_
  refine lv_iconst (v := iI ((3 : Nat) : Int)) hx hb dL_law_590 (by decide) ?_
  refine fw_iaddN (a := j) (b := 3) hx hb dL_law_591 ?_
  obtain ⟨v_3, hv_3, hv_3a, hv_3b⟩ := iI_ex (xs (j + 3))
  refine ls_ldv (j := j + 3) (v := iI v_3) hv_3 hx hb hX hbl (by rw [hz]; exact hS) (by omega) hL dL_law_592 ?_
  refine lv_aload_n hx hb dL_law_593 rfl (lv_at hl 3 rfl) ?_
  refine fh_cSi (As := [.ref (ad 0 (0)), .int (iI (v_1)), .int (iI (v_2)), .int (iI (v_3)), .ref (ad 15 (0))]) (rest := []) ⟨hx, hb, hml, hown, hts⟩ (c_L_load l hl0 D cA z ad sa σ (WM cA ad σ th u a (oW cA f)) f ((v_1)) ((v_2)) ((v_3)) hI (oW_15 cA _) ⟨by omega, by omega⟩ ⟨by omega, by omega⟩ ⟨by omega, by omega⟩) (vx_cwSW 5 hts gL_law_L_load rfl rfl rfl (by decide +kernel) ⟨Nat.le_of_ble_eq_true rfl, Nat.le_of_ble_eq_true rfl⟩) rfl hl.1 (Nat.le_of_ble_eq_true rfl) dL_law_594 ⟨show _ ≤ 658709 from by omega, show _ ≤ 7119977 from by omega⟩ hK hE hP hS rfl (fun r w' H locs q_4 hP hS => ?_)
  rcases q_4 with ⟨hok, hal, rfl, rfl⟩ | ⟨hbad, rfl, rfl⟩ | ⟨hok, hna, rfl, rfl⟩
  · rw [oU_W] at hP
    refine lv_istore (lv' := [(5, .int (iI (0))), (0, .ref b), (1, .ref (ad 0 (0))), (2, .ref (ad 10 (0))), (3, .ref (ad 15 (0))), (4, .int (iI ((j : Nat) : Int)))]) hx hb dL_law_597 hl (by decide) rfl (fun ls hl => ?_)
    refine lv_aload_n hx hb dL_law_599 rfl (lv_at hl 3 rfl) ?_
    refine lv_aload_n hx hb dL_law_600 rfl (lv_at hl 1 rfl) ?_
    refine lv_iload hx hb dL_law_601 (lv_at hl 5 rfl) ?_
    refine lv_iconst (v := iI ((1 : Nat) : Int)) hx hb dL_law_603 (by decide) ?_
    refine fw_iaddN (a := j) (b := 1) hx hb dL_law_604 ?_
    refine ls_ldv (j := j + 1) (v := iI v_1) hv_1 hx hb hX hbl (by rw [hz]; exact hS) (by omega) hL dL_law_605 ?_
    refine lv_aload_n hx hb dL_law_606 rfl (lv_at hl 1 rfl) ?_
    refine lv_iload hx hb dL_law_607 (lv_at hl 5 rfl) ?_
    refine lv_iconst (v := iI ((2 : Nat) : Int)) hx hb dL_law_609 (by decide) ?_
    refine fw_iaddN (a := j) (b := 2) hx hb dL_law_610 ?_
    refine ls_ldv (j := j + 2) (v := iI v_2) hv_2 hx hb hX hbl (by rw [hz]; exact hS) (by omega) hL dL_law_611 ?_
    refine lv_aload_n hx hb dL_law_612 rfl (lv_at hl 1 rfl) ?_
    refine lv_iload hx hb dL_law_613 (lv_at hl 5 rfl) ?_
    refine lv_iconst (v := iI ((3 : Nat) : Int)) hx hb dL_law_615 (by decide) ?_
    refine fw_iaddN (a := j) (b := 3) hx hb dL_law_616 ?_
    refine ls_ldv (j := j + 3) (v := iI v_3) hv_3 hx hb hX hbl (by rw [hz]; exact hS) (by omega) hL dL_law_617 ?_
    rw [WCM] at hP
    refine fw_cVi (As := [.int (iI (v_1)), .int (iI (v_2)), .int (iI (v_3))]) (rest := []) ⟨hx, hb, hml, hown, hts⟩ (c_X3_load l D cA z ad σ th u a ((WC cA ad (putS σ (Int.toNat v_1) (5 * Int.toNat v_2 + Int.toNat v_3)) (oW cA (vp_updL f 0 ((iI ((high σ (5 * Int.toNat v_2 + Int.toNat v_3) : Nat) : Int)).toInt64))))) ((v_1)) ((v_2)) ((v_3)) hI ⟨by omega, by omega⟩ ⟨by omega, by omega⟩ ⟨by omega, by omega⟩) (cwV 3 hts gL_law_X3_load rfl rfl rfl (by decide +kernel) ⟨Nat.le_of_ble_eq_true rfl, Nat.le_of_ble_eq_true rfl⟩) WM_10 rfl rfl hl.1 (Nat.le_of_ble_eq_true rfl) dL_law_618 ⟨show _ ≤ 658709 from by omega, show _ ≤ 7119977 from by omega⟩ hK hP hS rfl (fun r w' H locs q_5 hP hS => ?_)
    rcases q_5 with ⟨hbad2, rfl, rfl⟩ | ⟨hok2, hna2, rfl, rfl⟩ | ⟨hok2, hal2, rfl, rfl⟩
    · exfalso; first | omega | exact absurd hal hna2 | exact absurd hal2 hna
    · exfalso; first | omega | exact absurd hal hna2 | exact absurd hal2 hna
    · rw [← WCM] at hP
      have hI2 : Inv (putS σ (Int.toNat v_1) (5 * Int.toNat v_2 + Int.toNat v_3)) := Inv_put hI (by omega) (by omega) hal.1 hal.2.2.1
      refine lv_istore (lv' := [(6, .int (iI ((high σ (5 * Int.toNat v_2 + Int.toNat v_3) : Nat) : Int))), (5, .int (iI (0))), (0, .ref b), (1, .ref (ad 0 (0))), (2, .ref (ad 10 (0))), (3, .ref (ad 15 (0))), (4, .int (iI ((j : Nat) : Int)))]) hx hb dL_law_621 hl (by decide) rfl (fun ls hl => ?_)
      refine lv_aload_n hx hb dL_law_623 rfl (lv_at hl 4 rfl) ?_
      rw [WCM] at hP
      refine fw_cVi (As := []) (rest := []) ⟨hx, hb, hml, hown, hts⟩ (c_X3_thrown l D cA z ad (putS σ (Int.toNat v_1) (5 * Int.toNat v_2 + Int.toNat v_3)) (((0 : Nat) : Int)) u a ((WC cA ad (putS σ (Int.toNat v_1) (5 * Int.toNat v_2 + Int.toNat v_3)) (oW cA (vp_updL f 0 ((iI ((high σ (5 * Int.toNat v_2 + Int.toNat v_3) : Nat) : Int)).toInt64)))))  hI2) (cwV 0 hts gL_law_X3_thrown rfl rfl rfl (by decide +kernel) ⟨Nat.le_of_ble_eq_true rfl, Nat.le_of_ble_eq_true rfl⟩) WM_10 rfl rfl hl.1 (Nat.le_of_ble_eq_true rfl) dL_law_624 ⟨show _ ≤ 658709 from by omega, show _ ≤ 7119977 from by omega⟩ hK hP hS rfl (fun r w' H locs q_6 hP hS => ?_)
      obtain ⟨rfl, rfl⟩ := q_6
      have hn_7 := hI2.n
      have hm_8 := hI2.lim
      rw [← WCM] at hP
      refine lv_iload hx hb dL_law_627 (lv_at hl 1 rfl) ?_
      refine lw_same (tgt := 634) hx hb dL_law_629 (by decide) ?_
      refine lv_iload hx hb dL_law_634 (lv_at hl 1 rfl) ?_
      refine fw_if_ne (x := (0)) (tgt := 651) hx hb dL_law_636 (by decide) ⟨by omega, by omega⟩ (fun c_9 => absurd c_9 (by decide)) (fun c_9 => ?_)
      refine lv_aload_n hx hb dL_law_639 rfl (lv_at hl 5 rfl) ?_
      refine lv_iconst (v := iI ((0 : Nat) : Int)) hx hb dL_law_640 (by decide) ?_
      refine lw_ld0 (x := (iI ((high σ (5 * Int.toNat v_2 + Int.toNat v_3) : Nat) : Int)).toInt64) hx hb hK hP ((WC_r (by decide)).trans (oW_15 cA _)) 4 rfl dL_law_641 ?_
      refine lv_iload hx hb dL_law_642 (lv_at hl 0 rfl) ?_
      refine lv_i2l (v := (iI (((high σ (5 * Int.toNat v_2 + Int.toNat v_3) : Nat) : Int))).toInt64) hx hb dL_law_644 rfl ?_
      refine W.lcmp hx hb dL_law_645 ?_
      refine fw_top (v' := .int (iI 0)) (by rw [lg_cmp_self]) ?_
      refine fw_if_eq (x := (0)) (tgt := 651) hx hb dL_law_646 (by decide) ⟨by omega, by omega⟩ (fun c_10 => ?_) (fun c_10 => absurd c_10 (by decide))
      refine lv_goto (tgt := 1285) hx hb dL_law_651 (by decide) ?_
      refine W.widen (k := cells + 3) (n := slots + 20) (by omega) (by omega) ?_
      exact kk (putS σ (Int.toNat v_1) (5 * Int.toNat v_2 + Int.toNat v_3)) ad (((0 : Nat) : Int)) u a (vp_updL f 0 ((iI ((high σ (5 * Int.toNat v_2 + Int.toNat v_3) : Nat) : Int)).toInt64)) H locs ls hI2 hP hS (lv_sub hl [2, 3, 4, 5, 6] rfl)
  · have hP := hP
    refine lv_istore (lv' := [(5, .int (iI (1))), (0, .ref b), (1, .ref (ad 0 (0))), (2, .ref (ad 10 (0))), (3, .ref (ad 15 (0))), (4, .int (iI ((j : Nat) : Int)))]) hx hb dL_law_597 hl (by decide) rfl (fun ls hl => ?_)
    refine lv_aload_n hx hb dL_law_599 rfl (lv_at hl 3 rfl) ?_
    refine lv_aload_n hx hb dL_law_600 rfl (lv_at hl 1 rfl) ?_
    refine lv_iload hx hb dL_law_601 (lv_at hl 5 rfl) ?_
    refine lv_iconst (v := iI ((1 : Nat) : Int)) hx hb dL_law_603 (by decide) ?_
    refine fw_iaddN (a := j) (b := 1) hx hb dL_law_604 ?_
    refine ls_ldv (j := j + 1) (v := iI v_1) hv_1 hx hb hX hbl (by rw [hz]; exact hS) (by omega) hL dL_law_605 ?_
    refine lv_aload_n hx hb dL_law_606 rfl (lv_at hl 1 rfl) ?_
    refine lv_iload hx hb dL_law_607 (lv_at hl 5 rfl) ?_
    refine lv_iconst (v := iI ((2 : Nat) : Int)) hx hb dL_law_609 (by decide) ?_
    refine fw_iaddN (a := j) (b := 2) hx hb dL_law_610 ?_
    refine ls_ldv (j := j + 2) (v := iI v_2) hv_2 hx hb hX hbl (by rw [hz]; exact hS) (by omega) hL dL_law_611 ?_
    refine lv_aload_n hx hb dL_law_612 rfl (lv_at hl 1 rfl) ?_
    refine lv_iload hx hb dL_law_613 (lv_at hl 5 rfl) ?_
    refine lv_iconst (v := iI ((3 : Nat) : Int)) hx hb dL_law_615 (by decide) ?_
    refine fw_iaddN (a := j) (b := 3) hx hb dL_law_616 ?_
    refine ls_ldv (j := j + 3) (v := iI v_3) hv_3 hx hb hX hbl (by rw [hz]; exact hS) (by omega) hL dL_law_617 ?_
    rw [WCM] at hP
    refine fw_cVi (As := [.int (iI (v_1)), .int (iI (v_2)), .int (iI (v_3))]) (rest := []) ⟨hx, hb, hml, hown, hts⟩ (c_X3_load l D cA z ad σ th u a ((WC cA ad σ (oW cA f))) ((v_1)) ((v_2)) ((v_3)) hI ⟨by omega, by omega⟩ ⟨by omega, by omega⟩ ⟨by omega, by omega⟩) (cwV 3 hts gL_law_X3_load rfl rfl rfl (by decide +kernel) ⟨Nat.le_of_ble_eq_true rfl, Nat.le_of_ble_eq_true rfl⟩) WM_10 rfl rfl hl.1 (Nat.le_of_ble_eq_true rfl) dL_law_618 ⟨show _ ≤ 658709 from by omega, show _ ≤ 7119977 from by omega⟩ hK hP hS rfl (fun r w' H locs q_11 hP hS => ?_)
    rcases q_11 with ⟨hbad2, rfl, rfl⟩ | ⟨hok2, hna2, rfl, rfl⟩ | ⟨hok2, hal2, rfl, rfl⟩
    · rw [← WCM] at hP
      refine lv_istore (lv' := [(6, .int (iI (0))), (5, .int (iI (1))), (0, .ref b), (1, .ref (ad 0 (0))), (2, .ref (ad 10 (0))), (3, .ref (ad 15 (0))), (4, .int (iI ((j : Nat) : Int)))]) hx hb dL_law_621 hl (by decide) rfl (fun ls hl => ?_)
      refine lv_aload_n hx hb dL_law_623 rfl (lv_at hl 4 rfl) ?_
      rw [WCM] at hP
      refine fw_cVi (As := []) (rest := []) ⟨hx, hb, hml, hown, hts⟩ (c_X3_thrown l D cA z ad σ (((1 : Nat) : Int)) u a ((WC cA ad σ (oW cA f)))  hI) (cwV 0 hts gL_law_X3_thrown rfl rfl rfl (by decide +kernel) ⟨Nat.le_of_ble_eq_true rfl, Nat.le_of_ble_eq_true rfl⟩) WM_10 rfl rfl hl.1 (Nat.le_of_ble_eq_true rfl) dL_law_624 ⟨show _ ≤ 658709 from by omega, show _ ≤ 7119977 from by omega⟩ hK hP hS rfl (fun r w' H locs q_12 hP hS => ?_)
      obtain ⟨rfl, rfl⟩ := q_12
      have hn_13 := hI.n
      have hm_14 := hI.lim
      rw [← WCM] at hP
      refine lv_iload hx hb dL_law_627 (lv_at hl 1 rfl) ?_
      refine lw_same (tgt := 634) hx hb dL_law_629 (by decide) ?_
      refine lv_iload hx hb dL_law_634 (lv_at hl 1 rfl) ?_
      refine fw_if_ne (x := (1)) (tgt := 651) hx hb dL_law_636 (by decide) ⟨by omega, by omega⟩ (fun c_15 => ?_) (fun c_15 => absurd c_15 (by decide))
      refine lv_goto (tgt := 1285) hx hb dL_law_651 (by decide) ?_
      refine W.widen (k := cells + 3) (n := slots + 20) (by omega) (by omega) ?_
      exact kk σ ad (((1 : Nat) : Int)) u a f H locs ls hI hP hS (lv_sub hl [2, 3, 4, 5, 6] rfl)
    · exfalso; first | omega | exact absurd hal hna2 | exact absurd hal2 hna
    · exfalso; first | omega | exact absurd hal hna2 | exact absurd hal2 hna
  · have hP := hP
    refine lv_istore (lv' := [(5, .int (iI (2))), (0, .ref b), (1, .ref (ad 0 (0))), (2, .ref (ad 10 (0))), (3, .ref (ad 15 (0))), (4, .int (iI ((j : Nat) : Int)))]) hx hb dL_law_597 hl (by decide) rfl (fun ls hl => ?_)
    refine lv_aload_n hx hb dL_law_599 rfl (lv_at hl 3 rfl) ?_
    refine lv_aload_n hx hb dL_law_600 rfl (lv_at hl 1 rfl) ?_
    refine lv_iload hx hb dL_law_601 (lv_at hl 5 rfl) ?_
    refine lv_iconst (v := iI ((1 : Nat) : Int)) hx hb dL_law_603 (by decide) ?_
    refine fw_iaddN (a := j) (b := 1) hx hb dL_law_604 ?_
    refine ls_ldv (j := j + 1) (v := iI v_1) hv_1 hx hb hX hbl (by rw [hz]; exact hS) (by omega) hL dL_law_605 ?_
    refine lv_aload_n hx hb dL_law_606 rfl (lv_at hl 1 rfl) ?_
    refine lv_iload hx hb dL_law_607 (lv_at hl 5 rfl) ?_
    refine lv_iconst (v := iI ((2 : Nat) : Int)) hx hb dL_law_609 (by decide) ?_
    refine fw_iaddN (a := j) (b := 2) hx hb dL_law_610 ?_
    refine ls_ldv (j := j + 2) (v := iI v_2) hv_2 hx hb hX hbl (by rw [hz]; exact hS) (by omega) hL dL_law_611 ?_
    refine lv_aload_n hx hb dL_law_612 rfl (lv_at hl 1 rfl) ?_
    refine lv_iload hx hb dL_law_613 (lv_at hl 5 rfl) ?_
    refine lv_iconst (v := iI ((3 : Nat) : Int)) hx hb dL_law_615 (by decide) ?_
    refine fw_iaddN (a := j) (b := 3) hx hb dL_law_616 ?_
    refine ls_ldv (j := j + 3) (v := iI v_3) hv_3 hx hb hX hbl (by rw [hz]; exact hS) (by omega) hL dL_law_617 ?_
    rw [WCM] at hP
    refine fw_cVi (As := [.int (iI (v_1)), .int (iI (v_2)), .int (iI (v_3))]) (rest := []) ⟨hx, hb, hml, hown, hts⟩ (c_X3_load l D cA z ad σ th u a ((WC cA ad σ (oW cA f))) ((v_1)) ((v_2)) ((v_3)) hI ⟨by omega, by omega⟩ ⟨by omega, by omega⟩ ⟨by omega, by omega⟩) (cwV 3 hts gL_law_X3_load rfl rfl rfl (by decide +kernel) ⟨Nat.le_of_ble_eq_true rfl, Nat.le_of_ble_eq_true rfl⟩) WM_10 rfl rfl hl.1 (Nat.le_of_ble_eq_true rfl) dL_law_618 ⟨show _ ≤ 658709 from by omega, show _ ≤ 7119977 from by omega⟩ hK hP hS rfl (fun r w' H locs q_16 hP hS => ?_)
    rcases q_16 with ⟨hbad2, rfl, rfl⟩ | ⟨hok2, hna2, rfl, rfl⟩ | ⟨hok2, hal2, rfl, rfl⟩
    · exfalso; first | omega | exact absurd hal hna2 | exact absurd hal2 hna
    · rw [← WCM] at hP
      refine lv_istore (lv' := [(6, .int (iI (0))), (5, .int (iI (2))), (0, .ref b), (1, .ref (ad 0 (0))), (2, .ref (ad 10 (0))), (3, .ref (ad 15 (0))), (4, .int (iI ((j : Nat) : Int)))]) hx hb dL_law_621 hl (by decide) rfl (fun ls hl => ?_)
      refine lv_aload_n hx hb dL_law_623 rfl (lv_at hl 4 rfl) ?_
      rw [WCM] at hP
      refine fw_cVi (As := []) (rest := []) ⟨hx, hb, hml, hown, hts⟩ (c_X3_thrown l D cA z ad σ (((2 : Nat) : Int)) u a ((WC cA ad σ (oW cA f)))  hI) (cwV 0 hts gL_law_X3_thrown rfl rfl rfl (by decide +kernel) ⟨Nat.le_of_ble_eq_true rfl, Nat.le_of_ble_eq_true rfl⟩) WM_10 rfl rfl hl.1 (Nat.le_of_ble_eq_true rfl) dL_law_624 ⟨show _ ≤ 658709 from by omega, show _ ≤ 7119977 from by omega⟩ hK hP hS rfl (fun r w' H locs q_17 hP hS => ?_)
      obtain ⟨rfl, rfl⟩ := q_17
      have hn_18 := hI.n
      have hm_19 := hI.lim
      rw [← WCM] at hP
      refine lv_iload hx hb dL_law_627 (lv_at hl 1 rfl) ?_
      refine lw_same (tgt := 634) hx hb dL_law_629 (by decide) ?_
      refine lv_iload hx hb dL_law_634 (lv_at hl 1 rfl) ?_
      refine fw_if_ne (x := (2)) (tgt := 651) hx hb dL_law_636 (by decide) ⟨by omega, by omega⟩ (fun c_20 => ?_) (fun c_20 => absurd c_20 (by decide))
      refine lv_goto (tgt := 1285) hx hb dL_law_651 (by decide) ?_
      refine W.widen (k := cells + 3) (n := slots + 20) (by omega) (by omega) ?_
      exact kk σ ad (((2 : Nat) : Int)) u a f H locs ls hI hP hS (lv_sub hl [2, 3, 4, 5, 6] rfl)
    · exfalso; first | omega | exact absurd hal hna2 | exact absurd hal2 hna

set_option maxHeartbeats 4000000 in
set_option maxRecDepth 100000 in
theorem arm_sail {p : Program} {l : Launch} {e : Env} {s : State} {m : MethodId} {args : Array Value} {below : List Frame} {meth : Method} {cd : Code} {Q : State → Prop} {D : va_G} {cA : Nat → ClassId} {sa : Nat → Nat} {b L : Nat} {xs : Nat → Int32} {H : Heap} {locs : List Loc} {cells slots : Nat} {ls : Array Slot} {ad : fw_Ad} {σ : St} {th u a : Int} {f : Nat → Int64} {j : Nat} (X : LX p l s m args cd b L xs D cA sa) (hj : j + 5 ≤ L) (hI : Inv σ) (hP : fw_P D vwCl s.heap.size ad (WC cA ad σ (WM cA ad σ th u a (oW cA f))) H) (hS : va_S (fw_A s.heap.size) s.heap H locs) (hl : lv_has ls 9 [(0, .ref b), (1, .ref (ad 0 0)), (2, .ref (ad 10 0)), (3, .ref (ad 15 0)), (4, .int (iI ((j : Nat) : Int)))]) (hro : cells + 3 ≤ 658709 ∧ slots + 20 ≤ 7119977) (hlocks : meth.locks = false)
    (kk : ∀ (σ : St) (ad : fw_Ad) (th u a : Int) (f : Nat → Int64) (H : Heap) (locs : List Loc) (ls : Array Slot), Inv σ → fw_P D vwCl s.heap.size ad (WC cA ad σ (WM cA ad σ th u a (oW cA f))) H → va_S (fw_A s.heap.size) s.heap H locs → lv_has ls 9 [(0, .ref b), (1, .ref (ad 0 0)), (2, .ref (ad 10 0)), (3, .ref (ad 15 0)), (4, .int (iI ((j : Nat) : Int)))] → W p l e room_1 s m args below meth cd H locs (cells + 3) (slots + 20) Q (F0 m 1285 ls [])) : W p l e room_1 s m args below meth cd H locs cells slots Q (F0 m 735 ls []) := by
  obtain ⟨hx, hb, hml, hown, hts, hX, hbl, hL, hK, hAO, hE, hl0⟩ := X
  generalize hz : s.heap.size = z at hP hS kk hE
  refine lv_aload_n hx hb dL_law_735 rfl (lv_at hl 1 rfl) ?_
  refine lv_aload_n hx hb dL_law_736 rfl (lv_at hl 3 rfl) ?_
  refine fh_cSi (As := [.ref (ad 0 (0)), .ref (ad 15 (0))]) (rest := []) ⟨hx, hb, hml, hown, hts⟩ (c_L_sail l hl0 D cA z ad sa σ (WM cA ad σ th u a (oW cA f)) f  hI (oW_15 cA _) ) (vx_cwSW 2 hts gL_law_L_sail rfl rfl rfl (by decide +kernel) ⟨Nat.le_of_ble_eq_true rfl, Nat.le_of_ble_eq_true rfl⟩) rfl hl.1 (Nat.le_of_ble_eq_true rfl) dL_law_737 ⟨show _ ≤ 658709 from by omega, show _ ≤ 7119977 from by omega⟩ hK hE hP hS rfl (fun r w' H locs q_1 hP hS => ?_)
  rcases q_1 with ⟨hok, rfl, rfl⟩ | ⟨hbad, rfl, rfl⟩
  · rw [oU_W] at hP
    refine lv_istore (lv' := [(5, .int (iI (0))), (0, .ref b), (1, .ref (ad 0 (0))), (2, .ref (ad 10 (0))), (3, .ref (ad 15 (0))), (4, .int (iI ((j : Nat) : Int)))]) hx hb dL_law_740 hl (by decide) rfl (fun ls hl => ?_)
    refine lv_aload_n hx hb dL_law_742 rfl (lv_at hl 3 rfl) ?_
    rw [WCM] at hP
    refine fw_cVi (As := []) (rest := []) ⟨hx, hb, hml, hown, hts⟩ (c_X3_sail l D cA z ad σ th u a ((WC cA ad (sailS σ) (oW cA (vp_updL f 0 ((iI ((lifAt (ptS σ) (σ 8 4 + 1) : Nat) : Int)).toInt64)))))  hI ) (cwV 0 hts gL_law_X3_sail rfl rfl rfl (by decide +kernel) ⟨Nat.le_of_ble_eq_true rfl, Nat.le_of_ble_eq_true rfl⟩) WM_10 rfl rfl hl.1 (Nat.le_of_ble_eq_true rfl) dL_law_743 ⟨show _ ≤ 658709 from by omega, show _ ≤ 7119977 from by omega⟩ hK hP hS rfl (fun r w' H locs q_2 hP hS => ?_)
    rcases q_2 with ⟨hok2, rfl, u2, a2, rfl⟩ | ⟨hbad2, rfl, u2, a2, rfl⟩
    · rw [← WCM] at hP
      have hI2 : Inv (sailS σ) := sailS_inv hI hok.1
      refine lv_istore (lv' := [(6, .int (iI ((lifAt (ptS σ) (σ 8 4 + 1) : Nat) : Int))), (5, .int (iI (0))), (0, .ref b), (1, .ref (ad 0 (0))), (2, .ref (ad 10 (0))), (3, .ref (ad 15 (0))), (4, .int (iI ((j : Nat) : Int)))]) hx hb dL_law_746 hl (by decide) rfl (fun ls hl => ?_)
      refine lv_aload_n hx hb dL_law_748 rfl (lv_at hl 4 rfl) ?_
      rw [WCM] at hP
      refine fw_cVi (As := []) (rest := []) ⟨hx, hb, hml, hown, hts⟩ (c_X3_thrown l D cA z ad (sailS σ) (((0 : Nat) : Int)) u2 a2 ((WC cA ad (sailS σ) (oW cA (vp_updL f 0 ((iI ((lifAt (ptS σ) (σ 8 4 + 1) : Nat) : Int)).toInt64)))))  hI2) (cwV 0 hts gL_law_X3_thrown rfl rfl rfl (by decide +kernel) ⟨Nat.le_of_ble_eq_true rfl, Nat.le_of_ble_eq_true rfl⟩) WM_10 rfl rfl hl.1 (Nat.le_of_ble_eq_true rfl) dL_law_749 ⟨show _ ≤ 658709 from by omega, show _ ≤ 7119977 from by omega⟩ hK hP hS rfl (fun r w' H locs q_3 hP hS => ?_)
      obtain ⟨rfl, rfl⟩ := q_3
      have hn_4 := hI2.n
      have hm_5 := hI2.lim
      rw [← WCM] at hP
      refine lv_iload hx hb dL_law_752 (lv_at hl 1 rfl) ?_
      refine lw_same (tgt := 759) hx hb dL_law_754 (by decide) ?_
      refine lv_iload hx hb dL_law_759 (lv_at hl 1 rfl) ?_
      refine fw_if_ne (x := (0)) (tgt := 776) hx hb dL_law_761 (by decide) ⟨by omega, by omega⟩ (fun c_6 => absurd c_6 (by decide)) (fun c_6 => ?_)
      refine lv_aload_n hx hb dL_law_764 rfl (lv_at hl 5 rfl) ?_
      refine lv_iconst (v := iI ((0 : Nat) : Int)) hx hb dL_law_765 (by decide) ?_
      refine lw_ld0 (x := (iI ((lifAt (ptS σ) (σ 8 4 + 1) : Nat) : Int)).toInt64) hx hb hK hP ((WC_r (by decide)).trans (oW_15 cA _)) 4 rfl dL_law_766 ?_
      refine lv_iload hx hb dL_law_767 (lv_at hl 0 rfl) ?_
      refine lv_i2l (v := (iI (((lifAt (ptS σ) (σ 8 4 + 1) : Nat) : Int))).toInt64) hx hb dL_law_769 rfl ?_
      refine W.lcmp hx hb dL_law_770 ?_
      refine fw_top (v' := .int (iI 0)) (by rw [lg_cmp_self]) ?_
      refine fw_if_eq (x := (0)) (tgt := 776) hx hb dL_law_771 (by decide) ⟨by omega, by omega⟩ (fun c_7 => ?_) (fun c_7 => absurd c_7 (by decide))
      refine lv_goto (tgt := 1285) hx hb dL_law_776 (by decide) ?_
      refine W.widen (k := cells + 3) (n := slots + 20) (by omega) (by omega) ?_
      exact kk (sailS σ) ad (((0 : Nat) : Int)) u2 a2 (vp_updL f 0 ((iI ((lifAt (ptS σ) (σ 8 4 + 1) : Nat) : Int)).toInt64)) H locs ls hI2 hP hS (lv_sub hl [2, 3, 4, 5, 6] rfl)
    · exfalso; first | exact absurd hok hbad2 | exact absurd hok2 hbad
  · have hP := hP
    refine lv_istore (lv' := [(5, .int (iI (1))), (0, .ref b), (1, .ref (ad 0 (0))), (2, .ref (ad 10 (0))), (3, .ref (ad 15 (0))), (4, .int (iI ((j : Nat) : Int)))]) hx hb dL_law_740 hl (by decide) rfl (fun ls hl => ?_)
    refine lv_aload_n hx hb dL_law_742 rfl (lv_at hl 3 rfl) ?_
    rw [WCM] at hP
    refine fw_cVi (As := []) (rest := []) ⟨hx, hb, hml, hown, hts⟩ (c_X3_sail l D cA z ad σ th u a ((WC cA ad σ (oW cA f)))  hI ) (cwV 0 hts gL_law_X3_sail rfl rfl rfl (by decide +kernel) ⟨Nat.le_of_ble_eq_true rfl, Nat.le_of_ble_eq_true rfl⟩) WM_10 rfl rfl hl.1 (Nat.le_of_ble_eq_true rfl) dL_law_743 ⟨show _ ≤ 658709 from by omega, show _ ≤ 7119977 from by omega⟩ hK hP hS rfl (fun r w' H locs q_8 hP hS => ?_)
    rcases q_8 with ⟨hok2, rfl, u2, a2, rfl⟩ | ⟨hbad2, rfl, u2, a2, rfl⟩
    · exfalso; first | exact absurd hok hbad2 | exact absurd hok2 hbad
    · rw [← WCM] at hP
      refine lv_istore (lv' := [(6, .int (iI (0))), (5, .int (iI (1))), (0, .ref b), (1, .ref (ad 0 (0))), (2, .ref (ad 10 (0))), (3, .ref (ad 15 (0))), (4, .int (iI ((j : Nat) : Int)))]) hx hb dL_law_746 hl (by decide) rfl (fun ls hl => ?_)
      refine lv_aload_n hx hb dL_law_748 rfl (lv_at hl 4 rfl) ?_
      rw [WCM] at hP
      refine fw_cVi (As := []) (rest := []) ⟨hx, hb, hml, hown, hts⟩ (c_X3_thrown l D cA z ad σ (((1 : Nat) : Int)) u2 a2 ((WC cA ad σ (oW cA f)))  hI) (cwV 0 hts gL_law_X3_thrown rfl rfl rfl (by decide +kernel) ⟨Nat.le_of_ble_eq_true rfl, Nat.le_of_ble_eq_true rfl⟩) WM_10 rfl rfl hl.1 (Nat.le_of_ble_eq_true rfl) dL_law_749 ⟨show _ ≤ 658709 from by omega, show _ ≤ 7119977 from by omega⟩ hK hP hS rfl (fun r w' H locs q_9 hP hS => ?_)
      obtain ⟨rfl, rfl⟩ := q_9
      have hn_10 := hI.n
      have hm_11 := hI.lim
      rw [← WCM] at hP
      refine lv_iload hx hb dL_law_752 (lv_at hl 1 rfl) ?_
      refine lw_same (tgt := 759) hx hb dL_law_754 (by decide) ?_
      refine lv_iload hx hb dL_law_759 (lv_at hl 1 rfl) ?_
      refine fw_if_ne (x := (1)) (tgt := 776) hx hb dL_law_761 (by decide) ⟨by omega, by omega⟩ (fun c_12 => ?_) (fun c_12 => absurd c_12 (by decide))
      refine lv_goto (tgt := 1285) hx hb dL_law_776 (by decide) ?_
      refine W.widen (k := cells + 3) (n := slots + 20) (by omega) (by omega) ?_
      exact kk σ ad (((1 : Nat) : Int)) u2 a2 f H locs ls hI hP hS (lv_sub hl [2, 3, 4, 5, 6] rfl)

set_option maxHeartbeats 4000000 in
set_option maxRecDepth 100000 in
theorem arm_lift {p : Program} {l : Launch} {e : Env} {s : State} {m : MethodId} {args : Array Value} {below : List Frame} {meth : Method} {cd : Code} {Q : State → Prop} {D : va_G} {cA : Nat → ClassId} {sa : Nat → Nat} {b L : Nat} {xs : Nat → Int32} {H : Heap} {locs : List Loc} {cells slots : Nat} {ls : Array Slot} {ad : fw_Ad} {σ : St} {th u a : Int} {f : Nat → Int64} {j : Nat} (X : LX p l s m args cd b L xs D cA sa) (hj : j + 5 ≤ L) (hI : Inv σ) (hP : fw_P D vwCl s.heap.size ad (WC cA ad σ (WM cA ad σ th u a (oW cA f))) H) (hS : va_S (fw_A s.heap.size) s.heap H locs) (hl : lv_has ls 9 [(0, .ref b), (1, .ref (ad 0 0)), (2, .ref (ad 10 0)), (3, .ref (ad 15 0)), (4, .int (iI ((j : Nat) : Int)))]) (hro : cells + 3 ≤ 658709 ∧ slots + 20 ≤ 7119977) (hlocks : meth.locks = false)
    (kk : ∀ (σ : St) (ad : fw_Ad) (th u a : Int) (f : Nat → Int64) (H : Heap) (locs : List Loc) (ls : Array Slot), Inv σ → fw_P D vwCl s.heap.size ad (WC cA ad σ (WM cA ad σ th u a (oW cA f))) H → va_S (fw_A s.heap.size) s.heap H locs → lv_has ls 9 [(0, .ref b), (1, .ref (ad 0 0)), (2, .ref (ad 10 0)), (3, .ref (ad 15 0)), (4, .int (iI ((j : Nat) : Int)))] → W p l e room_1 s m args below meth cd H locs (cells + 3) (slots + 20) Q (F0 m 1285 ls [])) : W p l e room_1 s m args below meth cd H locs cells slots Q (F0 m 654 ls []) := by
  obtain ⟨hx, hb, hml, hown, hts, hX, hbl, hL, hK, hAO, hE, hl0⟩ := X
  generalize hz : s.heap.size = z at hP hS kk hE
  refine lv_aload_n hx hb dL_law_654 rfl (lv_at hl 1 rfl) ?_
  refine lv_aload_n hx hb dL_law_655 rfl (lv_at hl 0 rfl) ?_
  refine lv_iload hx hb dL_law_656 (lv_at hl 4 rfl) ?_
  refine lv_iconst (v := iI ((1 : Nat) : Int)) hx hb dL_law_658 (by decide) ?_
  refine fw_iaddN (a := j) (b := 1) hx hb dL_law_659 ?_
  obtain ⟨v_1, hv_1, hv_1a, hv_1b⟩ := iI_ex (xs (j + 1))
  refine ls_ldv (j := j + 1) (v := iI v_1) hv_1 hx hb hX hbl (by rw [hz]; exact hS) (by omega) hL dL_law_660 ?_
  refine lv_aload_n hx hb dL_law_661 rfl (lv_at hl 0 rfl) ?_
  refine lv_iload hx hb dL_law_662 (lv_at hl 4 rfl) ?_
  refine lv_iconst (v := iI ((2 : Nat) : Int)) hx hb dL_law_664 (by decide) ?_
  refine fw_iaddN (a := j) (b := 2) hx hb dL_law_665 ?_
  obtain ⟨v_2, hv_2, hv_2a, hv_2b⟩ := iI_ex (xs (j + 2))
  refine ls_ldv (j := j + 2) (v := iI v_2) hv_2 hx hb hX hbl (by rw [hz]; exact hS) (by omega) hL dL_law_666 ?_
  refine lv_aload_n hx hb dL_law_667 rfl (lv_at hl 3 rfl) ?_
  refine fh_cSi (As := [.ref (ad 0 (0)), .int (iI (v_1)), .int (iI (v_2)), .ref (ad 15 (0))]) (rest := []) ⟨hx, hb, hml, hown, hts⟩ (c_L_lift l hl0 D cA z ad sa σ (WM cA ad σ th u a (oW cA f)) f ((v_1)) ((v_2)) hI (oW_15 cA _) ⟨by omega, by omega⟩ ⟨by omega, by omega⟩) (vx_cwSW 4 hts gL_law_L_lift rfl rfl rfl (by decide +kernel) ⟨Nat.le_of_ble_eq_true rfl, Nat.le_of_ble_eq_true rfl⟩) rfl hl.1 (Nat.le_of_ble_eq_true rfl) dL_law_668 ⟨show _ ≤ 658709 from by omega, show _ ≤ 7119977 from by omega⟩ hK hE hP hS rfl (fun r w' H locs q_3 hP hS => ?_)
  rcases q_3 with ⟨hok, tc, hto, hfr, rfl, rfl⟩ | ⟨hbad, rfl, rfl⟩ | ⟨hok, hna, rfl, rfl⟩
  · rw [oU_W] at hP
    refine lv_istore (lv' := [(5, .int (iI (0))), (0, .ref b), (1, .ref (ad 0 (0))), (2, .ref (ad 10 (0))), (3, .ref (ad 15 (0))), (4, .int (iI ((j : Nat) : Int)))]) hx hb dL_law_671 hl (by decide) rfl (fun ls hl => ?_)
    refine lv_aload_n hx hb dL_law_673 rfl (lv_at hl 3 rfl) ?_
    refine lv_aload_n hx hb dL_law_674 rfl (lv_at hl 1 rfl) ?_
    refine lv_iload hx hb dL_law_675 (lv_at hl 5 rfl) ?_
    refine lv_iconst (v := iI ((1 : Nat) : Int)) hx hb dL_law_677 (by decide) ?_
    refine fw_iaddN (a := j) (b := 1) hx hb dL_law_678 ?_
    refine ls_ldv (j := j + 1) (v := iI v_1) hv_1 hx hb hX hbl (by rw [hz]; exact hS) (by omega) hL dL_law_679 ?_
    refine lv_aload_n hx hb dL_law_680 rfl (lv_at hl 1 rfl) ?_
    refine lv_iload hx hb dL_law_681 (lv_at hl 5 rfl) ?_
    refine lv_iconst (v := iI ((2 : Nat) : Int)) hx hb dL_law_683 (by decide) ?_
    refine fw_iaddN (a := j) (b := 2) hx hb dL_law_684 ?_
    refine ls_ldv (j := j + 2) (v := iI v_2) hv_2 hx hb hX hbl (by rw [hz]; exact hS) (by omega) hL dL_law_685 ?_
    rw [WCM] at hP
    refine fw_cVi (As := [.int (iI (v_1)), .int (iI (v_2))]) (rest := []) ⟨hx, hb, hml, hown, hts⟩ (c_X3_lift l D cA z ad σ th u a ((WC cA ad (up σ 4 tc 0) (oW cA (vp_updL f 0 ((iI ((tc : Nat) : Int)).toInt64))))) ((v_1)) ((v_2)) hI ⟨by omega, by omega⟩ ⟨by omega, by omega⟩) (cwV 2 hts gL_law_X3_lift rfl rfl rfl (by decide +kernel) ⟨Nat.le_of_ble_eq_true rfl, Nat.le_of_ble_eq_true rfl⟩) WM_10 rfl rfl hl.1 (Nat.le_of_ble_eq_true rfl) dL_law_686 ⟨show _ ≤ 658709 from by omega, show _ ≤ 7119977 from by omega⟩ hK hP hS rfl (fun r w' H locs q_4 hP hS => ?_)
    rcases q_4 with ⟨hbad2, rfl, rfl⟩ | ⟨⟨hok2, hna2⟩, rfl, rfl⟩ | ⟨hok2, tc2, hto2, hfr2, rfl, rfl⟩
    · exfalso; first | omega | exact hna2 ⟨tc, hto, hfr⟩ | exact hna ⟨tc2, hto2, hfr2⟩
    · exfalso; first | omega | exact hna2 ⟨tc, hto, hfr⟩ | exact hna ⟨tc2, hto2, hfr2⟩
    · have htt : tc = tc2 := Option.some.inj (hto.symm.trans hto2)
      subst htt
      rw [← WCM] at hP
      have hI2 : Inv (up σ 4 tc 0) := Inv_lift hI hto
      refine lv_istore (lv' := [(6, .int (iI ((tc : Nat) : Int))), (5, .int (iI (0))), (0, .ref b), (1, .ref (ad 0 (0))), (2, .ref (ad 10 (0))), (3, .ref (ad 15 (0))), (4, .int (iI ((j : Nat) : Int)))]) hx hb dL_law_689 hl (by decide) rfl (fun ls hl => ?_)
      refine lv_aload_n hx hb dL_law_691 rfl (lv_at hl 4 rfl) ?_
      rw [WCM] at hP
      refine fw_cVi (As := []) (rest := []) ⟨hx, hb, hml, hown, hts⟩ (c_X3_thrown l D cA z ad (up σ 4 tc 0) (((0 : Nat) : Int)) u a ((WC cA ad (up σ 4 tc 0) (oW cA (vp_updL f 0 ((iI ((tc : Nat) : Int)).toInt64)))))  hI2) (cwV 0 hts gL_law_X3_thrown rfl rfl rfl (by decide +kernel) ⟨Nat.le_of_ble_eq_true rfl, Nat.le_of_ble_eq_true rfl⟩) WM_10 rfl rfl hl.1 (Nat.le_of_ble_eq_true rfl) dL_law_692 ⟨show _ ≤ 658709 from by omega, show _ ≤ 7119977 from by omega⟩ hK hP hS rfl (fun r w' H locs q_5 hP hS => ?_)
      obtain ⟨rfl, rfl⟩ := q_5
      have hn_6 := hI2.n
      have hm_7 := hI2.lim
      rw [← WCM] at hP
      refine lv_iload hx hb dL_law_695 (lv_at hl 1 rfl) ?_
      refine lw_same (tgt := 702) hx hb dL_law_697 (by decide) ?_
      refine lv_iload hx hb dL_law_702 (lv_at hl 1 rfl) ?_
      refine fw_if_ne (x := (0)) (tgt := 719) hx hb dL_law_704 (by decide) ⟨by omega, by omega⟩ (fun c_8 => absurd c_8 (by decide)) (fun c_8 => ?_)
      refine lv_aload_n hx hb dL_law_707 rfl (lv_at hl 5 rfl) ?_
      refine lv_iconst (v := iI ((0 : Nat) : Int)) hx hb dL_law_708 (by decide) ?_
      refine lw_ld0 (x := (iI ((tc : Nat) : Int)).toInt64) hx hb hK hP ((WC_r (by decide)).trans (oW_15 cA _)) 4 rfl dL_law_709 ?_
      refine lv_iload hx hb dL_law_710 (lv_at hl 0 rfl) ?_
      refine lv_i2l (v := (iI (((tc : Nat) : Int))).toInt64) hx hb dL_law_712 rfl ?_
      refine W.lcmp hx hb dL_law_713 ?_
      refine fw_top (v' := .int (iI 0)) (by rw [lg_cmp_self]) ?_
      refine fw_if_eq (x := (0)) (tgt := 719) hx hb dL_law_714 (by decide) ⟨by omega, by omega⟩ (fun c_9 => ?_) (fun c_9 => absurd c_9 (by decide))
      refine lv_goto (tgt := 1285) hx hb dL_law_719 (by decide) ?_
      refine W.widen (k := cells + 3) (n := slots + 20) (by omega) (by omega) ?_
      exact kk (up σ 4 tc 0) ad (((0 : Nat) : Int)) u a (vp_updL f 0 ((iI ((tc : Nat) : Int)).toInt64)) H locs ls hI2 hP hS (lv_sub hl [2, 3, 4, 5, 6] rfl)
  · have hP := hP
    refine lv_istore (lv' := [(5, .int (iI (1))), (0, .ref b), (1, .ref (ad 0 (0))), (2, .ref (ad 10 (0))), (3, .ref (ad 15 (0))), (4, .int (iI ((j : Nat) : Int)))]) hx hb dL_law_671 hl (by decide) rfl (fun ls hl => ?_)
    refine lv_aload_n hx hb dL_law_673 rfl (lv_at hl 3 rfl) ?_
    refine lv_aload_n hx hb dL_law_674 rfl (lv_at hl 1 rfl) ?_
    refine lv_iload hx hb dL_law_675 (lv_at hl 5 rfl) ?_
    refine lv_iconst (v := iI ((1 : Nat) : Int)) hx hb dL_law_677 (by decide) ?_
    refine fw_iaddN (a := j) (b := 1) hx hb dL_law_678 ?_
    refine ls_ldv (j := j + 1) (v := iI v_1) hv_1 hx hb hX hbl (by rw [hz]; exact hS) (by omega) hL dL_law_679 ?_
    refine lv_aload_n hx hb dL_law_680 rfl (lv_at hl 1 rfl) ?_
    refine lv_iload hx hb dL_law_681 (lv_at hl 5 rfl) ?_
    refine lv_iconst (v := iI ((2 : Nat) : Int)) hx hb dL_law_683 (by decide) ?_
    refine fw_iaddN (a := j) (b := 2) hx hb dL_law_684 ?_
    refine ls_ldv (j := j + 2) (v := iI v_2) hv_2 hx hb hX hbl (by rw [hz]; exact hS) (by omega) hL dL_law_685 ?_
    rw [WCM] at hP
    refine fw_cVi (As := [.int (iI (v_1)), .int (iI (v_2))]) (rest := []) ⟨hx, hb, hml, hown, hts⟩ (c_X3_lift l D cA z ad σ th u a ((WC cA ad σ (oW cA f))) ((v_1)) ((v_2)) hI ⟨by omega, by omega⟩ ⟨by omega, by omega⟩) (cwV 2 hts gL_law_X3_lift rfl rfl rfl (by decide +kernel) ⟨Nat.le_of_ble_eq_true rfl, Nat.le_of_ble_eq_true rfl⟩) WM_10 rfl rfl hl.1 (Nat.le_of_ble_eq_true rfl) dL_law_686 ⟨show _ ≤ 658709 from by omega, show _ ≤ 7119977 from by omega⟩ hK hP hS rfl (fun r w' H locs q_10 hP hS => ?_)
    rcases q_10 with ⟨hbad2, rfl, rfl⟩ | ⟨⟨hok2, hna2⟩, rfl, rfl⟩ | ⟨hok2, tc2, hto2, hfr2, rfl, rfl⟩
    · rw [← WCM] at hP
      refine lv_istore (lv' := [(6, .int (iI (0))), (5, .int (iI (1))), (0, .ref b), (1, .ref (ad 0 (0))), (2, .ref (ad 10 (0))), (3, .ref (ad 15 (0))), (4, .int (iI ((j : Nat) : Int)))]) hx hb dL_law_689 hl (by decide) rfl (fun ls hl => ?_)
      refine lv_aload_n hx hb dL_law_691 rfl (lv_at hl 4 rfl) ?_
      rw [WCM] at hP
      refine fw_cVi (As := []) (rest := []) ⟨hx, hb, hml, hown, hts⟩ (c_X3_thrown l D cA z ad σ (((1 : Nat) : Int)) u a ((WC cA ad σ (oW cA f)))  hI) (cwV 0 hts gL_law_X3_thrown rfl rfl rfl (by decide +kernel) ⟨Nat.le_of_ble_eq_true rfl, Nat.le_of_ble_eq_true rfl⟩) WM_10 rfl rfl hl.1 (Nat.le_of_ble_eq_true rfl) dL_law_692 ⟨show _ ≤ 658709 from by omega, show _ ≤ 7119977 from by omega⟩ hK hP hS rfl (fun r w' H locs q_11 hP hS => ?_)
      obtain ⟨rfl, rfl⟩ := q_11
      have hn_12 := hI.n
      have hm_13 := hI.lim
      rw [← WCM] at hP
      refine lv_iload hx hb dL_law_695 (lv_at hl 1 rfl) ?_
      refine lw_same (tgt := 702) hx hb dL_law_697 (by decide) ?_
      refine lv_iload hx hb dL_law_702 (lv_at hl 1 rfl) ?_
      refine fw_if_ne (x := (1)) (tgt := 719) hx hb dL_law_704 (by decide) ⟨by omega, by omega⟩ (fun c_14 => ?_) (fun c_14 => absurd c_14 (by decide))
      refine lv_goto (tgt := 1285) hx hb dL_law_719 (by decide) ?_
      refine W.widen (k := cells + 3) (n := slots + 20) (by omega) (by omega) ?_
      exact kk σ ad (((1 : Nat) : Int)) u a f H locs ls hI hP hS (lv_sub hl [2, 3, 4, 5, 6] rfl)
    · exfalso; first | omega | exact hna2 ⟨tc, hto, hfr⟩ | exact hna ⟨tc2, hto2, hfr2⟩
    · exfalso; first | omega | exact hna2 ⟨tc, hto, hfr⟩ | exact hna ⟨tc2, hto2, hfr2⟩
  · have hP := hP
    refine lv_istore (lv' := [(5, .int (iI (2))), (0, .ref b), (1, .ref (ad 0 (0))), (2, .ref (ad 10 (0))), (3, .ref (ad 15 (0))), (4, .int (iI ((j : Nat) : Int)))]) hx hb dL_law_671 hl (by decide) rfl (fun ls hl => ?_)
    refine lv_aload_n hx hb dL_law_673 rfl (lv_at hl 3 rfl) ?_
    refine lv_aload_n hx hb dL_law_674 rfl (lv_at hl 1 rfl) ?_
    refine lv_iload hx hb dL_law_675 (lv_at hl 5 rfl) ?_
    refine lv_iconst (v := iI ((1 : Nat) : Int)) hx hb dL_law_677 (by decide) ?_
    refine fw_iaddN (a := j) (b := 1) hx hb dL_law_678 ?_
    refine ls_ldv (j := j + 1) (v := iI v_1) hv_1 hx hb hX hbl (by rw [hz]; exact hS) (by omega) hL dL_law_679 ?_
    refine lv_aload_n hx hb dL_law_680 rfl (lv_at hl 1 rfl) ?_
    refine lv_iload hx hb dL_law_681 (lv_at hl 5 rfl) ?_
    refine lv_iconst (v := iI ((2 : Nat) : Int)) hx hb dL_law_683 (by decide) ?_
    refine fw_iaddN (a := j) (b := 2) hx hb dL_law_684 ?_
    refine ls_ldv (j := j + 2) (v := iI v_2) hv_2 hx hb hX hbl (by rw [hz]; exact hS) (by omega) hL dL_law_685 ?_
    rw [WCM] at hP
    refine fw_cVi (As := [.int (iI (v_1)), .int (iI (v_2))]) (rest := []) ⟨hx, hb, hml, hown, hts⟩ (c_X3_lift l D cA z ad σ th u a ((WC cA ad σ (oW cA f))) ((v_1)) ((v_2)) hI ⟨by omega, by omega⟩ ⟨by omega, by omega⟩) (cwV 2 hts gL_law_X3_lift rfl rfl rfl (by decide +kernel) ⟨Nat.le_of_ble_eq_true rfl, Nat.le_of_ble_eq_true rfl⟩) WM_10 rfl rfl hl.1 (Nat.le_of_ble_eq_true rfl) dL_law_686 ⟨show _ ≤ 658709 from by omega, show _ ≤ 7119977 from by omega⟩ hK hP hS rfl (fun r w' H locs q_15 hP hS => ?_)
    rcases q_15 with ⟨hbad2, rfl, rfl⟩ | ⟨⟨hok2, hna2⟩, rfl, rfl⟩ | ⟨hok2, tc2, hto2, hfr2, rfl, rfl⟩
    · exfalso; first | omega | exact hna2 ⟨tc, hto, hfr⟩ | exact hna ⟨tc2, hto2, hfr2⟩
    · rw [← WCM] at hP
      refine lv_istore (lv' := [(6, .int (iI (0))), (5, .int (iI (2))), (0, .ref b), (1, .ref (ad 0 (0))), (2, .ref (ad 10 (0))), (3, .ref (ad 15 (0))), (4, .int (iI ((j : Nat) : Int)))]) hx hb dL_law_689 hl (by decide) rfl (fun ls hl => ?_)
      refine lv_aload_n hx hb dL_law_691 rfl (lv_at hl 4 rfl) ?_
      rw [WCM] at hP
      refine fw_cVi (As := []) (rest := []) ⟨hx, hb, hml, hown, hts⟩ (c_X3_thrown l D cA z ad σ (((2 : Nat) : Int)) u a ((WC cA ad σ (oW cA f)))  hI) (cwV 0 hts gL_law_X3_thrown rfl rfl rfl (by decide +kernel) ⟨Nat.le_of_ble_eq_true rfl, Nat.le_of_ble_eq_true rfl⟩) WM_10 rfl rfl hl.1 (Nat.le_of_ble_eq_true rfl) dL_law_692 ⟨show _ ≤ 658709 from by omega, show _ ≤ 7119977 from by omega⟩ hK hP hS rfl (fun r w' H locs q_16 hP hS => ?_)
      obtain ⟨rfl, rfl⟩ := q_16
      have hn_17 := hI.n
      have hm_18 := hI.lim
      rw [← WCM] at hP
      refine lv_iload hx hb dL_law_695 (lv_at hl 1 rfl) ?_
      refine lw_same (tgt := 702) hx hb dL_law_697 (by decide) ?_
      refine lv_iload hx hb dL_law_702 (lv_at hl 1 rfl) ?_
      refine fw_if_ne (x := (2)) (tgt := 719) hx hb dL_law_704 (by decide) ⟨by omega, by omega⟩ (fun c_19 => ?_) (fun c_19 => absurd c_19 (by decide))
      refine lv_goto (tgt := 1285) hx hb dL_law_719 (by decide) ?_
      refine W.widen (k := cells + 3) (n := slots + 20) (by omega) (by omega) ?_
      exact kk σ ad (((2 : Nat) : Int)) u a f H locs ls hI hP hS (lv_sub hl [2, 3, 4, 5, 6] rfl)
    · exfalso; first | omega | exact hna2 ⟨tc, hto, hfr⟩ | exact hna ⟨tc2, hto2, hfr2⟩

set_option maxHeartbeats 4000000 in
set_option maxRecDepth 100000 in
theorem arm_digest {p : Program} {l : Launch} {e : Env} {s : State} {m : MethodId} {args : Array Value} {below : List Frame} {meth : Method} {cd : Code} {Q : State → Prop} {D : va_G} {cA : Nat → ClassId} {sa : Nat → Nat} {b L : Nat} {xs : Nat → Int32} {H : Heap} {locs : List Loc} {cells slots : Nat} {ls : Array Slot} {ad : fw_Ad} {σ : St} {th u a : Int} {f : Nat → Int64} {j : Nat} (X : LX p l s m args cd b L xs D cA sa) (hj : j + 5 ≤ L) (hI : Inv σ) (hP : fw_P D vwCl s.heap.size ad (WC cA ad σ (WM cA ad σ th u a (oW cA f))) H) (hS : va_S (fw_A s.heap.size) s.heap H locs) (hl : lv_has ls 9 [(0, .ref b), (1, .ref (ad 0 0)), (2, .ref (ad 10 0)), (3, .ref (ad 15 0)), (4, .int (iI ((j : Nat) : Int)))]) (hro : cells + 3 ≤ 658709 ∧ slots + 20 ≤ 7119977) (hlocks : meth.locks = false)
    (kk : ∀ (σ : St) (ad : fw_Ad) (th u a : Int) (f : Nat → Int64) (H : Heap) (locs : List Loc) (ls : Array Slot), Inv σ → fw_P D vwCl s.heap.size ad (WC cA ad σ (WM cA ad σ th u a (oW cA f))) H → va_S (fw_A s.heap.size) s.heap H locs → lv_has ls 9 [(0, .ref b), (1, .ref (ad 0 0)), (2, .ref (ad 10 0)), (3, .ref (ad 15 0)), (4, .int (iI ((j : Nat) : Int)))] → W p l e room_1 s m args below meth cd H locs (cells + 3) (slots + 20) Q (F0 m 1285 ls [])) : W p l e room_1 s m args below meth cd H locs cells slots Q (F0 m 1271 ls []) := by
  obtain ⟨hx, hb, hml, hown, hts, hX, hbl, hL, hK, hAO, hE, hl0⟩ := X
  generalize hz : s.heap.size = z at hP hS kk hE
  refine lv_aload_n hx hb dL_law_1271 rfl (lv_at hl 1 rfl) ?_
  refine fw_cVl (As := []) (rest := []) ⟨hx, hb, hml, hown, hts⟩ (c_X2_digest l D cA z ad σ ((WM cA ad σ th u a (oW cA f)))  hI) (cwV 0 hts gL_law_X2_digest rfl rfl rfl (by decide +kernel) ⟨Nat.le_of_ble_eq_true rfl, Nat.le_of_ble_eq_true rfl⟩) WC_0 rfl rfl hl.1 (Nat.le_of_ble_eq_true rfl) dL_law_1272 ⟨show _ ≤ 658709 from by omega, show _ ≤ 7119977 from by omega⟩ hK hP hS rfl (fun r w' H locs q_1 hP hS => ?_)
  obtain ⟨rfl, rfl⟩ := q_1
  refine lv_aload_n hx hb dL_law_1275 rfl (lv_at hl 2 rfl) ?_
  rw [WCM] at hP
  refine fw_cVl (As := []) (rest := [.long (dig σ)]) ⟨hx, hb, hml, hown, hts⟩ (c_X3_digest l D cA z ad σ th u a ((WC cA ad σ (oW cA f))) hI) (cwV 0 hts gL_law_X3_digest rfl rfl rfl (by decide +kernel) ⟨Nat.le_of_ble_eq_true rfl, Nat.le_of_ble_eq_true rfl⟩) WM_10 rfl rfl hl.1 (Nat.le_of_ble_eq_true rfl) dL_law_1276 ⟨show _ ≤ 658709 from by omega, show _ ≤ 7119977 from by omega⟩ hK hP hS rfl (fun r w' H locs q_2 hP hS => ?_)
  obtain ⟨rfl, rfl⟩ := q_2
  rw [← WCM] at hP
  refine W.lcmp hx hb dL_law_1279 ?_
  refine fw_top (v' := .int (iI 0)) (by rw [lg_cmp_self]) ?_
  refine fw_if_eq (x := (0)) (tgt := 1285) hx hb dL_law_1280 (by decide) ⟨by omega, by omega⟩ (fun c_3 => ?_) (fun c_3 => absurd c_3 (by decide))
  refine W.widen (k := cells + 3) (n := slots + 20) (by omega) (by omega) ?_
  exact kk σ ad (((0 : Nat) : Int)) u a f H locs ls hI hP hS (lv_sub hl [0, 1, 2, 3, 4] rfl)

set_option maxHeartbeats 4000000 in
set_option maxRecDepth 100000 in
theorem arm_plan {p : Program} {l : Launch} {e : Env} {s : State} {m : MethodId} {args : Array Value} {below : List Frame} {meth : Method} {cd : Code} {Q : State → Prop} {D : va_G} {cA : Nat → ClassId} {sa : Nat → Nat} {b L : Nat} {xs : Nat → Int32} {H : Heap} {locs : List Loc} {cells slots : Nat} {ls : Array Slot} {ad : fw_Ad} {σ : St} {th u a : Int} {f : Nat → Int64} {j : Nat} (X : LX p l s m args cd b L xs D cA sa) (hj : j + 5 ≤ L) (hI : Inv σ) (hP : fw_P D vwCl s.heap.size ad (WC cA ad σ (WM cA ad σ th u a (oW cA f))) H) (hS : va_S (fw_A s.heap.size) s.heap H locs) (hl : lv_has ls 9 [(0, .ref b), (1, .ref (ad 0 0)), (2, .ref (ad 10 0)), (3, .ref (ad 15 0)), (4, .int (iI ((j : Nat) : Int)))]) (hro : cells + 3 ≤ 658709 ∧ slots + 20 ≤ 7119977) (hlocks : meth.locks = false)
    (kk : ∀ (σ : St) (ad : fw_Ad) (th u a : Int) (f : Nat → Int64) (H : Heap) (locs : List Loc) (ls : Array Slot), Inv σ → fw_P D vwCl s.heap.size ad (WC cA ad σ (WM cA ad σ th u a (oW cA f))) H → va_S (fw_A s.heap.size) s.heap H locs → lv_has ls 9 [(0, .ref b), (1, .ref (ad 0 0)), (2, .ref (ad 10 0)), (3, .ref (ad 15 0)), (4, .int (iI ((j : Nat) : Int)))] → W p l e room_1 s m args below meth cd H locs (cells + 3) (slots + 20) Q (F0 m 1285 ls [])) : W p l e room_1 s m args below meth cd H locs cells slots Q (F0 m 722 ls []) := by
  obtain ⟨hx, hb, hml, hown, hts, hX, hbl, hL, hK, hAO, hE, hl0⟩ := X
  generalize hz : s.heap.size = z at hP hS kk hE
  refine lv_aload_n hx hb dL_law_722 rfl (lv_at hl 1 rfl) ?_
  refine fw_cVi (As := []) (rest := []) ⟨hx, hb, hml, hown, hts⟩ (c_X2_plan l D cA z ad σ ((WM cA ad σ th u a (oW cA f))) hI) (cwV 0 hts gL_law_X2_plan rfl rfl rfl (by decide +kernel) ⟨Nat.le_of_ble_eq_true rfl, Nat.le_of_ble_eq_true rfl⟩) WC_0 rfl rfl hl.1 (Nat.le_of_ble_eq_true rfl) dL_law_723 ⟨show _ ≤ 658709 from by omega, show _ ≤ 7119977 from by omega⟩ hK hP hS rfl (fun r w' H locs q_1 hP hS => ?_)
  obtain ⟨k1, he1, rfl, rfl⟩ := q_1
  refine lv_aload_n hx hb dL_law_726 rfl (lv_at hl 2 rfl) ?_
  rw [WCM] at hP
  refine fw_cVi (As := []) (rest := [.int (iI ((k1 : Nat) : Int))]) ⟨hx, hb, hml, hown, hts⟩ (c_X3_plan l D cA z ad σ th u a ((WC cA ad (itP σ k1) (oW cA f))) hI) (cwV 0 hts gL_law_X3_plan rfl rfl rfl (by decide +kernel) ⟨Nat.le_of_ble_eq_true rfl, Nat.le_of_ble_eq_true rfl⟩) WM_10 rfl rfl hl.1 (Nat.le_of_ble_eq_true rfl) dL_law_727 ⟨show _ ≤ 658709 from by omega, show _ ≤ 7119977 from by omega⟩ hK hP hS rfl (fun r w' H locs q_2 hP hS => ?_)
  obtain ⟨k2, he2, rfl, rfl⟩ := q_2
  have hkk : k1 = k2 := endsP_one he1 he2
  subst hkk
  have hI2 : Inv (itP σ k1) := (stepsP_inv hI he1.1).1
  rw [← WCM] at hP
  refine lw_same (tgt := 1285) hx hb dL_law_730 (by decide) ?_
  refine W.widen (k := cells + 3) (n := slots + 20) (by omega) (by omega) ?_
  exact kk (itP σ k1) ad (((0 : Nat) : Int)) u a f H locs ls hI2 hP hS (lv_sub hl [0, 1, 2, 3, 4] rfl)

set_option maxHeartbeats 4000000 in
set_option maxRecDepth 100000 in
theorem arm_canLoad {p : Program} {l : Launch} {e : Env} {s : State} {m : MethodId} {args : Array Value} {below : List Frame} {meth : Method} {cd : Code} {Q : State → Prop} {D : va_G} {cA : Nat → ClassId} {sa : Nat → Nat} {b L : Nat} {xs : Nat → Int32} {H : Heap} {locs : List Loc} {cells slots : Nat} {ls : Array Slot} {ad : fw_Ad} {σ : St} {th u a : Int} {f : Nat → Int64} {j : Nat} (X : LX p l s m args cd b L xs D cA sa) (hj : j + 5 ≤ L) (hI : Inv σ) (hP : fw_P D vwCl s.heap.size ad (WC cA ad σ (WM cA ad σ th u a (oW cA f))) H) (hS : va_S (fw_A s.heap.size) s.heap H locs) (hl : lv_has ls 9 [(0, .ref b), (1, .ref (ad 0 0)), (2, .ref (ad 10 0)), (3, .ref (ad 15 0)), (4, .int (iI ((j : Nat) : Int)))]) (hro : cells + 3 ≤ 658709 ∧ slots + 20 ≤ 7119977) (hlocks : meth.locks = false)
    (kk : ∀ (σ : St) (ad : fw_Ad) (th u a : Int) (f : Nat → Int64) (H : Heap) (locs : List Loc) (ls : Array Slot), Inv σ → fw_P D vwCl s.heap.size ad (WC cA ad σ (WM cA ad σ th u a (oW cA f))) H → va_S (fw_A s.heap.size) s.heap H locs → lv_has ls 9 [(0, .ref b), (1, .ref (ad 0 0)), (2, .ref (ad 10 0)), (3, .ref (ad 15 0)), (4, .int (iI ((j : Nat) : Int)))] → W p l e room_1 s m args below meth cd H locs (cells + 3) (slots + 20) Q (F0 m 1285 ls [])) : W p l e room_1 s m args below meth cd H locs cells slots Q (F0 m 487 ls []) := by
  obtain ⟨hx, hb, hml, hown, hts, hX, hbl, hL, hK, hAO, hE, hl0⟩ := X
  generalize hz : s.heap.size = z at hP hS kk hE
  refine lv_aload_n hx hb dL_law_487 rfl (lv_at hl 1 rfl) ?_
  refine lv_aload_n hx hb dL_law_488 rfl (lv_at hl 0 rfl) ?_
  refine lv_iload hx hb dL_law_489 (lv_at hl 4 rfl) ?_
  refine lv_iconst (v := iI ((1 : Nat) : Int)) hx hb dL_law_491 (by decide) ?_
  refine fw_iaddN (a := j) (b := 1) hx hb dL_law_492 ?_
  obtain ⟨v_1, hv_1, hv_1a, hv_1b⟩ := iI_ex (xs (j + 1))
  refine ls_ldv (j := j + 1) (v := iI v_1) hv_1 hx hb hX hbl (by rw [hz]; exact hS) (by omega) hL dL_law_493 ?_
  refine lv_aload_n hx hb dL_law_494 rfl (lv_at hl 0 rfl) ?_
  refine lv_iload hx hb dL_law_495 (lv_at hl 4 rfl) ?_
  refine lv_iconst (v := iI ((2 : Nat) : Int)) hx hb dL_law_497 (by decide) ?_
  refine fw_iaddN (a := j) (b := 2) hx hb dL_law_498 ?_
  obtain ⟨v_2, hv_2, hv_2a, hv_2b⟩ := iI_ex (xs (j + 2))
  refine ls_ldv (j := j + 2) (v := iI v_2) hv_2 hx hb hX hbl (by rw [hz]; exact hS) (by omega) hL dL_law_499 ?_
  refine lv_aload_n hx hb dL_law_500 rfl (lv_at hl 0 rfl) ?_
  refine lv_iload hx hb dL_law_501 (lv_at hl 4 rfl) ?_
  refine lv_iconst (v := iI ((3 : Nat) : Int)) hx hb dL_law_503 (by decide) ?_
  refine fw_iaddN (a := j) (b := 3) hx hb dL_law_504 ?_
  obtain ⟨v_3, hv_3, hv_3a, hv_3b⟩ := iI_ex (xs (j + 3))
  refine ls_ldv (j := j + 3) (v := iI v_3) hv_3 hx hb hX hbl (by rw [hz]; exact hS) (by omega) hL dL_law_505 ?_
  refine lv_aload_n hx hb dL_law_506 rfl (lv_at hl 3 rfl) ?_
  refine fh_cSi (As := [.ref (ad 0 (0)), .int (iI (v_1)), .int (iI (v_2)), .int (iI (v_3)), .ref (ad 15 (0))]) (rest := []) ⟨hx, hb, hml, hown, hts⟩ (c_L_canLoad l hl0 D cA z ad sa σ (WM cA ad σ th u a (oW cA f)) f ((v_1)) ((v_2)) ((v_3)) hI (oW_15 cA _) ⟨by omega, by omega⟩ ⟨by omega, by omega⟩ ⟨by omega, by omega⟩) (vx_cwSW 5 hts gL_law_L_canLoad rfl rfl rfl (by decide +kernel) ⟨Nat.le_of_ble_eq_true rfl, Nat.le_of_ble_eq_true rfl⟩) rfl hl.1 (Nat.le_of_ble_eq_true rfl) dL_law_507 ⟨show _ ≤ 658709 from by omega, show _ ≤ 7119977 from by omega⟩ hK hE hP hS rfl (fun r w' H locs q_4 hP hS => ?_)
  rcases q_4 with ⟨hok, rfl, rfl⟩ | ⟨hbad, rfl, rfl⟩
  · rw [oU_W] at hP
    refine lv_istore (lv' := [(5, .int (iI (0))), (0, .ref b), (1, .ref (ad 0 (0))), (2, .ref (ad 10 (0))), (3, .ref (ad 15 (0))), (4, .int (iI ((j : Nat) : Int)))]) hx hb dL_law_510 hl (by decide) rfl (fun ls hl => ?_)
    refine lv_aload_n hx hb dL_law_512 rfl (lv_at hl 3 rfl) ?_
    refine lv_aload_n hx hb dL_law_513 rfl (lv_at hl 1 rfl) ?_
    refine lv_iload hx hb dL_law_514 (lv_at hl 5 rfl) ?_
    refine lv_iconst (v := iI ((1 : Nat) : Int)) hx hb dL_law_516 (by decide) ?_
    refine fw_iaddN (a := j) (b := 1) hx hb dL_law_517 ?_
    refine ls_ldv (j := j + 1) (v := iI v_1) hv_1 hx hb hX hbl (by rw [hz]; exact hS) (by omega) hL dL_law_518 ?_
    refine lv_aload_n hx hb dL_law_519 rfl (lv_at hl 1 rfl) ?_
    refine lv_iload hx hb dL_law_520 (lv_at hl 5 rfl) ?_
    refine lv_iconst (v := iI ((2 : Nat) : Int)) hx hb dL_law_522 (by decide) ?_
    refine fw_iaddN (a := j) (b := 2) hx hb dL_law_523 ?_
    refine ls_ldv (j := j + 2) (v := iI v_2) hv_2 hx hb hX hbl (by rw [hz]; exact hS) (by omega) hL dL_law_524 ?_
    refine lv_aload_n hx hb dL_law_525 rfl (lv_at hl 1 rfl) ?_
    refine lv_iload hx hb dL_law_526 (lv_at hl 5 rfl) ?_
    refine lv_iconst (v := iI ((3 : Nat) : Int)) hx hb dL_law_528 (by decide) ?_
    refine fw_iaddN (a := j) (b := 3) hx hb dL_law_529 ?_
    refine ls_ldv (j := j + 3) (v := iI v_3) hv_3 hx hb hX hbl (by rw [hz]; exact hS) (by omega) hL dL_law_530 ?_
    rw [WCM] at hP
    refine fw_cVi (As := [.int (iI (v_1)), .int (iI (v_2)), .int (iI (v_3))]) (rest := []) ⟨hx, hb, hml, hown, hts⟩ (c_X3_canLoad l D cA z ad σ th u a ((WC cA ad σ (oW cA (vp_updL f 0 (bL (cB (allowed σ (Int.toNat v_1) (5 * Int.toNat v_2 + Int.toNat v_3)))))))) ((v_1)) ((v_2)) ((v_3)) hI ⟨by omega, by omega⟩ ⟨by omega, by omega⟩ ⟨by omega, by omega⟩) (cwV 3 hts gL_law_X3_canLoad rfl rfl rfl (by decide +kernel) ⟨Nat.le_of_ble_eq_true rfl, Nat.le_of_ble_eq_true rfl⟩) WM_10 rfl rfl hl.1 (Nat.le_of_ble_eq_true rfl) dL_law_531 ⟨show _ ≤ 658709 from by omega, show _ ≤ 7119977 from by omega⟩ hK hP hS rfl (fun r w' H locs q_5 hP hS => ?_)
    rcases q_5 with ⟨hok2, rfl, rfl⟩ | ⟨hbad2, rfl, rfl⟩
    · rw [← WCM] at hP
      refine lv_istore (lv' := [(6, .int (iI (bI (cB (allowed σ (Int.toNat v_1) (5 * Int.toNat v_2 + Int.toNat v_3)))))), (5, .int (iI (0))), (0, .ref b), (1, .ref (ad 0 (0))), (2, .ref (ad 10 (0))), (3, .ref (ad 15 (0))), (4, .int (iI ((j : Nat) : Int)))]) hx hb dL_law_534 hl (by decide) rfl (fun ls hl => ?_)
      refine lv_aload_n hx hb dL_law_536 rfl (lv_at hl 4 rfl) ?_
      rw [WCM] at hP
      refine fw_cVi (As := []) (rest := []) ⟨hx, hb, hml, hown, hts⟩ (c_X3_thrown l D cA z ad σ (((0 : Nat) : Int)) u a ((WC cA ad σ (oW cA (vp_updL f 0 (bL (cB (allowed σ (Int.toNat v_1) (5 * Int.toNat v_2 + Int.toNat v_3))))))))  hI) (cwV 0 hts gL_law_X3_thrown rfl rfl rfl (by decide +kernel) ⟨Nat.le_of_ble_eq_true rfl, Nat.le_of_ble_eq_true rfl⟩) WM_10 rfl rfl hl.1 (Nat.le_of_ble_eq_true rfl) dL_law_537 ⟨show _ ≤ 658709 from by omega, show _ ≤ 7119977 from by omega⟩ hK hP hS rfl (fun r w' H locs q_6 hP hS => ?_)
      obtain ⟨rfl, rfl⟩ := q_6
      have hn_7 := hI.n
      have hm_8 := hI.lim
      rw [← WCM] at hP
      refine lv_iload hx hb dL_law_540 (lv_at hl 1 rfl) ?_
      refine lw_same (tgt := 547) hx hb dL_law_542 (by decide) ?_
      refine lv_iload hx hb dL_law_547 (lv_at hl 1 rfl) ?_
      refine fw_if_ne (x := (0)) (tgt := 571) hx hb dL_law_549 (by decide) ⟨by omega, by omega⟩ (fun c_9 => absurd c_9 (by decide)) (fun c_9 => ?_)
      refine lv_aload_n hx hb dL_law_552 rfl (lv_at hl 5 rfl) ?_
      refine lv_iconst (v := iI ((0 : Nat) : Int)) hx hb dL_law_553 (by decide) ?_
      refine lw_ld0 (x := bL (cB (allowed σ (Int.toNat v_1) (5 * Int.toNat v_2 + Int.toNat v_3)))) hx hb hK hP ((WC_r (by decide)).trans (oW_15 cA _)) 4 rfl dL_law_554 ?_
      refine lv_iload hx hb dL_law_555 (lv_at hl 0 rfl) ?_
      refine fw_if_eqB (x := cB (allowed σ (Int.toNat v_1) (5 * Int.toNat v_2 + Int.toNat v_3))) (tgt := 564) hx hb dL_law_557 (by decide) (fun c_10 => ?_) (fun c_10 => ?_)
      · replace c_10 := cB_f.mp c_10
        refine lv_lconst (v := (0 : Int64)) hx hb dL_law_564 (by decide) ?_
        refine fw_top (v' := .long (bL (cB (allowed σ (Int.toNat v_1) (5 * Int.toNat v_2 + Int.toNat v_3))))) (congrArg Value.long (by rw [bL, if_neg (fun q9 => absurd (cB_t.mp q9) (by assumption))])) ?_
        refine W.lcmp hx hb dL_law_565 ?_
        refine fw_top (v' := .int (iI 0)) (by rw [lg_cmp_self]) ?_
        refine fw_if_eq (x := (0)) (tgt := 571) hx hb dL_law_566 (by decide) ⟨by omega, by omega⟩ (fun c_11 => ?_) (fun c_11 => absurd c_11 (by decide))
        refine lv_goto (tgt := 1285) hx hb dL_law_571 (by decide) ?_
        refine W.widen (k := cells + 3) (n := slots + 20) (by omega) (by omega) ?_
        exact kk σ ad (((0 : Nat) : Int)) u a (vp_updL f 0 (bL (cB (allowed σ (Int.toNat v_1) (5 * Int.toNat v_2 + Int.toNat v_3))))) H locs ls hI hP hS (lv_sub hl [2, 3, 4, 5, 6] rfl)
      · replace c_10 := cB_t.mp c_10
        refine lv_lconst (v := (1 : Int64)) hx hb dL_law_560 (by decide) ?_
        refine lv_goto (tgt := 565) hx hb dL_law_561 (by decide) ?_
        refine fw_top (v' := .long (bL (cB (allowed σ (Int.toNat v_1) (5 * Int.toNat v_2 + Int.toNat v_3))))) (congrArg Value.long (by rw [bL, if_pos (cB_t.mpr (by assumption))])) ?_
        refine W.lcmp hx hb dL_law_565 ?_
        refine fw_top (v' := .int (iI 0)) (by rw [lg_cmp_self]) ?_
        refine fw_if_eq (x := (0)) (tgt := 571) hx hb dL_law_566 (by decide) ⟨by omega, by omega⟩ (fun c_12 => ?_) (fun c_12 => absurd c_12 (by decide))
        refine lv_goto (tgt := 1285) hx hb dL_law_571 (by decide) ?_
        refine W.widen (k := cells + 3) (n := slots + 20) (by omega) (by omega) ?_
        exact kk σ ad (((0 : Nat) : Int)) u a (vp_updL f 0 (bL (cB (allowed σ (Int.toNat v_1) (5 * Int.toNat v_2 + Int.toNat v_3))))) H locs ls hI hP hS (lv_sub hl [2, 3, 4, 5, 6] rfl)
    · exfalso; omega
  · have hP := hP
    refine lv_istore (lv' := [(5, .int (iI (1))), (0, .ref b), (1, .ref (ad 0 (0))), (2, .ref (ad 10 (0))), (3, .ref (ad 15 (0))), (4, .int (iI ((j : Nat) : Int)))]) hx hb dL_law_510 hl (by decide) rfl (fun ls hl => ?_)
    refine lv_aload_n hx hb dL_law_512 rfl (lv_at hl 3 rfl) ?_
    refine lv_aload_n hx hb dL_law_513 rfl (lv_at hl 1 rfl) ?_
    refine lv_iload hx hb dL_law_514 (lv_at hl 5 rfl) ?_
    refine lv_iconst (v := iI ((1 : Nat) : Int)) hx hb dL_law_516 (by decide) ?_
    refine fw_iaddN (a := j) (b := 1) hx hb dL_law_517 ?_
    refine ls_ldv (j := j + 1) (v := iI v_1) hv_1 hx hb hX hbl (by rw [hz]; exact hS) (by omega) hL dL_law_518 ?_
    refine lv_aload_n hx hb dL_law_519 rfl (lv_at hl 1 rfl) ?_
    refine lv_iload hx hb dL_law_520 (lv_at hl 5 rfl) ?_
    refine lv_iconst (v := iI ((2 : Nat) : Int)) hx hb dL_law_522 (by decide) ?_
    refine fw_iaddN (a := j) (b := 2) hx hb dL_law_523 ?_
    refine ls_ldv (j := j + 2) (v := iI v_2) hv_2 hx hb hX hbl (by rw [hz]; exact hS) (by omega) hL dL_law_524 ?_
    refine lv_aload_n hx hb dL_law_525 rfl (lv_at hl 1 rfl) ?_
    refine lv_iload hx hb dL_law_526 (lv_at hl 5 rfl) ?_
    refine lv_iconst (v := iI ((3 : Nat) : Int)) hx hb dL_law_528 (by decide) ?_
    refine fw_iaddN (a := j) (b := 3) hx hb dL_law_529 ?_
    refine ls_ldv (j := j + 3) (v := iI v_3) hv_3 hx hb hX hbl (by rw [hz]; exact hS) (by omega) hL dL_law_530 ?_
    rw [WCM] at hP
    refine fw_cVi (As := [.int (iI (v_1)), .int (iI (v_2)), .int (iI (v_3))]) (rest := []) ⟨hx, hb, hml, hown, hts⟩ (c_X3_canLoad l D cA z ad σ th u a ((WC cA ad σ (oW cA f))) ((v_1)) ((v_2)) ((v_3)) hI ⟨by omega, by omega⟩ ⟨by omega, by omega⟩ ⟨by omega, by omega⟩) (cwV 3 hts gL_law_X3_canLoad rfl rfl rfl (by decide +kernel) ⟨Nat.le_of_ble_eq_true rfl, Nat.le_of_ble_eq_true rfl⟩) WM_10 rfl rfl hl.1 (Nat.le_of_ble_eq_true rfl) dL_law_531 ⟨show _ ≤ 658709 from by omega, show _ ≤ 7119977 from by omega⟩ hK hP hS rfl (fun r w' H locs q_13 hP hS => ?_)
    rcases q_13 with ⟨hok2, rfl, rfl⟩ | ⟨hbad2, rfl, rfl⟩
    · exfalso; omega
    · rw [← WCM] at hP
      refine lv_istore (lv' := [(6, .int (iI (0))), (5, .int (iI (1))), (0, .ref b), (1, .ref (ad 0 (0))), (2, .ref (ad 10 (0))), (3, .ref (ad 15 (0))), (4, .int (iI ((j : Nat) : Int)))]) hx hb dL_law_534 hl (by decide) rfl (fun ls hl => ?_)
      refine lv_aload_n hx hb dL_law_536 rfl (lv_at hl 4 rfl) ?_
      rw [WCM] at hP
      refine fw_cVi (As := []) (rest := []) ⟨hx, hb, hml, hown, hts⟩ (c_X3_thrown l D cA z ad σ (((1 : Nat) : Int)) u a ((WC cA ad σ (oW cA f)))  hI) (cwV 0 hts gL_law_X3_thrown rfl rfl rfl (by decide +kernel) ⟨Nat.le_of_ble_eq_true rfl, Nat.le_of_ble_eq_true rfl⟩) WM_10 rfl rfl hl.1 (Nat.le_of_ble_eq_true rfl) dL_law_537 ⟨show _ ≤ 658709 from by omega, show _ ≤ 7119977 from by omega⟩ hK hP hS rfl (fun r w' H locs q_14 hP hS => ?_)
      obtain ⟨rfl, rfl⟩ := q_14
      have hn_15 := hI.n
      have hm_16 := hI.lim
      rw [← WCM] at hP
      refine lv_iload hx hb dL_law_540 (lv_at hl 1 rfl) ?_
      refine lw_same (tgt := 547) hx hb dL_law_542 (by decide) ?_
      refine lv_iload hx hb dL_law_547 (lv_at hl 1 rfl) ?_
      refine fw_if_ne (x := (1)) (tgt := 571) hx hb dL_law_549 (by decide) ⟨by omega, by omega⟩ (fun c_17 => ?_) (fun c_17 => absurd c_17 (by decide))
      refine lv_goto (tgt := 1285) hx hb dL_law_571 (by decide) ?_
      refine W.widen (k := cells + 3) (n := slots + 20) (by omega) (by omega) ?_
      exact kk σ ad (((1 : Nat) : Int)) u a f H locs ls hI hP hS (lv_sub hl [2, 3, 4, 5, 6] rfl)

set_option maxHeartbeats 4000000 in
set_option maxRecDepth 100000 in
theorem arm_setPlug {p : Program} {l : Launch} {e : Env} {s : State} {m : MethodId} {args : Array Value} {below : List Frame} {meth : Method} {cd : Code} {Q : State → Prop} {D : va_G} {cA : Nat → ClassId} {sa : Nat → Nat} {b L : Nat} {xs : Nat → Int32} {H : Heap} {locs : List Loc} {cells slots : Nat} {ls : Array Slot} {ad : fw_Ad} {σ : St} {th u a : Int} {f : Nat → Int64} {j : Nat} (X : LX p l s m args cd b L xs D cA sa) (hj : j + 5 ≤ L) (hI : Inv σ) (hP : fw_P D vwCl s.heap.size ad (WC cA ad σ (WM cA ad σ th u a (oW cA f))) H) (hS : va_S (fw_A s.heap.size) s.heap H locs) (hl : lv_has ls 9 [(0, .ref b), (1, .ref (ad 0 0)), (2, .ref (ad 10 0)), (3, .ref (ad 15 0)), (4, .int (iI ((j : Nat) : Int)))]) (hro : cells + 3 ≤ 658709 ∧ slots + 20 ≤ 7119977) (hlocks : meth.locks = false)
    (kk : ∀ (σ : St) (ad : fw_Ad) (th u a : Int) (f : Nat → Int64) (H : Heap) (locs : List Loc) (ls : Array Slot), Inv σ → fw_P D vwCl s.heap.size ad (WC cA ad σ (WM cA ad σ th u a (oW cA f))) H → va_S (fw_A s.heap.size) s.heap H locs → lv_has ls 9 [(0, .ref b), (1, .ref (ad 0 0)), (2, .ref (ad 10 0)), (3, .ref (ad 15 0)), (4, .int (iI ((j : Nat) : Int)))] → W p l e room_1 s m args below meth cd H locs (cells + 3) (slots + 20) Q (F0 m 1285 ls [])) : W p l e room_1 s m args below meth cd H locs cells slots Q (F0 m 384 ls []) := by
  obtain ⟨hx, hb, hml, hown, hts, hX, hbl, hL, hK, hAO, hE, hl0⟩ := X
  generalize hz : s.heap.size = z at hP hS kk hE
  refine lv_aload_n hx hb dL_law_384 rfl (lv_at hl 1 rfl) ?_
  refine lv_aload_n hx hb dL_law_385 rfl (lv_at hl 0 rfl) ?_
  refine lv_iload hx hb dL_law_386 (lv_at hl 4 rfl) ?_
  refine lv_iconst (v := iI ((1 : Nat) : Int)) hx hb dL_law_388 (by decide) ?_
  refine fw_iaddN (a := j) (b := 1) hx hb dL_law_389 ?_
  obtain ⟨v_1, hv_1, hv_1a, hv_1b⟩ := iI_ex (xs (j + 1))
  refine ls_ldv (j := j + 1) (v := iI v_1) hv_1 hx hb hX hbl (by rw [hz]; exact hS) (by omega) hL dL_law_390 ?_
  refine lv_aload_n hx hb dL_law_391 rfl (lv_at hl 0 rfl) ?_
  refine lv_iload hx hb dL_law_392 (lv_at hl 4 rfl) ?_
  refine lv_iconst (v := iI ((2 : Nat) : Int)) hx hb dL_law_394 (by decide) ?_
  refine fw_iaddN (a := j) (b := 2) hx hb dL_law_395 ?_
  obtain ⟨v_2, hv_2, hv_2a, hv_2b⟩ := iI_ex (xs (j + 2))
  refine ls_ldv (j := j + 2) (v := iI v_2) hv_2 hx hb hX hbl (by rw [hz]; exact hS) (by omega) hL dL_law_396 ?_
  refine lv_aload_n hx hb dL_law_397 rfl (lv_at hl 0 rfl) ?_
  refine lv_iload hx hb dL_law_398 (lv_at hl 4 rfl) ?_
  refine lv_iconst (v := iI ((3 : Nat) : Int)) hx hb dL_law_400 (by decide) ?_
  refine fw_iaddN (a := j) (b := 3) hx hb dL_law_401 ?_
  obtain ⟨v_3, hv_3, hv_3a, hv_3b⟩ := iI_ex (xs (j + 3))
  refine ls_ldv (j := j + 3) (v := iI v_3) hv_3 hx hb hX hbl (by rw [hz]; exact hS) (by omega) hL dL_law_402 ?_
  refine fw_if_eq (x := (v_3)) (tgt := 410) hx hb dL_law_403 (by decide) ⟨by omega, by omega⟩ (fun c_4 => ?_) (fun c_4 => ?_)
  · refine lv_iconst (v := iI ((0 : Nat) : Int)) hx hb dL_law_410 (by decide) ?_
    refine lv_aload_n hx hb dL_law_411 rfl (lv_at hl 3 rfl) ?_
    refine fh_cSi (As := [.ref (ad 0 (0)), .int (iI (v_1)), .int (iI (v_2)), .int (iI ((0 : Nat) : Int)), .ref (ad 15 (0))]) (rest := []) ⟨hx, hb, hml, hown, hts⟩ (c_L_setPlug l hl0 D cA z ad sa σ (WM cA ad σ th u a (oW cA f)) f ((v_1)) ((v_2)) (false) hI (oW_15 cA _) ⟨by omega, by omega⟩ ⟨by omega, by omega⟩) (vx_cwSW 5 hts gL_law_L_setPlug rfl rfl rfl (by decide +kernel) ⟨Nat.le_of_ble_eq_true rfl, Nat.le_of_ble_eq_true rfl⟩) rfl hl.1 (Nat.le_of_ble_eq_true rfl) dL_law_412 ⟨show _ ≤ 658709 from by omega, show _ ≤ 7119977 from by omega⟩ hK hE hP hS rfl (fun r w' H locs q_5 hP hS => ?_)
    rcases q_5 with ⟨hok, hnr, rfl, rfl⟩ | ⟨hbad, rfl, rfl⟩ | ⟨hok, hre, rfl, rfl⟩
    · rw [oU_W] at hP
      refine lv_istore (lv' := [(5, .int (iI (0))), (0, .ref b), (1, .ref (ad 0 (0))), (2, .ref (ad 10 (0))), (3, .ref (ad 15 (0))), (4, .int (iI ((j : Nat) : Int)))]) hx hb dL_law_415 hl (by decide) rfl (fun ls hl => ?_)
      refine lv_aload_n hx hb dL_law_417 rfl (lv_at hl 3 rfl) ?_
      refine lv_aload_n hx hb dL_law_418 rfl (lv_at hl 1 rfl) ?_
      refine lv_iload hx hb dL_law_419 (lv_at hl 5 rfl) ?_
      refine lv_iconst (v := iI ((1 : Nat) : Int)) hx hb dL_law_421 (by decide) ?_
      refine fw_iaddN (a := j) (b := 1) hx hb dL_law_422 ?_
      refine ls_ldv (j := j + 1) (v := iI v_1) hv_1 hx hb hX hbl (by rw [hz]; exact hS) (by omega) hL dL_law_423 ?_
      refine lv_aload_n hx hb dL_law_424 rfl (lv_at hl 1 rfl) ?_
      refine lv_iload hx hb dL_law_425 (lv_at hl 5 rfl) ?_
      refine lv_iconst (v := iI ((2 : Nat) : Int)) hx hb dL_law_427 (by decide) ?_
      refine fw_iaddN (a := j) (b := 2) hx hb dL_law_428 ?_
      refine ls_ldv (j := j + 2) (v := iI v_2) hv_2 hx hb hX hbl (by rw [hz]; exact hS) (by omega) hL dL_law_429 ?_
      refine lv_aload_n hx hb dL_law_430 rfl (lv_at hl 1 rfl) ?_
      refine lv_iload hx hb dL_law_431 (lv_at hl 5 rfl) ?_
      refine lv_iconst (v := iI ((3 : Nat) : Int)) hx hb dL_law_433 (by decide) ?_
      refine fw_iaddN (a := j) (b := 3) hx hb dL_law_434 ?_
      refine ls_ldv (j := j + 3) (v := iI v_3) hv_3 hx hb hX hbl (by rw [hz]; exact hS) (by omega) hL dL_law_435 ?_
      refine fw_if_eq (x := (v_3)) (tgt := 443) hx hb dL_law_436 (by decide) ⟨by omega, by omega⟩ (fun c_6 => ?_) (fun c_6 => ?_)
      · refine lv_iconst (v := iI ((0 : Nat) : Int)) hx hb dL_law_443 (by decide) ?_
        rw [WCM] at hP
        refine fw_cVi (As := [.int (iI (v_1)), .int (iI (v_2)), .int (iI ((0 : Nat) : Int))]) (rest := []) ⟨hx, hb, hml, hown, hts⟩ (c_X3_setPlug l D cA z ad σ th u a ((WC cA ad (up σ 7 (5 * Int.toNat v_1 + Int.toNat v_2) (bN false)) (oW cA (vp_updL f 0 (bL (decide (σ 7 (5 * Int.toNat v_1 + Int.toNat v_2) = 1))))))) ((v_1)) ((v_2)) (false) hI ⟨by omega, by omega⟩ ⟨by omega, by omega⟩) (cwV 3 hts gL_law_X3_setPlug rfl rfl rfl (by decide +kernel) ⟨Nat.le_of_ble_eq_true rfl, Nat.le_of_ble_eq_true rfl⟩) WM_10 rfl rfl hl.1 (Nat.le_of_ble_eq_true rfl) dL_law_444 ⟨show _ ≤ 658709 from by omega, show _ ≤ 7119977 from by omega⟩ hK hP hS rfl (fun r w' H locs q_7 hP hS => ?_)
        rcases q_7 with ⟨hbad2, rfl, rfl⟩ | ⟨⟨hok2, hre2⟩, rfl, rfl⟩ | ⟨hok2, hnr2, rfl, rfl⟩
        · exfalso; first | omega | exact hnr hre2 | exact hnr2 hre
        · exfalso; first | omega | exact hnr hre2 | exact hnr2 hre
        · have hpl := hI.pl (5 * Int.toNat v_1 + Int.toNat v_2)
          rw [← WCM] at hP
          have hI2 : Inv (up σ 7 (5 * Int.toNat v_1 + Int.toNat v_2) (bN false)) := Inv_plug hI (by decide)
          refine lv_istore (lv' := [(6, .int (iI ((σ 7 (5 * Int.toNat v_1 + Int.toNat v_2) : Nat) : Int))), (5, .int (iI (0))), (0, .ref b), (1, .ref (ad 0 (0))), (2, .ref (ad 10 (0))), (3, .ref (ad 15 (0))), (4, .int (iI ((j : Nat) : Int)))]) hx hb dL_law_447 hl (by decide) rfl (fun ls hl => ?_)
          refine lv_aload_n hx hb dL_law_449 rfl (lv_at hl 4 rfl) ?_
          rw [WCM] at hP
          refine fw_cVi (As := []) (rest := []) ⟨hx, hb, hml, hown, hts⟩ (c_X3_thrown l D cA z ad (up σ 7 (5 * Int.toNat v_1 + Int.toNat v_2) (bN false)) (((0 : Nat) : Int)) u a ((WC cA ad (up σ 7 (5 * Int.toNat v_1 + Int.toNat v_2) (bN false)) (oW cA (vp_updL f 0 (bL (decide (σ 7 (5 * Int.toNat v_1 + Int.toNat v_2) = 1)))))))  hI2) (cwV 0 hts gL_law_X3_thrown rfl rfl rfl (by decide +kernel) ⟨Nat.le_of_ble_eq_true rfl, Nat.le_of_ble_eq_true rfl⟩) WM_10 rfl rfl hl.1 (Nat.le_of_ble_eq_true rfl) dL_law_450 ⟨show _ ≤ 658709 from by omega, show _ ≤ 7119977 from by omega⟩ hK hP hS rfl (fun r w' H locs q_8 hP hS => ?_)
          obtain ⟨rfl, rfl⟩ := q_8
          have hn_9 := hI2.n
          have hm_10 := hI2.lim
          rw [← WCM] at hP
          refine lv_iload hx hb dL_law_453 (lv_at hl 1 rfl) ?_
          refine lw_same (tgt := 460) hx hb dL_law_455 (by decide) ?_
          refine lv_iload hx hb dL_law_460 (lv_at hl 1 rfl) ?_
          refine fw_if_ne (x := (0)) (tgt := 484) hx hb dL_law_462 (by decide) ⟨by omega, by omega⟩ (fun c_11 => absurd c_11 (by decide)) (fun c_11 => ?_)
          refine lv_aload_n hx hb dL_law_465 rfl (lv_at hl 5 rfl) ?_
          refine lv_iconst (v := iI ((0 : Nat) : Int)) hx hb dL_law_466 (by decide) ?_
          refine lw_ld0 (x := bL (decide (σ 7 (5 * Int.toNat v_1 + Int.toNat v_2) = 1))) hx hb hK hP ((WC_r (by decide)).trans (oW_15 cA _)) 4 rfl dL_law_467 ?_
          refine lv_iload hx hb dL_law_468 (lv_at hl 0 rfl) ?_
          refine fw_if_eq (x := ((σ 7 (5 * Int.toNat v_1 + Int.toNat v_2) : Nat) : Int)) (tgt := 477) hx hb dL_law_470 (by decide) ⟨by omega, by omega⟩ (fun c_12 => ?_) (fun c_12 => ?_)
          · refine lv_lconst (v := (0 : Int64)) hx hb dL_law_477 (by decide) ?_
            refine fw_top (v' := .long (bL (decide (σ 7 (5 * Int.toNat v_1 + Int.toNat v_2) = 1)))) (congrArg Value.long (by rw [bL, if_neg (fun q9 => absurd (of_decide_eq_true q9) (by omega))])) ?_
            refine W.lcmp hx hb dL_law_478 ?_
            refine fw_top (v' := .int (iI 0)) (by rw [lg_cmp_self]) ?_
            refine fw_if_eq (x := (0)) (tgt := 484) hx hb dL_law_479 (by decide) ⟨by omega, by omega⟩ (fun c_13 => ?_) (fun c_13 => absurd c_13 (by decide))
            refine lv_goto (tgt := 1285) hx hb dL_law_484 (by decide) ?_
            refine W.widen (k := cells + 3) (n := slots + 20) (by omega) (by omega) ?_
            exact kk (up σ 7 (5 * Int.toNat v_1 + Int.toNat v_2) (bN false)) ad (((0 : Nat) : Int)) u a (vp_updL f 0 (bL (decide (σ 7 (5 * Int.toNat v_1 + Int.toNat v_2) = 1)))) H locs ls hI2 hP hS (lv_sub hl [2, 3, 4, 5, 6] rfl)
          · refine lv_lconst (v := (1 : Int64)) hx hb dL_law_473 (by decide) ?_
            refine lv_goto (tgt := 478) hx hb dL_law_474 (by decide) ?_
            refine fw_top (v' := .long (bL (decide (σ 7 (5 * Int.toNat v_1 + Int.toNat v_2) = 1)))) (congrArg Value.long (by rw [bL, if_pos (decide_eq_true (by omega))])) ?_
            refine W.lcmp hx hb dL_law_478 ?_
            refine fw_top (v' := .int (iI 0)) (by rw [lg_cmp_self]) ?_
            refine fw_if_eq (x := (0)) (tgt := 484) hx hb dL_law_479 (by decide) ⟨by omega, by omega⟩ (fun c_14 => ?_) (fun c_14 => absurd c_14 (by decide))
            refine lv_goto (tgt := 1285) hx hb dL_law_484 (by decide) ?_
            refine W.widen (k := cells + 3) (n := slots + 20) (by omega) (by omega) ?_
            exact kk (up σ 7 (5 * Int.toNat v_1 + Int.toNat v_2) (bN false)) ad (((0 : Nat) : Int)) u a (vp_updL f 0 (bL (decide (σ 7 (5 * Int.toNat v_1 + Int.toNat v_2) = 1)))) H locs ls hI2 hP hS (lv_sub hl [2, 3, 4, 5, 6] rfl)
      · exfalso; omega
    · have hP := hP
      refine lv_istore (lv' := [(5, .int (iI (1))), (0, .ref b), (1, .ref (ad 0 (0))), (2, .ref (ad 10 (0))), (3, .ref (ad 15 (0))), (4, .int (iI ((j : Nat) : Int)))]) hx hb dL_law_415 hl (by decide) rfl (fun ls hl => ?_)
      refine lv_aload_n hx hb dL_law_417 rfl (lv_at hl 3 rfl) ?_
      refine lv_aload_n hx hb dL_law_418 rfl (lv_at hl 1 rfl) ?_
      refine lv_iload hx hb dL_law_419 (lv_at hl 5 rfl) ?_
      refine lv_iconst (v := iI ((1 : Nat) : Int)) hx hb dL_law_421 (by decide) ?_
      refine fw_iaddN (a := j) (b := 1) hx hb dL_law_422 ?_
      refine ls_ldv (j := j + 1) (v := iI v_1) hv_1 hx hb hX hbl (by rw [hz]; exact hS) (by omega) hL dL_law_423 ?_
      refine lv_aload_n hx hb dL_law_424 rfl (lv_at hl 1 rfl) ?_
      refine lv_iload hx hb dL_law_425 (lv_at hl 5 rfl) ?_
      refine lv_iconst (v := iI ((2 : Nat) : Int)) hx hb dL_law_427 (by decide) ?_
      refine fw_iaddN (a := j) (b := 2) hx hb dL_law_428 ?_
      refine ls_ldv (j := j + 2) (v := iI v_2) hv_2 hx hb hX hbl (by rw [hz]; exact hS) (by omega) hL dL_law_429 ?_
      refine lv_aload_n hx hb dL_law_430 rfl (lv_at hl 1 rfl) ?_
      refine lv_iload hx hb dL_law_431 (lv_at hl 5 rfl) ?_
      refine lv_iconst (v := iI ((3 : Nat) : Int)) hx hb dL_law_433 (by decide) ?_
      refine fw_iaddN (a := j) (b := 3) hx hb dL_law_434 ?_
      refine ls_ldv (j := j + 3) (v := iI v_3) hv_3 hx hb hX hbl (by rw [hz]; exact hS) (by omega) hL dL_law_435 ?_
      refine fw_if_eq (x := (v_3)) (tgt := 443) hx hb dL_law_436 (by decide) ⟨by omega, by omega⟩ (fun c_15 => ?_) (fun c_15 => ?_)
      · refine lv_iconst (v := iI ((0 : Nat) : Int)) hx hb dL_law_443 (by decide) ?_
        rw [WCM] at hP
        refine fw_cVi (As := [.int (iI (v_1)), .int (iI (v_2)), .int (iI ((0 : Nat) : Int))]) (rest := []) ⟨hx, hb, hml, hown, hts⟩ (c_X3_setPlug l D cA z ad σ th u a ((WC cA ad σ (oW cA f))) ((v_1)) ((v_2)) (false) hI ⟨by omega, by omega⟩ ⟨by omega, by omega⟩) (cwV 3 hts gL_law_X3_setPlug rfl rfl rfl (by decide +kernel) ⟨Nat.le_of_ble_eq_true rfl, Nat.le_of_ble_eq_true rfl⟩) WM_10 rfl rfl hl.1 (Nat.le_of_ble_eq_true rfl) dL_law_444 ⟨show _ ≤ 658709 from by omega, show _ ≤ 7119977 from by omega⟩ hK hP hS rfl (fun r w' H locs q_16 hP hS => ?_)
        rcases q_16 with ⟨hbad2, rfl, rfl⟩ | ⟨⟨hok2, hre2⟩, rfl, rfl⟩ | ⟨hok2, hnr2, rfl, rfl⟩
        · rw [← WCM] at hP
          refine lv_istore (lv' := [(6, .int (iI (0))), (5, .int (iI (1))), (0, .ref b), (1, .ref (ad 0 (0))), (2, .ref (ad 10 (0))), (3, .ref (ad 15 (0))), (4, .int (iI ((j : Nat) : Int)))]) hx hb dL_law_447 hl (by decide) rfl (fun ls hl => ?_)
          refine lv_aload_n hx hb dL_law_449 rfl (lv_at hl 4 rfl) ?_
          rw [WCM] at hP
          refine fw_cVi (As := []) (rest := []) ⟨hx, hb, hml, hown, hts⟩ (c_X3_thrown l D cA z ad σ (((1 : Nat) : Int)) u a ((WC cA ad σ (oW cA f)))  hI) (cwV 0 hts gL_law_X3_thrown rfl rfl rfl (by decide +kernel) ⟨Nat.le_of_ble_eq_true rfl, Nat.le_of_ble_eq_true rfl⟩) WM_10 rfl rfl hl.1 (Nat.le_of_ble_eq_true rfl) dL_law_450 ⟨show _ ≤ 658709 from by omega, show _ ≤ 7119977 from by omega⟩ hK hP hS rfl (fun r w' H locs q_17 hP hS => ?_)
          obtain ⟨rfl, rfl⟩ := q_17
          have hn_18 := hI.n
          have hm_19 := hI.lim
          rw [← WCM] at hP
          refine lv_iload hx hb dL_law_453 (lv_at hl 1 rfl) ?_
          refine lw_same (tgt := 460) hx hb dL_law_455 (by decide) ?_
          refine lv_iload hx hb dL_law_460 (lv_at hl 1 rfl) ?_
          refine fw_if_ne (x := (1)) (tgt := 484) hx hb dL_law_462 (by decide) ⟨by omega, by omega⟩ (fun c_20 => ?_) (fun c_20 => absurd c_20 (by decide))
          refine lv_goto (tgt := 1285) hx hb dL_law_484 (by decide) ?_
          refine W.widen (k := cells + 3) (n := slots + 20) (by omega) (by omega) ?_
          exact kk σ ad (((1 : Nat) : Int)) u a f H locs ls hI hP hS (lv_sub hl [2, 3, 4, 5, 6] rfl)
        · exfalso; first | omega | exact hnr hre2 | exact hnr2 hre
        · exfalso; first | omega | exact hnr hre2 | exact hnr2 hre
      · exfalso; omega
    · have hP := hP
      refine lv_istore (lv' := [(5, .int (iI (2))), (0, .ref b), (1, .ref (ad 0 (0))), (2, .ref (ad 10 (0))), (3, .ref (ad 15 (0))), (4, .int (iI ((j : Nat) : Int)))]) hx hb dL_law_415 hl (by decide) rfl (fun ls hl => ?_)
      refine lv_aload_n hx hb dL_law_417 rfl (lv_at hl 3 rfl) ?_
      refine lv_aload_n hx hb dL_law_418 rfl (lv_at hl 1 rfl) ?_
      refine lv_iload hx hb dL_law_419 (lv_at hl 5 rfl) ?_
      refine lv_iconst (v := iI ((1 : Nat) : Int)) hx hb dL_law_421 (by decide) ?_
      refine fw_iaddN (a := j) (b := 1) hx hb dL_law_422 ?_
      refine ls_ldv (j := j + 1) (v := iI v_1) hv_1 hx hb hX hbl (by rw [hz]; exact hS) (by omega) hL dL_law_423 ?_
      refine lv_aload_n hx hb dL_law_424 rfl (lv_at hl 1 rfl) ?_
      refine lv_iload hx hb dL_law_425 (lv_at hl 5 rfl) ?_
      refine lv_iconst (v := iI ((2 : Nat) : Int)) hx hb dL_law_427 (by decide) ?_
      refine fw_iaddN (a := j) (b := 2) hx hb dL_law_428 ?_
      refine ls_ldv (j := j + 2) (v := iI v_2) hv_2 hx hb hX hbl (by rw [hz]; exact hS) (by omega) hL dL_law_429 ?_
      refine lv_aload_n hx hb dL_law_430 rfl (lv_at hl 1 rfl) ?_
      refine lv_iload hx hb dL_law_431 (lv_at hl 5 rfl) ?_
      refine lv_iconst (v := iI ((3 : Nat) : Int)) hx hb dL_law_433 (by decide) ?_
      refine fw_iaddN (a := j) (b := 3) hx hb dL_law_434 ?_
      refine ls_ldv (j := j + 3) (v := iI v_3) hv_3 hx hb hX hbl (by rw [hz]; exact hS) (by omega) hL dL_law_435 ?_
      refine fw_if_eq (x := (v_3)) (tgt := 443) hx hb dL_law_436 (by decide) ⟨by omega, by omega⟩ (fun c_21 => ?_) (fun c_21 => ?_)
      · refine lv_iconst (v := iI ((0 : Nat) : Int)) hx hb dL_law_443 (by decide) ?_
        rw [WCM] at hP
        refine fw_cVi (As := [.int (iI (v_1)), .int (iI (v_2)), .int (iI ((0 : Nat) : Int))]) (rest := []) ⟨hx, hb, hml, hown, hts⟩ (c_X3_setPlug l D cA z ad σ th u a ((WC cA ad σ (oW cA f))) ((v_1)) ((v_2)) (false) hI ⟨by omega, by omega⟩ ⟨by omega, by omega⟩) (cwV 3 hts gL_law_X3_setPlug rfl rfl rfl (by decide +kernel) ⟨Nat.le_of_ble_eq_true rfl, Nat.le_of_ble_eq_true rfl⟩) WM_10 rfl rfl hl.1 (Nat.le_of_ble_eq_true rfl) dL_law_444 ⟨show _ ≤ 658709 from by omega, show _ ≤ 7119977 from by omega⟩ hK hP hS rfl (fun r w' H locs q_22 hP hS => ?_)
        rcases q_22 with ⟨hbad2, rfl, rfl⟩ | ⟨⟨hok2, hre2⟩, rfl, rfl⟩ | ⟨hok2, hnr2, rfl, rfl⟩
        · exfalso; first | omega | exact hnr hre2 | exact hnr2 hre
        · rw [← WCM] at hP
          refine lv_istore (lv' := [(6, .int (iI (0))), (5, .int (iI (2))), (0, .ref b), (1, .ref (ad 0 (0))), (2, .ref (ad 10 (0))), (3, .ref (ad 15 (0))), (4, .int (iI ((j : Nat) : Int)))]) hx hb dL_law_447 hl (by decide) rfl (fun ls hl => ?_)
          refine lv_aload_n hx hb dL_law_449 rfl (lv_at hl 4 rfl) ?_
          rw [WCM] at hP
          refine fw_cVi (As := []) (rest := []) ⟨hx, hb, hml, hown, hts⟩ (c_X3_thrown l D cA z ad σ (((2 : Nat) : Int)) u a ((WC cA ad σ (oW cA f)))  hI) (cwV 0 hts gL_law_X3_thrown rfl rfl rfl (by decide +kernel) ⟨Nat.le_of_ble_eq_true rfl, Nat.le_of_ble_eq_true rfl⟩) WM_10 rfl rfl hl.1 (Nat.le_of_ble_eq_true rfl) dL_law_450 ⟨show _ ≤ 658709 from by omega, show _ ≤ 7119977 from by omega⟩ hK hP hS rfl (fun r w' H locs q_23 hP hS => ?_)
          obtain ⟨rfl, rfl⟩ := q_23
          have hn_24 := hI.n
          have hm_25 := hI.lim
          rw [← WCM] at hP
          refine lv_iload hx hb dL_law_453 (lv_at hl 1 rfl) ?_
          refine lw_same (tgt := 460) hx hb dL_law_455 (by decide) ?_
          refine lv_iload hx hb dL_law_460 (lv_at hl 1 rfl) ?_
          refine fw_if_ne (x := (2)) (tgt := 484) hx hb dL_law_462 (by decide) ⟨by omega, by omega⟩ (fun c_26 => ?_) (fun c_26 => absurd c_26 (by decide))
          refine lv_goto (tgt := 1285) hx hb dL_law_484 (by decide) ?_
          refine W.widen (k := cells + 3) (n := slots + 20) (by omega) (by omega) ?_
          exact kk σ ad (((2 : Nat) : Int)) u a f H locs ls hI hP hS (lv_sub hl [2, 3, 4, 5, 6] rfl)
        · exfalso; first | omega | exact hnr hre2 | exact hnr2 hre
      · exfalso; omega
  · refine lv_iconst (v := iI ((1 : Nat) : Int)) hx hb dL_law_406 (by decide) ?_
    refine lv_goto (tgt := 411) hx hb dL_law_407 (by decide) ?_
    refine lv_aload_n hx hb dL_law_411 rfl (lv_at hl 3 rfl) ?_
    refine fh_cSi (As := [.ref (ad 0 (0)), .int (iI (v_1)), .int (iI (v_2)), .int (iI ((1 : Nat) : Int)), .ref (ad 15 (0))]) (rest := []) ⟨hx, hb, hml, hown, hts⟩ (c_L_setPlug l hl0 D cA z ad sa σ (WM cA ad σ th u a (oW cA f)) f ((v_1)) ((v_2)) (true) hI (oW_15 cA _) ⟨by omega, by omega⟩ ⟨by omega, by omega⟩) (vx_cwSW 5 hts gL_law_L_setPlug rfl rfl rfl (by decide +kernel) ⟨Nat.le_of_ble_eq_true rfl, Nat.le_of_ble_eq_true rfl⟩) rfl hl.1 (Nat.le_of_ble_eq_true rfl) dL_law_412 ⟨show _ ≤ 658709 from by omega, show _ ≤ 7119977 from by omega⟩ hK hE hP hS rfl (fun r w' H locs q_27 hP hS => ?_)
    rcases q_27 with ⟨hok, hnr, rfl, rfl⟩ | ⟨hbad, rfl, rfl⟩ | ⟨hok, hre, rfl, rfl⟩
    · rw [oU_W] at hP
      refine lv_istore (lv' := [(5, .int (iI (0))), (0, .ref b), (1, .ref (ad 0 (0))), (2, .ref (ad 10 (0))), (3, .ref (ad 15 (0))), (4, .int (iI ((j : Nat) : Int)))]) hx hb dL_law_415 hl (by decide) rfl (fun ls hl => ?_)
      refine lv_aload_n hx hb dL_law_417 rfl (lv_at hl 3 rfl) ?_
      refine lv_aload_n hx hb dL_law_418 rfl (lv_at hl 1 rfl) ?_
      refine lv_iload hx hb dL_law_419 (lv_at hl 5 rfl) ?_
      refine lv_iconst (v := iI ((1 : Nat) : Int)) hx hb dL_law_421 (by decide) ?_
      refine fw_iaddN (a := j) (b := 1) hx hb dL_law_422 ?_
      refine ls_ldv (j := j + 1) (v := iI v_1) hv_1 hx hb hX hbl (by rw [hz]; exact hS) (by omega) hL dL_law_423 ?_
      refine lv_aload_n hx hb dL_law_424 rfl (lv_at hl 1 rfl) ?_
      refine lv_iload hx hb dL_law_425 (lv_at hl 5 rfl) ?_
      refine lv_iconst (v := iI ((2 : Nat) : Int)) hx hb dL_law_427 (by decide) ?_
      refine fw_iaddN (a := j) (b := 2) hx hb dL_law_428 ?_
      refine ls_ldv (j := j + 2) (v := iI v_2) hv_2 hx hb hX hbl (by rw [hz]; exact hS) (by omega) hL dL_law_429 ?_
      refine lv_aload_n hx hb dL_law_430 rfl (lv_at hl 1 rfl) ?_
      refine lv_iload hx hb dL_law_431 (lv_at hl 5 rfl) ?_
      refine lv_iconst (v := iI ((3 : Nat) : Int)) hx hb dL_law_433 (by decide) ?_
      refine fw_iaddN (a := j) (b := 3) hx hb dL_law_434 ?_
      refine ls_ldv (j := j + 3) (v := iI v_3) hv_3 hx hb hX hbl (by rw [hz]; exact hS) (by omega) hL dL_law_435 ?_
      refine fw_if_eq (x := (v_3)) (tgt := 443) hx hb dL_law_436 (by decide) ⟨by omega, by omega⟩ (fun c_28 => ?_) (fun c_28 => ?_)
      · exfalso; omega
      · refine lv_iconst (v := iI ((1 : Nat) : Int)) hx hb dL_law_439 (by decide) ?_
        refine lv_goto (tgt := 444) hx hb dL_law_440 (by decide) ?_
        rw [WCM] at hP
        refine fw_cVi (As := [.int (iI (v_1)), .int (iI (v_2)), .int (iI ((1 : Nat) : Int))]) (rest := []) ⟨hx, hb, hml, hown, hts⟩ (c_X3_setPlug l D cA z ad σ th u a ((WC cA ad (up σ 7 (5 * Int.toNat v_1 + Int.toNat v_2) (bN true)) (oW cA (vp_updL f 0 (bL (decide (σ 7 (5 * Int.toNat v_1 + Int.toNat v_2) = 1))))))) ((v_1)) ((v_2)) (true) hI ⟨by omega, by omega⟩ ⟨by omega, by omega⟩) (cwV 3 hts gL_law_X3_setPlug rfl rfl rfl (by decide +kernel) ⟨Nat.le_of_ble_eq_true rfl, Nat.le_of_ble_eq_true rfl⟩) WM_10 rfl rfl hl.1 (Nat.le_of_ble_eq_true rfl) dL_law_444 ⟨show _ ≤ 658709 from by omega, show _ ≤ 7119977 from by omega⟩ hK hP hS rfl (fun r w' H locs q_29 hP hS => ?_)
        rcases q_29 with ⟨hbad2, rfl, rfl⟩ | ⟨⟨hok2, hre2⟩, rfl, rfl⟩ | ⟨hok2, hnr2, rfl, rfl⟩
        · exfalso; first | omega | exact hnr hre2 | exact hnr2 hre
        · exfalso; first | omega | exact hnr hre2 | exact hnr2 hre
        · have hpl := hI.pl (5 * Int.toNat v_1 + Int.toNat v_2)
          rw [← WCM] at hP
          have hI2 : Inv (up σ 7 (5 * Int.toNat v_1 + Int.toNat v_2) (bN true)) := Inv_plug hI (by decide)
          refine lv_istore (lv' := [(6, .int (iI ((σ 7 (5 * Int.toNat v_1 + Int.toNat v_2) : Nat) : Int))), (5, .int (iI (0))), (0, .ref b), (1, .ref (ad 0 (0))), (2, .ref (ad 10 (0))), (3, .ref (ad 15 (0))), (4, .int (iI ((j : Nat) : Int)))]) hx hb dL_law_447 hl (by decide) rfl (fun ls hl => ?_)
          refine lv_aload_n hx hb dL_law_449 rfl (lv_at hl 4 rfl) ?_
          rw [WCM] at hP
          refine fw_cVi (As := []) (rest := []) ⟨hx, hb, hml, hown, hts⟩ (c_X3_thrown l D cA z ad (up σ 7 (5 * Int.toNat v_1 + Int.toNat v_2) (bN true)) (((0 : Nat) : Int)) u a ((WC cA ad (up σ 7 (5 * Int.toNat v_1 + Int.toNat v_2) (bN true)) (oW cA (vp_updL f 0 (bL (decide (σ 7 (5 * Int.toNat v_1 + Int.toNat v_2) = 1)))))))  hI2) (cwV 0 hts gL_law_X3_thrown rfl rfl rfl (by decide +kernel) ⟨Nat.le_of_ble_eq_true rfl, Nat.le_of_ble_eq_true rfl⟩) WM_10 rfl rfl hl.1 (Nat.le_of_ble_eq_true rfl) dL_law_450 ⟨show _ ≤ 658709 from by omega, show _ ≤ 7119977 from by omega⟩ hK hP hS rfl (fun r w' H locs q_30 hP hS => ?_)
          obtain ⟨rfl, rfl⟩ := q_30
          have hn_31 := hI2.n
          have hm_32 := hI2.lim
          rw [← WCM] at hP
          refine lv_iload hx hb dL_law_453 (lv_at hl 1 rfl) ?_
          refine lw_same (tgt := 460) hx hb dL_law_455 (by decide) ?_
          refine lv_iload hx hb dL_law_460 (lv_at hl 1 rfl) ?_
          refine fw_if_ne (x := (0)) (tgt := 484) hx hb dL_law_462 (by decide) ⟨by omega, by omega⟩ (fun c_33 => absurd c_33 (by decide)) (fun c_33 => ?_)
          refine lv_aload_n hx hb dL_law_465 rfl (lv_at hl 5 rfl) ?_
          refine lv_iconst (v := iI ((0 : Nat) : Int)) hx hb dL_law_466 (by decide) ?_
          refine lw_ld0 (x := bL (decide (σ 7 (5 * Int.toNat v_1 + Int.toNat v_2) = 1))) hx hb hK hP ((WC_r (by decide)).trans (oW_15 cA _)) 4 rfl dL_law_467 ?_
          refine lv_iload hx hb dL_law_468 (lv_at hl 0 rfl) ?_
          refine fw_if_eq (x := ((σ 7 (5 * Int.toNat v_1 + Int.toNat v_2) : Nat) : Int)) (tgt := 477) hx hb dL_law_470 (by decide) ⟨by omega, by omega⟩ (fun c_34 => ?_) (fun c_34 => ?_)
          · refine lv_lconst (v := (0 : Int64)) hx hb dL_law_477 (by decide) ?_
            refine fw_top (v' := .long (bL (decide (σ 7 (5 * Int.toNat v_1 + Int.toNat v_2) = 1)))) (congrArg Value.long (by rw [bL, if_neg (fun q9 => absurd (of_decide_eq_true q9) (by omega))])) ?_
            refine W.lcmp hx hb dL_law_478 ?_
            refine fw_top (v' := .int (iI 0)) (by rw [lg_cmp_self]) ?_
            refine fw_if_eq (x := (0)) (tgt := 484) hx hb dL_law_479 (by decide) ⟨by omega, by omega⟩ (fun c_35 => ?_) (fun c_35 => absurd c_35 (by decide))
            refine lv_goto (tgt := 1285) hx hb dL_law_484 (by decide) ?_
            refine W.widen (k := cells + 3) (n := slots + 20) (by omega) (by omega) ?_
            exact kk (up σ 7 (5 * Int.toNat v_1 + Int.toNat v_2) (bN true)) ad (((0 : Nat) : Int)) u a (vp_updL f 0 (bL (decide (σ 7 (5 * Int.toNat v_1 + Int.toNat v_2) = 1)))) H locs ls hI2 hP hS (lv_sub hl [2, 3, 4, 5, 6] rfl)
          · refine lv_lconst (v := (1 : Int64)) hx hb dL_law_473 (by decide) ?_
            refine lv_goto (tgt := 478) hx hb dL_law_474 (by decide) ?_
            refine fw_top (v' := .long (bL (decide (σ 7 (5 * Int.toNat v_1 + Int.toNat v_2) = 1)))) (congrArg Value.long (by rw [bL, if_pos (decide_eq_true (by omega))])) ?_
            refine W.lcmp hx hb dL_law_478 ?_
            refine fw_top (v' := .int (iI 0)) (by rw [lg_cmp_self]) ?_
            refine fw_if_eq (x := (0)) (tgt := 484) hx hb dL_law_479 (by decide) ⟨by omega, by omega⟩ (fun c_36 => ?_) (fun c_36 => absurd c_36 (by decide))
            refine lv_goto (tgt := 1285) hx hb dL_law_484 (by decide) ?_
            refine W.widen (k := cells + 3) (n := slots + 20) (by omega) (by omega) ?_
            exact kk (up σ 7 (5 * Int.toNat v_1 + Int.toNat v_2) (bN true)) ad (((0 : Nat) : Int)) u a (vp_updL f 0 (bL (decide (σ 7 (5 * Int.toNat v_1 + Int.toNat v_2) = 1)))) H locs ls hI2 hP hS (lv_sub hl [2, 3, 4, 5, 6] rfl)
    · have hP := hP
      refine lv_istore (lv' := [(5, .int (iI (1))), (0, .ref b), (1, .ref (ad 0 (0))), (2, .ref (ad 10 (0))), (3, .ref (ad 15 (0))), (4, .int (iI ((j : Nat) : Int)))]) hx hb dL_law_415 hl (by decide) rfl (fun ls hl => ?_)
      refine lv_aload_n hx hb dL_law_417 rfl (lv_at hl 3 rfl) ?_
      refine lv_aload_n hx hb dL_law_418 rfl (lv_at hl 1 rfl) ?_
      refine lv_iload hx hb dL_law_419 (lv_at hl 5 rfl) ?_
      refine lv_iconst (v := iI ((1 : Nat) : Int)) hx hb dL_law_421 (by decide) ?_
      refine fw_iaddN (a := j) (b := 1) hx hb dL_law_422 ?_
      refine ls_ldv (j := j + 1) (v := iI v_1) hv_1 hx hb hX hbl (by rw [hz]; exact hS) (by omega) hL dL_law_423 ?_
      refine lv_aload_n hx hb dL_law_424 rfl (lv_at hl 1 rfl) ?_
      refine lv_iload hx hb dL_law_425 (lv_at hl 5 rfl) ?_
      refine lv_iconst (v := iI ((2 : Nat) : Int)) hx hb dL_law_427 (by decide) ?_
      refine fw_iaddN (a := j) (b := 2) hx hb dL_law_428 ?_
      refine ls_ldv (j := j + 2) (v := iI v_2) hv_2 hx hb hX hbl (by rw [hz]; exact hS) (by omega) hL dL_law_429 ?_
      refine lv_aload_n hx hb dL_law_430 rfl (lv_at hl 1 rfl) ?_
      refine lv_iload hx hb dL_law_431 (lv_at hl 5 rfl) ?_
      refine lv_iconst (v := iI ((3 : Nat) : Int)) hx hb dL_law_433 (by decide) ?_
      refine fw_iaddN (a := j) (b := 3) hx hb dL_law_434 ?_
      refine ls_ldv (j := j + 3) (v := iI v_3) hv_3 hx hb hX hbl (by rw [hz]; exact hS) (by omega) hL dL_law_435 ?_
      refine fw_if_eq (x := (v_3)) (tgt := 443) hx hb dL_law_436 (by decide) ⟨by omega, by omega⟩ (fun c_37 => ?_) (fun c_37 => ?_)
      · exfalso; omega
      · refine lv_iconst (v := iI ((1 : Nat) : Int)) hx hb dL_law_439 (by decide) ?_
        refine lv_goto (tgt := 444) hx hb dL_law_440 (by decide) ?_
        rw [WCM] at hP
        refine fw_cVi (As := [.int (iI (v_1)), .int (iI (v_2)), .int (iI ((1 : Nat) : Int))]) (rest := []) ⟨hx, hb, hml, hown, hts⟩ (c_X3_setPlug l D cA z ad σ th u a ((WC cA ad σ (oW cA f))) ((v_1)) ((v_2)) (true) hI ⟨by omega, by omega⟩ ⟨by omega, by omega⟩) (cwV 3 hts gL_law_X3_setPlug rfl rfl rfl (by decide +kernel) ⟨Nat.le_of_ble_eq_true rfl, Nat.le_of_ble_eq_true rfl⟩) WM_10 rfl rfl hl.1 (Nat.le_of_ble_eq_true rfl) dL_law_444 ⟨show _ ≤ 658709 from by omega, show _ ≤ 7119977 from by omega⟩ hK hP hS rfl (fun r w' H locs q_38 hP hS => ?_)
        rcases q_38 with ⟨hbad2, rfl, rfl⟩ | ⟨⟨hok2, hre2⟩, rfl, rfl⟩ | ⟨hok2, hnr2, rfl, rfl⟩
        · rw [← WCM] at hP
          refine lv_istore (lv' := [(6, .int (iI (0))), (5, .int (iI (1))), (0, .ref b), (1, .ref (ad 0 (0))), (2, .ref (ad 10 (0))), (3, .ref (ad 15 (0))), (4, .int (iI ((j : Nat) : Int)))]) hx hb dL_law_447 hl (by decide) rfl (fun ls hl => ?_)
          refine lv_aload_n hx hb dL_law_449 rfl (lv_at hl 4 rfl) ?_
          rw [WCM] at hP
          refine fw_cVi (As := []) (rest := []) ⟨hx, hb, hml, hown, hts⟩ (c_X3_thrown l D cA z ad σ (((1 : Nat) : Int)) u a ((WC cA ad σ (oW cA f)))  hI) (cwV 0 hts gL_law_X3_thrown rfl rfl rfl (by decide +kernel) ⟨Nat.le_of_ble_eq_true rfl, Nat.le_of_ble_eq_true rfl⟩) WM_10 rfl rfl hl.1 (Nat.le_of_ble_eq_true rfl) dL_law_450 ⟨show _ ≤ 658709 from by omega, show _ ≤ 7119977 from by omega⟩ hK hP hS rfl (fun r w' H locs q_39 hP hS => ?_)
          obtain ⟨rfl, rfl⟩ := q_39
          have hn_40 := hI.n
          have hm_41 := hI.lim
          rw [← WCM] at hP
          refine lv_iload hx hb dL_law_453 (lv_at hl 1 rfl) ?_
          refine lw_same (tgt := 460) hx hb dL_law_455 (by decide) ?_
          refine lv_iload hx hb dL_law_460 (lv_at hl 1 rfl) ?_
          refine fw_if_ne (x := (1)) (tgt := 484) hx hb dL_law_462 (by decide) ⟨by omega, by omega⟩ (fun c_42 => ?_) (fun c_42 => absurd c_42 (by decide))
          refine lv_goto (tgt := 1285) hx hb dL_law_484 (by decide) ?_
          refine W.widen (k := cells + 3) (n := slots + 20) (by omega) (by omega) ?_
          exact kk σ ad (((1 : Nat) : Int)) u a f H locs ls hI hP hS (lv_sub hl [2, 3, 4, 5, 6] rfl)
        · exfalso; first | omega | exact hnr hre2 | exact hnr2 hre
        · exfalso; first | omega | exact hnr hre2 | exact hnr2 hre
    · have hP := hP
      refine lv_istore (lv' := [(5, .int (iI (2))), (0, .ref b), (1, .ref (ad 0 (0))), (2, .ref (ad 10 (0))), (3, .ref (ad 15 (0))), (4, .int (iI ((j : Nat) : Int)))]) hx hb dL_law_415 hl (by decide) rfl (fun ls hl => ?_)
      refine lv_aload_n hx hb dL_law_417 rfl (lv_at hl 3 rfl) ?_
      refine lv_aload_n hx hb dL_law_418 rfl (lv_at hl 1 rfl) ?_
      refine lv_iload hx hb dL_law_419 (lv_at hl 5 rfl) ?_
      refine lv_iconst (v := iI ((1 : Nat) : Int)) hx hb dL_law_421 (by decide) ?_
      refine fw_iaddN (a := j) (b := 1) hx hb dL_law_422 ?_
      refine ls_ldv (j := j + 1) (v := iI v_1) hv_1 hx hb hX hbl (by rw [hz]; exact hS) (by omega) hL dL_law_423 ?_
      refine lv_aload_n hx hb dL_law_424 rfl (lv_at hl 1 rfl) ?_
      refine lv_iload hx hb dL_law_425 (lv_at hl 5 rfl) ?_
      refine lv_iconst (v := iI ((2 : Nat) : Int)) hx hb dL_law_427 (by decide) ?_
      refine fw_iaddN (a := j) (b := 2) hx hb dL_law_428 ?_
      refine ls_ldv (j := j + 2) (v := iI v_2) hv_2 hx hb hX hbl (by rw [hz]; exact hS) (by omega) hL dL_law_429 ?_
      refine lv_aload_n hx hb dL_law_430 rfl (lv_at hl 1 rfl) ?_
      refine lv_iload hx hb dL_law_431 (lv_at hl 5 rfl) ?_
      refine lv_iconst (v := iI ((3 : Nat) : Int)) hx hb dL_law_433 (by decide) ?_
      refine fw_iaddN (a := j) (b := 3) hx hb dL_law_434 ?_
      refine ls_ldv (j := j + 3) (v := iI v_3) hv_3 hx hb hX hbl (by rw [hz]; exact hS) (by omega) hL dL_law_435 ?_
      refine fw_if_eq (x := (v_3)) (tgt := 443) hx hb dL_law_436 (by decide) ⟨by omega, by omega⟩ (fun c_43 => ?_) (fun c_43 => ?_)
      · exfalso; omega
      · refine lv_iconst (v := iI ((1 : Nat) : Int)) hx hb dL_law_439 (by decide) ?_
        refine lv_goto (tgt := 444) hx hb dL_law_440 (by decide) ?_
        rw [WCM] at hP
        refine fw_cVi (As := [.int (iI (v_1)), .int (iI (v_2)), .int (iI ((1 : Nat) : Int))]) (rest := []) ⟨hx, hb, hml, hown, hts⟩ (c_X3_setPlug l D cA z ad σ th u a ((WC cA ad σ (oW cA f))) ((v_1)) ((v_2)) (true) hI ⟨by omega, by omega⟩ ⟨by omega, by omega⟩) (cwV 3 hts gL_law_X3_setPlug rfl rfl rfl (by decide +kernel) ⟨Nat.le_of_ble_eq_true rfl, Nat.le_of_ble_eq_true rfl⟩) WM_10 rfl rfl hl.1 (Nat.le_of_ble_eq_true rfl) dL_law_444 ⟨show _ ≤ 658709 from by omega, show _ ≤ 7119977 from by omega⟩ hK hP hS rfl (fun r w' H locs q_44 hP hS => ?_)
        rcases q_44 with ⟨hbad2, rfl, rfl⟩ | ⟨⟨hok2, hre2⟩, rfl, rfl⟩ | ⟨hok2, hnr2, rfl, rfl⟩
        · exfalso; first | omega | exact hnr hre2 | exact hnr2 hre
        · rw [← WCM] at hP
          refine lv_istore (lv' := [(6, .int (iI (0))), (5, .int (iI (2))), (0, .ref b), (1, .ref (ad 0 (0))), (2, .ref (ad 10 (0))), (3, .ref (ad 15 (0))), (4, .int (iI ((j : Nat) : Int)))]) hx hb dL_law_447 hl (by decide) rfl (fun ls hl => ?_)
          refine lv_aload_n hx hb dL_law_449 rfl (lv_at hl 4 rfl) ?_
          rw [WCM] at hP
          refine fw_cVi (As := []) (rest := []) ⟨hx, hb, hml, hown, hts⟩ (c_X3_thrown l D cA z ad σ (((2 : Nat) : Int)) u a ((WC cA ad σ (oW cA f)))  hI) (cwV 0 hts gL_law_X3_thrown rfl rfl rfl (by decide +kernel) ⟨Nat.le_of_ble_eq_true rfl, Nat.le_of_ble_eq_true rfl⟩) WM_10 rfl rfl hl.1 (Nat.le_of_ble_eq_true rfl) dL_law_450 ⟨show _ ≤ 658709 from by omega, show _ ≤ 7119977 from by omega⟩ hK hP hS rfl (fun r w' H locs q_45 hP hS => ?_)
          obtain ⟨rfl, rfl⟩ := q_45
          have hn_46 := hI.n
          have hm_47 := hI.lim
          rw [← WCM] at hP
          refine lv_iload hx hb dL_law_453 (lv_at hl 1 rfl) ?_
          refine lw_same (tgt := 460) hx hb dL_law_455 (by decide) ?_
          refine lv_iload hx hb dL_law_460 (lv_at hl 1 rfl) ?_
          refine fw_if_ne (x := (2)) (tgt := 484) hx hb dL_law_462 (by decide) ⟨by omega, by omega⟩ (fun c_48 => ?_) (fun c_48 => absurd c_48 (by decide))
          refine lv_goto (tgt := 1285) hx hb dL_law_484 (by decide) ?_
          refine W.widen (k := cells + 3) (n := slots + 20) (by omega) (by omega) ?_
          exact kk σ ad (((2 : Nat) : Int)) u a f H locs ls hI hP hS (lv_sub hl [2, 3, 4, 5, 6] rfl)
        · exfalso; first | omega | exact hnr hre2 | exact hnr2 hre
