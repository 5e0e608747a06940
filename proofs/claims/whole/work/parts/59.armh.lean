set_option maxHeartbeats 4000000 in
set_option maxRecDepth 100000 in
theorem arm_height {p : Program} {l : Launch} {e : Env} {s : State} {m : MethodId} {args : Array Value} {below : List Frame} {meth : Method} {cd : Code} {Q : State → Prop} {D : va_G} {cA : Nat → ClassId} {sa : Nat → Nat} {b L : Nat} {xs : Nat → Int32} {H : Heap} {locs : List Loc} {cells slots : Nat} {ls : Array Slot} {ad : fw_Ad} {σ : St} {th u a : Int} {f : Nat → Int64} {j : Nat} (X : LX p l s m args cd b L xs D cA sa) (hj : j + 5 ≤ L) (hI : Inv σ) (hP : fw_P D vwCl s.heap.size ad (WC cA ad σ (WM cA ad σ th u a (oW cA f))) H) (hS : va_S (fw_A s.heap.size) s.heap H locs) (hl : lv_has ls 9 [(0, .ref b), (1, .ref (ad 0 0)), (2, .ref (ad 10 0)), (3, .ref (ad 15 0)), (4, .int (iI ((j : Nat) : Int)))]) (hro : cells + 3 ≤ 658709 ∧ slots + 20 ≤ 7119977) (hlocks : meth.locks = false)
    (kk : ∀ (σ : St) (ad : fw_Ad) (th u a : Int) (f : Nat → Int64) (H : Heap) (locs : List Loc) (ls : Array Slot), Inv σ → fw_P D vwCl s.heap.size ad (WC cA ad σ (WM cA ad σ th u a (oW cA f))) H → va_S (fw_A s.heap.size) s.heap H locs → lv_has ls 9 [(0, .ref b), (1, .ref (ad 0 0)), (2, .ref (ad 10 0)), (3, .ref (ad 15 0)), (4, .int (iI ((j : Nat) : Int)))] → W p l e room_1 s m args below meth cd H locs (cells + 3) (slots + 20) Q (F0 m 1285 ls [])) : W p l e room_1 s m args below meth cd H locs cells slots Q (F0 m 969 ls []) := by
  obtain ⟨hx, hb, hml, hown, hts, hX, hbl, hL, hK, hAO, hE, hl0⟩ := X
  generalize hz : s.heap.size = z at hP hS kk hE
  refine lv_aload_n hx hb dL_law_969 rfl (lv_at hl 1 rfl) ?_
  refine fw_cVd (As := []) (rest := []) ⟨hx, hb, hml, hown, hts⟩ (c_X2_height l D cA z ad σ ((WM cA ad σ th u a (oW cA f)))  hI) (cwV 0 hts gL_law_X2_height rfl rfl rfl (by decide +kernel) ⟨Nat.le_of_ble_eq_true rfl, Nat.le_of_ble_eq_true rfl⟩) WC_0 rfl rfl hl.1 (Nat.le_of_ble_eq_true rfl) dL_law_970 ⟨show _ ≤ 658709 from by omega, show _ ≤ 7119977 from by omega⟩ hK hP hS rfl (fun r w' H locs q_1 hP hS => ?_)
  obtain ⟨rfl, rfl⟩ := q_1
  refine lv_dstore (lv' := [(5, .double (hgt σ)), (0, .ref b), (1, .ref (ad 0 (0))), (2, .ref (ad 10 (0))), (3, .ref (ad 15 (0))), (4, .int (iI ((j : Nat) : Int)))]) hx hb dL_law_973 hl (by decide) rfl (fun ls hl => ?_)
  refine lv_aload_n hx hb dL_law_975 rfl (lv_at hl 3 rfl) ?_
  rw [WCM] at hP
  refine fw_cVd (As := []) (rest := []) ⟨hx, hb, hml, hown, hts⟩ (c_X3_height l D cA z ad σ th u a ((WC cA ad σ (oW cA f))) hI) (cwV 0 hts gL_law_X3_height rfl rfl rfl (by decide +kernel) ⟨Nat.le_of_ble_eq_true rfl, Nat.le_of_ble_eq_true rfl⟩) WM_10 rfl rfl hl.1 (Nat.le_of_ble_eq_true rfl) dL_law_976 ⟨show _ ≤ 658709 from by omega, show _ ≤ 7119977 from by omega⟩ hK hP hS rfl (fun r w' H locs q_2 hP hS => ?_)
  obtain ⟨rfl, rfl⟩ := q_2
  rw [← WCM] at hP
  refine lv_dstore (lv' := [(7, .double (hgt σ)), (5, .double (hgt σ)), (0, .ref b), (1, .ref (ad 0 (0))), (2, .ref (ad 10 (0))), (3, .ref (ad 15 (0))), (4, .int (iI ((j : Nat) : Int)))]) hx hb dL_law_979 hl (by decide) rfl (fun ls hl => ?_)
  obtain ⟨v9, hv9, hv9a, hv9b⟩ := iI_ex (Op.cmpValue (FP.dcmp (hgt σ) (hgt σ)) .l)
  refine lv_dload hx hb dL_law_981 (lv_at hl 1 rfl) ?_
  refine lv_dload hx hb dL_law_983 (lv_at hl 0 rfl) ?_
  refine lv_dcmp hx hb dL_law_985 ?_
  refine fw_top (v' := .int (iI v9)) (congrArg Value.int hv9) ?_
  refine fw_if_eq (x := (v9)) (tgt := 1007) hx hb dL_law_986 (by decide) ⟨by omega, by omega⟩ (fun c_3 => ?_) (fun c_3 => ?_)
  · refine lv_goto (tgt := 1285) hx hb dL_law_1007 (by decide) ?_
    refine W.widen (k := cells + 3) (n := slots + 20) (by omega) (by omega) ?_
    exact kk σ ad (((0 : Nat) : Int)) (((upS σ : Nat) : Int)) (((allS σ : Nat) : Int)) f H locs ls hI hP hS (lv_sub hl [2, 3, 4, 5, 6] rfl)
  · refine lv_dload hx hb dL_law_989 (lv_at hl 1 rfl) ?_
    refine lv_dload hx hb dL_law_991 (lv_at hl 1 rfl) ?_
    refine lv_dcmp hx hb dL_law_993 ?_
    refine fw_top (v' := .int (iI v9)) (congrArg Value.int hv9) ?_
    refine fw_if_eq (x := (v9)) (tgt := 1005) hx hb dL_law_994 (by decide) ⟨by omega, by omega⟩ (fun c_4 => ?_) (fun c_4 => ?_)
    · exfalso; omega
    · refine lv_dload hx hb dL_law_997 (lv_at hl 0 rfl) ?_
      refine lv_dload hx hb dL_law_999 (lv_at hl 0 rfl) ?_
      refine lv_dcmp hx hb dL_law_1001 ?_
      refine fw_top (v' := .int (iI v9)) (congrArg Value.int hv9) ?_
      refine fw_if_ne (x := (v9)) (tgt := 1007) hx hb dL_law_1002 (by decide) ⟨by omega, by omega⟩ (fun c_5 => ?_) (fun c_5 => ?_)
      · refine lv_goto (tgt := 1285) hx hb dL_law_1007 (by decide) ?_
        refine W.widen (k := cells + 3) (n := slots + 20) (by omega) (by omega) ?_
        exact kk σ ad (((0 : Nat) : Int)) (((upS σ : Nat) : Int)) (((allS σ : Nat) : Int)) f H locs ls hI hP hS (lv_sub hl [2, 3, 4, 5, 6] rfl)
      · exfalso; omega
