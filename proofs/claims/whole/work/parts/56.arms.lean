section SAME
variable {p : Program} {l : Launch} {e : Env} {R : Room} {s : State} {m : MethodId} {args : Array Value} {below : List Frame} {meth : Method} {c : Code} {H : Heap} {locs : List Loc} {cells slots : Nat} {Q : State → Prop}
variable {cc : ByteArray} {pc : Nat} {ls : Array Slot} {rest : List Value}
theorem lw_same (hexec : p.tables.exec = Jvm.exec) (hb : c.code = cc) {x : Int32} {off : Int} {tgt : Nat} (hdg : decode cc pc = .ok (.if_icmp .eq off, 3)) (ht : (pc : Int) + off = (tgt : Int)) (k : W p l e R s m args below meth c H locs cells slots Q (F0 m tgt ls rest)) : W p l e R s m args below meth c H locs cells slots Q (F0 m pc ls (.int x :: .int x :: rest)) :=
  lv_icmp_eq hexec hb hdg ht (fun _ => k) (fun q => absurd rfl q)
theorem ls_ldv {b L : Nat} {xs : Nat → Int32} {j : Nat} {v : Int32} (hv : xs j = v) (hexec : p.tables.exec = Jvm.exec) (hb : c.code = cc) (hX : va_X b L xs s s.heap) (hbl : b < s.heap.size) (hS : va_S (fw_A s.heap.size) s.heap H locs) (hj : j < L) (hL : L ≤ 2560) (hdg : decode cc pc = .ok (.iaload, 1))
    (kk : W p l e R s m args below meth c H locs cells slots Q (F0 m (pc + 1) ls (.int v :: rest))) : W p l e R s m args below meth c H locs cells slots Q (F0 m pc ls (.int (iI (j : Int)) :: .ref b :: rest)) :=
  ls_ld hexec hb hX hbl hS hj hL hdg (by rw [← iI_of (xs j), hv]; exact kk)
end SAME
def LX (p : Program) (l : Launch) (s : State) (m : MethodId) (args : Array Value) (cd : Code) (b L : Nat) (xs : Nat → Int32) (D : va_G) (cA : Nat → ClassId) (sa : Nat → Nat) : Prop :=
  p.tables.exec = Jvm.exec ∧ cd.code = cL_law ∧ cd.maxLocals = 9 ∧ s.vm.findClass RL = some m.cls ∧ (∀ w ∈ wsL_law, w.before args s = true) ∧ va_X b L xs s s.heap ∧ b < s.heap.size ∧ L ≤ 2560 ∧ va_K D vwCl (fw_T cA) s ∧ (va_AO RX0 s ∧ va_AO RX1 s) ∧ tx_E s.heap.size sa s s.heap ∧ l.stackTraces = false
set_option maxHeartbeats 4000000 in
set_option maxRecDepth 100000 in
theorem arm_port {p : Program} {l : Launch} {e : Env} {s : State} {m : MethodId} {args : Array Value} {below : List Frame} {meth : Method} {cd : Code} {Q : State → Prop} {D : va_G} {cA : Nat → ClassId} {sa : Nat → Nat} {b L : Nat} {xs : Nat → Int32} {H : Heap} {locs : List Loc} {cells slots : Nat} {ls : Array Slot} {ad : fw_Ad} {σ : St} {th u a : Int} {f : Nat → Int64} {j : Nat} (X : LX p l s m args cd b L xs D cA sa) (hj : j + 5 ≤ L) (hI : Inv σ) (hP : fw_P D vwCl s.heap.size ad (WC cA ad σ (WM cA ad σ th u a (oW cA f))) H) (hS : va_S (fw_A s.heap.size) s.heap H locs) (hl : lv_has ls 9 [(0, .ref b), (1, .ref (ad 0 0)), (2, .ref (ad 10 0)), (3, .ref (ad 15 0)), (4, .int (iI ((j : Nat) : Int)))]) (hro : cells + 3 ≤ 658709 ∧ slots + 20 ≤ 7119977) (hlocks : meth.locks = false)
    (kk : ∀ (σ : St) (ad : fw_Ad) (th u a : Int) (f : Nat → Int64) (H : Heap) (locs : List Loc) (ls : Array Slot), Inv σ → fw_P D vwCl s.heap.size ad (WC cA ad σ (WM cA ad σ th u a (oW cA f))) H → va_S (fw_A s.heap.size) s.heap H locs → lv_has ls 9 [(0, .ref b), (1, .ref (ad 0 0)), (2, .ref (ad 10 0)), (3, .ref (ad 15 0)), (4, .int (iI ((j : Nat) : Int)))] → W p l e room_1 s m args below meth cd H locs (cells + 3) (slots + 20) Q (F0 m 1285 ls [])) : W p l e room_1 s m args below meth cd H locs cells slots Q (F0 m 779 ls []) := by
  obtain ⟨hx, hb, hml, hown, hts, hX, hbl, hL, hK, hAO, hE, hl0⟩ := X
  generalize hz : s.heap.size = z at hP hS kk hE
  refine lv_aload_n hx hb dL_law_779 rfl (lv_at hl 1 rfl) ?_
  refine fw_cVi (As := []) (rest := []) ⟨hx, hb, hml, hown, hts⟩ (c_X2_port l D cA z ad σ ((WM cA ad σ th u a (oW cA f)))  hI) (cwV 0 hts gL_law_X2_port rfl rfl rfl (by decide +kernel) ⟨Nat.le_of_ble_eq_true rfl, Nat.le_of_ble_eq_true rfl⟩) WC_0 rfl rfl hl.1 (Nat.le_of_ble_eq_true rfl) dL_law_780 ⟨show _ ≤ 658709 from by omega, show _ ≤ 7119977 from by omega⟩ hK hP hS rfl (fun r w' H locs q_1 hP hS => ?_)
  obtain ⟨rfl, rfl⟩ := q_1
  refine lv_aload_n hx hb dL_law_783 rfl (lv_at hl 2 rfl) ?_
  rw [WCM] at hP
  refine fw_cVi (As := []) (rest := [.int (iI ((σ 8 4 : Nat) : Int))]) ⟨hx, hb, hml, hown, hts⟩ (c_X3_port l D cA z ad σ th u a ((WC cA ad σ (oW cA f))) hI) (cwV 0 hts gL_law_X3_port rfl rfl rfl (by decide +kernel) ⟨Nat.le_of_ble_eq_true rfl, Nat.le_of_ble_eq_true rfl⟩) WM_10 rfl rfl hl.1 (Nat.le_of_ble_eq_true rfl) dL_law_784 ⟨show _ ≤ 658709 from by omega, show _ ≤ 7119977 from by omega⟩ hK hP hS rfl (fun r w' H locs q_2 hP hS => ?_)
  obtain ⟨rfl, rfl⟩ := q_2
  rw [← WCM] at hP
  refine lw_same (tgt := 1285) hx hb dL_law_787 (by decide) ?_
  refine W.widen (k := cells + 3) (n := slots + 20) (by omega) (by omega) ?_
  exact kk σ ad (((0 : Nat) : Int)) u a f H locs ls hI hP hS (lv_sub hl [0, 1, 2, 3, 4] rfl)

set_option maxHeartbeats 4000000 in
set_option maxRecDepth 100000 in
theorem arm_lifted {p : Program} {l : Launch} {e : Env} {s : State} {m : MethodId} {args : Array Value} {below : List Frame} {meth : Method} {cd : Code} {Q : State → Prop} {D : va_G} {cA : Nat → ClassId} {sa : Nat → Nat} {b L : Nat} {xs : Nat → Int32} {H : Heap} {locs : List Loc} {cells slots : Nat} {ls : Array Slot} {ad : fw_Ad} {σ : St} {th u a : Int} {f : Nat → Int64} {j : Nat} (X : LX p l s m args cd b L xs D cA sa) (hj : j + 5 ≤ L) (hI : Inv σ) (hP : fw_P D vwCl s.heap.size ad (WC cA ad σ (WM cA ad σ th u a (oW cA f))) H) (hS : va_S (fw_A s.heap.size) s.heap H locs) (hl : lv_has ls 9 [(0, .ref b), (1, .ref (ad 0 0)), (2, .ref (ad 10 0)), (3, .ref (ad 15 0)), (4, .int (iI ((j : Nat) : Int)))]) (hro : cells + 3 ≤ 658709 ∧ slots + 20 ≤ 7119977) (hlocks : meth.locks = false)
    (kk : ∀ (σ : St) (ad : fw_Ad) (th u a : Int) (f : Nat → Int64) (H : Heap) (locs : List Loc) (ls : Array Slot), Inv σ → fw_P D vwCl s.heap.size ad (WC cA ad σ (WM cA ad σ th u a (oW cA f))) H → va_S (fw_A s.heap.size) s.heap H locs → lv_has ls 9 [(0, .ref b), (1, .ref (ad 0 0)), (2, .ref (ad 10 0)), (3, .ref (ad 15 0)), (4, .int (iI ((j : Nat) : Int)))] → W p l e room_1 s m args below meth cd H locs (cells + 3) (slots + 20) Q (F0 m 1285 ls [])) : W p l e room_1 s m args below meth cd H locs cells slots Q (F0 m 1258 ls []) := by
  obtain ⟨hx, hb, hml, hown, hts, hX, hbl, hL, hK, hAO, hE, hl0⟩ := X
  generalize hz : s.heap.size = z at hP hS kk hE
  refine lv_aload_n hx hb dL_law_1258 rfl (lv_at hl 1 rfl) ?_
  refine fw_cVi (As := []) (rest := []) ⟨hx, hb, hml, hown, hts⟩ (c_X2_lifted l D cA z ad σ ((WM cA ad σ th u a (oW cA f)))  hI) (cwV 0 hts gL_law_X2_lifted rfl rfl rfl (by decide +kernel) ⟨Nat.le_of_ble_eq_true rfl, Nat.le_of_ble_eq_true rfl⟩) WC_0 rfl rfl hl.1 (Nat.le_of_ble_eq_true rfl) dL_law_1259 ⟨show _ ≤ 658709 from by omega, show _ ≤ 7119977 from by omega⟩ hK hP hS rfl (fun r w' H locs q_1 hP hS => ?_)
  obtain ⟨rfl, rfl⟩ := q_1
  refine lv_aload_n hx hb dL_law_1262 rfl (lv_at hl 2 rfl) ?_
  rw [WCM] at hP
  refine fw_cVi (As := []) (rest := [.int (iI ((σ 8 5 : Nat) : Int))]) ⟨hx, hb, hml, hown, hts⟩ (c_X3_lifted l D cA z ad σ th u a ((WC cA ad σ (oW cA f))) hI) (cwV 0 hts gL_law_X3_lifted rfl rfl rfl (by decide +kernel) ⟨Nat.le_of_ble_eq_true rfl, Nat.le_of_ble_eq_true rfl⟩) WM_10 rfl rfl hl.1 (Nat.le_of_ble_eq_true rfl) dL_law_1263 ⟨show _ ≤ 658709 from by omega, show _ ≤ 7119977 from by omega⟩ hK hP hS rfl (fun r w' H locs q_2 hP hS => ?_)
  obtain ⟨rfl, rfl⟩ := q_2
  rw [← WCM] at hP
  refine lw_same (tgt := 1285) hx hb dL_law_1266 (by decide) ?_
  refine W.widen (k := cells + 3) (n := slots + 20) (by omega) (by omega) ?_
  exact kk σ ad (((0 : Nat) : Int)) u a f H locs ls hI hP hS (lv_sub hl [0, 1, 2, 3, 4] rfl)

set_option maxHeartbeats 4000000 in
set_option maxRecDepth 100000 in
theorem arm_blocked {p : Program} {l : Launch} {e : Env} {s : State} {m : MethodId} {args : Array Value} {below : List Frame} {meth : Method} {cd : Code} {Q : State → Prop} {D : va_G} {cA : Nat → ClassId} {sa : Nat → Nat} {b L : Nat} {xs : Nat → Int32} {H : Heap} {locs : List Loc} {cells slots : Nat} {ls : Array Slot} {ad : fw_Ad} {σ : St} {th u a : Int} {f : Nat → Int64} {j : Nat} (X : LX p l s m args cd b L xs D cA sa) (hj : j + 5 ≤ L) (hI : Inv σ) (hP : fw_P D vwCl s.heap.size ad (WC cA ad σ (WM cA ad σ th u a (oW cA f))) H) (hS : va_S (fw_A s.heap.size) s.heap H locs) (hl : lv_has ls 9 [(0, .ref b), (1, .ref (ad 0 0)), (2, .ref (ad 10 0)), (3, .ref (ad 15 0)), (4, .int (iI ((j : Nat) : Int)))]) (hro : cells + 3 ≤ 658709 ∧ slots + 20 ≤ 7119977) (hlocks : meth.locks = false)
    (kk : ∀ (σ : St) (ad : fw_Ad) (th u a : Int) (f : Nat → Int64) (H : Heap) (locs : List Loc) (ls : Array Slot), Inv σ → fw_P D vwCl s.heap.size ad (WC cA ad σ (WM cA ad σ th u a (oW cA f))) H → va_S (fw_A s.heap.size) s.heap H locs → lv_has ls 9 [(0, .ref b), (1, .ref (ad 0 0)), (2, .ref (ad 10 0)), (3, .ref (ad 15 0)), (4, .int (iI ((j : Nat) : Int)))] → W p l e room_1 s m args below meth cd H locs (cells + 3) (slots + 20) Q (F0 m 1285 ls [])) : W p l e room_1 s m args below meth cd H locs cells slots Q (F0 m 1120 ls []) := by
  obtain ⟨hx, hb, hml, hown, hts, hX, hbl, hL, hK, hAO, hE, hl0⟩ := X
  generalize hz : s.heap.size = z at hP hS kk hE
  refine lv_aload_n hx hb dL_law_1120 rfl (lv_at hl 1 rfl) ?_
  refine fw_cVi (As := []) (rest := []) ⟨hx, hb, hml, hown, hts⟩ (c_X2_blocked l D cA z ad σ ((WM cA ad σ th u a (oW cA f)))  hI) (cwV 0 hts gL_law_X2_blocked rfl rfl rfl (by decide +kernel) ⟨Nat.le_of_ble_eq_true rfl, Nat.le_of_ble_eq_true rfl⟩) WC_0 rfl rfl hl.1 (Nat.le_of_ble_eq_true rfl) dL_law_1121 ⟨show _ ≤ 658709 from by omega, show _ ≤ 7119977 from by omega⟩ hK hP hS rfl (fun r w' H locs q_1 hP hS => ?_)
  obtain ⟨rfl, rfl⟩ := q_1
  refine lv_aload_n hx hb dL_law_1124 rfl (lv_at hl 2 rfl) ?_
  rw [WCM] at hP
  refine fw_cVi (As := []) (rest := [.int (iI ((blkN σ : Nat) : Int))]) ⟨hx, hb, hml, hown, hts⟩ (c_X3_blocked l D cA z ad σ th u a ((WC cA ad σ (oW cA f))) hI) (cwV 0 hts gL_law_X3_blocked rfl rfl rfl (by decide +kernel) ⟨Nat.le_of_ble_eq_true rfl, Nat.le_of_ble_eq_true rfl⟩) WM_10 rfl rfl hl.1 (Nat.le_of_ble_eq_true rfl) dL_law_1125 ⟨show _ ≤ 658709 from by omega, show _ ≤ 7119977 from by omega⟩ hK hP hS rfl (fun r w' H locs q_2 hP hS => ?_)
  obtain ⟨rfl, rfl⟩ := q_2
  rw [← WCM] at hP
  refine lw_same (tgt := 1285) hx hb dL_law_1128 (by decide) ?_
  refine W.widen (k := cells + 3) (n := slots + 20) (by omega) (by omega) ?_
  exact kk σ ad (((0 : Nat) : Int)) u a f H locs ls hI hP hS (lv_sub hl [0, 1, 2, 3, 4] rfl)

set_option maxHeartbeats 4000000 in
set_option maxRecDepth 100000 in
theorem arm_plugs {p : Program} {l : Launch} {e : Env} {s : State} {m : MethodId} {args : Array Value} {below : List Frame} {meth : Method} {cd : Code} {Q : State → Prop} {D : va_G} {cA : Nat → ClassId} {sa : Nat → Nat} {b L : Nat} {xs : Nat → Int32} {H : Heap} {locs : List Loc} {cells slots : Nat} {ls : Array Slot} {ad : fw_Ad} {σ : St} {th u a : Int} {f : Nat → Int64} {j : Nat} (X : LX p l s m args cd b L xs D cA sa) (hj : j + 5 ≤ L) (hI : Inv σ) (hP : fw_P D vwCl s.heap.size ad (WC cA ad σ (WM cA ad σ th u a (oW cA f))) H) (hS : va_S (fw_A s.heap.size) s.heap H locs) (hl : lv_has ls 9 [(0, .ref b), (1, .ref (ad 0 0)), (2, .ref (ad 10 0)), (3, .ref (ad 15 0)), (4, .int (iI ((j : Nat) : Int)))]) (hro : cells + 3 ≤ 658709 ∧ slots + 20 ≤ 7119977) (hlocks : meth.locks = false)
    (kk : ∀ (σ : St) (ad : fw_Ad) (th u a : Int) (f : Nat → Int64) (H : Heap) (locs : List Loc) (ls : Array Slot), Inv σ → fw_P D vwCl s.heap.size ad (WC cA ad σ (WM cA ad σ th u a (oW cA f))) H → va_S (fw_A s.heap.size) s.heap H locs → lv_has ls 9 [(0, .ref b), (1, .ref (ad 0 0)), (2, .ref (ad 10 0)), (3, .ref (ad 15 0)), (4, .int (iI ((j : Nat) : Int)))] → W p l e room_1 s m args below meth cd H locs (cells + 3) (slots + 20) Q (F0 m 1285 ls [])) : W p l e room_1 s m args below meth cd H locs cells slots Q (F0 m 1189 ls []) := by
  obtain ⟨hx, hb, hml, hown, hts, hX, hbl, hL, hK, hAO, hE, hl0⟩ := X
  generalize hz : s.heap.size = z at hP hS kk hE
  refine lv_aload_n hx hb dL_law_1189 rfl (lv_at hl 1 rfl) ?_
  refine fw_cVi (As := []) (rest := []) ⟨hx, hb, hml, hown, hts⟩ (c_X2_freePlugs l D cA z ad σ ((WM cA ad σ th u a (oW cA f)))  hI) (cwV 0 hts gL_law_X2_freePlugs rfl rfl rfl (by decide +kernel) ⟨Nat.le_of_ble_eq_true rfl, Nat.le_of_ble_eq_true rfl⟩) WC_0 rfl rfl hl.1 (Nat.le_of_ble_eq_true rfl) dL_law_1190 ⟨show _ ≤ 658709 from by omega, show _ ≤ 7119977 from by omega⟩ hK hP hS rfl (fun r w' H locs q_1 hP hS => ?_)
  obtain ⟨rfl, rfl⟩ := q_1
  refine lv_aload_n hx hb dL_law_1193 rfl (lv_at hl 2 rfl) ?_
  rw [WCM] at hP
  refine fw_cVi (As := []) (rest := [.int (iI ((frPl σ : Nat) : Int))]) ⟨hx, hb, hml, hown, hts⟩ (c_X3_freePlugs l D cA z ad σ th u a ((WC cA ad σ (oW cA f))) hI) (cwV 0 hts gL_law_X3_freePlugs rfl rfl rfl (by decide +kernel) ⟨Nat.le_of_ble_eq_true rfl, Nat.le_of_ble_eq_true rfl⟩) WM_10 rfl rfl hl.1 (Nat.le_of_ble_eq_true rfl) dL_law_1194 ⟨show _ ≤ 658709 from by omega, show _ ≤ 7119977 from by omega⟩ hK hP hS rfl (fun r w' H locs q_2 hP hS => ?_)
  obtain ⟨rfl, rfl⟩ := q_2
  rw [← WCM] at hP
  refine lw_same (tgt := 1285) hx hb dL_law_1197 (by decide) ?_
  refine W.widen (k := cells + 3) (n := slots + 20) (by omega) (by omega) ?_
  exact kk σ ad (((0 : Nat) : Int)) u a f H locs ls hI hP hS (lv_sub hl [0, 1, 2, 3, 4] rfl)

set_option maxHeartbeats 4000000 in
set_option maxRecDepth 100000 in
theorem arm_steady {p : Program} {l : Launch} {e : Env} {s : State} {m : MethodId} {args : Array Value} {below : List Frame} {meth : Method} {cd : Code} {Q : State → Prop} {D : va_G} {cA : Nat → ClassId} {sa : Nat → Nat} {b L : Nat} {xs : Nat → Int32} {H : Heap} {locs : List Loc} {cells slots : Nat} {ls : Array Slot} {ad : fw_Ad} {σ : St} {th u a : Int} {f : Nat → Int64} {j : Nat} (X : LX p l s m args cd b L xs D cA sa) (hj : j + 5 ≤ L) (hI : Inv σ) (hP : fw_P D vwCl s.heap.size ad (WC cA ad σ (WM cA ad σ th u a (oW cA f))) H) (hS : va_S (fw_A s.heap.size) s.heap H locs) (hl : lv_has ls 9 [(0, .ref b), (1, .ref (ad 0 0)), (2, .ref (ad 10 0)), (3, .ref (ad 15 0)), (4, .int (iI ((j : Nat) : Int)))]) (hro : cells + 3 ≤ 658709 ∧ slots + 20 ≤ 7119977) (hlocks : meth.locks = false)
    (kk : ∀ (σ : St) (ad : fw_Ad) (th u a : Int) (f : Nat → Int64) (H : Heap) (locs : List Loc) (ls : Array Slot), Inv σ → fw_P D vwCl s.heap.size ad (WC cA ad σ (WM cA ad σ th u a (oW cA f))) H → va_S (fw_A s.heap.size) s.heap H locs → lv_has ls 9 [(0, .ref b), (1, .ref (ad 0 0)), (2, .ref (ad 10 0)), (3, .ref (ad 15 0)), (4, .int (iI ((j : Nat) : Int)))] → W p l e room_1 s m args below meth cd H locs (cells + 3) (slots + 20) Q (F0 m 1285 ls [])) : W p l e room_1 s m args below meth cd H locs cells slots Q (F0 m 1010 ls []) := by
  obtain ⟨hx, hb, hml, hown, hts, hX, hbl, hL, hK, hAO, hE, hl0⟩ := X
  generalize hz : s.heap.size = z at hP hS kk hE
  refine lv_aload_n hx hb dL_law_1010 rfl (lv_at hl 1 rfl) ?_
  refine fw_cVi (As := []) (rest := []) ⟨hx, hb, hml, hown, hts⟩ (c_X2_isSteady l D cA z ad σ ((WM cA ad σ th u a (oW cA f)))  hI) (cwV 0 hts gL_law_X2_isSteady rfl rfl rfl (by decide +kernel) ⟨Nat.le_of_ble_eq_true rfl, Nat.le_of_ble_eq_true rfl⟩) WC_0 rfl rfl hl.1 (Nat.le_of_ble_eq_true rfl) dL_law_1011 ⟨show _ ≤ 658709 from by omega, show _ ≤ 7119977 from by omega⟩ hK hP hS rfl (fun r w' H locs q_1 hP hS => ?_)
  obtain ⟨rfl, rfl⟩ := q_1
  refine lv_aload_n hx hb dL_law_1014 rfl (lv_at hl 2 rfl) ?_
  rw [WCM] at hP
  refine fw_cVi (As := []) (rest := [.int (iI (bI (cB (steady σ))))]) ⟨hx, hb, hml, hown, hts⟩ (c_X3_isSteady l D cA z ad σ th u a ((WC cA ad σ (oW cA f))) hI) (cwV 0 hts gL_law_X3_isSteady rfl rfl rfl (by decide +kernel) ⟨Nat.le_of_ble_eq_true rfl, Nat.le_of_ble_eq_true rfl⟩) WM_10 rfl rfl hl.1 (Nat.le_of_ble_eq_true rfl) dL_law_1015 ⟨show _ ≤ 658709 from by omega, show _ ≤ 7119977 from by omega⟩ hK hP hS rfl (fun r w' H locs q_2 hP hS => ?_)
  obtain ⟨rfl, rfl⟩ := q_2
  rw [← WCM] at hP
  refine lw_same (tgt := 1285) hx hb dL_law_1018 (by decide) ?_
  refine W.widen (k := cells + 3) (n := slots + 20) (by omega) (by omega) ?_
  exact kk σ ad (((0 : Nat) : Int)) (((upS σ : Nat) : Int)) (((allS σ : Nat) : Int)) f H locs ls hI hP hS (lv_sub hl [0, 1, 2, 3, 4] rfl)

set_option maxHeartbeats 4000000 in
set_option maxRecDepth 100000 in
theorem arm_moment {p : Program} {l : Launch} {e : Env} {s : State} {m : MethodId} {args : Array Value} {below : List Frame} {meth : Method} {cd : Code} {Q : State → Prop} {D : va_G} {cA : Nat → ClassId} {sa : Nat → Nat} {b L : Nat} {xs : Nat → Int32} {H : Heap} {locs : List Loc} {cells slots : Nat} {ls : Array Slot} {ad : fw_Ad} {σ : St} {th u a : Int} {f : Nat → Int64} {j : Nat} (X : LX p l s m args cd b L xs D cA sa) (hj : j + 5 ≤ L) (hI : Inv σ) (hP : fw_P D vwCl s.heap.size ad (WC cA ad σ (WM cA ad σ th u a (oW cA f))) H) (hS : va_S (fw_A s.heap.size) s.heap H locs) (hl : lv_has ls 9 [(0, .ref b), (1, .ref (ad 0 0)), (2, .ref (ad 10 0)), (3, .ref (ad 15 0)), (4, .int (iI ((j : Nat) : Int)))]) (hro : cells + 3 ≤ 658709 ∧ slots + 20 ≤ 7119977) (hlocks : meth.locks = false)
    (kk : ∀ (σ : St) (ad : fw_Ad) (th u a : Int) (f : Nat → Int64) (H : Heap) (locs : List Loc) (ls : Array Slot), Inv σ → fw_P D vwCl s.heap.size ad (WC cA ad σ (WM cA ad σ th u a (oW cA f))) H → va_S (fw_A s.heap.size) s.heap H locs → lv_has ls 9 [(0, .ref b), (1, .ref (ad 0 0)), (2, .ref (ad 10 0)), (3, .ref (ad 15 0)), (4, .int (iI ((j : Nat) : Int)))] → W p l e room_1 s m args below meth cd H locs (cells + 3) (slots + 20) Q (F0 m 1285 ls [])) : W p l e room_1 s m args below meth cd H locs cells slots Q (F0 m 928 ls []) := by
  obtain ⟨hx, hb, hml, hown, hts, hX, hbl, hL, hK, hAO, hE, hl0⟩ := X
  generalize hz : s.heap.size = z at hP hS kk hE
  refine lv_aload_n hx hb dL_law_928 rfl (lv_at hl 1 rfl) ?_
  refine lv_aload_n hx hb dL_law_929 rfl (lv_at hl 0 rfl) ?_
  refine lv_iload hx hb dL_law_930 (lv_at hl 4 rfl) ?_
  refine lv_iconst (v := iI ((1 : Nat) : Int)) hx hb dL_law_932 (by decide) ?_
  refine fw_iaddN (a := j) (b := 1) hx hb dL_law_933 ?_
  obtain ⟨v_1, hv_1, hv_1a, hv_1b⟩ := iI_ex (xs (j + 1))
  refine ls_ldv (j := j + 1) (v := iI v_1) hv_1 hx hb hX hbl (by rw [hz]; exact hS) (by omega) hL dL_law_934 ?_
  refine fw_if_eq (x := (v_1)) (tgt := 942) hx hb dL_law_935 (by decide) ⟨by omega, by omega⟩ (fun c_2 => ?_) (fun c_2 => ?_)
  · refine lv_iconst (v := iI ((0 : Nat) : Int)) hx hb dL_law_942 (by decide) ?_
    refine fw_cVi (As := [.int (iI ((0 : Nat) : Int))]) (rest := []) ⟨hx, hb, hml, hown, hts⟩ (c_X2_moment l D cA z ad σ ((WM cA ad σ th u a (oW cA f))) false hI) (cwV 1 hts gL_law_X2_moment rfl rfl rfl (by decide +kernel) ⟨Nat.le_of_ble_eq_true rfl, Nat.le_of_ble_eq_true rfl⟩) WC_0 rfl rfl hl.1 (Nat.le_of_ble_eq_true rfl) dL_law_943 ⟨show _ ≤ 658709 from by omega, show _ ≤ 7119977 from by omega⟩ hK hP hS rfl (fun r w' H locs q_3 hP hS => ?_)
    obtain ⟨rfl, rfl⟩ := q_3
    refine lv_aload_n hx hb dL_law_946 rfl (lv_at hl 2 rfl) ?_
    refine lv_aload_n hx hb dL_law_947 rfl (lv_at hl 0 rfl) ?_
    refine lv_iload hx hb dL_law_948 (lv_at hl 4 rfl) ?_
    refine lv_iconst (v := iI ((1 : Nat) : Int)) hx hb dL_law_950 (by decide) ?_
    refine fw_iaddN (a := j) (b := 1) hx hb dL_law_951 ?_
    refine ls_ldv (j := j + 1) (v := iI v_1) hv_1 hx hb hX hbl (by rw [hz]; exact hS) (by omega) hL dL_law_952 ?_
    refine fw_if_eq (x := (v_1)) (tgt := 960) hx hb dL_law_953 (by decide) ⟨by omega, by omega⟩ (fun c_4 => ?_) (fun c_4 => ?_)
    · refine lv_iconst (v := iI ((0 : Nat) : Int)) hx hb dL_law_960 (by decide) ?_
      rw [WCM] at hP
      refine fw_cVi (As := [.int (iI ((0 : Nat) : Int))]) (rest := [.int (iI (mom σ false))]) ⟨hx, hb, hml, hown, hts⟩ (c_X3_moment l D cA z ad σ th u a ((WC cA ad σ (oW cA f))) false hI) (cwV 1 hts gL_law_X3_moment rfl rfl rfl (by decide +kernel) ⟨Nat.le_of_ble_eq_true rfl, Nat.le_of_ble_eq_true rfl⟩) WM_10 rfl rfl hl.1 (Nat.le_of_ble_eq_true rfl) dL_law_961 ⟨show _ ≤ 658709 from by omega, show _ ≤ 7119977 from by omega⟩ hK hP hS rfl (fun r w' H locs q_5 hP hS => ?_)
      obtain ⟨rfl, rfl⟩ := q_5
      rw [← WCM] at hP
      refine lw_same (tgt := 1285) hx hb dL_law_964 (by decide) ?_
      refine W.widen (k := cells + 3) (n := slots + 20) (by omega) (by omega) ?_
      exact kk σ ad (((0 : Nat) : Int)) u a f H locs ls hI hP hS (lv_sub hl [0, 1, 2, 3, 4] rfl)
    · exfalso; omega
  · refine lv_iconst (v := iI ((1 : Nat) : Int)) hx hb dL_law_938 (by decide) ?_
    refine lv_goto (tgt := 943) hx hb dL_law_939 (by decide) ?_
    refine fw_cVi (As := [.int (iI ((1 : Nat) : Int))]) (rest := []) ⟨hx, hb, hml, hown, hts⟩ (c_X2_moment l D cA z ad σ ((WM cA ad σ th u a (oW cA f))) true hI) (cwV 1 hts gL_law_X2_moment rfl rfl rfl (by decide +kernel) ⟨Nat.le_of_ble_eq_true rfl, Nat.le_of_ble_eq_true rfl⟩) WC_0 rfl rfl hl.1 (Nat.le_of_ble_eq_true rfl) dL_law_943 ⟨show _ ≤ 658709 from by omega, show _ ≤ 7119977 from by omega⟩ hK hP hS rfl (fun r w' H locs q_6 hP hS => ?_)
    obtain ⟨rfl, rfl⟩ := q_6
    refine lv_aload_n hx hb dL_law_946 rfl (lv_at hl 2 rfl) ?_
    refine lv_aload_n hx hb dL_law_947 rfl (lv_at hl 0 rfl) ?_
    refine lv_iload hx hb dL_law_948 (lv_at hl 4 rfl) ?_
    refine lv_iconst (v := iI ((1 : Nat) : Int)) hx hb dL_law_950 (by decide) ?_
    refine fw_iaddN (a := j) (b := 1) hx hb dL_law_951 ?_
    refine ls_ldv (j := j + 1) (v := iI v_1) hv_1 hx hb hX hbl (by rw [hz]; exact hS) (by omega) hL dL_law_952 ?_
    refine fw_if_eq (x := (v_1)) (tgt := 960) hx hb dL_law_953 (by decide) ⟨by omega, by omega⟩ (fun c_7 => ?_) (fun c_7 => ?_)
    · exfalso; omega
    · refine lv_iconst (v := iI ((1 : Nat) : Int)) hx hb dL_law_956 (by decide) ?_
      refine lv_goto (tgt := 961) hx hb dL_law_957 (by decide) ?_
      rw [WCM] at hP
      refine fw_cVi (As := [.int (iI ((1 : Nat) : Int))]) (rest := [.int (iI (mom σ true))]) ⟨hx, hb, hml, hown, hts⟩ (c_X3_moment l D cA z ad σ th u a ((WC cA ad σ (oW cA f))) true hI) (cwV 1 hts gL_law_X3_moment rfl rfl rfl (by decide +kernel) ⟨Nat.le_of_ble_eq_true rfl, Nat.le_of_ble_eq_true rfl⟩) WM_10 rfl rfl hl.1 (Nat.le_of_ble_eq_true rfl) dL_law_961 ⟨show _ ≤ 658709 from by omega, show _ ≤ 7119977 from by omega⟩ hK hP hS rfl (fun r w' H locs q_8 hP hS => ?_)
      obtain ⟨rfl, rfl⟩ := q_8
      rw [← WCM] at hP
      refine lw_same (tgt := 1285) hx hb dL_law_964 (by decide) ?_
      refine W.widen (k := cells + 3) (n := slots + 20) (by omega) (by omega) ?_
      exact kk σ ad (((0 : Nat) : Int)) u a f H locs ls hI hP hS (lv_sub hl [0, 1, 2, 3, 4] rfl)

set_option maxHeartbeats 4000000 in
set_option maxRecDepth 100000 in
theorem arm_count {p : Program} {l : Launch} {e : Env} {s : State} {m : MethodId} {args : Array Value} {below : List Frame} {meth : Method} {cd : Code} {Q : State → Prop} {D : va_G} {cA : Nat → ClassId} {sa : Nat → Nat} {b L : Nat} {xs : Nat → Int32} {H : Heap} {locs : List Loc} {cells slots : Nat} {ls : Array Slot} {ad : fw_Ad} {σ : St} {th u a : Int} {f : Nat → Int64} {j : Nat} (X : LX p l s m args cd b L xs D cA sa) (hj : j + 5 ≤ L) (hI : Inv σ) (hP : fw_P D vwCl s.heap.size ad (WC cA ad σ (WM cA ad σ th u a (oW cA f))) H) (hS : va_S (fw_A s.heap.size) s.heap H locs) (hl : lv_has ls 9 [(0, .ref b), (1, .ref (ad 0 0)), (2, .ref (ad 10 0)), (3, .ref (ad 15 0)), (4, .int (iI ((j : Nat) : Int)))]) (hro : cells + 3 ≤ 658709 ∧ slots + 20 ≤ 7119977) (hlocks : meth.locks = false)
    (kk : ∀ (σ : St) (ad : fw_Ad) (th u a : Int) (f : Nat → Int64) (H : Heap) (locs : List Loc) (ls : Array Slot), Inv σ → fw_P D vwCl s.heap.size ad (WC cA ad σ (WM cA ad σ th u a (oW cA f))) H → va_S (fw_A s.heap.size) s.heap H locs → lv_has ls 9 [(0, .ref b), (1, .ref (ad 0 0)), (2, .ref (ad 10 0)), (3, .ref (ad 15 0)), (4, .int (iI ((j : Nat) : Int)))] → W p l e room_1 s m args below meth cd H locs (cells + 3) (slots + 20) Q (F0 m 1285 ls [])) : W p l e room_1 s m args below meth cd H locs cells slots Q (F0 m 1023 ls []) := by
  obtain ⟨hx, hb, hml, hown, hts, hX, hbl, hL, hK, hAO, hE, hl0⟩ := X
  generalize hz : s.heap.size = z at hP hS kk hE
  refine lv_aload_n hx hb dL_law_1023 rfl (lv_at hl 1 rfl) ?_
  refine lv_aload_n hx hb dL_law_1024 rfl (lv_at hl 0 rfl) ?_
  refine lv_iload hx hb dL_law_1025 (lv_at hl 4 rfl) ?_
  refine lv_iconst (v := iI ((1 : Nat) : Int)) hx hb dL_law_1027 (by decide) ?_
  refine fw_iaddN (a := j) (b := 1) hx hb dL_law_1028 ?_
  obtain ⟨v_1, hv_1, hv_1a, hv_1b⟩ := iI_ex (xs (j + 1))
  refine ls_ldv (j := j + 1) (v := iI v_1) hv_1 hx hb hX hbl (by rw [hz]; exact hS) (by omega) hL dL_law_1029 ?_
  refine fw_if_eq (x := (v_1)) (tgt := 1037) hx hb dL_law_1030 (by decide) ⟨by omega, by omega⟩ (fun c_2 => ?_) (fun c_2 => ?_)
  · refine lv_iconst (v := iI ((0 : Nat) : Int)) hx hb dL_law_1037 (by decide) ?_
    refine fw_cVi (As := [.int (iI ((0 : Nat) : Int))]) (rest := []) ⟨hx, hb, hml, hown, hts⟩ (c_X2_count l D cA z ad σ ((WM cA ad σ th u a (oW cA f))) false hI) (cwV 1 hts gL_law_X2_count rfl rfl rfl (by decide +kernel) ⟨Nat.le_of_ble_eq_true rfl, Nat.le_of_ble_eq_true rfl⟩) WC_0 rfl rfl hl.1 (Nat.le_of_ble_eq_true rfl) dL_law_1038 ⟨show _ ≤ 658709 from by omega, show _ ≤ 7119977 from by omega⟩ hK hP hS rfl (fun r w' H locs q_3 hP hS => ?_)
    obtain ⟨rfl, rfl⟩ := q_3
    refine lv_aload_n hx hb dL_law_1041 rfl (lv_at hl 2 rfl) ?_
    refine lv_aload_n hx hb dL_law_1042 rfl (lv_at hl 0 rfl) ?_
    refine lv_iload hx hb dL_law_1043 (lv_at hl 4 rfl) ?_
    refine lv_iconst (v := iI ((1 : Nat) : Int)) hx hb dL_law_1045 (by decide) ?_
    refine fw_iaddN (a := j) (b := 1) hx hb dL_law_1046 ?_
    refine ls_ldv (j := j + 1) (v := iI v_1) hv_1 hx hb hX hbl (by rw [hz]; exact hS) (by omega) hL dL_law_1047 ?_
    refine fw_if_eq (x := (v_1)) (tgt := 1055) hx hb dL_law_1048 (by decide) ⟨by omega, by omega⟩ (fun c_4 => ?_) (fun c_4 => ?_)
    · refine lv_iconst (v := iI ((0 : Nat) : Int)) hx hb dL_law_1055 (by decide) ?_
      rw [WCM] at hP
      refine fw_cVi (As := [.int (iI ((0 : Nat) : Int))]) (rest := [.int (iI ((cnt σ false : Nat) : Int))]) ⟨hx, hb, hml, hown, hts⟩ (c_X3_count l D cA z ad σ th u a ((WC cA ad σ (oW cA f))) false hI) (cwV 1 hts gL_law_X3_count rfl rfl rfl (by decide +kernel) ⟨Nat.le_of_ble_eq_true rfl, Nat.le_of_ble_eq_true rfl⟩) WM_10 rfl rfl hl.1 (Nat.le_of_ble_eq_true rfl) dL_law_1056 ⟨show _ ≤ 658709 from by omega, show _ ≤ 7119977 from by omega⟩ hK hP hS rfl (fun r w' H locs q_5 hP hS => ?_)
      obtain ⟨rfl, rfl⟩ := q_5
      rw [← WCM] at hP
      refine lw_same (tgt := 1285) hx hb dL_law_1059 (by decide) ?_
      refine W.widen (k := cells + 3) (n := slots + 20) (by omega) (by omega) ?_
      exact kk σ ad (((0 : Nat) : Int)) u a f H locs ls hI hP hS (lv_sub hl [0, 1, 2, 3, 4] rfl)
    · exfalso; omega
  · refine lv_iconst (v := iI ((1 : Nat) : Int)) hx hb dL_law_1033 (by decide) ?_
    refine lv_goto (tgt := 1038) hx hb dL_law_1034 (by decide) ?_
    refine fw_cVi (As := [.int (iI ((1 : Nat) : Int))]) (rest := []) ⟨hx, hb, hml, hown, hts⟩ (c_X2_count l D cA z ad σ ((WM cA ad σ th u a (oW cA f))) true hI) (cwV 1 hts gL_law_X2_count rfl rfl rfl (by decide +kernel) ⟨Nat.le_of_ble_eq_true rfl, Nat.le_of_ble_eq_true rfl⟩) WC_0 rfl rfl hl.1 (Nat.le_of_ble_eq_true rfl) dL_law_1038 ⟨show _ ≤ 658709 from by omega, show _ ≤ 7119977 from by omega⟩ hK hP hS rfl (fun r w' H locs q_6 hP hS => ?_)
    obtain ⟨rfl, rfl⟩ := q_6
    refine lv_aload_n hx hb dL_law_1041 rfl (lv_at hl 2 rfl) ?_
    refine lv_aload_n hx hb dL_law_1042 rfl (lv_at hl 0 rfl) ?_
    refine lv_iload hx hb dL_law_1043 (lv_at hl 4 rfl) ?_
    refine lv_iconst (v := iI ((1 : Nat) : Int)) hx hb dL_law_1045 (by decide) ?_
    refine fw_iaddN (a := j) (b := 1) hx hb dL_law_1046 ?_
    refine ls_ldv (j := j + 1) (v := iI v_1) hv_1 hx hb hX hbl (by rw [hz]; exact hS) (by omega) hL dL_law_1047 ?_
    refine fw_if_eq (x := (v_1)) (tgt := 1055) hx hb dL_law_1048 (by decide) ⟨by omega, by omega⟩ (fun c_7 => ?_) (fun c_7 => ?_)
    · exfalso; omega
    · refine lv_iconst (v := iI ((1 : Nat) : Int)) hx hb dL_law_1051 (by decide) ?_
      refine lv_goto (tgt := 1056) hx hb dL_law_1052 (by decide) ?_
      rw [WCM] at hP
      refine fw_cVi (As := [.int (iI ((1 : Nat) : Int))]) (rest := [.int (iI ((cnt σ true : Nat) : Int))]) ⟨hx, hb, hml, hown, hts⟩ (c_X3_count l D cA z ad σ th u a ((WC cA ad σ (oW cA f))) true hI) (cwV 1 hts gL_law_X3_count rfl rfl rfl (by decide +kernel) ⟨Nat.le_of_ble_eq_true rfl, Nat.le_of_ble_eq_true rfl⟩) WM_10 rfl rfl hl.1 (Nat.le_of_ble_eq_true rfl) dL_law_1056 ⟨show _ ≤ 658709 from by omega, show _ ≤ 7119977 from by omega⟩ hK hP hS rfl (fun r w' H locs q_8 hP hS => ?_)
      obtain ⟨rfl, rfl⟩ := q_8
      rw [← WCM] at hP
      refine lw_same (tgt := 1285) hx hb dL_law_1059 (by decide) ?_
      refine W.widen (k := cells + 3) (n := slots + 20) (by omega) (by omega) ?_
      exact kk σ ad (((0 : Nat) : Int)) u a f H locs ls hI hP hS (lv_sub hl [0, 1, 2, 3, 4] rfl)
