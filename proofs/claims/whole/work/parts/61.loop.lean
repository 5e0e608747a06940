/-! ===== the law's loop: a call is five ints of the script ===== -/
theorem lx_and (a b : Nat) : nI a &&& nI b = nI (a &&& b) := by
  apply Int32.toBitVec_inj.1
  show BitVec.ofNat 32 a &&& BitVec.ofNat 32 b = BitVec.ofNat 32 (a &&& b)
  apply BitVec.eq_of_getLsbD_eq
  intro i hi
  simp [hi]
theorem lx_m31 (x : Int32) : ∃ k : Nat, k < 32 ∧ x &&& 31 = iI (k : Int) := by
  have e : x = nI x.toBitVec.toNat := by
    apply Int32.toBitVec_inj.1
    show x.toBitVec = BitVec.ofNat 32 x.toBitVec.toNat
    simp
  refine ⟨x.toBitVec.toNat % 32, Nat.mod_lt _ (by omega), ?_⟩
  have e2 : nI x.toBitVec.toNat &&& nI 31 = nI (x.toBitVec.toNat % 32) := by
    rw [lx_and, show (31 : Nat) = 2 ^ 5 - 1 from rfl, Nat.and_two_pow_sub_one_eq_mod]
  rw [iI_nI, ← e2, ← e]
  rfl
set_option maxHeartbeats 4000000 in
set_option maxRecDepth 100000 in
theorem law_head {p : Program} {l : Launch} {e : Env} {s : State} {m : MethodId} {args : Array Value} {below : List Frame} {meth : Method} {cd : Code} {Q : State → Prop} {D : va_G} {cA : Nat → ClassId} {sa : Nat → Nat} {b L : Nat} {xs : Nat → Int32} {H : Heap} {locs : List Loc} {cells slots : Nat} {ls : Array Slot} {ad : fw_Ad} {j : Nat} (X : LX p l s m args cd b L xs D cA sa) (hS : va_S (fw_A s.heap.size) s.heap H locs) (hl : lv_has ls 9 [(0, .ref b), (1, .ref (ad 0 0)), (2, .ref (ad 10 0)), (3, .ref (ad 15 0)), (4, .int (iI ((j : Nat) : Int)))]) (hj : j ≤ 2565) (kt : L < j + 5 → W p l e room_1 s m args below meth cd H locs cells slots Q (F0 m 1291 ls [])) (kf : j + 5 ≤ L → ∀ k : Nat, k < 32 → W p l e room_1 s m args below meth cd H locs cells slots Q (F0 m 39 ls [.int (iI (k : Int))])) : W p l e room_1 s m args below meth cd H locs cells slots Q (F0 m 23 ls []) := by
  obtain ⟨hx, hb, hml, hown, hts, hX, hbl, hL, hK, hAO, hE, hl0⟩ := X
  refine lv_iload hx hb dL_law_23 (lv_at hl 4 rfl) ?_
  refine lv_aload_n hx hb dL_law_25 rfl (lv_at hl 0 rfl) ?_
  refine va_slen hx hb hX hbl (A := fw_A s.heap.size) (fun h => by have : s.heap.size ≤ b := h; omega) hS dL_law_26 ?_
  refine fw_topP (b := (L : Int)) (iI_nI L).symm ?_
  refine lv_iconst (v := iI ((5 : Nat) : Int)) hx hb dL_law_27 (by decide) ?_
  refine fw_isub hx hb dL_law_28 ?_
  refine fw_icmp_gt (x := (j : Int)) (y := (L : Int) - ((5 : Nat) : Int)) (tgt := 1291) hx hb dL_law_29 (by decide) ⟨by omega, by omega⟩ ⟨by omega, by omega⟩ (fun q => kt (by omega)) (fun q => ?_)
  refine lv_aload_n hx hb dL_law_32 rfl (lv_at hl 0 rfl) ?_
  refine lv_iload hx hb dL_law_33 (lv_at hl 4 rfl) ?_
  refine ls_ld (j := j) hx hb hX hbl hS (by omega) hL dL_law_35 ?_
  refine lv_bipush (v := 31) hx hb dL_law_36 (by decide) ?_
  refine lv_iand hx hb dL_law_38 ?_
  obtain ⟨k, hk, hke⟩ := lx_m31 (iI (xs j).toInt)
  refine fw_top (v' := .int (iI (k : Int))) (congrArg Value.int hke) ?_
  exact kf (by omega) k hk
set_option maxHeartbeats 4000000 in
set_option maxRecDepth 100000 in
theorem law_step {p : Program} {l : Launch} {e : Env} {s : State} {m : MethodId} {args : Array Value} {below : List Frame} {meth : Method} {cd : Code} {Q : State → Prop} {D : va_G} {cA : Nat → ClassId} {sa : Nat → Nat} {b L : Nat} {xs : Nat → Int32} {H : Heap} {locs : List Loc} {cells slots : Nat} {ls : Array Slot} {ad : fw_Ad} {σ : St} {th u a : Int} {f : Nat → Int64} {j : Nat} (X : LX p l s m args cd b L xs D cA sa) (hj : j + 5 ≤ L) (hI : Inv σ) (hP : fw_P D vwCl s.heap.size ad (WC cA ad σ (WM cA ad σ th u a (oW cA f))) H) (hS : va_S (fw_A s.heap.size) s.heap H locs) (hl : lv_has ls 9 [(0, .ref b), (1, .ref (ad 0 0)), (2, .ref (ad 10 0)), (3, .ref (ad 15 0)), (4, .int (iI ((j : Nat) : Int)))]) (hro : cells + 3 ≤ 658709 ∧ slots + 20 ≤ 7119977) (hlocks : meth.locks = false)
    (kk : ∀ (σ : St) (ad : fw_Ad) (th u a : Int) (f : Nat → Int64) (H : Heap) (locs : List Loc) (ls : Array Slot), Inv σ → fw_P D vwCl s.heap.size ad (WC cA ad σ (WM cA ad σ th u a (oW cA f))) H → va_S (fw_A s.heap.size) s.heap H locs → lv_has ls 9 [(0, .ref b), (1, .ref (ad 0 0)), (2, .ref (ad 10 0)), (3, .ref (ad 15 0)), (4, .int (iI ((j : Nat) : Int)))] → W p l e room_1 s m args below meth cd H locs (cells + 3) (slots + 20) Q (F0 m 1285 ls [])) {k : Nat} (hk : k < 32) : W p l e room_1 s m args below meth cd H locs cells slots Q (F0 m 39 ls [.int (iI (k : Int))]) := by
  have hx := X.1
  have hb := X.2.1
  rcases (show k = 0 ∨ k = 1 ∨ k = 2 ∨ k = 3 ∨ k = 4 ∨ k = 5 ∨ k = 6 ∨ k = 7 ∨ k = 8 ∨ k = 9 ∨ k = 10 ∨ k = 11 ∨ k = 12 ∨ k = 13 ∨ k = 14 ∨ k = 15 ∨ k = 16 ∨ k = 17 ∨ k = 18 ∨ k = 19 ∨ k = 20 ∨ k = 21 ∨ k = 22 ∨ 23 ≤ k by omega) with rfl | rfl | rfl | rfl | rfl | rfl | rfl | rfl | rfl | rfl | rfl | rfl | rfl | rfl | rfl | rfl | rfl | rfl | rfl | rfl | rfl | rfl | rfl | hk2
  · refine lv_tableIn (off := 105) (tgt := 144) hx hb dL_law_39 (by decide) (by decide) (by decide) (by decide) ?_
    exact arm_add X hj hI hP hS hl hro hlocks kk
  · refine lv_tableIn (off := 197) (tgt := 236) hx hb dL_law_39 (by decide) (by decide) (by decide) (by decide) ?_
    exact arm_container X hj hI hP hS hl hro hlocks kk
  · refine lv_tableIn (off := 265) (tgt := 304) hx hb dL_law_39 (by decide) (by decide) (by decide) (by decide) ?_
    exact arm_limits X hj hI hP hS hl hro hlocks kk
  · refine lv_tableIn (off := 345) (tgt := 384) hx hb dL_law_39 (by decide) (by decide) (by decide) (by decide) ?_
    exact arm_setPlug X hj hI hP hS hl hro hlocks kk
  · refine lv_tableIn (off := 448) (tgt := 487) hx hb dL_law_39 (by decide) (by decide) (by decide) (by decide) ?_
    exact arm_canLoad X hj hI hP hS hl hro hlocks kk
  · refine lv_tableIn (off := 535) (tgt := 574) hx hb dL_law_39 (by decide) (by decide) (by decide) (by decide) ?_
    exact arm_load X hj hI hP hS hl hro hlocks kk
  · refine lv_tableIn (off := 615) (tgt := 654) hx hb dL_law_39 (by decide) (by decide) (by decide) (by decide) ?_
    exact arm_lift X hj hI hP hS hl hro hlocks kk
  · refine lv_tableIn (off := 683) (tgt := 722) hx hb dL_law_39 (by decide) (by decide) (by decide) (by decide) ?_
    exact arm_plan X hj hI hP hS hl hro hlocks kk
  · refine lv_tableIn (off := 696) (tgt := 735) hx hb dL_law_39 (by decide) (by decide) (by decide) (by decide) ?_
    exact arm_sail X hj hI hP hS hl hro hlocks kk
  · refine lv_tableIn (off := 740) (tgt := 779) hx hb dL_law_39 (by decide) (by decide) (by decide) (by decide) ?_
    exact arm_port X hj hI hP hS hl hro hlocks kk
  · refine lv_tableIn (off := 753) (tgt := 792) hx hb dL_law_39 (by decide) (by decide) (by decide) (by decide) ?_
    exact arm_at X hj hI hP hS hl hro hlocks kk
  · refine lv_tableIn (off := 833) (tgt := 872) hx hb dL_law_39 (by decide) (by decide) (by decide) (by decide) ?_
    exact arm_where X hj hI hP hS hl hro hlocks kk
  · refine lv_tableIn (off := 889) (tgt := 928) hx hb dL_law_39 (by decide) (by decide) (by decide) (by decide) ?_
    exact arm_moment X hj hI hP hS hl hro hlocks kk
  · refine lv_tableIn (off := 930) (tgt := 969) hx hb dL_law_39 (by decide) (by decide) (by decide) (by decide) ?_
    exact arm_height X hj hI hP hS hl hro hlocks kk
  · refine lv_tableIn (off := 971) (tgt := 1010) hx hb dL_law_39 (by decide) (by decide) (by decide) (by decide) ?_
    exact arm_steady X hj hI hP hS hl hro hlocks kk
  · refine lv_tableIn (off := 984) (tgt := 1023) hx hb dL_law_39 (by decide) (by decide) (by decide) (by decide) ?_
    exact arm_count X hj hI hP hS hl hro hlocks kk
  · refine lv_tableIn (off := 1025) (tgt := 1064) hx hb dL_law_39 (by decide) (by decide) (by decide) (by decide) ?_
    exact arm_weight X hj hI hP hS hl hro hlocks kk
  · refine lv_tableIn (off := 1081) (tgt := 1120) hx hb dL_law_39 (by decide) (by decide) (by decide) (by decide) ?_
    exact arm_blocked X hj hI hP hS hl hro hlocks kk
  · refine lv_tableIn (off := 1094) (tgt := 1133) hx hb dL_law_39 (by decide) (by decide) (by decide) (by decide) ?_
    exact arm_lifts X hj hI hP hS hl hro hlocks kk
  · refine lv_tableIn (off := 1150) (tgt := 1189) hx hb dL_law_39 (by decide) (by decide) (by decide) (by decide) ?_
    exact arm_plugs X hj hI hP hS hl hro hlocks kk
  · refine lv_tableIn (off := 1163) (tgt := 1202) hx hb dL_law_39 (by decide) (by decide) (by decide) (by decide) ?_
    exact arm_choices X hj hI hP hS hl hro hlocks kk
  · refine lv_tableIn (off := 1219) (tgt := 1258) hx hb dL_law_39 (by decide) (by decide) (by decide) (by decide) ?_
    exact arm_lifted X hj hI hP hS hl hro hlocks kk
  · refine lv_tableIn (off := 1232) (tgt := 1271) hx hb dL_law_39 (by decide) (by decide) (by decide) (by decide) ?_
    exact arm_digest X hj hI hP hS hl hro hlocks kk
  · refine lv_tableOut (tgt := 1285) hx hb dL_law_39 (Or.inr (by rw [iI_toInt (a := (k : Int)) (by omega) (by omega)]; omega)) (by decide) ?_
    refine W.widen (k := cells + 3) (n := slots + 20) (by omega) (by omega) ?_
    exact kk σ ad th u a f H locs ls hI hP hS hl
set_option maxHeartbeats 4000000 in
set_option maxRecDepth 100000 in
theorem law_loop {p : Program} {l : Launch} {e : Env} {s : State} {m : MethodId} {args : Array Value} {below : List Frame} {meth : Method} {cd : Code} {Q : State → Prop} {D : va_G} {cA : Nat → ClassId} {sa : Nat → Nat} {b L : Nat} {xs : Nat → Int32} (X : LX p l s m args cd b L xs D cA sa) (hlocks : meth.locks = false) (kend : ∀ (H : Heap) (locs : List Loc) (ls : Array Slot), va_S (fw_A s.heap.size) s.heap H locs → W p l e room_1 s m args below meth cd H locs 658709 7119977 Q (F0 m 1291 ls [])) : ∀ (n j cells slots : Nat) (σ : St) (ad : fw_Ad) (th u a : Int) (f : Nat → Int64) (H : Heap) (locs : List Loc) (ls : Array Slot), L < j + 5 * n + 5 → j ≤ 2565 → cells + 3 * n ≤ 658709 → slots + 20 * n ≤ 7119977 → Inv σ → fw_P D vwCl s.heap.size ad (WC cA ad σ (WM cA ad σ th u a (oW cA f))) H → va_S (fw_A s.heap.size) s.heap H locs → lv_has ls 9 [(0, .ref b), (1, .ref (ad 0 0)), (2, .ref (ad 10 0)), (3, .ref (ad 15 0)), (4, .int (iI ((j : Nat) : Int)))] → W p l e room_1 s m args below meth cd H locs cells slots Q (F0 m 23 ls []) := by
  have hx := X.1
  have hb := X.2.1
  have hL : L ≤ 2560 := X.2.2.2.2.2.2.2.1
  intro n
  induction n with
  | zero =>
    intro j cells slots σ ad th u a f H locs ls hn hj hc hs hI hP hS hl
    refine law_head X hS hl hj (fun _ => ?_) (fun hjL => absurd hn (by omega))
    exact W.widen (k := 658709) (n := 7119977) (by omega) (by omega) (kend H locs ls hS)
  | succ n ih =>
    intro j cells slots σ ad th u a f H locs ls hn hj hc hs hI hP hS hl
    refine law_head X hS hl hj (fun _ => ?_) (fun hjL k hk => ?_)
    · exact W.widen (k := 658709) (n := 7119977) (by omega) (by omega) (kend H locs ls hS)
    · refine law_step X hjL hI hP hS hl ⟨by omega, by omega⟩ hlocks (fun σ ad th u a f H locs ls hI hP hS hl => ?_) hk
      refine lv_iinc (v := iI ((j + 5 : Nat) : Int)) (lv' := [(4, .int (iI ((j + 5 : Nat) : Int))), (0, .ref b), (1, .ref (ad 0 0)), (2, .ref (ad 10 0)), (3, .ref (ad 15 0))]) hx hb dL_law_1285 hl (k := 4) rfl ((iI_inc (j : Int) 5).trans (congrArg iI (by omega))) (by decide) rfl (fun ls hl => ?_)
      refine lv_goto (tgt := 23) hx hb dL_law_1288 (by decide) ?_
      exact ih (j + 5) (cells + 3) (slots + 20) σ ad th u a f H locs ls (by omega) (by omega) (by omega) (by omega) hI hP hS (lv_sub hl [1, 2, 3, 4, 0] rfl)
