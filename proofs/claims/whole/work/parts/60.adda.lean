theorem oW_16 (cA : Nat → ClassId) (f : Nat → Int64) : oW cA f 16 0 = none := if_neg (by decide)
theorem adN5 {D : va_G} {cl : List vw_C} {z : Nat} {ad : fw_Ad} {cA : Nat → ClassId} {σ τ : St} {th u a : Int} {f : Nat → Int64} {H : Heap} {ls : Array Slot} {b : Nat} {j : Value} (hP : fw_P D cl z ad (WC cA ad σ (WM cA ad τ th u a (oW cA f))) H) (hl : lv_has ls 9 [(0, .ref b), (1, .ref (ad 0 0)), (2, .ref (ad 10 0)), (3, .ref (ad 15 0)), (4, j)]) : ∃ ad1 : fw_Ad, fw_P D cl z ad1 (WC cA ad1 σ (WM cA ad1 τ th u a (oW cA f))) H ∧ lv_has ls 9 [(0, .ref b), (1, .ref (ad1 0 0)), (2, .ref (ad1 10 0)), (3, .ref (ad1 15 0)), (4, j)] ∧ H.size = ad1 5 (σ 8 0) := by
  have e0 : (adU ad 5 (σ 8 0) H.size) 0 0 = ad 0 0 := adU_ne (by omega)
  have e1 : (adU ad 5 (σ 8 0) H.size) 10 0 = ad 10 0 := adU_ne (by omega)
  have e2 : (adU ad 5 (σ 8 0) H.size) 15 0 = ad 15 0 := adU_ne (by omega)
  have hc : ∀ b j, b ≤ 5 → (b = 5 → j < σ 8 0) → (adU ad 5 (σ 8 0) H.size) b j = ad b j := fun b j hb hj => adU_ne (fun q => by obtain ⟨q1, q2⟩ := q; have := hj q1; omega)
  have hm : ∀ b, 11 ≤ b → b ≤ 14 → (adU ad 5 (σ 8 0) H.size) b 0 = ad b 0 := fun b h1 h2 => adU_ne (by omega)
  refine ⟨adU ad 5 (σ 8 0) H.size, ?_, ?_, (adU_same _ _ _ _).symm⟩
  · rw [WC_ad (cA := cA) (σ := σ) hc, WM_ad (cA := cA) (σ := τ) (th := th) (u := u) (a := a) (μ := oW cA f) hm]
    exact fw_adU _ hP (WC_n5 (Nat.le_refl _))
  · rw [e0, e1, e2]; exact hl
theorem adN16 {D : va_G} {cl : List vw_C} {z : Nat} {ad : fw_Ad} {cA : Nat → ClassId} {σ τ : St} {th u a : Int} {f : Nat → Int64} {H : Heap} {ls : Array Slot} {b : Nat} {j v : Value} (hP : fw_P D cl z ad (WC cA ad σ (WM cA ad τ th u a (oW cA f))) H) (hl : lv_has ls 9 [(5, v), (0, .ref b), (1, .ref (ad 0 0)), (2, .ref (ad 10 0)), (3, .ref (ad 15 0)), (4, j)]) : ∃ ad1 : fw_Ad, fw_P D cl z ad1 (WC cA ad1 σ (WM cA ad1 τ th u a (oW cA f))) H ∧ lv_has ls 9 [(5, v), (0, .ref b), (1, .ref (ad1 0 0)), (2, .ref (ad1 10 0)), (3, .ref (ad1 15 0)), (4, j)] ∧ H.size = ad1 16 (0) := by
  have e0 : (adU ad 16 (0) H.size) 0 0 = ad 0 0 := adU_ne (by omega)
  have e1 : (adU ad 16 (0) H.size) 10 0 = ad 10 0 := adU_ne (by omega)
  have e2 : (adU ad 16 (0) H.size) 15 0 = ad 15 0 := adU_ne (by omega)
  have hc : ∀ b j, b ≤ 5 → (b = 5 → j < σ 8 0) → (adU ad 16 (0) H.size) b j = ad b j := fun b j hb hj => adU_ne (fun q => by obtain ⟨q1, q2⟩ := q; omega)
  have hm : ∀ b, 11 ≤ b → b ≤ 14 → (adU ad 16 (0) H.size) b 0 = ad b 0 := fun b h1 h2 => adU_ne (by omega)
  refine ⟨adU ad 16 (0) H.size, ?_, ?_, (adU_same _ _ _ _).symm⟩
  · rw [WC_ad (cA := cA) (σ := σ) hc, WM_ad (cA := cA) (σ := τ) (th := th) (u := u) (a := a) (μ := oW cA f) hm]
    exact fw_adU _ hP ((WC_r (by decide)).trans (oW_16 cA _))
  · rw [e0, e1, e2]; exact hl
set_option maxHeartbeats 4000000 in
set_option maxRecDepth 100000 in
theorem arm_add {p : Program} {l : Launch} {e : Env} {s : State} {m : MethodId} {args : Array Value} {below : List Frame} {meth : Method} {cd : Code} {Q : State → Prop} {D : va_G} {cA : Nat → ClassId} {sa : Nat → Nat} {b L : Nat} {xs : Nat → Int32} {H : Heap} {locs : List Loc} {cells slots : Nat} {ls : Array Slot} {ad : fw_Ad} {σ : St} {th u a : Int} {f : Nat → Int64} {j : Nat} (X : LX p l s m args cd b L xs D cA sa) (hj : j + 5 ≤ L) (hI : Inv σ) (hP : fw_P D vwCl s.heap.size ad (WC cA ad σ (WM cA ad σ th u a (oW cA f))) H) (hS : va_S (fw_A s.heap.size) s.heap H locs) (hl : lv_has ls 9 [(0, .ref b), (1, .ref (ad 0 0)), (2, .ref (ad 10 0)), (3, .ref (ad 15 0)), (4, .int (iI ((j : Nat) : Int)))]) (hro : cells + 3 ≤ 658709 ∧ slots + 20 ≤ 7119977) (hlocks : meth.locks = false)
    (kk : ∀ (σ : St) (ad : fw_Ad) (th u a : Int) (f : Nat → Int64) (H : Heap) (locs : List Loc) (ls : Array Slot), Inv σ → fw_P D vwCl s.heap.size ad (WC cA ad σ (WM cA ad σ th u a (oW cA f))) H → va_S (fw_A s.heap.size) s.heap H locs → lv_has ls 9 [(0, .ref b), (1, .ref (ad 0 0)), (2, .ref (ad 10 0)), (3, .ref (ad 15 0)), (4, .int (iI ((j : Nat) : Int)))] → W p l e room_1 s m args below meth cd H locs (cells + 3) (slots + 20) Q (F0 m 1285 ls [])) : W p l e room_1 s m args below meth cd H locs cells slots Q (F0 m 144 ls []) := by
  obtain ⟨hx, hb, hml, hown, hts, hX, hbl, hL, hK, hAO, hE, hl0⟩ := X
  generalize hz : s.heap.size = z at hP hS kk hE
  obtain ⟨ad, hP, hl, hnh⟩ := adN5 hP hl
  refine lv_aload_n hx hb dL_law_144 rfl (lv_at hl 1 rfl) ?_
  refine lv_aload_n hx hb dL_law_145 rfl (lv_at hl 0 rfl) ?_
  refine lv_iload hx hb dL_law_146 (lv_at hl 4 rfl) ?_
  refine lv_iconst (v := iI ((1 : Nat) : Int)) hx hb dL_law_148 (by decide) ?_
  refine fw_iaddN (a := j) (b := 1) hx hb dL_law_149 ?_
  obtain ⟨v_1, hv_1, hv_1a, hv_1b⟩ := iI_ex (xs (j + 1))
  refine ls_ldv (j := j + 1) (v := iI v_1) hv_1 hx hb hX hbl (by rw [hz]; exact hS) (by omega) hL dL_law_150 ?_
  refine lv_aload_n hx hb dL_law_151 rfl (lv_at hl 0 rfl) ?_
  refine lv_iload hx hb dL_law_152 (lv_at hl 4 rfl) ?_
  refine lv_iconst (v := iI ((2 : Nat) : Int)) hx hb dL_law_154 (by decide) ?_
  refine fw_iaddN (a := j) (b := 2) hx hb dL_law_155 ?_
  obtain ⟨v_2, hv_2, hv_2a, hv_2b⟩ := iI_ex (xs (j + 2))
  refine ls_ldv (j := j + 2) (v := iI v_2) hv_2 hx hb hX hbl (by rw [hz]; exact hS) (by omega) hL dL_law_156 ?_
  refine lv_aload_n hx hb dL_law_157 rfl (lv_at hl 0 rfl) ?_
  refine lv_iload hx hb dL_law_158 (lv_at hl 4 rfl) ?_
  refine lv_iconst (v := iI ((3 : Nat) : Int)) hx hb dL_law_160 (by decide) ?_
  refine fw_iaddN (a := j) (b := 3) hx hb dL_law_161 ?_
  obtain ⟨v_3, hv_3, hv_3a, hv_3b⟩ := iI_ex (xs (j + 3))
  refine ls_ldv (j := j + 3) (v := iI v_3) hv_3 hx hb hX hbl (by rw [hz]; exact hS) (by omega) hL dL_law_162 ?_
  refine lv_aload_n hx hb dL_law_163 rfl (lv_at hl 0 rfl) ?_
  refine lv_iload hx hb dL_law_164 (lv_at hl 4 rfl) ?_
  refine lv_iconst (v := iI ((4 : Nat) : Int)) hx hb dL_law_166 (by decide) ?_
  refine fw_iaddN (a := j) (b := 4) hx hb dL_law_167 ?_
  obtain ⟨v_4, hv_4, hv_4a, hv_4b⟩ := iI_ex (xs (j + 4))
  refine ls_ldv (j := j + 4) (v := iI v_4) hv_4 hx hb hX hbl (by rw [hz]; exact hS) (by omega) hL dL_law_168 ?_
  refine lv_aload_n hx hb dL_law_169 rfl (lv_at hl 3 rfl) ?_
  refine fh_cSs (As := [.ref (ad 0 (0)), .int (iI (v_1)), .int (iI (v_2)), .int (iI (v_3)), .int (iI (v_4)), .ref (ad 15 (0))]) (rest := []) ⟨hx, hb, hml, hown, hts⟩ (c_L_addContainer l hl0 D cA z ad sa σ (WM cA ad σ th u a (oW cA f)) f ((v_1)) ((v_2)) ((v_3)) ((v_4)) hI (oW_15 cA _) ⟨by omega, by omega⟩ ⟨by omega, by omega⟩ ⟨by omega, by omega⟩ ⟨by omega, by omega⟩) (vx_cwSW 6 hts gL_law_L_addContainer rfl rfl rfl (by decide +kernel) ⟨Nat.le_of_ble_eq_true rfl, Nat.le_of_ble_eq_true rfl⟩) rfl hl.1 (Nat.le_of_ble_eq_true rfl) dL_law_170 ⟨show _ ≤ 658709 from by omega, show _ ≤ 7119977 from by omega⟩ hK hnh hE hP hS rfl (fun r w' H locs q_5 hP hS => ?_)
  rcases q_5 with ⟨hok, hob, rfl, rfl⟩ | ⟨hbad, rfl, rfl⟩ | ⟨hok, hnb, rfl, rfl⟩
  · rw [oU_W] at hP
    refine lv_istore (lv' := [(5, .int (iI (0))), (0, .ref b), (1, .ref (ad 0 (0))), (2, .ref (ad 10 (0))), (3, .ref (ad 15 (0))), (4, .int (iI ((j : Nat) : Int)))]) hx hb dL_law_173 hl (by decide) rfl (fun ls hl => ?_)
    clear hnh
    obtain ⟨ad, hP, hl, hnh⟩ := adN16 hP hl
    refine lv_aload_n hx hb dL_law_175 rfl (lv_at hl 3 rfl) ?_
    refine lv_aload_n hx hb dL_law_176 rfl (lv_at hl 1 rfl) ?_
    refine lv_iload hx hb dL_law_177 (lv_at hl 5 rfl) ?_
    refine lv_iconst (v := iI ((1 : Nat) : Int)) hx hb dL_law_179 (by decide) ?_
    refine fw_iaddN (a := j) (b := 1) hx hb dL_law_180 ?_
    refine ls_ldv (j := j + 1) (v := iI v_1) hv_1 hx hb hX hbl (by rw [hz]; exact hS) (by omega) hL dL_law_181 ?_
    refine lv_aload_n hx hb dL_law_182 rfl (lv_at hl 1 rfl) ?_
    refine lv_iload hx hb dL_law_183 (lv_at hl 5 rfl) ?_
    refine lv_iconst (v := iI ((2 : Nat) : Int)) hx hb dL_law_185 (by decide) ?_
    refine fw_iaddN (a := j) (b := 2) hx hb dL_law_186 ?_
    refine ls_ldv (j := j + 2) (v := iI v_2) hv_2 hx hb hX hbl (by rw [hz]; exact hS) (by omega) hL dL_law_187 ?_
    refine lv_aload_n hx hb dL_law_188 rfl (lv_at hl 1 rfl) ?_
    refine lv_iload hx hb dL_law_189 (lv_at hl 5 rfl) ?_
    refine lv_iconst (v := iI ((3 : Nat) : Int)) hx hb dL_law_191 (by decide) ?_
    refine fw_iaddN (a := j) (b := 3) hx hb dL_law_192 ?_
    refine ls_ldv (j := j + 3) (v := iI v_3) hv_3 hx hb hX hbl (by rw [hz]; exact hS) (by omega) hL dL_law_193 ?_
    refine lv_aload_n hx hb dL_law_194 rfl (lv_at hl 1 rfl) ?_
    refine lv_iload hx hb dL_law_195 (lv_at hl 5 rfl) ?_
    refine lv_iconst (v := iI ((4 : Nat) : Int)) hx hb dL_law_197 (by decide) ?_
    refine fw_iaddN (a := j) (b := 4) hx hb dL_law_198 ?_
    refine ls_ldv (j := j + 4) (v := iI v_4) hv_4 hx hb hX hbl (by rw [hz]; exact hS) (by omega) hL dL_law_199 ?_
    rw [WCM] at hP
    refine fa_cVi (As := [.int (iI (v_1)), .int (iI (v_2)), .int (iI (v_3)), .int (iI (v_4))]) (rest := []) ⟨hx, hb, hml, hown, hts⟩ (c_X3_addContainer l D cA z ad σ th u a ((WC cA ad (addS σ (Int.toNat v_1) (Int.toNat v_2) (Int.toNat v_3) (Int.toNat v_4)) (oW cA (vp_updL f 0 ((iI ((σ 8 0 : Nat) : Int)).toInt64))))) ((v_1)) ((v_2)) ((v_3)) ((v_4)) hI ((WC_r (by decide)).trans (oW_16 cA _)) ⟨by omega, by omega⟩ ⟨by omega, by omega⟩ ⟨by omega, by omega⟩ ⟨by omega, by omega⟩) (cwV 4 hts gL_law_X3_addContainer rfl rfl rfl (by decide +kernel) ⟨Nat.le_of_ble_eq_true rfl, Nat.le_of_ble_eq_true rfl⟩) WM_10 rfl rfl hl.1 (Nat.le_of_ble_eq_true rfl) dL_law_200 ⟨show _ ≤ 658709 from by omega, show _ ≤ 7119977 from by omega⟩ hK hnh hAO hP hS rfl (fun r w' H locs q_6 hP hS => ?_)
    rcases q_6 with ⟨hbad2, rfl, rfl⟩ | ⟨hok2, hnb2, rfl, rfl⟩ | ⟨hok2, hob2, rfl, rfl⟩
    · exfalso; omega
    · exfalso; omega
    · rw [← WCM] at hP
      have hI2 : Inv (addS σ (Int.toNat v_1) (Int.toNat v_2) (Int.toNat v_3) (Int.toNat v_4)) := Inv_add hI (by omega) (by omega) (by omega) (by omega) (by omega)
      refine lv_istore (lv' := [(6, .int (iI ((σ 8 0 : Nat) : Int))), (5, .int (iI (0))), (0, .ref b), (1, .ref (ad 0 (0))), (2, .ref (ad 10 (0))), (3, .ref (ad 15 (0))), (4, .int (iI ((j : Nat) : Int)))]) hx hb dL_law_203 hl (by decide) rfl (fun ls hl => ?_)
      refine lv_aload_n hx hb dL_law_205 rfl (lv_at hl 4 rfl) ?_
      rw [WCM] at hP
      refine fw_cVi (As := []) (rest := []) ⟨hx, hb, hml, hown, hts⟩ (c_X3_thrown l D cA z ad (addS σ (Int.toNat v_1) (Int.toNat v_2) (Int.toNat v_3) (Int.toNat v_4)) (((0 : Nat) : Int)) u a ((WC cA ad (addS σ (Int.toNat v_1) (Int.toNat v_2) (Int.toNat v_3) (Int.toNat v_4)) (oW cA (vp_updL f 0 ((iI ((σ 8 0 : Nat) : Int)).toInt64)))))  hI2) (cwV 0 hts gL_law_X3_thrown rfl rfl rfl (by decide +kernel) ⟨Nat.le_of_ble_eq_true rfl, Nat.le_of_ble_eq_true rfl⟩) WM_10 rfl rfl hl.1 (Nat.le_of_ble_eq_true rfl) dL_law_206 ⟨show _ ≤ 658709 from by omega, show _ ≤ 7119977 from by omega⟩ hK hP hS rfl (fun r w' H locs q_7 hP hS => ?_)
      obtain ⟨rfl, rfl⟩ := q_7
      have hn_8 := hI2.n
      have hm_9 := hI2.lim
      rw [← WCM] at hP
      refine lv_iload hx hb dL_law_209 (lv_at hl 1 rfl) ?_
      refine lw_same (tgt := 216) hx hb dL_law_211 (by decide) ?_
      refine lv_iload hx hb dL_law_216 (lv_at hl 1 rfl) ?_
      refine fw_if_ne (x := (0)) (tgt := 233) hx hb dL_law_218 (by decide) ⟨by omega, by omega⟩ (fun c_10 => absurd c_10 (by decide)) (fun c_10 => ?_)
      refine lv_aload_n hx hb dL_law_221 rfl (lv_at hl 5 rfl) ?_
      refine lv_iconst (v := iI ((0 : Nat) : Int)) hx hb dL_law_222 (by decide) ?_
      refine lw_ld0 (x := (iI ((σ 8 0 : Nat) : Int)).toInt64) hx hb hK hP ((WC_r (by decide)).trans (oW_15 cA _)) 4 rfl dL_law_223 ?_
      refine lv_iload hx hb dL_law_224 (lv_at hl 0 rfl) ?_
      refine lv_i2l (v := (iI (((σ 8 0 : Nat) : Int))).toInt64) hx hb dL_law_226 rfl ?_
      refine W.lcmp hx hb dL_law_227 ?_
      refine fw_top (v' := .int (iI 0)) (by rw [lg_cmp_self]) ?_
      refine fw_if_eq (x := (0)) (tgt := 233) hx hb dL_law_228 (by decide) ⟨by omega, by omega⟩ (fun c_11 => ?_) (fun c_11 => absurd c_11 (by decide))
      refine lv_goto (tgt := 1285) hx hb dL_law_233 (by decide) ?_
      refine W.widen (k := cells + 3) (n := slots + 20) (by omega) (by omega) ?_
      exact kk (addS σ (Int.toNat v_1) (Int.toNat v_2) (Int.toNat v_3) (Int.toNat v_4)) ad (((0 : Nat) : Int)) u a (vp_updL f 0 ((iI ((σ 8 0 : Nat) : Int)).toInt64)) H locs ls hI2 hP hS (lv_sub hl [2, 3, 4, 5, 6] rfl)
  · have hP := hP
    refine lv_istore (lv' := [(5, .int (iI (1))), (0, .ref b), (1, .ref (ad 0 (0))), (2, .ref (ad 10 (0))), (3, .ref (ad 15 (0))), (4, .int (iI ((j : Nat) : Int)))]) hx hb dL_law_173 hl (by decide) rfl (fun ls hl => ?_)
    clear hnh
    obtain ⟨ad, hP, hl, hnh⟩ := adN16 hP hl
    refine lv_aload_n hx hb dL_law_175 rfl (lv_at hl 3 rfl) ?_
    refine lv_aload_n hx hb dL_law_176 rfl (lv_at hl 1 rfl) ?_
    refine lv_iload hx hb dL_law_177 (lv_at hl 5 rfl) ?_
    refine lv_iconst (v := iI ((1 : Nat) : Int)) hx hb dL_law_179 (by decide) ?_
    refine fw_iaddN (a := j) (b := 1) hx hb dL_law_180 ?_
    refine ls_ldv (j := j + 1) (v := iI v_1) hv_1 hx hb hX hbl (by rw [hz]; exact hS) (by omega) hL dL_law_181 ?_
    refine lv_aload_n hx hb dL_law_182 rfl (lv_at hl 1 rfl) ?_
    refine lv_iload hx hb dL_law_183 (lv_at hl 5 rfl) ?_
    refine lv_iconst (v := iI ((2 : Nat) : Int)) hx hb dL_law_185 (by decide) ?_
    refine fw_iaddN (a := j) (b := 2) hx hb dL_law_186 ?_
    refine ls_ldv (j := j + 2) (v := iI v_2) hv_2 hx hb hX hbl (by rw [hz]; exact hS) (by omega) hL dL_law_187 ?_
    refine lv_aload_n hx hb dL_law_188 rfl (lv_at hl 1 rfl) ?_
    refine lv_iload hx hb dL_law_189 (lv_at hl 5 rfl) ?_
    refine lv_iconst (v := iI ((3 : Nat) : Int)) hx hb dL_law_191 (by decide) ?_
    refine fw_iaddN (a := j) (b := 3) hx hb dL_law_192 ?_
    refine ls_ldv (j := j + 3) (v := iI v_3) hv_3 hx hb hX hbl (by rw [hz]; exact hS) (by omega) hL dL_law_193 ?_
    refine lv_aload_n hx hb dL_law_194 rfl (lv_at hl 1 rfl) ?_
    refine lv_iload hx hb dL_law_195 (lv_at hl 5 rfl) ?_
    refine lv_iconst (v := iI ((4 : Nat) : Int)) hx hb dL_law_197 (by decide) ?_
    refine fw_iaddN (a := j) (b := 4) hx hb dL_law_198 ?_
    refine ls_ldv (j := j + 4) (v := iI v_4) hv_4 hx hb hX hbl (by rw [hz]; exact hS) (by omega) hL dL_law_199 ?_
    rw [WCM] at hP
    refine fa_cVi (As := [.int (iI (v_1)), .int (iI (v_2)), .int (iI (v_3)), .int (iI (v_4))]) (rest := []) ⟨hx, hb, hml, hown, hts⟩ (c_X3_addContainer l D cA z ad σ th u a ((WC cA ad σ (oW cA f))) ((v_1)) ((v_2)) ((v_3)) ((v_4)) hI ((WC_r (by decide)).trans (oW_16 cA _)) ⟨by omega, by omega⟩ ⟨by omega, by omega⟩ ⟨by omega, by omega⟩ ⟨by omega, by omega⟩) (cwV 4 hts gL_law_X3_addContainer rfl rfl rfl (by decide +kernel) ⟨Nat.le_of_ble_eq_true rfl, Nat.le_of_ble_eq_true rfl⟩) WM_10 rfl rfl hl.1 (Nat.le_of_ble_eq_true rfl) dL_law_200 ⟨show _ ≤ 658709 from by omega, show _ ≤ 7119977 from by omega⟩ hK hnh hAO hP hS rfl (fun r w' H locs q_12 hP hS => ?_)
    rcases q_12 with ⟨hbad2, rfl, rfl⟩ | ⟨hok2, hnb2, rfl, rfl⟩ | ⟨hok2, hob2, rfl, rfl⟩
    · rw [← WCM] at hP
      refine lv_istore (lv' := [(6, .int (iI (0))), (5, .int (iI (1))), (0, .ref b), (1, .ref (ad 0 (0))), (2, .ref (ad 10 (0))), (3, .ref (ad 15 (0))), (4, .int (iI ((j : Nat) : Int)))]) hx hb dL_law_203 hl (by decide) rfl (fun ls hl => ?_)
      refine lv_aload_n hx hb dL_law_205 rfl (lv_at hl 4 rfl) ?_
      rw [WCM] at hP
      refine fw_cVi (As := []) (rest := []) ⟨hx, hb, hml, hown, hts⟩ (c_X3_thrown l D cA z ad σ (((1 : Nat) : Int)) u a ((WC cA ad σ (oW cA f)))  hI) (cwV 0 hts gL_law_X3_thrown rfl rfl rfl (by decide +kernel) ⟨Nat.le_of_ble_eq_true rfl, Nat.le_of_ble_eq_true rfl⟩) WM_10 rfl rfl hl.1 (Nat.le_of_ble_eq_true rfl) dL_law_206 ⟨show _ ≤ 658709 from by omega, show _ ≤ 7119977 from by omega⟩ hK hP hS rfl (fun r w' H locs q_13 hP hS => ?_)
      obtain ⟨rfl, rfl⟩ := q_13
      have hn_14 := hI.n
      have hm_15 := hI.lim
      rw [← WCM] at hP
      refine lv_iload hx hb dL_law_209 (lv_at hl 1 rfl) ?_
      refine lw_same (tgt := 216) hx hb dL_law_211 (by decide) ?_
      refine lv_iload hx hb dL_law_216 (lv_at hl 1 rfl) ?_
      refine fw_if_ne (x := (1)) (tgt := 233) hx hb dL_law_218 (by decide) ⟨by omega, by omega⟩ (fun c_16 => ?_) (fun c_16 => absurd c_16 (by decide))
      refine lv_goto (tgt := 1285) hx hb dL_law_233 (by decide) ?_
      refine W.widen (k := cells + 3) (n := slots + 20) (by omega) (by omega) ?_
      exact kk σ ad (((1 : Nat) : Int)) u a f H locs ls hI hP hS (lv_sub hl [2, 3, 4, 5, 6] rfl)
    · exfalso; omega
    · exfalso; omega
  · have hP := hP
    refine lv_istore (lv' := [(5, .int (iI (2))), (0, .ref b), (1, .ref (ad 0 (0))), (2, .ref (ad 10 (0))), (3, .ref (ad 15 (0))), (4, .int (iI ((j : Nat) : Int)))]) hx hb dL_law_173 hl (by decide) rfl (fun ls hl => ?_)
    clear hnh
    obtain ⟨ad, hP, hl, hnh⟩ := adN16 hP hl
    refine lv_aload_n hx hb dL_law_175 rfl (lv_at hl 3 rfl) ?_
    refine lv_aload_n hx hb dL_law_176 rfl (lv_at hl 1 rfl) ?_
    refine lv_iload hx hb dL_law_177 (lv_at hl 5 rfl) ?_
    refine lv_iconst (v := iI ((1 : Nat) : Int)) hx hb dL_law_179 (by decide) ?_
    refine fw_iaddN (a := j) (b := 1) hx hb dL_law_180 ?_
    refine ls_ldv (j := j + 1) (v := iI v_1) hv_1 hx hb hX hbl (by rw [hz]; exact hS) (by omega) hL dL_law_181 ?_
    refine lv_aload_n hx hb dL_law_182 rfl (lv_at hl 1 rfl) ?_
    refine lv_iload hx hb dL_law_183 (lv_at hl 5 rfl) ?_
    refine lv_iconst (v := iI ((2 : Nat) : Int)) hx hb dL_law_185 (by decide) ?_
    refine fw_iaddN (a := j) (b := 2) hx hb dL_law_186 ?_
    refine ls_ldv (j := j + 2) (v := iI v_2) hv_2 hx hb hX hbl (by rw [hz]; exact hS) (by omega) hL dL_law_187 ?_
    refine lv_aload_n hx hb dL_law_188 rfl (lv_at hl 1 rfl) ?_
    refine lv_iload hx hb dL_law_189 (lv_at hl 5 rfl) ?_
    refine lv_iconst (v := iI ((3 : Nat) : Int)) hx hb dL_law_191 (by decide) ?_
    refine fw_iaddN (a := j) (b := 3) hx hb dL_law_192 ?_
    refine ls_ldv (j := j + 3) (v := iI v_3) hv_3 hx hb hX hbl (by rw [hz]; exact hS) (by omega) hL dL_law_193 ?_
    refine lv_aload_n hx hb dL_law_194 rfl (lv_at hl 1 rfl) ?_
    refine lv_iload hx hb dL_law_195 (lv_at hl 5 rfl) ?_
    refine lv_iconst (v := iI ((4 : Nat) : Int)) hx hb dL_law_197 (by decide) ?_
    refine fw_iaddN (a := j) (b := 4) hx hb dL_law_198 ?_
    refine ls_ldv (j := j + 4) (v := iI v_4) hv_4 hx hb hX hbl (by rw [hz]; exact hS) (by omega) hL dL_law_199 ?_
    rw [WCM] at hP
    refine fa_cVi (As := [.int (iI (v_1)), .int (iI (v_2)), .int (iI (v_3)), .int (iI (v_4))]) (rest := []) ⟨hx, hb, hml, hown, hts⟩ (c_X3_addContainer l D cA z ad σ th u a ((WC cA ad σ (oW cA f))) ((v_1)) ((v_2)) ((v_3)) ((v_4)) hI ((WC_r (by decide)).trans (oW_16 cA _)) ⟨by omega, by omega⟩ ⟨by omega, by omega⟩ ⟨by omega, by omega⟩ ⟨by omega, by omega⟩) (cwV 4 hts gL_law_X3_addContainer rfl rfl rfl (by decide +kernel) ⟨Nat.le_of_ble_eq_true rfl, Nat.le_of_ble_eq_true rfl⟩) WM_10 rfl rfl hl.1 (Nat.le_of_ble_eq_true rfl) dL_law_200 ⟨show _ ≤ 658709 from by omega, show _ ≤ 7119977 from by omega⟩ hK hnh hAO hP hS rfl (fun r w' H locs q_17 hP hS => ?_)
    rcases q_17 with ⟨hbad2, rfl, rfl⟩ | ⟨hok2, hnb2, rfl, rfl⟩ | ⟨hok2, hob2, rfl, rfl⟩
    · exfalso; omega
    · rw [← WCM] at hP
      refine lv_istore (lv' := [(6, .int (iI (0))), (5, .int (iI (2))), (0, .ref b), (1, .ref (ad 0 (0))), (2, .ref (ad 10 (0))), (3, .ref (ad 15 (0))), (4, .int (iI ((j : Nat) : Int)))]) hx hb dL_law_203 hl (by decide) rfl (fun ls hl => ?_)
      refine lv_aload_n hx hb dL_law_205 rfl (lv_at hl 4 rfl) ?_
      rw [WCM] at hP
      refine fw_cVi (As := []) (rest := []) ⟨hx, hb, hml, hown, hts⟩ (c_X3_thrown l D cA z ad σ (((2 : Nat) : Int)) u a ((WC cA ad σ (oW cA f)))  hI) (cwV 0 hts gL_law_X3_thrown rfl rfl rfl (by decide +kernel) ⟨Nat.le_of_ble_eq_true rfl, Nat.le_of_ble_eq_true rfl⟩) WM_10 rfl rfl hl.1 (Nat.le_of_ble_eq_true rfl) dL_law_206 ⟨show _ ≤ 658709 from by omega, show _ ≤ 7119977 from by omega⟩ hK hP hS rfl (fun r w' H locs q_18 hP hS => ?_)
      obtain ⟨rfl, rfl⟩ := q_18
      have hn_19 := hI.n
      have hm_20 := hI.lim
      rw [← WCM] at hP
      refine lv_iload hx hb dL_law_209 (lv_at hl 1 rfl) ?_
      refine lw_same (tgt := 216) hx hb dL_law_211 (by decide) ?_
      refine lv_iload hx hb dL_law_216 (lv_at hl 1 rfl) ?_
      refine fw_if_ne (x := (2)) (tgt := 233) hx hb dL_law_218 (by decide) ⟨by omega, by omega⟩ (fun c_21 => ?_) (fun c_21 => absurd c_21 (by decide))
      refine lv_goto (tgt := 1285) hx hb dL_law_233 (by decide) ?_
      refine W.widen (k := cells + 3) (n := slots + 20) (by omega) (by omega) ?_
      exact kk σ ad (((2 : Nat) : Int)) u a f H locs ls hI hP hS (lv_sub hl [2, 3, 4, 5, 6] rfl)
    · exfalso; omega
