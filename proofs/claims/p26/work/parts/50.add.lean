/-! ===== a container added ===== -/
theorem addS_e (σ : St) (w f t q b j : Nat) : addS σ w f t q b j = if b = 8 ∧ j = 0 then σ 8 0 + 1 else if b = 4 ∧ j = σ 8 0 then 0 else if b = 3 ∧ j = σ 8 0 then q else if b = 2 ∧ j = σ 8 0 then t else if b = 1 ∧ j = σ 8 0 then f else if b = 0 ∧ j = σ 8 0 then w else σ b j := rfl
theorem addS_n {σ : St} {w f t q : Nat} : addS σ w f t q 8 0 = σ 8 0 + 1 := rfl
theorem addS_o {σ : St} {w f t q b j : Nat} (h : ¬ (b = 8 ∧ j = 0)) (h2 : 5 ≤ b ∨ j ≠ σ 8 0) : addS σ w f t q b j = σ b j := by
  rw [addS_e, if_neg h, if_neg (by omega), if_neg (by omega), if_neg (by omega), if_neg (by omega), if_neg (by omega)]
theorem addS_4 {σ : St} {w f t q : Nat} : addS σ w f t q 4 (σ 8 0) = 0 := by rw [addS_e, if_neg (by omega), if_pos ⟨rfl, rfl⟩]
theorem high_add {σ : St} {w f t q : Nat} (k : Nat) : high (addS σ w f t q) k = high σ k := by
  unfold high
  rw [addS_n, sumN, if_neg (fun h => by have := (isOn_t.mp h).1; rw [addS_4] at this; omega), Nat.add_zero]
  refine sumN_congr (fun c hc => ?_)
  unfold isOn
  rw [addS_o (b := 4) (by omega) (Or.inr (by omega)), addS_o (b := 5) (by omega) (Or.inr (by omega))]
theorem occ_add {σ : St} {w f t q : Nat} (k j : Nat) : occ (addS σ w f t q) k j = occ σ k j := by
  unfold occ
  rw [addS_n, List.range_succ, List.find?_append]
  have h1 : (List.range (σ 8 0)).find? (isAt (addS σ w f t q) k j) = (List.range (σ 8 0)).find? (isAt σ k j) := find_congr (fun x hx => by
    have := List.mem_range.mp hx
    unfold isAt isOn
    rw [addS_o (b := 4) (by omega) (Or.inr (by omega)), addS_o (b := 5) (by omega) (Or.inr (by omega)), addS_o (b := 6) (by omega) (Or.inr (by omega))])
  have h2 : isAt (addS σ w f t q) k j (σ 8 0) = false := isAt_f.mpr (fun h => by have := h.1; rw [addS_4] at this; omega)
  rw [h1, List.find?_cons, h2]
  cases (List.range (σ 8 0)).find? (isAt σ k j) <;> rfl
section ADDC
variable {D : va_G} {cl : List vw_C} {z : Nat} {cA : Nat → ClassId} {ad : fw_Ad} {H : Heap} {σ : St} {μ : fw_W}
theorem wC_add (hI : Inv σ) {w f t q : Nat} {x0 : va_E}
    (h : fw_P D cl z ad (fw_up (fw_up (fw_up (fw_up (WC cA ad σ μ) 5 (σ 8 0) x0) 5 (σ 8 0) (.inr (0, [.int (iI ((σ 8 0 : Nat) : Int)), .int (iI ((w : Nat) : Int)), .int (iI ((f : Nat) : Int)), .int (iI ((t : Nat) : Int)), .int (iI ((q : Nat) : Int)), .int (iI 0), .null, .int (iI 0)]))) 1 0 (.inl (cA 2, 40, .inr (.inr (.inr (.inr (va_up (fun j => if j < σ 8 0 then some (ad 5 j) else none) (σ 8 0) (some (ad 5 (σ 8 0)))))))))) 0 0 (.inr (2, [.ref (ad 1 0), .ref (ad 2 0), .int (iI ((σ 8 0 + 1 : Nat) : Int)), .int (iI (σ 8 4 : Nat)), .int (iI (σ 8 1 : Nat)), .int (iI (σ 8 2 : Nat)), .int (iI (σ 8 3 : Nat)), .int (iI (σ 8 5 : Nat))]))) H) : fw_P D cl z ad (WC cA ad (addS σ w f t q) μ) H := by
  have h7 := hI.2.2.2.2.2.2
  refine WC_ext ?_ ?_ ?_ (fun k hk => ?_) (fun k hk => ?_) (fun d hd => ?_) (fun b j hb => ?_) h
  · rw [fw_up_same]; rfl
  · rw [fw_up_k (by decide), fw_up_same]
    unfold cBoxes
    have : va_up (fun j => if j < σ 8 0 then some (ad 5 j) else none) (σ 8 0) (some (ad 5 (σ 8 0))) = fun j => if j < addS σ w f t q 8 0 then some (ad 5 j) else none := by
      funext j
      unfold va_up
      rw [addS_n]
      by_cases e : j = σ 8 0
      · rw [if_pos e, if_pos (by omega), e]
      · rw [if_neg e]
        show (if j < σ 8 0 then some (ad 5 j) else none) = _
        by_cases e2 : j < σ 8 0
        · rw [if_pos e2, if_pos (by omega)]
        · rw [if_neg e2, if_neg (by omega)]
    rw [this]
  · rw [fw_up_k (by decide), fw_up_k (by decide), fw_up_k (by decide), fw_up_k (by decide), WC_2]
  · rw [fw_up_k (by decide), fw_up_k (by decide), fw_up_k (by decide), fw_up_k (by decide), WC_3 hk]
    unfold cStack
    rw [high_add, addS_o (by omega) (Or.inl (by omega))]
  · rw [fw_up_k (by decide), fw_up_k (by decide), fw_up_k (by decide), fw_up_k (by decide), WC_4 hk]
    unfold cArr
    rw [show (fun j => (occ (addS σ w f t q) k j).map (ad 5)) = fun j => (occ σ k j).map (ad 5) from funext fun j => by rw [occ_add]]
  · rw [addS_n] at hd
    rw [fw_up_k (by decide), fw_up_k (by decide)]
    by_cases e : d = σ 8 0
    · subst e
      rw [fw_up_same]
      have e6 : addS σ w f t q 6 (σ 8 0) = 0 := by rw [addS_o (by omega) (Or.inl (by omega))]; exact h7 _ (Nat.le_refl _)
      have e0 : addS σ w f t q 0 (σ 8 0) = w := by simp [addS_e]
      have e1 : addS σ w f t q 1 (σ 8 0) = f := by simp [addS_e]
      have e2 : addS σ w f t q 2 (σ 8 0) = t := by simp [addS_e]
      have e3 : addS σ w f t q 3 (σ 8 0) = q := by simp [addS_e]
      unfold cBox
      rw [addS_4, e0, e1, e2, e3, e6]
      rfl
    · rw [fw_up_i e, fw_up_i e, WC_5 (by omega)]
      unfold cBox
      have eo : ∀ b, b ≤ 6 → addS σ w f t q b d = σ b d := fun b hb => addS_o (by omega) (Or.inr e)
      rw [eo 0 (by decide), eo 1 (by decide), eo 2 (by decide), eo 3 (by decide), eo 4 (by decide), eo 5 (by decide), eo 6 (by decide)]
  · rw [fw_up_k (by omega), fw_up_k (by omega), fw_up_k (by omega), fw_up_k (by omega), WC_r hb]
end ADDC
/-- with the heap's size -/
def fs_Pre (D : va_G) (cl : List vw_C) (tys : List (ClassId × FieldType)) (z : Nat) (ad : fw_Ad) (w : fw_W) (sa : Nat → Nat) (n : Nat) : State → Prop := fun U => fx_Pre D cl tys z ad w sa U ∧ U.heap.size = n
theorem fs_blind {D : va_G} {cl : List vw_C} {tys : List (ClassId × FieldType)} {z : Nat} {ad : fw_Ad} {w : fw_W} {sa : Nat → Nat} {n : Nat} {av : List Value} : FrameBlind (va_Pc av (fs_Pre D cl tys z ad w sa n)) := by
  rintro a U g mk ⟨q0, q1, q2⟩
  have b1 := fx_blind (av := av) a U g mk ⟨q0, q1⟩
  exact ⟨b1.1, b1.2, q2⟩
section FS
variable {p : Program} {l : Launch} {e : Env} {R : Room} {s : State} {m : MethodId} {args : Array Value} {below : List Frame} {meth : Method} {c : Code} {H : Heap} {locs : List Loc} {cells slots : Nat} {Q : State → Prop}
variable {cc : ByteArray} {pc : Nat} {ls : Array Slot} {rest As stk : List Value} {D : va_G} {cl : List vw_C} {tys : List (ClassId × FieldType)} {z : Nat} {ad : fw_Ad} {w : fw_W} {sa : Nat → Nat} {b k : Nat}
variable {y : MethodName} {bytes : ByteArray} {maxL nL mc ms n nh index ci N : Nat} {ret : Option FieldType} {ws : List Cond} {rm : Room} {Ts : List Cond} {own C : String} {T : u_T} {fs : List Value}
theorem fs_cVi {post : Int32 → fw_W → Prop} {px : String → fw_W → Prop} (S : CallFix p m c cc nL s args Ts own) (hM : vx_Met l y ws rm (va_Pc (.ref (ad b k) :: As) (fs_Pre D cl tys z ad w sa nh)) (fw_Qi D cl z ad post) (fx_X D cl z ad px) mc ms (fw_A z)) (cw : CallW R s args own C index y bytes maxL ret ws rm mc ms n) (hrc : w b k = some (.inr (ci, fs))) (hc : cl[ci]? = some (C, T, N)) (hn : As.length = n) (hsize : ls.size = nL) (hW : (rest.map fun v => v.category).sum ≤ 8) (hdg : decode cc pc = .ok (.invokevirtual index, 3)) (hf : cells + mc ≤ R.cells ∧ slots + ms ≤ R.slots) (hK : va_K D cl tys s) (hnh : H.size = nh) (hE : tx_E z sa s s.heap) (hP : fw_P D cl z ad w H) (hS : va_S (fw_A z) s.heap H locs) (hstk : stk = As.reverse ++ .ref (ad b k) :: rest)
    (kx : ∀ (E : String) (ce : Cell) (q9 : Addr) (w' : fw_W) (H1 : Heap) (locs1 : List Loc), px E w' → fw_P D cl z ad w' H1 → va_S (fw_A z) s.heap H1 locs1 → H1[q9]? = some ce → ce.vm = .none → s.vm.findClass E = some ce.cls → vx_W p l e R s m args below meth c H1 locs1 (cells + mc) (slots + ms) Q (F0 m pc ls rest) q9)
    (kk : ∀ (r : Int32) (w' : fw_W) (H1 : Heap) (locs1 : List Loc), post r w' → fw_P D cl z ad w' H1 → va_S (fw_A z) s.heap H1 locs1 → W p l e R s m args below meth c H1 locs1 (cells + mc) (slots + ms) Q (F0 m (pc + 3) ls (.int r :: rest))) : W p l e R s m args below meth c H locs cells slots Q (F0 m pc ls stk) := by
  subst hstk
  exact vx_calli (vx_runV (As := As) (rest := rest) S hM cw ⟨fs_blind, va_recv hK (fw_one hP hrc) hc (q0 := 0) rfl, fun U hU hW => ⟨rfl, ⟨⟨by rw [hU]; exact hP, va_K.moved hW.alike hK⟩, by rw [hU]; exact (hE.kept hS).warm hW⟩, by rw [hU]; exact hnh⟩⟩ rfl hn hsize rfl (lv_room hW) hdg hf) hS (fun q _ h => h) (fun q h => h) (fun q _ h => h)
    (fun E ce q9 u t H1 locs1 ht hvm _ hB hz hk hS1 h1 h2 h3 => kx E ce q9 u H1 locs1 hB.1 (by rw [← ht]; exact hB.2) hS1 h1 h2 h3)
    (fun r u t H1 locs1 ht hvm hp hB hz hk hS1 => kk r u H1 locs1 hp (by rw [← ht]; exact hB) hS1)
end FS
