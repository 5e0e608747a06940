/-! ===== the law: both worlds, its calls ===== -/
def oW (cA : Nat → ClassId) (f : Nat → Int64) : fw_W := fun b j => if b = 15 ∧ j = 0 then some (.inl (cA 4, 1, .inr (.inl f))) else none
theorem oW_15 (cA : Nat → ClassId) (f : Nat → Int64) : oW cA f 15 0 = some (.inl (cA 4, 1, .inr (.inl f))) := if_pos ⟨rfl, rfl⟩
theorem WCM (cA : Nat → ClassId) (ad : fw_Ad) (σ τ : St) (th u a : Int) (ν : fw_W) : WC cA ad σ (WM cA ad τ th u a ν) = WM cA ad τ th u a (WC cA ad σ ν) := by
  funext b j
  by_cases h : 6 ≤ b
  · rw [WC_r h]
    by_cases h2 : 10 ≤ b ∧ b ≤ 14
    · rcases (by omega : b = 10 ∨ b = 11 ∨ b = 12 ∨ b = 13 ∨ b = 14) with rfl | rfl | rfl | rfl | rfl <;> rfl
    · have e : ∀ ν' : fw_W, WM cA ad τ th u a ν' b j = ν' b j := by
        intro ν'
        unfold WM
        split <;> first | omega | rfl
      rw [e, e, WC_r h]
  · rcases (by omega : b = 0 ∨ b = 1 ∨ b = 2 ∨ b = 3 ∨ b = 4 ∨ b = 5) with rfl | rfl | rfl | rfl | rfl | rfl <;> rfl
theorem WC_ad {cA : Nat → ClassId} {ad ad' : fw_Ad} {σ : St} {μ : fw_W} (h : ∀ b j, b ≤ 5 → (b = 5 → j < σ 8 0) → ad' b j = ad b j) : WC cA ad' σ μ = WC cA ad σ μ := by
  funext b j
  by_cases hb : 6 ≤ b
  · rw [WC_r hb, WC_r hb]
  · have h' : ∀ b j, b ≤ 4 → ad' b j = ad b j := fun b j hb => h b j (by omega) (fun e => by omega)
    rcases (by omega : b = 0 ∨ b = 1 ∨ b = 2 ∨ b = 3 ∨ b = 4 ∨ b = 5) with rfl | rfl | rfl | rfl | rfl | rfl
    · show (if j = 0 then some (cPlan ad' σ) else none) = if j = 0 then some (cPlan ad σ) else none
      unfold cPlan; rw [h' 1 0 (by decide), h' 2 0 (by decide)]
    · show (if j = 0 then some (cBoxes cA ad' σ) else none) = if j = 0 then some (cBoxes cA ad σ) else none
      unfold cBoxes
      rw [show (fun j => if j < σ 8 0 then some (ad' 5 j) else none) = fun j => if j < σ 8 0 then some (ad 5 j) else none from funext fun j => by
        by_cases e : j < σ 8 0
        · rw [if_pos e, if_pos e, h 5 j (by decide) (fun _ => e)]
        · rw [if_neg e, if_neg e]]
    · show (if j = 0 then some (cStacks cA ad') else none) = if j = 0 then some (cStacks cA ad) else none
      unfold cStacks
      rw [show (fun j => some (ad' 3 j)) = fun j => some (ad 3 j) from funext fun j => by rw [h' 3 j (by decide)]]
    · show (if j < 30 then some (cStack ad' σ j) else none) = if j < 30 then some (cStack ad σ j) else none
      unfold cStack; rw [h' 4 j (by decide)]
    · show (if j < 30 then some (cArr cA ad' σ j) else none) = if j < 30 then some (cArr cA ad σ j) else none
      unfold cArr
      rw [show (fun i => (occ σ j i).map (ad' 5)) = fun i => (occ σ j i).map (ad 5) from funext fun i => by
        cases ho : occ σ j i with
        | none => rfl
        | some c => show some (ad' 5 c) = some (ad 5 c); rw [h 5 c (by decide) (fun _ => (occ_some ho).1)]]
    · show (if j < σ 8 0 then some (cBox ad' σ j) else none) = if j < σ 8 0 then some (cBox ad σ j) else none
      unfold cBox; rw [h' 3 _ (by decide)]
theorem WM_ad {cA : Nat → ClassId} {ad ad' : fw_Ad} {σ : St} {th u a : Int} {μ : fw_W} (h : ∀ b, 11 ≤ b → b ≤ 14 → ad' b 0 = ad b 0) : WM cA ad' σ th u a μ = WM cA ad σ th u a μ := by
  have e : cMod ad' σ th u a = cMod ad σ th u a := by
    unfold cMod
    rw [h 11 (by decide) (by decide), h 12 (by decide) (by decide), h 13 (by decide) (by decide), h 14 (by decide) (by decide)]
  funext b j
  unfold WM
  rw [e]
/-- one name's address chosen anew, where no cell bears it -/
def adU (ad : fw_Ad) (a i q : Nat) : fw_Ad := fun b j => if b = a ∧ j = i then q else ad b j
theorem adU_same (ad : fw_Ad) (a i q : Nat) : adU ad a i q a i = q := if_pos ⟨rfl, rfl⟩
theorem adU_ne {ad : fw_Ad} {a i q b j : Nat} (h : ¬ (b = a ∧ j = i)) : adU ad a i q b j = ad b j := if_neg h
theorem fw_adU {D : va_G} {cl : List vw_C} {z : Nat} {ad : fw_Ad} {w : fw_W} {H : Heap} {a i : Nat} (q : Nat) (h : fw_P D cl z ad w H) (hfree : w a i = none) : fw_P D cl z (adU ad a i q) w H :=
  fw_less h (fun _ _ _ h => h) (fun b j x hx => adU_ne (fun hbj => by
    obtain ⟨rfl, rfl⟩ := hbj
    rw [hfree] at hx
    cases hx))
section LCALL
variable {p : Program} {l : Launch} {e : Env} {R : Room} {s : State} {m : MethodId} {args : Array Value} {below : List Frame} {meth : Method} {c : Code} {H : Heap} {locs : List Loc} {cells slots : Nat} {Q : State → Prop}
variable {cc : ByteArray} {pc : Nat} {ls : Array Slot} {rest As stk : List Value} {D : va_G} {cl : List vw_C} {tys : List (ClassId × FieldType)} {z : Nat} {ad : fw_Ad} {w : fw_W} {sa : Nat → Nat}
variable {y : MethodName} {bytes : ByteArray} {maxL nL mc ms n nh index : Nat} {ret : Option FieldType} {ws : List Cond} {rm : Room} {Ts : List Cond} {own : String} {hh : List (Nat × Nat × Nat × Nat)}
/-- a helper of the law: it never throws -/
theorem fh_cSi {post : Int32 → fw_W → Prop} (S : CallFix p m c cc nL s args Ts own) (hM : vx_Met l y ws rm (va_Pc As (fx_Pre D cl tys z ad w sa)) (fw_Qi D cl z ad post) (fun _ _ _ => False) mc ms (fw_A z)) (cw : vx_CSW R s args own index y bytes maxL ret hh ws rm mc ms n) (hn : As.length = n) (hsize : ls.size = nL) (hW : (rest.map fun v => v.category).sum ≤ 8) (hdg : decode cc pc = .ok (.invokestatic index, 3)) (hf : cells + mc ≤ R.cells ∧ slots + ms ≤ R.slots) (hK : va_K D cl tys s) (hE : tx_E z sa s s.heap) (hP : fw_P D cl z ad w H) (hS : va_S (fw_A z) s.heap H locs) (hstk : stk = As.reverse ++ rest)
    (kk : ∀ (r : Int32) (w' : fw_W) (H1 : Heap) (locs1 : List Loc), post r w' → fw_P D cl z ad w' H1 → va_S (fw_A z) s.heap H1 locs1 → W p l e R s m args below meth c H1 locs1 (cells + mc) (slots + ms) Q (F0 m (pc + 3) ls (.int r :: rest))) : W p l e R s m args below meth c H locs cells slots Q (F0 m pc ls stk) := by
  subst hstk
  intro T hT X
  rcases vx_runSX (As := As) (rest := rest) (g := F0 m pc ls (As.reverse ++ rest)) S hM cw ⟨fx_blind, fun U hU hW => ⟨rfl, ⟨by rw [hU]; exact hP, va_K.moved hW.alike hK⟩, by rw [hU]; exact (hE.kept hS).warm hW⟩⟩ rfl hn hsize rfl (lv_room hW) hdg hf T hT X with ⟨v, st₀, t, T', L, h0, X', hL, e1, e2, ⟨⟨r, w', hv, hp, hb⟩, hF⟩, st⟩ | ⟨q, st₀, t, T', L, E, ce, h0, X', hL, e1, e2, hfalse, -⟩
  · cases hv
    obtain ⟨k1, k2, k3⟩ := vx_keep h0 e1 hS (fun q _ h => h) (fun q h => h) hL hF
    obtain ⟨t2, a1, b1⟩ := kk r w' T'.heap (locs ++ L) hp (by rw [e1]; exact hb) k3 T' rfl X'
    exact ⟨t2, st t2 a1, b1⟩
  · exact hfalse.elim
theorem fh_cSs {post : Int32 → fw_W → Prop} (S : CallFix p m c cc nL s args Ts own) (hM : vx_Met l y ws rm (va_Pc As (fs_Pre D cl tys z ad w sa nh)) (fw_Qi D cl z ad post) (fun _ _ _ => False) mc ms (fw_A z)) (cw : vx_CSW R s args own index y bytes maxL ret hh ws rm mc ms n) (hn : As.length = n) (hsize : ls.size = nL) (hW : (rest.map fun v => v.category).sum ≤ 8) (hdg : decode cc pc = .ok (.invokestatic index, 3)) (hf : cells + mc ≤ R.cells ∧ slots + ms ≤ R.slots) (hK : va_K D cl tys s) (hnh : H.size = nh) (hE : tx_E z sa s s.heap) (hP : fw_P D cl z ad w H) (hS : va_S (fw_A z) s.heap H locs) (hstk : stk = As.reverse ++ rest)
    (kk : ∀ (r : Int32) (w' : fw_W) (H1 : Heap) (locs1 : List Loc), post r w' → fw_P D cl z ad w' H1 → va_S (fw_A z) s.heap H1 locs1 → W p l e R s m args below meth c H1 locs1 (cells + mc) (slots + ms) Q (F0 m (pc + 3) ls (.int r :: rest))) : W p l e R s m args below meth c H locs cells slots Q (F0 m pc ls stk) := by
  subst hstk
  intro T hT X
  rcases vx_runSX (As := As) (rest := rest) (g := F0 m pc ls (As.reverse ++ rest)) S hM cw ⟨fs_blind, fun U hU hW => ⟨rfl, ⟨⟨by rw [hU]; exact hP, va_K.moved hW.alike hK⟩, by rw [hU]; exact (hE.kept hS).warm hW⟩, by rw [hU]; exact hnh⟩⟩ rfl hn hsize rfl (lv_room hW) hdg hf T hT X with ⟨v, st₀, t, T', L, h0, X', hL, e1, e2, ⟨⟨r, w', hv, hp, hb⟩, hF⟩, st⟩ | ⟨q, st₀, t, T', L, E, ce, h0, X', hL, e1, e2, hfalse, -⟩
  · cases hv
    obtain ⟨k1, k2, k3⟩ := vx_keep h0 e1 hS (fun q _ h => h) (fun q h => h) hL hF
    obtain ⟨t2, a1, b1⟩ := kk r w' T'.heap (locs ++ L) hp (by rw [e1]; exact hb) k3 T' rfl X'
    exact ⟨t2, st t2 a1, b1⟩
  · exact hfalse.elim
/-- an int of the script -/
theorem ls_ld {b L : Nat} {xs : Nat → Int32} (hexec : p.tables.exec = Jvm.exec) (hb : c.code = cc) (hX : va_X b L xs s s.heap) (hbl : b < s.heap.size) (hS : va_S (fw_A s.heap.size) s.heap H locs) {j : Nat} (hj : j < L) (hL : L ≤ 2560) (hdg : decode cc pc = .ok (.iaload, 1))
    (kk : W p l e R s m args below meth c H locs cells slots Q (F0 m (pc + 1) ls (.int (iI ((xs j).toInt)) :: rest))) : W p l e R s m args below meth c H locs cells slots Q (F0 m pc ls (.int (iI (j : Int)) :: .ref b :: rest)) := by
  refine va_sld hexec hb hX hbl (fun h => by have : s.heap.size ≤ b := h; omega) hS (iI_in hj (by omega)) hdg ?_
  rw [iI_idx (by omega), iI_of (xs j)]
  exact kk
end LCALL
