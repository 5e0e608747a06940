section COPY
variable {p : Program} {l : Launch} {e : Env} {R : Room} {s : State} {m : MethodId} {args : Array Value} {below : List Frame} {meth : Method} {c : Code} {H : Heap} {locs : List Loc} {cells slots : Nat} {Q : State → Prop}
variable {cc : ByteArray} {pc : Nat} {ls : Array Slot} {rest : List Value} {D : va_G} {cl : List vw_C} {tys : List (ClassId × FieldType)} {H0 : Heap} {z : Nat} {ad : fw_Ad} {w : fw_W} {a0 i0 a1 i1 : Nat}
theorem fw_copyi (hexec : p.tables.exec = Jvm.exec) (hb : c.code = cc) (hml : c.maxLocals = ls.size) {own : String} {index : Nat} (hown : s.vm.findClass own = some m.cls) (hlink : (Cond.methodLink own index arraycopyName).before args s = true) (hnat : (Cond.native arraycopyName).before args s = true) (hstat : (Cond.static arraycopyName).before args s = true) (hini : (Cond.initialized "java/lang/System").before args s = true)
    (hK : va_K D cl tys s) (hP : fw_P D cl z ad w H) (hS : va_S (fw_A z) H0 H locs) (t0 : Nat) {cA : ClassId} {n0 n1 : Nat} {f g : Nat → Int32} (he0 : w a0 i0 = some (.inl (cA, n0, .inl f))) (he1 : w a1 i1 = some (.inl (cA, n1, .inl g))) (ht : tys[t0]? = some (cA, .int))
    {dp n : Nat} (h4 : n ≤ n0) (h5 : dp + n ≤ n1) (hb1 : dp < 2147483648) (hb2 : n < 2147483648) (hframes : 1 ≤ R.frames) (hlocals : (rest.map fun v => v.category).sum + (nativeFrameWords "java/lang/System" "arraycopy" 5 + 11) ≤ R.locals) (hdg : decode cc pc = .ok (.invokestatic index, 3))
    (kk : ∀ (H1 : Heap) (locs1 : List Loc), fw_P D cl z ad (fw_up w a1 i1 (.inl (cA, n1, .inl (va_cpy f g 0 dp n)))) H1 → va_S (fw_A z) H0 H1 locs1 → W p l e R s m args below meth c H1 locs1 cells slots Q (F0 m (pc + 3) ls rest)) : W p l e R s m args below meth c H locs cells slots Q (F0 m pc ls (.int (iI (n : Int)) :: .int (iI (dp : Int)) :: .ref (ad a1 i1) :: .int (iI ((0 : Nat) : Int)) :: .ref (ad a0 i0) :: rest)) := by
  obtain ⟨ws, hP', hD, hf⟩ := fw_list hP
  obtain ⟨q0, hq0⟩ := hf _ _ _ he0
  obtain ⟨q1, hq1⟩ := hf _ _ _ he1
  refine va_copyi hexec hb hml hown hlink hnat hstat hini hK hP' hD hS q0 q1 t0 t0 hq0 hq1 ht ht rfl (iI_nn (by decide)) (iI_nn hb1) (iI_nn hb2) (by rw [iI_idx (by decide), iI_idx hb2]; omega) (by rw [iI_idx hb1, iI_idx hb2]; exact h5) (fun _ _ => rfl) hframes hlocals hdg (fun H1 l1 h1 h2 h3 => ?_)
  rw [iI_idx (by decide), iI_idx hb1, iI_idx hb2] at h1
  exact kk H1 l1 (fw_back hP hf he1 hq1 h1) h3
end COPY
def tab5 (σ : St) (w f t q : Nat) : St := up (up (up (up (up σ 0 (σ 8 0) w) 1 (σ 8 0) f) 2 (σ 8 0) t) 3 (σ 8 0) q) 4 (σ 8 0) 0
section ADDM
variable {D : va_G} {cl : List vw_C} {z : Nat} {cA : Nat → ClassId} {ad : fw_Ad} {H : Heap} {σ : St} {μ : fw_W} {th u a : Int}
theorem WM_tab5 {w f t q : Nat} : WM cA ad (tab5 σ w f t q) th u a μ = fw_up (WM cA ad σ th u a μ) 11 0 (cTab cA (tab5 σ w f t q)) := by
  have st : ∀ (τ : St) (b c v : Nat), b < 5 → WM cA ad (up τ b c v) th u a μ = fw_up (WM cA ad τ th u a μ) 11 0 (cTab cA (up τ b c v)) := fun τ b c v hb => funext fun x => funext fun y => WM_tab hb x y
  unfold tab5
  rw [st _ 4 _ _ (by decide), st _ 3 _ _ (by decide), st _ 2 _ _ (by decide), st _ 1 _ _ (by decide), st _ 0 _ _ (by decide), fw_up_up, fw_up_up, fw_up_up, fw_up_up]
theorem cpy5 {w f t q : Nat} : (.inl (cA 0, 200, .inl (va_cpy (upd (upd (upd (upd (upd (fun _ => 0) 0 (iI ((w : Nat) : Int))) 1 (iI ((f : Nat) : Int))) 2 (iI ((t : Nat) : Int))) 3 (iI ((q : Nat) : Int))) 4 (iI ((0 : Nat) : Int))) (fun j => iI ((σ (j % 5) (j / 5) : Nat) : Int)) 0 (5 * σ 8 0) 5)) : va_E) = cTab cA (tab5 σ w f t q) := by
  unfold cTab
  congr 4
  funext j
  unfold va_cpy
  have hd := Nat.div_add_mod j 5
  have hm := Nat.mod_lt j (show 0 < 5 by decide)
  by_cases h : 5 * σ 8 0 ≤ j ∧ j < 5 * σ 8 0 + 5
  · rw [if_pos h]
    have e1 : j / 5 = σ 8 0 := by omega
    have e2 : 0 + (j - 5 * σ 8 0) = j % 5 := by omega
    rw [e1, e2]
    rcases (by omega : j % 5 = 0 ∨ j % 5 = 1 ∨ j % 5 = 2 ∨ j % 5 = 3 ∨ j % 5 = 4) with e | e | e | e | e <;> rw [e] <;> simp [upd, tab5, up]
  · rw [if_neg h]
    have e1 : j / 5 ≠ σ 8 0 := by omega
    have : tab5 σ w f t q (j % 5) (j / 5) = σ (j % 5) (j / 5) := by simp [tab5, up, e1]
    rw [this]
theorem wM_add {w f t q : Nat} {W0 : fw_W} {x0 : va_E} (hW : ∀ b j, ¬ (b = 16 ∧ j = 0) → W0 b j = WM cA ad σ th u a μ b j) (h16 : μ 16 0 = none) (e : x0 = cTab cA (tab5 σ w f t q)) (h : fw_P D cl z ad (fw_up W0 11 0 x0) H) : fw_P D cl z ad (WM cA ad (tab5 σ w f t q) th u a μ) H := by
  subst e
  refine fw_less h (fun b j x hx => ?_) (fun _ _ _ _ => rfl)
  rw [WM_tab5] at hx
  by_cases h1 : b = 11 ∧ j = 0
  · obtain ⟨rfl, rfl⟩ := h1
    rw [fw_up_same] at hx ⊢
    exact hx
  · rw [fw_up_ne h1] at hx ⊢
    by_cases h2 : b = 16 ∧ j = 0
    · obtain ⟨rfl, rfl⟩ := h2
      have h3 : WM cA ad σ th u a μ 16 0 = none := h16
      rw [h3] at hx
      cases hx
    · rw [hW b j h2]; exact hx
end ADDM
