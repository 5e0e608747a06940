/-! ===== landing in the class's cells: all but the stack's own cell ===== -/
section WLS
variable {cA : Nat → ClassId} {ad : fw_Ad} {τ : St} {μ : fw_W} {D : va_G} {cl : List vw_C} {z : Nat} {H : Heap}
theorem WS_ext {w : fw_W} {s : Nat} {x : va_E} (h0 : w 0 0 = some (cPlan ad τ)) (h1 : w 1 0 = some (cBoxes cA ad τ)) (h2 : w 2 0 = some (cStacks cA ad)) (h3 : ∀ k, k < 30 → k ≠ s → w 3 k = some (cStack ad τ k)) (hx : w 3 s = some x) (h4 : ∀ k, k < 30 → w 4 k = some (cArr cA ad τ k)) (h5 : ∀ c, c < τ 8 0 → w 5 c = some (cBox ad τ c)) (hr : ∀ b j, 6 ≤ b → w b j = μ b j) (hP : fw_P D cl z ad w H) : fw_P D cl z ad (fw_up (WC cA ad τ μ) 3 s x) H := by
  refine fw_less hP (fun b j y hy => ?_) (fun _ _ _ _ => rfl)
  by_cases e : b = 3 ∧ j = s
  · obtain ⟨rfl, rfl⟩ := e
    rw [fw_up_same] at hy
    rw [hx]; exact hy
  · rw [fw_up_ne e] at hy
    unfold WC at hy
    split at hy
    · split at hy
      · rename_i e; subst e; rw [h0]; exact hy
      · cases hy
    · split at hy
      · rename_i e; subst e; rw [h1]; exact hy
      · cases hy
    · split at hy
      · rename_i e; subst e; rw [h2]; exact hy
      · cases hy
    · split at hy
      · rename_i g; rw [h3 _ g (fun q => e ⟨rfl, q⟩)]; exact hy
      · cases hy
    · split at hy
      · rename_i e; rw [h4 _ e]; exact hy
      · cases hy
    · split at hy
      · rename_i e; rw [h5 _ e]; exact hy
      · cases hy
    · rename_i n0 n1 n2 n3 n4 n5
      rw [hr _ _ (by rcases (show b = 0 ∨ b = 1 ∨ b = 2 ∨ b = 3 ∨ b = 4 ∨ b = 5 ∨ 6 ≤ b by omega) with q | q | q | q | q | q | q <;> first | exact absurd q (by assumption) | exact q)]
      exact hy
theorem high_gone {c s v : Nat} (h5 : τ 5 c = s) {k : Nat} (hk : k ≠ s) : high (up τ 4 c v) k = high τ k := by
  unfold high
  rw [up_k (by decide)]
  refine sumN_congr (fun i hi => ?_)
  by_cases e : i = c
  · subst e
    rw [if_neg (fun q => hk (by have := (isOn_t.mp q).2; rw [up_k (by decide)] at this; exact this.symm.trans h5)), if_neg (fun q => hk ((isOn_t.mp q).2.symm.trans h5))]
  · unfold isOn; rw [up_i e, up_k (by decide)]
theorem high_mv {c l : Nat} (k : Nat) : high (up τ 6 c l) k = high τ k := by
  unfold high
  rw [up_k (by decide)]
  refine sumN_congr (fun i hi => ?_)
  unfold isOn
  rw [up_k (by decide), up_k (by decide)]
theorem arr_none {s j : Nat} (ho : occ τ s j = none) : va_up (fun j => (occ τ s j).map (ad 5)) j none = fun j => (occ τ s j).map (ad 5) := by
  funext t
  unfold va_up
  by_cases e : t = j
  · subst e; rw [if_pos rfl, ho]; rfl
  · rw [if_neg e]
theorem wL_n {s j : Nat} {x : va_E} (hs : s < 30) (ho : occ τ s j = none)
    (h : fw_P D cl z ad (fw_up (fw_up (WC cA ad τ μ) 3 s x) 4 s (.inl (cA 2, 4, .inr (.inr (.inr (.inr (va_up (fun j => (occ τ s j).map (ad 5)) j none))))))) H) : fw_P D cl z ad (fw_up (WC cA ad τ μ) 3 s x) H := by
  refine fw_eq h (fun b t => ?_)
  by_cases e : b = 4 ∧ t = s
  · obtain ⟨rfl, rfl⟩ := e
    rw [fw_up_same, fw_up_k (by decide), WC_4 hs, arr_none ho]
    rfl
  · rw [fw_up_ne e]
theorem wL_gone (hU : Uq τ) {c s j : Nat} {x x2 : va_E} (hs : s < 30) (ho : occ τ s j = some c)
    (h : fw_P D cl z ad (fw_up (fw_up (fw_up (fw_up (WC cA ad τ μ) 3 s x) 4 s (.inl (cA 2, 4, .inr (.inr (.inr (.inr (va_up (fun j => (occ τ s j).map (ad 5)) j none))))))) 5 c x2) 5 c (.inr (0, [.int (iI ((c : Nat) : Int)), .int (iI ((τ 0 c : Nat) : Int)), .int (iI ((τ 1 c : Nat) : Int)), .int (iI ((τ 2 c : Nat) : Int)), .int (iI ((τ 3 c : Nat) : Int)), .int (iI ((1 : Nat) : Int)), .null, .int (iI ((τ 6 c : Nat) : Int))]))) H) : fw_P D cl z ad (fw_up (WC cA ad (up τ 4 c 2) μ) 3 s x) H := by
  obtain ⟨o1, o2, o3, o4⟩ := occ_some ho
  refine WS_ext ?_ ?_ ?_ (fun k hk hne => ?_) ?_ (fun k hk => ?_) (fun d hd => ?_) (fun b j hb => ?_) h
  · rw [fw_up_k (by decide), fw_up_k (by decide), fw_up_k (by decide), fw_up_k (by decide), WC_0]
    unfold cPlan
    simp only [up_k (σ := τ) (a := 4) (i := c) (v := 2) (b := 8) (by decide)]
  · rw [fw_up_k (by decide), fw_up_k (by decide), fw_up_k (by decide), fw_up_k (by decide), WC_1]
    unfold cBoxes
    rw [up_k (by decide)]
  · rw [fw_up_k (by decide), fw_up_k (by decide), fw_up_k (by decide), fw_up_k (by decide), WC_2]
  · rw [fw_up_k (by decide), fw_up_k (by decide), fw_up_k (by decide), fw_up_i hne, WC_3 hk]
    unfold cStack
    rw [high_gone o3 hne, up_k (by decide)]
  · rw [fw_up_k (by decide), fw_up_k (by decide), fw_up_k (by decide), fw_up_same]
  · rw [fw_up_k (by decide), fw_up_k (by decide)]
    unfold cArr
    by_cases e : k = s
    · subst e
      rw [fw_up_same]
      congr 8
      funext t
      rw [occ_gone hU (by decide) o1 o2 o3]
      unfold va_up
      by_cases g : t = j
      · rw [if_pos g, if_pos ⟨rfl, g.trans o4.symm⟩]; rfl
      · rw [if_neg g, if_neg (fun q => g (q.2.trans o4))]
    · rw [fw_up_i e, fw_up_k (by decide), WC_4 hk]
      unfold cArr
      congr 8
      funext t
      rw [occ_gone hU (by decide) o1 o2 o3, if_neg (fun q => e q.1)]
  · rw [up_k (by decide)] at hd
    unfold cBox
    rw [up_k (b := 0) (by decide), up_k (b := 1) (by decide), up_k (b := 2) (by decide), up_k (b := 3) (by decide), up_k (b := 5) (by decide), up_k (b := 6) (by decide)]
    by_cases e : d = c
    · subst e
      rw [fw_up_same, up_same]
      rfl
    · rw [fw_up_i e, fw_up_i e, fw_up_k (by decide), fw_up_k (by decide), WC_5 hd, up_i e]
      rfl
  · rw [fw_up_k (by omega), fw_up_k (by omega), fw_up_k (by omega), fw_up_k (by omega), WC_r hb]
theorem wL_push (hU : Uq τ) {c s j l : Nat} {x x' x2 x4 : va_E} (hs : s < 30) (ho : occ τ s j = some c) (hl : occ τ s l = none ∨ l = j)
    (h : fw_P D cl z ad (fw_up (fw_up (fw_up (fw_up (fw_up (fw_up (WC cA ad τ μ) 3 s x) 4 s x4) 4 s (.inl (cA 2, 4, .inr (.inr (.inr (.inr (va_up (va_up (fun j => (occ τ s j).map (ad 5)) j none) l (some (ad 5 c))))))))) 5 c x2) 5 c (.inr (0, [.int (iI ((c : Nat) : Int)), .int (iI ((τ 0 c : Nat) : Int)), .int (iI ((τ 1 c : Nat) : Int)), .int (iI ((τ 2 c : Nat) : Int)), .int (iI ((τ 3 c : Nat) : Int)), .int (iI (bI (decide (τ 4 c = 2)))), .ref (ad 3 s), .int (iI ((l : Nat) : Int))]))) 3 s x') H) : fw_P D cl z ad (fw_up (WC cA ad (up τ 6 c l) μ) 3 s x') H := by
  obtain ⟨o1, o2, o3, o4⟩ := occ_some ho
  rw [← o4] at hl
  refine WS_ext ?_ ?_ ?_ (fun k hk hne => ?_) ?_ (fun k hk => ?_) (fun d hd => ?_) (fun b j hb => ?_) h
  · rw [fw_up_k (by decide), fw_up_k (by decide), fw_up_k (by decide), fw_up_k (by decide), fw_up_k (by decide), fw_up_k (by decide), WC_0]
    unfold cPlan
    simp only [up_k (σ := τ) (a := 6) (i := c) (v := l) (b := 8) (by decide)]
  · rw [fw_up_k (by decide), fw_up_k (by decide), fw_up_k (by decide), fw_up_k (by decide), fw_up_k (by decide), fw_up_k (by decide), WC_1]
    unfold cBoxes
    rw [up_k (by decide)]
  · rw [fw_up_k (by decide), fw_up_k (by decide), fw_up_k (by decide), fw_up_k (by decide), fw_up_k (by decide), fw_up_k (by decide), WC_2]
  · rw [fw_up_i hne, fw_up_k (by decide), fw_up_k (by decide), fw_up_k (by decide), fw_up_k (by decide), fw_up_i hne, WC_3 hk]
    unfold cStack
    rw [high_mv, up_k (by decide)]
  · rw [fw_up_same]
  · rw [fw_up_k (by decide), fw_up_k (by decide), fw_up_k (by decide)]
    unfold cArr
    by_cases e : k = s
    · subst e
      rw [fw_up_same]
      congr 8
      funext t
      rw [occ_moved hU o1 o2 o3 hl]
      unfold va_up
      by_cases g : t = l
      · rw [if_pos g, if_pos ⟨rfl, g⟩]; rfl
      · have e1 : ¬ (k = k ∧ t = l) := fun q => g q.2
        rw [if_neg e1, if_neg g]
        by_cases g' : t = j
        · have e2 : k = k ∧ t = τ 6 c := ⟨rfl, g'.trans o4.symm⟩
          rw [if_pos e2, if_pos g']; rfl
        · have e2 : ¬ (k = k ∧ t = τ 6 c) := fun q => g' (q.2.trans o4)
          rw [if_neg e2, if_neg g']
    · rw [fw_up_i e, fw_up_i e, fw_up_k (by decide), WC_4 hk]
      unfold cArr
      congr 8
      funext t
      rw [occ_moved hU o1 o2 o3 hl, if_neg (fun q => e q.1), if_neg (fun q => e q.1)]
  · rw [up_k (by decide)] at hd
    rw [fw_up_k (by decide)]
    unfold cBox
    rw [up_k (b := 0) (by decide), up_k (b := 1) (by decide), up_k (b := 2) (by decide), up_k (b := 3) (by decide), up_k (b := 4) (by decide), up_k (b := 5) (by decide)]
    by_cases e : d = c
    · subst e
      rw [fw_up_same, up_same, if_pos o2, o3]
      rfl
    · rw [fw_up_i e, fw_up_i e, fw_up_k (by decide), fw_up_k (by decide), fw_up_k (by decide), WC_5 hd, up_i e]
      rfl
  · rw [fw_up_k (by omega), fw_up_k (by omega), fw_up_k (by omega), fw_up_k (by omega), fw_up_k (by omega), fw_up_k (by omega), WC_r hb]
theorem wL_end {σ : St} (hI : Inv σ) {s p : Nat} (hs : s < 30) (h : fw_P D cl z ad (fw_up (WC cA ad (ldS σ s p 4) μ) 3 s (.inr (1, [.int (iI ((s / 5 : Nat) : Int)), .int (iI ((s % 5 : Nat) : Int)), .ref (ad 4 s), .int (iI ((cu σ s p 4 : Nat) : Int)), .int (iI ((σ 7 s : Nat) : Int))]))) H) : fw_P D cl z ad (WC cA ad (ldS σ s p 4) μ) H := by
  refine fw_eq h (fun b j => ?_)
  by_cases e : b = 3 ∧ j = s
  · obtain ⟨rfl, rfl⟩ := e
    rw [fw_up_same, WC_3 hs]
    unfold cStack
    rw [high_land hI, if_pos rfl, ldS_o (by decide)]
  · rw [fw_up_ne e]
end WLS
