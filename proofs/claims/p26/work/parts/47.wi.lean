/-! ===== the plan when new ===== -/
def σ0 : St := fun b j => if b = 7 then (if 10 ≤ j ∧ j < 20 then 1 else 0) else if b = 8 then (if j = 1 then 60 else if j = 2 then 60 else if j = 3 then 200 else 0) else 0
def WI (cA : Nat → ClassId) (ad : fw_Ad) (k : Nat) : fw_W := fun b j => match b with
  | 0 => if j = 0 then some (cPlan ad σ0) else none
  | 1 => if j = 0 then some (.inl (cA 2, 40, .inr (.inr (.inr (.inr (fun _ => none)))))) else none
  | 2 => if j = 0 then some (.inl (cA 3, 30, .inr (.inr (.inr (.inr (fun j => if j < k then some (ad 3 j) else none)))))) else none
  | 3 => if j < k then some (cStack ad σ0 j) else none
  | 4 => if j < k then some (.inl (cA 2, 4, .inr (.inr (.inr (.inr (fun _ => none)))))) else none
  | _ => none
section WISEC
variable {D : va_G} {cl : List vw_C} {z : Nat} {cA : Nat → ClassId} {ad : fw_Ad} {H : Heap} {w : fw_W} {k : Nat}
theorem WI_0 : WI cA ad k 0 0 = some (cPlan ad σ0) := rfl
theorem WI_1 : WI cA ad k 1 0 = some (.inl (cA 2, 40, .inr (.inr (.inr (.inr (fun _ => none)))))) := rfl
theorem WI_2 : WI cA ad k 2 0 = some (.inl (cA 3, 30, .inr (.inr (.inr (.inr (fun j => if j < k then some (ad 3 j) else none)))))) := rfl
theorem WI_3 {j : Nat} (h : j < k) : WI cA ad k 3 j = some (cStack ad σ0 j) := if_pos h
theorem WI_4 {j : Nat} (h : j < k) : WI cA ad k 4 j = some (.inl (cA 2, 4, .inr (.inr (.inr (.inr (fun _ => none)))))) := if_pos h
theorem WI_n3 {j : Nat} (h : k ≤ j) : WI cA ad k 3 j = none := if_neg (by omega)
theorem WI_n4 {j : Nat} (h : k ≤ j) : WI cA ad k 4 j = none := if_neg (by omega)
theorem WI_ext (h0 : w 0 0 = some (cPlan ad σ0)) (h1 : w 1 0 = some (.inl (cA 2, 40, .inr (.inr (.inr (.inr (fun _ => none))))))) (h2 : w 2 0 = some (.inl (cA 3, 30, .inr (.inr (.inr (.inr (fun j => if j < k then some (ad 3 j) else none)))))))
    (h3 : ∀ j, j < k → w 3 j = some (cStack ad σ0 j)) (h4 : ∀ j, j < k → w 4 j = some (.inl (cA 2, 4, .inr (.inr (.inr (.inr (fun _ => none))))))) (hP : fw_P D cl z ad w H) : fw_P D cl z ad (WI cA ad k) H := by
  refine fw_less hP (fun b j x hx => ?_) (fun _ _ _ _ => rfl)
  unfold WI at hx
  split at hx
  · split at hx
    · rename_i e; subst e; rw [h0]; exact hx
    · cases hx
  · split at hx
    · rename_i e; subst e; rw [h1]; exact hx
    · cases hx
  · split at hx
    · rename_i e; subst e; rw [h2]; exact hx
    · cases hx
  · split at hx
    · rename_i e; rw [h3 _ e]; exact hx
    · cases hx
  · split at hx
    · rename_i e; rw [h4 _ e]; exact hx
    · cases hx
  · cases hx
theorem WI_step {g : Bool} {x0 : va_E} (hg : bN g = σ0 7 k)
    (hP : fw_P D cl z ad (fw_up (fw_up (fw_up (fw_up (WI cA ad k) 3 k x0) 4 k (.inl (cA 2, 4, .inr (.inr (.inr (.inr (fun _ => none))))))) 3 k (.inr (1, [.int (iI ((k / 5 : Nat) : Int)), .int (iI ((k % 5 : Nat) : Int)), .ref (ad 4 k), .int (iI ((0 : Nat) : Int)), .int (iI (bI g))]))) 2 0 (.inl (cA 3, 30, .inr (.inr (.inr (.inr (va_up (fun j => if j < k then some (ad 3 j) else none) k (some (ad 3 k))))))))) H) : fw_P D cl z ad (WI cA ad (k + 1)) H := by
  refine WI_ext ?_ ?_ ?_ (fun j hj => ?_) (fun j hj => ?_) hP
  · rw [fw_up_k (by decide), fw_up_k (by decide), fw_up_k (by decide), fw_up_k (by decide)]; exact WI_0
  · rw [fw_up_k (by decide), fw_up_k (by decide), fw_up_k (by decide), fw_up_k (by decide)]; exact WI_1
  · rw [fw_up_same]
    have : va_up (fun j => if j < k then some (ad 3 j) else none) k (some (ad 3 k)) = fun j => if j < k + 1 then some (ad 3 j) else none := by
      funext j
      unfold va_up
      by_cases e : j = k
      · subst e; simp
      · by_cases e2 : j < k
        · simp [e, e2, show j < k + 1 from by omega]
        · simp [e, e2, show ¬ j < k + 1 from by omega]
    rw [this]
  · rw [fw_up_k (by decide)]
    by_cases e : j = k
    · subst e
      rw [fw_up_same]
      unfold cStack
      rw [← hg, show high σ0 j = 0 from rfl, bI_bN]
    · rw [fw_up_i e, fw_up_k (by decide), fw_up_i e]; exact WI_3 (by omega)
  · rw [fw_up_k (by decide), fw_up_k (by decide)]
    by_cases e : j = k
    · subst e; rw [fw_up_same]
    · rw [fw_up_i e, fw_up_k (by decide)]; exact WI_4 (by omega)
theorem WI_ext0 (h0 : w 0 0 = some (cPlan ad σ0)) (h1 : w 1 0 = some (.inl (cA 2, 40, .inr (.inr (.inr (.inr (fun _ => none))))))) (h2 : w 2 0 = some (.inl (cA 3, 30, .inr (.inr (.inr (.inr (fun _ => none))))))) (hP : fw_P D cl z ad w H) : fw_P D cl z ad (WI cA ad 0) H := by
  refine WI_ext h0 h1 ?_ (fun j hj => absurd hj (by omega)) (fun j hj => absurd hj (by omega)) hP
  rw [h2, show (fun j => if j < 0 then some (ad 3 j) else none) = fun _ => none from funext fun j => if_neg (Nat.not_lt_zero j)]
theorem WI_l2 {x0 x1 x2 : va_E} : fw_up (fw_up (fw_up (WI cA ad k) 3 k x0) 4 k x1) 3 k x2 2 0 = some (.inl (cA 3, 30, .inr (.inr (.inr (.inr (fun j => if j < k then some (ad 3 j) else none)))))) := by
  rw [fw_up_k (by decide), fw_up_k (by decide), fw_up_k (by decide)]; exact WI_2
theorem WI_size {n : Nat} (h2 : ad 2 0 = n + 1) (h4 : ∀ j, j < 30 → ad 4 j = n + 3 + 2 * j) (hk : k ≤ 30) (hP : fw_P D cl z ad (WI cA ad k) H) : n + 2 + 2 * k ≤ H.size := by
  cases k with
  | zero => have := fw_lt hP WI_2; omega
  | succ j =>
    have := fw_lt hP (WI_4 (j := j) (by omega))
    have := h4 j (by omega)
    omega
theorem fw_arr {a i c n : Nat} {f g : Nat → Option Nat} (h : fw_P D cl z ad w H) (he : w a i = some (.inl (c, n, .inr (.inr (.inr (.inr f)))))) (hfg : ∀ j, j < n → f j = g j) : fw_P D cl z ad (fw_up w a i (.inl (c, n, .inr (.inr (.inr (.inr g)))))) H := by
  refine ⟨fun b j y hy => ?_, fun b j y b' j' y' hy hy' heq => ?_⟩
  · by_cases hbj : b = a ∧ j = i
    · obtain ⟨rfl, rfl⟩ := hbj
      rw [fw_up_same] at hy
      cases hy
      refine ⟨?_, (h.1 _ _ _ he).2⟩
      have := (h.1 _ _ _ he).1
      have e : arrV c n (fun j => va_rf (f j)) = arrV c n (fun j => va_rf (g j)) := by
        unfold arrV
        rw [show (fun j : Fin n => va_rf (f j.val)) = fun j : Fin n => va_rf (g j.val) from funext fun j => by rw [hfg j.val j.isLt]]
      show H[ad b j]? = some (arrV c n (fun j => va_rf (g j)))
      rw [← e]; exact this
    · rw [fw_up_ne hbj] at hy
      exact h.1 _ _ _ hy
  · have live : ∀ b j y, fw_up w a i (.inl (c, n, .inr (.inr (.inr (.inr g))))) b j = some y → ∃ y', w b j = some y' := by
      intro b j y hy
      by_cases hbj : b = a ∧ j = i
      · obtain ⟨rfl, rfl⟩ := hbj
        exact ⟨_, he⟩
      · rw [fw_up_ne hbj] at hy
        exact ⟨_, hy⟩
    obtain ⟨u, hu⟩ := live _ _ _ hy
    obtain ⟨u', hu'⟩ := live _ _ _ hy'
    exact h.2 _ _ _ _ _ _ hu hu' heq
theorem WI_end (hP : fw_P D cl z ad (WI cA ad 30) H) : fw_P D cl z ad (WC cA ad σ0 (fun _ _ => none)) H := by
  have h1 := fw_arr (g := fun j => some (ad 3 j)) hP WI_2 (fun j hj => if_pos hj)
  refine WC_ext ?_ ?_ ?_ (fun k hk => ?_) (fun k hk => ?_) (fun c hc => ?_) (fun b j hb => ?_) h1
  · rw [fw_up_k (by decide)]; exact WI_0
  · rw [fw_up_k (by decide), WI_1]; rfl
  · rw [fw_up_same]; rfl
  · rw [fw_up_k (by decide)]; exact WI_3 hk
  · rw [fw_up_k (by decide), WI_4 hk]; rfl
  · exact (Nat.not_lt_zero c hc).elim
  · rw [fw_up_k (by omega)]
    unfold WI
    split <;> first | omega | rfl
end WISEC
