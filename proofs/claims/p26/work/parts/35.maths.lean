/-! ===== sailing ===== -/
def slS (σ : St) (p : Nat) : Nat → St
  | 0 => σ
  | k + 1 => ldS (slS σ p k) k p 4
def ptS (σ : St) : St := up σ 8 4 (σ 8 4 + 1)
noncomputable def sailS (σ : St) : St := up (slS (ptS σ) (σ 8 4 + 1) 30) 8 5 (σ 8 5 + lifAt (ptS σ) (σ 8 4 + 1))
theorem slS_o {σ : St} {p b : Nat} (h : b ≠ 4 ∧ b ≠ 6) (c : Nat) : ∀ k, slS σ p k b c = σ b c
  | 0 => rfl
  | k + 1 => by
    show ldS (slS σ p k) k p 4 b c = σ b c
    rw [ldS_o h, slS_o h c k]
theorem slS_inv {σ : St} (hI : Inv σ) (p : Nat) : ∀ k, Inv (slS σ p k)
  | 0 => hI
  | k + 1 => Inv_land (slS_inv hI p k) k p
theorem slS_far {σ : St} {p c : Nat} (b : Nat) : ∀ k, k ≤ σ 5 c → slS σ p k b c = σ b c
  | 0, _ => rfl
  | k + 1, h => by
    show ldS (slS σ p k) k p 4 b c = σ b c
    rw [← slS_far (σ := σ) (p := p) (c := c) b k (by omega)]
    unfold ldS
    have e : slS σ p k 5 c = σ 5 c := slS_o (by decide) c k
    rw [if_neg (fun q => by have := q.2.2.2.1; omega), if_neg (fun q => by have := q.2.2.2.1; omega)]
theorem lifS_sl {σ : St} (p k : Nat) : lifS (slS σ p k) k p = lifS σ k p := by
  unfold lifS
  rw [slS_o (by decide)]
  refine sumN_congr (fun c hc => ?_)
  by_cases e : σ 5 c = k
  · have s : ∀ b, slS σ p k b c = σ b c := fun b => slS_far b k (by omega)
    have h1 : isOn (slS σ p k) c k = isOn σ c k := by unfold isOn; rw [s, s]
    have h2 : lifC (slS σ p k) p c ↔ lifC σ p c := by
      unfold lifC
      rw [s, s, s, slS_o (by decide)]
      have key : ∀ d, (slS σ p k 4 d = 1 ∧ slS σ p k 5 d = σ 5 c ∧ slS σ p k 2 d = p ∧ slS σ p k 6 d < σ 6 c) ↔ (σ 4 d = 1 ∧ σ 5 d = σ 5 c ∧ σ 2 d = p ∧ σ 6 d < σ 6 c) := by
        intro d
        by_cases g : σ 5 d = k
        · have s' : ∀ b, slS σ p k b d = σ b d := fun b => slS_far b k (by omega)
          rw [s', s', s', s']
        · have e5 : slS σ p k 5 d = σ 5 d := slS_o (by decide) d k
          constructor
          · rintro ⟨-, q, -⟩; rw [e5, e] at q; exact absurd q g
          · rintro ⟨-, q, -⟩; rw [e] at q; exact absurd q g
      constructor
      · rintro ⟨q1, d, q2, q3⟩; exact ⟨q1, d, q2, (key d).mp q3⟩
      · rintro ⟨q1, d, q2, q3⟩; exact ⟨q1, d, q2, (key d).mpr q3⟩
    rw [h1, cB_congr h2]
  · have e5 : slS σ p k 5 c = σ 5 c := slS_o (by decide) c k
    rw [if_neg (fun q => e (e5 ▸ (isOn_t.mp q).2)), if_neg (fun q => e (isOn_t.mp q).2)]
theorem up8 {σ : St} {j v b c : Nat} (h : b ≠ 8 ∨ c ≠ j) : up σ 8 j v b c = σ b c := up_ne (fun q => by omega)
theorem high_8 {σ : St} {j v : Nat} (hj : j ≠ 0) (k : Nat) : high (up σ 8 j v) k = high σ k := by
  unfold high
  rw [up8 (Or.inr (by omega))]
  refine sumN_congr (fun c _ => ?_)
  unfold isOn
  rw [up8 (Or.inl (by decide)), up8 (Or.inl (by decide))]
theorem occ_8 {σ : St} {j v : Nat} (hj : j ≠ 0) (k t : Nat) : occ (up σ 8 j v) k t = occ σ k t :=
  occ_congr (up8 (Or.inr (by omega))) (fun d _ => isAt_eq (by rw [up8 (Or.inl (by decide)), up8 (Or.inl (by decide)), up8 (Or.inl (by decide))]))
theorem cu_8 {σ : St} {j v s p : Nat} (hj : j ≠ 0) (t : Nat) : cu (up σ 8 j v) s p t = cu σ s p t := by
  unfold cu
  refine sumN_congr (fun i _ => ?_)
  unfold ocN
  rw [occ_8 hj]
  cases occ σ s i with
  | none => rfl
  | some c => dsimp only; rw [up8 (Or.inl (by decide))]
theorem ldS_8 {σ : St} {j v s p t : Nat} (hj : j ≠ 0) : ldS (up σ 8 j v) s p t = up (ldS σ s p t) 8 j v := by
  funext b c
  by_cases h : b = 8 ∧ c = j
  · obtain ⟨rfl, rfl⟩ := h
    rw [ldS_o (by decide), up_same, up_same]
  · rw [up_ne h]
    unfold ldS
    rw [up_ne h, cu_8 hj, up8 (b := 8) (c := 0) (Or.inr (by omega)), up8 (b := 4) (Or.inl (by decide)), up8 (b := 5) (Or.inl (by decide)), up8 (b := 2) (Or.inl (by decide)), up8 (b := 6) (Or.inl (by decide))]
theorem slS_8 {σ : St} {j v p : Nat} (hj : j ≠ 0) : ∀ k, slS (up σ 8 j v) p k = up (slS σ p k) 8 j v
  | 0 => rfl
  | k + 1 => by
    show ldS (slS (up σ 8 j v) p k) k p 4 = up (ldS (slS σ p k) k p 4) 8 j v
    rw [slS_8 hj k, ldS_8 hj]
theorem Inv_8 {σ : St} (hI : Inv σ) {j v : Nat} (hj : j = 4 ∨ j = 5) (h4 : (up σ 8 j v) 8 4 ≤ 5) (h5 : (up σ 8 j v) 8 5 ≤ 40 * (up σ 8 j v) 8 4) : Inv (up σ 8 j v) := by
  have e : ∀ b c, (b ≠ 8 ∨ c ≠ j) → up σ 8 j v b c = σ b c := fun b c h => up8 h
  obtain ⟨q1, q2, q3, q4, q5, q6, q7⟩ := id hI
  refine ⟨⟨?_, ?_, ?_, ?_, h4, h5⟩, fun d => ?_, fun d hd => ?_, fun k => ?_, fun a b ha hb a4 b4 hab hab2 => ?_, fun a t ha a4 ht => ?_, fun d hd => ?_⟩
  · rw [e _ _ (Or.inr (by omega))]; exact q1.1
  · rw [e _ _ (Or.inr (by omega))]; exact q1.2.1
  · rw [e _ _ (Or.inr (by omega))]; exact q1.2.2.1
  · rw [e _ _ (Or.inr (by omega))]; exact q1.2.2.2.1
  · rw [e 0 _ (Or.inl (by decide)), e 1 _ (Or.inl (by decide)), e 2 _ (Or.inl (by decide)), e 3 _ (Or.inl (by decide)), e 4 _ (Or.inl (by decide)), e 5 _ (Or.inl (by decide)), e 6 _ (Or.inl (by decide))]; exact q2 d
  · rw [e 8 0 (Or.inr (by omega))] at hd
    rw [e 0 _ (Or.inl (by decide)), e 1 _ (Or.inl (by decide)), e 2 _ (Or.inl (by decide))]; exact q3 d hd
  · rw [e 7 _ (Or.inl (by decide))]; exact q4 k
  · rw [e 8 0 (Or.inr (by omega))] at ha hb
    rw [e 4 _ (Or.inl (by decide))] at a4 b4
    rw [e 5 _ (Or.inl (by decide)), e 5 _ (Or.inl (by decide))] at hab
    rw [e 6 _ (Or.inl (by decide)), e 6 _ (Or.inl (by decide))] at hab2
    exact q5 a b ha hb a4 b4 hab hab2
  · rw [e 8 0 (Or.inr (by omega))] at ha
    rw [e 4 _ (Or.inl (by decide))] at a4
    rw [e 6 _ (Or.inl (by decide))] at ht
    obtain ⟨d, g1, g2, g3, g4⟩ := q6 a t ha a4 ht
    exact ⟨d, by rw [e 8 0 (Or.inr (by omega))]; exact g1, by rw [e 4 _ (Or.inl (by decide))]; exact g2, by rw [e 5 _ (Or.inl (by decide)), e 5 _ (Or.inl (by decide))]; exact g3, by rw [e 6 _ (Or.inl (by decide))]; exact g4⟩
  · rw [e 8 0 (Or.inr (by omega))] at hd
    rw [e 6 _ (Or.inl (by decide))]; exact q7 d hd
theorem ptS_inv {σ : St} (hI : Inv σ) (h : σ 8 4 < 5) : Inv (ptS σ) := by
  have := hI.1.2.2.2.2.2
  refine Inv_8 hI (Or.inl rfl) (by rw [up_same]; omega) (by rw [up_same, up8 (Or.inr (by decide))]; omega)
theorem lifAt_le {σ : St} (p : Nat) : lifAt σ p ≤ σ 8 0 := by
  have := sumN_le (f := fun c => if cB (σ 4 c = 1 ∧ lifC σ p c) = true then 1 else 0) (b := 1) (fun c => by
    show (if cB (σ 4 c = 1 ∧ lifC σ p c) = true then 1 else 0) ≤ 1
    split <;> omega) (σ 8 0)
  unfold lifAt
  omega
theorem sailS_inv {σ : St} (hI : Inv σ) (h : σ 8 4 < 5) : Inv (sailS σ) := by
  have h0 := ptS_inv hI h
  have h1 := slS_inv h0 (σ 8 4 + 1) 30
  have h2 := lifAt_le (σ := ptS σ) (σ 8 4 + 1)
  have h3 := h0.n
  have h4 := hI.1.2.2.2.2.2
  have e4 : slS (ptS σ) (σ 8 4 + 1) 30 8 4 = σ 8 4 + 1 := by rw [slS_o (by decide)]; exact up_same ..
  refine Inv_8 h1 (Or.inr rfl) ?_ ?_
  · rw [up8 (Or.inr (by decide)), e4]; omega
  · rw [up_same, up8 (Or.inr (by decide)), e4]; omega
section WC8
variable {cA : Nat → ClassId} {ad : fw_Ad} {σ : St} {μ : fw_W} {D : va_G} {cl : List vw_C} {z : Nat} {H : Heap}
theorem wC_8 {j v : Nat} {x : va_E} (h : fw_P D cl z ad (fw_up (WC cA ad σ μ) 0 0 x) H) (hj : j ≠ 0) (e : x = cPlan ad (up σ 8 j v)) : fw_P D cl z ad (WC cA ad (up σ 8 j v) μ) H := by
  subst e
  refine WC_ext (fw_up_same ..) ?_ ?_ (fun k hk => ?_) (fun k hk => ?_) (fun d hd => ?_) (fun b j hb => ?_) h
  · rw [fw_up_k (by decide), WC_1]; unfold cBoxes; rw [up8 (Or.inr (by omega))]
  · rw [fw_up_k (by decide), WC_2]
  · rw [fw_up_k (by decide), WC_3 hk]; unfold cStack; rw [high_8 hj, up8 (Or.inl (by decide))]
  · rw [fw_up_k (by decide), WC_4 hk]; unfold cArr; congr 8; funext t; rw [occ_8 hj]
  · rw [up8 (Or.inr (by omega))] at hd
    rw [fw_up_k (by decide), WC_5 hd]; unfold cBox
    rw [up8 (b := 0) (Or.inl (by decide)), up8 (b := 1) (Or.inl (by decide)), up8 (b := 2) (Or.inl (by decide)), up8 (b := 3) (Or.inl (by decide)), up8 (b := 4) (Or.inl (by decide)), up8 (b := 5) (Or.inl (by decide)), up8 (b := 6) (Or.inl (by decide))]
  · rw [fw_up_k (by omega), WC_r hb]
theorem wC_7 {s v : Nat} {x : va_E} (h : fw_P D cl z ad (fw_up (WC cA ad σ μ) 3 s x) H) (e : x = cStack ad (up σ 7 s v) s) : fw_P D cl z ad (WC cA ad (up σ 7 s v) μ) H := by
  subst e
  have hu : ∀ b c, b ≠ 7 → up σ 7 s v b c = σ b c := fun b c q => up_k q
  have hh : ∀ k, high (up σ 7 s v) k = high σ k := by
    intro k
    unfold high
    rw [hu _ _ (by decide)]
    refine sumN_congr (fun c _ => ?_)
    unfold isOn
    rw [hu _ _ (by decide), hu _ _ (by decide)]
  refine WC_ext ?_ ?_ ?_ (fun k hk => ?_) (fun k hk => ?_) (fun d hd => ?_) (fun b j hb => ?_) h
  · rw [fw_up_k (by decide), WC_0]; unfold cPlan; simp only [hu 8 _ (by decide)]
  · rw [fw_up_k (by decide), WC_1]; unfold cBoxes; rw [hu _ _ (by decide)]
  · rw [fw_up_k (by decide), WC_2]
  · by_cases e : k = s
    · subst e; rw [fw_up_same]
    · rw [fw_up_i e, WC_3 hk]; unfold cStack; rw [hh, up_i e]
  · rw [fw_up_k (by decide), WC_4 hk]; unfold cArr; congr 8
  · rw [hu _ _ (by decide)] at hd
    rw [fw_up_k (by decide), WC_5 hd]; unfold cBox
    rw [hu 0 _ (by decide), hu 1 _ (by decide), hu 2 _ (by decide), hu 3 _ (by decide), hu 4 _ (by decide), hu 5 _ (by decide), hu 6 _ (by decide)]
  · rw [fw_up_k (by omega), WC_r hb]
end WC8
theorem Bnd_land {σ : St} (hI : Inv σ) (s p j : Nat) : Bnd (ldS σ s p j) := by
  refine ⟨?_, fun d => ?_, fun k => ?_⟩
  · have h1 := hI.n
    have h2 := hI.lim
    rw [ldS_o (b := 8) (by decide), ldS_o (b := 8) (by decide), ldS_o (b := 8) (by decide), ldS_o (b := 8) (by decide), ldS_o (b := 8) (by decide), ldS_o (b := 8) (by decide)]
    exact ⟨h1, h2⟩
  · have h := hI.c d
    have hcu := cu_le (σ := σ) (s := s) (p := p) (σ 6 d)
    rw [ldS_o (b := 0) (by decide), ldS_o (b := 1) (by decide), ldS_o (b := 2) (by decide), ldS_o (b := 3) (by decide), ldS_o (b := 5) (by decide), ldS_4, ldS_6]
    refine ⟨h.1, h.2.1, h.2.2.1, h.2.2.2.1, ?_, h.2.2.2.2.2.1, ?_⟩
    · split <;> omega
    · split <;> omega
  · rw [ldS_o (by decide)]; exact hI.pl k
theorem Inv_85 {σ : St} (hI : Inv σ) (h : σ 8 4 < 5) : Inv (up (ptS σ) 8 5 (σ 8 5 + lifAt (ptS σ) (σ 8 4 + 1))) := by
  have h0 := ptS_inv hI h
  have h2 := lifAt_le (σ := ptS σ) (σ 8 4 + 1)
  have h3 := h0.n
  have h4 := hI.1.2.2.2.2.2
  have e4 : ptS σ 8 4 = σ 8 4 + 1 := up_same ..
  refine Inv_8 h0 (Or.inr rfl) ?_ ?_
  · rw [up8 (Or.inr (by decide)), e4]; omega
  · rw [up_same, up8 (Or.inr (by decide)), e4]; omega
