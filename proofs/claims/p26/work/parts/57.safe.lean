/-! ===== what holds of all that stands, whatever is loaded, planned and landed ===== -/
def Safe (σ : St) (L : Nat) : Prop :=
  (σ 8 0 = 18 ∧ σ 8 1 = L ∧ σ 8 2 = 1000 ∧ σ 8 3 = 1000) ∧ (∀ k, σ 7 k = σ0 7 k) ∧
  (∀ c, c < 18 → σ 4 c = 1 → σ 1 c ≤ σ 8 4 ∧ σ 8 4 < σ 2 c) ∧
  (∀ k, wOf σ k ≤ L) ∧
  (∀ c, c < 18 → σ 4 c = 1 → σ 3 c = 1 → σ0 7 (σ 5 c) = 1 ∧ σ 6 c < 2) ∧
  (∀ c d, c < 18 → d < 18 → σ 4 c = 1 → σ 4 d = 1 → 2 ≤ σ 3 c → 2 ≤ σ 3 d → ¬ σ 3 d = σ 3 c → apart (σ 5 d) (σ 5 c))
theorem sumN_plus {f g : Nat → Nat} {a x : Nat} : ∀ {n : Nat}, a < n → (∀ i, i < n → i ≠ a → f i = g i) → f a = g a + x → sumN f n = sumN g n + x
  | 0, h, _, _ => by omega
  | n + 1, h, h2, h3 => by
    rw [sumN, sumN]
    by_cases e : a = n
    · subst e
      rw [sumN_congr (fun i hi => h2 i (by omega) (by omega)), h3]
      omega
    · rw [sumN_plus (by omega) (fun i hi hne => h2 i (by omega) hne) h3, h2 n (by omega) (fun q => e q.symm)]
      omega
theorem wOf_put {σ : St} {c s : Nat} (hc : c < σ 8 0) (h0 : σ 4 c = 0) (k : Nat) : wOf (putS σ c s) k = wOf σ k + if k = s then σ 0 c else 0 := by
  unfold wOf
  rw [putS_o (by decide)]
  have off : ∀ i, i ≠ c → (if isOn (putS σ c s) i k = true then putS σ c s 0 i else 0) = (if isOn σ i k = true then σ 0 i else 0) := by
    intro i hi
    have e : isOn (putS σ c s) i k = isOn σ i k := by unfold isOn; rw [putS_ne hi, putS_ne hi]
    rw [e, putS_o (by decide)]
  refine sumN_plus hc (fun i _ hi => off i hi) ?_
  have e2 : ¬ isOn σ c k = true := fun q => by have := (isOn_t.mp q).1; omega
  rw [if_neg e2, putS_o (by decide)]
  by_cases e : k = s
  · rw [if_pos e, if_pos (isOn_t.mpr ⟨putS_4 σ c s, by rw [putS_5, e]⟩)]
    omega
  · rw [if_neg e, if_neg (fun q => e (by have := (isOn_t.mp q).2; rw [putS_5] at this; exact this.symm))]
theorem Safe_put {σ : St} {L c s : Nat} (hI : Inv σ) (h : Safe σ L) (hc : c < 18) (ha : allowed σ c s) : Safe (putS σ c s) L := by
  obtain ⟨⟨h0, h1, h2, h3⟩, hp, hb, hw, hr, hd⟩ := h
  obtain ⟨a0, a1, a2, a3, a4, a5⟩ := ha
  have o : ∀ b j, (b ≠ 4 ∧ b ≠ 5 ∧ b ≠ 6) → putS σ c s b j = σ b j := fun b j hb => putS_o hb j
  refine ⟨⟨by rw [o 8 0 (by decide)]; exact h0, by rw [o 8 1 (by decide)]; exact h1, by rw [o 8 2 (by decide)]; exact h2, by rw [o 8 3 (by decide)]; exact h3⟩, fun k => by rw [o 7 k (by decide)]; exact hp k, fun d hd4 h4 => ?_, fun k => ?_, fun d hd4 h4 h3 => ?_, fun d e hd1 he1 h4 h4' h3 h3' hne => ?_⟩
  · rw [o 1 d (by decide), o 8 4 (by decide), o 2 d (by decide)]
    by_cases e : d = c
    · subst e
      have := (hI.pos (c := d) (by omega)).2
      omega
    · rw [putS_ne e] at h4
      exact hb d hd4 h4
  · rw [wOf_put (by omega) a0]
    have := hw k
    split
    · rename_i e; subst e; omega
    · omega
  · rw [o 3 d (by decide)] at h3
    by_cases e : d = c
    · subst e
      rw [putS_5, putS_6]
      obtain ⟨q1, q2⟩ := a4 h3
      exact ⟨by rw [← hp]; exact q1, q2⟩
    · rw [putS_ne e] at h4
      rw [putS_ne e, putS_ne e]
      exact hr d hd4 h4 h3
  · rw [o 3 d (by decide)] at h3
    rw [o 3 e (by decide)] at h3'
    rw [o 3 d (by decide), o 3 e (by decide)] at hne
    by_cases e1 : d = c
    · by_cases e2 : e = c
      · subst e1; subst e2; exact absurd rfl hne
      · rw [putS_ne e2] at h4'
        rw [putS_ne e2, e1, putS_5]
        subst e1
        have := a5 h3 e (by omega)
        exact Classical.byContradiction fun q => this ⟨h4', h3', hne, q⟩
    · rw [putS_ne e1] at h4
      by_cases e2 : e = c
      · rw [putS_ne e1, e2, putS_5]
        subst e2
        have := a5 h3' d (by omega)
        exact Classical.byContradiction fun q => this ⟨h4, h3, fun w => hne w.symm, fun w => q (apart_symm.mp w)⟩
      · rw [putS_ne e2] at h4'
        rw [putS_ne e1, putS_ne e2]
        exact hd d e hd1 he1 h4 h4' h3 h3' hne
/-! how many are on board -/
def onN (σ : St) : Nat := sumN (fun c => if σ 4 c = 1 then 1 else 0) (σ 8 0)
theorem cnt_on (σ : St) : cnt σ false = onN σ := by
  unfold cnt onN
  refine sumN_congr (fun c _ => ?_)
  by_cases h : σ 4 c = 1
  · rw [if_pos h, if_pos (cB_t.mpr (show cntP σ false c from ⟨fun q => Bool.noConfusion q, fun _ => h⟩))]
  · rw [if_neg h, if_neg (fun q => h ((cB_t.mp q).2 rfl))]
theorem onN_le (σ : St) : onN σ ≤ σ 8 0 := by
  have := sumN_le (f := fun c => if σ 4 c = 1 then 1 else 0) (b := 1) (fun c => by
    show (if σ 4 c = 1 then 1 else 0) ≤ 1
    split <;> omega) (σ 8 0)
  unfold onN
  omega
theorem onN_put {σ : St} {c s : Nat} (hc : c < σ 8 0) (h0 : σ 4 c = 0) : onN (putS σ c s) = onN σ + 1 := by
  unfold onN
  rw [putS_o (by decide)]
  refine sumN_plus hc (fun i _ hi => by rw [putS_ne hi]) ?_
  rw [putS_4, if_pos rfl, if_neg (by omega)]
theorem high_sum {σ : St} (hI : Inv σ) : sumN (fun k => high σ k) 30 = onN σ := by
  unfold high
  rw [sumN_swap, onN]
  refine sumN_congr (fun c hc => ?_)
  have h5 := (hI.c c).2.2.2.2.2.1
  by_cases h : σ 4 c = 1
  · rw [if_pos h, sumN_one h5 (fun k hk hne => if_neg (fun q => hne (isOn_t.mp q).2.symm)), if_pos (isOn_t.mpr ⟨h, rfl⟩)]
  · rw [if_neg h]
    exact sumN_zero (fun k _ => if_neg (fun q => h (isOn_t.mp q).1))
/-! planning -/
theorem Safe_step {σ τ : St} {L : Nat} (hI : Inv σ) (h : Safe σ L) (ht : stepP σ = some τ) : Safe τ L ∧ τ 8 4 = σ 8 4 ∧ onN τ = onN σ + 1 := by
  cases h1 : bestB σ (σ 8 0) with
  | none => rw [stepP_none h1] at ht; cases ht
  | some c =>
    obtain ⟨s, h2⟩ := best_both h1
    rw [stepP_some h1 h2] at ht
    cases ht
    have ha := bestS_ok h2
    have hc := bestB_lt h1
    exact ⟨Safe_put hI h (by rw [← h.1.1]; exact hc) ha, putS_o (by decide) 4, onN_put hc ha.1⟩
theorem Safe_it {σ : St} {L : Nat} (hI : Inv σ) (h : Safe σ L) : ∀ {k : Nat}, stepsP σ k → Safe (itP σ k) L ∧ itP σ k 8 4 = σ 8 4 ∧ onN (itP σ k) = onN σ + k
  | 0, _ => ⟨h, rfl, rfl⟩
  | k + 1, g => by
    obtain ⟨i1, i2, i3⟩ := Safe_it hI h (k := k) (fun j hj => g j (by omega))
    obtain ⟨τ, ht⟩ := g k (by omega)
    rw [itP_s ht]
    obtain ⟨e1, e2, e3⟩ := Safe_step (stepsP_inv hI (k := k) (fun j hj => g j (by omega))).1 i1 ht
    exact ⟨e1, by rw [e2, i2], by rw [e3, i3]; omega⟩
theorem bestB_none {σ : St} : ∀ {i : Nat}, bestB σ i = none → ∀ c, c < i → ¬ fitsSome σ c
  | 0, _, c, hc => by omega
  | i + 1, h, c, hc => by
    have h' : (if cB (fitsSome σ i ∧ ∀ b, bestB σ i = some b → pref σ i b) = true then some i else bestB σ i) = none := h
    by_cases q : cB (fitsSome σ i ∧ ∀ b, bestB σ i = some b → pref σ i b) = true
    · rw [if_pos q] at h'; cases h'
    · rw [if_neg q] at h'
      by_cases e : c = i
      · subst e
        exact fun g => q (cB_t.mpr ⟨g, fun b hb => by rw [h'] at hb; cases hb⟩)
      · exact bestB_none h' c (by omega)
theorem ends_none {σ : St} {k : Nat} (h : endsP σ k) : ∀ c, c < itP σ k 8 0 → choices (itP σ k) c = 0 := by
  intro c hc
  cases h1 : bestB (itP σ k) (itP σ k 8 0) with
  | none => exact Classical.byContradiction fun q => bestB_none h1 c hc (choices_pos.mp q)
  | some b =>
    obtain ⟨s, h2⟩ := best_both h1
    have := stepP_some h1 h2
    rw [h.2] at this
    cases this
/-! sailing -/
theorem cu_tier {σ : St} {s p : Nat} (j : Nat) : cu σ s p j ≤ j := cu_le j
theorem land_4 {σ : St} (hI : Inv σ) {s p c : Nat} (hc : c < σ 8 0) : ldS σ s p 4 4 c = if σ 4 c = 1 ∧ σ 5 c = s ∧ σ 2 c = p then 2 else σ 4 c := by
  rw [ldS_4]
  have h6 := (hI.c c).2.2.2.2.2.2
  by_cases h : σ 4 c = 1 ∧ σ 5 c = s ∧ σ 2 c = p
  · rw [if_pos h, if_pos ⟨hc, h.1, h.2.1, h.2.2, h6⟩]
  · rw [if_neg h, if_neg (fun q => h ⟨q.2.1, q.2.2.1, q.2.2.2.1⟩)]
theorem land_6 {σ : St} {s p c : Nat} : ldS σ s p 4 6 c ≤ σ 6 c := by
  rw [ldS_6]
  split
  · exact cu_le _
  · exact Nat.le_refl _
theorem sl_4 {σ : St} (hI : Inv σ) {p c : Nat} (hc : c < σ 8 0) : ∀ k, slS σ p k 4 c = if σ 4 c = 1 ∧ σ 5 c < k ∧ σ 2 c = p then 2 else σ 4 c
  | 0 => by rw [if_neg (fun q => by have := q.2.1; omega)]; rfl
  | k + 1 => by
    show ldS (slS σ p k) k p 4 4 c = _
    have e8 : slS σ p k 8 0 = σ 8 0 := slS_o (by decide) 0 k
    have e5 : slS σ p k 5 c = σ 5 c := slS_o (by decide) c k
    have e2 : slS σ p k 2 c = σ 2 c := slS_o (by decide) c k
    rw [land_4 (slS_inv hI p k) (by rw [e8]; exact hc), e5, e2, sl_4 hI hc k]
    by_cases hA : σ 4 c = 1 ∧ σ 5 c < k ∧ σ 2 c = p
    · rw [if_pos hA, if_neg (show ¬ (2 = 1 ∧ σ 5 c = k ∧ σ 2 c = p) by omega), if_pos (show σ 4 c = 1 ∧ σ 5 c < k + 1 ∧ σ 2 c = p from ⟨hA.1, by omega, hA.2.2⟩)]
    · rw [if_neg hA]
      by_cases hB : σ 4 c = 1 ∧ σ 5 c = k ∧ σ 2 c = p
      · rw [if_pos hB, if_pos (show σ 4 c = 1 ∧ σ 5 c < k + 1 ∧ σ 2 c = p from ⟨hB.1, by omega, hB.2.2⟩)]
      · rw [if_neg hB, if_neg (show ¬ (σ 4 c = 1 ∧ σ 5 c < k + 1 ∧ σ 2 c = p) by omega)]
theorem sl_6 {σ : St} {p c : Nat} : ∀ k, slS σ p k 6 c ≤ σ 6 c
  | 0 => Nat.le_refl _
  | k + 1 => Nat.le_trans land_6 (sl_6 k)
theorem sail_o {σ : St} {b c : Nat} (h : b ≠ 4 ∧ b ≠ 6 ∧ b ≠ 8) : sailS σ b c = σ b c := by
  unfold sailS
  rw [up8 (Or.inl h.2.2), slS_o ⟨h.1, h.2.1⟩, ptS, up8 (Or.inl h.2.2)]
theorem sail_8 {σ : St} {j : Nat} (h : j ≠ 4 ∧ j ≠ 5) : sailS σ 8 j = σ 8 j := by
  unfold sailS
  rw [up8 (Or.inr h.2), slS_o (by decide), ptS, up8 (Or.inr h.1)]
theorem sail_84 {σ : St} : sailS σ 8 4 = σ 8 4 + 1 := by
  unfold sailS
  rw [up8 (Or.inr (by decide)), slS_o (by decide), ptS, up_same]
theorem sail_4 {σ : St} (hI : Inv σ) (h : σ 8 4 < 5) {c : Nat} (hc : c < σ 8 0) : sailS σ 4 c = if σ 4 c = 1 ∧ σ 2 c = σ 8 4 + 1 then 2 else σ 4 c := by
  unfold sailS
  have e : ∀ b j, b ≠ 8 → ptS σ b j = σ b j := fun b j hb => up8 (Or.inl hb)
  have h5 := (hI.c c).2.2.2.2.2.1
  rw [up8 (Or.inl (by decide)), sl_4 (ptS_inv hI h) (show c < ptS σ 8 0 from by rw [ptS, up8 (Or.inr (by decide))]; exact hc), e 4 c (by decide), e 5 c (by decide), e 2 c (by decide)]
  by_cases q : σ 4 c = 1 ∧ σ 2 c = σ 8 4 + 1
  · rw [if_pos q, if_pos ⟨q.1, h5, q.2⟩]
  · rw [if_neg q, if_neg (fun w => q ⟨w.1, w.2.2⟩)]
theorem sail_6 {σ : St} {c : Nat} : sailS σ 6 c ≤ σ 6 c := by
  unfold sailS
  rw [up8 (Or.inl (by decide))]
  refine Nat.le_trans (sl_6 30) ?_
  rw [ptS, up8 (Or.inl (by decide))]
  exact Nat.le_refl _
theorem sail_w {σ : St} (hI : Inv σ) (h : σ 8 4 < 5) (k : Nat) : wOf (sailS σ) k ≤ wOf σ k := by
  unfold wOf
  rw [sail_8 (by decide)]
  refine sumN_mono (fun c hc => ?_)
  by_cases q : isOn (sailS σ) c k = true
  · obtain ⟨q1, q2⟩ := isOn_t.mp q
    rw [sail_4 hI h hc] at q1
    rw [sail_o (by decide)] at q2
    rw [if_pos q, sail_o (by decide)]
    by_cases w : σ 4 c = 1 ∧ σ 2 c = σ 8 4 + 1
    · rw [if_pos w] at q1; omega
    · rw [if_neg w] at q1
      rw [if_pos (isOn_t.mpr ⟨q1, q2⟩)]
      exact Nat.le_refl _
  · rw [if_neg q]; omega
theorem Safe_sail {σ : St} {L : Nat} (hI : Inv σ) (h : Safe σ L) (h5 : σ 8 4 < 5) : Safe (sailS σ) L := by
  obtain ⟨⟨h0, h1, h2, h3⟩, hp, hb, hw, hr, hd⟩ := h
  have key : ∀ c, c < 18 → sailS σ 4 c = 1 → σ 4 c = 1 ∧ ¬ σ 2 c = σ 8 4 + 1 := by
    intro c hc q
    rw [sail_4 hI h5 (by omega)] at q
    by_cases w : σ 4 c = 1 ∧ σ 2 c = σ 8 4 + 1
    · rw [if_pos w] at q; omega
    · rw [if_neg w] at q; exact ⟨q, fun g => w ⟨q, g⟩⟩
  refine ⟨⟨by rw [sail_8 (by decide)]; exact h0, by rw [sail_8 (by decide)]; exact h1, by rw [sail_8 (by decide)]; exact h2, by rw [sail_8 (by decide)]; exact h3⟩, fun k => by rw [sail_o (by decide)]; exact hp k, fun d hd4 h4 => ?_, fun k => Nat.le_trans (sail_w hI h5 k) (hw k), fun d hd4 h4 h3 => ?_, fun d e hd1 he1 h4 h4' h3 h3' hne => ?_⟩
  · obtain ⟨q1, q2⟩ := key d hd4 h4
    have := hb d hd4 q1
    rw [sail_o (by decide), sail_84, sail_o (by decide)]
    omega
  · obtain ⟨q1, -⟩ := key d hd4 h4
    rw [sail_o (by decide)] at h3
    have := hr d hd4 q1 h3
    rw [sail_o (by decide)]
    exact ⟨this.1, Nat.lt_of_le_of_lt sail_6 this.2⟩
  · obtain ⟨q1, -⟩ := key d hd1 h4
    obtain ⟨q2, -⟩ := key e he1 h4'
    rw [sail_o (by decide)] at h3 h3'
    rw [sail_o (by decide), sail_o (by decide)] at hne
    rw [sail_o (by decide), sail_o (by decide)]
    exact hd d e hd1 he1 q1 q2 h3 h3' hne
theorem lifAt_pt (σ : St) (p : Nat) : lifAt (ptS σ) p = lifAt σ p := by
  have e : ∀ b j, b ≠ 8 → ptS σ b j = σ b j := fun b j hb => up8 (Or.inl hb)
  have e8 : ptS σ 8 0 = σ 8 0 := up8 (Or.inr (by decide))
  unfold lifAt
  rw [e8]
  refine sumN_congr (fun c _ => ?_)
  have : (ptS σ 4 c = 1 ∧ lifC (ptS σ) p c) ↔ (σ 4 c = 1 ∧ lifC σ p c) := by
    unfold lifC
    rw [e8, e 4 c (by decide), e 2 c (by decide), e 5 c (by decide), e 6 c (by decide)]
    have k : ∀ d, (d < σ 8 0 ∧ ptS σ 4 d = 1 ∧ ptS σ 5 d = σ 5 c ∧ ptS σ 2 d = p ∧ ptS σ 6 d < σ 6 c) ↔ (d < σ 8 0 ∧ σ 4 d = 1 ∧ σ 5 d = σ 5 c ∧ σ 2 d = p ∧ σ 6 d < σ 6 c) := fun d => by
      rw [e 4 d (by decide), e 5 d (by decide), e 2 d (by decide), e 6 d (by decide)]
    constructor
    · rintro ⟨q1, q2, d, q3⟩; exact ⟨q1, q2, d, (k d).mp q3⟩
    · rintro ⟨q1, q2, d, q3⟩; exact ⟨q1, q2, d, (k d).mpr q3⟩
  rw [cB_congr this]
/-- at port 5 nothing is on board -/
theorem Safe_end {σ : St} {L : Nat} (hI : Inv σ) (h : Safe σ L) (h5 : σ 8 4 = 5) : onN σ = 0 := by
  unfold onN
  refine sumN_zero (fun c hc => if_neg (fun q => ?_))
  have h1 := h.2.2.1 c (by rw [← h.1.1]; exact hc) q
  have := (hI.c c).2.2.1
  omega
/-! what the law counts, stack by stack and tier by tier -/
def fnd (σ : St) (k t : Nat) : Nat := sumN (fun k => high σ k) k + sumN (ocN σ k (fun _ => 1)) t
def lst (σ : St) (k t : Nat) : Int := sumI (fun k => ((wOf σ k : Nat) : Int) * arm false k) k + ((sumN (ocN σ k (fun c => σ 0 c)) t : Nat) : Int) * arm false k
def wts (σ : St) (k t : Nat) : Nat := sumN (ocN σ k (fun c => σ 0 c)) t
theorem fnd_n {σ : St} {k t : Nat} (h : occ σ k t = none) : fnd σ k (t + 1) = fnd σ k t := by
  unfold fnd; rw [sumN, ocN_n h]; rfl
theorem fnd_s {σ : St} {k t c : Nat} (h : occ σ k t = some c) : fnd σ k (t + 1) = fnd σ k t + 1 := by
  unfold fnd; rw [sumN, ocN_s h]; omega
theorem fnd_4 {σ : St} (hI : Inv σ) (k : Nat) : fnd σ k 4 = fnd σ (k + 1) 0 := by
  unfold fnd; rw [sumN, ← sum_occ hI k (fun _ => 1)]; rfl
theorem fnd_end {σ : St} (hI : Inv σ) : fnd σ 30 0 = onN σ := by
  unfold fnd; rw [high_sum hI]; rfl
theorem wts_n {σ : St} {k t : Nat} (h : occ σ k t = none) : wts σ k (t + 1) = wts σ k t := by
  unfold wts; rw [sumN, ocN_n h]; rfl
theorem wts_s {σ : St} {k t c : Nat} (h : occ σ k t = some c) : wts σ k (t + 1) = wts σ k t + σ 0 c := by
  unfold wts; rw [sumN, ocN_s h]
theorem wts_4 {σ : St} (hI : Inv σ) (k : Nat) : wts σ k 4 = wOf σ k := (wOf_occ hI k).symm
theorem wts_le {σ : St} (hI : Inv σ) {k t : Nat} (ht : t ≤ 4) : wts σ k t ≤ 120 := by
  have := sumN_le (f := ocN σ k (fun c => σ 0 c)) (b := 30) (fun j => ocN_le (fun c => (hI.c c).1)) t
  unfold wts
  omega
theorem lst_n {σ : St} {k t : Nat} (h : occ σ k t = none) : lst σ k (t + 1) = lst σ k t := by
  unfold lst; rw [sumN, ocN_n h]; rfl
theorem lst_s {σ : St} {k t c : Nat} (h : occ σ k t = some c) : lst σ k (t + 1) = lst σ k t + ((σ 0 c : Nat) : Int) * (((k % 5 : Nat) : Int) - ((2 : Nat) : Int)) := by
  have e : arm false k = ((k % 5 : Nat) : Int) - ((2 : Nat) : Int) := rfl
  unfold lst; rw [sumN, ocN_s h, ← e, Int.natCast_add, Int.add_mul]
  omega
theorem lst_4 {σ : St} (hI : Inv σ) (k : Nat) : lst σ k 4 = lst σ (k + 1) 0 := by
  unfold lst; rw [sumI, ← wOf_occ hI k]
  show _ = _ + ((0 : Nat) : Int) * _
  rw [Int.natCast_zero, Int.zero_mul, Int.add_zero]
theorem lst_end {σ : St} (hI : Inv σ) : lst σ 30 0 = mom σ false := by
  unfold lst; rw [mom_stk hI]
  show _ + ((0 : Nat) : Int) * _ = _
  rw [Int.natCast_zero, Int.zero_mul, Int.add_zero]
theorem lst_0 (σ : St) : lst σ 0 0 = 0 := by
  unfold lst
  show (0 : Int) + ((0 : Nat) : Int) * _ = 0
  rw [Int.natCast_zero, Int.zero_mul, Int.add_zero]
theorem fnd_0 (σ : St) : fnd σ 0 0 = 0 := rfl
theorem wts_0 (σ : St) (k : Nat) : wts σ k 0 = 0 := rfl
theorem fnd_le {σ : St} {k t : Nat} (hI : Inv σ) (hk : k ≤ 30) (ht : t ≤ 4) : fnd σ k t ≤ 200 := by
  have h1 := sumN_le (f := fun k => high σ k) (b := 4) (fun k => high_le hI k) k
  have h2 := sumN_le (f := ocN σ k (fun _ => 1)) (b := 1) (fun j => ocN_le (fun _ => Nat.le_refl 1)) t
  unfold fnd
  omega
/-- no tier is free below one that stands -/
theorem end_s {σ : St} (hI : Inv σ) {k t c : Nat} (ht : t < 4) (h : occ σ k t = some c) : decide (high σ k < t) = false ∧ decide (high σ k < t + 1) = false := by
  have := (high_full hI k ht).mp ⟨c, h⟩
  exact ⟨decide_eq_false (by omega), decide_eq_false (by omega)⟩
theorem end_n {σ : St} (hI : Inv σ) {k t : Nat} (ht : t < 4) (h : occ σ k t = none) : decide (high σ k < t + 1) = true := by
  have : ¬ t < high σ k := fun q => by
    obtain ⟨c, hc⟩ := (high_full hI k ht).mpr q
    rw [h] at hc; cases hc
  exact decide_eq_true (by omega)
theorem plg_1 {k : Nat} (h : σ0 7 k = 1) : k / 5 = 2 ∨ k / 5 = 3 := by
  have e : σ0 7 k = if 10 ≤ k ∧ k < 20 then 1 else 0 := rfl
  rw [e] at h
  split at h
  · omega
  · cases h
theorem apart_c {a b : Nat} (h : apart a b) : ¬ Int.natAbs ((((a / 5 : Nat)) : Int) - (((b / 5 : Nat)) : Int)) = 0 ∧ (Int.natAbs ((((a / 5 : Nat)) : Int) - (((b / 5 : Nat)) : Int)) = 1 → 2 ≤ Int.natAbs ((((a % 5 : Nat)) : Int) - (((b % 5 : Nat)) : Int))) := by
  unfold apart dist at h
  omega
/-! the start: all wait -/
def All0 (σ : St) (n L : Nat) : Prop := (σ 8 0 = n ∧ σ 8 1 = L ∧ σ 8 2 = 1000 ∧ σ 8 3 = 1000 ∧ σ 8 4 = 0) ∧ (∀ k, σ 7 k = σ0 7 k) ∧ ∀ c, c < n → σ 4 c = 0
theorem All0_lim {L : Nat} : All0 (limS σ0 L 1000 1000) 0 L := by
  refine ⟨⟨rfl, rfl, rfl, rfl, rfl⟩, fun k => rfl, fun c hc => by omega⟩
theorem All0_add {σ : St} {n L w f t q : Nat} (h : All0 σ n L) : All0 (addS σ w f t q) (n + 1) L := by
  obtain ⟨⟨h0, h1, h2, h3, h4⟩, hp, hs⟩ := h
  refine ⟨⟨by rw [addS_n, h0], by rw [addS_o (by decide) (Or.inl (by decide))]; exact h1, by rw [addS_o (by decide) (Or.inl (by decide))]; exact h2, by rw [addS_o (by decide) (Or.inl (by decide))]; exact h3, by rw [addS_o (by decide) (Or.inl (by decide))]; exact h4⟩, fun k => by rw [addS_o (by omega) (Or.inl (by decide))]; exact hp k, fun c hc => ?_⟩
  by_cases e : c = σ 8 0
  · rw [e, addS_4]
  · rw [addS_o (by omega) (Or.inr e)]
    exact hs c (by omega)
theorem All0_safe {σ : St} {L : Nat} (h : All0 σ 18 L) : Safe σ L := by
  obtain ⟨⟨h0, h1, h2, h3, h4⟩, hp, hs⟩ := h
  have no : ∀ c, c < 18 → ¬ σ 4 c = 1 := fun c hc q => by have := hs c hc; omega
  refine ⟨⟨h0, h1, h2, h3⟩, hp, fun c hc q => absurd q (no c hc), fun k => ?_, fun c hc q => absurd q (no c hc), fun c d hc hd q => absurd q (no c hc)⟩
  unfold wOf
  rw [sumN_zero (fun c hc => if_neg (fun q => no c (by omega) (isOn_t.mp q).1))]
  omega
