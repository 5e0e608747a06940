/-! ===== landing, tier by tier ===== -/
/-- how many stay, of the tiers below j -/
def cu (σ : St) (s p j : Nat) : Nat := sumN (ocN σ s (fun d => if σ 2 d = p then 0 else 1)) j
def ldS (σ : St) (s p j : Nat) : St := fun b c =>
  if b = 4 ∧ (c < σ 8 0 ∧ σ 4 c = 1 ∧ σ 5 c = s ∧ σ 2 c = p ∧ σ 6 c < j) then 2
  else if b = 6 ∧ (c < σ 8 0 ∧ σ 4 c = 1 ∧ σ 5 c = s ∧ ¬ σ 2 c = p ∧ σ 6 c < j) then cu σ s p (σ 6 c)
  else σ b c
theorem ldS_o {σ : St} {s p j b : Nat} (h : b ≠ 4 ∧ b ≠ 6) (c : Nat) : ldS σ s p j b c = σ b c := by
  unfold ldS
  rw [if_neg (fun q => h.1 q.1), if_neg (fun q => h.2 q.1)]
theorem ldS_4 (σ : St) (s p j c : Nat) : ldS σ s p j 4 c = if c < σ 8 0 ∧ σ 4 c = 1 ∧ σ 5 c = s ∧ σ 2 c = p ∧ σ 6 c < j then 2 else σ 4 c := by
  unfold ldS
  by_cases h : c < σ 8 0 ∧ σ 4 c = 1 ∧ σ 5 c = s ∧ σ 2 c = p ∧ σ 6 c < j
  · rw [if_pos ⟨rfl, h⟩, if_pos h]
  · rw [if_neg (fun q => h q.2), if_neg h, if_neg (by omega)]
theorem ldS_6 (σ : St) (s p j c : Nat) : ldS σ s p j 6 c = if c < σ 8 0 ∧ σ 4 c = 1 ∧ σ 5 c = s ∧ ¬ σ 2 c = p ∧ σ 6 c < j then cu σ s p (σ 6 c) else σ 6 c := by
  unfold ldS
  rw [if_neg (by omega)]
  by_cases h : c < σ 8 0 ∧ σ 4 c = 1 ∧ σ 5 c = s ∧ ¬ σ 2 c = p ∧ σ 6 c < j
  · rw [if_pos ⟨rfl, h⟩, if_pos h]
  · rw [if_neg (fun q => h q.2), if_neg h]
theorem ldS_0 (σ : St) (s p : Nat) : ldS σ s p 0 = σ := by
  funext b c
  unfold ldS
  rw [if_neg (by omega), if_neg (by omega)]
theorem cu_s {σ : St} {s p j c : Nat} (h : occ σ s j = some c) : cu σ s p (j + 1) = cu σ s p j + if σ 2 c = p then 0 else 1 := by
  unfold cu
  rw [sumN, ocN_s h]
theorem cu_n {σ : St} {s p j : Nat} (h : occ σ s j = none) : cu σ s p (j + 1) = cu σ s p j := by
  unfold cu
  rw [sumN, ocN_n h]
  rfl
theorem cu_le {σ : St} {s p : Nat} (j : Nat) : cu σ s p j ≤ j := by
  have := sumN_le (f := ocN σ s (fun d => if σ 2 d = p then 0 else 1)) (b := 1) (fun t => ocN_le (fun c => by split <;> omega)) j
  unfold cu
  omega
theorem cu_mono {σ : St} {s p i : Nat} : ∀ {j : Nat}, i ≤ j → cu σ s p i ≤ cu σ s p j
  | 0, h => by rw [show i = 0 by omega]; exact Nat.le_refl _
  | j + 1, h => by
    by_cases e : i = j + 1
    · rw [e]; exact Nat.le_refl _
    · have := cu_mono (σ := σ) (s := s) (p := p) (i := i) (j := j) (by omega)
      have h2 : cu σ s p j ≤ cu σ s p (j + 1) := by
        unfold cu
        rw [sumN]
        omega
      omega
theorem cu_lt {σ : St} {s p i j c : Nat} (h : occ σ s i = some c) (h2 : ¬ σ 2 c = p) (hij : i < j) : cu σ s p i < cu σ s p j := by
  have h1 := cu_s (p := p) h
  rw [if_neg h2] at h1
  have h3 := cu_mono (σ := σ) (s := s) (p := p) (i := i + 1) (j := j) (by omega)
  omega
theorem cu_find {σ : St} {s p m : Nat} : ∀ {j : Nat}, m < cu σ s p j → ∃ i c, i < j ∧ occ σ s i = some c ∧ ¬ σ 2 c = p ∧ cu σ s p i = m
  | 0, h => by unfold cu at h; rw [sumN] at h; omega
  | j + 1, h => by
    by_cases q : m < cu σ s p j
    · obtain ⟨i, c, h1, h2⟩ := cu_find q
      exact ⟨i, c, by omega, h2⟩
    · cases e : occ σ s j with
      | none => rw [cu_n e] at h; omega
      | some c =>
        rw [cu_s e] at h
        by_cases g : σ 2 c = p
        · rw [if_pos g] at h; omega
        · rw [if_neg g] at h
          exact ⟨j, c, by omega, e, g, by omega⟩
/-- no two in one place -/
def Uq (σ : St) : Prop := ∀ c d, c < σ 8 0 → d < σ 8 0 → σ 4 c = 1 → σ 4 d = 1 → σ 5 c = σ 5 d → σ 6 c = σ 6 d → c = d
theorem Inv.uq {σ : St} (hI : Inv σ) : Uq σ := hI.2.2.2.2.1
theorem ldS_on {σ : St} {s p j c : Nat} (hc : c < σ 8 0) : ldS σ s p j 4 c = 1 ↔ σ 4 c = 1 ∧ ¬ (σ 5 c = s ∧ σ 2 c = p ∧ σ 6 c < j) := by
  rw [ldS_4]
  split
  · rename_i h
    constructor
    · intro q; omega
    · rintro ⟨-, q⟩; exact absurd h.2.2 q
  · rename_i h
    constructor
    · intro q; exact ⟨q, fun g => h ⟨hc, q, g⟩⟩
    · exact fun q => q.1
theorem ldS_uq {σ : St} (hI : Inv σ) (s p j : Nat) : Uq (ldS σ s p j) := by
  intro c d hc hd c4 d4 h5 h6
  rw [ldS_o (by decide)] at hc hd
  rw [ldS_o (by decide), ldS_o (by decide)] at h5
  obtain ⟨c1, c2⟩ := (ldS_on hc).mp c4
  obtain ⟨d1, d2⟩ := (ldS_on hd).mp d4
  rw [ldS_6, ldS_6] at h6
  have oc := occ_of hI hc c1
  have od := occ_of hI hd d1
  by_cases e : σ 5 c = s
  · have e' : σ 5 d = s := h5 ▸ e
    rw [e] at oc
    rw [e'] at od
    by_cases gc : σ 6 c < j <;> by_cases gd : σ 6 d < j
    · have tc : ¬ σ 2 c = p := fun q => c2 ⟨e, q, gc⟩
      have td : ¬ σ 2 d = p := fun q => d2 ⟨e', q, gd⟩
      rw [if_pos ⟨hc, c1, e, tc, gc⟩, if_pos ⟨hd, d1, e', td, gd⟩] at h6
      rcases Nat.lt_trichotomy (σ 6 c) (σ 6 d) with q | q | q
      · have := cu_lt oc tc q; omega
      · exact hI.uq c d hc hd c1 d1 h5 q
      · have := cu_lt od td q; omega
    · have tc : ¬ σ 2 c = p := fun q => c2 ⟨e, q, gc⟩
      rw [if_pos ⟨hc, c1, e, tc, gc⟩, if_neg (fun q => gd q.2.2.2.2)] at h6
      have := cu_le (σ := σ) (s := s) (p := p) (σ 6 c)
      omega
    · have td : ¬ σ 2 d = p := fun q => d2 ⟨e', q, gd⟩
      rw [if_neg (fun q => gc q.2.2.2.2), if_pos ⟨hd, d1, e', td, gd⟩] at h6
      have := cu_le (σ := σ) (s := s) (p := p) (σ 6 d)
      omega
    · rw [if_neg (fun q => gc q.2.2.2.2), if_neg (fun q => gd q.2.2.2.2)] at h6
      exact hI.uq c d hc hd c1 d1 h5 h6
  · have e' : ¬ σ 5 d = s := fun q => e (h5.trans q)
    rw [if_neg (fun q => e q.2.2.1), if_neg (fun q => e' q.2.2.1)] at h6
    exact hI.uq c d hc hd c1 d1 h5 h6
/-- one taken away, or set elsewhere -/
theorem occ_gone {σ : St} (hU : Uq σ) {c s v : Nat} (hv : v ≠ 1) (hc : c < σ 8 0) (h1 : σ 4 c = 1) (h5 : σ 5 c = s) (k j : Nat) : occ (up σ 4 c v) k j = if k = s ∧ j = σ 6 c then none else occ σ k j := by
  by_cases h : k = s ∧ j = σ 6 c
  · obtain ⟨rfl, rfl⟩ := h
    rw [if_pos ⟨rfl, rfl⟩]
    refine occ_no (fun d hd => isAt_f.mpr ?_)
    rw [up_k (by decide)] at hd
    rw [up_k (b := 5) (by decide), up_k (b := 6) (by decide)]
    by_cases e : d = c
    · subst e; rw [up_same]; exact fun q => hv q.1
    · rw [up_i e]
      rintro ⟨q1, q2, q3⟩
      exact e (hU d c hd hc q1 h1 (q2.trans h5.symm) q3)
  · rw [if_neg h]
    refine occ_congr (up_k (by decide)) (fun d hd => isAt_eq ?_)
    rw [up_k (b := 5) (by decide), up_k (b := 6) (by decide)]
    by_cases e : d = c
    · subst e
      rw [up_same]
      constructor
      · rintro ⟨q, -⟩; exact absurd q hv
      · rintro ⟨-, q2, q3⟩; exact absurd ⟨q2.symm.trans h5, q3.symm⟩ h
    · rw [up_i e]
theorem occ_moved {σ : St} (hU : Uq σ) {c s l : Nat} (hc : c < σ 8 0) (h1 : σ 4 c = 1) (h5 : σ 5 c = s) (hl : occ σ s l = none ∨ l = σ 6 c) (k j : Nat) : occ (up σ 6 c l) k j = if k = s ∧ j = l then some c else if k = s ∧ j = σ 6 c then none else occ σ k j := by
  by_cases h : k = s ∧ j = l
  · obtain ⟨rfl, rfl⟩ := h
    rw [if_pos ⟨rfl, rfl⟩]
    refine occ_is (by rw [up_k (by decide)]; exact hc) (isAt_t.mpr ⟨by rw [up_k (by decide)]; exact h1, by rw [up_k (by decide)]; exact h5, up_same ..⟩) (fun d hd => isAt_f.mpr ?_)
    have hne : d ≠ c := by omega
    rw [up_k (b := 4) (by decide), up_k (b := 5) (by decide), up_i hne]
    rintro ⟨q1, q2, q3⟩
    rcases hl with g | g
    · exact occ_none g (by omega) q1 q2 q3
    · exact hne (hU d c (by omega) hc q1 h1 (q2.trans h5.symm) (q3.trans g))
  · rw [if_neg h]
    by_cases h' : k = s ∧ j = σ 6 c
    · obtain ⟨rfl, rfl⟩ := h'
      rw [if_pos ⟨rfl, rfl⟩]
      refine occ_no (fun d hd => isAt_f.mpr ?_)
      rw [up_k (by decide)] at hd
      rw [up_k (b := 4) (by decide), up_k (b := 5) (by decide)]
      by_cases e : d = c
      · subst e; rw [up_same]; rintro ⟨-, -, q⟩; exact h ⟨rfl, q.symm⟩
      · rw [up_i e]
        rintro ⟨q1, q2, q3⟩
        exact e (hU d c hd hc q1 h1 (q2.trans h5.symm) q3)
    · rw [if_neg h']
      refine occ_congr (up_k (by decide)) (fun d hd => isAt_eq ?_)
      rw [up_k (b := 4) (by decide), up_k (b := 5) (by decide)]
      by_cases e : d = c
      · subst e
        rw [up_same]
        constructor
        · rintro ⟨-, q2, q3⟩; exact absurd ⟨q2.symm.trans h5, q3.symm⟩ h
        · rintro ⟨-, q2, q3⟩; exact absurd ⟨q2.symm.trans h5, q3.symm⟩ h'
      · rw [up_i e]
/-- at the tier that comes next nothing has changed -/
theorem ldS_occ {σ : St} (s p j t : Nat) (ht : j ≤ t) : occ (ldS σ s p j) s t = occ σ s t := by
  refine occ_congr (ldS_o (by decide) 0) (fun d hd => isAt_eq ?_)
  rw [ldS_o (b := 5) (by decide), ldS_on hd, ldS_6]
  have hcu := cu_le (σ := σ) (s := s) (p := p) (σ 6 d)
  constructor
  · rintro ⟨⟨q1, q2⟩, q3, q4⟩
    refine ⟨q1, q3, ?_⟩
    split at q4
    · rename_i h; omega
    · exact q4
  · rintro ⟨q1, q2, q3⟩
    refine ⟨⟨q1, by omega⟩, q2, ?_⟩
    rw [if_neg (by omega)]
    exact q3
theorem ldS_free {σ : St} (hI : Inv σ) (s p j : Nat) : cu σ s p j < j → occ (ldS σ s p j) s (cu σ s p j) = none := by
  intro hlt
  refine occ_no (fun d hd => isAt_f.mpr ?_)
  rw [ldS_o (by decide)] at hd
  rw [ldS_on hd, ldS_o (b := 5) (by decide), ldS_6]
  rintro ⟨⟨q1, q2⟩, q3, q4⟩
  have od := occ_of hI hd q1
  rw [q3] at od
  split at q4
  · rename_i h
    have := cu_lt od h.2.2.2.1 h.2.2.2.2
    omega
  · rename_i h
    by_cases g : σ 6 d < j
    · exact h ⟨hd, q1, q3, fun q => q2 ⟨q3, q, g⟩, g⟩
    · omega
theorem ldS_n {σ : St} (hI : Inv σ) {s p j : Nat} (h : occ σ s j = none) : ldS σ s p (j + 1) = ldS σ s p j := by
  funext b c
  unfold ldS
  have e : ∀ c, c < σ 8 0 → σ 4 c = 1 → σ 5 c = s → (σ 6 c < j + 1 ↔ σ 6 c < j) := by
    intro c hc h1 h5
    have := occ_none h hc h1 h5
    omega
  by_cases h4 : c < σ 8 0 ∧ σ 4 c = 1 ∧ σ 5 c = s
  · have := e c h4.1 h4.2.1 h4.2.2
    simp only [this]
  · rw [if_neg (fun q => h4 ⟨q.2.1, q.2.2.1, q.2.2.2.1⟩), if_neg (fun q => h4 ⟨q.2.1, q.2.2.1, q.2.2.2.1⟩), if_neg (fun q => h4 ⟨q.2.1, q.2.2.1, q.2.2.2.1⟩), if_neg (fun q => h4 ⟨q.2.1, q.2.2.1, q.2.2.2.1⟩)]
theorem ldS_c {σ : St} (hI : Inv σ) {s p j c : Nat} (h : occ σ s j = some c) : ldS σ s p (j + 1) = if σ 2 c = p then up (ldS σ s p j) 4 c 2 else up (ldS σ s p j) 6 c (cu σ s p j) := by
  obtain ⟨o1, o2, o3, o4⟩ := occ_some h
  have e : ∀ d, d ≠ c → d < σ 8 0 → σ 4 d = 1 → σ 5 d = s → (σ 6 d < j + 1 ↔ σ 6 d < j) := by
    intro d hne hd h1 h5
    have : ¬ σ 6 d = j := fun q => hne (hI.uq d c hd o1 h1 o2 (h5.trans o3.symm) (q.trans o4.symm))
    omega
  have same : ∀ b d, d ≠ c → ldS σ s p (j + 1) b d = ldS σ s p j b d := by
    intro b d hne
    unfold ldS
    by_cases h4 : d < σ 8 0 ∧ σ 4 d = 1 ∧ σ 5 d = s
    · have := e d hne h4.1 h4.2.1 h4.2.2
      simp only [this]
    · rw [if_neg (fun q => h4 ⟨q.2.1, q.2.2.1, q.2.2.2.1⟩), if_neg (fun q => h4 ⟨q.2.1, q.2.2.1, q.2.2.2.1⟩), if_neg (fun q => h4 ⟨q.2.1, q.2.2.1, q.2.2.2.1⟩), if_neg (fun q => h4 ⟨q.2.1, q.2.2.1, q.2.2.2.1⟩)]
  funext b d
  by_cases hd : d = c
  · subst hd
    by_cases g : σ 2 d = p
    · rw [if_pos g]
      by_cases b4 : b = 4
      · subst b4
        rw [up_same, ldS_4, if_pos ⟨o1, o2, o3, g, by omega⟩]
      · rw [up_k b4]
        by_cases b6 : b = 6
        · subst b6
          rw [ldS_6, ldS_6, if_neg (fun q => q.2.2.2.1 g), if_neg (fun q => q.2.2.2.1 g)]
        · rw [ldS_o ⟨b4, b6⟩, ldS_o ⟨b4, b6⟩]
    · rw [if_neg g]
      by_cases b6 : b = 6
      · subst b6
        rw [up_same, ldS_6, if_pos ⟨o1, o2, o3, g, by omega⟩, o4]
      · rw [up_k b6]
        by_cases b4 : b = 4
        · subst b4
          rw [ldS_4, ldS_4, if_neg (fun q => g q.2.2.2.1), if_neg (fun q => g q.2.2.2.1)]
        · rw [ldS_o ⟨b4, b6⟩, ldS_o ⟨b4, b6⟩]
  · rw [same b d hd]
    split
    · rw [up_i hd]
    · rw [up_i hd]
theorem ldS_high {σ : St} (hI : Inv σ) (s p : Nat) : ∀ d, ldS σ s p (high σ s + d) = ldS σ s p (high σ s)
  | 0 => rfl
  | d + 1 => by
    rw [← ldS_high hI s p d]
    by_cases hh : high σ s + d < 4
    · refine ldS_n hI ?_
      cases e : occ σ s (high σ s + d) with
      | none => rfl
      | some c => have := (high_full hI s hh).mp ⟨c, e⟩; omega
    · refine ldS_n hI ?_
      cases e : occ σ s (high σ s + d) with
      | none => rfl
      | some c =>
        have h1 := (occ_some e).2.2.2
        have h2 := (hI.c c).2.2.2.2.2.2
        omega
theorem ldS_top {σ : St} (hI : Inv σ) (s p : Nat) : ldS σ s p (high σ s) = ldS σ s p 4 := by
  have h := high_le hI s
  have := ldS_high hI s p (4 - high σ s)
  rw [show high σ s + (4 - high σ s) = 4 from by omega] at this
  exact this.symm
theorem high_land {σ : St} (hI : Inv σ) (s p : Nat) (k : Nat) : high (ldS σ s p 4) k = if k = s then cu σ s p 4 else high σ k := by
  unfold high
  rw [ldS_o (by decide)]
  by_cases h : k = s
  · subst h
    rw [if_pos rfl, cu, ← sum_occ hI k (fun d => if σ 2 d = p then 0 else 1)]
    refine sumN_congr (fun d hd => ?_)
    have h4 := (hI.c d).2.2.2.2.2.2
    by_cases q : isOn σ d k = true
    · obtain ⟨a1, a2⟩ := isOn_t.mp q
      rw [if_pos q]
      by_cases g : σ 2 d = p
      · rw [if_pos g, if_neg]
        intro q2
        have := (isOn_t.mp q2).1
        rw [ldS_on hd] at this
        exact this.2 ⟨a2, g, h4⟩
      · rw [if_neg g, if_pos]
        exact isOn_t.mpr ⟨(ldS_on hd).mpr ⟨a1, fun w => g w.2.1⟩, by rw [ldS_o (by decide)]; exact a2⟩
    · rw [if_neg q, if_neg]
      intro q2
      obtain ⟨b1, b2⟩ := isOn_t.mp q2
      rw [ldS_o (by decide)] at b2
      exact q (isOn_t.mpr ⟨((ldS_on hd).mp b1).1, b2⟩)
  · rw [if_neg h]
    refine sumN_congr (fun d hd => ?_)
    have : isOn (ldS σ s p 4) d k = isOn σ d k := by
      cases e : isOn σ d k with
      | true =>
        obtain ⟨a1, a2⟩ := isOn_t.mp e
        exact isOn_t.mpr ⟨(ldS_on hd).mpr ⟨a1, fun w => h (a2.symm.trans w.1)⟩, by rw [ldS_o (by decide)]; exact a2⟩
      | false =>
        refine isOn_f.mpr (fun q => isOn_f.mp e ?_)
        rw [ldS_o (b := 5) (by decide)] at q
        exact ⟨((ldS_on hd).mp q.1).1, q.2⟩
    rw [this]
theorem Inv_land {σ : St} (hI : Inv σ) (s p : Nat) : Inv (ldS σ s p 4) := by
  obtain ⟨q1, q2, q3, q4, q5, q6, q7⟩ := id hI
  refine ⟨by simpa [ldS_o (σ := σ) (s := s) (p := p) (j := 4) (b := 8) (by decide)] using q1, fun d => ?_, fun d hd => ?_, fun k => ?_, ldS_uq hI s p 4, fun a j ha a4 hj => ?_, fun d hd => ?_⟩
  · have h := q2 d
    have hcu := cu_le (σ := σ) (s := s) (p := p) (σ 6 d)
    rw [ldS_o (b := 0) (by decide), ldS_o (b := 1) (by decide), ldS_o (b := 2) (by decide), ldS_o (b := 3) (by decide), ldS_o (b := 5) (by decide), ldS_4, ldS_6]
    refine ⟨h.1, h.2.1, h.2.2.1, h.2.2.2.1, ?_, h.2.2.2.2.2.1, ?_⟩
    · split <;> omega
    · split <;> omega
  · rw [ldS_o (by decide)] at hd
    rw [ldS_o (b := 0) (by decide), ldS_o (b := 1) (by decide), ldS_o (b := 2) (by decide)]
    exact q3 d hd
  · rw [ldS_o (by decide)]; exact q4 k
  · rw [ldS_o (by decide)] at ha
    obtain ⟨a1, a2⟩ := (ldS_on ha).mp a4
    rw [ldS_6] at hj
    have h4 := (hI.c a).2.2.2.2.2.2
    by_cases e : σ 5 a = s
    · have ta : ¬ σ 2 a = p := fun q => a2 ⟨e, q, h4⟩
      rw [if_pos ⟨ha, a1, e, ta, h4⟩] at hj
      obtain ⟨i, c, g1, g2, g3, g4⟩ := cu_find hj
      obtain ⟨o1, o2, o3, o4⟩ := occ_some g2
      refine ⟨c, by rw [ldS_o (by decide)]; exact o1, (ldS_on o1).mpr ⟨o2, fun w => g3 w.2.1⟩, by rw [ldS_o (by decide), ldS_o (by decide), o3, e], ?_⟩
      rw [ldS_6, if_pos ⟨o1, o2, o3, g3, by omega⟩, o4]
      exact g4
    · rw [if_neg (fun w => e w.2.2.1)] at hj
      obtain ⟨d, g1, g2, g3, g4⟩ := q6 a j ha a1 hj
      have e' : ¬ σ 5 d = s := fun q => e (g3.symm.trans q)
      refine ⟨d, by rw [ldS_o (by decide)]; exact g1, (ldS_on g1).mpr ⟨g2, fun w => e' w.1⟩, by rw [ldS_o (by decide), ldS_o (by decide)]; exact g3, ?_⟩
      rw [ldS_6, if_neg (fun w => e' w.2.2.1)]
      exact g4
  · rw [ldS_o (by decide)] at hd
    rw [ldS_6, if_neg (by omega)]
    exact q7 d hd
