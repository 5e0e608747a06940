/-! ===== sums ===== -/
theorem sumN_congr {f g : Nat → Nat} : ∀ {n : Nat}, (∀ i, i < n → f i = g i) → sumN f n = sumN g n
  | 0, _ => rfl
  | n + 1, h => by rw [sumN, sumN, sumN_congr (fun i hi => h i (by omega)), h n (by omega)]
theorem sumN_zero {f : Nat → Nat} : ∀ {n : Nat}, (∀ i, i < n → f i = 0) → sumN f n = 0
  | 0, _ => rfl
  | n + 1, h => by rw [sumN, sumN_zero (fun i hi => h i (by omega)), h n (by omega)]
theorem sumN_one {f : Nat → Nat} {a : Nat} : ∀ {n : Nat}, a < n → (∀ i, i < n → i ≠ a → f i = 0) → sumN f n = f a
  | 0, h, _ => by omega
  | n + 1, h, h2 => by
    rw [sumN]
    by_cases e : a = n
    · rw [sumN_zero (fun i hi => h2 i (by omega) (by omega)), e]; omega
    · rw [sumN_one (by omega) (fun i hi => h2 i (by omega)), h2 n (by omega) (by omega)]; rfl
theorem sumN_add {f g : Nat → Nat} : ∀ {n : Nat}, sumN (fun i => f i + g i) n = sumN f n + sumN g n
  | 0 => rfl
  | n + 1 => by rw [sumN, sumN, sumN, sumN_add]; omega
theorem sumN_swap {f : Nat → Nat → Nat} {m : Nat} : ∀ {n : Nat}, sumN (fun i => sumN (fun j => f i j) m) n = sumN (fun j => sumN (fun i => f i j) n) m
  | 0 => by rw [sumN]; exact (sumN_zero (fun _ _ => rfl)).symm
  | n + 1 => by
    rw [sumN, sumN_swap]
    show _ = sumN (fun j => sumN (fun i => f i j) n + f n j) m
    rw [sumN_add]
theorem sumN_mono {f g : Nat → Nat} : ∀ {n : Nat}, (∀ i, i < n → f i ≤ g i) → sumN f n ≤ sumN g n
  | 0, _ => Nat.le_refl _
  | n + 1, h => by
    rw [sumN, sumN]
    have := sumN_mono (n := n) (fun i hi => h i (by omega))
    have := h n (by omega)
    omega
theorem sumI_congr {f g : Nat → Int} : ∀ {n : Nat}, (∀ i, i < n → f i = g i) → sumI f n = sumI g n
  | 0, _ => rfl
  | n + 1, h => by rw [sumI, sumI, sumI_congr (fun i hi => h i (by omega)), h n (by omega)]
theorem sumI_zero {f : Nat → Int} : ∀ {n : Nat}, (∀ i, i < n → f i = 0) → sumI f n = 0
  | 0, _ => rfl
  | n + 1, h => by rw [sumI, sumI_zero (fun i hi => h i (by omega)), h n (by omega)]; rfl
theorem sumI_one {f : Nat → Int} {a : Nat} : ∀ {n : Nat}, a < n → (∀ i, i < n → i ≠ a → f i = 0) → sumI f n = f a
  | 0, h, _ => by omega
  | n + 1, h, h2 => by
    rw [sumI]
    by_cases e : a = n
    · rw [sumI_zero (fun i hi => h2 i (by omega) (by omega)), e]; omega
    · rw [sumI_one (by omega) (fun i hi => h2 i (by omega)), h2 n (by omega) (by omega)]; omega
theorem sumI_add {f g : Nat → Int} : ∀ {n : Nat}, sumI (fun i => f i + g i) n = sumI f n + sumI g n
  | 0 => rfl
  | n + 1 => by rw [sumI, sumI, sumI, sumI_add]; omega
theorem sumI_swap {f : Nat → Nat → Int} {m : Nat} : ∀ {n : Nat}, sumI (fun i => sumI (fun j => f i j) m) n = sumI (fun j => sumI (fun i => f i j) n) m
  | 0 => by rw [sumI]; exact (sumI_zero (fun _ _ => rfl)).symm
  | n + 1 => by
    rw [sumI, sumI_swap]
    show _ = sumI (fun j => sumI (fun i => f i j) n + f n j) m
    rw [sumI_add]
theorem sumI_mul {f : Nat → Int} {a : Int} : ∀ {n : Nat}, sumI f n * a = sumI (fun i => f i * a) n
  | 0 => by rw [sumI, sumI]; omega
  | n + 1 => by rw [sumI, sumI, Int.add_mul, sumI_mul]
theorem sumI_N {f : Nat → Nat} : ∀ {n : Nat}, ((sumN f n : Nat) : Int) = sumI (fun i => ((f i : Nat) : Int)) n
  | 0 => rfl
  | n + 1 => by rw [sumN, sumI, ← sumI_N]; omega
theorem sumI_abs {f : Nat → Int} {b : Nat} (h : ∀ i, -(b : Int) ≤ f i ∧ f i ≤ b) : ∀ n : Nat, -((n * b : Nat) : Int) ≤ sumI f n ∧ sumI f n ≤ ((n * b : Nat) : Int)
  | 0 => by simp [sumI]
  | n + 1 => by
    have h1 := sumI_abs h n
    have h2 := h n
    rw [sumI, Nat.succ_mul]
    omega
def ocN (σ : St) (k : Nat) (g : Nat → Nat) (j : Nat) : Nat := match occ σ k j with
  | some c => g c
  | none => 0
theorem ocN_s {σ : St} {k j c : Nat} {g : Nat → Nat} (h : occ σ k j = some c) : ocN σ k g j = g c := by rw [ocN, h]
theorem ocN_n {σ : St} {k j : Nat} {g : Nat → Nat} (h : occ σ k j = none) : ocN σ k g j = 0 := by rw [ocN, h]
theorem ocN_le {σ : St} {k j b : Nat} {g : Nat → Nat} (h : ∀ c, g c ≤ b) : ocN σ k g j ≤ b := by
  cases e : occ σ k j with
  | none => rw [ocN_n e]; omega
  | some c => rw [ocN_s e]; exact h c
/-- what stands in a stack, container by container, and tier by tier -/
theorem sum_occ {σ : St} (hI : Inv σ) (k : Nat) (g : Nat → Nat) : sumN (fun c => if isOn σ c k = true then g c else 0) (σ 8 0) = sumN (ocN σ k g) 4 := by
  have h1 : ∀ c, c < σ 8 0 → (if isOn σ c k = true then g c else 0) = sumN (fun j => if occ σ k j = some c then g c else 0) 4 := by
    intro c hc
    by_cases h : isOn σ c k = true
    · rw [if_pos h]
      obtain ⟨a1, a2⟩ := isOn_t.mp h
      have h4 := (hI.c c).2.2.2.2.2.2
      have ho := occ_of hI hc a1
      rw [a2] at ho
      rw [sumN_one (a := σ 6 c) h4 (fun j hj hne => if_neg (fun q => hne (occ_some q).2.2.2.symm)), if_pos ho]
    · rw [if_neg h]
      exact (sumN_zero (fun j hj => if_neg (fun q => h (isOn_t.mpr ⟨(occ_some q).2.1, (occ_some q).2.2.1⟩)))).symm
  rw [sumN_congr h1, sumN_swap]
  refine sumN_congr (fun j hj => ?_)
  cases h : occ σ k j with
  | none => rw [ocN_n h]; exact sumN_zero (fun c hc => if_neg (fun q => by cases q))
  | some c =>
    have hc := (occ_some h).1
    rw [ocN_s h]
    rw [sumN_one hc (fun i hi hne => if_neg (fun q => hne (Option.some.inj q).symm)), if_pos rfl]
theorem high_le {σ : St} (hI : Inv σ) (k : Nat) : high σ k ≤ 4 := by
  rw [high, sum_occ hI k (fun _ => 1)]
  have := sumN_le (f := ocN σ k (fun _ => 1)) (b := 1) (fun j => ocN_le (fun _ => Nat.le_refl 1)) 4
  omega
theorem wOf_le {σ : St} (hI : Inv σ) (k : Nat) : wOf σ k ≤ 120 := by
  rw [wOf, sum_occ hI k (fun c => σ 0 c)]
  have := sumN_le (f := ocN σ k (fun c => σ 0 c)) (b := 30) (fun j => ocN_le (fun c => (hI.c c).1)) 4
  omega
/-! tiers are filled from below -/
theorem high_full {σ : St} (hI : Inv σ) (k : Nat) {j : Nat} (hj : j < 4) : (∃ c, occ σ k j = some c) ↔ j < high σ k := by
  have e : high σ k = sumN (ocN σ k (fun _ => 1)) 4 := sum_occ hI k (fun _ => 1)
  have down : ∀ j j', j' < j → (∃ c, occ σ k j = some c) → ∃ c, occ σ k j' = some c := by
    rintro j j' hlt ⟨c, hc⟩
    obtain ⟨a1, a2, a3, a4⟩ := occ_some hc
    obtain ⟨d, b1, b2, b3, b4⟩ := hI.2.2.2.2.2.1 c j' a1 a2 (by omega)
    have := occ_of hI b1 b2
    rw [b3, a3, b4] at this
    exact ⟨d, this⟩
  have v : ∀ j, (∃ c, occ σ k j = some c) ∧ ocN σ k (fun _ => 1) j = 1 ∨ (¬ ∃ c, occ σ k j = some c) ∧ ocN σ k (fun _ => 1) j = 0 := by
    intro j
    cases h : occ σ k j with
    | none => right; exact ⟨by (rintro ⟨c, q⟩; cases q), ocN_n h⟩
    | some c => left; exact ⟨⟨c, rfl⟩, ocN_s h⟩
  have e2 : sumN (ocN σ k (fun _ => 1)) 4 = ocN σ k (fun _ => 1) 0 + ocN σ k (fun _ => 1) 1 + ocN σ k (fun _ => 1) 2 + ocN σ k (fun _ => 1) 3 := by simp [sumN]
  rw [e, e2]
  have d1 := down 1 0 (by omega)
  have d2 := down 2 1 (by omega)
  have d3 := down 3 2 (by omega)
  rcases v 0 with ⟨a0, b0⟩ | ⟨a0, b0⟩ <;> rcases v 1 with ⟨a1, b1⟩ | ⟨a1, b1⟩ <;> rcases v 2 with ⟨a2, b2⟩ | ⟨a2, b2⟩ <;> rcases v 3 with ⟨a3, b3⟩ | ⟨a3, b3⟩ <;>
    first
    | exact absurd (d1 a1) a0
    | exact absurd (d2 a2) a1
    | exact absurd (d3 a3) a2
    | (rw [b0, b1, b2, b3]
       rcases (show j = 0 ∨ j = 1 ∨ j = 2 ∨ j = 3 by omega) with rfl | rfl | rfl | rfl <;> simp [*])
/-! ===== further words for what is told ===== -/
def occI (σ : St) (k : Nat) (t : Int) : Option Nat := if 0 ≤ t ∧ t < 4 then occ σ k t.toNat else none
def dist (a b : Nat) : Nat := Int.natAbs ((a : Int) - (b : Int))
def apart (a b : Nat) : Prop := 2 ≤ dist (a / 5) (b / 5) ∨ (dist (a / 5) (b / 5) = 1 ∧ 2 ≤ dist (a % 5) (b % 5))
def reef (σ : St) (k : Nat) : Prop := ∃ c, c < σ 8 0 ∧ σ 4 c = 1 ∧ σ 5 c = k ∧ σ 3 c = 1
def later (σ : St) (k t p : Nat) : Prop := ∃ c, c < σ 8 0 ∧ σ 4 c = 1 ∧ σ 5 c = k ∧ t < σ 6 c ∧ p < σ 2 c
def earlier (σ : St) (k t : Nat) : Nat := sumN (fun c => if isOn σ c k = true then (if σ 2 c < t then 1 else 0) else 0) (σ 8 0)
/-- one for the port stands below c in its stack, and c is for another port -/
def lifC (σ : St) (p c : Nat) : Prop := ¬ σ 2 c = p ∧ ∃ d, d < σ 8 0 ∧ σ 4 d = 1 ∧ σ 5 d = σ 5 c ∧ σ 2 d = p ∧ σ 6 d < σ 6 c
noncomputable def lifS (σ : St) (k p : Nat) : Nat := sumN (fun c => if isOn σ c k = true then (if cB (lifC σ p c) = true then 1 else 0) else 0) (σ 8 0)
theorem earlier_occ {σ : St} (hI : Inv σ) (k t : Nat) : earlier σ k t = sumN (ocN σ k (fun c => if σ 2 c < t then 1 else 0)) 4 := sum_occ hI k (fun c => if σ 2 c < t then 1 else 0)
theorem lifS_occ {σ : St} (hI : Inv σ) (k p : Nat) : lifS σ k p = sumN (ocN σ k (fun c => if cB (lifC σ p c) = true then 1 else 0)) 4 := sum_occ hI k (fun c => if cB (lifC σ p c) = true then 1 else 0)
theorem wOf_occ {σ : St} (hI : Inv σ) (k : Nat) : wOf σ k = sumN (ocN σ k (fun c => σ 0 c)) 4 := sum_occ hI k (fun c => σ 0 c)
theorem earlier_le {σ : St} (hI : Inv σ) (k t : Nat) : earlier σ k t ≤ 4 := by
  rw [earlier_occ hI]
  have := sumN_le (f := ocN σ k (fun c => if σ 2 c < t then 1 else 0)) (b := 1) (fun j => ocN_le (fun c => by split <;> omega)) 4
  omega
theorem lifS_le {σ : St} (hI : Inv σ) (k p : Nat) : lifS σ k p ≤ 4 := by
  rw [lifS_occ hI]
  have := sumN_le (f := ocN σ k (fun c => if cB (lifC σ p c) = true then 1 else 0)) (b := 1) (fun j => ocN_le (fun c => by split <;> omega)) 4
  omega
/-- a fact about each container of a stack, tier by tier -/
theorem al_n {σ : St} {k i : Nat} {P : Nat → Prop} (h : ∀ j, j < i → ∀ c, occ σ k j = some c → P c) (hn : occ σ k i = none) : ∀ j, j < i + 1 → ∀ c, occ σ k j = some c → P c := by
  intro j hj c hc
  by_cases e : j = i
  · subst e; rw [hn] at hc; cases hc
  · exact h j (by omega) c hc
theorem al_s {σ : St} {k i b : Nat} {P : Nat → Prop} (h : ∀ j, j < i → ∀ c, occ σ k j = some c → P c) (hs : occ σ k i = some b) (hb : P b) : ∀ j, j < i + 1 → ∀ c, occ σ k j = some c → P c := by
  intro j hj c hc
  by_cases e : j = i
  · subst e; rw [hs] at hc; cases hc; exact hb
  · exact h j (by omega) c hc
theorem al_all {σ : St} (hI : Inv σ) {k : Nat} {P : Nat → Prop} (h : ∀ j, j < 4 → ∀ c, occ σ k j = some c → P c) {c : Nat} (hc : c < σ 8 0) (h1 : σ 4 c = 1) (h2 : σ 5 c = k) : P c := by
  have ho := occ_of hI hc h1
  rw [h2] at ho
  exact h (σ 6 c) (hI.c c).2.2.2.2.2.2 c ho
/-- one for the port among the tiers below -/
def flg (σ : St) (k p i : Nat) : Prop := ∃ j, j < i ∧ ∃ c, occ σ k j = some c ∧ σ 2 c = p
theorem flg_0 {σ : St} {k p : Nat} : cB (flg σ k p 0) = false := cB_f.mpr (by rintro ⟨j, hj, -⟩; omega)
theorem flg_t {σ : St} {k p i c : Nat} (h : occ σ k i = some c) (h2 : σ 2 c = p) : cB (flg σ k p (i + 1)) = true := cB_t.mpr ⟨i, by omega, c, h, h2⟩
theorem flg_n {σ : St} {k p i : Nat} (h : ∀ c, occ σ k i = some c → ¬ σ 2 c = p) : cB (flg σ k p (i + 1)) = cB (flg σ k p i) := cB_congr ⟨by
  rintro ⟨j, hj, c, h1, h2⟩
  by_cases e : j = i
  · subst e; exact absurd h2 (h c h1)
  · exact ⟨j, by omega, c, h1, h2⟩, by
  rintro ⟨j, hj, c, h1, h2⟩
  exact ⟨j, by omega, c, h1, h2⟩⟩
theorem lif_flg {σ : St} (hI : Inv σ) {k p i c : Nat} (h : occ σ k i = some c) (h2 : ¬ σ 2 c = p) : lifC σ p c ↔ flg σ k p i := by
  obtain ⟨a1, a2, a3, a4⟩ := occ_some h
  constructor
  · rintro ⟨-, d, b1, b2, b3, b4, b5⟩
    have ho := occ_of hI b1 b2
    rw [b3, a3] at ho
    exact ⟨σ 6 d, by omega, d, ho, b4⟩
  · rintro ⟨j, hj, d, b1, b2⟩
    obtain ⟨c1, c2, c3, c4⟩ := occ_some b1
    exact ⟨h2, d, c1, c2, by rw [c3, a3], b2, by omega⟩
def plc (σ : St) (c : Nat) : Int := if σ 4 c = 1 then ((100 * (σ 5 c / 5) + 10 * (σ 5 c % 5) + σ 6 c : Nat) : Int) else -1
theorem plc_le {σ : St} (hI : Inv σ) (c : Nat) : -1 ≤ plc σ c ∧ plc σ c ≤ 600 := by
  have := hI.c c
  unfold plc
  split <;> omega
