/-! ===== words for the plan's own methods ===== -/
theorem sum_cut {g : Nat → Nat} {n : Nat} : ∀ {m : Nat}, n ≤ m → sumN (fun i => if i < n then g i else 0) m = sumN g n
  | 0, h => by rw [show n = 0 by omega]; rfl
  | m + 1, h => by
    by_cases e : n = m + 1
    · subst e; exact sumN_congr (fun i hi => if_pos hi)
    · rw [sumN, sum_cut (by omega), if_neg (by omega)]; rfl
theorem sumI_cut {g : Nat → Int} {n : Nat} : ∀ {m : Nat}, n ≤ m → sumI (fun i => if i < n then g i else 0) m = sumI g n
  | 0, h => by rw [show n = 0 by omega]; rfl
  | m + 1, h => by
    by_cases e : n = m + 1
    · subst e; exact sumI_congr (fun i hi => if_pos hi)
    · rw [sumI, sumI_cut (by omega), if_neg (by omega)]; omega
def boxAt (σ : St) (x : Int) : Option Nat := if 0 ≤ x ∧ x < ((σ 8 0 : Nat) : Int) then some x.toNat else none
def stkAt (b r : Int) : Option Nat := if (0 ≤ b ∧ b ≤ 5) ∧ 0 ≤ r ∧ r ≤ 4 then some (5 * b.toNat + r.toNat) else none
def optI (o : Option Nat) : Int := match o with
  | some c => ((c : Nat) : Int)
  | none => -1
def optN (o : Option Nat) (f : Nat → Nat) : Nat := match o with
  | some c => f c
  | none => 0
def arm (b : Bool) (k : Nat) : Int := if b = true then ((2 * (k / 5) : Nat) : Int) - ((5 : Nat) : Int) else ((k % 5 : Nat) : Int) - ((2 : Nat) : Int)
def mom (σ : St) (b : Bool) : Int := sumI (fun c => if σ 4 c = 1 then ((σ 0 c : Nat) : Int) * arm b (σ 5 c) else 0) (σ 8 0)
def clash (σ : St) (c s o : Nat) : Prop := σ 4 o = 1 ∧ 2 ≤ σ 3 o ∧ ¬ σ 3 o = σ 3 c ∧ ¬ apart (σ 5 o) s
def lonely (σ : St) (c s : Nat) : Prop := 2 ≤ σ 3 c → ∀ o, o < σ 8 0 → ¬ clash σ c s o
def allowed (σ : St) (c s : Nat) : Prop := σ 4 c = 0 ∧ σ 1 c = σ 8 4 ∧ high σ s < 4 ∧ wOf σ s + σ 0 c ≤ σ 8 1 ∧ (σ 3 c = 1 → σ 7 s = 1 ∧ high σ s < 2) ∧ lonely σ c s
def fitsSome (σ : St) (c : Nat) : Prop := ∃ s, s < 30 ∧ allowed σ c s
noncomputable def choices (σ : St) (c : Nat) : Nat := sumN (fun s => if cB (allowed σ c s) = true then 1 else 0) 30
def pref (σ : St) (c b : Nat) : Prop := σ 2 b < σ 2 c ∨ σ 2 c = σ 2 b ∧ σ 0 b < σ 0 c
noncomputable def bestB (σ : St) : Nat → Option Nat
  | 0 => none
  | i + 1 => if cB (fitsSome σ i ∧ ∀ b, bestB σ i = some b → pref σ i b) = true then some i else bestB σ i
def nearL (σ : St) (t : Bool) (c s : Nat) : Nat := Int.natAbs (mom σ t + ((σ 0 c : Nat) : Int) * arm t s)
def better (σ : St) (c s o : Nat) : Prop := earlier σ s (σ 2 c) < earlier σ o (σ 2 c) ∨ earlier σ s (σ 2 c) = earlier σ o (σ 2 c) ∧ (nearL σ false c s < nearL σ false c o ∨ nearL σ false c s = nearL σ false c o ∧ nearL σ true c s < nearL σ true c o)
noncomputable def bestS (σ : St) (c : Nat) : Nat → Option Nat
  | 0 => none
  | i + 1 => if cB (allowed σ c i ∧ ∀ b, bestS σ c i = some b → better σ c i b) = true then some i else bestS σ c i
theorem bestB_lt {σ : St} : ∀ {i b : Nat}, bestB σ i = some b → b < i
  | 0, b, h => by cases h
  | i + 1, b, h => by
    rw [bestB] at h
    split at h
    · cases h; omega
    · have := bestB_lt h; omega
theorem bestB_fits {σ : St} : ∀ {i b : Nat}, bestB σ i = some b → fitsSome σ b
  | 0, b, h => by cases h
  | i + 1, b, h => by
    rw [bestB] at h
    split at h
    · rename_i q; cases h; exact (cB_t.mp q).1
    · exact bestB_fits h
theorem bestS_lt {σ : St} {c : Nat} : ∀ {i b : Nat}, bestS σ c i = some b → b < i
  | 0, b, h => by cases h
  | i + 1, b, h => by
    rw [bestS] at h
    split at h
    · cases h; omega
    · have := bestS_lt h; omega
theorem bestS_ok {σ : St} {c : Nat} : ∀ {i b : Nat}, bestS σ c i = some b → allowed σ c b
  | 0, b, h => by cases h
  | i + 1, b, h => by
    rw [bestS] at h
    split at h
    · rename_i q; cases h; exact (cB_t.mp q).1
    · exact bestS_ok h
theorem bestS_some {σ : St} {c : Nat} : ∀ {i s : Nat}, s < i → allowed σ c s → ∃ b, bestS σ c i = some b
  | 0, s, h, _ => by omega
  | i + 1, s, h, ha => by
    rw [bestS]
    split
    · exact ⟨i, rfl⟩
    · rename_i q
      by_cases e : s = i
      · subst e
        cases hb : bestS σ c s with
        | some b => exact ⟨b, rfl⟩
        | none => exact absurd (cB_t.mpr ⟨ha, fun b q => by rw [hb] at q; cases q⟩) q
      · exact bestS_some (by omega) ha
theorem arm_le (b : Bool) {k : Nat} (hk : k < 30) : -5 ≤ arm b k ∧ arm b k ≤ 5 := by
  unfold arm; split <;> omega
theorem mul_le {w : Nat} {a : Int} (hw : w ≤ 30) (ha : -5 ≤ a ∧ a ≤ 5) : -150 ≤ ((w : Nat) : Int) * a ∧ ((w : Nat) : Int) * a ≤ 150 := by
  have h1 : ((w : Nat) : Int) * a ≤ (w : Int) * 5 := Int.mul_le_mul_of_nonneg_left ha.2 (by omega)
  have h2 : (w : Int) * (-5) ≤ ((w : Nat) : Int) * a := Int.mul_le_mul_of_nonneg_left ha.1 (by omega)
  omega
theorem mom_le {σ : St} (hI : Inv σ) (b : Bool) : -6000 ≤ mom σ b ∧ mom σ b ≤ 6000 := by
  have h := sumI_abs (f := fun c => if σ 4 c = 1 then ((σ 0 c : Nat) : Int) * arm b (σ 5 c) else 0) (b := 150) (fun c => by
    have hc := hI.c c
    split
    · exact mul_le hc.1 (arm_le b hc.2.2.2.2.2.1)
    · omega) (σ 8 0)
  have hn := hI.n
  have : ((σ 8 0 * 150 : Nat) : Int) ≤ 6000 := by omega
  unfold mom
  omega
/-- the moment, stack by stack -/
theorem mom_stk {σ : St} (hI : Inv σ) (b : Bool) : sumI (fun k => ((wOf σ k : Nat) : Int) * arm b k) 30 = mom σ b := by
  have h1 : ∀ k, k < 30 → ((wOf σ k : Nat) : Int) * arm b k = sumI (fun c => if isOn σ c k = true then ((σ 0 c : Nat) : Int) * arm b k else 0) (σ 8 0) := by
    intro k _
    rw [wOf, sumI_N, sumI_mul]
    refine sumI_congr (fun c _ => ?_)
    split
    · rfl
    · simp
  rw [sumI_congr h1, sumI_swap, mom]
  refine sumI_congr (fun c hc => ?_)
  have h5 := (hI.c c).2.2.2.2.2.1
  by_cases h : σ 4 c = 1
  · rw [if_pos h, sumI_one h5 (fun k hk hne => if_neg (fun q => hne (isOn_t.mp q).2.symm)), if_pos (isOn_t.mpr ⟨h, rfl⟩)]
  · rw [if_neg h]
    exact sumI_zero (fun k _ => if_neg (fun q => h (isOn_t.mp q).1))
theorem apart_symm {a b : Nat} : apart a b ↔ apart b a := by
  unfold apart dist; constructor <;> omega
def blk (σ : St) (c : Nat) : Prop := σ 4 c = 1 ∧ later σ (σ 5 c) (σ 6 c) (σ 2 c)
noncomputable def blkN (σ : St) : Nat := sumN (fun c => if cB (blk σ c) = true then 1 else 0) (σ 8 0)
def cntP (σ : St) (b : Bool) (c : Nat) : Prop := (b = true → σ 4 c = 0 ∧ σ 1 c = σ 8 4) ∧ (b = false → σ 4 c = 1)
noncomputable def cnt (σ : St) (b : Bool) : Nat := sumN (fun c => if cB (cntP σ b c) = true then 1 else 0) (σ 8 0)
def frP (σ : St) (k : Nat) : Nat := if σ 7 k = 0 then 0 else 2 - high σ k
def frPl (σ : St) : Nat := sumN (frP σ) 30
def mx (d x : Int64) : Int64 := d * 31 + x
def iL (a : Int) : Int64 := (iI a).toInt64
def dQ (σ : St) (d : Int64) (c : Nat) : Nat → Int64
  | 0 => d
  | q + 1 => mx (dQ σ d c q) (iL ((σ q c : Nat) : Int))
def dBx (σ : St) (d : Int64) (c : Nat) : Int64 := mx (dQ σ d c 5) (iL (plc σ c))
def dAll (σ : St) (d : Int64) : Nat → Int64
  | 0 => d
  | c + 1 => dBx σ (dAll σ d c) c
def pL (x : Nat) : Int64 := if x = 0 then 0 else 1
def dPl (σ : St) (d : Int64) : Nat → Int64
  | 0 => d
  | k + 1 => mx (dPl σ d k) (pL (σ 7 k))
def dig0 (σ : St) : Int64 := dAll σ (mx (mx 283 (iL ((σ 8 4 : Nat) : Int))) (iL ((σ 8 0 : Nat) : Int))) (σ 8 0)
def dig1 (σ : St) : Int64 := dPl σ (mx (mx (mx (dig0 σ) (iL ((σ 8 1 : Nat) : Int))) (iL ((σ 8 2 : Nat) : Int))) (iL ((σ 8 3 : Nat) : Int))) 30
def dig (σ : St) : Int64 := mx (mx (mx (dig1 σ) (iL (mom σ false))) (iL (mom σ true))) (iL ((σ 8 5 : Nat) : Int))
theorem nearL_le {σ : St} (hI : Inv σ) (t : Bool) (c : Nat) {s : Nat} (hs : s < 30) : nearL σ t c s ≤ 7000 := by
  have h1 := mul_le (hI.c c).1 (arm_le t hs)
  have h2 := mom_le hI t
  unfold nearL
  omega
theorem bestS_take {σ : St} {c i : Nat} (h : allowed σ c i) (h2 : ∀ b, bestS σ c i = some b → better σ c i b) : bestS σ c (i + 1) = some i := by
  show (if cB (allowed σ c i ∧ ∀ b, bestS σ c i = some b → better σ c i b) = true then some i else bestS σ c i) = some i
  exact if_pos (cB_t.mpr ⟨h, h2⟩)
theorem bestS_no {σ : St} {c i : Nat} {o : Option Nat} (e : bestS σ c i = o) (h : ¬ allowed σ c i) : bestS σ c (i + 1) = o := by
  show (if cB (allowed σ c i ∧ ∀ b, bestS σ c i = some b → better σ c i b) = true then some i else bestS σ c i) = o
  rw [if_neg (fun q => h (cB_t.mp q).1)]
  exact e
theorem bestS_nb {σ : St} {c i b : Nat} (e : bestS σ c i = some b) (h : ¬ better σ c i b) : bestS σ c (i + 1) = some b := by
  show (if cB (allowed σ c i ∧ ∀ b, bestS σ c i = some b → better σ c i b) = true then some i else bestS σ c i) = some b
  rw [if_neg (fun q => h ((cB_t.mp q).2 b e))]
  exact e
