/-! ===== the state of a plan, in numbers: sigma 0..4 weight, from, to, kind, state of a container; 5 its stack, 6 its tier; 7 a stack's plug; 8: 0 how many, 1 2 3 the limits, 4 the port, 5 lifted ===== -/
abbrev St : Type := Nat → Nat → Nat
def up (σ : St) (a i v : Nat) : St := fun b j => if b = a ∧ j = i then v else σ b j
theorem up_same (σ : St) (a i v : Nat) : up σ a i v a i = v := by simp [up]
theorem up_ne {σ : St} {a i v b j : Nat} (h : ¬ (b = a ∧ j = i)) : up σ a i v b j = σ b j := by simp only [up, if_neg h]
def sumN (f : Nat → Nat) : Nat → Nat
  | 0 => 0
  | n + 1 => sumN f n + f n
def sumI (f : Nat → Int) : Nat → Int
  | 0 => 0
  | n + 1 => sumI f n + f n
theorem sumN_le {f : Nat → Nat} {b : Nat} (h : ∀ i, f i ≤ b) : ∀ n, sumN f n ≤ n * b
  | 0 => by simp [sumN]
  | n + 1 => by
    have := sumN_le h n
    have := h n
    rw [sumN, Nat.succ_mul]
    omega
def isOn (σ : St) (c k : Nat) : Bool := decide (σ 4 c = 1 ∧ σ 5 c = k)
def high (σ : St) (k : Nat) : Nat := sumN (fun c => if isOn σ c k = true then 1 else 0) (σ 8 0)
def wOf (σ : St) (k : Nat) : Nat := sumN (fun c => if isOn σ c k = true then σ 0 c else 0) (σ 8 0)
def isAt (σ : St) (k j c : Nat) : Bool := decide (isOn σ c k = true ∧ σ 6 c = j)
def occ (σ : St) (k j : Nat) : Option Nat := (List.range (σ 8 0)).find? (isAt σ k j)
def Inv (σ : St) : Prop :=
  (σ 8 0 ≤ 40 ∧ (1 ≤ σ 8 1 ∧ σ 8 1 ≤ 120) ∧ σ 8 2 ≤ 1000 ∧ σ 8 3 ≤ 1000 ∧ σ 8 4 ≤ 5 ∧ σ 8 5 ≤ 40 * σ 8 4) ∧
  (∀ c, σ 0 c ≤ 30 ∧ σ 1 c ≤ 4 ∧ σ 2 c ≤ 5 ∧ σ 3 c ≤ 4 ∧ σ 4 c ≤ 2 ∧ σ 5 c < 30 ∧ σ 6 c < 4) ∧
  (∀ c, c < σ 8 0 → 1 ≤ σ 0 c ∧ σ 1 c < σ 2 c) ∧ (∀ k, σ 7 k ≤ 1) ∧
  (∀ c d, c < σ 8 0 → d < σ 8 0 → σ 4 c = 1 → σ 4 d = 1 → σ 5 c = σ 5 d → σ 6 c = σ 6 d → c = d) ∧
  (∀ c j, c < σ 8 0 → σ 4 c = 1 → j < σ 6 c → ∃ d, d < σ 8 0 ∧ σ 4 d = 1 ∧ σ 5 d = σ 5 c ∧ σ 6 d = j) ∧
  (∀ c, σ 8 0 ≤ c → σ 6 c = 0)
theorem Inv.n {σ : St} (h : Inv σ) : σ 8 0 ≤ 40 := h.1.1
theorem Inv.lim {σ : St} (h : Inv σ) : (1 ≤ σ 8 1 ∧ σ 8 1 ≤ 120) ∧ σ 8 2 ≤ 1000 ∧ σ 8 3 ≤ 1000 ∧ σ 8 4 ≤ 5 ∧ σ 8 5 ≤ 200 := ⟨h.1.2.1, h.1.2.2.1, h.1.2.2.2.1, h.1.2.2.2.2.1, by have := h.1.2.2.2.2; omega⟩
theorem Inv.c {σ : St} (h : Inv σ) (c : Nat) : σ 0 c ≤ 30 ∧ σ 1 c ≤ 4 ∧ σ 2 c ≤ 5 ∧ σ 3 c ≤ 4 ∧ σ 4 c ≤ 2 ∧ σ 5 c < 30 ∧ σ 6 c < 4 := h.2.1 c
theorem Inv.pos {σ : St} (h : Inv σ) {c : Nat} (hc : c < σ 8 0) : 1 ≤ σ 0 c ∧ σ 1 c < σ 2 c := h.2.2.1 c hc
theorem Inv.pl {σ : St} (h : Inv σ) (k : Nat) : σ 7 k ≤ 1 := h.2.2.2.1 k
theorem isOn_t {σ : St} {c k : Nat} : isOn σ c k = true ↔ σ 4 c = 1 ∧ σ 5 c = k := by simp [isOn]
theorem isOn_f {σ : St} {c k : Nat} : isOn σ c k = false ↔ ¬ (σ 4 c = 1 ∧ σ 5 c = k) := by simp [isOn]
theorem isAt_t {σ : St} {k j c : Nat} : isAt σ k j c = true ↔ σ 4 c = 1 ∧ σ 5 c = k ∧ σ 6 c = j := by simp [isAt, isOn, and_assoc]
theorem occ_some {σ : St} {k j c : Nat} (h : occ σ k j = some c) : c < σ 8 0 ∧ σ 4 c = 1 ∧ σ 5 c = k ∧ σ 6 c = j := by
  have h1 := List.find?_some h
  have h2 := List.mem_of_find?_eq_some h
  exact ⟨List.mem_range.mp h2, isAt_t.mp h1⟩
theorem occ_none {σ : St} {k j : Nat} (h : occ σ k j = none) {c : Nat} (hc : c < σ 8 0) (h1 : σ 4 c = 1) (h2 : σ 5 c = k) : ¬ σ 6 c = j := by
  intro h3
  have := List.find?_eq_none.mp h c (List.mem_range.mpr hc)
  exact this (isAt_t.mpr ⟨h1, h2, h3⟩)
theorem occ_of {σ : St} (hI : Inv σ) {c : Nat} (hc : c < σ 8 0) (h1 : σ 4 c = 1) : occ σ (σ 5 c) (σ 6 c) = some c := by
  cases h : occ σ (σ 5 c) (σ 6 c) with
  | none => exact absurd rfl (occ_none h hc h1 rfl)
  | some d =>
    obtain ⟨a1, a2, a3, a4⟩ := occ_some h
    rw [hI.2.2.2.2.1 d c a1 hc a2 h1 a3 a4]
/-! ===== the cells ===== -/
abbrev fw_T (cA : Nat → ClassId) : List (ClassId × FieldType) := [(cA 0, .int), (cA 0, .int), (cA 2, .object RX0), (cA 3, .object RX1)]
def cPlan (ad : fw_Ad) (σ : St) : va_E := .inr (2, [.ref (ad 1 0), .ref (ad 2 0), .int (iI (σ 8 0 : Nat)), .int (iI (σ 8 4 : Nat)), .int (iI (σ 8 1 : Nat)), .int (iI (σ 8 2 : Nat)), .int (iI (σ 8 3 : Nat)), .int (iI (σ 8 5 : Nat))])
def cBoxes (cA : Nat → ClassId) (ad : fw_Ad) (σ : St) : va_E := .inl (cA 2, 40, .inr (.inr (.inr (.inr (fun j => if j < σ 8 0 then some (ad 5 j) else none)))))
def cStacks (cA : Nat → ClassId) (ad : fw_Ad) : va_E := .inl (cA 3, 30, .inr (.inr (.inr (.inr (fun j => some (ad 3 j))))))
def cStack (ad : fw_Ad) (σ : St) (k : Nat) : va_E := .inr (1, [.int (iI ((k / 5 : Nat) : Int)), .int (iI ((k % 5 : Nat) : Int)), .ref (ad 4 k), .int (iI (high σ k : Nat)), .int (iI (σ 7 k : Nat))])
def cArr (cA : Nat → ClassId) (ad : fw_Ad) (σ : St) (k : Nat) : va_E := .inl (cA 2, 4, .inr (.inr (.inr (.inr (fun j => (occ σ k j).map (ad 5))))))
def cBox (ad : fw_Ad) (σ : St) (c : Nat) : va_E := .inr (0, [.int (iI (c : Nat)), .int (iI (σ 0 c : Nat)), .int (iI (σ 1 c : Nat)), .int (iI (σ 2 c : Nat)), .int (iI (σ 3 c : Nat)), .int (iI (bI (decide (σ 4 c = 2)))), va_rf (if σ 4 c = 1 then some (ad 3 (σ 5 c)) else none), .int (iI (σ 6 c : Nat))])
def WC (cA : Nat → ClassId) (ad : fw_Ad) (σ : St) (μ : fw_W) : fw_W := fun b j =>
  match b with
  | 0 => if j = 0 then some (cPlan ad σ) else none
  | 1 => if j = 0 then some (cBoxes cA ad σ) else none
  | 2 => if j = 0 then some (cStacks cA ad) else none
  | 3 => if j < 30 then some (cStack ad σ j) else none
  | 4 => if j < 30 then some (cArr cA ad σ j) else none
  | 5 => if j < σ 8 0 then some (cBox ad σ j) else none
  | _ => μ b j
theorem WC_0 {cA : Nat → ClassId} {ad : fw_Ad} {σ : St} {μ : fw_W} : WC cA ad σ μ 0 0 = some (cPlan ad σ) := rfl
theorem WC_1 {cA : Nat → ClassId} {ad : fw_Ad} {σ : St} {μ : fw_W} : WC cA ad σ μ 1 0 = some (cBoxes cA ad σ) := rfl
theorem WC_2 {cA : Nat → ClassId} {ad : fw_Ad} {σ : St} {μ : fw_W} : WC cA ad σ μ 2 0 = some (cStacks cA ad) := rfl
theorem WC_3 {cA : Nat → ClassId} {ad : fw_Ad} {σ : St} {μ : fw_W} {k : Nat} (h : k < 30) : WC cA ad σ μ 3 k = some (cStack ad σ k) := if_pos h
theorem WC_4 {cA : Nat → ClassId} {ad : fw_Ad} {σ : St} {μ : fw_W} {k : Nat} (h : k < 30) : WC cA ad σ μ 4 k = some (cArr cA ad σ k) := if_pos h
theorem WC_5 {cA : Nat → ClassId} {ad : fw_Ad} {σ : St} {μ : fw_W} {k : Nat} (h : k < σ 8 0) : WC cA ad σ μ 5 k = some (cBox ad σ k) := if_pos h
def cMod (ad : fw_Ad) (σ : St) (th u a : Int) : va_E := .inr (3, [.int (iI th), .int (iI (σ 8 0 : Nat)), .ref (ad 11 0), .ref (ad 12 0), .ref (ad 13 0), .ref (ad 14 0), .int (iI (σ 8 1 : Nat)), .int (iI (σ 8 2 : Nat)), .int (iI (σ 8 3 : Nat)), .int (iI (σ 8 4 : Nat)), .int (iI (σ 8 5 : Nat)), .int (iI u), .int (iI a)])
def cTab (cA : Nat → ClassId) (σ : St) : va_E := .inl (cA 0, 200, .inl (fun j => iI ((σ (j % 5) (j / 5) : Nat) : Int)))
def cRow (cA : Nat → ClassId) (σ : St) (k : Nat) : va_E := .inl (cA 0, 40, .inl (fun j => iI ((σ k j : Nat) : Int)))
def cPlugs (cA : Nat → ClassId) (σ : St) : va_E := .inl (cA 1, 30, .inl (fun j => iI ((σ 7 j : Nat) : Int)))
def WM (cA : Nat → ClassId) (ad : fw_Ad) (σ : St) (th u a : Int) (μ : fw_W) : fw_W := fun b j =>
  match b with
  | 10 => if j = 0 then some (cMod ad σ th u a) else none
  | 11 => if j = 0 then some (cTab cA σ) else none
  | 12 => if j = 0 then some (cRow cA σ 5) else none
  | 13 => if j = 0 then some (cRow cA σ 6) else none
  | 14 => if j = 0 then some (cPlugs cA σ) else none
  | _ => μ b j
theorem WM_10 {cA : Nat → ClassId} {ad : fw_Ad} {σ : St} {th u a : Int} {μ : fw_W} : WM cA ad σ th u a μ 10 0 = some (cMod ad σ th u a) := rfl
theorem WM_11 {cA : Nat → ClassId} {ad : fw_Ad} {σ : St} {th u a : Int} {μ : fw_W} : WM cA ad σ th u a μ 11 0 = some (cTab cA σ) := rfl
theorem WM_12 {cA : Nat → ClassId} {ad : fw_Ad} {σ : St} {th u a : Int} {μ : fw_W} : WM cA ad σ th u a μ 12 0 = some (cRow cA σ 5) := rfl
theorem WM_13 {cA : Nat → ClassId} {ad : fw_Ad} {σ : St} {th u a : Int} {μ : fw_W} : WM cA ad σ th u a μ 13 0 = some (cRow cA σ 6) := rfl
theorem WM_14 {cA : Nat → ClassId} {ad : fw_Ad} {σ : St} {th u a : Int} {μ : fw_W} : WM cA ad σ th u a μ 14 0 = some (cPlugs cA σ) := rfl
