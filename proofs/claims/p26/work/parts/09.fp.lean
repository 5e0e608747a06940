/-! ===== the height: a quotient of two whole numbers against 5 ===== -/
def allS (σ : St) : Nat := sumN (fun c => if σ 4 c = 1 then σ 0 c else 0) (σ 8 0)
def upS (σ : St) : Nat := sumN (fun c => if σ 4 c = 1 then σ 0 c * (2 * σ 6 c + 1) else 0) (σ 8 0)
def hgt (σ : St) : UInt64 := if allS σ = 0 then FP.dconst0 else FP.ddiv (FP.i2d (iI ((upS σ : Nat) : Int))) (FP.i2d (iI ((allS σ : Nat) : Int)))
theorem allS_le {σ : St} (hI : Inv σ) : allS σ ≤ 1200 := by
  have := sumN_le (f := fun c => if σ 4 c = 1 then σ 0 c else 0) (b := 30) (fun c => by
    have := (hI.c c).1
    show (if σ 4 c = 1 then σ 0 c else 0) ≤ 30
    split <;> omega) (σ 8 0)
  have hn := hI.n
  unfold allS
  omega
theorem upS_le {σ : St} (hI : Inv σ) : upS σ ≤ 8400 := by
  have := sumN_le (f := fun c => if σ 4 c = 1 then σ 0 c * (2 * σ 6 c + 1) else 0) (b := 210) (fun c => by
    have h1 := (hI.c c).1
    have h2 := (hI.c c).2.2.2.2.2.2
    show (if σ 4 c = 1 then σ 0 c * (2 * σ 6 c + 1) else 0) ≤ 210
    split
    · exact Nat.le_trans (Nat.mul_le_mul h1 (show 2 * σ 6 c + 1 ≤ 7 by omega)) (by decide)
    · omega) (σ 8 0)
  have hn := hI.n
  unfold upS
  omega
def fpN : Nat := 2 ^ 1074
def fpM : Nat := 2 ^ 1024
theorem fpN_pos : 0 < fpN := Nat.two_pow_pos 1074
theorem fpN_eq : fpN = 2 ^ 1074 := by rw [fpN]
theorem fpM_eq : fpM = 2 ^ 1024 := by rw [fpM]
theorem fpNM : fpN = fpM * 2 ^ 50 := by rw [fpN_eq, fpM_eq, ← Nat.pow_add]
theorem fp_mul1 (b N : Nat) : 5 * b * N * N = 5 * N * (b * N) := by ac_rfl
theorem fp_mul2 (b N M : Nat) : (5 * N + M) * (b * N) = (5 * b * N + M * b) * N := by
  rw [Nat.add_mul, Nat.add_mul]
  congr 1 <;> ac_rfl
theorem fp_q : (0 - FP.Core.b64.qmin).toNat = 1074 := by rw [FP.Core.qmin_b64]; rfl
theorem fp_val {n : Nat} (h : n < 2147483648) : ∃ (c : Nat) (q : Int), FP.Core.val64 (FP.i2d (iI ((n : Nat) : Int))) = .fin false c q ∧ FP.Core.b64.qmin ≤ q ∧ c * 2 ^ (q - FP.Core.b64.qmin).toNat = n * fpN := by
  have e : FP.Core.val64 (FP.i2d (iI ((n : Nat) : Int))) = FP.Core.round FP.Core.b64 (FP.Core.ofInt ((n : Nat) : Int)) := by
    rw [FP.Core.val64_i2d, iI_toInt (by omega) (by omega)]
  have e2 : FP.Core.ofInt ((n : Nat) : Int) = .fin false n 0 := by
    unfold FP.Core.ofInt
    rw [decide_eq_false (by omega)]; rfl
  rw [e2] at e
  obtain ⟨c, q, h1, h2⟩ := FP.Core.round_exact FP.Core.good_b64 false (c := n) (q := 0) (Nat.lt_of_lt_of_le h (by show 2147483648 ≤ 2 ^ 53; exact Nat.le_of_ble_eq_true rfl)) (by rw [FP.Core.qmin_b64]; omega) (by decide)
  have h3 := FP.Core.round_fits FP.Core.good_b64 (.fin false n 0)
  rw [h1] at h3
  refine ⟨c, q, e.trans h1, h3.2.1, ?_⟩
  unfold FP.Core.inUnits at h2
  rw [fp_q] at h2
  exact h2
theorem fp_div {a b : Nat} (ha : a < 2147483648) (hb : b < 2147483648) (h0 : 0 < b) : ∃ (c d : Nat) (q r : Int), FP.Core.val64 (FP.ddiv (FP.i2d (iI ((a : Nat) : Int))) (FP.i2d (iI ((b : Nat) : Int)))) = FP.Core.roundRatio FP.Core.b64 false c d (q - r) ∧ 0 < d ∧ FP.Core.b64.qmin ≤ q ∧ FP.Core.b64.qmin ≤ r ∧ c * 2 ^ (q - FP.Core.b64.qmin).toNat = a * fpN ∧ d * 2 ^ (r - FP.Core.b64.qmin).toNat = b * fpN := by
  obtain ⟨c, q, h1, h2, h3⟩ := fp_val ha
  obtain ⟨d, r, g1, g2, g3⟩ := fp_val hb
  have hd : 0 < d := by
    rcases Nat.eq_zero_or_pos d with h | h
    · rw [h, Nat.zero_mul] at g3
      have := Nat.mul_pos h0 fpN_pos
      omega
    · exact h
  refine ⟨c, d, q, r, ?_, hd, h2, g2, h3, g3⟩
  show FP.Core.val64 (FP.Core.ddiv _ _) = _
  rw [FP.Core.val64_ddiv]
  rw [show FP.Core.val64 (FP.Core.i2d (iI ((a : Nat) : Int))) = _ from h1, show FP.Core.val64 (FP.Core.i2d (iI ((b : Nat) : Int))) = _ from g1]
  show (if d = 0 then _ else _) = _
  rw [if_neg (by omega)]
  rfl
def fiveB : Nat := 4617315517961601024
theorem fp_five : FP.Core.unitsOf FP.Core.b64 fiveB = 5 * fpN := by decide +kernel
theorem fp_five' : FP.Core.unitsOf FP.Core.b64 (fiveB + 1) = 5 * fpN + fpM := by decide +kernel
theorem fp_mag {a b : Nat} (ha : a < 2147483648) (hb : b < 2147483648) (h0 : 0 < b) : (a ≤ 5 * b → FP.Core.mag FP.Core.b64 (FP.ddiv (FP.i2d (iI ((a : Nat) : Int))) (FP.i2d (iI ((b : Nat) : Int)))).toNat ≤ fiveB) ∧ (5 * b < a → fiveB < FP.Core.mag FP.Core.b64 (FP.ddiv (FP.i2d (iI ((a : Nat) : Int))) (FP.i2d (iI ((b : Nat) : Int)))).toNat) := by
  obtain ⟨c, d, q, r, e, hd, hq, hr, h1, h2⟩ := fp_div ha hb h0
  have hqm : FP.Core.b64.qmin = -1074 := FP.Core.qmin_b64
  have k1 : FP.Core.inUnits c (q - r) (2 * FP.Core.b64.qmin - r) = a * fpN * fpN := by
    show c * _ = _
    rw [← h1, Nat.mul_assoc, fpN_eq, ← Nat.pow_add]
    congr 2
    omega
  have k2 : ∀ u : Nat, u * 2 ^ (FP.Core.b64.qmin - (2 * FP.Core.b64.qmin - r)).toNat * d = u * (b * fpN) := by
    intro u
    rw [← h2, Nat.mul_assoc]
    congr 1
    rw [Nat.mul_comm]
    congr 2
    omega
  constructor
  · intro hle
    refine FP.Core.mag_le FP.Core.good_b64 e hd (e0 := 2 * FP.Core.b64.qmin - r) (by omega) (by omega) ?_
    rw [k1, k2, fp_five]
    calc a * fpN * fpN ≤ 5 * b * fpN * fpN := Nat.mul_le_mul_right _ (Nat.mul_le_mul_right _ hle)
      _ = 5 * fpN * (b * fpN) := fp_mul1 b fpN
  · intro hlt
    refine Nat.lt_of_succ_le (FP.Core.mag_ge FP.Core.good_b64 e hd (e0 := 2 * FP.Core.b64.qmin - r) (by omega) (by omega) (by rw [FP.Core.infBits_b64]; exact Nat.le_of_ble_eq_true rfl) ?_)
    rw [k1, k2, show fiveB.succ = fiveB + 1 from rfl, fp_five']
    have hx : fpM * b ≤ fpN := by
      rw [fpNM]
      exact Nat.mul_le_mul_left _ (Nat.le_trans (Nat.le_of_lt hb) (Nat.le_of_ble_eq_true rfl))
    calc (5 * fpN + fpM) * (b * fpN) = (5 * b * fpN + fpM * b) * fpN := fp_mul2 b fpN fpM
      _ ≤ (5 * b * fpN + fpN) * fpN := Nat.mul_le_mul_right _ (Nat.add_le_add_left hx _)
      _ = (5 * b + 1) * fpN * fpN := by rw [Nat.add_mul (5 * b), Nat.one_mul]
      _ ≤ a * fpN * fpN := Nat.mul_le_mul_right _ (Nat.mul_le_mul_right _ hlt)
theorem fp_nan {a b : Nat} (ha : a < 2147483648) (hb : b < 2147483648) (h0 : 0 < b) : FP.Core.mag FP.Core.b64 (FP.ddiv (FP.i2d (iI ((a : Nat) : Int))) (FP.i2d (iI ((b : Nat) : Int)))).toNat ≤ FP.Core.infBits FP.Core.b64 := by
  obtain ⟨c, d, q, r, e, hd, hq, hr, h1, h2⟩ := fp_div ha hb h0
  exact Nat.le_of_not_lt fun h => FP.Core.roundRatio_ne_nan FP.Core.b64 false c d (q - r) (e ▸ (FP.Core.decode_nan _).mpr h)
theorem fp_vf {a b : Nat} (ha : a < 2147483648) (hb : b < 2147483648) (h0 : 0 < b) : vf_n64 (FP.ddiv (FP.i2d (iI ((a : Nat) : Int))) (FP.i2d (iI ((b : Nat) : Int)))) := by
  have h := fp_nan ha hb h0
  rw [FP.Core.mag_toNat64, FP.Core.infBits_b64] at h
  unfold vf_n64
  rw [UInt64.le_iff_toNat_le, UInt64.toNat_and]
  rw [show (0x7fffffffffffffff : UInt64).toNat = 2 ^ 63 - 1 from rfl, Nat.and_two_pow_sub_one_eq_mod]
  exact h
theorem fp_pos {a b : Nat} (ha : a < 2147483648) (hb : b < 2147483648) (h0 : 0 < b) : (FP.ddiv (FP.i2d (iI ((a : Nat) : Int))) (FP.i2d (iI ((b : Nat) : Int)))).toNat < FP.Core.half FP.Core.b64 := by
  obtain ⟨c, d, q, r, e, hd, hq, hr, h1, h2⟩ := fp_div ha hb h0
  have hlt : (FP.ddiv (FP.i2d (iI ((a : Nat) : Int))) (FP.i2d (iI ((b : Nat) : Int)))).toNat < 2 * FP.Core.half FP.Core.b64 := by
    rw [FP.Core.half_b64]
    have := UInt64.toNat_lt (FP.ddiv (FP.i2d (iI ((a : Nat) : Int))) (FP.i2d (iI ((b : Nat) : Int))))
    omega
  have hs := FP.Core.sgn_decode (fp_nan ha hb h0) hlt
  have e' : FP.Core.decode FP.Core.b64 (FP.ddiv (FP.i2d (iI ((a : Nat) : Int))) (FP.i2d (iI ((b : Nat) : Int)))).toNat = FP.Core.roundRatio FP.Core.b64 false c d (q - r) := e
  rw [e', FP.Core.sgn_roundRatio] at hs
  exact Nat.lt_of_not_le fun h => by rw [decide_eq_true h] at hs; cases hs
theorem fp_cmp {a b : Nat} (ha : a < 2147483648) (hb : b < 2147483648) (h0 : 0 < b) : (FP.dcmp (FP.ddiv (FP.i2d (iI ((a : Nat) : Int))) (FP.i2d (iI ((b : Nat) : Int)))) 4617315517961601024 = some .gt ↔ 5 * b < a) ∧ ¬ FP.dcmp (FP.ddiv (FP.i2d (iI ((a : Nat) : Int))) (FP.i2d (iI ((b : Nat) : Int)))) 4617315517961601024 = none := by
  have hp := fp_pos ha hb h0
  have hm := fp_mag ha hb h0
  have hn := fp_nan ha hb h0
  generalize FP.ddiv (FP.i2d (iI ((a : Nat) : Int))) (FP.i2d (iI ((b : Nat) : Int))) = x at hp hm hn
  have h5 : (4617315517961601024 : UInt64).toNat = fiveB := rfl
  have hf : fiveB < FP.Core.half FP.Core.b64 := by rw [FP.Core.half_b64]; exact Nat.le_of_ble_eq_true rfl
  have hmx : FP.Core.mag FP.Core.b64 x.toNat = x.toNat := Nat.mod_eq_of_lt hp
  have hm5 : FP.Core.mag FP.Core.b64 fiveB = fiveB := Nat.mod_eq_of_lt hf
  rw [hmx] at hm hn
  have hc : FP.dcmp x 4617315517961601024 = some (compare ((x.toNat : Nat) : Int) ((fiveB : Nat) : Int)) := by
    show FP.Core.cmp FP.Core.b64 x.toNat (4617315517961601024 : UInt64).toNat = _
    rw [h5, FP.Core.cmp_key FP.Core.good_b64 (by omega) (by omega) (by rw [Ne, FP.Core.decode_nan, hmx]; omega) (by rw [Ne, FP.Core.decode_nan, hm5, FP.Core.infBits_b64]; exact Nat.not_lt.mpr (Nat.le_of_ble_eq_true rfl))]
    unfold FP.Core.key
    rw [hmx, hm5, decide_eq_false (by omega), decide_eq_false (by omega)]
    rfl
  refine ⟨?_, by rw [hc]; intro q; cases q⟩
  rw [hc, Option.some.injEq, Int.compare_eq_gt]
  constructor
  · intro h
    rcases Nat.lt_or_ge (5 * b) a with q | q
    · exact q
    · have := hm.1 q; omega
  · intro h
    have := hm.2 h
    omega
theorem fp_steady {σ : St} (hI : Inv σ) : (FP.dcmp (hgt σ) 4617315517961601024 = some .gt ↔ 5 * allS σ < upS σ) ∧ ¬ FP.dcmp (hgt σ) 4617315517961601024 = none := by
  have h1 := allS_le hI
  have h2 := upS_le hI
  unfold hgt
  by_cases h : allS σ = 0
  · rw [if_pos h, h]
    have h3 : upS σ = 0 := by
      have e : ∀ c, c < σ 8 0 → (if σ 4 c = 1 then σ 0 c * (2 * σ 6 c + 1) else 0) = 0 := by
        intro c hc
        by_cases q : σ 4 c = 1
        · have hle : ∀ n, c < n → (if σ 4 c = 1 then σ 0 c else 0) ≤ sumN (fun c => if σ 4 c = 1 then σ 0 c else 0) n := by
            intro n
            induction n with
            | zero => intro h; omega
            | succ n ih =>
              intro h
              rw [sumN]
              by_cases e : c = n
              · subst e; omega
              · have := ih (by omega); omega
          have := hle (σ 8 0) hc
          have h4 : sumN (fun c => if σ 4 c = 1 then σ 0 c else 0) (σ 8 0) = 0 := h
          rw [if_pos q] at this
          have := (hI.pos hc).1
          omega
        · rw [if_neg q]
      exact sumN_zero e
    rw [h3]
    refine ⟨⟨fun q => absurd q (by decide +kernel), fun q => by omega⟩, by decide +kernel⟩
  · rw [if_neg h]
    exact fp_cmp (by omega) (by omega) (by omega)
theorem cmpv_gt (o : Option Ordering) : (0 < Op.cmpValue o .g) ↔ o = some .gt ∨ o = none := by
  rcases o with _ | o
  · exact ⟨fun _ => Or.inr rfl, fun _ => by decide⟩
  · cases o <;> decide
def steady (σ : St) : Prop := Int.natAbs (mom σ false) ≤ σ 8 2 ∧ Int.natAbs (mom σ true) ≤ σ 8 3 ∧ upS σ ≤ 5 * allS σ
theorem fp_gt {σ : St} (hI : Inv σ) : 0 < Op.cmpValue (FP.dcmp (hgt σ) 4617315517961601024) .g ↔ 5 * allS σ < upS σ := by
  rw [cmpv_gt, ← (fp_steady hI).1]
  exact ⟨fun h => h.resolve_right (fp_steady hI).2, Or.inl⟩
