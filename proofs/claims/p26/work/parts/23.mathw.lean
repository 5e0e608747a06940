/-! ===== the steps of the state ===== -/
def putS (σ : St) (c s : Nat) : St := up (up (up σ 6 c (high σ s)) 5 c s) 4 c 1
def limS (σ : St) (a b d : Nat) : St := up (up (up σ 8 1 a) 8 2 b) 8 3 d
def addS (σ : St) (w f t q : Nat) : St := up (up (up (up (up (up σ 0 (σ 8 0) w) 1 (σ 8 0) f) 2 (σ 8 0) t) 3 (σ 8 0) q) 4 (σ 8 0) 0) 8 0 (σ 8 0 + 1)
theorem tier_lt {σ : St} (hI : Inv σ) {c : Nat} (hc : c < σ 8 0) (h1 : σ 4 c = 1) : σ 6 c < high σ (σ 5 c) :=
  (high_full hI (σ 5 c) (hI.c c).2.2.2.2.2.2).mp ⟨c, occ_of hI hc h1⟩
theorem Inv_put {σ : St} (hI : Inv σ) {c s : Nat} (hc : c < σ 8 0) (hs : s < 30) (h0 : σ 4 c = 0) (hh : high σ s < 4) : Inv (putS σ c s) := by
  have e : ∀ b j, putS σ c s b j = if b = 4 ∧ j = c then 1 else if b = 5 ∧ j = c then s else if b = 6 ∧ j = c then high σ s else σ b j := fun b j => rfl
  have e8 : ∀ j, putS σ c s 8 j = σ 8 j := fun j => by simp [e]
  have e0 : ∀ j, putS σ c s 0 j = σ 0 j := fun j => by simp [e]
  have e1 : ∀ j, putS σ c s 1 j = σ 1 j := fun j => by simp [e]
  have e2 : ∀ j, putS σ c s 2 j = σ 2 j := fun j => by simp [e]
  have e3 : ∀ j, putS σ c s 3 j = σ 3 j := fun j => by simp [e]
  have e7 : ∀ j, putS σ c s 7 j = σ 7 j := fun j => by simp [e]
  have e4 : ∀ j, putS σ c s 4 j = if j = c then 1 else σ 4 j := fun j => by simp [e]
  have e5 : ∀ j, putS σ c s 5 j = if j = c then s else σ 5 j := fun j => by simp [e]
  have e6 : ∀ j, putS σ c s 6 j = if j = c then high σ s else σ 6 j := fun j => by simp [e]
  obtain ⟨q1, q2, q3, q4, q5, q6, q7⟩ := id hI
  refine ⟨by simpa [e8] using q1, fun d => ?_, fun d hd => ?_, fun k => ?_, fun a b ha hb a4 b4 hab hab2 => ?_, fun a j ha a4 hj => ?_, fun d hd => ?_⟩
  · have := q2 d
    rw [e0, e1, e2, e3, e4, e5, e6]
    by_cases h : d = c
    · subst h; simp only [if_true]; omega
    · simp only [if_neg h]; exact this
  · rw [e8] at hd; rw [e0, e1, e2]; exact q3 d hd
  · rw [e7]; exact q4 k
  · rw [e8] at ha hb
    rw [e4] at a4 b4
    rw [e5, e5] at hab
    rw [e6, e6] at hab2
    by_cases h1 : a = c <;> by_cases h2 : b = c
    · exact h1.trans h2.symm
    · simp only [if_pos h1, if_neg h2] at a4 b4 hab hab2
      have := tier_lt hI hb b4
      rw [← hab] at this
      omega
    · simp only [if_neg h1, if_pos h2] at a4 b4 hab hab2
      have := tier_lt hI ha a4
      rw [hab] at this
      omega
    · simp only [if_neg h1, if_neg h2] at a4 b4 hab hab2
      exact q5 a b ha hb a4 b4 hab hab2
  · rw [e8] at ha
    rw [e4] at a4
    rw [e6] at hj
    by_cases h1 : a = c
    · simp only [if_pos h1] at a4 hj
      obtain ⟨d, hd⟩ := (high_full hI s (j := j) (by omega)).mpr hj
      obtain ⟨g1, g2, g3, g4⟩ := occ_some hd
      have hne : d ≠ c := by rintro rfl; omega
      exact ⟨d, by rw [e8]; exact g1, by rw [e4, if_neg hne]; exact g2, by rw [e5, e5, if_neg hne, if_pos h1]; exact g3, by rw [e6, if_neg hne]; exact g4⟩
    · simp only [if_neg h1] at a4 hj
      obtain ⟨d, g1, g2, g3, g4⟩ := q6 a j ha a4 hj
      have hne : d ≠ c := by rintro rfl; omega
      exact ⟨d, by rw [e8]; exact g1, by rw [e4, if_neg hne]; exact g2, by rw [e5, e5, if_neg hne, if_neg h1]; exact g3, by rw [e6, if_neg hne]; exact g4⟩
  · rw [e8] at hd
    rw [e6, if_neg (by omega)]
    exact q7 d hd
theorem Inv_lift {σ : St} (hI : Inv σ) {c s : Nat} (ho : occ σ s (high σ s - 1) = some c) : Inv (up σ 4 c 0) := by
  obtain ⟨o1, o2, o3, o4⟩ := occ_some ho
  have e : ∀ b j, b ≠ 4 → up σ 4 c 0 b j = σ b j := fun b j h => up_ne (fun q => h q.1)
  have e4 : ∀ j, up σ 4 c 0 4 j = if j = c then 0 else σ 4 j := fun j => by simp [up]
  obtain ⟨q1, q2, q3, q4, q5, q6, q7⟩ := id hI
  refine ⟨by simpa [e] using q1, fun d => ?_, fun d hd => ?_, fun k => ?_, fun a b ha hb a4 b4 hab hab2 => ?_, fun a j ha a4 hj => ?_, fun d hd => ?_⟩
  · have := q2 d
    rw [e 0 _ (by decide), e 1 _ (by decide), e 2 _ (by decide), e 3 _ (by decide), e4, e 5 _ (by decide), e 6 _ (by decide)]
    by_cases h : d = c
    · simp only [if_pos h]; omega
    · simp only [if_neg h]; exact this
  · rw [e 8 _ (by decide)] at hd; rw [e 0 _ (by decide), e 1 _ (by decide), e 2 _ (by decide)]; exact q3 d hd
  · rw [e 7 _ (by decide)]; exact q4 k
  · rw [e 8 _ (by decide)] at ha hb
    rw [e4] at a4 b4
    rw [e 5 _ (by decide), e 5 _ (by decide)] at hab
    rw [e 6 _ (by decide), e 6 _ (by decide)] at hab2
    by_cases h1 : a = c
    · rw [if_pos h1] at a4; omega
    · by_cases h2 : b = c
      · rw [if_pos h2] at b4; omega
      · rw [if_neg h1] at a4; rw [if_neg h2] at b4
        exact q5 a b ha hb a4 b4 hab hab2
  · rw [e 8 _ (by decide)] at ha
    rw [e4] at a4
    rw [e 6 _ (by decide)] at hj
    by_cases h1 : a = c
    · rw [if_pos h1] at a4; omega
    · rw [if_neg h1] at a4
      obtain ⟨d, g1, g2, g3, g4⟩ := q6 a j ha a4 hj
      have ht := tier_lt hI ha a4
      have hne : d ≠ c := by
        rintro rfl
        rw [← g3, o3] at ht
        omega
      exact ⟨d, by rw [e 8 _ (by decide)]; exact g1, by rw [e4, if_neg hne]; exact g2, by rw [e 5 _ (by decide), e 5 _ (by decide)]; exact g3, by rw [e 6 _ (by decide)]; exact g4⟩
  · rw [e 8 _ (by decide)] at hd; rw [e 6 _ (by decide)]; exact q7 d hd
theorem Inv_lim {σ : St} (hI : Inv σ) {a b d : Nat} (ha : 1 ≤ a ∧ a ≤ 120) (hb : b ≤ 1000) (hd : d ≤ 1000) : Inv (limS σ a b d) := by
  have e : ∀ x y, limS σ a b d x y = if x = 8 ∧ y = 3 then d else if x = 8 ∧ y = 2 then b else if x = 8 ∧ y = 1 then a else σ x y := fun x y => rfl
  obtain ⟨q1, q2, q3, q4, q5, q6, q7⟩ := id hI
  refine ⟨?_, ?_, ?_, ?_, ?_, ?_, ?_⟩
  · simp [e]; omega
  · simpa [e] using q2
  · simpa [e] using q3
  · simpa [e] using q4
  · simpa [e] using q5
  · simpa [e] using q6
  · simpa [e] using q7
theorem Inv_plug {σ : St} (hI : Inv σ) {k v : Nat} (hv : v ≤ 1) : Inv (up σ 7 k v) := by
  have e : ∀ x y, up σ 7 k v x y = if x = 7 ∧ y = k then v else σ x y := fun x y => rfl
  obtain ⟨q1, q2, q3, q4, q5, q6, q7⟩ := id hI
  refine ⟨?_, ?_, ?_, ?_, ?_, ?_, ?_⟩
  · simpa [e] using q1
  · simpa [e] using q2
  · simpa [e] using q3
  · intro j
    simp only [e]
    split
    · exact hv
    · exact q4 j
  · simpa [e] using q5
  · simpa [e] using q6
  · simpa [e] using q7
theorem Inv_add {σ : St} (hI : Inv σ) {w f t q : Nat} (hn : σ 8 0 < 40) (hw : 1 ≤ w ∧ w ≤ 30) (hf : f ≤ 4) (ht : f < t ∧ t ≤ 5) (hq : q ≤ 4) : Inv (addS σ w f t q) := by
  have e : ∀ b j, addS σ w f t q b j = if b = 8 ∧ j = 0 then σ 8 0 + 1 else if b = 4 ∧ j = σ 8 0 then 0 else if b = 3 ∧ j = σ 8 0 then q else if b = 2 ∧ j = σ 8 0 then t else if b = 1 ∧ j = σ 8 0 then f else if b = 0 ∧ j = σ 8 0 then w else σ b j := fun b j => rfl
  obtain ⟨q1, q2, q3, q4, q5, q6, q7⟩ := id hI
  refine ⟨?_, fun d => ?_, fun d hd => ?_, fun k => ?_, fun a b ha hb a4 b4 hab hab2 => ?_, fun a j ha a4 hj => ?_, fun d hd => ?_⟩
  · simp [e]; omega
  · have := q2 d
    simp only [e]
    by_cases h : d = σ 8 0
    · simp [h] at this ⊢; omega
    · simp [h] at this ⊢; omega
  · have := q3 d
    simp only [e] at hd ⊢
    by_cases h : d = σ 8 0
    · simp [h]; omega
    · simp [h] at hd ⊢
      exact q3 d (by omega)
  · simpa [e] using q4 k
  · simp only [e] at ha hb a4 b4 hab hab2
    by_cases h1 : a = σ 8 0
    · simp [h1] at a4
    · by_cases h2 : b = σ 8 0
      · simp [h2] at b4
      · simp [h1, h2] at ha hb a4 b4 hab hab2
        exact q5 a b (by omega) (by omega) a4 b4 hab hab2
  · simp only [e] at ha a4 hj
    by_cases h1 : a = σ 8 0
    · simp [h1] at a4
    · simp [h1] at ha a4 hj
      obtain ⟨d, g1, g2, g3, g4⟩ := q6 a j (by omega) a4 hj
      refine ⟨d, ?_, ?_, ?_, ?_⟩
      · simp [e]; omega
      · simp [e, show d ≠ σ 8 0 from by omega]; exact g2
      · simp [e]; exact g3
      · simp [e]; exact g4
  · simp [e] at hd ⊢
    exact q7 d (by omega)
/-! ===== the reference's cells behind a step ===== -/
section WMS
variable {cA : Nat → ClassId} {ad : fw_Ad} {σ : St} {th u a : Int} {μ : fw_W}
theorem cMod_up {q c v : Nat} (hq : q ≠ 8) : cMod ad (up σ q c v) th u a = cMod ad σ th u a := by
  have e : ∀ j, up σ q c v 8 j = σ 8 j := fun j => up_ne (fun h => hq h.1.symm)
  simp only [cMod, e]
theorem cRow_up {q c v k : Nat} (hq : q ≠ k) : cRow cA (up σ q c v) k = cRow cA σ k := by
  have e : ∀ j, up σ q c v k j = σ k j := fun j => up_ne (fun h => hq h.1.symm)
  simp only [cRow, e]
theorem cPlugs_up {q c v : Nat} (hq : q ≠ 7) : cPlugs cA (up σ q c v) = cPlugs cA σ := by
  have e : ∀ j, up σ q c v 7 j = σ 7 j := fun j => up_ne (fun h => hq h.1.symm)
  simp only [cPlugs, e]
theorem cTab_up {q c v : Nat} (hq : 5 ≤ q) : cTab cA (up σ q c v) = cTab cA σ := by
  have e : ∀ i j, i < 5 → up σ q c v i j = σ i j := fun i j hi => up_ne (fun h => by omega)
  unfold cTab
  congr 4
  funext j
  rw [e _ _ (Nat.mod_lt _ (by decide))]
theorem WM_tab {q c v : Nat} (hq : q < 5) (b j : Nat) : WM cA ad (up σ q c v) th u a μ b j = fw_up (WM cA ad σ th u a μ) 11 0 (cTab cA (up σ q c v)) b j := by
  by_cases h : b = 11 ∧ j = 0
  · obtain ⟨rfl, rfl⟩ := h
    rw [fw_up_same]; rfl
  · rw [fw_up_ne h]
    unfold WM
    split
    · rw [cMod_up (by omega)]
    · rename_i j; rw [if_neg (fun q => h ⟨rfl, q⟩), if_neg (fun q => h ⟨rfl, q⟩)]
    · rw [cRow_up (by omega)]
    · rw [cRow_up (by omega)]
    · rw [cPlugs_up (by omega)]
    · rfl
theorem WM_r5 {c v : Nat} (b j : Nat) : WM cA ad (up σ 5 c v) th u a μ b j = fw_up (WM cA ad σ th u a μ) 12 0 (cRow cA (up σ 5 c v) 5) b j := by
  by_cases h : b = 12 ∧ j = 0
  · obtain ⟨rfl, rfl⟩ := h
    rw [fw_up_same]; rfl
  · rw [fw_up_ne h]
    unfold WM
    split
    · rw [cMod_up (by omega)]
    · rw [cTab_up (by omega)]
    · rename_i j; rw [if_neg (fun q => h ⟨rfl, q⟩), if_neg (fun q => h ⟨rfl, q⟩)]
    · rw [cRow_up (by omega)]
    · rw [cPlugs_up (by omega)]
    · rfl
theorem WM_r6 {c v : Nat} (b j : Nat) : WM cA ad (up σ 6 c v) th u a μ b j = fw_up (WM cA ad σ th u a μ) 13 0 (cRow cA (up σ 6 c v) 6) b j := by
  by_cases h : b = 13 ∧ j = 0
  · obtain ⟨rfl, rfl⟩ := h
    rw [fw_up_same]; rfl
  · rw [fw_up_ne h]
    unfold WM
    split
    · rw [cMod_up (by omega)]
    · rw [cTab_up (by omega)]
    · rw [cRow_up (by omega)]
    · rename_i j; rw [if_neg (fun q => h ⟨rfl, q⟩), if_neg (fun q => h ⟨rfl, q⟩)]
    · rw [cPlugs_up (by omega)]
    · rfl
theorem WM_r7 {c v : Nat} (b j : Nat) : WM cA ad (up σ 7 c v) th u a μ b j = fw_up (WM cA ad σ th u a μ) 14 0 (cPlugs cA (up σ 7 c v)) b j := by
  by_cases h : b = 14 ∧ j = 0
  · obtain ⟨rfl, rfl⟩ := h
    rw [fw_up_same]; rfl
  · rw [fw_up_ne h]
    unfold WM
    split
    · rw [cMod_up (by omega)]
    · rw [cTab_up (by omega)]
    · rw [cRow_up (by omega)]
    · rw [cRow_up (by omega)]
    · rename_i j; rw [if_neg (fun q => h ⟨rfl, q⟩), if_neg (fun q => h ⟨rfl, q⟩)]
    · rfl
theorem WM_8 {c v : Nat} {th' u' a' : Int} (b j : Nat) : WM cA ad (up σ 8 c v) th' u' a' μ b j = fw_up (WM cA ad σ th u a μ) 10 0 (cMod ad (up σ 8 c v) th' u' a') b j := by
  by_cases h : b = 10 ∧ j = 0
  · obtain ⟨rfl, rfl⟩ := h
    rw [fw_up_same]; rfl
  · rw [fw_up_ne h]
    unfold WM
    split
    · rename_i j; rw [if_neg (fun q => h ⟨rfl, q⟩), if_neg (fun q => h ⟨rfl, q⟩)]
    · rw [cTab_up (by omega)]
    · rw [cRow_up (by omega)]
    · rw [cRow_up (by omega)]
    · rw [cPlugs_up (by omega)]
    · rfl
variable {D : va_G} {cl : List vw_C} {z : Nat} {H : Heap}
theorem wM_tab {q c v : Nat} {x : va_E} (h : fw_P D cl z ad (fw_up (WM cA ad σ th u a μ) 11 0 x) H) (hq : q < 5) (e : x = cTab cA (up σ q c v)) : fw_P D cl z ad (WM cA ad (up σ q c v) th u a μ) H := by
  subst e
  exact fw_eq h (fun b j => WM_tab hq b j)
theorem cTab_set {q c v : Nat} (hq : q < 5) {x : Int32} (hx : x = iI ((v : Nat) : Int)) : (.inl (cA 0, 200, .inl (upd (fun j => iI ((σ (j % 5) (j / 5) : Nat) : Int)) (5 * c + q) x)) : va_E) = cTab cA (up σ q c v) := by
  unfold cTab
  congr 4
  funext j
  unfold upd up
  by_cases h : j = 5 * c + q
  · rw [if_pos h, if_pos ⟨by omega, by omega⟩, hx]
  · rw [if_neg h, if_neg (fun g => h (by omega))]
theorem cRow_set {k c v : Nat} {x : Int32} (hx : x = iI ((v : Nat) : Int)) : (.inl (cA 0, 40, .inl (upd (fun j => iI ((σ k j : Nat) : Int)) c x)) : va_E) = cRow cA (up σ k c v) k := by
  unfold cRow
  congr 4
  funext j
  unfold upd up
  by_cases h : j = c
  · rw [if_pos h, if_pos ⟨rfl, h⟩, hx]
  · rw [if_neg h, if_neg (fun g => h g.2)]
theorem cPlug_set {c v : Nat} {x : Int32} (hx : x = iI ((v : Nat) : Int)) : (.inl (cA 1, 30, .inl (upd (fun j => iI ((σ 7 j : Nat) : Int)) c x)) : va_E) = cPlugs cA (up σ 7 c v) := by
  unfold cPlugs
  congr 4
  funext j
  unfold upd up
  by_cases h : j = c
  · rw [if_pos h, if_pos ⟨rfl, h⟩, hx]
  · rw [if_neg h, if_neg (fun g => h g.2)]
theorem wM_5 {c v : Nat} {x : va_E} (h : fw_P D cl z ad (fw_up (WM cA ad σ th u a μ) 12 0 x) H) (e : x = cRow cA (up σ 5 c v) 5) : fw_P D cl z ad (WM cA ad (up σ 5 c v) th u a μ) H := by
  subst e
  exact fw_eq h (fun b j => WM_r5 b j)
theorem wM_6 {c v : Nat} {x : va_E} (h : fw_P D cl z ad (fw_up (WM cA ad σ th u a μ) 13 0 x) H) (e : x = cRow cA (up σ 6 c v) 6) : fw_P D cl z ad (WM cA ad (up σ 6 c v) th u a μ) H := by
  subst e
  exact fw_eq h (fun b j => WM_r6 b j)
theorem wM_7 {c v : Nat} {x : va_E} (h : fw_P D cl z ad (fw_up (WM cA ad σ th u a μ) 14 0 x) H) (e : x = cPlugs cA (up σ 7 c v)) : fw_P D cl z ad (WM cA ad (up σ 7 c v) th u a μ) H := by
  subst e
  exact fw_eq h (fun b j => WM_r7 b j)
theorem wM_8 {c v : Nat} {x : va_E} (h : fw_P D cl z ad (fw_up (WM cA ad σ th u a μ) 10 0 x) H) (e : x = cMod ad (up σ 8 c v) th u a) : fw_P D cl z ad (WM cA ad (up σ 8 c v) th u a μ) H := by
  subst e
  exact fw_eq h (fun b j => WM_8 b j)
end WMS
def bN (b : Bool) : Nat := if b = true then 1 else 0
theorem bI_bN (b : Bool) : bI b = ((bN b : Nat) : Int) := by cases b <;> rfl
theorem bN_le (b : Bool) : bN b ≤ 1 := by cases b <;> decide
def liftOk (σ : St) (s : Nat) : Prop := ∃ c, occ σ s (high σ s - 1) = some c ∧ σ 1 c = σ 8 4
theorem top_none {σ : St} (hI : Inv σ) {s : Nat} (h : high σ s = 0) : occ σ s (high σ s - 1) = none := by
  cases e : occ σ s (high σ s - 1) with
  | none => rfl
  | some c =>
    have := (high_full hI s (j := high σ s - 1) (by omega)).mp ⟨c, e⟩
    omega
theorem top_some {σ : St} (hI : Inv σ) {s : Nat} (h : ¬ high σ s = 0) : ∃ c, occ σ s (high σ s - 1) = some c := by
  have := high_le hI s
  exact (high_full hI s (j := high σ s - 1) (by omega)).mpr (by omega)
/-! planning, step by step -/
noncomputable def stepP (σ : St) : Option St := match bestB σ (σ 8 0) with
  | none => none
  | some c => match bestS σ c 30 with
    | none => none
    | some s => some (putS σ c s)
noncomputable def itP (σ : St) : Nat → St
  | 0 => σ
  | k + 1 => match stepP (itP σ k) with
    | none => itP σ k
    | some τ => τ
theorem stepP_some {σ : St} {c s : Nat} (h1 : bestB σ (σ 8 0) = some c) (h2 : bestS σ c 30 = some s) : stepP σ = some (putS σ c s) := by
  unfold stepP; rw [h1]; dsimp only; rw [h2]
theorem stepP_none {σ : St} (h1 : bestB σ (σ 8 0) = none) : stepP σ = none := by
  unfold stepP; rw [h1]
theorem itP_s {σ τ : St} {k : Nat} (h : stepP (itP σ k) = some τ) : itP σ (k + 1) = τ := by
  show (match stepP (itP σ k) with | none => itP σ k | some τ => τ) = τ
  rw [h]
theorem best_both {σ : St} {c : Nat} (h : bestB σ (σ 8 0) = some c) : ∃ s, bestS σ c 30 = some s := by
  obtain ⟨s, h1, h2⟩ := bestB_fits h
  exact bestS_some h1 h2
theorem stepP_inv {σ τ : St} (hI : Inv σ) (h : stepP σ = some τ) : Inv τ := by
  cases h1 : bestB σ (σ 8 0) with
  | none => rw [stepP_none h1] at h; cases h
  | some c =>
    obtain ⟨s, h2⟩ := best_both h1
    rw [stepP_some h1 h2] at h
    cases h
    have ha := bestS_ok h2
    exact Inv_put hI (bestB_lt h1) (bestS_lt h2) ha.1 ha.2.2.1
/-- how many wait anywhere -/
def waitN (σ : St) : Nat := sumN (fun c => if σ 4 c = 0 then 1 else 0) (σ 8 0)
theorem sumN_less {f g : Nat → Nat} {a : Nat} : ∀ {n : Nat}, a < n → (∀ i, i < n → i ≠ a → f i = g i) → f a = g a + 1 → sumN f n = sumN g n + 1
  | 0, h, _, _ => by omega
  | n + 1, h, h2, h3 => by
    rw [sumN, sumN]
    by_cases e : a = n
    · subst e
      rw [sumN_congr (fun i hi => h2 i (by omega) (by omega)), h3]
      omega
    · rw [sumN_less (by omega) (fun i hi hne => h2 i (by omega) hne) h3, h2 n (by omega) (fun q => e q.symm)]
      omega
theorem stepP_wait {σ τ : St} (h : stepP σ = some τ) : waitN σ = waitN τ + 1 ∧ τ 8 0 = σ 8 0 := by
  cases h1 : bestB σ (σ 8 0) with
  | none => rw [stepP_none h1] at h; cases h
  | some c =>
    obtain ⟨s, h2⟩ := best_both h1
    rw [stepP_some h1 h2] at h
    cases h
    have ha := (bestS_ok h2).1
    have e8 : putS σ c s 8 0 = σ 8 0 := by simp [putS, up]
    refine ⟨?_, e8⟩
    unfold waitN
    rw [e8]
    refine sumN_less (bestB_lt h1) (fun i hi hne => ?_) ?_
    · simp [putS, up, hne]
    · simp [putS, up, ha]
theorem waitN_le (σ : St) : waitN σ ≤ σ 8 0 := by
  have := sumN_le (f := fun c => if σ 4 c = 0 then 1 else 0) (b := 1) (fun c => by
    show (if σ 4 c = 0 then 1 else 0) ≤ 1
    split <;> omega) (σ 8 0)
  unfold waitN
  omega
/-- k steps were made, none was wanting -/
def stepsP (σ : St) (k : Nat) : Prop := ∀ j, j < k → ∃ τ, stepP (itP σ j) = some τ
theorem stepsP_inv {σ : St} (hI : Inv σ) : ∀ {k : Nat}, stepsP σ k → Inv (itP σ k) ∧ waitN σ = waitN (itP σ k) + k ∧ itP σ k 8 0 = σ 8 0
  | 0, _ => ⟨hI, rfl, rfl⟩
  | k + 1, h => by
    obtain ⟨i1, i2, i3⟩ := stepsP_inv hI (k := k) (fun j hj => h j (by omega))
    obtain ⟨τ, ht⟩ := h k (by omega)
    rw [itP_s ht]
    have := stepP_wait ht
    exact ⟨stepP_inv i1 ht, by omega, by omega⟩
theorem stepsP_s {σ τ : St} {k : Nat} (h : stepsP σ k) (ht : stepP (itP σ k) = some τ) : stepsP σ (k + 1) := by
  intro j hj
  by_cases e : j = k
  · subst e; exact ⟨τ, ht⟩
  · exact h j (by omega)
/-- how planning ends: after k steps there is none more -/
def endsP (σ : St) (k : Nat) : Prop := stepsP σ k ∧ stepP (itP σ k) = none
theorem endsP_one {σ : St} {k j : Nat} (h : endsP σ k) (g : endsP σ j) : k = j := by
  rcases Nat.lt_trichotomy k j with q | q | q
  · obtain ⟨τ, ht⟩ := g.1 k q
    rw [h.2] at ht; cases ht
  · exact q
  · obtain ⟨τ, ht⟩ := h.1 j q
    rw [g.2] at ht; cases ht
theorem stepsP_le {σ : St} (hI : Inv σ) {k : Nat} (h : stepsP σ k) : k ≤ 40 := by
  have h1 := (stepsP_inv hI h).2.1
  have h2 := waitN_le σ
  have h3 := hI.n
  omega
theorem stepsP_40 {σ : St} (hI : Inv σ) (h : stepsP σ 40) : stepP (itP σ 40) = none := by
  cases e : stepP (itP σ 40) with
  | none => rfl
  | some τ =>
    have := stepsP_le hI (stepsP_s h e)
    omega
theorem narrow_pl {v : Nat} (h : v ≤ 1) : narrow .boolean (.int (iI ((v : Nat) : Int))) = .int (iI ((v : Nat) : Int)) := by
  rcases (show v = 0 ∨ v = 1 by omega) with rfl | rfl <;> rfl
theorem rf_step {P : Prop} {R : Nat → Prop} {i : Nat} (h : ¬ (P ∧ R i)) : (P ∧ ∃ c, c < i + 1 ∧ R c) ↔ (P ∧ ∃ c, c < i ∧ R c) := by
  constructor
  · rintro ⟨p, c, hc, r⟩
    refine ⟨p, c, ?_, r⟩
    rcases Nat.lt_or_ge c i with q | q
    · exact q
    · exact absurd ⟨p, (show c = i by omega) ▸ r⟩ h
  · rintro ⟨p, c, hc, r⟩
    exact ⟨p, c, by omega, r⟩
theorem bestB_take {σ : St} {i : Nat} (h : fitsSome σ i) (h2 : ∀ b, bestB σ i = some b → pref σ i b) : bestB σ (i + 1) = some i := by
  show (if cB (fitsSome σ i ∧ ∀ b, bestB σ i = some b → pref σ i b) = true then some i else bestB σ i) = some i
  exact if_pos (cB_t.mpr ⟨h, h2⟩)
theorem bestB_no {σ : St} {i : Nat} {o : Option Nat} (e : bestB σ i = o) (h : ¬ fitsSome σ i) : bestB σ (i + 1) = o := by
  show (if cB (fitsSome σ i ∧ ∀ b, bestB σ i = some b → pref σ i b) = true then some i else bestB σ i) = o
  rw [if_neg (fun q => h (cB_t.mp q).1)]
  exact e
theorem bestB_nb {σ : St} {i b : Nat} (e : bestB σ i = some b) (h : ¬ pref σ i b) : bestB σ (i + 1) = some b := by
  show (if cB (fitsSome σ i ∧ ∀ b, bestB σ i = some b → pref σ i b) = true then some i else bestB σ i) = some b
  rw [if_neg (fun q => h ((cB_t.mp q).2 b e))]
  exact e
