/-! ===== words for the reference's methods ===== -/
theorem ifT {α : Type} {b : Bool} {x y : α} (h : b = true) : (if b = true then x else y) = x := if_pos h
theorem ifF {α : Type} {b : Bool} {x y : α} (h : b = false) : (if b = true then x else y) = y := if_neg (by rw [h]; decide)
theorem isAt_f {σ : St} {k j c : Nat} : isAt σ k j c = false ↔ ¬ (σ 4 c = 1 ∧ σ 5 c = k ∧ σ 6 c = j) := by rw [← isAt_t, Bool.not_eq_true]
theorem occ_is {σ : St} {k j c : Nat} (hc : c < σ 8 0) (h : isAt σ k j c = true) (hn : ∀ d, d < c → isAt σ k j d = false) : occ σ k j = some c := by
  refine List.find?_range_eq_some.mpr ⟨h, List.mem_range.mpr hc, fun d hd => ?_⟩
  rw [hn d hd]; rfl
theorem occ_no {σ : St} {k j : Nat} (hn : ∀ d, d < σ 8 0 → isAt σ k j d = false) : occ σ k j = none := by
  refine List.find?_eq_none.mpr (fun d hd => ?_)
  rw [hn d (List.mem_range.mp hd)]; decide
def lonI (σ : St) (c s i : Nat) : Prop := ∀ o, o < i → ¬ clash σ c s o
theorem WM_mod {cA : Nat → ClassId} {ad : fw_Ad} {σ : St} {th u a th' u' a' : Int} {μ : fw_W} (b j : Nat) : WM cA ad σ th' u' a' μ b j = fw_up (WM cA ad σ th u a μ) 10 0 (cMod ad σ th' u' a') b j := by
  by_cases h : b = 10 ∧ j = 0
  · obtain ⟨rfl, rfl⟩ := h
    rw [fw_up_same]; rfl
  · rw [fw_up_ne h]
    unfold WM
    split
    · rename_i j; rw [if_neg (fun q => h ⟨rfl, q⟩), if_neg (fun q => h ⟨rfl, q⟩)]
    · rfl
    · rfl
    · rfl
    · rfl
    · rfl
theorem wM_put {D : va_G} {cl : List vw_C} {z : Nat} {cA : Nat → ClassId} {ad : fw_Ad} {σ : St} {th u a th' u' a' : Int} {μ : fw_W} {H : Heap} {x : va_E} (h : fw_P D cl z ad (fw_up (WM cA ad σ th u a μ) 10 0 x) H) (e : x = cMod ad σ th' u' a') : fw_P D cl z ad (WM cA ad σ th' u' a' μ) H := by
  subst e
  exact fw_eq h (fun b j => WM_mod b j)
/-- the lowest tier for a port, over the first n containers -/
noncomputable def low (σ : St) (s p : Nat) : Nat → Nat
  | 0 => 4
  | i + 1 => if cB (σ 4 i = 1 ∧ σ 5 i = s ∧ σ 2 i = p ∧ σ 6 i < low σ s p i) = true then σ 6 i else low σ s p i
theorem low_le4 {σ : St} {s p : Nat} : ∀ i, low σ s p i ≤ 4
  | 0 => Nat.le_refl _
  | i + 1 => by
    have := low_le4 (σ := σ) (s := s) (p := p) i
    rw [low]
    split
    · rename_i h; have := (cB_t.mp h).2.2.2; omega
    · exact this
theorem low_lt {σ : St} {s p t : Nat} : ∀ {i : Nat}, low σ s p i < t ↔ (4 < t ∨ ∃ d, d < i ∧ σ 4 d = 1 ∧ σ 5 d = s ∧ σ 2 d = p ∧ σ 6 d < t)
  | 0 => by
    constructor
    · intro h; exact Or.inl h
    · rintro (h | ⟨d, h, -⟩)
      · exact h
      · omega
  | i + 1 => by
    have ih := low_lt (σ := σ) (s := s) (p := p) (t := t) (i := i)
    rw [low]
    split
    · rename_i h
      obtain ⟨h1, h2, h3, h4⟩ := cB_t.mp h
      constructor
      · intro q; exact Or.inr ⟨i, by omega, h1, h2, h3, q⟩
      · rintro (q | ⟨d, q1, q2, q3, q4, q5⟩)
        · have := low_le4 (σ := σ) (s := s) (p := p) i; omega
        · by_cases e : d = i
          · subst e; exact q5
          · have := ih.mpr (Or.inr ⟨d, by omega, q2, q3, q4, q5⟩); omega
    · rename_i h
      constructor
      · intro q
        rcases ih.mp q with q | ⟨d, q1, q2⟩
        · exact Or.inl q
        · exact Or.inr ⟨d, by omega, q2⟩
      · rintro (q | ⟨d, q1, q2, q3, q4, q5⟩)
        · exact ih.mpr (Or.inl q)
        · by_cases e : d = i
          · subst e
            rcases Nat.lt_or_ge (low σ s p d) t with g | g
            · exact g
            · exact absurd (cB_t.mpr ⟨q2, q3, q4, by omega⟩) h
          · exact ih.mpr (Or.inr ⟨d, by omega, q2, q3, q4, q5⟩)
noncomputable def lifAt (σ : St) (p : Nat) : Nat := sumN (fun c => if cB (σ 4 c = 1 ∧ lifC σ p c) = true then 1 else 0) (σ 8 0)
theorem lif_low {σ : St} (hI : Inv σ) {p c : Nat} (h2 : ¬ σ 2 c = p) : low σ (σ 5 c) p (σ 8 0) < σ 6 c ↔ lifC σ p c := by
  rw [low_lt]
  have h6 := (hI.c c).2.2.2.2.2.2
  constructor
  · rintro (q | ⟨d, q1, q2, q3, q4, q5⟩)
    · omega
    · exact ⟨h2, d, q1, q2, q3, q4, q5⟩
  · rintro ⟨-, d, q1, q2, q3, q4, q5⟩
    exact Or.inr ⟨d, q1, q2, q3, q4, q5⟩
/-- lifted at a port, stack by stack -/
theorem lifAt_stk {σ : St} (hI : Inv σ) (p : Nat) : sumN (fun k => lifS σ k p) 30 = lifAt σ p := by
  unfold lifS
  rw [sumN_swap, lifAt]
  refine sumN_congr (fun c hc => ?_)
  have h5 := (hI.c c).2.2.2.2.2.1
  by_cases h : σ 4 c = 1
  · rw [sumN_one h5 (fun k hk hne => if_neg (fun q => hne (isOn_t.mp q).2.symm)), if_pos (isOn_t.mpr ⟨h, rfl⟩)]
    rw [show cB (lifC σ p c) = cB (σ 4 c = 1 ∧ lifC σ p c) from cB_congr ⟨fun q => ⟨h, q⟩, fun q => q.2⟩]
  · rw [show (if cB (σ 4 c = 1 ∧ lifC σ p c) = true then 1 else 0) = 0 from if_neg (fun q => h (cB_t.mp q).1)]
    exact sumN_zero (fun k _ => if_neg (fun q => h (isOn_t.mp q).1))
theorem choices_pos {σ : St} {c : Nat} : ¬ choices σ c = 0 ↔ fitsSome σ c := by
  have key : ∀ n, ¬ sumN (fun s => if cB (allowed σ c s) = true then 1 else 0) n = 0 ↔ ∃ s, s < n ∧ allowed σ c s := by
    intro n
    induction n with
    | zero =>
      constructor
      · intro h; exact absurd rfl h
      · rintro ⟨s, h, -⟩; omega
    | succ n ih =>
      rw [sumN]
      by_cases h : allowed σ c n
      · rw [if_pos (cB_t.mpr h)]
        exact ⟨fun _ => ⟨n, by omega, h⟩, fun _ => by omega⟩
      · rw [if_neg (fun q => h (cB_t.mp q)), Nat.add_zero, ih]
        constructor
        · rintro ⟨s, h1, h2⟩; exact ⟨s, by omega, h2⟩
        · rintro ⟨s, h1, h2⟩
          refine ⟨s, ?_, h2⟩
          rcases Nat.lt_or_ge s n with g | g
          · exact g
          · exact absurd (show allowed σ c n from (show s = n by omega) ▸ h2) h
  exact key 30
theorem choices_le {σ : St} {c : Nat} : choices σ c ≤ 30 := by
  have := sumN_le (f := fun s => if cB (allowed σ c s) = true then 1 else 0) (b := 1) (fun s => by
    show (if cB (allowed σ c s) = true then 1 else 0) ≤ 1
    split <;> omega) 30
  unfold choices
  omega
theorem iI_min {x y : Int} (hx : -2147483648 ≤ x ∧ x ≤ 2147483647) (hy : -2147483648 ≤ y ∧ y ≤ 2147483647) : (if iI y < iI x then iI y else iI x) = iI (min x y) := by
  by_cases h : y < x
  · rw [if_pos ((iI_lt hy hx).mpr h), show min x y = y from by omega]
  · rw [if_neg (fun q => h ((iI_lt hy hx).mp q)), show min x y = x from by omega]
theorem iI_max {x y : Int} (hx : -2147483648 ≤ x ∧ x ≤ 2147483647) (hy : -2147483648 ≤ y ∧ y ≤ 2147483647) : (if iI x < iI y then iI y else iI x) = iI (max x y) := by
  by_cases h : x < y
  · rw [if_pos ((iI_lt hx hy).mpr h), show max x y = y from by omega]
  · rw [if_neg (fun q => h ((iI_lt hx hy).mp q)), show max x y = x from by omega]
theorem fw_min {p : Program} {l : Launch} {e : Env} {R : Room} {s : State} {m : MethodId} {args : Array Value} {below : List Frame} {meth : Method} {c : Code} {H : Heap} {locs : List Loc} {cells slots : Nat} {Q : State → Prop} {cc : ByteArray} {pc : Nat} {ls : Array Slot} {rest : List Value} (hexec : p.tables.exec = Jvm.exec) (hb : c.code = cc) (hml : c.maxLocals = ls.size) {own : String} {index : Nat} (hown : s.vm.findClass own = some m.cls) (hlink : (Cond.methodLink own index Lib.Math.min.name).before args s = true) (hstat : (Cond.static Lib.Math.min.name).before args s = true) (hini : (Cond.initialized "java/lang/Math").before args s = true) (hcode : (Cond.code Lib.Math.min.name Lib.Math.min.code 2 (some .int)).before args s = true)
    (hframes : 1 ≤ R.frames) (hlocals : (rest.map fun v => v.category).sum + 13 ≤ R.locals) (hc : cells ≤ R.cells) (hs : slots ≤ R.slots) {x y : Int} (hx : -2147483648 ≤ x ∧ x ≤ 2147483647) (hy : -2147483648 ≤ y ∧ y ≤ 2147483647) (hdg : decode cc pc = .ok (.invokestatic index, 3))
    (kk : W p l e R s m args below meth c H locs cells slots Q (F0 m (pc + 3) ls (.int (iI (min x y)) :: rest))) : W p l e R s m args below meth c H locs cells slots Q (F0 m pc ls (.int (iI y) :: .int (iI x) :: rest)) :=
  va_mmin hexec hb hml hown hlink hstat hini hcode hframes hlocals hc hs hdg (by rw [iI_min hx hy]; exact kk)
theorem fw_max {p : Program} {l : Launch} {e : Env} {R : Room} {s : State} {m : MethodId} {args : Array Value} {below : List Frame} {meth : Method} {c : Code} {H : Heap} {locs : List Loc} {cells slots : Nat} {Q : State → Prop} {cc : ByteArray} {pc : Nat} {ls : Array Slot} {rest : List Value} (hexec : p.tables.exec = Jvm.exec) (hb : c.code = cc) (hml : c.maxLocals = ls.size) {own : String} {index : Nat} (hown : s.vm.findClass own = some m.cls) (hlink : (Cond.methodLink own index Lib.Math.max.name).before args s = true) (hstat : (Cond.static Lib.Math.max.name).before args s = true) (hini : (Cond.initialized "java/lang/Math").before args s = true) (hcode : (Cond.code Lib.Math.max.name Lib.Math.max.code 2 (some .int)).before args s = true)
    (hframes : 1 ≤ R.frames) (hlocals : (rest.map fun v => v.category).sum + 13 ≤ R.locals) (hc : cells ≤ R.cells) (hs : slots ≤ R.slots) {x y : Int} (hx : -2147483648 ≤ x ∧ x ≤ 2147483647) (hy : -2147483648 ≤ y ∧ y ≤ 2147483647) (hdg : decode cc pc = .ok (.invokestatic index, 3))
    (kk : W p l e R s m args below meth c H locs cells slots Q (F0 m (pc + 3) ls (.int (iI (max x y)) :: rest))) : W p l e R s m args below meth c H locs cells slots Q (F0 m pc ls (.int (iI y) :: .int (iI x) :: rest)) :=
  va_mmax hexec hb hml hown hlink hstat hini hcode hframes hlocals hc hs hdg (by rw [iI_max hx hy]; exact kk)
/-- the bounds alone -/
def Bnd (σ : St) : Prop := (σ 8 0 ≤ 40 ∧ (1 ≤ σ 8 1 ∧ σ 8 1 ≤ 120) ∧ σ 8 2 ≤ 1000 ∧ σ 8 3 ≤ 1000 ∧ σ 8 4 ≤ 5 ∧ σ 8 5 ≤ 200) ∧ (∀ c, σ 0 c ≤ 30 ∧ σ 1 c ≤ 4 ∧ σ 2 c ≤ 5 ∧ σ 3 c ≤ 4 ∧ σ 4 c ≤ 2 ∧ σ 5 c < 30 ∧ σ 6 c < 4) ∧ ∀ k, σ 7 k ≤ 1
theorem Bnd.n {σ : St} (h : Bnd σ) : σ 8 0 ≤ 40 := h.1.1
theorem Bnd.lim {σ : St} (h : Bnd σ) : (1 ≤ σ 8 1 ∧ σ 8 1 ≤ 120) ∧ σ 8 2 ≤ 1000 ∧ σ 8 3 ≤ 1000 ∧ σ 8 4 ≤ 5 ∧ σ 8 5 ≤ 200 := h.1.2
theorem Bnd.c {σ : St} (h : Bnd σ) (c : Nat) : σ 0 c ≤ 30 ∧ σ 1 c ≤ 4 ∧ σ 2 c ≤ 5 ∧ σ 3 c ≤ 4 ∧ σ 4 c ≤ 2 ∧ σ 5 c < 30 ∧ σ 6 c < 4 := h.2.1 c
theorem Bnd.pl {σ : St} (h : Bnd σ) (k : Nat) : σ 7 k ≤ 1 := h.2.2 k
theorem Inv.b {σ : St} (h : Inv σ) : Bnd σ := ⟨⟨h.n, h.lim⟩, h.c, h.pl⟩
