/-! ===== function worlds: the heap by names (kind, index); an address for each name ===== -/
abbrev fw_W : Type := Nat → Nat → Option va_E
abbrev fw_Ad : Type := Nat → Nat → Nat
def fw_up (w : fw_W) (a i : Nat) (x : va_E) : fw_W := fun b j => if b = a ∧ j = i then some x else w b j
abbrev fw_A (z : Nat) : Nat → Prop := fun q => z ≤ q
/-- the heap holds the cells of w at their addresses, from z on, each at its own -/
def fw_P (D : va_G) (cl : List vw_C) (z : Nat) (ad : fw_Ad) (w : fw_W) (H : Heap) : Prop :=
  (∀ a i x, w a i = some x → va_at D cl (ad a i, x) H ∧ z ≤ ad a i) ∧ ∀ a i x b j y, w a i = some x → w b j = some y → ad a i = ad b j → a = b ∧ i = j
def fw_Pre (D : va_G) (cl : List vw_C) (tys : List (ClassId × FieldType)) (z : Nat) (ad : fw_Ad) (w : fw_W) : State → Prop := fun U => fw_P D cl z ad w U.heap ∧ va_K D cl tys U
theorem fw_up_same (w : fw_W) (a i : Nat) (x : va_E) : fw_up w a i x a i = some x := by simp [fw_up]
theorem fw_up_ne {w : fw_W} {a i b j : Nat} {x : va_E} (h : ¬ (b = a ∧ j = i)) : fw_up w a i x b j = w b j := by simp only [fw_up, if_neg h]
theorem fw_up_k {w : fw_W} {a i b j : Nat} {x : va_E} (h : b ≠ a) : fw_up w a i x b j = w b j := fw_up_ne (fun q => h q.1)
theorem fw_up_i {w : fw_W} {a i b j : Nat} {x : va_E} (h : j ≠ i) : fw_up w a i x b j = w b j := fw_up_ne (fun q => h q.2)
theorem fw_one {D : va_G} {cl : List vw_C} {z : Nat} {ad : fw_Ad} {w : fw_W} {H : Heap} (h : fw_P D cl z ad w H) {a i : Nat} {x : va_E} (he : w a i = some x) : va_P D cl [(ad a i, x)] H := by
  intro k q hk
  have hk0 : k < 1 := (List.getElem?_eq_some_iff.mp hk).1
  have : k = 0 := by omega
  subst this
  cases hk
  exact (h.1 a i x he).1
theorem fw_list {D : va_G} {cl : List vw_C} {z : Nat} {ad : fw_Ad} {w : fw_W} {H : Heap} (h : fw_P D cl z ad w H) : ∃ ws : va_W, va_P D cl ws H ∧ va_D (fw_A z) ws ∧ ∀ a i x, w a i = some x → ∃ k : Nat, ws[k]? = some (ad a i, x) := by
  let P : Nat → va_E → Prop := fun q x => ∃ a i, w a i = some x ∧ ad a i = q
  have hfun : ∀ q x y, P q x → P q y → x = y := by
    rintro q x y ⟨a, i, h1, h2⟩ ⟨b, j, h3, h4⟩
    obtain ⟨rfl, rfl⟩ := h.2 a i x b j y h1 h3 (h2.trans h4.symm)
    exact Option.some.inj (h1.symm.trans h3)
  let g : Nat → Option (Nat × va_E) := fun q => (Classical.propDecidable (∃ x, P q x)).casesOn (fun _ => none) (fun hx => some (q, Classical.choose hx))
  have g1 : ∀ q y, g q = some y → y.1 = q ∧ P q y.2 := by
    intro q y hy
    dsimp only [g] at hy
    generalize Classical.propDecidable (∃ x, P q x) = dd at hy
    cases dd with
    | isFalse _ => cases hy
    | isTrue hx => cases hy; exact ⟨rfl, Classical.choose_spec hx⟩
  have g2 : ∀ q x, P q x → g q = some (q, x) := by
    intro q x hx
    dsimp only [g]
    generalize Classical.propDecidable (∃ x, P q x) = dd
    cases dd with
    | isFalse hn => exact absurd ⟨x, hx⟩ hn
    | isTrue hx' => exact congrArg (fun t => some (q, t)) (hfun q _ _ (Classical.choose_spec hx') hx)
  have hm : ∀ y, y ∈ (List.range H.size).filterMap g ↔ ∃ q, q < H.size ∧ g q = some y := by
    intro y
    simp only [List.mem_filterMap, List.mem_range]
  have hpw : ((List.range H.size).filterMap g).Pairwise (fun x y => x.1 ≠ y.1) := by
    refine List.Pairwise.filterMap (R := fun x y => x < y) g ?_ List.pairwise_lt_range
    intro q1 q2 hq y1 h1 y2 h2 hh
    have e1 := (g1 q1 y1 h1).1
    have e2 := (g1 q2 y2 h2).1
    omega
  refine ⟨(List.range H.size).filterMap g, ?_, ⟨?_, ?_⟩, ?_⟩
  · intro k q hk
    obtain ⟨q', -, hq⟩ := (hm q).mp (List.mem_of_getElem? hk)
    obtain ⟨e1, a, i, h1, h2⟩ := g1 q' q hq
    have := (h.1 a i q.2 h1).1
    rw [h2, ← e1] at this
    exact this
  · intro i j x y hi hj hxy
    obtain ⟨hi1, hi2⟩ := List.getElem?_eq_some_iff.mp hi
    obtain ⟨hj1, hj2⟩ := List.getElem?_eq_some_iff.mp hj
    rcases Nat.lt_trichotomy i j with hlt | heq | hgt
    · have := (List.pairwise_iff_getElem.mp hpw) i j hi1 hj1 hlt
      rw [hi2, hj2] at this
      exact absurd hxy this
    · exact heq
    · have := (List.pairwise_iff_getElem.mp hpw) j i hj1 hi1 hgt
      rw [hi2, hj2] at this
      exact absurd hxy.symm this
  · intro k q hk
    obtain ⟨q', -, hq⟩ := (hm q).mp (List.mem_of_getElem? hk)
    obtain ⟨e1, a, i, h1, h2⟩ := g1 q' q hq
    have := (h.1 a i q.2 h1).2
    show z ≤ q.1
    rw [e1, ← h2]
    exact this
  · intro a i x hx
    have hlt := (h.1 a i x hx).1.lt
    exact List.getElem?_of_mem ((hm _).mpr ⟨ad a i, hlt, g2 _ _ ⟨a, i, hx, rfl⟩⟩)
/-- a cell written: from the list back to the names -/
theorem fw_back {D : va_G} {cl : List vw_C} {z : Nat} {ad : fw_Ad} {w : fw_W} {H H1 : Heap} (h : fw_P D cl z ad w H) {ws : va_W} (hf : ∀ a i x, w a i = some x → ∃ k : Nat, ws[k]? = some (ad a i, x)) {a i q0 : Nat} {x0 x1 : va_E} (he : w a i = some x0) (hq0 : ws[q0]? = some (ad a i, x0)) (h1 : va_P D cl (ws.set q0 (ad a i, x1)) H1) : fw_P D cl z ad (fw_up w a i x1) H1 := by
  have hl : q0 < ws.length := (List.getElem?_eq_some_iff.mp hq0).1
  refine ⟨fun b j y hy => ?_, fun b j y b' j' y' hy hy' heq => ?_⟩
  · by_cases hbj : b = a ∧ j = i
    · obtain ⟨rfl, rfl⟩ := hbj
      rw [fw_up_same] at hy
      cases hy
      exact ⟨h1 q0 _ (List.getElem?_set_self hl), (h.1 _ _ _ he).2⟩
    · rw [fw_up_ne hbj] at hy
      obtain ⟨k, hk⟩ := hf _ _ _ hy
      have hne : k ≠ q0 := by
        rintro rfl
        rw [hq0] at hk
        exact hbj ((h.2 _ _ _ _ _ _ he hy (congrArg Prod.fst (Option.some.inj hk))).imp Eq.symm Eq.symm)
      exact ⟨h1 k _ (by rw [List.getElem?_set_ne (Ne.symm hne)]; exact hk), (h.1 _ _ _ hy).2⟩
  · have live : ∀ b j y, fw_up w a i x1 b j = some y → ∃ y', w b j = some y' := by
      intro b j y hy
      by_cases hbj : b = a ∧ j = i
      · obtain ⟨rfl, rfl⟩ := hbj
        exact ⟨_, he⟩
      · rw [fw_up_ne hbj] at hy
        exact ⟨_, hy⟩
    obtain ⟨u, hu⟩ := live _ _ _ hy
    obtain ⟨u', hu'⟩ := live _ _ _ hy'
    exact h.2 _ _ _ _ _ _ hu hu' heq
/-- a cell made: it gets a name that is free -/
theorem fw_born {D : va_G} {cl : List vw_C} {z : Nat} {ad : fw_Ad} {w : fw_W} {H H1 : Heap} (h : fw_P D cl z ad w H) {ws : va_W} (hf : ∀ a i x, w a i = some x → ∃ k : Nat, ws[k]? = some (ad a i, x)) {a i q : Nat} {x : va_E} (hfree : w a i = none) (h1 : va_P D cl (ws ++ [(q, x)]) H1) (hD : va_D (fw_A z) (ws ++ [(q, x)])) {ad' : fw_Ad} (hq : ad' a i = q) (hs : ∀ b j, ¬ (b = a ∧ j = i) → ad' b j = ad b j) : fw_P D cl z ad' (fw_up w a i x) H1 := by
  have hlast : (ws ++ [(q, x)])[ws.length]? = some (q, x) := by simp
  have old : ∀ b j y, w b j = some y → ¬ (b = a ∧ j = i) ∧ (∃ k : Nat, k < ws.length ∧ (ws ++ [(q, x)])[k]? = some (ad b j, y)) := by
    intro b j y hy
    refine ⟨fun hbj => ?_, ?_⟩
    · obtain ⟨rfl, rfl⟩ := hbj
      rw [hfree] at hy
      cases hy
    · obtain ⟨k, hk⟩ := hf _ _ _ hy
      have hl := (List.getElem?_eq_some_iff.mp hk).1
      exact ⟨k, hl, by rw [List.getElem?_append_left hl]; exact hk⟩
  have new : ∀ b j y, w b j = some y → ad b j ≠ q := by
    intro b j y hy hh
    obtain ⟨-, k, hk, hk2⟩ := old b j y hy
    have := hD.1 k ws.length _ _ hk2 hlast hh
    omega
  refine ⟨fun b j y hy => ?_, fun b j y b' j' y' hy hy' heq => ?_⟩
  · by_cases hbj : b = a ∧ j = i
    · obtain ⟨rfl, rfl⟩ := hbj
      rw [fw_up_same] at hy
      cases hy
      rw [hq]
      exact ⟨h1 _ _ hlast, hD.2 _ _ hlast⟩
    · rw [fw_up_ne hbj] at hy
      rw [hs b j hbj]
      obtain ⟨-, k, hk, hk2⟩ := old b j y hy
      exact ⟨h1 k _ hk2, (h.1 _ _ _ hy).2⟩
  · by_cases hbj : b = a ∧ j = i <;> by_cases hbj' : b' = a ∧ j' = i
    · exact ⟨hbj.1.trans hbj'.1.symm, hbj.2.trans hbj'.2.symm⟩
    · rw [fw_up_ne hbj'] at hy'
      rw [hs b' j' hbj', hbj.1, hbj.2, hq] at heq
      exact absurd heq.symm (new _ _ _ hy')
    · rw [fw_up_ne hbj] at hy
      rw [hs b j hbj, hbj'.1, hbj'.2, hq] at heq
      exact absurd heq (new _ _ _ hy)
    · rw [fw_up_ne hbj] at hy
      rw [fw_up_ne hbj'] at hy'
      rw [hs b j hbj, hs b' j' hbj'] at heq
      exact h.2 _ _ _ _ _ _ hy hy' heq
/-- fewer cells, the same ones -/
theorem fw_less {D : va_G} {cl : List vw_C} {z : Nat} {ad ad' : fw_Ad} {w w' : fw_W} {H : Heap} (h : fw_P D cl z ad w H) (hw : ∀ a i x, w' a i = some x → w a i = some x) (ha : ∀ a i x, w' a i = some x → ad' a i = ad a i) : fw_P D cl z ad' w' H := by
  refine ⟨fun a i x hx => ?_, fun a i x b j y hx hy heq => ?_⟩
  · rw [ha _ _ _ hx]
    exact h.1 _ _ _ (hw _ _ _ hx)
  · rw [ha _ _ _ hx, ha _ _ _ hy] at heq
    exact h.2 _ _ _ _ _ _ (hw _ _ _ hx) (hw _ _ _ hy) heq
theorem fw_eq {D : va_G} {cl : List vw_C} {z : Nat} {ad : fw_Ad} {w w' : fw_W} {H : Heap} (h : fw_P D cl z ad w H) (hw : ∀ a i, w' a i = w a i) : fw_P D cl z ad w' H := fw_less h (fun a i x hx => by rw [← hw]; exact hx) (fun _ _ _ _ => rfl)
theorem fw_pre_blind {D : va_G} {cl : List vw_C} {tys : List (ClassId × FieldType)} {z : Nat} {ad : fw_Ad} {w : fw_W} {av : List Value} : FrameBlind (va_Pc av (fw_Pre D cl tys z ad w)) := fun a U g mk q => by
  obtain ⟨q0, q1, q2⟩ := q
  exact ⟨q0, q1, va_K.moved (u := U) (U := U.calling g mk a) (Vm.Alike.refl U.vm) q2⟩
section FWR
variable {p : Program} {l : Launch} {e : Env} {R : Room} {s : State} {m : MethodId} {args : Array Value} {below : List Frame} {meth : Method} {c : Code} {H : Heap} {locs : List Loc} {cells slots : Nat} {Q : State → Prop}
variable {cc : ByteArray} {pc : Nat} {ls : Array Slot} {rest : List Value} {D : va_G} {cl : List vw_C} {tys : List (ClassId × FieldType)} {H0 : Heap} {z : Nat} {ad : fw_Ad} {w : fw_W} {a i : Nat}
/-! reads -/
theorem fw_get (hexec : p.tables.exec = Jvm.exec) (hb : c.code = cc) {own ref C : String} {T : u_T} {N ci index : Nat} {Ts : List Cond} (hts : ∀ w ∈ Ts, w.before args s = true) (hin : ∀ w ∈ u_ws C T N, w ∈ Ts) (hown : s.vm.findClass own = some m.cls) (hK : va_K D cl tys s) (hP : fw_P D cl z ad w H) {fs : List Value} (he : w a i = some (.inr (ci, fs))) (hc : cl[ci]? = some (C, T, N)) (k : Nat) (hk : k < N) (hlink : (Cond.fieldLink own index ref (T k).2.1 (T k).2.2.1).before args s = true) (hsame : ∀ x, s.fieldFound? (T k).1 (T k).2.1 (T k).2.2.1 = some x → s.fieldFound? ref (T k).2.1 (T k).2.2.1 = some x) {v : Value} (hv : fs[k]? = some v) (hdg : decode cc pc = .ok (.getfield index, 3))
    (kk : W p l e R s m args below meth c H locs cells slots Q (F0 m (pc + 3) ls (v :: rest))) : W p l e R s m args below meth c H locs cells slots Q (F0 m pc ls (.ref (ad a i) :: rest)) :=
  va_get hexec hb hts hin hown hK (fw_one hP he) 0 rfl hc k hk hlink hsame hv hdg kk
theorem fw_iald (hexec : p.tables.exec = Jvm.exec) (hb : c.code = cc) (hK : va_K D cl tys s) (hP : fw_P D cl z ad w H) {cA : ClassId} {n : Nat} {f : Nat → Int32} (he : w a i = some (.inl (cA, n, .inl f))) (t0 : Nat) (ht : tys[t0]? = some (cA, .int)) {j : Int32} (hin : vp_in j n) (hdg : decode cc pc = .ok (.iaload, 1))
    (kk : W p l e R s m args below meth c H locs cells slots Q (F0 m (pc + 1) ls (.int (f j.toNatClampNeg) :: rest))) : W p l e R s m args below meth c H locs cells slots Q (F0 m pc ls (.int j :: .ref (ad a i) :: rest)) :=
  va_iald hexec hb hK (fw_one hP he) 0 t0 rfl ht hin hdg kk
theorem fw_zald (hexec : p.tables.exec = Jvm.exec) (hb : c.code = cc) (hK : va_K D cl tys s) (hP : fw_P D cl z ad w H) {cA : ClassId} {n : Nat} {f : Nat → Int32} (he : w a i = some (.inl (cA, n, .inl f))) (t0 : Nat) (ht : tys[t0]? = some (cA, .boolean)) {j : Int32} (hin : vp_in j n) (hdg : decode cc pc = .ok (.baload, 1))
    (kk : W p l e R s m args below meth c H locs cells slots Q (F0 m (pc + 1) ls (.int (f j.toNatClampNeg) :: rest))) : W p l e R s m args below meth c H locs cells slots Q (F0 m pc ls (.int j :: .ref (ad a i) :: rest)) :=
  va_zald hexec hb hK (fw_one hP he) 0 t0 rfl ht hin hdg kk
theorem fw_lald (hexec : p.tables.exec = Jvm.exec) (hb : c.code = cc) (hK : va_K D cl tys s) (hP : fw_P D cl z ad w H) {cA : ClassId} {n : Nat} {f : Nat → Int64} (he : w a i = some (.inl (cA, n, .inr (.inl f)))) (t0 : Nat) (ht : tys[t0]? = some (cA, .long)) {j : Int32} (hin : vp_in j n) (hdg : decode cc pc = .ok (.laload, 1))
    (kk : W p l e R s m args below meth c H locs cells slots Q (F0 m (pc + 1) ls (.long (f j.toNatClampNeg) :: rest))) : W p l e R s m args below meth c H locs cells slots Q (F0 m pc ls (.int j :: .ref (ad a i) :: rest)) :=
  va_lald hexec hb hK (fw_one hP he) 0 t0 rfl ht hin hdg kk
theorem fw_aldq (hexec : p.tables.exec = Jvm.exec) (hb : c.code = cc) (hK : va_K D cl tys s) (hP : fw_P D cl z ad w H) {cA : ClassId} {C : String} {n : Nat} {f : Nat → Option Nat} (he : w a i = some (.inl (cA, n, .inr (.inr (.inr (.inr f)))))) (t0 : Nat) (ht : tys[t0]? = some (cA, .object C)) {j : Int32} (hin : vp_in j n) (hdg : decode cc pc = .ok (.aaload, 1))
    (kk : W p l e R s m args below meth c H locs cells slots Q (F0 m (pc + 1) ls (va_rf (f j.toNatClampNeg) :: rest))) : W p l e R s m args below meth c H locs cells slots Q (F0 m pc ls (.int j :: .ref (ad a i) :: rest)) :=
  va_aldq hexec hb hK (fw_one hP he) 0 t0 rfl ht hin hdg kk
theorem fw_alen (hexec : p.tables.exec = Jvm.exec) (hb : c.code = cc) (hK : va_K D cl tys s) (hP : fw_P D cl z ad w H) {cA : ClassId} {x : vp_A} (he : w a i = some (.inl (cA, x))) (t0 : Nat) {ty : FieldType} (ht : tys[t0]? = some (cA, ty)) {v : Int32} (hv : Int32.ofNat x.1 = v) (hdg : decode cc pc = .ok (.arraylength, 1))
    (kk : W p l e R s m args below meth c H locs cells slots Q (F0 m (pc + 1) ls (.int v :: rest))) : W p l e R s m args below meth c H locs cells slots Q (F0 m pc ls (.ref (ad a i) :: rest)) :=
  va_alen hexec hb hK (fw_one hP he) 0 t0 rfl ht hv hdg kk
/-! writes -/
theorem fw_put (hexec : p.tables.exec = Jvm.exec) (hb : c.code = cc) {own ref C : String} {T : u_T} {N ci index : Nat} {Ts : List Cond} (hts : ∀ w ∈ Ts, w.before args s = true) (hin : ∀ w ∈ u_ws C T N, w ∈ Ts) (ty0 : Nat → FieldType) (hty : ∀ k, k < N → parseFieldDescriptor (T k).2.2.1 = some (ty0 k)) (hnm : ∀ a, a < N → ∀ b, b < N → a ≠ b → (T a).2.1 ≠ (T b).2.1) (hown : s.vm.findClass own = some m.cls) (hK : va_K D cl tys s) (hP : fw_P D cl z ad w H) (hS0 : va_S (fw_A z) H0 H locs) {fs : List Value} (he : w a i = some (.inr (ci, fs))) (hc : cl[ci]? = some (C, T, N)) (k : Nat) (hk : k < N) (hlink : (Cond.fieldLink own index ref (T k).2.1 (T k).2.2.1).before args s = true) (hsame : ∀ x, s.fieldFound? (T k).1 (T k).2.1 (T k).2.2.1 = some x → s.fieldFound? ref (T k).2.1 (T k).2.2.1 = some x) (hfin : (T k).2.2.2 = false) {ty : FieldType} {v : Value} (hd : parseFieldDescriptor (T k).2.2.1 = some ty) (hn : narrow ty v = v) (hfit : Jvm.fits ty v = true) (hl : k < fs.length)
    (hdg : decode cc pc = .ok (.putfield index, 3)) (kk : ∀ (H1 : Heap) (locs1 : List Loc), fw_P D cl z ad (fw_up w a i (.inr (ci, fs.set k v))) H1 → va_S (fw_A z) H0 H1 locs1 → W p l e R s m args below meth c H1 locs1 cells slots Q (F0 m (pc + 3) ls rest)) : W p l e R s m args below meth c H locs cells slots Q (F0 m pc ls (v :: .ref (ad a i) :: rest)) := by
  obtain ⟨ws, hP', hD, hf⟩ := fw_list hP
  obtain ⟨q0, hq0⟩ := hf _ _ _ he
  exact va_put hexec hb hts hin ty0 hty hnm hown hK hP' hD hS0 q0 hq0 hc k hk hlink hsame hfin hd hn hfit hl hdg (fun H1 l1 h1 h2 h3 => kk H1 l1 (fw_back hP hf he hq0 h1) h3)
theorem fw_putF (hexec : p.tables.exec = Jvm.exec) (hb : c.code = cc) {own ref C : String} {T : u_T} {N ci index : Nat} {Ts : List Cond} (hts : ∀ w ∈ Ts, w.before args s = true) (hin : ∀ w ∈ u_ws C T N, w ∈ Ts) (ty0 : Nat → FieldType) (hty : ∀ k, k < N → parseFieldDescriptor (T k).2.2.1 = some (ty0 k)) (hnm : ∀ a, a < N → ∀ b, b < N → a ≠ b → (T a).2.1 ≠ (T b).2.1) (hown : s.vm.findClass own = some m.cls) (hK : va_K D cl tys s) (hP : fw_P D cl z ad w H) (hS0 : va_S (fw_A z) H0 H locs) {fs : List Value} (he : w a i = some (.inr (ci, fs))) (hc : cl[ci]? = some (C, T, N)) (k : Nat) (hk : k < N) (hlink : (Cond.fieldLink own index ref (T k).2.1 (T k).2.2.1).before args s = true) (hsame : ∀ x, s.fieldFound? (T k).1 (T k).2.1 (T k).2.2.1 = some x → s.fieldFound? ref (T k).2.1 (T k).2.2.1 = some x) (hfin : (T k).2.2.2 = true) (hin2 : meth.name = "<init>") (hdecl : (T k).1 = own) {ty : FieldType} {v : Value} (hd : parseFieldDescriptor (T k).2.2.1 = some ty) (hn : narrow ty v = v) (hfit : Jvm.fits ty v = true) (hl : k < fs.length)
    (hdg : decode cc pc = .ok (.putfield index, 3)) (kk : ∀ (H1 : Heap) (locs1 : List Loc), fw_P D cl z ad (fw_up w a i (.inr (ci, fs.set k v))) H1 → va_S (fw_A z) H0 H1 locs1 → W p l e R s m args below meth c H1 locs1 cells slots Q (F0 m (pc + 3) ls rest)) : W p l e R s m args below meth c H locs cells slots Q (F0 m pc ls (v :: .ref (ad a i) :: rest)) := by
  obtain ⟨ws, hP', hD, hf⟩ := fw_list hP
  obtain ⟨q0, hq0⟩ := hf _ _ _ he
  exact va_putF hexec hb hts hin ty0 hty hnm hown hK hP' hD hS0 q0 hq0 hc k hk hlink hsame hfin hin2 hdecl hd hn hfit hl hdg (fun H1 l1 h1 h2 h3 => kk H1 l1 (fw_back hP hf he hq0 h1) h3)
theorem fw_iast (hexec : p.tables.exec = Jvm.exec) (hb : c.code = cc) (hK : va_K D cl tys s) (hP : fw_P D cl z ad w H) (hS : va_S (fw_A z) H0 H locs) {cA : ClassId} {n : Nat} {f : Nat → Int32} (he : w a i = some (.inl (cA, n, .inl f))) (t0 : Nat) (ht : tys[t0]? = some (cA, .int)) {j : Int32} {x : Int32} (hin : vp_in j n) (hdg : decode cc pc = .ok (.iastore, 1))
    (kk : ∀ (H1 : Heap) (locs1 : List Loc), fw_P D cl z ad (fw_up w a i (.inl (cA, n, .inl (upd f j.toNatClampNeg x)))) H1 → va_S (fw_A z) H0 H1 locs1 → W p l e R s m args below meth c H1 locs1 cells slots Q (F0 m (pc + 1) ls rest)) : W p l e R s m args below meth c H locs cells slots Q (F0 m pc ls (.int x :: .int j :: .ref (ad a i) :: rest)) := by
  obtain ⟨ws, hP', hD, hf⟩ := fw_list hP
  obtain ⟨q0, hq0⟩ := hf _ _ _ he
  exact va_iast hexec hb hK hP' hD hS q0 t0 hq0 ht hin hdg (fun H1 l1 h1 h2 h3 => kk H1 l1 (fw_back hP hf he hq0 h1) h3)
theorem fw_zast (hexec : p.tables.exec = Jvm.exec) (hb : c.code = cc) (hK : va_K D cl tys s) (hP : fw_P D cl z ad w H) (hS : va_S (fw_A z) H0 H locs) {cA : ClassId} {n : Nat} {f : Nat → Int32} (he : w a i = some (.inl (cA, n, .inl f))) (t0 : Nat) (ht : tys[t0]? = some (cA, .boolean)) {j : Int32} {x : Int32} (hin : vp_in j n) (hdg : decode cc pc = .ok (.bastore, 1))
    (kk : ∀ (H1 : Heap) (locs1 : List Loc), fw_P D cl z ad (fw_up w a i (.inl (cA, n, .inl (upd f j.toNatClampNeg (vp_nar .boolean x))))) H1 → va_S (fw_A z) H0 H1 locs1 → W p l e R s m args below meth c H1 locs1 cells slots Q (F0 m (pc + 1) ls rest)) : W p l e R s m args below meth c H locs cells slots Q (F0 m pc ls (.int x :: .int j :: .ref (ad a i) :: rest)) := by
  obtain ⟨ws, hP', hD, hf⟩ := fw_list hP
  obtain ⟨q0, hq0⟩ := hf _ _ _ he
  exact va_zast hexec hb hK hP' hD hS q0 t0 hq0 ht hin hdg (fun H1 l1 h1 h2 h3 => kk H1 l1 (fw_back hP hf he hq0 h1) h3)
theorem fw_last (hexec : p.tables.exec = Jvm.exec) (hb : c.code = cc) (hK : va_K D cl tys s) (hP : fw_P D cl z ad w H) (hS : va_S (fw_A z) H0 H locs) {cA : ClassId} {n : Nat} {f : Nat → Int64} (he : w a i = some (.inl (cA, n, .inr (.inl f)))) (t0 : Nat) (ht : tys[t0]? = some (cA, .long)) {j : Int32} {x : Int64} (hin : vp_in j n) (hdg : decode cc pc = .ok (.lastore, 1))
    (kk : ∀ (H1 : Heap) (locs1 : List Loc), fw_P D cl z ad (fw_up w a i (.inl (cA, n, .inr (.inl (vp_updL f j.toNatClampNeg x))))) H1 → va_S (fw_A z) H0 H1 locs1 → W p l e R s m args below meth c H1 locs1 cells slots Q (F0 m (pc + 1) ls rest)) : W p l e R s m args below meth c H locs cells slots Q (F0 m pc ls (.long x :: .int j :: .ref (ad a i) :: rest)) := by
  obtain ⟨ws, hP', hD, hf⟩ := fw_list hP
  obtain ⟨q0, hq0⟩ := hf _ _ _ he
  exact va_last hexec hb hK hP' hD hS q0 t0 hq0 ht hin hdg (fun H1 l1 h1 h2 h3 => kk H1 l1 (fw_back hP hf he hq0 h1) h3)
theorem fw_two {ws : va_W} {w : fw_W} {ad : fw_Ad} (hf : ∀ a i x, w a i = some x → ∃ k : Nat, ws[k]? = some (ad a i, x)) {a i : Nat} {x : va_E} (he : w a i = some x) : ∃ k : Nat, ws[k]? = some (ad a i, x) := hf _ _ _ he
theorem fw_astq (hexec : p.tables.exec = Jvm.exec) (hb : c.code = cc) (hK : va_K D cl tys s) (hP : fw_P D cl z ad w H) (hS : va_S (fw_A z) H0 H locs) {ci : Nat} {cA : ClassId} {r : vw_C} {n b k : Nat} {vs : List Value} {f : Nat → Option Nat} (he : w a i = some (.inl (cA, n, .inr (.inr (.inr (.inr f)))))) (t0 : Nat) (ht : tys[t0]? = some (cA, .object r.1)) (hv : w b k = some (.inr (ci, vs))) (hc : cl[ci]? = some r) {j : Int32} (hin : vp_in j n) (hdg : decode cc pc = .ok (.aastore, 1))
    (kk : ∀ (H1 : Heap) (locs1 : List Loc), fw_P D cl z ad (fw_up w a i (.inl (cA, n, .inr (.inr (.inr (.inr (va_up f j.toNatClampNeg (some (ad b k))))))))) H1 → va_S (fw_A z) H0 H1 locs1 → W p l e R s m args below meth c H1 locs1 cells slots Q (F0 m (pc + 1) ls rest)) : W p l e R s m args below meth c H locs cells slots Q (F0 m pc ls (.ref (ad b k) :: .int j :: .ref (ad a i) :: rest)) := by
  obtain ⟨ws, hP', hD, hf⟩ := fw_list hP
  obtain ⟨q0, hq0⟩ := hf _ _ _ he
  obtain ⟨q1, hq1⟩ := hf _ _ _ hv
  exact va_astq hexec hb hK hP' hD hS q0 t0 q1 ci hq0 ht hq1 hc hin hdg (fun H1 l1 h1 h2 h3 => kk H1 l1 (fw_back hP hf he hq0 h1) h3)
theorem fw_astqN (hexec : p.tables.exec = Jvm.exec) (hb : c.code = cc) (hK : va_K D cl tys s) (hP : fw_P D cl z ad w H) (hS : va_S (fw_A z) H0 H locs) {cA : ClassId} {C : String} {n : Nat} {f : Nat → Option Nat} (he : w a i = some (.inl (cA, n, .inr (.inr (.inr (.inr f)))))) (t0 : Nat) (ht : tys[t0]? = some (cA, .object C)) {j : Int32} (hin : vp_in j n) (hdg : decode cc pc = .ok (.aastore, 1))
    (kk : ∀ (H1 : Heap) (locs1 : List Loc), fw_P D cl z ad (fw_up w a i (.inl (cA, n, .inr (.inr (.inr (.inr (va_up f j.toNatClampNeg none))))))) H1 → va_S (fw_A z) H0 H1 locs1 → W p l e R s m args below meth c H1 locs1 cells slots Q (F0 m (pc + 1) ls rest)) : W p l e R s m args below meth c H locs cells slots Q (F0 m pc ls (.null :: .int j :: .ref (ad a i) :: rest)) := by
  obtain ⟨ws, hP', hD, hf⟩ := fw_list hP
  obtain ⟨q0, hq0⟩ := hf _ _ _ he
  exact va_astqN hexec hb hK hP' hD hS q0 t0 hq0 ht hin hdg (fun H1 l1 h1 h2 h3 => kk H1 l1 (fw_back hP hf he hq0 h1) h3)
end FWR
/-! posts, ends, calls -/
abbrev fw_Qi (D : va_G) (cl : List vw_C) (z : Nat) (ad : fw_Ad) (post : Int32 → fw_W → Prop) : Array Value → State → Outcome → State → Prop := va_Qi (S := fw_W) post (fun w' t => fw_P D cl z ad w' t.heap) (fw_A z)
abbrev fw_Ql (D : va_G) (cl : List vw_C) (z : Nat) (ad : fw_Ad) (post : Int64 → fw_W → Prop) : Array Value → State → Outcome → State → Prop := va_Ql (S := fw_W) post (fun w' t => fw_P D cl z ad w' t.heap) (fw_A z)
abbrev fw_Qd (D : va_G) (cl : List vw_C) (z : Nat) (ad : fw_Ad) (post : UInt64 → fw_W → Prop) : Array Value → State → Outcome → State → Prop := va_Qd (S := fw_W) post (fun w' t => fw_P D cl z ad w' t.heap) (fw_A z)
abbrev fw_Qv (D : va_G) (cl : List vw_C) (z : Nat) (ad : fw_Ad) (post : fw_W → Prop) : Array Value → State → Outcome → State → Prop := va_Qv (S := fw_W) post (fun w' t => fw_P D cl z ad w' t.heap) (fw_A z)
abbrev fw_Qq (D : va_G) (cl : List vw_C) (z : Nat) (ad : fw_Ad) (post : Option Nat → fw_W → Prop) : Array Value → State → Outcome → State → Prop := va_Qq (S := fw_W) post (fun w' t => fw_P D cl z ad w' t.heap) (fw_A z)
section FWC
variable {p : Program} {l : Launch} {e : Env} {R : Room} {s : State} {m : MethodId} {args : Array Value} {below : List Frame} {meth : Method} {c : Code} {H : Heap} {locs : List Loc} {cells slots : Nat} {Q : State → Prop}
variable {cc : ByteArray} {pc : Nat} {ls : Array Slot} {rest As stk : List Value} {D : va_G} {cl : List vw_C} {tys : List (ClassId × FieldType)} {H0 : Heap} {z : Nat} {ad : fw_Ad} {w : fw_W} {b k : Nat}
variable {y : MethodName} {bytes : ByteArray} {maxL nL mc ms n index ci N : Nat} {ret : Option FieldType} {ws : List Cond} {rm : Room} {Ts : List Cond} {own C : String} {T : u_T} {fs : List Value}
theorem fw_cVi {post : Int32 → fw_W → Prop} (S : CallFix p m c cc nL s args Ts own) (hM : Met l y ws rm (va_Pc (.ref (ad b k) :: As) (fw_Pre D cl tys z ad w)) (fw_Qi D cl z ad post) mc ms (fw_A z)) (cw : CallW R s args own C index y bytes maxL ret ws rm mc ms n) (hrc : w b k = some (.inr (ci, fs))) (hc : cl[ci]? = some (C, T, N)) (hn : As.length = n) (hsize : ls.size = nL) (hW : (rest.map fun v => v.category).sum ≤ 8) (hdg : decode cc pc = .ok (.invokevirtual index, 3)) (hf : cells + mc ≤ R.cells ∧ slots + ms ≤ R.slots) (hK : va_K D cl tys s) (hP : fw_P D cl z ad w H) (hS : va_S (fw_A z) H0 H locs) (hstk : stk = As.reverse ++ .ref (ad b k) :: rest)
    (kk : ∀ (r : Int32) (w' : fw_W) (H1 : Heap) (locs1 : List Loc), post r w' → fw_P D cl z ad w' H1 → va_S (fw_A z) H0 H1 locs1 → W p l e R s m args below meth c H1 locs1 (cells + mc) (slots + ms) Q (F0 m (pc + 3) ls (.int r :: rest))) : W p l e R s m args below meth c H locs cells slots Q (F0 m pc ls stk) := by
  subst hstk
  exact va_calli (va_runV (As := As) (rest := rest) S hM cw ⟨fw_pre_blind, va_recv hK (fw_one hP hrc) hc (q0 := 0) rfl, fun U hU hW => ⟨rfl, by rw [hU]; exact hP, va_K.moved hW.alike hK⟩⟩ rfl hn hsize rfl (lv_room hW) hdg hf) hS (fun q _ h => h) (fun q h => h) (fun r u t H1 locs1 ht hvm hp hB hz hk hS1 => kk r u H1 locs1 hp (by rw [← ht]; exact hB) hS1)
theorem fw_cSi {post : Int32 → fw_W → Prop} (S : CallFix p m c cc nL s args Ts own) (hM : Met l y ws rm (va_Pc As (fw_Pre D cl tys z ad w)) (fw_Qi D cl z ad post) mc ms (fw_A z)) (cw : CallB R s args own index y bytes maxL ret ws rm mc ms n ∧ (Cond.static y).before args s = true) (hn : As.length = n) (hsize : ls.size = nL) (hW : (rest.map fun v => v.category).sum ≤ 8) (hdg : decode cc pc = .ok (.invokestatic index, 3)) (hf : cells + mc ≤ R.cells ∧ slots + ms ≤ R.slots) (hK : va_K D cl tys s) (hP : fw_P D cl z ad w H) (hS : va_S (fw_A z) H0 H locs) (hstk : stk = As.reverse ++ rest)
    (kk : ∀ (r : Int32) (w' : fw_W) (H1 : Heap) (locs1 : List Loc), post r w' → fw_P D cl z ad w' H1 → va_S (fw_A z) H0 H1 locs1 → W p l e R s m args below meth c H1 locs1 (cells + mc) (slots + ms) Q (F0 m (pc + 3) ls (.int r :: rest))) : W p l e R s m args below meth c H locs cells slots Q (F0 m pc ls stk) := by
  subst hstk
  exact va_calli (va_runS (As := As) (rest := rest) S hM cw ⟨fw_pre_blind, fun U hU hW => ⟨rfl, by rw [hU]; exact hP, va_K.moved hW.alike hK⟩⟩ rfl hn hsize rfl (lv_room hW) hdg hf) hS (fun q _ h => h) (fun q h => h) (fun r u t H1 locs1 ht hvm hp hB hz hk hS1 => kk r u H1 locs1 hp (by rw [← ht]; exact hB) hS1)
theorem fw_cVl {post : Int64 → fw_W → Prop} (S : CallFix p m c cc nL s args Ts own) (hM : Met l y ws rm (va_Pc (.ref (ad b k) :: As) (fw_Pre D cl tys z ad w)) (fw_Ql D cl z ad post) mc ms (fw_A z)) (cw : CallW R s args own C index y bytes maxL ret ws rm mc ms n) (hrc : w b k = some (.inr (ci, fs))) (hc : cl[ci]? = some (C, T, N)) (hn : As.length = n) (hsize : ls.size = nL) (hW : (rest.map fun v => v.category).sum ≤ 8) (hdg : decode cc pc = .ok (.invokevirtual index, 3)) (hf : cells + mc ≤ R.cells ∧ slots + ms ≤ R.slots) (hK : va_K D cl tys s) (hP : fw_P D cl z ad w H) (hS : va_S (fw_A z) H0 H locs) (hstk : stk = As.reverse ++ .ref (ad b k) :: rest)
    (kk : ∀ (r : Int64) (w' : fw_W) (H1 : Heap) (locs1 : List Loc), post r w' → fw_P D cl z ad w' H1 → va_S (fw_A z) H0 H1 locs1 → W p l e R s m args below meth c H1 locs1 (cells + mc) (slots + ms) Q (F0 m (pc + 3) ls (.long r :: rest))) : W p l e R s m args below meth c H locs cells slots Q (F0 m pc ls stk) := by
  subst hstk
  exact va_calll (va_runV (As := As) (rest := rest) S hM cw ⟨fw_pre_blind, va_recv hK (fw_one hP hrc) hc (q0 := 0) rfl, fun U hU hW => ⟨rfl, by rw [hU]; exact hP, va_K.moved hW.alike hK⟩⟩ rfl hn hsize rfl (lv_room hW) hdg hf) hS (fun q _ h => h) (fun q h => h) (fun r u t H1 locs1 ht hvm hp hB hz hk hS1 => kk r u H1 locs1 hp (by rw [← ht]; exact hB) hS1)
theorem fw_cSl {post : Int64 → fw_W → Prop} (S : CallFix p m c cc nL s args Ts own) (hM : Met l y ws rm (va_Pc As (fw_Pre D cl tys z ad w)) (fw_Ql D cl z ad post) mc ms (fw_A z)) (cw : CallB R s args own index y bytes maxL ret ws rm mc ms n ∧ (Cond.static y).before args s = true) (hn : As.length = n) (hsize : ls.size = nL) (hW : (rest.map fun v => v.category).sum ≤ 8) (hdg : decode cc pc = .ok (.invokestatic index, 3)) (hf : cells + mc ≤ R.cells ∧ slots + ms ≤ R.slots) (hK : va_K D cl tys s) (hP : fw_P D cl z ad w H) (hS : va_S (fw_A z) H0 H locs) (hstk : stk = As.reverse ++ rest)
    (kk : ∀ (r : Int64) (w' : fw_W) (H1 : Heap) (locs1 : List Loc), post r w' → fw_P D cl z ad w' H1 → va_S (fw_A z) H0 H1 locs1 → W p l e R s m args below meth c H1 locs1 (cells + mc) (slots + ms) Q (F0 m (pc + 3) ls (.long r :: rest))) : W p l e R s m args below meth c H locs cells slots Q (F0 m pc ls stk) := by
  subst hstk
  exact va_calll (va_runS (As := As) (rest := rest) S hM cw ⟨fw_pre_blind, fun U hU hW => ⟨rfl, by rw [hU]; exact hP, va_K.moved hW.alike hK⟩⟩ rfl hn hsize rfl (lv_room hW) hdg hf) hS (fun q _ h => h) (fun q h => h) (fun r u t H1 locs1 ht hvm hp hB hz hk hS1 => kk r u H1 locs1 hp (by rw [← ht]; exact hB) hS1)
theorem fw_cVd {post : UInt64 → fw_W → Prop} (S : CallFix p m c cc nL s args Ts own) (hM : Met l y ws rm (va_Pc (.ref (ad b k) :: As) (fw_Pre D cl tys z ad w)) (fw_Qd D cl z ad post) mc ms (fw_A z)) (cw : CallW R s args own C index y bytes maxL ret ws rm mc ms n) (hrc : w b k = some (.inr (ci, fs))) (hc : cl[ci]? = some (C, T, N)) (hn : As.length = n) (hsize : ls.size = nL) (hW : (rest.map fun v => v.category).sum ≤ 8) (hdg : decode cc pc = .ok (.invokevirtual index, 3)) (hf : cells + mc ≤ R.cells ∧ slots + ms ≤ R.slots) (hK : va_K D cl tys s) (hP : fw_P D cl z ad w H) (hS : va_S (fw_A z) H0 H locs) (hstk : stk = As.reverse ++ .ref (ad b k) :: rest)
    (kk : ∀ (r : UInt64) (w' : fw_W) (H1 : Heap) (locs1 : List Loc), post r w' → fw_P D cl z ad w' H1 → va_S (fw_A z) H0 H1 locs1 → W p l e R s m args below meth c H1 locs1 (cells + mc) (slots + ms) Q (F0 m (pc + 3) ls (.double r :: rest))) : W p l e R s m args below meth c H locs cells slots Q (F0 m pc ls stk) := by
  subst hstk
  exact va_calld (va_runV (As := As) (rest := rest) S hM cw ⟨fw_pre_blind, va_recv hK (fw_one hP hrc) hc (q0 := 0) rfl, fun U hU hW => ⟨rfl, by rw [hU]; exact hP, va_K.moved hW.alike hK⟩⟩ rfl hn hsize rfl (lv_room hW) hdg hf) hS (fun q _ h => h) (fun q h => h) (fun r u t H1 locs1 ht hvm hp hB hz hk hS1 => kk r u H1 locs1 hp (by rw [← ht]; exact hB) hS1)
theorem fw_cSd {post : UInt64 → fw_W → Prop} (S : CallFix p m c cc nL s args Ts own) (hM : Met l y ws rm (va_Pc As (fw_Pre D cl tys z ad w)) (fw_Qd D cl z ad post) mc ms (fw_A z)) (cw : CallB R s args own index y bytes maxL ret ws rm mc ms n ∧ (Cond.static y).before args s = true) (hn : As.length = n) (hsize : ls.size = nL) (hW : (rest.map fun v => v.category).sum ≤ 8) (hdg : decode cc pc = .ok (.invokestatic index, 3)) (hf : cells + mc ≤ R.cells ∧ slots + ms ≤ R.slots) (hK : va_K D cl tys s) (hP : fw_P D cl z ad w H) (hS : va_S (fw_A z) H0 H locs) (hstk : stk = As.reverse ++ rest)
    (kk : ∀ (r : UInt64) (w' : fw_W) (H1 : Heap) (locs1 : List Loc), post r w' → fw_P D cl z ad w' H1 → va_S (fw_A z) H0 H1 locs1 → W p l e R s m args below meth c H1 locs1 (cells + mc) (slots + ms) Q (F0 m (pc + 3) ls (.double r :: rest))) : W p l e R s m args below meth c H locs cells slots Q (F0 m pc ls stk) := by
  subst hstk
  exact va_calld (va_runS (As := As) (rest := rest) S hM cw ⟨fw_pre_blind, fun U hU hW => ⟨rfl, by rw [hU]; exact hP, va_K.moved hW.alike hK⟩⟩ rfl hn hsize rfl (lv_room hW) hdg hf) hS (fun q _ h => h) (fun q h => h) (fun r u t H1 locs1 ht hvm hp hB hz hk hS1 => kk r u H1 locs1 hp (by rw [← ht]; exact hB) hS1)
theorem fw_cVq {post : Option Nat → fw_W → Prop} (S : CallFix p m c cc nL s args Ts own) (hM : Met l y ws rm (va_Pc (.ref (ad b k) :: As) (fw_Pre D cl tys z ad w)) (fw_Qq D cl z ad post) mc ms (fw_A z)) (cw : CallW R s args own C index y bytes maxL ret ws rm mc ms n) (hrc : w b k = some (.inr (ci, fs))) (hc : cl[ci]? = some (C, T, N)) (hn : As.length = n) (hsize : ls.size = nL) (hW : (rest.map fun v => v.category).sum ≤ 8) (hdg : decode cc pc = .ok (.invokevirtual index, 3)) (hf : cells + mc ≤ R.cells ∧ slots + ms ≤ R.slots) (hK : va_K D cl tys s) (hP : fw_P D cl z ad w H) (hS : va_S (fw_A z) H0 H locs) (hstk : stk = As.reverse ++ .ref (ad b k) :: rest)
    (kk : ∀ (r : Option Nat) (w' : fw_W) (H1 : Heap) (locs1 : List Loc), post r w' → fw_P D cl z ad w' H1 → va_S (fw_A z) H0 H1 locs1 → W p l e R s m args below meth c H1 locs1 (cells + mc) (slots + ms) Q (F0 m (pc + 3) ls (va_rf r :: rest))) : W p l e R s m args below meth c H locs cells slots Q (F0 m pc ls stk) := by
  subst hstk
  exact va_callq (va_runV (As := As) (rest := rest) S hM cw ⟨fw_pre_blind, va_recv hK (fw_one hP hrc) hc (q0 := 0) rfl, fun U hU hW => ⟨rfl, by rw [hU]; exact hP, va_K.moved hW.alike hK⟩⟩ rfl hn hsize rfl (lv_room hW) hdg hf) hS (fun q _ h => h) (fun q h => h) (fun r u t H1 locs1 ht hvm hp hB hz hk hS1 => kk r u H1 locs1 hp (by rw [← ht]; exact hB) hS1)
theorem fw_cSq {post : Option Nat → fw_W → Prop} (S : CallFix p m c cc nL s args Ts own) (hM : Met l y ws rm (va_Pc As (fw_Pre D cl tys z ad w)) (fw_Qq D cl z ad post) mc ms (fw_A z)) (cw : CallB R s args own index y bytes maxL ret ws rm mc ms n ∧ (Cond.static y).before args s = true) (hn : As.length = n) (hsize : ls.size = nL) (hW : (rest.map fun v => v.category).sum ≤ 8) (hdg : decode cc pc = .ok (.invokestatic index, 3)) (hf : cells + mc ≤ R.cells ∧ slots + ms ≤ R.slots) (hK : va_K D cl tys s) (hP : fw_P D cl z ad w H) (hS : va_S (fw_A z) H0 H locs) (hstk : stk = As.reverse ++ rest)
    (kk : ∀ (r : Option Nat) (w' : fw_W) (H1 : Heap) (locs1 : List Loc), post r w' → fw_P D cl z ad w' H1 → va_S (fw_A z) H0 H1 locs1 → W p l e R s m args below meth c H1 locs1 (cells + mc) (slots + ms) Q (F0 m (pc + 3) ls (va_rf r :: rest))) : W p l e R s m args below meth c H locs cells slots Q (F0 m pc ls stk) := by
  subst hstk
  exact va_callq (va_runS (As := As) (rest := rest) S hM cw ⟨fw_pre_blind, fun U hU hW => ⟨rfl, by rw [hU]; exact hP, va_K.moved hW.alike hK⟩⟩ rfl hn hsize rfl (lv_room hW) hdg hf) hS (fun q _ h => h) (fun q h => h) (fun r u t H1 locs1 ht hvm hp hB hz hk hS1 => kk r u H1 locs1 hp (by rw [← ht]; exact hB) hS1)
theorem fw_cVv {post : fw_W → Prop} (S : CallFix p m c cc nL s args Ts own) (hM : Met l y ws rm (va_Pc (.ref (ad b k) :: As) (fw_Pre D cl tys z ad w)) (fw_Qv D cl z ad post) mc ms (fw_A z)) (cw : CallW R s args own C index y bytes maxL ret ws rm mc ms n) (hrc : w b k = some (.inr (ci, fs))) (hc : cl[ci]? = some (C, T, N)) (hn : As.length = n) (hsize : ls.size = nL) (hW : (rest.map fun v => v.category).sum ≤ 8) (hdg : decode cc pc = .ok (.invokevirtual index, 3)) (hf : cells + mc ≤ R.cells ∧ slots + ms ≤ R.slots) (hK : va_K D cl tys s) (hP : fw_P D cl z ad w H) (hS : va_S (fw_A z) H0 H locs) (hstk : stk = As.reverse ++ .ref (ad b k) :: rest)
    (kk : ∀ (w' : fw_W) (H1 : Heap) (locs1 : List Loc), post w' → fw_P D cl z ad w' H1 → va_S (fw_A z) H0 H1 locs1 → W p l e R s m args below meth c H1 locs1 (cells + mc) (slots + ms) Q (F0 m (pc + 3) ls (rest))) : W p l e R s m args below meth c H locs cells slots Q (F0 m pc ls stk) := by
  subst hstk
  exact va_callv (va_runV (As := As) (rest := rest) S hM cw ⟨fw_pre_blind, va_recv hK (fw_one hP hrc) hc (q0 := 0) rfl, fun U hU hW => ⟨rfl, by rw [hU]; exact hP, va_K.moved hW.alike hK⟩⟩ rfl hn hsize rfl (lv_room hW) hdg hf) hS (fun q _ h => h) (fun q h => h) (fun u t H1 locs1 ht hvm hp hB hz hk hS1 => kk u H1 locs1 hp (by rw [← ht]; exact hB) hS1)
theorem fw_cSv {post : fw_W → Prop} (S : CallFix p m c cc nL s args Ts own) (hM : Met l y ws rm (va_Pc As (fw_Pre D cl tys z ad w)) (fw_Qv D cl z ad post) mc ms (fw_A z)) (cw : CallB R s args own index y bytes maxL ret ws rm mc ms n ∧ (Cond.static y).before args s = true) (hn : As.length = n) (hsize : ls.size = nL) (hW : (rest.map fun v => v.category).sum ≤ 8) (hdg : decode cc pc = .ok (.invokestatic index, 3)) (hf : cells + mc ≤ R.cells ∧ slots + ms ≤ R.slots) (hK : va_K D cl tys s) (hP : fw_P D cl z ad w H) (hS : va_S (fw_A z) H0 H locs) (hstk : stk = As.reverse ++ rest)
    (kk : ∀ (w' : fw_W) (H1 : Heap) (locs1 : List Loc), post w' → fw_P D cl z ad w' H1 → va_S (fw_A z) H0 H1 locs1 → W p l e R s m args below meth c H1 locs1 (cells + mc) (slots + ms) Q (F0 m (pc + 3) ls (rest))) : W p l e R s m args below meth c H locs cells slots Q (F0 m pc ls stk) := by
  subst hstk
  exact va_callv (va_runS (As := As) (rest := rest) S hM cw ⟨fw_pre_blind, fun U hU hW => ⟨rfl, by rw [hU]; exact hP, va_K.moved hW.alike hK⟩⟩ rfl hn hsize rfl (lv_room hW) hdg hf) hS (fun q _ h => h) (fun q h => h) (fun u t H1 locs1 ht hvm hp hB hz hk hS1 => kk u H1 locs1 hp (by rw [← ht]; exact hB) hS1)
theorem fw_cIv {post : fw_W → Prop} (S : CallFix p m c cc nL s args Ts own) {a : Nat} (hM : Met l y ws rm (va_Pc (.ref a :: As) (fw_Pre D cl tys z ad w)) (fw_Qv D cl z ad post) mc ms (fw_A z)) (cw : CallB R s args own index y bytes maxL none ws rm mc ms n ∧ y.name = "<init>" ∧ (Cond.instanceMethod y).before args s = true) (hn : As.length = n) (hsize : ls.size = nL) (hW : (rest.map fun v => v.category).sum ≤ 8) (hdg : decode cc pc = .ok (.invokespecial index, 3)) (hf : cells + mc ≤ R.cells ∧ slots + ms ≤ R.slots) (hK : va_K D cl tys s) (hP : fw_P D cl z ad w H) (hS : va_S (fw_A z) H0 H locs) (hstk : stk = As.reverse ++ .ref a :: rest)
    (kk : ∀ (w' : fw_W) (H1 : Heap) (locs1 : List Loc), post w' → fw_P D cl z ad w' H1 → va_S (fw_A z) H0 H1 locs1 → W p l e R s m args below meth c H1 locs1 (cells + mc) (slots + ms) Q (F0 m (pc + 3) ls (rest))) : W p l e R s m args below meth c H locs cells slots Q (F0 m pc ls stk) := by
  subst hstk
  exact va_callv (va_runI (As := As) (rest := rest) S hM cw ⟨fw_pre_blind, fun U hU hW => ⟨rfl, by rw [hU]; exact hP, va_K.moved hW.alike hK⟩⟩ rfl hn hsize rfl (lv_room hW) hdg hf) hS (fun q _ h => h) (fun q h => h) (fun u t H1 locs1 ht hvm hp hB hz hk hS1 => kk u H1 locs1 hp (by rw [← ht]; exact hB) hS1)
theorem fw_iret {post : Int32 → fw_W → Prop} {v : Int32} (hexec : p.tables.exec = Jvm.exec) (hb : c.code = cc) (hr : meth.sig.returnType = some .int) (hlocks : meth.locks = false) (hdg : decode cc pc = .ok (.ireturn, 1)) (hP : fw_P D cl z ad w H) (hS : va_S (fw_A z) s.heap H locs) (hp : post v w) : W p l e R s m args below meth c H locs cells slots (MQ below (fw_Qi D cl z ad post) args s cells slots (fw_A z)) (F0 m pc ls [.int v]) :=
  W.iret (v := v) hexec hb hr (fun t ht hW => ⟨⟨v, w, rfl, hp, by show fw_P D cl z ad w t.heap; rw [ht]; exact hP⟩, hS.F ht⟩) hS.2.2 hdg hlocks
theorem fw_zret {post : Int32 → fw_W → Prop} {v : Int32} (hexec : p.tables.exec = Jvm.exec) (hb : c.code = cc) (hr : meth.sig.returnType = some .boolean) (hlocks : meth.locks = false) (hdg : decode cc pc = .ok (.ireturn, 1)) (hP : fw_P D cl z ad w H) (hS : va_S (fw_A z) s.heap H locs) (hn : narrow .boolean (.int v) = .int v) (hp : post v w) : W p l e R s m args below meth c H locs cells slots (MQ below (fw_Qi D cl z ad post) args s cells slots (fw_A z)) (F0 m pc ls [.int v]) :=
  W.zret (v := v) hexec hb hr hn (fun t ht hW => ⟨⟨v, w, rfl, hp, by show fw_P D cl z ad w t.heap; rw [ht]; exact hP⟩, hS.F ht⟩) hS.2.2 hdg hlocks
theorem fw_rret {post : Option Nat → fw_W → Prop} {a : Nat} {rt : FieldType} (hexec : p.tables.exec = Jvm.exec) (hb : c.code = cc) (hr : meth.sig.returnType = some rt) (hrt : (∃ n, rt = .object n) ∨ ∃ t, rt = .array t) (hlocks : meth.locks = false) (hdg : decode cc pc = .ok (.areturn, 1)) (hP : fw_P D cl z ad w H) (hS : va_S (fw_A z) s.heap H locs) (hp : post (some a) w) : W p l e R s m args below meth c H locs cells slots (MQ below (fw_Qq D cl z ad post) args s cells slots (fw_A z)) (F0 m pc ls [.ref a]) :=
  W.aret (v := .ref a) hexec hb hr hrt (Or.inr ⟨a, rfl⟩) (fun t ht hW => ⟨⟨some a, w, rfl, hp, by show fw_P D cl z ad w t.heap; rw [ht]; exact hP⟩, hS.F ht⟩) hS.2.2 hdg hlocks
theorem fw_nret {post : Option Nat → fw_W → Prop} {rt : FieldType} (hexec : p.tables.exec = Jvm.exec) (hb : c.code = cc) (hr : meth.sig.returnType = some rt) (hrt : (∃ n, rt = .object n) ∨ ∃ t, rt = .array t) (hlocks : meth.locks = false) (hdg : decode cc pc = .ok (.areturn, 1)) (hP : fw_P D cl z ad w H) (hS : va_S (fw_A z) s.heap H locs) (hp : post none w) : W p l e R s m args below meth c H locs cells slots (MQ below (fw_Qq D cl z ad post) args s cells slots (fw_A z)) (F0 m pc ls [.null]) :=
  W.aret (v := .null) hexec hb hr hrt (Or.inl rfl) (fun t ht hW => ⟨⟨none, w, rfl, hp, by show fw_P D cl z ad w t.heap; rw [ht]; exact hP⟩, hS.F ht⟩) hS.2.2 hdg hlocks
theorem fw_lret {post : Int64 → fw_W → Prop} {v : Int64} (hexec : p.tables.exec = Jvm.exec) (hb : c.code = cc) (hr : meth.sig.returnType = some .long) (hlocks : meth.locks = false) (hdg : decode cc pc = .ok (.lreturn, 1)) (hP : fw_P D cl z ad w H) (hS : va_S (fw_A z) s.heap H locs) (hp : post v w) : W p l e R s m args below meth c H locs cells slots (MQ below (fw_Ql D cl z ad post) args s cells slots (fw_A z)) (F0 m pc ls [.long v]) :=
  W.lret (v := v) hexec hb hr (fun t ht hW => ⟨⟨v, w, rfl, hp, by show fw_P D cl z ad w t.heap; rw [ht]; exact hP⟩, hS.F ht⟩) hS.2.2 hdg hlocks
theorem fw_dret {post : UInt64 → fw_W → Prop} {v : UInt64} (hexec : p.tables.exec = Jvm.exec) (hb : c.code = cc) (hr : meth.sig.returnType = some .double) (hlocks : meth.locks = false) (hdg : decode cc pc = .ok (.dreturn, 1)) (hP : fw_P D cl z ad w H) (hS : va_S (fw_A z) s.heap H locs) (hp : post v w) : W p l e R s m args below meth c H locs cells slots (MQ below (fw_Qd D cl z ad post) args s cells slots (fw_A z)) (F0 m pc ls [.double v]) :=
  W.dret (v := v) hexec hb hr (fun t ht hW => ⟨⟨v, w, rfl, hp, by show fw_P D cl z ad w t.heap; rw [ht]; exact hP⟩, hS.F ht⟩) hS.2.2 hdg hlocks
theorem fw_vret {post : fw_W → Prop} (hexec : p.tables.exec = Jvm.exec) (hb : c.code = cc) (hr : meth.sig.returnType = none) (hlocks : meth.locks = false) (hdg : decode cc pc = .ok (.return_, 1)) (hP : fw_P D cl z ad w H) (hS : va_S (fw_A z) s.heap H locs) (hp : post w) : W p l e R s m args below meth c H locs cells slots (MQ below (fw_Qv D cl z ad post) args s cells slots (fw_A z)) (F0 m pc ls []) :=
  W.vret hexec hb hr (fun t ht hW => ⟨⟨w, rfl, hp, by show fw_P D cl z ad w t.heap; rw [ht]; exact hP⟩, hS.F ht⟩) hS.2.2 hdg hlocks
end FWC
