/-! ===== cells made at a known address ===== -/
theorem iI_nn {j : Nat} (h : j < 2147483648) : ¬ iI (j : Int) < 0 := by
  rw [iI_zero, iI_lt ⟨by omega, by omega⟩ ⟨by omega, by omega⟩]
  omega
section ALLOC
variable {p : Program} {l : Launch} {e : Env} {R : Room} {s : State} {m : MethodId} {args : Array Value} {below : List Frame} {meth : Method} {c : Code} {H : Heap} {locs : List Loc} {cells slots : Nat} {Q : State → Prop}
variable {cc : ByteArray} {pc : Nat} {ls : Array Slot} {rest : List Value} {D : va_G} {cl : List vw_C} {tys : List (ClassId × FieldType)} {H0 : Heap} {z : Nat} {ad : fw_Ad} {w : fw_W} {a i : Nat}
/-- no more cells than were counted -/
theorem W.sized {g : JFrame} (k : H.size ≤ s.heap.size + cells → W p l e R s m args below meth c H locs cells slots Q g) : W p l e R s m args below meth c H locs cells slots Q g := fun T hT X => k (by
  obtain ⟨-, -, h3, -⟩ := X.same
  rw [← hT]; exact h3) T hT X
theorem fw_lt {x : va_E} (h : fw_P D cl z ad w H) (hx : w a i = some x) : ad a i < H.size := (h.1 _ _ _ hx).1.lt
theorem fw_add {H1 : Heap} {x : va_E} (h : fw_P D cl z ad w H) (hfree : w a i = none) (hq : ad a i = H.size) (hz : z ≤ H.size) (ho : ∀ q : Nat, q < H.size → H1[q]? = H[q]?) (hx : va_at D cl (H.size, x) H1) : fw_P D cl z ad (fw_up w a i x) H1 := by
  have old : ∀ b j y, fw_up w a i x b j = some y → (b = a ∧ j = i ∧ y = x) ∨ (¬ (b = a ∧ j = i) ∧ w b j = some y) := by
    intro b j y hy
    by_cases hbj : b = a ∧ j = i
    · obtain ⟨rfl, rfl⟩ := hbj
      rw [fw_up_same] at hy
      exact Or.inl ⟨rfl, rfl, (Option.some.inj hy).symm⟩
    · rw [fw_up_ne hbj] at hy
      exact Or.inr ⟨hbj, hy⟩
  refine ⟨fun b j y hy => ?_, fun b j y b' j' y' hy hy' heq => ?_⟩
  · rcases old _ _ _ hy with ⟨rfl, rfl, rfl⟩ | ⟨-, hy⟩
    · rw [hq]; exact ⟨hx, hz⟩
    · exact ⟨va_at.kept (h.1 _ _ _ hy).1 (ho _ (fw_lt h hy)), (h.1 _ _ _ hy).2⟩
  · rcases old _ _ _ hy with ⟨e1, e2, -⟩ | ⟨-, g1⟩
    · rcases old _ _ _ hy' with ⟨e3, e4, -⟩ | ⟨-, g2⟩
      · exact ⟨e1.trans e3.symm, e2.trans e4.symm⟩
      · have := fw_lt h g2; rw [e1, e2] at heq; omega
    · rcases old _ _ _ hy' with ⟨e3, e4, -⟩ | ⟨-, g2⟩
      · have := fw_lt h g1; rw [e3, e4] at heq; omega
      · exact h.2 _ _ _ _ _ _ g1 g2 heq
theorem va_S.grow {H1 : Heap} (hS : va_S (fw_A z) H0 H locs) (hz : H.size ≤ H1.size) (ho : ∀ q : Nat, q < H.size → H1[q]? = H[q]?) : va_S (fw_A z) H0 H1 locs :=
  ⟨Nat.le_trans hS.1 hz, fun x h1 h2 => (ho x (Nat.lt_of_lt_of_le h1 hS.1)).trans (hS.2.1 x h1 h2), hS.2.2⟩
theorem fw_new {own C : String} {T : u_T} {N ci index : Nat} {Ts : List Cond} (hexec : p.tables.exec = Jvm.exec) (hb : c.code = cc) (hts : ∀ w ∈ Ts, w.before args s = true) (hin : ∀ w ∈ u_ws C T N, w ∈ Ts) (ty : Nat → FieldType) (hty : ∀ k, k < N → parseFieldDescriptor (T k).2.2.1 = some (ty k)) (hown : s.vm.findClass own = some m.cls) (hcl : (Cond.classLink own index C).before args s = true) (hinst : (Cond.instantiable C N).before args s = true) (hini : (Cond.initialized C).before args s = true)
    (hK : va_K D cl tys s) (hP : fw_P D cl z ad w H) (hS : va_S (fw_A z) H0 H locs) (hz : z ≤ H.size) (hc : cl[ci]? = some (C, T, N)) {fs : List Value} (hfs : ∀ j, j < N → defaultValue (ty j) = vp_V fs j) (hfree : w a i = none) (hq : ad a i = H.size) (hcells : cells + 1 ≤ R.cells) (hslots : slots + N ≤ R.slots) (hdg : decode cc pc = .ok (.new index, 3))
    (kk : ∀ H1 : Heap, fw_P D cl z ad (fw_up w a i (.inr (ci, fs))) H1 → va_S (fw_A z) H0 H1 locs → H1.size = H.size + 1 → W p l e R s m args below meth c H1 locs (cells + 1) (slots + N) Q (F0 m (pc + 3) ls (.ref (ad a i) :: rest))) : W p l e R s m args below meth c H locs cells slots Q (F0 m pc ls rest) := by
  have hKn := hK.1 ci _ hc
  refine W.newcK hexec hb hown hcl hinst hini rfl hdg hcells hslots hKn.2.1 rfl fun H1 kC hkC e1 z1 o1 => ?_
  have hx : va_at D cl (H.size, .inr (ci, fs)) H1 := ⟨_, hc, (u_born ty hts hin hKn hkC e1 hty).to hfs⟩
  have := kk H1 (fw_add hP hfree hq hz o1 hx) (hS.grow (by omega) o1) z1
  rw [hq] at this
  exact this
theorem fw_newa {atype : ArrayType} {ty : FieldType} (hexec : p.tables.exec = Jvm.exec) (hb : c.code = cc) (harr : (Cond.arrayClass ty).before args s = true) (hty : newarray.typeOf atype = ty) (hK : va_K D cl tys s) (hP : fw_P D cl z ad w H) (hS : va_S (fw_A z) H0 H locs) (hz : z ≤ H.size) (t0 : Nat) {cA : ClassId} (ht : tys[t0]? = some (cA, ty)) (hRA : va_RA s cA ty → s.vm.findClass ("[" ++ ty.toString) = some cA)
    {j N : Nat} {a0 : vp_A} (ha : ∀ cA : ClassId, vp_cell cA a0 = arrV cA N (fun _ => defaultValue ty)) (hj : j = N) (hN : N < 2147483648) (hbytes : N * componentBytes ty ≤ 536870912) (hfree : w a i = none) (hq : ad a i = H.size) (hcells : cells + 1 ≤ R.cells) (hslots : slots + N ≤ R.slots) (hdg : decode cc pc = .ok (.newarray atype, 2))
    (kk : ∀ H1 : Heap, fw_P D cl z ad (fw_up w a i (.inl (cA, a0))) H1 → va_S (fw_A z) H0 H1 locs → H1.size = H.size + 1 → W p l e R s m args below meth c H1 locs (cells + 1) (slots + N) Q (F0 m (pc + 2) ls (.ref (ad a i) :: rest))) : W p l e R s m args below meth c H locs cells slots Q (F0 m pc ls (.int (iI (j : Int)) :: rest)) := by
  subst hj; subst hty
  refine va_newaK hexec hb harr rfl hdg rfl (iI_nn hN) (iI_idx hN) hbytes hcells hslots rfl fun H1 cA' e1 z1 o1 hAr hNm => ?_
  have hc : cA' = cA := Option.some.inj (hNm.symm.trans (hRA (hK.2 t0 _ ht).2))
  subst hc
  have hx : va_at D cl (H.size, .inl (cA', a0)) H1 := by show H1[H.size]? = some (vp_cell _ _); rw [ha]; exact e1
  have := kk H1 (fw_add hP hfree hq hz o1 hx) (hS.grow (by omega) o1) z1
  rw [hq] at this
  exact this
theorem fw_newq {own C : String} {index : Nat} (hexec : p.tables.exec = Jvm.exec) (hb : c.code = cc) (hown : s.vm.findClass own = some m.cls) (hclink : (Cond.classLink own index C).before args s = true) (hover : va_AO C s) (hK : va_K D cl tys s) (hP : fw_P D cl z ad w H) (hS : va_S (fw_A z) H0 H locs) (hz : z ≤ H.size) (t0 : Nat) {cA : ClassId} (ht : tys[t0]? = some (cA, .object C))
    {j : Nat} (hN : j < 134217728) (hfree : w a i = none) (hq : ad a i = H.size) (hcells : cells + 1 ≤ R.cells) (hslots : slots + j ≤ R.slots) (hdg : decode cc pc = .ok (.anewarray index, 3))
    (kk : ∀ H1 : Heap, fw_P D cl z ad (fw_up w a i (.inl (cA, j, .inr (.inr (.inr (.inr (fun _ => none))))))) H1 → va_S (fw_A z) H0 H1 locs → H1.size = H.size + 1 → W p l e R s m args below meth c H1 locs (cells + 1) (slots + j) Q (F0 m (pc + 3) ls (.ref (ad a i) :: rest))) : W p l e R s m args below meth c H locs cells slots Q (F0 m pc ls (.int (iI (j : Int)) :: rest)) := by
  have hid : (iI (j : Int)).toNatClampNeg = j := iI_idx (by omega)
  refine W.anew hexec hb hown hclink (va_AO.use hover) rfl hdg rfl (iI_nn (by omega)) (by rw [hid]; omega) hcells (by rw [hid]; exact hslots) fun cA' kA comp f1 f2 f3 f4 => ?_
  obtain ⟨-, kA2, comp2, g1, g2, g3, g4⟩ := (⟨trivial, (hK.2 t0 _ ht).2⟩ : True ∧ va_RA s cA (.object C))
  have hc : cA' = cA := Option.some.inj (f1.symm.trans g4)
  subst hc
  rw [hid]
  generalize hH1 : H.push ({ cls := cA', slots := Array.replicate j .null, vm := .none } : Cell) = H1
  have z1 : H1.size = H.size + 1 := by rw [← hH1, Array.size_push]
  have o1 : ∀ q : Nat, q < H.size → H1[q]? = H[q]? := fun q hq => by rw [← hH1, Array.getElem?_push, if_neg (Nat.ne_of_lt hq)]
  have hx : va_at D cl (H.size, .inl (cA', j, .inr (.inr (.inr (.inr (fun _ => none)))))) H1 := by
    show H1[H.size]? = some (arrV cA' j (fun _ => .null))
    rw [← hH1, Array.getElem?_push_size, ← arrV_new]
  have := kk H1 (fw_add hP hfree hq hz o1 hx) (hS.grow (by omega) o1) z1
  rw [hq] at this
  exact this
end ALLOC
