/-! ===== ints as images of whole numbers ===== -/
def iI (a : Int) : Int32 := Int32.ofInt a
def bI (b : Bool) : Int := if b = true then 1 else 0
theorem bI_t : bI true = 1 := rfl
theorem bI_f : bI false = 0 := rfl
theorem iI_toInt {a : Int} (h1 : -2147483648 ≤ a) (h2 : a ≤ 2147483647) : (iI a).toInt = a := Int32.toInt_ofInt_of_le (by omega) (by omega)
theorem iI_of (x : Int32) : x = iI x.toInt := (Int32.ofInt_toInt x).symm
theorem iI_ex (x : Int32) : ∃ a : Int, x = iI a ∧ -2147483648 ≤ a ∧ a ≤ 2147483647 := ⟨x.toInt, iI_of x, by have := Int32.le_toInt x; omega, by have := Int32.toInt_lt x; omega⟩
theorem iI_add (a b : Int) : iI a + iI b = iI (a + b) := by
  refine Int32.toInt_inj.mp ?_
  rw [Int32.toInt_add]; simp only [iI, Int32.toInt_ofInt, Int32.size]
  exact Int.add_bmod .. |>.symm
theorem iI_sub (a b : Int) : iI a - iI b = iI (a - b) := by
  refine Int32.toInt_inj.mp ?_
  rw [Int32.toInt_sub]; simp only [iI, Int32.toInt_ofInt, Int32.size]
  exact Int.sub_bmod .. |>.symm
theorem iI_mul (a b : Int) : iI a * iI b = iI (a * b) := by
  refine Int32.toInt_inj.mp ?_
  rw [Int32.toInt_mul]; simp only [iI, Int32.toInt_ofInt, Int32.size]
  exact Int.mul_bmod .. |>.symm
theorem iI_inc (a n : Int) : iI a + Int32.ofInt n = iI (a + n) := iI_add a n
theorem iI_le {a b : Int} (ha : -2147483648 ≤ a ∧ a ≤ 2147483647) (hb : -2147483648 ≤ b ∧ b ≤ 2147483647) : iI a ≤ iI b ↔ a ≤ b := by
  rw [Int32.le_iff_toInt_le, iI_toInt ha.1 ha.2, iI_toInt hb.1 hb.2]
theorem iI_lt {a b : Int} (ha : -2147483648 ≤ a ∧ a ≤ 2147483647) (hb : -2147483648 ≤ b ∧ b ≤ 2147483647) : iI a < iI b ↔ a < b := by
  rw [Int32.lt_iff_toInt_lt, iI_toInt ha.1 ha.2, iI_toInt hb.1 hb.2]
theorem iI_eq {a b : Int} (ha : -2147483648 ≤ a ∧ a ≤ 2147483647) (hb : -2147483648 ≤ b ∧ b ≤ 2147483647) : iI a = iI b ↔ a = b := by
  rw [← Int32.toInt_inj, iI_toInt ha.1 ha.2, iI_toInt hb.1 hb.2]
theorem iI_zero : (0 : Int32) = iI 0 := rfl
theorem iI_idx {k : Nat} (h : k < 2147483648) : (iI (k : Int)).toNatClampNeg = k := by
  have : (iI (k : Int)).toInt = k := iI_toInt (by omega) (by omega)
  show (iI (k : Int)).toInt.toNat = k
  rw [this]; rfl
theorem iI_in {k n : Nat} (h : k < n) (hn : n < 2147483648) : vp_in (iI (k : Int)) n := by
  intro q
  rw [iI_idx (by omega), iI_zero, iI_lt ⟨by omega, by omega⟩ ⟨by omega, by omega⟩] at q
  omega
theorem iI_nI (k : Nat) : iI (k : Int) = nI k := Int32.ofInt_eq_ofNat
theorem iI_div {a b : Nat} (ha : a ≤ 2147483647) (hb : b ≤ 2147483647) : iI (a : Int) / iI (b : Int) = iI ((a / b : Nat) : Int) := by
  rw [iI_nI, iI_nI, iI_nI]
  exact (Int32.ofNat_div (by omega) (by omega)).symm
theorem iI_rem {a b : Nat} (ha : a ≤ 2147483647) (hb : b ≤ 2147483647) : iI (a : Int) - iI (a : Int) / iI (b : Int) * iI (b : Int) = iI ((a % b : Nat) : Int) := by
  rw [iI_div ha hb, iI_mul, iI_sub]
  have h := Nat.div_add_mod a b
  have h2 : (a : Int) = b * (a / b : Nat) + (a % b : Nat) := by exact_mod_cast h.symm
  have h3 : (a : Int) - ((a / b : Nat) : Int) * b = ((a % b : Nat) : Int) := by
    rw [Int.mul_comm]; omega
  rw [h3]
theorem iI_bool (b : Bool) : iI (bI b) = if b = true then 1 else 0 := by cases b <;> rfl
theorem iI_narrow (b : Bool) : narrow .boolean (.int (iI (bI b))) = .int (iI (bI b)) := by cases b <;> rfl
theorem iI_fitsb (b : Bool) : Jvm.fits .boolean (.int (iI (bI b))) = true := by cases b <;> rfl
theorem iI_nar (b : Bool) : vp_nar .boolean (iI (bI b)) = iI (bI b) := by cases b <;> rfl
theorem bI_le (b : Bool) : 0 ≤ bI b ∧ bI b ≤ 1 := by cases b <;> decide
section FWI
variable {p : Program} {l : Launch} {e : Env} {R : Room} {s : State} {m : MethodId} {args : Array Value} {below : List Frame} {meth : Method} {c : Code} {H : Heap} {locs : List Loc} {cells slots : Nat} {Q : State → Prop}
variable {cc : ByteArray} {pc : Nat} {ls : Array Slot} {rest : List Value}
theorem lv_conv {nL : Nat} {l1 l2 : List (Nat × Value)} (h : lv_has ls nL l1) (e : l1 = l2) : lv_has ls nL l2 := e ▸ h
theorem fw_top {v v' : Value} (h : v = v') (k : W p l e R s m args below meth c H locs cells slots Q (F0 m pc ls (v' :: rest))) : W p l e R s m args below meth c H locs cells slots Q (F0 m pc ls (v :: rest)) := by rw [h]; exact k
theorem fw_topI {a b : Int} (h : a = b) (k : W p l e R s m args below meth c H locs cells slots Q (F0 m pc ls (.int (iI b) :: rest))) : W p l e R s m args below meth c H locs cells slots Q (F0 m pc ls (.int (iI a) :: rest)) := by rw [h]; exact k
theorem fw_topP {x : Int32} {b : Int} (h : x = iI b) (k : W p l e R s m args below meth c H locs cells slots Q (F0 m pc ls (.int (iI b) :: rest))) : W p l e R s m args below meth c H locs cells slots Q (F0 m pc ls (.int x :: rest)) := by rw [h]; exact k
theorem fw_iadd (hexec : p.tables.exec = Jvm.exec) (hb : c.code = cc) {a b : Int} (hdg : decode cc pc = .ok (.iadd, 1)) (k : W p l e R s m args below meth c H locs cells slots Q (F0 m (pc + 1) ls (.int (iI (a + b)) :: rest))) : W p l e R s m args below meth c H locs cells slots Q (F0 m pc ls (.int (iI b) :: .int (iI a) :: rest)) := lv_iadd hexec hb hdg (by rw [iI_add]; exact k)
theorem fw_isub (hexec : p.tables.exec = Jvm.exec) (hb : c.code = cc) {a b : Int} (hdg : decode cc pc = .ok (.isub, 1)) (k : W p l e R s m args below meth c H locs cells slots Q (F0 m (pc + 1) ls (.int (iI (a - b)) :: rest))) : W p l e R s m args below meth c H locs cells slots Q (F0 m pc ls (.int (iI b) :: .int (iI a) :: rest)) := lv_isub hexec hb hdg (by rw [iI_sub]; exact k)
theorem fw_imul (hexec : p.tables.exec = Jvm.exec) (hb : c.code = cc) {a b : Int} (hdg : decode cc pc = .ok (.imul, 1)) (k : W p l e R s m args below meth c H locs cells slots Q (F0 m (pc + 1) ls (.int (iI (a * b)) :: rest))) : W p l e R s m args below meth c H locs cells slots Q (F0 m pc ls (.int (iI b) :: .int (iI a) :: rest)) := lv_imul hexec hb hdg (by rw [iI_mul]; exact k)
theorem fw_iaddN (hexec : p.tables.exec = Jvm.exec) (hb : c.code = cc) {a b : Nat} (hdg : decode cc pc = .ok (.iadd, 1)) (k : W p l e R s m args below meth c H locs cells slots Q (F0 m (pc + 1) ls (.int (iI ((a + b : Nat) : Int)) :: rest))) : W p l e R s m args below meth c H locs cells slots Q (F0 m pc ls (.int (iI (b : Int)) :: .int (iI (a : Int)) :: rest)) := lv_iadd hexec hb hdg (by rw [iI_add, ← Int.natCast_add]; exact k)
theorem fw_imulN (hexec : p.tables.exec = Jvm.exec) (hb : c.code = cc) {a b : Nat} (hdg : decode cc pc = .ok (.imul, 1)) (k : W p l e R s m args below meth c H locs cells slots Q (F0 m (pc + 1) ls (.int (iI ((a * b : Nat) : Int)) :: rest))) : W p l e R s m args below meth c H locs cells slots Q (F0 m pc ls (.int (iI (b : Int)) :: .int (iI (a : Int)) :: rest)) := lv_imul hexec hb hdg (by rw [iI_mul, ← Int.natCast_mul]; exact k)
theorem fw_idivN (hexec : p.tables.exec = Jvm.exec) (hb : c.code = cc) {a b : Nat} (hdg : decode cc pc = .ok (.idiv, 1)) (ha : a ≤ 2147483647) (hb0 : 0 < b) (hb1 : b ≤ 2147483647) (k : W p l e R s m args below meth c H locs cells slots Q (F0 m (pc + 1) ls (.int (iI ((a / b : Nat) : Int)) :: rest))) : W p l e R s m args below meth c H locs cells slots Q (F0 m pc ls (.int (iI (b : Int)) :: .int (iI (a : Int)) :: rest)) := lv_idiv hexec hb hdg (by rw [iI_zero, iI_eq ⟨by omega, by omega⟩ ⟨by omega, by omega⟩]; omega) (by rw [iI_div ha hb1]; exact k)
theorem fw_iremN (hexec : p.tables.exec = Jvm.exec) (hb : c.code = cc) {a b : Nat} (hdg : decode cc pc = .ok (.irem, 1)) (ha : a ≤ 2147483647) (hb0 : 0 < b) (hb1 : b ≤ 2147483647) (k : W p l e R s m args below meth c H locs cells slots Q (F0 m (pc + 1) ls (.int (iI ((a % b : Nat) : Int)) :: rest))) : W p l e R s m args below meth c H locs cells slots Q (F0 m pc ls (.int (iI (b : Int)) :: .int (iI (a : Int)) :: rest)) := lv_irem hexec hb hdg (by rw [iI_zero, iI_eq ⟨by omega, by omega⟩ ⟨by omega, by omega⟩]; omega) (by rw [iI_rem ha hb1]; exact k)
theorem fw_ineg (hexec : p.tables.exec = Jvm.exec) (hb : c.code = cc) {a : Int} (hdg : decode cc pc = .ok (.ineg, 1)) (k : W p l e R s m args below meth c H locs cells slots Q (F0 m (pc + 1) ls (.int (iI (-a)) :: rest))) : W p l e R s m args below meth c H locs cells slots Q (F0 m pc ls (.int (iI a) :: rest)) := lv_ineg hexec hb hdg (by rw [show -(iI a) = iI (-a) from by rw [show (-a : Int) = 0 - a from by omega, ← iI_sub, ← iI_zero]; simp]; exact k)
theorem fw_icmp_lt (hexec : p.tables.exec = Jvm.exec) (hb : c.code = cc) {x y : Int} {off : Int} {tgt : Nat} (hdg : decode cc pc = .ok (.if_icmp .lt off, 3)) (ht : (pc : Int) + off = (tgt : Int)) (hx : -2147483648 ≤ x ∧ x ≤ 2147483647) (hy : -2147483648 ≤ y ∧ y ≤ 2147483647)
    (kt : x < y → W p l e R s m args below meth c H locs cells slots Q (F0 m tgt ls rest)) (kf : y ≤ x → W p l e R s m args below meth c H locs cells slots Q (F0 m (pc + 3) ls rest)) : W p l e R s m args below meth c H locs cells slots Q (F0 m pc ls (.int (iI y) :: .int (iI x) :: rest)) :=
  lv_icmp_lt hexec hb hdg ht (fun q => kt (by simp only [ge_iff_le, gt_iff_lt, iI_le hx hy, iI_le hy hx, iI_lt hx hy, iI_lt hy hx, iI_eq hx hy] at q; omega)) (fun q => kf (by simp only [ge_iff_le, gt_iff_lt, iI_le hx hy, iI_le hy hx, iI_lt hx hy, iI_lt hy hx, iI_eq hx hy] at q; omega))
theorem fw_if_lt (hexec : p.tables.exec = Jvm.exec) (hb : c.code = cc) {x : Int} {off : Int} {tgt : Nat} (hdg : decode cc pc = .ok (.ifCond .lt off, 3)) (ht : (pc : Int) + off = (tgt : Int)) (hx : -2147483648 ≤ x ∧ x ≤ 2147483647)
    (kt : x < 0 → W p l e R s m args below meth c H locs cells slots Q (F0 m tgt ls rest)) (kf : 0 ≤ x → W p l e R s m args below meth c H locs cells slots Q (F0 m (pc + 3) ls rest)) : W p l e R s m args below meth c H locs cells slots Q (F0 m pc ls (.int (iI x) :: rest)) := by
  have hy : -2147483648 ≤ (0 : Int) ∧ (0 : Int) ≤ 2147483647 := by omega
  exact lv_if_lt hexec hb hdg ht (fun q => kt (by simp only [iI_zero, ge_iff_le, gt_iff_lt, iI_le hx hy, iI_le hy hx, iI_lt hx hy, iI_lt hy hx, iI_eq hx hy] at q; omega)) (fun q => kf (by simp only [iI_zero, ge_iff_le, gt_iff_lt, iI_le hx hy, iI_le hy hx, iI_lt hx hy, iI_lt hy hx, iI_eq hx hy] at q; omega))
theorem fw_icmp_le (hexec : p.tables.exec = Jvm.exec) (hb : c.code = cc) {x y : Int} {off : Int} {tgt : Nat} (hdg : decode cc pc = .ok (.if_icmp .le off, 3)) (ht : (pc : Int) + off = (tgt : Int)) (hx : -2147483648 ≤ x ∧ x ≤ 2147483647) (hy : -2147483648 ≤ y ∧ y ≤ 2147483647)
    (kt : x ≤ y → W p l e R s m args below meth c H locs cells slots Q (F0 m tgt ls rest)) (kf : y < x → W p l e R s m args below meth c H locs cells slots Q (F0 m (pc + 3) ls rest)) : W p l e R s m args below meth c H locs cells slots Q (F0 m pc ls (.int (iI y) :: .int (iI x) :: rest)) :=
  lv_icmp_le hexec hb hdg ht (fun q => kt (by simp only [ge_iff_le, gt_iff_lt, iI_le hx hy, iI_le hy hx, iI_lt hx hy, iI_lt hy hx, iI_eq hx hy] at q; omega)) (fun q => kf (by simp only [ge_iff_le, gt_iff_lt, iI_le hx hy, iI_le hy hx, iI_lt hx hy, iI_lt hy hx, iI_eq hx hy] at q; omega))
theorem fw_if_le (hexec : p.tables.exec = Jvm.exec) (hb : c.code = cc) {x : Int} {off : Int} {tgt : Nat} (hdg : decode cc pc = .ok (.ifCond .le off, 3)) (ht : (pc : Int) + off = (tgt : Int)) (hx : -2147483648 ≤ x ∧ x ≤ 2147483647)
    (kt : x ≤ 0 → W p l e R s m args below meth c H locs cells slots Q (F0 m tgt ls rest)) (kf : 0 < x → W p l e R s m args below meth c H locs cells slots Q (F0 m (pc + 3) ls rest)) : W p l e R s m args below meth c H locs cells slots Q (F0 m pc ls (.int (iI x) :: rest)) := by
  have hy : -2147483648 ≤ (0 : Int) ∧ (0 : Int) ≤ 2147483647 := by omega
  exact lv_if_le hexec hb hdg ht (fun q => kt (by simp only [iI_zero, ge_iff_le, gt_iff_lt, iI_le hx hy, iI_le hy hx, iI_lt hx hy, iI_lt hy hx, iI_eq hx hy] at q; omega)) (fun q => kf (by simp only [iI_zero, ge_iff_le, gt_iff_lt, iI_le hx hy, iI_le hy hx, iI_lt hx hy, iI_lt hy hx, iI_eq hx hy] at q; omega))
theorem fw_icmp_gt (hexec : p.tables.exec = Jvm.exec) (hb : c.code = cc) {x y : Int} {off : Int} {tgt : Nat} (hdg : decode cc pc = .ok (.if_icmp .gt off, 3)) (ht : (pc : Int) + off = (tgt : Int)) (hx : -2147483648 ≤ x ∧ x ≤ 2147483647) (hy : -2147483648 ≤ y ∧ y ≤ 2147483647)
    (kt : y < x → W p l e R s m args below meth c H locs cells slots Q (F0 m tgt ls rest)) (kf : x ≤ y → W p l e R s m args below meth c H locs cells slots Q (F0 m (pc + 3) ls rest)) : W p l e R s m args below meth c H locs cells slots Q (F0 m pc ls (.int (iI y) :: .int (iI x) :: rest)) :=
  lv_icmp_gt hexec hb hdg ht (fun q => kt (by simp only [ge_iff_le, gt_iff_lt, iI_le hx hy, iI_le hy hx, iI_lt hx hy, iI_lt hy hx, iI_eq hx hy] at q; omega)) (fun q => kf (by simp only [ge_iff_le, gt_iff_lt, iI_le hx hy, iI_le hy hx, iI_lt hx hy, iI_lt hy hx, iI_eq hx hy] at q; omega))
theorem fw_if_gt (hexec : p.tables.exec = Jvm.exec) (hb : c.code = cc) {x : Int} {off : Int} {tgt : Nat} (hdg : decode cc pc = .ok (.ifCond .gt off, 3)) (ht : (pc : Int) + off = (tgt : Int)) (hx : -2147483648 ≤ x ∧ x ≤ 2147483647)
    (kt : 0 < x → W p l e R s m args below meth c H locs cells slots Q (F0 m tgt ls rest)) (kf : x ≤ 0 → W p l e R s m args below meth c H locs cells slots Q (F0 m (pc + 3) ls rest)) : W p l e R s m args below meth c H locs cells slots Q (F0 m pc ls (.int (iI x) :: rest)) := by
  have hy : -2147483648 ≤ (0 : Int) ∧ (0 : Int) ≤ 2147483647 := by omega
  exact lv_if_gt hexec hb hdg ht (fun q => kt (by simp only [iI_zero, ge_iff_le, gt_iff_lt, iI_le hx hy, iI_le hy hx, iI_lt hx hy, iI_lt hy hx, iI_eq hx hy] at q; omega)) (fun q => kf (by simp only [iI_zero, ge_iff_le, gt_iff_lt, iI_le hx hy, iI_le hy hx, iI_lt hx hy, iI_lt hy hx, iI_eq hx hy] at q; omega))
theorem fw_icmp_ge (hexec : p.tables.exec = Jvm.exec) (hb : c.code = cc) {x y : Int} {off : Int} {tgt : Nat} (hdg : decode cc pc = .ok (.if_icmp .ge off, 3)) (ht : (pc : Int) + off = (tgt : Int)) (hx : -2147483648 ≤ x ∧ x ≤ 2147483647) (hy : -2147483648 ≤ y ∧ y ≤ 2147483647)
    (kt : y ≤ x → W p l e R s m args below meth c H locs cells slots Q (F0 m tgt ls rest)) (kf : x < y → W p l e R s m args below meth c H locs cells slots Q (F0 m (pc + 3) ls rest)) : W p l e R s m args below meth c H locs cells slots Q (F0 m pc ls (.int (iI y) :: .int (iI x) :: rest)) :=
  lv_icmp_ge hexec hb hdg ht (fun q => kt (by simp only [ge_iff_le, gt_iff_lt, iI_le hx hy, iI_le hy hx, iI_lt hx hy, iI_lt hy hx, iI_eq hx hy] at q; omega)) (fun q => kf (by simp only [ge_iff_le, gt_iff_lt, iI_le hx hy, iI_le hy hx, iI_lt hx hy, iI_lt hy hx, iI_eq hx hy] at q; omega))
theorem fw_if_ge (hexec : p.tables.exec = Jvm.exec) (hb : c.code = cc) {x : Int} {off : Int} {tgt : Nat} (hdg : decode cc pc = .ok (.ifCond .ge off, 3)) (ht : (pc : Int) + off = (tgt : Int)) (hx : -2147483648 ≤ x ∧ x ≤ 2147483647)
    (kt : 0 ≤ x → W p l e R s m args below meth c H locs cells slots Q (F0 m tgt ls rest)) (kf : x < 0 → W p l e R s m args below meth c H locs cells slots Q (F0 m (pc + 3) ls rest)) : W p l e R s m args below meth c H locs cells slots Q (F0 m pc ls (.int (iI x) :: rest)) := by
  have hy : -2147483648 ≤ (0 : Int) ∧ (0 : Int) ≤ 2147483647 := by omega
  exact lv_if_ge hexec hb hdg ht (fun q => kt (by simp only [iI_zero, ge_iff_le, gt_iff_lt, iI_le hx hy, iI_le hy hx, iI_lt hx hy, iI_lt hy hx, iI_eq hx hy] at q; omega)) (fun q => kf (by simp only [iI_zero, ge_iff_le, gt_iff_lt, iI_le hx hy, iI_le hy hx, iI_lt hx hy, iI_lt hy hx, iI_eq hx hy] at q; omega))
theorem fw_icmp_eq (hexec : p.tables.exec = Jvm.exec) (hb : c.code = cc) {x y : Int} {off : Int} {tgt : Nat} (hdg : decode cc pc = .ok (.if_icmp .eq off, 3)) (ht : (pc : Int) + off = (tgt : Int)) (hx : -2147483648 ≤ x ∧ x ≤ 2147483647) (hy : -2147483648 ≤ y ∧ y ≤ 2147483647)
    (kt : x = y → W p l e R s m args below meth c H locs cells slots Q (F0 m tgt ls rest)) (kf : ¬ x = y → W p l e R s m args below meth c H locs cells slots Q (F0 m (pc + 3) ls rest)) : W p l e R s m args below meth c H locs cells slots Q (F0 m pc ls (.int (iI y) :: .int (iI x) :: rest)) :=
  lv_icmp_eq hexec hb hdg ht (fun q => kt (by simp only [ge_iff_le, gt_iff_lt, iI_le hx hy, iI_le hy hx, iI_lt hx hy, iI_lt hy hx, iI_eq hx hy] at q; omega)) (fun q => kf (by simp only [ge_iff_le, gt_iff_lt, iI_le hx hy, iI_le hy hx, iI_lt hx hy, iI_lt hy hx, iI_eq hx hy] at q; omega))
theorem fw_if_eq (hexec : p.tables.exec = Jvm.exec) (hb : c.code = cc) {x : Int} {off : Int} {tgt : Nat} (hdg : decode cc pc = .ok (.ifCond .eq off, 3)) (ht : (pc : Int) + off = (tgt : Int)) (hx : -2147483648 ≤ x ∧ x ≤ 2147483647)
    (kt : x = 0 → W p l e R s m args below meth c H locs cells slots Q (F0 m tgt ls rest)) (kf : ¬ x = 0 → W p l e R s m args below meth c H locs cells slots Q (F0 m (pc + 3) ls rest)) : W p l e R s m args below meth c H locs cells slots Q (F0 m pc ls (.int (iI x) :: rest)) := by
  have hy : -2147483648 ≤ (0 : Int) ∧ (0 : Int) ≤ 2147483647 := by omega
  exact lv_if_eq hexec hb hdg ht (fun q => kt (by simp only [iI_zero, ge_iff_le, gt_iff_lt, iI_le hx hy, iI_le hy hx, iI_lt hx hy, iI_lt hy hx, iI_eq hx hy] at q; omega)) (fun q => kf (by simp only [iI_zero, ge_iff_le, gt_iff_lt, iI_le hx hy, iI_le hy hx, iI_lt hx hy, iI_lt hy hx, iI_eq hx hy] at q; omega))
theorem fw_icmp_ne (hexec : p.tables.exec = Jvm.exec) (hb : c.code = cc) {x y : Int} {off : Int} {tgt : Nat} (hdg : decode cc pc = .ok (.if_icmp .ne off, 3)) (ht : (pc : Int) + off = (tgt : Int)) (hx : -2147483648 ≤ x ∧ x ≤ 2147483647) (hy : -2147483648 ≤ y ∧ y ≤ 2147483647)
    (kt : ¬ x = y → W p l e R s m args below meth c H locs cells slots Q (F0 m tgt ls rest)) (kf : x = y → W p l e R s m args below meth c H locs cells slots Q (F0 m (pc + 3) ls rest)) : W p l e R s m args below meth c H locs cells slots Q (F0 m pc ls (.int (iI y) :: .int (iI x) :: rest)) :=
  lv_icmp_ne hexec hb hdg ht (fun q => kt (by simp only [ge_iff_le, gt_iff_lt, iI_le hx hy, iI_le hy hx, iI_lt hx hy, iI_lt hy hx, iI_eq hx hy] at q; omega)) (fun q => kf (by simp only [ge_iff_le, gt_iff_lt, iI_le hx hy, iI_le hy hx, iI_lt hx hy, iI_lt hy hx, iI_eq hx hy] at q; omega))
theorem fw_if_ne (hexec : p.tables.exec = Jvm.exec) (hb : c.code = cc) {x : Int} {off : Int} {tgt : Nat} (hdg : decode cc pc = .ok (.ifCond .ne off, 3)) (ht : (pc : Int) + off = (tgt : Int)) (hx : -2147483648 ≤ x ∧ x ≤ 2147483647)
    (kt : ¬ x = 0 → W p l e R s m args below meth c H locs cells slots Q (F0 m tgt ls rest)) (kf : x = 0 → W p l e R s m args below meth c H locs cells slots Q (F0 m (pc + 3) ls rest)) : W p l e R s m args below meth c H locs cells slots Q (F0 m pc ls (.int (iI x) :: rest)) := by
  have hy : -2147483648 ≤ (0 : Int) ∧ (0 : Int) ≤ 2147483647 := by omega
  exact lv_if_ne hexec hb hdg ht (fun q => kt (by simp only [iI_zero, ge_iff_le, gt_iff_lt, iI_le hx hy, iI_le hy hx, iI_lt hx hy, iI_lt hy hx, iI_eq hx hy] at q; omega)) (fun q => kf (by simp only [iI_zero, ge_iff_le, gt_iff_lt, iI_le hx hy, iI_le hy hx, iI_lt hx hy, iI_lt hy hx, iI_eq hx hy] at q; omega))
theorem fw_if_eqB (hexec : p.tables.exec = Jvm.exec) (hb : c.code = cc) {x : Bool} {off : Int} {tgt : Nat} (hdg : decode cc pc = .ok (.ifCond .eq off, 3)) (ht : (pc : Int) + off = (tgt : Int))
    (kt : x = false → W p l e R s m args below meth c H locs cells slots Q (F0 m tgt ls rest)) (kf : x = true → W p l e R s m args below meth c H locs cells slots Q (F0 m (pc + 3) ls rest)) : W p l e R s m args below meth c H locs cells slots Q (F0 m pc ls (.int (iI (bI x)) :: rest)) :=
  fw_if_eq hexec hb hdg ht (by cases x <;> decide) (fun q => kt (by cases x <;> simp_all [bI])) (fun q => kf (by cases x <;> simp_all [bI]))
theorem fw_if_neB (hexec : p.tables.exec = Jvm.exec) (hb : c.code = cc) {x : Bool} {off : Int} {tgt : Nat} (hdg : decode cc pc = .ok (.ifCond .ne off, 3)) (ht : (pc : Int) + off = (tgt : Int))
    (kt : x = true → W p l e R s m args below meth c H locs cells slots Q (F0 m tgt ls rest)) (kf : x = false → W p l e R s m args below meth c H locs cells slots Q (F0 m (pc + 3) ls rest)) : W p l e R s m args below meth c H locs cells slots Q (F0 m pc ls (.int (iI (bI x)) :: rest)) :=
  fw_if_ne hexec hb hdg ht (by cases x <;> decide) (fun q => kt (by cases x <;> simp_all [bI])) (fun q => kf (by cases x <;> simp_all [bI]))
theorem fw_iinc (hexec : p.tables.exec = Jvm.exec) (hb : c.code = cc) {i nL k : Nat} {n x : Int} {lv lv' : List (Nat × Value)} (hdg : decode cc pc = .ok (.iinc i n, 3)) (h : lv_has ls nL lv) (hk : lv[k]? = some (i, .int (iI x))) (hn : i < nL) (hl : (i, Value.int (iI (x + n))) :: lv.filter (fun q => !(q.1 == i) && !(q.1 + 1 == i && q.2.category == 2)) = lv') (kk : ∀ ls' : Array Slot, lv_has ls' nL lv' → W p l e R s m args below meth c H locs cells slots Q (F0 m (pc + 3) ls' rest)) : W p l e R s m args below meth c H locs cells slots Q (F0 m pc ls rest) := lv_iinc hexec hb hdg h hk (iI_inc x n) hn hl kk
theorem fw_iincN (hexec : p.tables.exec = Jvm.exec) (hb : c.code = cc) {i nL k : Nat} {x : Nat} {lv lv' : List (Nat × Value)} (hdg : decode cc pc = .ok (.iinc i 1, 3)) (h : lv_has ls nL lv) (hk : lv[k]? = some (i, .int (iI (x : Int)))) (hn : i < nL) (hl : (i, Value.int (iI ((x + 1 : Nat) : Int))) :: lv.filter (fun q => !(q.1 == i) && !(q.1 + 1 == i && q.2.category == 2)) = lv') (kk : ∀ ls' : Array Slot, lv_has ls' nL lv' → W p l e R s m args below meth c H locs cells slots Q (F0 m (pc + 3) ls' rest)) : W p l e R s m args below meth c H locs cells slots Q (F0 m pc ls rest) := fw_iinc hexec hb hdg h hk hn hl kk
theorem fw_ialdN {D : va_G} {cl : List vw_C} {tys : List (ClassId × FieldType)} {z : Nat} {ad : fw_Ad} {w : fw_W} {a i : Nat} (hexec : p.tables.exec = Jvm.exec) (hb : c.code = cc) (hK : va_K D cl tys s) (hP : fw_P D cl z ad w H) {cA : ClassId} {n : Nat} {f : Nat → Int32} (he : w a i = some (.inl (cA, n, .inl f))) (t0 : Nat) (ht : tys[t0]? = some (cA, .int)) {j : Nat} (hj : j < n) (hn : n < 2147483648) (hdg : decode cc pc = .ok (.iaload, 1)) (kk : W p l e R s m args below meth c H locs cells slots Q (F0 m (pc + 1) ls (.int (f j) :: rest))) : W p l e R s m args below meth c H locs cells slots Q (F0 m pc ls (.int (iI (j : Int)) :: .ref (ad a i) :: rest)) :=
  fw_iald hexec hb hK hP he t0 ht (iI_in hj hn) hdg (by rw [iI_idx (by omega)]; exact kk)
theorem fw_zaldN {D : va_G} {cl : List vw_C} {tys : List (ClassId × FieldType)} {z : Nat} {ad : fw_Ad} {w : fw_W} {a i : Nat} (hexec : p.tables.exec = Jvm.exec) (hb : c.code = cc) (hK : va_K D cl tys s) (hP : fw_P D cl z ad w H) {cA : ClassId} {n : Nat} {f : Nat → Int32} (he : w a i = some (.inl (cA, n, .inl f))) (t0 : Nat) (ht : tys[t0]? = some (cA, .boolean)) {j : Nat} (hj : j < n) (hn : n < 2147483648) (hdg : decode cc pc = .ok (.baload, 1)) (kk : W p l e R s m args below meth c H locs cells slots Q (F0 m (pc + 1) ls (.int (f j) :: rest))) : W p l e R s m args below meth c H locs cells slots Q (F0 m pc ls (.int (iI (j : Int)) :: .ref (ad a i) :: rest)) :=
  fw_zald hexec hb hK hP he t0 ht (iI_in hj hn) hdg (by rw [iI_idx (by omega)]; exact kk)
theorem fw_aldN {D : va_G} {cl : List vw_C} {tys : List (ClassId × FieldType)} {z : Nat} {ad : fw_Ad} {w : fw_W} {a i : Nat} (hexec : p.tables.exec = Jvm.exec) (hb : c.code = cc) (hK : va_K D cl tys s) (hP : fw_P D cl z ad w H) {cA : ClassId} {C : String} {n : Nat} {f : Nat → Option Nat} (he : w a i = some (.inl (cA, n, .inr (.inr (.inr (.inr f)))))) (t0 : Nat) (ht : tys[t0]? = some (cA, .object C)) {j : Nat} (hj : j < n) (hn : n < 2147483648) (hdg : decode cc pc = .ok (.aaload, 1)) (kk : W p l e R s m args below meth c H locs cells slots Q (F0 m (pc + 1) ls (va_rf (f j) :: rest))) : W p l e R s m args below meth c H locs cells slots Q (F0 m pc ls (.int (iI (j : Int)) :: .ref (ad a i) :: rest)) :=
  fw_aldq hexec hb hK hP he t0 ht (iI_in hj hn) hdg (by rw [iI_idx (by omega)]; exact kk)
theorem fw_iastN {D : va_G} {cl : List vw_C} {tys : List (ClassId × FieldType)} {H0 : Heap} {z : Nat} {ad : fw_Ad} {w : fw_W} {a i : Nat} (hexec : p.tables.exec = Jvm.exec) (hb : c.code = cc) (hK : va_K D cl tys s) (hP : fw_P D cl z ad w H) (hS : va_S (fw_A z) H0 H locs) {cA : ClassId} {n : Nat} {f : Nat → Int32} (he : w a i = some (.inl (cA, n, .inl f))) (t0 : Nat) (ht : tys[t0]? = some (cA, .int)) {j : Nat} {x : Int32} (hj : j < n) (hn : n < 2147483648) (hdg : decode cc pc = .ok (.iastore, 1))
    (kk : ∀ (H1 : Heap) (locs1 : List Loc), fw_P D cl z ad (fw_up w a i (.inl (cA, n, .inl (upd f j x)))) H1 → va_S (fw_A z) H0 H1 locs1 → W p l e R s m args below meth c H1 locs1 cells slots Q (F0 m (pc + 1) ls rest)) : W p l e R s m args below meth c H locs cells slots Q (F0 m pc ls (.int x :: .int (iI (j : Int)) :: .ref (ad a i) :: rest)) :=
  fw_iast hexec hb hK hP hS he t0 ht (iI_in hj hn) hdg (by rw [iI_idx (by omega)]; exact kk)
theorem fw_zastN {D : va_G} {cl : List vw_C} {tys : List (ClassId × FieldType)} {H0 : Heap} {z : Nat} {ad : fw_Ad} {w : fw_W} {a i : Nat} (hexec : p.tables.exec = Jvm.exec) (hb : c.code = cc) (hK : va_K D cl tys s) (hP : fw_P D cl z ad w H) (hS : va_S (fw_A z) H0 H locs) {cA : ClassId} {n : Nat} {f : Nat → Int32} (he : w a i = some (.inl (cA, n, .inl f))) (t0 : Nat) (ht : tys[t0]? = some (cA, .boolean)) {j : Nat} {x : Int32} (hx : vp_nar .boolean x = x) (hj : j < n) (hn : n < 2147483648) (hdg : decode cc pc = .ok (.bastore, 1))
    (kk : ∀ (H1 : Heap) (locs1 : List Loc), fw_P D cl z ad (fw_up w a i (.inl (cA, n, .inl (upd f j x)))) H1 → va_S (fw_A z) H0 H1 locs1 → W p l e R s m args below meth c H1 locs1 cells slots Q (F0 m (pc + 1) ls rest)) : W p l e R s m args below meth c H locs cells slots Q (F0 m pc ls (.int x :: .int (iI (j : Int)) :: .ref (ad a i) :: rest)) :=
  fw_zast hexec hb hK hP hS he t0 ht (iI_in hj hn) hdg (by rw [iI_idx (by omega), hx]; exact kk)
theorem fw_astN {D : va_G} {cl : List vw_C} {tys : List (ClassId × FieldType)} {H0 : Heap} {z : Nat} {ad : fw_Ad} {w : fw_W} {a i : Nat} (hexec : p.tables.exec = Jvm.exec) (hb : c.code = cc) (hK : va_K D cl tys s) (hP : fw_P D cl z ad w H) (hS : va_S (fw_A z) H0 H locs) {ci : Nat} {cA : ClassId} {r : vw_C} {n b k : Nat} {vs : List Value} {f : Nat → Option Nat} (he : w a i = some (.inl (cA, n, .inr (.inr (.inr (.inr f)))))) (t0 : Nat) (ht : tys[t0]? = some (cA, .object r.1)) (hv : w b k = some (.inr (ci, vs))) (hc : cl[ci]? = some r) {j : Nat} (hj : j < n) (hn : n < 2147483648) (hdg : decode cc pc = .ok (.aastore, 1))
    (kk : ∀ (H1 : Heap) (locs1 : List Loc), fw_P D cl z ad (fw_up w a i (.inl (cA, n, .inr (.inr (.inr (.inr (va_up f j (some (ad b k))))))))) H1 → va_S (fw_A z) H0 H1 locs1 → W p l e R s m args below meth c H1 locs1 cells slots Q (F0 m (pc + 1) ls rest)) : W p l e R s m args below meth c H locs cells slots Q (F0 m pc ls (.ref (ad b k) :: .int (iI (j : Int)) :: .ref (ad a i) :: rest)) :=
  fw_astq hexec hb hK hP hS he t0 ht hv hc (iI_in hj hn) hdg (by rw [iI_idx (by omega)]; exact kk)
theorem fw_astNN {D : va_G} {cl : List vw_C} {tys : List (ClassId × FieldType)} {H0 : Heap} {z : Nat} {ad : fw_Ad} {w : fw_W} {a i : Nat} (hexec : p.tables.exec = Jvm.exec) (hb : c.code = cc) (hK : va_K D cl tys s) (hP : fw_P D cl z ad w H) (hS : va_S (fw_A z) H0 H locs) {cA : ClassId} {C : String} {n : Nat} {f : Nat → Option Nat} (he : w a i = some (.inl (cA, n, .inr (.inr (.inr (.inr f)))))) (t0 : Nat) (ht : tys[t0]? = some (cA, .object C)) {j : Nat} (hj : j < n) (hn : n < 2147483648) (hdg : decode cc pc = .ok (.aastore, 1))
    (kk : ∀ (H1 : Heap) (locs1 : List Loc), fw_P D cl z ad (fw_up w a i (.inl (cA, n, .inr (.inr (.inr (.inr (va_up f j none))))))) H1 → va_S (fw_A z) H0 H1 locs1 → W p l e R s m args below meth c H1 locs1 cells slots Q (F0 m (pc + 1) ls rest)) : W p l e R s m args below meth c H locs cells slots Q (F0 m pc ls (.null :: .int (iI (j : Int)) :: .ref (ad a i) :: rest)) :=
  fw_astqN hexec hb hK hP hS he t0 ht (iI_in hj hn) hdg (by rw [iI_idx (by omega)]; exact kk)
end FWI
theorem bI_b (b : Bool) : -2147483648 ≤ bI b ∧ bI b ≤ 2147483647 := by cases b <;> decide
theorem iI_abs {a : Int} (h : -2147483648 < a ∧ a ≤ 2147483647) : (if (0 : Int32) ≤ iI a then iI a else 0 - iI a) = iI ((Int.natAbs a : Nat) : Int) := by
  rw [iI_zero]
  by_cases h0 : 0 ≤ a
  · rw [if_pos ((iI_le ⟨by omega, by omega⟩ ⟨by omega, by omega⟩).mpr h0), show ((Int.natAbs a : Nat) : Int) = a from by omega]
  · rw [if_neg (fun q => h0 ((iI_le ⟨by omega, by omega⟩ ⟨by omega, by omega⟩).mp q)), iI_sub, show ((Int.natAbs a : Nat) : Int) = 0 - a from by omega]
theorem fw_abs {p : Program} {l : Launch} {e : Env} {R : Room} {s : State} {m : MethodId} {args : Array Value} {below : List Frame} {meth : Method} {c : Code} {H : Heap} {locs : List Loc} {cells slots : Nat} {Q : State → Prop} {cc : ByteArray} {pc : Nat} {ls : Array Slot} {rest : List Value} (hexec : p.tables.exec = Jvm.exec) (hb : c.code = cc) (hml : c.maxLocals = ls.size) {own : String} {index : Nat} (hown : s.vm.findClass own = some m.cls) (hlink : (Cond.methodLink own index Lib.Math.abs.name).before args s = true) (hstat : (Cond.static Lib.Math.abs.name).before args s = true) (hini : (Cond.initialized "java/lang/Math").before args s = true) (hcode : (Cond.code Lib.Math.abs.name Lib.Math.abs.code 1 (some .int)).before args s = true)
    (hframes : 1 ≤ R.frames) (hlocals : (rest.map fun v => v.category).sum + 13 ≤ R.locals) (hc : cells ≤ R.cells) (hs : slots ≤ R.slots) {x : Int} (hx : -2147483648 < x ∧ x ≤ 2147483647) (hdg : decode cc pc = .ok (.invokestatic index, 3))
    (kk : W p l e R s m args below meth c H locs cells slots Q (F0 m (pc + 3) ls (.int (iI ((Int.natAbs x : Nat) : Int)) :: rest))) : W p l e R s m args below meth c H locs cells slots Q (F0 m pc ls (.int (iI x) :: rest)) :=
  va_mabs hexec hb hml hown hlink hstat hini hcode hframes hlocals hc hs hdg (by rw [iI_abs hx]; exact kk)
noncomputable def cB (P : Prop) : Bool := @decide P (Classical.propDecidable P)
theorem cB_t {P : Prop} : cB P = true ↔ P := @decide_eq_true_iff P (Classical.propDecidable P)
theorem cB_f {P : Prop} : cB P = false ↔ ¬ P := @decide_eq_false_iff_not P (Classical.propDecidable P)
theorem bI_ct {P : Prop} (h : P) : ((1 : Nat) : Int) = bI (cB P) := by rw [cB_t.mpr h]; rfl
theorem bI_cf {P : Prop} (h : ¬ P) : ((0 : Nat) : Int) = bI (cB P) := by rw [cB_f.mpr h]; rfl
theorem cB_congr {P P' : Prop} (h : P ↔ P') : cB P = cB P' := by
  rw [show P = P' from propext h]
theorem bI_dt {P : Prop} [Decidable P] (h : P) : ((1 : Nat) : Int) = bI (decide P) := by rw [decide_eq_true h]; rfl
theorem bI_df {P : Prop} [Decidable P] (h : ¬ P) : ((0 : Nat) : Int) = bI (decide P) := by rw [decide_eq_false h]; rfl
