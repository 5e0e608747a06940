/-! ===== the methods that throw: what they need of the state, their end ===== -/
def tx_w : List Cond := [.declares (Bundle.initS "java/lang/RuntimeException"), .declares (Bundle.initS "java/lang/Exception"), .declares (Bundle.initS Bundle.tN), .castable "java/lang/IndexOutOfBoundsException" "java/lang/IndexOutOfBoundsException", .castable "java/lang/IllegalStateException" "java/lang/IllegalStateException", .castable "java/lang/IllegalArgumentException" "java/lang/IllegalArgumentException"]
def tx_s : List (Nat × String) := [(49, "no container is like this"), (56, "the ship has left this port"), (59, "there are 40 containers"), (70, "no such container or question"), (77, "no such limit"), (95, "no such container, bay or row"), (101, "it cannot be loaded there"), (136, "the ship cannot sail"), (145, "no such bay, row or tier"), (150, "no such container"), (199, "no such port")]
def tx_E (z : Nat) (sa : Nat → Nat) (U : State) (H : Heap) : Prop :=
  (∀ w ∈ tx_w, va_Nw w U) ∧ (∀ q ∈ tx_s, vk_R RX2 q.1 q.2 (sa q.1) U) ∧ vx_Zq Bundle.tN "UNASSIGNED_STACK" Bundle.steD (fw_A z) U H ∧ vx_Zq Bundle.tN "SUPPRESSED_SENTINEL" Bundle.listD (fw_A z) U H ∧ True
theorem tx_w_warm {s U : State} (hW : s.WarmedH U.vm) (h : ∀ w ∈ tx_w, va_Nw w s) : ∀ w ∈ tx_w, va_Nw w U := by
  have tr : ∀ {c : Cond}, c.onTables = true → c.before #[] (s.setVm U.vm) = true → c.before #[] U = true := fun hc h => va_tabs hc (rfl : (s.setVm U.vm).vm = U.vm) h
  have dc : ∀ {x : MethodName}, va_Nw (.declares x) s → va_Nw (.declares x) U := fun hz => va_Nw.warmD hW hz
  have ca : ∀ {a b : String}, va_Nw (.castable a b) s → va_Nw (.castable a b) U := fun {a b} hz => tr rfl (by rw [Cond.castable_setVm hW.alike]; exact hz)
  simp only [tx_w, List.forall_mem_cons] at h ⊢
  obtain ⟨h1, h2, h3, h4, h5, h6, h7⟩ := h
  exact ⟨dc h1, dc h2, dc h3, ca h4, ca h5, ca h6, fun _ h => nomatch h⟩
theorem tx_E.warm {z : Nat} {sa : Nat → Nat} {s U : State} {H : Heap} (hW : s.WarmedH U.vm) (h : tx_E z sa s H) : tx_E z sa U H :=
  ⟨tx_w_warm hW h.1, fun q hq => vk_R.warm hW (h.2.1 q hq), vx_Zq.moved hW.alike h.2.2.1, vx_Zq.moved hW.alike h.2.2.2.1, trivial⟩
theorem tx_E.kept {z : Nat} {sa : Nat → Nat} {U : State} {H H1 : Heap} {locs : List Loc} (h : tx_E z sa U H) (hS : va_S (fw_A z) H H1 locs) : tx_E z sa U H1 :=
  ⟨h.1, h.2.1, h.2.2.1.kept hS.2.1, h.2.2.2.1.kept hS.2.1, h.2.2.2.2⟩
def fx_Pre (D : va_G) (cl : List vw_C) (tys : List (ClassId × FieldType)) (z : Nat) (ad : fw_Ad) (w : fw_W) (sa : Nat → Nat) : State → Prop := fun U => fw_Pre D cl tys z ad w U ∧ tx_E z sa U U.heap
theorem fx_blind {D : va_G} {cl : List vw_C} {tys : List (ClassId × FieldType)} {z : Nat} {ad : fw_Ad} {w : fw_W} {sa : Nat → Nat} {av : List Value} : FrameBlind (va_Pc av (fx_Pre D cl tys z ad w sa)) := by
  rintro a U g mk ⟨q0, q1, q2⟩
  have hvm : (U.calling g mk a).vm = U.vm := rfl
  have hh : (U.calling g mk a).heap = U.heap := rfl
  have b1 := fw_pre_blind (av := av) a U g mk ⟨q0, q1⟩
  refine ⟨b1.1, b1.2, ?_⟩
  rw [hh]
  exact ⟨fun w hw => va_tabs (u := U) ((by decide : ∀ w ∈ tx_w, w.onTables = true) w hw) hvm.symm (show w.before #[] U = true from q2.1 w hw), fun q hq => vk_R.same hvm (q2.2.1 q hq), vx_Zq.moved (Vm.Alike.refl U.vm) q2.2.2.1, vx_Zq.moved (Vm.Alike.refl U.vm) q2.2.2.2.1, trivial⟩
/-- thrown: the class by its name, and the world -/
abbrev fx_X (D : va_G) (cl : List vw_C) (z : Nat) (ad : fw_Ad) (px : String → fw_W → Prop) : String → State → State → Prop := vx_X (S := fw_W) (fun _ => True) (fun E w' t => px E w' ∧ fw_P D cl z ad w' t.heap) (fw_A z)
theorem fw_grow {D : va_G} {cl : List vw_C} {z : Nat} {ad : fw_Ad} {w : fw_W} {H H1 : Heap} (h : fw_P D cl z ad w H) (hk : ∀ q : Nat, q < H.size → H1[q]? = H[q]?) : fw_P D cl z ad w H1 :=
  ⟨fun a i x hx => ⟨va_at.kept (h.1 a i x hx).1 (hk _ (h.1 a i x hx).1.lt), (h.1 a i x hx).2⟩, h.2⟩
abbrev tx_n : List String := ["java/lang/RuntimeException", "java/lang/Exception"]
abbrev tx_IO : String := "java/lang/IndexOutOfBoundsException"
abbrev tx_IS : String := "java/lang/IllegalStateException"
abbrev tx_IA : String := "java/lang/IllegalArgumentException"
def tx_C (ik ic : Nat) (cls : String) : Prop :=
  (∀ w ∈ (vx_atS RX2 ic cls tx_n).filter (fun w => !goodWord w), w ∈ tx_w) ∧ (∀ w ∈ Cond.classLink RX2 ik cls :: Cond.initialized cls :: vx_atS RX2 ic cls tx_n, vx_ot w = true) ∧ Bundle.fit cls = true
theorem tx_68 : tx_C 68 72 tx_IO := ⟨by decide +kernel, by decide +kernel, by decide +kernel⟩
theorem tx_54 : tx_C 54 58 tx_IS := ⟨by decide +kernel, by decide +kernel, by decide +kernel⟩
theorem tx_47 : tx_C 47 51 tx_IA := ⟨by decide +kernel, by decide +kernel, by decide +kernel⟩
theorem tx_fitn : ∀ n ∈ tx_n, Bundle.fit n = true := by decide +kernel
section TX
variable {p : Program} {l : Launch} {e : Env} {R : Room} {s : State} {m : MethodId} {args : Array Value} {below : List Frame} {meth : Method} {c : Code} {H : Heap} {locs : List Loc} {cells slots : Nat}
variable {cc : ByteArray} {pc : Nat} {ls : Array Slot} {rest : List Value} {D : va_G} {cl : List vw_C} {z : Nat} {ad : fw_Ad} {w : fw_W} {sa : Nat → Nat}
/-- new X(text); athrow: out of the method -/
theorem fx_throw {Qc : Array Value → State → Outcome → State → Prop} {px : String → fw_W → Prop} {cls text : String} {ik is ic mc ms : Nat} (hexec : p.tables.exec = Jvm.exec) (hb : c.code = cc) (hl : l.stackTraces = false) (hown : s.vm.findClass RX2 = some m.cls) (hE : tx_E z sa s s.heap) (hC : tx_C ik ic cls)
    (hk : (Cond.classLink RX2 ik cls).before args s = true) (hini : (Cond.initialized cls).before args s = true) (hat : ∀ w ∈ (vx_atS RX2 ic cls tx_n).filter goodWord, w.before args s = true) (hs : (is, text) ∈ tx_s)
    (d0 : decode cc pc = .ok (.new ik, 3)) (d3 : decode cc (pc + 3) = .ok (.dup, 1)) (d4 : decode cc (pc + 4) = .ok (.ldc is, 2)) (d6 : decode cc (pc + 6) = .ok (.invokespecial ic, 3)) (d9 : decode cc (pc + 9) = .ok (.athrow, 1))
    (hout : ∀ x ∈ c.exceptionTable.toList, False) (hR : 5 < R.frames ∧ (rest.map fun v => v.category).sum + 82 ≤ R.locals ∧ cells + 1 ≤ R.cells ∧ slots + 6 ≤ R.slots) (hlocks : meth.locks = false) (hsize : ls.size = c.maxLocals)
    (hP : fw_P D cl z ad w H) (hS : va_S (fw_A z) s.heap H locs) (hx : px cls w) (hc : cells + 1 ≤ mc) (hsl : slots + 6 ≤ ms) :
    W p l e R s m args below meth c H locs cells slots (vx_MQ below Qc (fx_X D cl z ad px) args s mc ms (fw_A z)) (F0 m pc ls rest) := by
  refine vx_throwS (own := RX2) (cls := cls) (text := text) (names := tx_n) (ik := ik) (is := is) (ic := ic) (sa := sa is) (A := fw_A z) hexec hb hl hown hC.2.2 tx_fitn hk hini (hE.2.1 _ hs) (vx_hat hat hC.1 (fun w hw => va_any ((by decide : ∀ w ∈ tx_w, w.onTables = true) w hw) (hE.1 w hw))) hC.2.1 hE.2.2.1 hE.2.2.2.1 hS hsize d0 d3 d4 d6 d9 (fun x hx => (hout x hx).elim) (by simpa using hR.1) (by simpa using hR.2.1) hR.2.2.1 hR.2.2.2 hlocks ?_ (fun q hq => hS.2.2 q hq) hc hsl
  intro t _ hz hk2
  exact ⟨w, trivial, ⟨hx, fw_grow hP hk2⟩, Nat.le_trans hS.1 hz, fun q hq hA => by rw [hk2 q (Nat.lt_of_lt_of_le hq hS.1)]; exact hS.2.1 q hq hA⟩
variable {y : MethodName} {bytes : ByteArray} {maxL nL mc ms n index ci N b k : Nat} {ret : Option FieldType} {ws : List Cond} {rm : Room} {Ts : List Cond} {own C : String} {T : u_T} {fs As stk : List Value} {tys : List (ClassId × FieldType)} {Q : State → Prop}
/-- a call of a method that may throw -/
theorem fx_cVi {post : Int32 → fw_W → Prop} {px : String → fw_W → Prop} (S : CallFix p m c cc nL s args Ts own) (hM : vx_Met l y ws rm (va_Pc (.ref (ad b k) :: As) (fx_Pre D cl tys z ad w sa)) (fw_Qi D cl z ad post) (fx_X D cl z ad px) mc ms (fw_A z)) (cw : CallW R s args own C index y bytes maxL ret ws rm mc ms n) (hrc : w b k = some (.inr (ci, fs))) (hc : cl[ci]? = some (C, T, N)) (hn : As.length = n) (hsize : ls.size = nL) (hW : (rest.map fun v => v.category).sum ≤ 8) (hdg : decode cc pc = .ok (.invokevirtual index, 3)) (hf : cells + mc ≤ R.cells ∧ slots + ms ≤ R.slots) (hK : va_K D cl tys s) (hE : tx_E z sa s s.heap) (hP : fw_P D cl z ad w H) (hS : va_S (fw_A z) s.heap H locs) (hstk : stk = As.reverse ++ .ref (ad b k) :: rest)
    (kx : ∀ (E : String) (ce : Cell) (q9 : Addr) (w' : fw_W) (H1 : Heap) (locs1 : List Loc), px E w' → fw_P D cl z ad w' H1 → va_S (fw_A z) s.heap H1 locs1 → H1[q9]? = some ce → ce.vm = .none → s.vm.findClass E = some ce.cls → vx_W p l e R s m args below meth c H1 locs1 (cells + mc) (slots + ms) Q (F0 m pc ls rest) q9)
    (kk : ∀ (r : Int32) (w' : fw_W) (H1 : Heap) (locs1 : List Loc), post r w' → fw_P D cl z ad w' H1 → va_S (fw_A z) s.heap H1 locs1 → W p l e R s m args below meth c H1 locs1 (cells + mc) (slots + ms) Q (F0 m (pc + 3) ls (.int r :: rest))) : W p l e R s m args below meth c H locs cells slots Q (F0 m pc ls stk) := by
  subst hstk
  exact vx_calli (vx_runV (As := As) (rest := rest) S hM cw ⟨fx_blind, va_recv hK (fw_one hP hrc) hc (q0 := 0) rfl, fun U hU hW => ⟨rfl, ⟨by rw [hU]; exact hP, va_K.moved hW.alike hK⟩, by rw [hU]; exact (hE.kept hS).warm hW⟩⟩ rfl hn hsize rfl (lv_room hW) hdg hf) hS (fun q _ h => h) (fun q h => h) (fun q _ h => h)
    (fun E ce q9 u t H1 locs1 ht hvm _ hB hz hk hS1 h1 h2 h3 => kx E ce q9 u H1 locs1 hB.1 (by rw [← ht]; exact hB.2) hS1 h1 h2 h3)
    (fun r u t H1 locs1 ht hvm hp hB hz hk hS1 => kk r u H1 locs1 hp (by rw [← ht]; exact hB) hS1)
end TX
/-- the law's out array, written -/
def oU (cA : Nat → ClassId) (μ : fw_W) (f : Nat → Int64) (x : Int64) : fw_W := fw_up μ 15 0 (.inl (cA 4, 1, .inr (.inl (vp_updL f 0 x))))
theorem WC_out (cA : Nat → ClassId) (ad : fw_Ad) (σ : St) (μ : fw_W) (x : va_E) : fw_up (WC cA ad σ μ) 15 0 x = WC cA ad σ (fw_up μ 15 0 x) := by
  funext b j
  by_cases h : b = 15 ∧ j = 0
  · obtain ⟨rfl, rfl⟩ := h
    rw [fw_up_same, WC_r (by decide), fw_up_same]
  · rw [fw_up_ne h]
    by_cases hb : 6 ≤ b
    · rw [WC_r hb, WC_r hb, fw_up_ne h]
    · rcases (by omega : b = 0 ∨ b = 1 ∨ b = 2 ∨ b = 3 ∨ b = 4 ∨ b = 5) with rfl | rfl | rfl | rfl | rfl | rfl <;> rfl
def bL (b : Bool) : Int64 := if b then 1 else 0
