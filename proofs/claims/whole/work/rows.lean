section
-- ===== PART A: goes FIRST, ahead of the names: the tables' words, and 'selects' of the private methods out of them =====
/-- a private method of a class that the tables say can be made, by its rows of tables_1 -/
def lw_okq (q : MethodName × Nat) : Prop := (q.1.cls ≠ "java/lang/invoke/MethodHandle" ∧ q.1.cls ≠ "java/lang/invoke/VarHandle") ∧ Cond.instantiable q.1.cls q.2 ∈ tables_1 ∧ Cond.privateMethod q.1 ∈ tables_1 ∧ Cond.instanceMethod q.1 ∈ tables_1
theorem lw_p0 : lw_okq (⟨"StowagePlan", "nextToLoad", "()LStowagePlan$Box;"⟩, 8) := ⟨⟨by decide +kernel, by decide +kernel⟩, List.mem_of_getElem? (i := 14) (by decide +kernel), List.mem_of_getElem? (i := 82) (by decide +kernel), List.mem_of_getElem? (i := 83) (by decide +kernel)⟩
theorem lw_p1 : lw_okq (⟨"StowagePlan", "hasChoice", "(LStowagePlan$Box;)Z"⟩, 8) := ⟨⟨by decide +kernel, by decide +kernel⟩, List.mem_of_getElem? (i := 14) (by decide +kernel), List.mem_of_getElem? (i := 90) (by decide +kernel), List.mem_of_getElem? (i := 91) (by decide +kernel)⟩
theorem lw_p2 : lw_okq (⟨"StowagePlan", "isLoadable", "(LStowagePlan$Box;LStowagePlan$Stack;)Z"⟩, 8) := ⟨⟨by decide +kernel, by decide +kernel⟩, List.mem_of_getElem? (i := 14) (by decide +kernel), List.mem_of_getElem? (i := 94) (by decide +kernel), List.mem_of_getElem? (i := 95) (by decide +kernel)⟩
theorem lw_p3 : lw_okq (⟨"StowagePlan", "isApartFromOthers", "(LStowagePlan$Box;LStowagePlan$Stack;)Z"⟩, 8) := ⟨⟨by decide +kernel, by decide +kernel⟩, List.mem_of_getElem? (i := 14) (by decide +kernel), List.mem_of_getElem? (i := 114) (by decide +kernel), List.mem_of_getElem? (i := 115) (by decide +kernel)⟩
theorem lw_p4 : lw_okq (⟨"StowagePlan", "bestStackFor", "(LStowagePlan$Box;)LStowagePlan$Stack;"⟩, 8) := ⟨⟨by decide +kernel, by decide +kernel⟩, List.mem_of_getElem? (i := 14) (by decide +kernel), List.mem_of_getElem? (i := 129) (by decide +kernel), List.mem_of_getElem? (i := 130) (by decide +kernel)⟩
theorem lw_p5 : lw_okq (⟨"java/lang/Throwable", "fillInStackTrace", "(I)Ljava/lang/Throwable;"⟩, 6) := ⟨⟨by decide +kernel, by decide +kernel⟩, List.mem_of_getElem? (i := 263) (by decide +kernel), List.mem_of_getElem? (i := 261) (by decide +kernel), List.mem_of_getElem? (i := 262) (by decide +kernel)⟩
theorem lw_p6 : lw_okq (⟨"StowagePlan", "boxNumbered", "(I)LStowagePlan$Box;"⟩, 8) := ⟨⟨by decide +kernel, by decide +kernel⟩, List.mem_of_getElem? (i := 14) (by decide +kernel), List.mem_of_getElem? (i := 361) (by decide +kernel), List.mem_of_getElem? (i := 362) (by decide +kernel)⟩
theorem lw_p7 : lw_okq (⟨"StowagePlan", "stackAt", "(II)LStowagePlan$Stack;"⟩, 8) := ⟨⟨by decide +kernel, by decide +kernel⟩, List.mem_of_getElem? (i := 14) (by decide +kernel), List.mem_of_getElem? (i := 396) (by decide +kernel), List.mem_of_getElem? (i := 397) (by decide +kernel)⟩
theorem lw_p8 : lw_okq (⟨"StowagePlanModel", "fail", "(I)I"⟩, 13) := ⟨⟨by decide +kernel, by decide +kernel⟩, List.mem_of_getElem? (i := 503) (by decide +kernel), List.mem_of_getElem? (i := 562) (by decide +kernel), List.mem_of_getElem? (i := 563) (by decide +kernel)⟩
theorem lw_p9 : lw_okq (⟨"StowagePlanModel", "isContainer", "(I)Z"⟩, 13) := ⟨⟨by decide +kernel, by decide +kernel⟩, List.mem_of_getElem? (i := 503) (by decide +kernel), List.mem_of_getElem? (i := 573) (by decide +kernel), List.mem_of_getElem? (i := 574) (by decide +kernel)⟩
theorem lw_p10 : lw_okq (⟨"StowagePlanModel", "isOn", "(II)Z"⟩, 13) := ⟨⟨by decide +kernel, by decide +kernel⟩, List.mem_of_getElem? (i := 503) (by decide +kernel), List.mem_of_getElem? (i := 591) (by decide +kernel), List.mem_of_getElem? (i := 592) (by decide +kernel)⟩
theorem lw_p11 : lw_okq (⟨"StowagePlanModel", "state", "(I)I"⟩, 13) := ⟨⟨by decide +kernel, by decide +kernel⟩, List.mem_of_getElem? (i := 503) (by decide +kernel), List.mem_of_getElem? (i := 595) (by decide +kernel), List.mem_of_getElem? (i := 596) (by decide +kernel)⟩
theorem lw_p12 : lw_okq (⟨"StowagePlanModel", "kind", "(I)I"⟩, 13) := ⟨⟨by decide +kernel, by decide +kernel⟩, List.mem_of_getElem? (i := 503) (by decide +kernel), List.mem_of_getElem? (i := 599) (by decide +kernel), List.mem_of_getElem? (i := 600) (by decide +kernel)⟩
theorem lw_p13 : lw_okq (⟨"StowagePlanModel", "isAllowed", "(II)Z"⟩, 13) := ⟨⟨by decide +kernel, by decide +kernel⟩, List.mem_of_getElem? (i := 503) (by decide +kernel), List.mem_of_getElem? (i := 607) (by decide +kernel), List.mem_of_getElem? (i := 608) (by decide +kernel)⟩
theorem lw_p14 : lw_okq (⟨"StowagePlanModel", "high", "(I)I"⟩, 13) := ⟨⟨by decide +kernel, by decide +kernel⟩, List.mem_of_getElem? (i := 503) (by decide +kernel), List.mem_of_getElem? (i := 611) (by decide +kernel), List.mem_of_getElem? (i := 612) (by decide +kernel)⟩
theorem lw_p15 : lw_okq (⟨"StowagePlanModel", "weightOf", "(I)I"⟩, 13) := ⟨⟨by decide +kernel, by decide +kernel⟩, List.mem_of_getElem? (i := 503) (by decide +kernel), List.mem_of_getElem? (i := 615) (by decide +kernel), List.mem_of_getElem? (i := 616) (by decide +kernel)⟩
def lw_privs_1 : List (MethodName × Nat) := [(⟨"StowagePlan", "nextToLoad", "()LStowagePlan$Box;"⟩, 8), (⟨"StowagePlan", "hasChoice", "(LStowagePlan$Box;)Z"⟩, 8), (⟨"StowagePlan", "isLoadable", "(LStowagePlan$Box;LStowagePlan$Stack;)Z"⟩, 8), (⟨"StowagePlan", "isApartFromOthers", "(LStowagePlan$Box;LStowagePlan$Stack;)Z"⟩, 8), (⟨"StowagePlan", "bestStackFor", "(LStowagePlan$Box;)LStowagePlan$Stack;"⟩, 8), (⟨"java/lang/Throwable", "fillInStackTrace", "(I)Ljava/lang/Throwable;"⟩, 6), (⟨"StowagePlan", "boxNumbered", "(I)LStowagePlan$Box;"⟩, 8), (⟨"StowagePlan", "stackAt", "(II)LStowagePlan$Stack;"⟩, 8), (⟨"StowagePlanModel", "fail", "(I)I"⟩, 13), (⟨"StowagePlanModel", "isContainer", "(I)Z"⟩, 13), (⟨"StowagePlanModel", "isOn", "(II)Z"⟩, 13), (⟨"StowagePlanModel", "state", "(I)I"⟩, 13), (⟨"StowagePlanModel", "kind", "(I)I"⟩, 13), (⟨"StowagePlanModel", "isAllowed", "(II)Z"⟩, 13), (⟨"StowagePlanModel", "high", "(I)I"⟩, 13), (⟨"StowagePlanModel", "weightOf", "(I)I"⟩, 13)]
theorem lw_r1 : ∀ q ∈ lw_privs_1, lw_okq q := List.forall_mem_cons.mpr ⟨lw_p0, List.forall_mem_cons.mpr ⟨lw_p1, List.forall_mem_cons.mpr ⟨lw_p2, List.forall_mem_cons.mpr ⟨lw_p3, List.forall_mem_cons.mpr ⟨lw_p4, List.forall_mem_cons.mpr ⟨lw_p5, List.forall_mem_cons.mpr ⟨lw_p6, List.forall_mem_cons.mpr ⟨lw_p7, List.forall_mem_cons.mpr ⟨lw_p8, List.forall_mem_cons.mpr ⟨lw_p9, List.forall_mem_cons.mpr ⟨lw_p10, List.forall_mem_cons.mpr ⟨lw_p11, List.forall_mem_cons.mpr ⟨lw_p12, List.forall_mem_cons.mpr ⟨lw_p13, List.forall_mem_cons.mpr ⟨lw_p14, List.forall_mem_cons.mpr ⟨lw_p15, fun _ h => absurd h List.not_mem_nil⟩⟩⟩⟩⟩⟩⟩⟩⟩⟩⟩⟩⟩⟩⟩⟩
theorem lw_p16 : lw_okq (⟨"StowagePlanModel", "heavy", "(I)I"⟩, 13) := ⟨⟨by decide +kernel, by decide +kernel⟩, List.mem_of_getElem? (i := 503) (by decide +kernel), List.mem_of_getElem? (i := 619) (by decide +kernel), List.mem_of_getElem? (i := 620) (by decide +kernel)⟩
theorem lw_p17 : lw_okq (⟨"StowagePlanModel", "put", "(II)V"⟩, 13) := ⟨⟨by decide +kernel, by decide +kernel⟩, List.mem_of_getElem? (i := 503) (by decide +kernel), List.mem_of_getElem? (i := 631) (by decide +kernel), List.mem_of_getElem? (i := 632) (by decide +kernel)⟩
theorem lw_p18 : lw_okq (⟨"StowagePlanModel", "find", "(II)I"⟩, 13) := ⟨⟨by decide +kernel, by decide +kernel⟩, List.mem_of_getElem? (i := 503) (by decide +kernel), List.mem_of_getElem? (i := 639) (by decide +kernel), List.mem_of_getElem? (i := 640) (by decide +kernel)⟩
theorem lw_p19 : lw_okq (⟨"StowagePlanModel", "planOne", "()Z"⟩, 13) := ⟨⟨by decide +kernel, by decide +kernel⟩, List.mem_of_getElem? (i := 503) (by decide +kernel), List.mem_of_getElem? (i := 647) (by decide +kernel), List.mem_of_getElem? (i := 648) (by decide +kernel)⟩
theorem lw_p20 : lw_okq (⟨"StowagePlanModel", "choicesOf", "(I)I"⟩, 13) := ⟨⟨by decide +kernel, by decide +kernel⟩, List.mem_of_getElem? (i := 503) (by decide +kernel), List.mem_of_getElem? (i := 651) (by decide +kernel), List.mem_of_getElem? (i := 652) (by decide +kernel)⟩
theorem lw_p21 : lw_okq (⟨"StowagePlanModel", "to", "(I)I"⟩, 13) := ⟨⟨by decide +kernel, by decide +kernel⟩, List.mem_of_getElem? (i := 503) (by decide +kernel), List.mem_of_getElem? (i := 655) (by decide +kernel), List.mem_of_getElem? (i := 656) (by decide +kernel)⟩
theorem lw_p22 : lw_okq (⟨"StowagePlanModel", "isBetter", "(III)Z"⟩, 13) := ⟨⟨by decide +kernel, by decide +kernel⟩, List.mem_of_getElem? (i := 503) (by decide +kernel), List.mem_of_getElem? (i := 659) (by decide +kernel), List.mem_of_getElem? (i := 660) (by decide +kernel)⟩
theorem lw_p23 : lw_okq (⟨"StowagePlanModel", "earlier", "(II)I"⟩, 13) := ⟨⟨by decide +kernel, by decide +kernel⟩, List.mem_of_getElem? (i := 503) (by decide +kernel), List.mem_of_getElem? (i := 663) (by decide +kernel), List.mem_of_getElem? (i := 664) (by decide +kernel)⟩
theorem lw_p24 : lw_okq (⟨"StowagePlanModel", "momentOf", "(Z)I"⟩, 13) := ⟨⟨by decide +kernel, by decide +kernel⟩, List.mem_of_getElem? (i := 503) (by decide +kernel), List.mem_of_getElem? (i := 667) (by decide +kernel), List.mem_of_getElem? (i := 668) (by decide +kernel)⟩
theorem lw_p25 : lw_okq (⟨"StowagePlanModel", "steady", "()Z"⟩, 13) := ⟨⟨by decide +kernel, by decide +kernel⟩, List.mem_of_getElem? (i := 503) (by decide +kernel), List.mem_of_getElem? (i := 678) (by decide +kernel), List.mem_of_getElem? (i := 679) (by decide +kernel)⟩
theorem lw_p26 : lw_okq (⟨"StowagePlanModel", "weigh", "()V"⟩, 13) := ⟨⟨by decide +kernel, by decide +kernel⟩, List.mem_of_getElem? (i := 503) (by decide +kernel), List.mem_of_getElem? (i := 682) (by decide +kernel), List.mem_of_getElem? (i := 683) (by decide +kernel)⟩
theorem lw_p27 : lw_okq (⟨"StowagePlanModel", "liftsAt", "(I)I"⟩, 13) := ⟨⟨by decide +kernel, by decide +kernel⟩, List.mem_of_getElem? (i := 503) (by decide +kernel), List.mem_of_getElem? (i := 686) (by decide +kernel), List.mem_of_getElem? (i := 687) (by decide +kernel)⟩
theorem lw_p28 : lw_okq (⟨"StowagePlanModel", "lowest", "(II)I"⟩, 13) := ⟨⟨by decide +kernel, by decide +kernel⟩, List.mem_of_getElem? (i := 503) (by decide +kernel), List.mem_of_getElem? (i := 690) (by decide +kernel), List.mem_of_getElem? (i := 691) (by decide +kernel)⟩
theorem lw_p29 : lw_okq (⟨"StowagePlanModel", "place", "(I)I"⟩, 13) := ⟨⟨by decide +kernel, by decide +kernel⟩, List.mem_of_getElem? (i := 503) (by decide +kernel), List.mem_of_getElem? (i := 709) (by decide +kernel), List.mem_of_getElem? (i := 710) (by decide +kernel)⟩
theorem lw_p30 : lw_okq (⟨"StowagePlanModel", "isBlocked", "(I)Z"⟩, 13) := ⟨⟨by decide +kernel, by decide +kernel⟩, List.mem_of_getElem? (i := 503) (by decide +kernel), List.mem_of_getElem? (i := 737) (by decide +kernel), List.mem_of_getElem? (i := 738) (by decide +kernel)⟩
def lw_privs_2 : List (MethodName × Nat) := [(⟨"StowagePlanModel", "heavy", "(I)I"⟩, 13), (⟨"StowagePlanModel", "put", "(II)V"⟩, 13), (⟨"StowagePlanModel", "find", "(II)I"⟩, 13), (⟨"StowagePlanModel", "planOne", "()Z"⟩, 13), (⟨"StowagePlanModel", "choicesOf", "(I)I"⟩, 13), (⟨"StowagePlanModel", "to", "(I)I"⟩, 13), (⟨"StowagePlanModel", "isBetter", "(III)Z"⟩, 13), (⟨"StowagePlanModel", "earlier", "(II)I"⟩, 13), (⟨"StowagePlanModel", "momentOf", "(Z)I"⟩, 13), (⟨"StowagePlanModel", "steady", "()Z"⟩, 13), (⟨"StowagePlanModel", "weigh", "()V"⟩, 13), (⟨"StowagePlanModel", "liftsAt", "(I)I"⟩, 13), (⟨"StowagePlanModel", "lowest", "(II)I"⟩, 13), (⟨"StowagePlanModel", "place", "(I)I"⟩, 13), (⟨"StowagePlanModel", "isBlocked", "(I)Z"⟩, 13)]
theorem lw_r2 : ∀ q ∈ lw_privs_2, lw_okq q := List.forall_mem_cons.mpr ⟨lw_p16, List.forall_mem_cons.mpr ⟨lw_p17, List.forall_mem_cons.mpr ⟨lw_p18, List.forall_mem_cons.mpr ⟨lw_p19, List.forall_mem_cons.mpr ⟨lw_p20, List.forall_mem_cons.mpr ⟨lw_p21, List.forall_mem_cons.mpr ⟨lw_p22, List.forall_mem_cons.mpr ⟨lw_p23, List.forall_mem_cons.mpr ⟨lw_p24, List.forall_mem_cons.mpr ⟨lw_p25, List.forall_mem_cons.mpr ⟨lw_p26, List.forall_mem_cons.mpr ⟨lw_p27, List.forall_mem_cons.mpr ⟨lw_p28, List.forall_mem_cons.mpr ⟨lw_p29, List.forall_mem_cons.mpr ⟨lw_p30, fun _ h => absurd h List.not_mem_nil⟩⟩⟩⟩⟩⟩⟩⟩⟩⟩⟩⟩⟩⟩⟩
def lw_privs : List (MethodName × Nat) := lw_privs_1 ++ (lw_privs_2)
def lw_tbl : List Cond := k2_sels lw_privs ++ tables_1
theorem lw_privs_ok : ∀ q ∈ lw_privs, lw_okq q := by
  show ∀ q ∈ lw_privs_1 ++ (lw_privs_2), lw_okq q
  exact List.forall_mem_append.mpr ⟨lw_r1, lw_r2⟩
/-- the streams that the claim lets the run draw from -/
abbrev lw_cs : List Choice := [Jvm.Choice.named "NaN.bits"]
theorem lw_bits : nanBits ∈ lw_cs := by first | decide | exact List.mem_cons_self | simp [lw_cs, nanBits]
-- ===== end of PART A; then your names; then what follows =====
end
section
/-! ===== BEGIN words of one list among another's, by their places ===== -/
theorem goodIn_r {big : List Cond} (ws : List Cond) (ps : List Nat) (hp : ws = ps.filterMap (fun i => big[i]?)) (h : ws.all goodWord = true) : GoodIn big ws := by
  intro w hw
  have h1 := List.all_eq_true.mp h w hw
  rw [hp] at hw
  obtain ⟨i, -, hi⟩ := List.mem_filterMap.mp hw
  have hm : w ∈ big := by first | exact List.mem_of_getElem? hi | exact List.getElem?_mem hi
  exact ⟨hm, good_of_word h1⟩
theorem goodIn_app {big a b : List Cond} (ha : GoodIn big a) (hb : GoodIn big b) : GoodIn big (a ++ b) := fun w h => (List.mem_append.mp h).elim (ha w) (hb w)
theorem goodIn_ca {big a b : List Cond} {c : Cond} (ha : GoodIn big (c :: a)) (hb : GoodIn big b) : GoodIn big (c :: (a ++ b)) := fun w h => (List.mem_cons.mp h).elim (fun e => ha w (List.mem_cons.mpr (Or.inl e))) (fun h => (List.mem_append.mp h).elim (fun h => ha w (List.mem_cons.mpr (Or.inr h))) (hb w))
theorem goodIn_sub {big ws : List Cond} (hm : ∀ w ∈ ws, w ∈ big) (h : ws.all goodWord = true) : GoodIn big ws := fun w hw => ⟨hm w hw, good_of_word (List.all_eq_true.mp h w hw)⟩
/-! ===== END ===== -/

/-! ===== BEGIN exceptions that leave a method, and their catching by the caller (launches without stack traces) ===== -/
section VXA
/-! The laws vx_back, vx_callV, vx_callS, vx_callSW, vx_throw0, vx_throwS follow proofs of the library, with one case more: JvmDerived/Free/Laws.lean (Back.of_free), Shelf42/LK1.lean (callV, callS), Shelf/KitTraced.lean (throwNew0V, throwNewS). -/
/-- where a method has thrown q: the class by its name, the cell, what was written, the world -/
def vx_T (XC : String → State → State → Prop) (st : State) (q : Addr) (t : State) (mc ms : Nat) (free : Addr → Prop) : Prop :=
  ∃ (E : String) (ce : Cell) (L : List Loc), XC E st t ∧ t.heap[q]? = some ce ∧ ce.vm = .none ∧ st.vm.findClass E = some ce.cls ∧ st.WarmedH t.vm ∧ st.sameButNew ({ t with vm := st.vm } : State) L mc ms ∧ ∀ z ∈ L, free z.base
def vx_Q (Qc : Array Value → State → Outcome → State → Prop) (XC : String → State → State → Prop) (mc ms : Nat) (free : Addr → Prop) : Array Value → State → Outcome → State → Prop := fun a st o t =>
  (Qc a st o t ∧ ∃ L, FrameEnd st o t L mc ms ∧ ∀ q ∈ L, free q.base) ∨ ∃ q, o = .threw q ∧ vx_T XC st q t mc ms free
/-- a callee that returns or throws -/
def vx_Met (l : Launch) (y : MethodName) (ws : List Cond) (rm : Room) (Pc : Array Value → State → Prop) (Qc : Array Value → State → Outcome → State → Prop) (XC : String → State → State → Prop) (mc ms : Nat) (free : Addr → Prop) : Prop :=
  MetFree l y (headSpec ws rm) Pc (fun _ _ _ _ _ => True) (vx_Q Qc XC mc ms free)
def vx_Post (XC : String → State → State → Prop) (mc ms : Nat) (free : Addr → Prop) : Pt → Array Value → Addr → Pt → Prop := fun A a q B =>
  ∃ (g : JFrame) (mk : MethodId) (t : State) (L : List Loc) (E : String) (ce : Cell), B.U.heap = t.heap ∧ B.U.vm = t.vm ∧ XC E (A.U.calling g mk a) t ∧ t.heap[q]? = some ce ∧ ce.vm = .none ∧ A.U.vm.findClass E = some ce.cls ∧ B.locs = A.locs ++ L ∧ (∀ z ∈ L, free z.base) ∧ B.cells = A.cells + mc ∧ B.slots = A.slots + ms
def vx_Back (l : Launch) (R : Room) (p : Program) (e : Env) (below : List Frame) (s : State) (sargs : Array Value) (y : MethodName) (len W9 : Nat)
    (Pre : Pt → Array Value → Prop) (Post : Pt → Array Value → Option Value → Pt → Prop) (PostX : Pt → Array Value → Addr → Pt → Prop) : Prop :=
  ∀ (m : MethodId) (meth : Method) (c : Code) (A : Pt) (g : JFrame) (ig : Instr) (mk : MethodId) (a : Array Value),
    Stand p l e R s m sargs below meth c A.U A.locs A.cells A.slots → g.method = m → g.locals.size = c.maxLocals → decode c.code g.pc = .ok (ig, len) →
    2 * g.monitorRoom + (g.stack.map fun v => v.category).sum ≤ W9 → A.U.methodNamed? y = some mk → Pre A a →
    (∃ (v : Option Value) (B : Pt), Stand p l e R s m sargs below meth c B.U B.locs B.cells B.slots ∧ Post A a v B ∧
      Steps p.tables e below (doInvoke e (A.U.setTop g) [] mk a).1 (B.U.setTop { g with pc := g.pc + len, stack := v.toList ++ g.stack })) ∨
    (∃ (q : Addr) (B : Pt), Stand p l e R s m sargs below meth c B.U B.locs B.cells B.slots ∧ PostX A a q B ∧
      Steps p.tables e below (doInvoke e (A.U.setTop g) [] mk a).1 ((B.U.setTop g).pushFrame (.throwing q)))
section Payer
variable {l : Launch} {R : Room} {p : Program} {e : Env} {below : List Frame} {s : State} {sargs : Array Value} {y : MethodName} {len W9 : Nat}
theorem vx_back {ws : List Cond} {rm : Room} {Pc : Array Value → State → Prop} {Qc : Array Value → State → Outcome → State → Prop} {XC : String → State → State → Prop} {mc ms : Nat} {free : Addr → Prop} {bytes : ByteArray} {maxL : Nat} {ret : Option FieldType}
    (hM : vx_Met l y ws rm Pc Qc XC mc ms free) (hblind : FrameBlind Pc) (hrc : rm.cells = mc) (hrs : rm.slots = ms)
    (hframes : rm.frames + 1 ≤ R.frames) (hlocals : W9 + (maxL + 11) + rm.locals ≤ R.locals)
    (hws : ∀ w ∈ ws, ∀ a' U, s.WarmedH U.vm → w.before a' U = true) (hcode : Cond.code y bytes maxL ret ∈ ws) (hinit : ∀ a' U, s.WarmedH U.vm → (Cond.initialized y.cls).before a' U = true) :
    vx_Back l R p e below s sargs y len W9 (PreOf R mc ms Pc) (PostOf Qc mc ms free) (vx_Post XC mc ms free) := by
  intro m meth c A g ig mk a X hg hsize hdg hW hn hp
  have h1 : (headSpec ws rm).pre.before a A.U = true := atoms_intro fun w hw => hws w hw _ _ X.warmed
  have h2 : (Cond.code y bytes maxL ret).before a A.U = true := hws _ hcode _ _ X.warmed
  have h3 : (Cond.initialized y.cls).before a A.U = true := hinit _ _ X.warmed
  have h4 : A.cells + (headSpec ws rm).room.cells ≤ R.cells := by rw [show (headSpec ws rm).room.cells = mc from hrc]; exact hp.1
  have h5 : A.slots + (headSpec ws rm).room.slots ≤ R.slots := by rw [show (headSpec ws rm).room.slots = ms from hrs]; exact hp.2.1
  have hPc : Pc a (A.U.calling g mk a) := hblind _ _ _ _ hp.2.2
  obtain ⟨U, Ls, c0, s0⟩ := A
  dsimp only [Pt.U, Pt.locs, Pt.cells, Pt.slots] at h1 h2 h3 h4 h5 X hn hPc ⊢
  obtain ⟨methY, cY, hmY, hcY, -, hlY, -, -, -, -⟩ := Cond.code_spec hn h2
  obtain ⟨kY, hkY, -⟩ := className_of_methodNamed hn
  have hinitY : kY.init = .initialized := Cond.initialized_spec (findClass_of_methodNamed hn) hkY h3
  have h : At U g.method c below := by rw [hg]; exact X.here
  have hlocals9 : W9 + (maxL + 11) + (headSpec ws rm).room.locals ≤ R.locals := hlocals
  have happ : (headSpec ws rm).appliesLoose y e.platform (U.calling g mk a) = true :=
    Spec.appliesLoose_calling (g := g) h hdg hn hkY hinitY
      (X.room_calling (g := g) (R' := (headSpec ws rm).room) hsize hmY hcY hframes (by rw [hlY]; omega) h4 h5) h1
  obtain ⟨mid, hmid⟩ := h.above
  have hfr : (U.setTop g).frames = (.java g :: mid) ++ below := by rw [State.frames_setTop' g h.top, hmid]; rfl
  obtain ⟨o, s₂, hsteps, -, hend, hq⟩ := Steps.callFree hM p X.admits X.cas X.clock (acts := []) hfr happ hPc trivial
  have hq' : vx_Q Qc XC mc ms free a (U.calling g mk a) o s₂ := hq
  rw [State.frames_setTop' g h.top] at hend
  obtain ⟨g₀, hg0⟩ := Option.isSome_iff_exists.mp h.top
  obtain ⟨r, hr⟩ := State.topJava?_eq_some.mp hg0
  have hr' : (({ U with heap := s₂.heap, slotsUsed := s₂.slotsUsed } : State).setVm s₂.vm).frames = .java g₀ :: r := hr
  rcases hq' with ⟨hqc, L, hfe, hL⟩ | ⟨q, rfl, E, ce, L, hx, hce, hcv, hcl, hW₂, hsm, hL⟩
  · obtain ⟨⟨v, rfl⟩, hW₂, e2, q2, q3, q4, q5, q6⟩ := id hfe
    have e3 : s₂ = ({ (U.calling g mk a).setFrames s₂.frames with heap := s₂.heap, slotsUsed := s₂.slotsUsed } : State).setVm s₂.vm := by
      have : s₂ = ({ s₂ with vm := (U.calling g mk a).vm } : State).setVm s₂.vm := rfl
      rw [e2] at this
      exact this
    obtain ⟨c₂, i₂, len₂, hc₂, hd₂, hf₂⟩ := hend
    have hW' : U.WarmedH s₂.vm := hW₂
    have hcc : c₂ = c := by
      have h1 : s₂.code? g.method = U.code? g.method := by
        rw [State.code?_eq, State.code?_eq, hW'.alike.method?]
      exact Option.some.inj (hc₂.symm.trans (h1.trans h.code))
    subst hcc
    have hlen : len₂ = len := by rw [hdg] at hd₂; cases hd₂; rfl
    subst hlen
    have hs₂ : s₂ = (({ U with heap := s₂.heap, slotsUsed := s₂.slotsUsed } : State).setVm s₂.vm).setTop { g with pc := g.pc + len₂, stack := v.toList ++ g.stack } := by
      refine e3.trans ?_
      rw [hf₂, State.calling_eq h.top, State.setFrames_setFrames, State.setTop_of_frames _ hr', hr]
      rfl
    have hsame : U.sameButNew ({ U with heap := s₂.heap, slotsUsed := s₂.slotsUsed } : State) L mc ms := by
      refine ⟨?_, q2, q3, q4, q5, q6⟩
      obtain ⟨t, ht, -⟩ := State.frames_cons hr
      show ({ U with heap := s₂.heap, slotsUsed := s₂.slotsUsed } : State) = { U.setFrames U.frames with heap := s₂.heap, slotsUsed := s₂.slotsUsed }
      rw [State.setFrames_self ht]
    subst hg
    refine Or.inl ⟨v, ⟨(({ U with heap := s₂.heap, slotsUsed := s₂.slotsUsed } : State).setVm s₂.vm), Ls ++ L, c0 + mc, s0 + ms⟩,
      ⟨X.admits, X.cas, X.clock, X.frames, X.room, X.hears, X.method, X.code, (X.here.setHeapUsed s₂.heap s₂.slotsUsed).setVm hW'.alike, X.tail, State.WarmedH.trans X.warmed hW', X.limits, X.bytes, X.same.trans (hsame.setVm s.vm)⟩,
      ⟨g, mk, s₂, L, rfl, rfl, hqc, rfl, hL, rfl, rfl⟩, ?_⟩
    show Steps p.tables e below _ ((({ U with heap := s₂.heap, slotsUsed := s₂.slotsUsed } : State).setVm s₂.vm).setTop { g with pc := g.pc + len₂, stack := v.toList ++ g.stack })
    rw [← hs₂]
    exact hsteps
  · obtain ⟨e2, q2, q3, q4, q5, q6⟩ := id hsm
    have e3 : s₂ = ({ (U.calling g mk a).setFrames s₂.frames with heap := s₂.heap, slotsUsed := s₂.slotsUsed } : State).setVm s₂.vm := by
      have : s₂ = ({ s₂ with vm := (U.calling g mk a).vm } : State).setVm s₂.vm := rfl
      rw [e2] at this
      exact this
    have hf₂ : s₂.frames = .throwing q :: .java g :: U.frames.tail := hend
    have hW' : U.WarmedH s₂.vm := hW₂
    have hs₂ : s₂ = ((({ U with heap := s₂.heap, slotsUsed := s₂.slotsUsed } : State).setVm s₂.vm).setTop g).pushFrame (.throwing q) := by
      refine e3.trans ?_
      rw [hf₂, State.calling_eq h.top, State.setFrames_setFrames, State.pushFrame, State.frames_setTop _ hr', State.setTop_of_frames _ hr', State.setFrames_setFrames, hr]
      rfl
    have hsame : U.sameButNew ({ U with heap := s₂.heap, slotsUsed := s₂.slotsUsed } : State) L mc ms := by
      refine ⟨?_, q2, q3, q4, q5, q6⟩
      obtain ⟨t, ht, -⟩ := State.frames_cons hr
      show ({ U with heap := s₂.heap, slotsUsed := s₂.slotsUsed } : State) = { U.setFrames U.frames with heap := s₂.heap, slotsUsed := s₂.slotsUsed }
      rw [State.setFrames_self ht]
    subst hg
    refine Or.inr ⟨q, ⟨(({ U with heap := s₂.heap, slotsUsed := s₂.slotsUsed } : State).setVm s₂.vm), Ls ++ L, c0 + mc, s0 + ms⟩,
      ⟨X.admits, X.cas, X.clock, X.frames, X.room, X.hears, X.method, X.code, (X.here.setHeapUsed s₂.heap s₂.slotsUsed).setVm hW'.alike, X.tail, State.WarmedH.trans X.warmed hW', X.limits, X.bytes, X.same.trans (hsame.setVm s.vm)⟩,
      ⟨g, mk, s₂, L, E, ce, rfl, rfl, hx, hce, hcv, hcl, rfl, hL, rfl, rfl⟩, ?_⟩
    show Steps p.tables e below _ (((({ U with heap := s₂.heap, slotsUsed := s₂.slotsUsed } : State).setVm s₂.vm).setTop g).pushFrame (.throwing q))
    rw [← hs₂]
    exact hsteps
end Payer
section Calls
variable {p : Program} {l : Launch} {e : Env} {R : Room} {s : State} {m : MethodId} {args : Array Value} {below : List Frame} {meth : Method} {c : Code} {T : State} {locs : List Loc} {cells slots : Nat}
theorem vx_callV (X : Stand p l e R s m args below meth c T locs cells slots) (hexec : p.tables.exec = Jvm.exec) {own C : String} {index : Nat} {y : MethodName} {bytes : ByteArray} {maxL : Nat} {ret : Option FieldType}
    (hown : s.vm.findClass own = some m.cls) (hlink : (Cond.methodLink own index y).before args s = true) (hinst : (Cond.instanceMethod y).before args s = true) (hsel : (Cond.selects C y y).before args s = true)
    (hcode : (Cond.code y bytes maxL ret).before args s = true) (hy : y.cls ≠ "java/lang/invoke/MethodHandle" ∧ y.cls ≠ "java/lang/invoke/VarHandle")
    {W9 : Nat} {Pre : Pt → Array Value → Prop} {Post : Pt → Array Value → Option Value → Pt → Prop} {PostX : Pt → Array Value → Addr → Pt → Prop} (hK : vx_Back l R p e below s args y 3 W9 Pre Post PostX)
    {b : Addr} {cellB : Cell} (hcell : T.heap[b]? = some cellB) (hobj : cellB.vm.isStatics = false) (hcls : s.vm.findClass C = some cellB.cls)
    {g : JFrame} (hg : g.method = m) (hsize : g.locals.size = c.maxLocals) {argsL rest : List Value} (hlen : ∀ sig, parseMethodDescriptor y.desc = some sig → argsL.length = sig.parameters.length)
    (hstack : g.stack = argsL.reverse ++ .ref b :: rest) (hW : 2 * g.monitorRoom + (rest.map fun v => v.category).sum ≤ W9) (hdg : decode c.code g.pc = .ok (.invokevirtual index, 3))
    (hpre : ∀ vm₁, s.WarmedH vm₁ → Pre ⟨T.setVm vm₁, locs, cells, slots⟩ (Value.ref b :: argsL).toArray) :
    (∃ (v : Option Value) (vm₁ : Vm) (B : Pt), s.WarmedH vm₁ ∧ Stand p l e R s m args below meth c B.U B.locs B.cells B.slots ∧ Post ⟨T.setVm vm₁, locs, cells, slots⟩ (Value.ref b :: argsL).toArray v B ∧
      ∀ target, Steps p.tables e below (B.U.setTop { g with pc := g.pc + 3, stack := v.toList ++ rest }) target → Steps p.tables e below (T.setTop g) target) ∨
    (∃ (q : Addr) (vm₁ : Vm) (B : Pt), s.WarmedH vm₁ ∧ Stand p l e R s m args below meth c B.U B.locs B.cells B.slots ∧ PostX ⟨T.setVm vm₁, locs, cells, slots⟩ (Value.ref b :: argsL).toArray q B ∧
      Steps p.tables e below (T.setTop g) ((B.U.setTop { g with stack := rest }).pushFrame (.throwing q))) := by
  obtain ⟨mk, methM, hnamed, hmethM, hstM, habM⟩ := Cond.instanceMethod_spec hinst
  obtain ⟨methM', cM, hmethM', -, -, -, -, -, -, hsigM⟩ := Cond.code_spec hnamed hcode
  cases hmethM.symm.trans hmethM'
  obtain ⟨c2, r2, m2, q1, q2, q3, q4, kP, hkP, hkPi⟩ := Cond.selects_spec hsel
  cases hcls.symm.trans q1
  cases (State.methodFound?_of_named hnamed hy).symm.trans q2
  cases hnamed.symm.trans q3
  have hselP : selectMethod e.platform s.vm cellB.cls mk = .method mk := by rw [Launch.admits_selectMethod X.admits]; exact q4
  obtain ⟨vm₁, X₁, hstep₁⟩ := X.invokevirtual hexec hown hlink hnamed hmethM hstM hkP hkPi hy (a := b) (cell := cellB) hcell
    (fun z h => by rw [h] at hobj; cases hobj) hselP hmethM habM hkP hkPi (g := g) hg (argsL := argsL) (rest := rest) (hlen _ hsigM) hstack hdg
  rcases hK m meth c ⟨T.setVm vm₁, locs, cells, slots⟩ { g with stack := rest } (.invokevirtual index) mk (Value.ref b :: argsL).toArray X₁ hg hsize hdg hW (X₁.named hnamed) (hpre vm₁ X₁.warmed) with ⟨v, B, X', hpost, hsteps⟩ | ⟨q, B, X', hpost, hsteps⟩
  · exact Or.inl ⟨v, vm₁, B, X₁.warmed, X', hpost, fun target h => hstep₁ _ fun acts => by rw [doInvoke_state]; exact hsteps.trans h⟩
  · exact Or.inr ⟨q, vm₁, B, X₁.warmed, X', hpost, hstep₁ _ fun acts => by rw [doInvoke_state]; exact hsteps⟩
theorem vx_callS (X : Stand p l e R s m args below meth c T locs cells slots) (hexec : p.tables.exec = Jvm.exec) {own : String} {index : Nat} {y : MethodName} {bytes : ByteArray} {maxL : Nat} {ret : Option FieldType}
    (hown : s.vm.findClass own = some m.cls) (hlink : (Cond.methodLink own index y).before args s = true) (hstat : (Cond.static y).before args s = true) (hinit : (Cond.initialized y.cls).before args s = true)
    (hcode : (Cond.code y bytes maxL ret).before args s = true) (hy : y.cls ≠ "java/lang/invoke/MethodHandle" ∧ y.cls ≠ "java/lang/invoke/VarHandle")
    {W9 : Nat} {Pre : Pt → Array Value → Prop} {Post : Pt → Array Value → Option Value → Pt → Prop} {PostX : Pt → Array Value → Addr → Pt → Prop} (hK : vx_Back l R p e below s args y 3 W9 Pre Post PostX)
    {g : JFrame} (hg : g.method = m) (hsize : g.locals.size = c.maxLocals) {argsL rest : List Value} (hlen : ∀ sig, parseMethodDescriptor y.desc = some sig → argsL.length = sig.parameters.length)
    (hstack : g.stack = argsL.reverse ++ rest) (hW : 2 * g.monitorRoom + (rest.map fun v => v.category).sum ≤ W9) (hdg : decode c.code g.pc = .ok (.invokestatic index, 3))
    (hpre : ∀ vm₁, s.WarmedH vm₁ → Pre ⟨T.setVm vm₁, locs, cells, slots⟩ argsL.toArray) :
    (∃ (v : Option Value) (vm₁ : Vm) (B : Pt), s.WarmedH vm₁ ∧ Stand p l e R s m args below meth c B.U B.locs B.cells B.slots ∧ Post ⟨T.setVm vm₁, locs, cells, slots⟩ argsL.toArray v B ∧
      ∀ target, Steps p.tables e below (B.U.setTop { g with pc := g.pc + 3, stack := v.toList ++ rest }) target → Steps p.tables e below (T.setTop g) target) ∨
    (∃ (q : Addr) (vm₁ : Vm) (B : Pt), s.WarmedH vm₁ ∧ Stand p l e R s m args below meth c B.U B.locs B.cells B.slots ∧ PostX ⟨T.setVm vm₁, locs, cells, slots⟩ argsL.toArray q B ∧
      Steps p.tables e below (T.setTop g) ((B.U.setTop { g with stack := rest }).pushFrame (.throwing q))) := by
  obtain ⟨mk, hnamed⟩ := Cond.code_named hcode
  obtain ⟨methM, cM, hmethM, -, -, -, -, -, -, hsigM⟩ := Cond.code_spec hnamed hcode
  have hstatic : methM.isStatic = true := Cond.static_spec hnamed hmethM hstat
  obtain ⟨kP, hkP, -⟩ := className_of_methodNamed hnamed
  have hinitP : kP.init = .initialized := Cond.initialized_spec (findClass_of_methodNamed hnamed) hkP hinit
  obtain ⟨vm₁, X₁, hstep₁⟩ := X.invokestatic hexec hown hlink hnamed hmethM hstatic hkP hinitP hy (g := g) hg (argsL := argsL) (rest := rest) (hlen _ hsigM) hstack hdg
  rcases hK m meth c ⟨T.setVm vm₁, locs, cells, slots⟩ { g with stack := rest } (.invokestatic index) mk argsL.toArray X₁ hg hsize hdg hW (X₁.named hnamed) (hpre vm₁ X₁.warmed) with ⟨v, B, X', hpost, hsteps⟩ | ⟨q, B, X', hpost, hsteps⟩
  · exact Or.inl ⟨v, vm₁, B, X₁.warmed, X', hpost, fun target h => hstep₁ _ fun acts => by rw [doInvoke_state]; exact hsteps.trans h⟩
  · exact Or.inr ⟨q, vm₁, B, X₁.warmed, X', hpost, hstep₁ _ fun acts => by rw [doInvoke_state]; exact hsteps⟩
end Calls
theorem vx_cls {s : State} {T : State} {vm₁ : Vm} {E : String} {k : ClassId} (hW : s.WarmedH vm₁) (h : (T.setVm vm₁).vm.findClass E = some k) : s.vm.findClass E = some k := by
  have h1 : vm₁.findClass E = some k := h
  rw [hW.alike.findClass] at h1
  exact h1
/-- the method's frame g, with q thrown over it -/
def vx_W (p : Program) (l : Launch) (e : Env) (R : Room) (s : State) (m : MethodId) (args : Array Value) (below : List Frame) (meth : Method) (c : Code) (H : Heap) (locs : List Loc) (cells slots : Nat) (Q : State → Prop) (g : JFrame) (q : Addr) : Prop :=
  ∀ T : State, T.heap = H → Stand p l e R s m args below meth c T locs cells slots → ∃ t, Steps p.tables e below ((T.setTop g).pushFrame (.throwing q)) t ∧ Q t
def vx_Run (p : Program) (l : Launch) (e : Env) (R : Room) (s : State) (m : MethodId) (args : Array Value) (below : List Frame) (meth : Method) (c : Code) (H : Heap) (locs : List Loc) (cells slots mc ms : Nat) (g : JFrame) (rest : List Value) (Qa : State → Outcome → State → Prop) (XC : String → State → State → Prop) (free : Addr → Prop) : Prop :=
  ∀ T : State, T.heap = H → Stand p l e R s m args below meth c T locs cells slots →
    (∃ (v : Option Value) (st₀ t T' : State) (L : List Loc), st₀.heap = H ∧ Stand p l e R s m args below meth c T' (locs ++ L) (cells + mc) (slots + ms) ∧ (∀ q ∈ L, free q.base) ∧ T'.heap = t.heap ∧ T'.vm = t.vm ∧ Qa st₀ (.returned v) t ∧
      Goes p e below T g T' { g with pc := g.pc + 3, stack := v.toList ++ rest }) ∨
    (∃ (q : Addr) (st₀ t T' : State) (L : List Loc) (E : String) (ce : Cell), st₀.heap = H ∧ Stand p l e R s m args below meth c T' (locs ++ L) (cells + mc) (slots + ms) ∧ (∀ z ∈ L, free z.base) ∧ T'.heap = t.heap ∧ T'.vm = t.vm ∧ XC E st₀ t ∧ t.heap[q]? = some ce ∧ ce.vm = .none ∧ s.vm.findClass E = some ce.cls ∧
      Steps p.tables e below (T.setTop g) ((T'.setTop { g with stack := rest }).pushFrame (.throwing q)))
def vx_X {S : Type} (px : S → Prop) (B : String → S → State → Prop) (A : Nat → Prop) : String → State → State → Prop := fun E st t => ∃ u : S, px u ∧ B E u t ∧ va_F A st t
section Runs
variable {p : Program} {l : Launch} {e : Env} {R : Room} {s : State} {m : MethodId} {args : Array Value} {below : List Frame} {meth : Method} {c : Code} {H : Heap} {locs : List Loc} {cells slots : Nat}
variable {y : MethodName} {bytes cc : ByteArray} {maxL nL mc ms n index : Nat} {ret : Option FieldType} {ws : List Cond} {rm : Room} {Pc : Array Value → State → Prop} {Qc : Array Value → State → Outcome → State → Prop} {XC : String → State → State → Prop} {free : Addr → Prop} {Ts : List Cond} {own C : String} {b : Addr} {As rest : List Value} {g : JFrame}
theorem vx_callBack (cb : CallB R s args own index y bytes maxL ret ws rm mc ms n) (hM : vx_Met l y ws rm Pc Qc XC mc ms free) (hbl : FrameBlind Pc) : vx_Back l R p e below s args y 3 8 (PreOf R mc ms Pc) (PostOf Qc mc ms free) (vx_Post XC mc ms free) := by
  obtain ⟨hrc, hrs, hfr, hlo, hws, hcw, -, hini, -⟩ := cb
  exact vx_back (bytes := bytes) (maxL := maxL) (ret := ret) hM hbl hrc hrs hfr hlo hws hcw (fun a' U hW => word_at hW (Or.inl (by first | rfl | simp [Cond.onTables, Cond.keeps, Cond.steady])) hini)
theorem vx_runV (S : CallFix p m c cc nL s args Ts own) (hM : vx_Met l y ws rm Pc Qc XC mc ms free) (cw : CallW R s args own C index y bytes maxL ret ws rm mc ms n) (hp : PreV s H C b Pc As)
    (hg : g.method = m) (hn : As.length = n) (hsize : g.locals.size = nL) (hstack : g.stack = As.reverse ++ .ref b :: rest) (hW : 2 * g.monitorRoom + (rest.map fun v => v.category).sum ≤ 8) (hdg : decode cc g.pc = .ok (.invokevirtual index, 3)) (hf : cells + mc ≤ R.cells ∧ slots + ms ≤ R.slots) :
    vx_Run p l e R s m args below meth c H locs cells slots mc ms g rest (Qc (Value.ref b :: As).toArray) XC free := by
  have hK : vx_Back l R p e below s args y 3 8 (PreOf R mc ms Pc) (PostOf Qc mc ms free) (vx_Post XC mc ms free) := vx_callBack cw.1 hM hp.1
  obtain ⟨⟨-, -, -, -, -, -, hcode, -, hy, hlen, hl⟩, hin, hse⟩ := cw
  obtain ⟨hx, hb, hml, ho, -⟩ := S
  obtain ⟨-, ⟨cellB, hcB, hoB, hclB⟩, hPc⟩ := hp
  intro T hT X
  rcases vx_callV X hx (C := C) (bytes := bytes) (maxL := maxL) (ret := ret) ho hl hin hse hcode hy hK (by rw [hT]; exact hcB) hoB hclB hg (hsize.trans hml.symm) (argsL := As) (rest := rest) (fun sig h => hn.trans (hlen sig h)) hstack hW (by rw [hb]; exact hdg)
    (fun vm₁ hW₁ => ⟨hf.1, hf.2, hPc (T.setVm vm₁) hT hW₁⟩) with ⟨v, vm₁, ⟨U', l2, c2, s2⟩, hW₁, X', ⟨g', mk, t, L, e1, e2, hq, h1, hL, h2, h3⟩, st⟩ | ⟨q, vm₁, ⟨U', l2, c2, s2⟩, hW₁, X', ⟨g', mk, t, L, E, ce, e1, e2, hq, hce, hcv, hcl, h1, hL, h2, h3⟩, st⟩
  · dsimp only [Pt.U, Pt.locs, Pt.cells, Pt.slots] at X' e1 e2 h1 h2 h3 st
    subst h1; subst h2; subst h3
    exact Or.inl ⟨v, (T.setVm vm₁).calling g' mk (Value.ref b :: As).toArray, t, U', L, hT, X', hL, e1, e2, hq, st⟩
  · dsimp only [Pt.U, Pt.locs, Pt.cells, Pt.slots] at X' e1 e2 h1 h2 h3 st hcl
    subst h1; subst h2; subst h3
    exact Or.inr ⟨q, (T.setVm vm₁).calling g' mk (Value.ref b :: As).toArray, t, U', L, E, ce, hT, X', hL, e1, e2, hq, hce, hcv, vx_cls hW₁ hcl, st⟩
theorem vx_runS (S : CallFix p m c cc nL s args Ts own) (hM : vx_Met l y ws rm Pc Qc XC mc ms free) (cw : CallB R s args own index y bytes maxL ret ws rm mc ms n ∧ (Cond.static y).before args s = true) (hp : PreS s H Pc As)
    (hg : g.method = m) (hn : As.length = n) (hsize : g.locals.size = nL) (hstack : g.stack = As.reverse ++ rest) (hW : 2 * g.monitorRoom + (rest.map fun v => v.category).sum ≤ 8) (hdg : decode cc g.pc = .ok (.invokestatic index, 3)) (hf : cells + mc ≤ R.cells ∧ slots + ms ≤ R.slots) :
    vx_Run p l e R s m args below meth c H locs cells slots mc ms g rest (Qc As.toArray) XC free := by
  have hK : vx_Back l R p e below s args y 3 8 (PreOf R mc ms Pc) (PostOf Qc mc ms free) (vx_Post XC mc ms free) := vx_callBack cw.1 hM hp.1
  obtain ⟨⟨-, -, -, -, -, -, hcode, hini, hy, hlen, hl⟩, hstt⟩ := cw
  obtain ⟨hx, hb, hml, ho, -⟩ := S
  intro T hT X
  rcases vx_callS X hx (bytes := bytes) (maxL := maxL) (ret := ret) ho hl hstt hini hcode hy hK hg (hsize.trans hml.symm) (argsL := As) (rest := rest) (fun sig h => hn.trans (hlen sig h)) hstack hW (by rw [hb]; exact hdg)
    (fun vm₁ hW₁ => ⟨hf.1, hf.2, hp.2 (T.setVm vm₁) hT hW₁⟩) with ⟨v, vm₁, ⟨U', l2, c2, s2⟩, hW₁, X', ⟨g', mk, t, L, e1, e2, hq, h1, hL, h2, h3⟩, st⟩ | ⟨q, vm₁, ⟨U', l2, c2, s2⟩, hW₁, X', ⟨g', mk, t, L, E, ce, e1, e2, hq, hce, hcv, hcl, h1, hL, h2, h3⟩, st⟩
  · dsimp only [Pt.U, Pt.locs, Pt.cells, Pt.slots] at X' e1 e2 h1 h2 h3 st
    subst h1; subst h2; subst h3
    exact Or.inl ⟨v, (T.setVm vm₁).calling g' mk As.toArray, t, U', L, hT, X', hL, e1, e2, hq, st⟩
  · dsimp only [Pt.U, Pt.locs, Pt.cells, Pt.slots] at X' e1 e2 h1 h2 h3 st hcl
    subst h1; subst h2; subst h3
    exact Or.inr ⟨q, (T.setVm vm₁).calling g' mk As.toArray, t, U', L, E, ce, hT, X', hL, e1, e2, hq, hce, hcv, vx_cls hW₁ hcl, st⟩
end Runs
section Rows
variable {p : Program} {l : Launch} {e : Env} {R : Room} {s : State} {m : MethodId} {args : Array Value} {below : List Frame} {meth : Method} {c : Code} {H : Heap} {locs : List Loc} {cells slots : Nat} {Q : State → Prop}
variable {mc ms : Nat} {free : Addr → Prop} {A0 A1 : Nat → Prop} {H0 : Heap} {a : Array Value} {pc : Nat} {ls : Array Slot} {st0 rest : List Value}
theorem vx_keep {st₀ t T' : State} {L : List Loc} (h0 : st₀.heap = H) (e1 : T'.heap = t.heap) (hS : va_S A0 H0 H locs) (hA : ∀ q, q < H.size → A1 q → A0 q) (hf : ∀ q, free q → A0 q) (hL : ∀ q ∈ L, free q.base) (hF : va_F A1 st₀ t) :
    H.size ≤ T'.heap.size ∧ (∀ q : Nat, q < H.size → ¬ A1 q → T'.heap[q]? = H[q]?) ∧ va_S A0 H0 T'.heap (locs ++ L) := by
  obtain ⟨hz, hk⟩ := hF
  rw [h0] at hz hk
  exact ⟨by rw [e1]; exact hz, fun q h1 h2 => by rw [e1]; exact hk q h1 h2,
    ⟨Nat.le_trans hS.1 (by rw [e1]; exact hz), fun q h1 h2 => by rw [e1, hk q (Nat.lt_of_lt_of_le h1 hS.1) (fun z => h2 (hA q (Nat.lt_of_lt_of_le h1 hS.1) z))]; exact hS.2.1 q h1 h2, fun q hq => by
      rcases List.mem_append.mp hq with h | h
      · exact hS.2.2 q h
      · exact hf _ (hL q h)⟩⟩
theorem vx_calli {S SX : Type} {post : Int32 → S → Prop} {px : SX → Prop} {B : S → State → Prop} {BX : String → SX → State → Prop} {AX : Nat → Prop} (hr : vx_Run p l e R s m args below meth c H locs cells slots mc ms (F0 m pc ls st0) rest (va_Qi post B A1 a) (vx_X px BX AX) free) (hS : va_S A0 H0 H locs) (hA : ∀ q, q < H.size → A1 q → A0 q) (hf : ∀ q, free q → A0 q) (hAX : ∀ q, q < H.size → AX q → A0 q)
    (kx : ∀ (E : String) (ce : Cell) (q9 : Addr) (u : SX) (t : State) (H1 : Heap) (locs1 : List Loc), t.heap = H1 → s.vm.Alike t.vm → px u → BX E u t → H.size ≤ H1.size → (∀ q : Nat, q < H.size → ¬ AX q → H1[q]? = H[q]?) → va_S A0 H0 H1 locs1 → H1[q9]? = some ce → ce.vm = .none → s.vm.findClass E = some ce.cls → vx_W p l e R s m args below meth c H1 locs1 (cells + mc) (slots + ms) Q (F0 m pc ls rest) q9)
    (kk : ∀ (r : Int32) (u : S) (t : State) (H1 : Heap) (locs1 : List Loc), t.heap = H1 → s.vm.Alike t.vm → post r u → B u t → H.size ≤ H1.size → (∀ q : Nat, q < H.size → ¬ A1 q → H1[q]? = H[q]?) → va_S A0 H0 H1 locs1 → W p l e R s m args below meth c H1 locs1 (cells + mc) (slots + ms) Q (F0 m (pc + 3) ls (.int r :: rest))) : W p l e R s m args below meth c H locs cells slots Q (F0 m pc ls st0) := by
  intro T hT X
  rcases hr T hT X with ⟨v, st₀, t, T', L, h0, X', hL, e1, e2, ⟨⟨r, u, hv, hp, hb⟩, hF⟩, st⟩ | ⟨q, st₀, t, T', L, E, ce, h0, X', hL, e1, e2, ⟨u, hp, hb, hF⟩, hce, hcv, hcl, st⟩
  · cases hv
    obtain ⟨k1, k2, k3⟩ := vx_keep h0 e1 hS hA hf hL hF
    obtain ⟨t2, a1, b1⟩ := kk r u t T'.heap (locs ++ L) e1.symm (by rw [← e2]; exact X'.warmed.alike) hp hb k1 k2 k3 T' rfl X'
    exact ⟨t2, st t2 a1, b1⟩
  · obtain ⟨k1, k2, k3⟩ := vx_keep h0 e1 hS hAX hf hL hF
    obtain ⟨t2, a1, b1⟩ := kx E ce q u t T'.heap (locs ++ L) e1.symm (by rw [← e2]; exact X'.warmed.alike) hp hb k1 k2 k3 (by rw [e1]; exact hce) hcv hcl T' rfl X'
    exact ⟨t2, st.trans a1, b1⟩
theorem vx_calll {S SX : Type} {post : Int64 → S → Prop} {px : SX → Prop} {B : S → State → Prop} {BX : String → SX → State → Prop} {AX : Nat → Prop} (hr : vx_Run p l e R s m args below meth c H locs cells slots mc ms (F0 m pc ls st0) rest (va_Ql post B A1 a) (vx_X px BX AX) free) (hS : va_S A0 H0 H locs) (hA : ∀ q, q < H.size → A1 q → A0 q) (hf : ∀ q, free q → A0 q) (hAX : ∀ q, q < H.size → AX q → A0 q)
    (kx : ∀ (E : String) (ce : Cell) (q9 : Addr) (u : SX) (t : State) (H1 : Heap) (locs1 : List Loc), t.heap = H1 → s.vm.Alike t.vm → px u → BX E u t → H.size ≤ H1.size → (∀ q : Nat, q < H.size → ¬ AX q → H1[q]? = H[q]?) → va_S A0 H0 H1 locs1 → H1[q9]? = some ce → ce.vm = .none → s.vm.findClass E = some ce.cls → vx_W p l e R s m args below meth c H1 locs1 (cells + mc) (slots + ms) Q (F0 m pc ls rest) q9)
    (kk : ∀ (r : Int64) (u : S) (t : State) (H1 : Heap) (locs1 : List Loc), t.heap = H1 → s.vm.Alike t.vm → post r u → B u t → H.size ≤ H1.size → (∀ q : Nat, q < H.size → ¬ A1 q → H1[q]? = H[q]?) → va_S A0 H0 H1 locs1 → W p l e R s m args below meth c H1 locs1 (cells + mc) (slots + ms) Q (F0 m (pc + 3) ls (.long r :: rest))) : W p l e R s m args below meth c H locs cells slots Q (F0 m pc ls st0) := by
  intro T hT X
  rcases hr T hT X with ⟨v, st₀, t, T', L, h0, X', hL, e1, e2, ⟨⟨r, u, hv, hp, hb⟩, hF⟩, st⟩ | ⟨q, st₀, t, T', L, E, ce, h0, X', hL, e1, e2, ⟨u, hp, hb, hF⟩, hce, hcv, hcl, st⟩
  · cases hv
    obtain ⟨k1, k2, k3⟩ := vx_keep h0 e1 hS hA hf hL hF
    obtain ⟨t2, a1, b1⟩ := kk r u t T'.heap (locs ++ L) e1.symm (by rw [← e2]; exact X'.warmed.alike) hp hb k1 k2 k3 T' rfl X'
    exact ⟨t2, st t2 a1, b1⟩
  · obtain ⟨k1, k2, k3⟩ := vx_keep h0 e1 hS hAX hf hL hF
    obtain ⟨t2, a1, b1⟩ := kx E ce q u t T'.heap (locs ++ L) e1.symm (by rw [← e2]; exact X'.warmed.alike) hp hb k1 k2 k3 (by rw [e1]; exact hce) hcv hcl T' rfl X'
    exact ⟨t2, st.trans a1, b1⟩
theorem vx_callf {S SX : Type} {post : UInt32 → S → Prop} {px : SX → Prop} {B : S → State → Prop} {BX : String → SX → State → Prop} {AX : Nat → Prop} (hr : vx_Run p l e R s m args below meth c H locs cells slots mc ms (F0 m pc ls st0) rest (va_Qf post B A1 a) (vx_X px BX AX) free) (hS : va_S A0 H0 H locs) (hA : ∀ q, q < H.size → A1 q → A0 q) (hf : ∀ q, free q → A0 q) (hAX : ∀ q, q < H.size → AX q → A0 q)
    (kx : ∀ (E : String) (ce : Cell) (q9 : Addr) (u : SX) (t : State) (H1 : Heap) (locs1 : List Loc), t.heap = H1 → s.vm.Alike t.vm → px u → BX E u t → H.size ≤ H1.size → (∀ q : Nat, q < H.size → ¬ AX q → H1[q]? = H[q]?) → va_S A0 H0 H1 locs1 → H1[q9]? = some ce → ce.vm = .none → s.vm.findClass E = some ce.cls → vx_W p l e R s m args below meth c H1 locs1 (cells + mc) (slots + ms) Q (F0 m pc ls rest) q9)
    (kk : ∀ (r : UInt32) (u : S) (t : State) (H1 : Heap) (locs1 : List Loc), t.heap = H1 → s.vm.Alike t.vm → post r u → B u t → H.size ≤ H1.size → (∀ q : Nat, q < H.size → ¬ A1 q → H1[q]? = H[q]?) → va_S A0 H0 H1 locs1 → W p l e R s m args below meth c H1 locs1 (cells + mc) (slots + ms) Q (F0 m (pc + 3) ls (.float r :: rest))) : W p l e R s m args below meth c H locs cells slots Q (F0 m pc ls st0) := by
  intro T hT X
  rcases hr T hT X with ⟨v, st₀, t, T', L, h0, X', hL, e1, e2, ⟨⟨r, u, hv, hp, hb⟩, hF⟩, st⟩ | ⟨q, st₀, t, T', L, E, ce, h0, X', hL, e1, e2, ⟨u, hp, hb, hF⟩, hce, hcv, hcl, st⟩
  · cases hv
    obtain ⟨k1, k2, k3⟩ := vx_keep h0 e1 hS hA hf hL hF
    obtain ⟨t2, a1, b1⟩ := kk r u t T'.heap (locs ++ L) e1.symm (by rw [← e2]; exact X'.warmed.alike) hp hb k1 k2 k3 T' rfl X'
    exact ⟨t2, st t2 a1, b1⟩
  · obtain ⟨k1, k2, k3⟩ := vx_keep h0 e1 hS hAX hf hL hF
    obtain ⟨t2, a1, b1⟩ := kx E ce q u t T'.heap (locs ++ L) e1.symm (by rw [← e2]; exact X'.warmed.alike) hp hb k1 k2 k3 (by rw [e1]; exact hce) hcv hcl T' rfl X'
    exact ⟨t2, st.trans a1, b1⟩
theorem vx_calld {S SX : Type} {post : UInt64 → S → Prop} {px : SX → Prop} {B : S → State → Prop} {BX : String → SX → State → Prop} {AX : Nat → Prop} (hr : vx_Run p l e R s m args below meth c H locs cells slots mc ms (F0 m pc ls st0) rest (va_Qd post B A1 a) (vx_X px BX AX) free) (hS : va_S A0 H0 H locs) (hA : ∀ q, q < H.size → A1 q → A0 q) (hf : ∀ q, free q → A0 q) (hAX : ∀ q, q < H.size → AX q → A0 q)
    (kx : ∀ (E : String) (ce : Cell) (q9 : Addr) (u : SX) (t : State) (H1 : Heap) (locs1 : List Loc), t.heap = H1 → s.vm.Alike t.vm → px u → BX E u t → H.size ≤ H1.size → (∀ q : Nat, q < H.size → ¬ AX q → H1[q]? = H[q]?) → va_S A0 H0 H1 locs1 → H1[q9]? = some ce → ce.vm = .none → s.vm.findClass E = some ce.cls → vx_W p l e R s m args below meth c H1 locs1 (cells + mc) (slots + ms) Q (F0 m pc ls rest) q9)
    (kk : ∀ (r : UInt64) (u : S) (t : State) (H1 : Heap) (locs1 : List Loc), t.heap = H1 → s.vm.Alike t.vm → post r u → B u t → H.size ≤ H1.size → (∀ q : Nat, q < H.size → ¬ A1 q → H1[q]? = H[q]?) → va_S A0 H0 H1 locs1 → W p l e R s m args below meth c H1 locs1 (cells + mc) (slots + ms) Q (F0 m (pc + 3) ls (.double r :: rest))) : W p l e R s m args below meth c H locs cells slots Q (F0 m pc ls st0) := by
  intro T hT X
  rcases hr T hT X with ⟨v, st₀, t, T', L, h0, X', hL, e1, e2, ⟨⟨r, u, hv, hp, hb⟩, hF⟩, st⟩ | ⟨q, st₀, t, T', L, E, ce, h0, X', hL, e1, e2, ⟨u, hp, hb, hF⟩, hce, hcv, hcl, st⟩
  · cases hv
    obtain ⟨k1, k2, k3⟩ := vx_keep h0 e1 hS hA hf hL hF
    obtain ⟨t2, a1, b1⟩ := kk r u t T'.heap (locs ++ L) e1.symm (by rw [← e2]; exact X'.warmed.alike) hp hb k1 k2 k3 T' rfl X'
    exact ⟨t2, st t2 a1, b1⟩
  · obtain ⟨k1, k2, k3⟩ := vx_keep h0 e1 hS hAX hf hL hF
    obtain ⟨t2, a1, b1⟩ := kx E ce q u t T'.heap (locs ++ L) e1.symm (by rw [← e2]; exact X'.warmed.alike) hp hb k1 k2 k3 (by rw [e1]; exact hce) hcv hcl T' rfl X'
    exact ⟨t2, st.trans a1, b1⟩
theorem vx_callv {S SX : Type} {post : S → Prop} {px : SX → Prop} {B : S → State → Prop} {BX : String → SX → State → Prop} {AX : Nat → Prop} (hr : vx_Run p l e R s m args below meth c H locs cells slots mc ms (F0 m pc ls st0) rest (va_Qv post B A1 a) (vx_X px BX AX) free) (hS : va_S A0 H0 H locs) (hA : ∀ q, q < H.size → A1 q → A0 q) (hf : ∀ q, free q → A0 q) (hAX : ∀ q, q < H.size → AX q → A0 q)
    (kx : ∀ (E : String) (ce : Cell) (q9 : Addr) (u : SX) (t : State) (H1 : Heap) (locs1 : List Loc), t.heap = H1 → s.vm.Alike t.vm → px u → BX E u t → H.size ≤ H1.size → (∀ q : Nat, q < H.size → ¬ AX q → H1[q]? = H[q]?) → va_S A0 H0 H1 locs1 → H1[q9]? = some ce → ce.vm = .none → s.vm.findClass E = some ce.cls → vx_W p l e R s m args below meth c H1 locs1 (cells + mc) (slots + ms) Q (F0 m pc ls rest) q9)
    (kk : ∀ (u : S) (t : State) (H1 : Heap) (locs1 : List Loc), t.heap = H1 → s.vm.Alike t.vm → post u → B u t → H.size ≤ H1.size → (∀ q : Nat, q < H.size → ¬ A1 q → H1[q]? = H[q]?) → va_S A0 H0 H1 locs1 → W p l e R s m args below meth c H1 locs1 (cells + mc) (slots + ms) Q (F0 m (pc + 3) ls (rest))) : W p l e R s m args below meth c H locs cells slots Q (F0 m pc ls st0) := by
  intro T hT X
  rcases hr T hT X with ⟨v, st₀, t, T', L, h0, X', hL, e1, e2, ⟨⟨u, hv, hp, hb⟩, hF⟩, st⟩ | ⟨q, st₀, t, T', L, E, ce, h0, X', hL, e1, e2, ⟨u, hp, hb, hF⟩, hce, hcv, hcl, st⟩
  · cases hv
    obtain ⟨k1, k2, k3⟩ := vx_keep h0 e1 hS hA hf hL hF
    obtain ⟨t2, a1, b1⟩ := kk u t T'.heap (locs ++ L) e1.symm (by rw [← e2]; exact X'.warmed.alike) hp hb k1 k2 k3 T' rfl X'
    exact ⟨t2, st t2 a1, b1⟩
  · obtain ⟨k1, k2, k3⟩ := vx_keep h0 e1 hS hAX hf hL hF
    obtain ⟨t2, a1, b1⟩ := kx E ce q u t T'.heap (locs ++ L) e1.symm (by rw [← e2]; exact X'.warmed.alike) hp hb k1 k2 k3 (by rw [e1]; exact hce) hcv hcl T' rfl X'
    exact ⟨t2, st.trans a1, b1⟩
/-- caught by the row x of this method's table; the rows ahead don't take it -/
theorem vx_catch {own name : String} {E : String} {ce : Cell} {q : Addr} (hown : s.vm.findClass own = some m.cls) (pre : List ExceptionTableEntry) (x : ExceptionTableEntry) (suf : List ExceptionTableEntry) (hsplit : c.exceptionTable.toList = pre ++ x :: suf)
    (hpass : ∀ z ∈ pre, covers z pc = false ∨ (z.catchType ≠ 0 ∧ ∃ nm : String, (Cond.classLink own z.catchType nm).before args s = true ∧ va_Nc E nm s)) (hx : covers x pc = true) (h0 : x.catchType ≠ 0)
    (hlink : (Cond.classLink own x.catchType name).before args s = true) (hcast : (Cond.castable E name).before args s = true) (hcell : H[q]? = some ce) (hv : ce.vm = .none) (hcl : s.vm.findClass E = some ce.cls)
    (kk : W p l e R s m args below meth c H locs cells slots Q (F0 m x.handlerPc ls [.ref q])) : vx_W p l e R s m args below meth c H locs cells slots Q (F0 m pc ls rest) q := by
  intro T hT X
  have hpl : e.platform.magicAccessors = ({} : Platform).magicAccessors := by rw [X.admits.platform]
  obtain ⟨c3, c4, hc3, hc4, hasg⟩ := Cond.castable_spec hcast
  cases Option.some.inj (hc3.symm.trans hcl)
  obtain ⟨c5, hc5, hcl5⟩ := Cond.classLink_spec hown hlink e.platform hpl
  cases Option.some.inj (hc4.symm.trans hc5)
  obtain ⟨vm', X', st⟩ := X.thenCaughtThrough q (g := F0 m pc ls rest) rfl (Steps.refl _) (by rw [hT]; exact hcell) (by rw [hv]; rfl) (by obtain ⟨k9, h9, -⟩ := Vm.findClass_spec hcl; exact ⟨k9, h9⟩) pre x suf hsplit
    (fun z hz => by
      rcases hpass z hz with h | ⟨hz0, nm, hl1, hn1⟩
      · exact Or.inl h
      · obtain ⟨c6, hc6, hcl6⟩ := Cond.classLink_spec hown hl1 e.platform hpl
        obtain ⟨a8, b8, h1, h2, h3⟩ := hn1
        cases Option.some.inj (h1.symm.trans hcl)
        cases Option.some.inj (h2.symm.trans hc6)
        exact Or.inr ⟨hz0, _, hcl6, h3⟩) hx (Or.inr ⟨h0, c4, hcl5, hasg⟩)
  obtain ⟨t, a1, b1⟩ := kk (T.setVm vm') hT X'
  exact ⟨t, st.trans a1, b1⟩
end Rows
section Ends
variable {p : Program} {l : Launch} {e : Env} {R : Room} {s : State} {m : MethodId} {args : Array Value} {below : List Frame} {meth : Method} {c : Code} {H : Heap} {locs : List Loc} {cells slots : Nat} {Q : State → Prop}
variable {mc ms : Nat} {free : Addr → Prop} {A0 A1 : Nat → Prop} {H0 : Heap} {a : Array Value} {ls : Array Slot} {st0 rest : List Value}
variable {Qc : Array Value → State → Outcome → State → Prop} {XC : String → State → State → Prop}
/-- what a body that may throw owes at its end -/
def vx_MQ (below : List Frame) (Qc : Array Value → State → Outcome → State → Prop) (XC : String → State → State → Prop) (a : Array Value) (s : State) (mc ms : Nat) (free : Addr → Prop) : State → Prop := fun t =>
  ∃ o, t.status = .running ∧ Ended t below o ∧ vx_Q Qc XC mc ms free a s o t
theorem vx_ret {g : JFrame} {mc ms : Nat} (k : W p l e R s m args below meth c H locs cells slots (MQ below Qc args s mc ms free) g) : W p l e R s m args below meth c H locs cells slots (vx_MQ below Qc XC args s mc ms free) g := by
  intro T hT X
  obtain ⟨t, a1, o, b1, b2, b3, b4⟩ := k T hT X
  exact ⟨t, a1, o, b1, b2, Or.inl ⟨b3, b4⟩⟩
/-- not caught here: it goes on to the caller -/
theorem vx_widen {g : JFrame} {q : Addr} {k n : Nat} (h1 : cells ≤ k) (h2 : slots ≤ n) (kk : vx_W p l e R s m args below meth c H locs k n Q g q) : vx_W p l e R s m args below meth c H locs cells slots Q g q := fun T hT X => kk T hT (stand_widen X h1 h2)
theorem vx_out {pc : Nat} {E : String} {ce : Cell} {q : Addr} {mc ms : Nat} (hout : ∀ x ∈ c.exceptionTable.toList, covers x pc = false) (hlocks : meth.locks = false) (hcell : H[q]? = some ce) (hv : ce.vm = .none) (hcl : s.vm.findClass E = some ce.cls)
    (hx : ∀ t : State, t.heap = H → s.vm.Alike t.vm → XC E s t) (hf : ∀ z ∈ locs, free z.base) (hc : cells ≤ mc) (hs : slots ≤ ms) :
    vx_W p l e R s m args below meth c H locs cells slots (vx_MQ below Qc XC args s mc ms free) (F0 m pc ls rest) q := by
  intro T hT X
  obtain ⟨st1, hrun, hend, hW, hsm⟩ := X.leaveThrown q (g := F0 m pc ls rest) rfl rfl rfl hout hlocks
  have hcell9 : (T.setFrames (.throwing q :: below)).heap[q]? = some ce := by
    show T.heap[q]? = some ce
    rw [hT]; exact hcell
  exact ⟨_, st1, .threw q, hrun, hend, Or.inr ⟨q, rfl, E, ce, locs, hx _ hT hW.alike, hcell9, hv, hcl, hW, hsm.mono hc hs, hf⟩⟩
theorem vx_frame {U : State} {k n : Nat} (h : s.sameButNew ({ U with vm := s.vm } : State) locs k n) : s.heap.size ≤ U.heap.size ∧ ∀ q : Nat, q < s.heap.size → (∀ z ∈ locs, z.base ≠ q) → U.heap[q]? = s.heap[q]? := by
  obtain ⟨-, h2, -, -, -, h6⟩ := h
  refine ⟨h2, fun q hq hz => ?_⟩
  obtain ⟨c9, e1, e2, e3, e4⟩ := h6 q _ (Array.getElem?_eq_getElem hq)
  have hs : c9.slots = (s.heap[q]).slots := Array.ext_getElem? fun i => e4 i fun hm => hz _ hm rfl
  have h9 : c9 = s.heap[q] := by
    rw [hs] at e2
    exact e2
  have e5 : U.heap[q]? = some c9 := e1
  rw [e5, h9, Array.getElem?_eq_getElem hq]
/-- the words of a throw but the four that speak of the heap -/
def vx_no (w : Cond) : Bool := decide (w ≠ .isRef (.static Bundle.tN "UNASSIGNED_STACK" Bundle.steD)) && decide (w ≠ .isRef (.static Bundle.tN "SUPPRESSED_SENTINEL" Bundle.listD)) && decide (w ≠ .laysStatic Bundle.tN "UNASSIGNED_STACK" Bundle.steD) && decide (w ≠ .laysStatic Bundle.tN "SUPPRESSED_SENTINEL" Bundle.listD)
def vx_at0 (own : String) (ic : Nat) (X : String) (names : List String) : List Cond := (Bundle.ownAtoms0 own ic X names).filter vx_no
def vx_atS (own : String) (ic : Nat) (X : String) (names : List String) : List Cond := (Bundle.ownAtoms own ic X names).filter vx_no
/-- a word that the tables alone decide, or a good one -/
def vx_ot (w : Cond) : Bool := w.onTables || goodWord w
theorem vx_ot_at {args a' : Array Value} {s U : State} {w : Cond} (hW : s.WarmedH U.vm) (hvm : s.vm = U.vm) (hg : vx_ot w = true) (h : w.before args s = true) : w.before a' U = true := by
  simp only [vx_ot, Bool.or_eq_true] at hg
  rcases hg with hg | hg
  · exact va_tabs hg hvm h
  · exact word_at hW (good_of_word hg) h
/-- a list's words: the good ones out of the method's own list, the others by premises of their own -/
theorem vx_hat {args : Array Value} {s : State} {L B : List Cond} (h1 : ∀ w ∈ L.filter goodWord, w.before args s = true) (h2 : ∀ w ∈ L.filter (fun w => !goodWord w), w ∈ B) (h3 : ∀ w ∈ B, w.before args s = true) : ∀ w ∈ L, w.before args s = true := by
  intro w hw
  by_cases g : goodWord w = true
  · exact h1 w (List.mem_filter.mpr ⟨hw, g⟩)
  · refine h3 w (h2 w (List.mem_filter.mpr ⟨hw, ?_⟩))
    show (!goodWord w) = true
    cases hgw : goodWord w
    · rfl
    · exact absurd hgw g
theorem vx_c {args : Array Value} {s : State} {w : Cond} {B : List Cond} (h : w.before args s = true) (t : ∀ w ∈ B, w.before args s = true) : ∀ w' ∈ w :: B, w'.before args s = true := fun w' h' => (List.mem_cons.mp h').elim (fun e => by rw [e]; exact h) (t w')
theorem vx_n {args : Array Value} {s : State} : ∀ w ∈ ([] : List Cond), w.before args s = true := fun _ h => nomatch h
theorem vx_own {args : Array Value} {s : State} {L : List Cond} (h1 : ∀ w ∈ L.filter vx_no, w.before args s = true)
    (hU : (Cond.isRef (.static Bundle.tN "UNASSIGNED_STACK" Bundle.steD)).before args s = true) (hN : (Cond.isRef (.static Bundle.tN "SUPPRESSED_SENTINEL" Bundle.listD)).before args s = true)
    (lU : (Cond.laysStatic Bundle.tN "UNASSIGNED_STACK" Bundle.steD).before args s = true) (lN : (Cond.laysStatic Bundle.tN "SUPPRESSED_SENTINEL" Bundle.listD).before args s = true) : ∀ w ∈ L, w.before args s = true := by
  intro w hw
  by_cases e1 : w = .isRef (.static Bundle.tN "UNASSIGNED_STACK" Bundle.steD)
  · rw [e1]; exact hU
  · by_cases e2 : w = .isRef (.static Bundle.tN "SUPPRESSED_SENTINEL" Bundle.listD)
    · rw [e2]; exact hN
    · by_cases e3 : w = .laysStatic Bundle.tN "UNASSIGNED_STACK" Bundle.steD
      · rw [e3]; exact lU
      · by_cases e4 : w = .laysStatic Bundle.tN "SUPPRESSED_SENTINEL" Bundle.listD
        · rw [e4]; exact lN
        · exact h1 w (List.mem_filter.mpr ⟨hw, by unfold vx_no; rw [decide_eq_true e1, decide_eq_true e2, decide_eq_true e3, decide_eq_true e4]; rfl⟩)
/-- where a static field lies, its class's statics cell in H -/
def vx_L (C n d : String) (A : Nat → Prop) (U : State) (H : Heap) : Prop := ∃ (c : ClassId) (k : Class) (i : Nat) (f : Field) (a : Nat) (cell : Cell), U.vm.findClass C = some c ∧ U.fieldFound? C n d = some (c, k, i, f) ∧ f.isStatic = true ∧ k.statics = some a ∧ H[a]? = some cell ∧ cell.vm.isStatics = true ∧ cell.cls = c ∧ f.slot < cell.slots.size ∧ k.staticTypes[f.slot]? = some f.type ∧ ¬ A a
theorem vx_L.moved {C n d : String} {A : Nat → Prop} {u U : State} {H : Heap} (hvm : u.vm.Alike U.vm) (h : vx_L C n d A u H) : vx_L C n d A U H := by
  obtain ⟨c, k, i, f, a, cell, h1, h2, h3, h4, h5, h6, h7, h8, h9, h10⟩ := h
  obtain ⟨k', hi', he⟩ := State.fieldFound?_setVm hvm h2
  exact ⟨c, k', i, f, a, cell, by rw [hvm.findClass]; exact h1, hi', h3, by rw [he]; exact h4, h5, h6, h7, h8, by rw [he]; exact h9, h10⟩
theorem vx_L.kept {C n d : String} {A : Nat → Prop} {U : State} {H H1 : Heap} (h : vx_L C n d A U H) (hq : ∀ a : Nat, a < H.size → ¬ A a → H1[a]? = H[a]?) : vx_L C n d A U H1 := by
  obtain ⟨c, k, i, f, a, cell, h1, h2, h3, h4, h5, h6, h7, h8, h9, h10⟩ := h
  exact ⟨c, k, i, f, a, cell, h1, h2, h3, h4, by rw [hq a (Array.getElem?_eq_some_iff.mp h5).1 h10]; exact h5, h6, h7, h8, h9, h10⟩
theorem vx_L.narrow {C n d : String} {A B : Nat → Prop} {U : State} {H : Heap} (h : vx_L C n d A U H) (hAB : ∀ q, B q → A q) : vx_L C n d B U H := by
  obtain ⟨c, k, i, f, a, cell, h1, h2, h3, h4, h5, h6, h7, h8, h9, h10⟩ := h
  exact ⟨c, k, i, f, a, cell, h1, h2, h3, h4, h5, h6, h7, h8, h9, fun z => h10 (hAB _ z)⟩
theorem vx_L.word {C n d : String} {A : Nat → Prop} {s : State} {args : Array Value} (h : vx_L C n d A s s.heap) : (Cond.laysStatic C n d).before args s = true := by
  obtain ⟨c, k, i, f, a, cell, h1, h2, h3, h4, h5, h6, h7, h8, h9, -⟩ := h
  show (Cond.laysStatic C n d).holds args s none s [] = true
  exact Cond.laysStatic_of h1 h2 h3 h4 h5 h6 h7 h8 h9
/-- .. and what it holds: null or some reference -/
def vx_Zq (C n d : String) (A : Nat → Prop) (U : State) (H : Heap) : Prop := va_Zq C n d A U H ∧ vx_L C n d A U H
theorem vx_Zq.moved {C n d : String} {A : Nat → Prop} {u U : State} {H : Heap} (hvm : u.vm.Alike U.vm) (h : vx_Zq C n d A u H) : vx_Zq C n d A U H := ⟨va_Zq.moved hvm h.1, vx_L.moved hvm h.2⟩
theorem vx_Zq.kept {C n d : String} {A : Nat → Prop} {U : State} {H H1 : Heap} (h : vx_Zq C n d A U H) (hq : ∀ a : Nat, a < H.size → ¬ A a → H1[a]? = H[a]?) : vx_Zq C n d A U H1 := ⟨va_Zq.kept h.1 hq, vx_L.kept h.2 hq⟩
theorem vx_Zq.narrow {C n d : String} {A B : Nat → Prop} {U : State} {H : Heap} (h : vx_Zq C n d A U H) (hAB : ∀ q, B q → A q) : vx_Zq C n d B U H := ⟨va_Zq.narrow h.1 hAB, vx_L.narrow h.2 hAB⟩
theorem vx_Zqof {args : Array Value} {s : State} {C n d : String} {A : Nat → Prop} (hl : (Cond.laysStatic C n d).before args s = true) (hini : (Cond.initialized C).before args s = true) (h : (Cond.isRef (.static C n d)).before args s = true) (hA : ∀ a : Nat, a < s.heap.size → ¬ A a) : vx_Zq C n d A s s.heap := by
  refine ⟨va_Zqof hl hini h hA, ?_⟩
  obtain ⟨c, k, i, f, a, cell, h1, h2, h3, h4, h5, h6, h7, h8, h9⟩ := Cond.laysStatic_spec hl
  exact ⟨c, k, i, f, a, cell, h1, h2, h3, h4, h5, h6, h7, h8, h9, hA a (Array.getElem?_eq_some_iff.mp h5).1⟩
theorem vx_isRef {C n d : String} {v : Value} {A : Nat → Prop} {s : State} {args : Array Value} (h : va_Z C n d v A s s.heap) (hv : v.isRef = true) : (Cond.isRef (.static C n d)).before args s = true := by
  obtain ⟨cf, kf, fi, f, a, cell, h1, h2, h3, h4, h5, h6, h7, -⟩ := h
  have he : (Term.static C n d).eval args s none [] s = some v := by
    simp [Term.eval, State.fieldNamed?, h1, h2, h4, h5, h6, h7]
  simp only [Cond.before, Cond.holds, Cond.value, he]
  cases v <;> simp_all [Value.isRef]
theorem vx_isRefq {C n d : String} {A : Nat → Prop} {s : State} {args : Array Value} (h : va_Zq C n d A s s.heap) : (Cond.isRef (.static C n d)).before args s = true := by
  rcases h with h | ⟨t, h⟩
  · exact vx_isRef h rfl
  · exact vx_isRef h rfl
/-- the same frame, seen from here: as if the method were called anew in this heap -/
theorem vx_rebase {T : State} (X : Stand p l e R s m args below meth c T locs cells slots) {R' : Room} (hf : R'.frames ≤ R.frames) (hl : R'.locals ≤ R.locals) (hc : cells + R'.cells ≤ R.cells) (hs : slots + R'.slots ≤ R.slots) :
    Stand p l e R' ((T.setVm s.vm).setFrames (.invoking m args :: below)) m args below meth c T [] 0 0 := by
  have htop : (T.setVm s.vm).topJava?.isSome := X.here.top
  have hF : ((T.setVm s.vm).setFrames (.invoking m args :: below)).frames = .invoking m args :: below := State.frames_setFrames _ (State.cur_lt_of_top htop)
  obtain ⟨g₀, hg0⟩ := Option.isSome_iff_exists.mp htop
  obtain ⟨r, hr⟩ := State.topJava?_eq_some.mp hg0
  have hl9 : e.platform.stackLimits (T.setVm s.vm).me = e.platform.stackLimits s.me := X.limits
  have hb9 : (T.setVm s.vm).me.stackBytes = s.me.stackBytes := X.bytes
  refine ⟨X.admits, X.cas, X.clock, hF, ?_, X.hears, X.method, X.code, X.here, X.tail, X.warmed, ?_, ?_, ?_⟩
  · have h := X.room
    have hU : ((T.setVm s.vm).setFrames (.invoking m args :: below)).localsInUse = s.localsInUse := by
      rw [State.localsInUse_invoking hF (meth := meth) (c := c) X.method X.code, State.localsInUse_invoking X.frames X.method X.code]
    simp only [State.hasRoom, Bool.and_eq_true, decide_eq_true_eq] at h ⊢
    obtain ⟨⟨⟨⟨h1, h2, h3, h4, h5, h6⟩, h7⟩, h8⟩, h9⟩ := h
    rw [X.frames, List.length_cons] at h2 h3
    have q1 := X.heapSize
    have q2 := X.used
    simp only [hF, hU, List.length_cons, State.stackLimits_setFrames, State.stackBytes_setFrames, hl9, hb9]
    refine ⟨⟨⟨⟨by omega, by omega, by omega, by omega, by omega, h6⟩, ?_⟩, ?_⟩, X.book⟩
    · show T.heap.size + R'.cells ≤ e.platform.maxCells
      omega
    · show T.slotsUsed + R'.slots ≤ e.platform.maxSlots
      omega
  · rw [State.stackLimits_setFrames]; rfl
  · rw [State.stackBytes_setFrames]; rfl
  · refine ⟨?_, Nat.le_refl _, Nat.le_refl _, ?_, ?_, fun a c9 h9 => ⟨c9, h9, rfl, rfl, fun _ _ => rfl⟩⟩
    · obtain ⟨t, ht, -⟩ := State.frames_cons hr
      show T.setVm s.vm = { ((T.setVm s.vm).setFrames (.invoking m args :: below)).setFrames (T.setVm s.vm).frames with heap := T.heap, slotsUsed := T.slotsUsed }
      rw [State.setFrames_setFrames, State.setFrames_self ht]
      rfl
    · show T.slotsUsed = T.slotsUsed + ((T.heap.toList.drop T.heap.size).map (·.slots.size)).sum
      rw [List.drop_eq_nil_of_le (Nat.le_of_eq Array.length_toList)]
      rfl
    · show ((T.heap.toList.drop T.heap.size).map (·.slots.size)).sum ≤ 0
      rw [List.drop_eq_nil_of_le (Nat.le_of_eq Array.length_toList)]
      exact Nat.le_refl _
/-- 'throw new E()': new; dup; invokespecial; athrow -/
theorem vx_throw0 {cc : ByteArray} {pc : Nat} (hexec : p.tables.exec = Jvm.exec) (hb : c.code = cc) (hl : l.stackTraces = false) {own cls : String} {names : List String} {ik ic mc ms : Nat} {A : Nat → Prop}
    (hown : s.vm.findClass own = some m.cls) (hcls : Bundle.fit cls = true) (hnames : ∀ n ∈ names, Bundle.fit n = true)
    (hk : (Cond.classLink own ik cls).before args s = true) (hini : (Cond.initialized cls).before args s = true) (hat : ∀ w ∈ vx_at0 own ic cls names, w.before args s = true)
    (hgood : ∀ w ∈ Cond.classLink own ik cls :: Cond.initialized cls :: vx_at0 own ic cls names, vx_ot w = true)
    (hU : vx_Zq Bundle.tN "UNASSIGNED_STACK" Bundle.steD A s s.heap) (hN : vx_Zq Bundle.tN "SUPPRESSED_SENTINEL" Bundle.listD A s s.heap) (hS : va_S A s.heap H locs) (hsize : ls.size = c.maxLocals)
    (d0 : decode cc pc = .ok (.new ik, 3)) (d3 : decode cc (pc + 3) = .ok (.dup, 1)) (d4 : decode cc (pc + 4) = .ok (.invokespecial ic, 3)) (d7 : decode cc (pc + 7) = .ok (.athrow, 1))
    (hout : ∀ x ∈ c.exceptionTable.toList, covers x (pc + 7) = false)
    (hRframes : names.length + 3 < R.frames) (hRlocals : (rest.map fun v => v.category).sum + (13 * (names.length + 1) + 42) ≤ R.locals) (hRcells : cells + 1 ≤ R.cells) (hRslots : slots + 6 ≤ R.slots) (hlocks : meth.locks = false)
    (hx : ∀ t : State, s.vm.Alike t.vm → H.size ≤ t.heap.size → (∀ q : Nat, q < H.size → t.heap[q]? = H[q]?) → XC cls s t)
    (hf : ∀ z ∈ locs, free z.base) (hc : cells + 1 ≤ mc) (hs : slots + 6 ≤ ms) :
    W p l e R s m args below meth c H locs cells slots (vx_MQ below Qc XC args s mc ms free) (F0 m pc ls rest) := by
  intro T hT X
  have htr : e.platform.stackTraces = false := (show e.platform.stackTraces = l.stackTraces by rw [X.admits.platform]).trans hl
  have Y := vx_rebase X (R' := { frames := R.frames, locals := R.locals, cells := 1, slots := 6 }) (Nat.le_refl _) (Nat.le_refl _) hRcells hRslots
  obtain ⟨s', hA⟩ : ∃ z, z = (T.setVm s.vm).setFrames (.invoking m args :: below) := ⟨_, rfl⟩
  rw [← hA] at Y
  have hvm : s'.vm = s.vm := by rw [hA]; rfl
  have hhp : s'.heap = H := by rw [hA]; exact hT
  have hW0 : s.WarmedH s'.vm := by rw [hvm]; exact State.WarmedH.refl s
  have hat' : ∀ w ∈ vx_at0 own ic cls names, w.before args s' = true := fun w hw => vx_ot_at hW0 hvm.symm (hgood w (List.mem_cons_of_mem _ (List.mem_cons_of_mem _ hw))) (hat w hw)
  have hk' : (Cond.classLink own ik cls).before args s' = true := vx_ot_at hW0 hvm.symm (hgood _ List.mem_cons_self) hk
  have hini' : (Cond.initialized cls).before args s' = true := vx_ot_at hW0 hvm.symm (hgood _ (List.mem_cons_of_mem _ List.mem_cons_self)) hini
  have hU' : vx_Zq Bundle.tN "UNASSIGNED_STACK" Bundle.steD A s' s'.heap := by rw [hhp]; exact vx_Zq.moved hW0.alike (hU.kept hS.2.1)
  have hN' : vx_Zq Bundle.tN "SUPPRESSED_SENTINEL" Bundle.listD A s' s'.heap := by rw [hhp]; exact vx_Zq.moved hW0.alike (hN.kept hS.2.1)
  have h : ∀ w ∈ Bundle.ownAtoms0 own ic cls names, w.before args s' = true := vx_own hat' (vx_isRefq hU'.1) (vx_isRefq hN'.1) hU'.2.word hN'.2.word
  have hown' : s'.vm.findClass own = some m.cls := by rw [hvm]; exact hown
  have hins : (Cond.instantiable cls 6).before args s' = true := h _ (by simp [Bundle.ownAtoms0])
  obtain ⟨vm₁, cX, kX, hfX, hkX, -, -, X₁, st1⟩ := Y.newCold hexec (own := own) (C := cls) (index := ik) (n := 6) hown' hk' hins hini'
    (g := F0 m pc ls rest) rfl (by rw [hb]; exact d0) (Nat.le_refl _) (Nat.le_refl _)
  generalize hT1 : (T.setVm vm₁).pushCell { cls := cX, slots := kX.instanceTypes.map defaultValue, vm := .none } = T1 at X₁ st1
  have hcat : (Value.ref T.heap.size).category = 1 := rfl
  have hcellA : T1.heap[T.heap.size]? = some (freshCell cX kX) := by rw [← hT1]; exact State.heap_pushCell_size _ _
  have d3' : decode c.code (pc + 3) = .ok (.dup, 1) := by rw [hb]; exact d3
  obtain ⟨U, hsteps, hrun, hend, hW, hsame, ce, hce, hO⟩ := X₁.ctorThrow0 hexec htr (own := own) (cls := cls) (names := names) (ic := ic) hown' hcls hnames h (fun x hx => nomatch hx) hfX hkX hcellA (by rw [hhp, hT]; exact Nat.le_refl _)
    (g := { method := m, pc := pc + 4, locals := ls, stack := .ref T.heap.size :: .ref T.heap.size :: rest, locked := none }) rfl hsize rfl rfl (rest := rest) rfl
    (by rw [hb]; exact d4) (by rw [hb]; exact d7) hout hRframes (by simp only [List.map_cons, List.sum_cons, hcat]; omega) hlocks
  obtain ⟨f1, f2⟩ := vx_frame hsame
  rw [hhp] at f1 f2
  have hWs : s.WarmedH U.vm := State.WarmedH.trans hW0 hW
  have hcl : s.vm.findClass cls = some ce.cls := by
    have h9 := hO.cls
    rw [hvm] at h9
    exact h9
  have hall : s.sameButNew ({ U with vm := s.vm } : State) locs mc ms := by
    subst hA
    obtain ⟨e1, e2⟩ := hsame
    rw [State.setFrames_setFrames] at e1
    have h2 : (T.setVm s.vm).sameButNew ({ U with vm := s.vm } : State) [] (0 + 1) (0 + 6) := ⟨e1, e2⟩
    have h3 := X.same.trans h2
    rw [List.append_nil] at h3
    exact h3.mono hc hs
  refine ⟨U, ?_, .threw T.heap.size, hrun, hend, Or.inr ⟨T.heap.size, rfl, cls, ce, locs, hx U hWs.alike f1 (fun q hq => f2 q hq (fun z hz => nomatch hz)), hce, hO.vm, hcl, hWs, hall, hf⟩⟩
  refine st1 _ ?_
  show Steps p.tables e below (T1.setTop { method := m, pc := pc + 3, locals := ls, stack := .ref T.heap.size :: rest, locked := none }) _
  jvm_step X₁.here [X₁.here.top, hexec, d3', Value.category]
  exact hsteps
/-- 'throw new E("text")': new; dup; ldc; invokespecial; athrow -/
theorem vx_throwS {cc : ByteArray} {pc : Nat} (hexec : p.tables.exec = Jvm.exec) (hb : c.code = cc) (hl : l.stackTraces = false) {own cls text : String} {names : List String} {ik is ic mc ms sa : Nat} {A : Nat → Prop}
    (hown : s.vm.findClass own = some m.cls) (hcls : Bundle.fit cls = true) (hnames : ∀ n ∈ names, Bundle.fit n = true)
    (hk : (Cond.classLink own ik cls).before args s = true) (hini : (Cond.initialized cls).before args s = true) (hstr : vk_R own is text sa s) (hat : ∀ w ∈ vx_atS own ic cls names, w.before args s = true)
    (hgood : ∀ w ∈ Cond.classLink own ik cls :: Cond.initialized cls :: vx_atS own ic cls names, vx_ot w = true)
    (hU : vx_Zq Bundle.tN "UNASSIGNED_STACK" Bundle.steD A s s.heap) (hN : vx_Zq Bundle.tN "SUPPRESSED_SENTINEL" Bundle.listD A s s.heap) (hS : va_S A s.heap H locs) (hsize : ls.size = c.maxLocals)
    (d0 : decode cc pc = .ok (.new ik, 3)) (d3 : decode cc (pc + 3) = .ok (.dup, 1)) (d4 : decode cc (pc + 4) = .ok (.ldc is, 2)) (d6 : decode cc (pc + 6) = .ok (.invokespecial ic, 3)) (d9 : decode cc (pc + 9) = .ok (.athrow, 1))
    (hout : ∀ x ∈ c.exceptionTable.toList, covers x (pc + 9) = false)
    (hRframes : names.length + 3 < R.frames) (hRlocals : (rest.map fun v => v.category).sum + (13 * (names.length + 1) + 43) ≤ R.locals) (hRcells : cells + 1 ≤ R.cells) (hRslots : slots + 6 ≤ R.slots) (hlocks : meth.locks = false)
    (hx : ∀ t : State, s.vm.Alike t.vm → H.size ≤ t.heap.size → (∀ q : Nat, q < H.size → t.heap[q]? = H[q]?) → XC cls s t)
    (hf : ∀ z ∈ locs, free z.base) (hc : cells + 1 ≤ mc) (hs : slots + 6 ≤ ms) :
    W p l e R s m args below meth c H locs cells slots (vx_MQ below Qc XC args s mc ms free) (F0 m pc ls rest) := by
  intro T hT X
  have htr : e.platform.stackTraces = false := (show e.platform.stackTraces = l.stackTraces by rw [X.admits.platform]).trans hl
  have Y := vx_rebase X (R' := { frames := R.frames, locals := R.locals, cells := 1, slots := 6 }) (Nat.le_refl _) (Nat.le_refl _) hRcells hRslots
  obtain ⟨s', hA⟩ : ∃ z, z = (T.setVm s.vm).setFrames (.invoking m args :: below) := ⟨_, rfl⟩
  rw [← hA] at Y
  have hvm : s'.vm = s.vm := by rw [hA]; rfl
  have hhp : s'.heap = H := by rw [hA]; exact hT
  have hW0 : s.WarmedH s'.vm := by rw [hvm]; exact State.WarmedH.refl s
  have hat' : ∀ w ∈ vx_atS own ic cls names, w.before args s' = true := fun w hw => vx_ot_at hW0 hvm.symm (hgood w (List.mem_cons_of_mem _ (List.mem_cons_of_mem _ hw))) (hat w hw)
  have hk' : (Cond.classLink own ik cls).before args s' = true := vx_ot_at hW0 hvm.symm (hgood _ List.mem_cons_self) hk
  have hini' : (Cond.initialized cls).before args s' = true := vx_ot_at hW0 hvm.symm (hgood _ (List.mem_cons_of_mem _ List.mem_cons_self)) hini
  have hU' : vx_Zq Bundle.tN "UNASSIGNED_STACK" Bundle.steD A s' s'.heap := by rw [hhp]; exact vx_Zq.moved hW0.alike (hU.kept hS.2.1)
  have hN' : vx_Zq Bundle.tN "SUPPRESSED_SENTINEL" Bundle.listD A s' s'.heap := by rw [hhp]; exact vx_Zq.moved hW0.alike (hN.kept hS.2.1)
  have h : ∀ w ∈ Bundle.ownAtoms own ic cls names, w.before args s' = true := vx_own hat' (vx_isRefq hU'.1) (vx_isRefq hN'.1) hU'.2.word hN'.2.word
  have hown' : s'.vm.findClass own = some m.cls := by rw [hvm]; exact hown
  have hins : (Cond.instantiable cls 6).before args s' = true := h _ (by simp [Bundle.ownAtoms])
  obtain ⟨vm₁, cX, kX, hfX, hkX, -, -, X₁, st1⟩ := Y.newCold hexec (own := own) (C := cls) (index := ik) (n := 6) hown' hk' hins hini'
    (g := F0 m pc ls rest) rfl (by rw [hb]; exact d0) (Nat.le_refl _) (Nat.le_refl _)
  generalize hT1 : (T.setVm vm₁).pushCell { cls := cX, slots := kX.instanceTypes.map defaultValue, vm := .none } = T1 at X₁ st1
  have hcat : (Value.ref T.heap.size).category = 1 := rfl
  have hcellA : T1.heap[T.heap.size]? = some (freshCell cX kX) := by rw [← hT1]; exact State.heap_pushCell_size _ _
  have d3' : decode c.code (pc + 3) = .ok (.dup, 1) := by rw [hb]; exact d3
  have d4' : decode c.code (pc + 4) = .ok (.ldc is, 2) := by rw [hb]; exact d4
  have hstr' : vk_R own is text sa s' := vk_R.warm hW0 hstr
  obtain ⟨U, hsteps, hrun, hend, hW, hsame, ce, hce, hO⟩ := X₁.ctorThrowS hexec htr (own := own) (cls := cls) (names := names) (ic := ic) hown' hcls hnames h (fun x hx => nomatch hx) hfX hkX hcellA (by rw [hhp, hT]; exact Nat.le_refl _) (msg := .ref sa) rfl
    (g := { method := m, pc := pc + 6, locals := ls, stack := .ref sa :: .ref T.heap.size :: .ref T.heap.size :: rest, locked := none }) rfl hsize rfl rfl (rest := rest) rfl
    (by rw [hb]; exact d6) (by rw [hb]; exact d9) hout hRframes (by simp only [List.map_cons, List.sum_cons, hcat]; omega) hlocks
  obtain ⟨f1, f2⟩ := vx_frame hsame
  rw [hhp] at f1 f2
  have hWs : s.WarmedH U.vm := State.WarmedH.trans hW0 hW
  have hcl : s.vm.findClass cls = some ce.cls := by
    have h9 := hO.cls
    rw [hvm] at h9
    exact h9
  have hall : s.sameButNew ({ U with vm := s.vm } : State) locs mc ms := by
    subst hA
    obtain ⟨e1, e2⟩ := hsame
    rw [State.setFrames_setFrames] at e1
    have h2 : (T.setVm s.vm).sameButNew ({ U with vm := s.vm } : State) [] (0 + 1) (0 + 6) := ⟨e1, e2⟩
    have h3 := X.same.trans h2
    rw [List.append_nil] at h3
    exact h3.mono hc hs
  refine ⟨U, ?_, .threw T.heap.size, hrun, hend, Or.inr ⟨T.heap.size, rfl, cls, ce, locs, hx U hWs.alike f1 (fun q hq => f2 q hq (fun z hz => nomatch hz)), hce, hO.vm, hcl, hWs, hall, hf⟩⟩
  refine st1 _ ?_
  show Steps p.tables e below (T1.setTop { method := m, pc := pc + 3, locals := ls, stack := .ref T.heap.size :: rest, locked := none }) _
  jvm_step X₁.here [X₁.here.top, hexec, d3', Value.category]
  exact X₁.ldcString hexec (own := own) (text := text) (index := is) (a := sa) hown' hstr'.1 hstr'.2
    (g := { method := m, pc := pc + 4, locals := ls, stack := .ref T.heap.size :: .ref T.heap.size :: rest, locked := none }) rfl d4' _ hsteps
/-- 'throw new E("text")', the text by a wide index -/
theorem vx_throwSW {cc : ByteArray} {pc : Nat} (hexec : p.tables.exec = Jvm.exec) (hb : c.code = cc) (hl : l.stackTraces = false) {own cls text : String} {names : List String} {ik is ic mc ms sa : Nat} {A : Nat → Prop}
    (hown : s.vm.findClass own = some m.cls) (hcls : Bundle.fit cls = true) (hnames : ∀ n ∈ names, Bundle.fit n = true)
    (hk : (Cond.classLink own ik cls).before args s = true) (hini : (Cond.initialized cls).before args s = true) (hstr : vk_R own is text sa s) (hat : ∀ w ∈ vx_atS own ic cls names, w.before args s = true)
    (hgood : ∀ w ∈ Cond.classLink own ik cls :: Cond.initialized cls :: vx_atS own ic cls names, vx_ot w = true)
    (hU : vx_Zq Bundle.tN "UNASSIGNED_STACK" Bundle.steD A s s.heap) (hN : vx_Zq Bundle.tN "SUPPRESSED_SENTINEL" Bundle.listD A s s.heap) (hS : va_S A s.heap H locs) (hsize : ls.size = c.maxLocals)
    (d0 : decode cc pc = .ok (.new ik, 3)) (d3 : decode cc (pc + 3) = .ok (.dup, 1)) (d4 : decode cc (pc + 4) = .ok (.ldc_w is, 3)) (d7 : decode cc (pc + 7) = .ok (.invokespecial ic, 3)) (d10 : decode cc (pc + 10) = .ok (.athrow, 1))
    (hout : ∀ x ∈ c.exceptionTable.toList, covers x (pc + 10) = false)
    (hRframes : names.length + 3 < R.frames) (hRlocals : (rest.map fun v => v.category).sum + (13 * (names.length + 1) + 43) ≤ R.locals) (hRcells : cells + 1 ≤ R.cells) (hRslots : slots + 6 ≤ R.slots) (hlocks : meth.locks = false)
    (hx : ∀ t : State, s.vm.Alike t.vm → H.size ≤ t.heap.size → (∀ q : Nat, q < H.size → t.heap[q]? = H[q]?) → XC cls s t)
    (hf : ∀ z ∈ locs, free z.base) (hc : cells + 1 ≤ mc) (hs : slots + 6 ≤ ms) :
    W p l e R s m args below meth c H locs cells slots (vx_MQ below Qc XC args s mc ms free) (F0 m pc ls rest) := by
  intro T hT X
  have htr : e.platform.stackTraces = false := (show e.platform.stackTraces = l.stackTraces by rw [X.admits.platform]).trans hl
  have Y := vx_rebase X (R' := { frames := R.frames, locals := R.locals, cells := 1, slots := 6 }) (Nat.le_refl _) (Nat.le_refl _) hRcells hRslots
  obtain ⟨s', hA⟩ : ∃ z, z = (T.setVm s.vm).setFrames (.invoking m args :: below) := ⟨_, rfl⟩
  rw [← hA] at Y
  have hvm : s'.vm = s.vm := by rw [hA]; rfl
  have hhp : s'.heap = H := by rw [hA]; exact hT
  have hW0 : s.WarmedH s'.vm := by rw [hvm]; exact State.WarmedH.refl s
  have hat' : ∀ w ∈ vx_atS own ic cls names, w.before args s' = true := fun w hw => vx_ot_at hW0 hvm.symm (hgood w (List.mem_cons_of_mem _ (List.mem_cons_of_mem _ hw))) (hat w hw)
  have hk' : (Cond.classLink own ik cls).before args s' = true := vx_ot_at hW0 hvm.symm (hgood _ List.mem_cons_self) hk
  have hini' : (Cond.initialized cls).before args s' = true := vx_ot_at hW0 hvm.symm (hgood _ (List.mem_cons_of_mem _ List.mem_cons_self)) hini
  have hU' : vx_Zq Bundle.tN "UNASSIGNED_STACK" Bundle.steD A s' s'.heap := by rw [hhp]; exact vx_Zq.moved hW0.alike (hU.kept hS.2.1)
  have hN' : vx_Zq Bundle.tN "SUPPRESSED_SENTINEL" Bundle.listD A s' s'.heap := by rw [hhp]; exact vx_Zq.moved hW0.alike (hN.kept hS.2.1)
  have h : ∀ w ∈ Bundle.ownAtoms own ic cls names, w.before args s' = true := vx_own hat' (vx_isRefq hU'.1) (vx_isRefq hN'.1) hU'.2.word hN'.2.word
  have hown' : s'.vm.findClass own = some m.cls := by rw [hvm]; exact hown
  have hins : (Cond.instantiable cls 6).before args s' = true := h _ (by simp [Bundle.ownAtoms])
  obtain ⟨vm₁, cX, kX, hfX, hkX, -, -, X₁, st1⟩ := Y.newCold hexec (own := own) (C := cls) (index := ik) (n := 6) hown' hk' hins hini'
    (g := F0 m pc ls rest) rfl (by rw [hb]; exact d0) (Nat.le_refl _) (Nat.le_refl _)
  generalize hT1 : (T.setVm vm₁).pushCell { cls := cX, slots := kX.instanceTypes.map defaultValue, vm := .none } = T1 at X₁ st1
  have hcat : (Value.ref T.heap.size).category = 1 := rfl
  have hcellA : T1.heap[T.heap.size]? = some (freshCell cX kX) := by rw [← hT1]; exact State.heap_pushCell_size _ _
  have d3' : decode c.code (pc + 3) = .ok (.dup, 1) := by rw [hb]; exact d3
  have d4' : decode c.code (pc + 4) = .ok (.ldc_w is, 3) := by rw [hb]; exact d4
  have hstr' : vk_R own is text sa s' := vk_R.warm hW0 hstr
  obtain ⟨U, hsteps, hrun, hend, hW, hsame, ce, hce, hO⟩ := X₁.ctorThrowS hexec htr (own := own) (cls := cls) (names := names) (ic := ic) hown' hcls hnames h (fun x hx => nomatch hx) hfX hkX hcellA (by rw [hhp, hT]; exact Nat.le_refl _) (msg := .ref sa) rfl
    (g := { method := m, pc := pc + 7, locals := ls, stack := .ref sa :: .ref T.heap.size :: .ref T.heap.size :: rest, locked := none }) rfl hsize rfl rfl (rest := rest) rfl
    (by rw [hb]; exact d7) (by rw [hb]; exact d10) hout hRframes (by simp only [List.map_cons, List.sum_cons, hcat]; omega) hlocks
  obtain ⟨f1, f2⟩ := vx_frame hsame
  rw [hhp] at f1 f2
  have hWs : s.WarmedH U.vm := State.WarmedH.trans hW0 hW
  have hcl : s.vm.findClass cls = some ce.cls := by
    have h9 := hO.cls
    rw [hvm] at h9
    exact h9
  have hall : s.sameButNew ({ U with vm := s.vm } : State) locs mc ms := by
    subst hA
    obtain ⟨e1, e2⟩ := hsame
    rw [State.setFrames_setFrames] at e1
    have h2 : (T.setVm s.vm).sameButNew ({ U with vm := s.vm } : State) [] (0 + 1) (0 + 6) := ⟨e1, e2⟩
    have h3 := X.same.trans h2
    rw [List.append_nil] at h3
    exact h3.mono hc hs
  refine ⟨U, ?_, .threw T.heap.size, hrun, hend, Or.inr ⟨T.heap.size, rfl, cls, ce, locs, hx U hWs.alike f1 (fun q hq => f2 q hq (fun z hz => nomatch hz)), hce, hO.vm, hcl, hWs, hall, hf⟩⟩
  refine st1 _ ?_
  show Steps p.tables e below (T1.setTop { method := m, pc := pc + 3, locals := ls, stack := .ref T.heap.size :: rest, locked := none }) _
  jvm_step X₁.here [X₁.here.top, hexec, d3', Value.category]
  exact X₁.ldcStringW hexec (own := own) (text := text) (index := is) (a := sa) hown' hstr'.1 hstr'.2
    (g := { method := m, pc := pc + 4, locals := ls, stack := .ref T.heap.size :: .ref T.heap.size :: rest, locked := none }) rfl d4' _ hsteps
end Ends
section Bodies
variable {l : Launch}
theorem vx_ofW {y : MethodName} {ws ws' : List Cond} {rm : Room} {Pc : Array Value → State → Prop} {Qc : Array Value → State → Outcome → State → Prop} {XC : String → State → State → Prop} {mc ms : Nat} {free : Addr → Prop} {cc : ByteArray} {maxL : Nat} {ret : Option FieldType}
    (hy : plainName y.cls = true) (hw : ws = Cond.code y cc maxL ret :: ws')
    (body : ∀ p e s m args below meth c s₁, BodyLoose p l y (headSpec ws rm) cc maxL ret e s m args below meth c s₁ → c.maxLocals = maxL → (∀ x ∈ c.exceptionTable.toList, False) → Pc args s →
      W p l e (headSpec ws rm).room s m args below meth c s.heap [] 0 0 (vx_MQ below Qc XC args s mc ms free) (entryFrame m args maxL)) : vx_Met l y ws rm Pc Qc XC mc ms free := by
  refine MetFree.of_bodyS (code := cc) (maxLocals := maxL) (ret := ret) hy ?_ ?_
  · intro args s m h hn
    obtain ⟨meth, c, h1, h2, h3, h4, h5, h6, -, -⟩ := Cond.code_spec hn (atoms_spec (ws := ws) h _ (by rw [hw]; exact List.mem_cons_self))
    exact ⟨meth, c, h1, h2, h3, h4, h5, h6⟩
  · intro p e s m args below meth c s₁ B hml hP _
    have hh0 : s₁.heap = s.heap := by rw [B.state]; rfl
    have ht : ∀ x ∈ c.exceptionTable.toList, False := by
      obtain ⟨meth9, c9, h1, h2, -, -, -, -, h7, -⟩ := Cond.code_spec B.named (atoms_spec (ws := ws) B.pre _ (by rw [hw]; exact List.mem_cons_self))
      cases Option.some.inj (h1.symm.trans B.method)
      cases Option.some.inj (h2.symm.trans (Stand.of_body B).code)
      intro x hx
      rw [Array.isEmpty_iff.mp h7] at hx
      cases hx
    obtain ⟨t, a1, o, b1, b2, b3⟩ := body p e s m args below meth c s₁ B hml ht hP s₁ hh0 (Stand.of_body B)
    exact ⟨t, o, a1, b1, b2, b3⟩
/-- the table of a body with handlers -/
theorem vx_table {p : Program} {x y : MethodName} {S : Spec} {cc bytes : ByteArray} {maxL maxL' : Nat} {ret ret' : Option FieldType} {e : Env} {s s₁ : State} {m : MethodId} {args : Array Value} {below : List Frame} {meth : Method} {c : Code} {hh : List (Nat × Nat × Nat × Nat)}
    (B : BodyLoose p l y S cc maxL ret e s m args below meth c s₁) (h : (Cond.codeWith y bytes maxL' ret' hh).before args s = true) : c.exceptionTable.toList = tableOf hh := by
  obtain ⟨m9, meth9, c9, hn9, h1, h2, -, -, h6, -⟩ := Cond.codeWith_spec h
  cases Option.some.inj (hn9.symm.trans B.named)
  cases Option.some.inj (h1.symm.trans B.method)
  cases Option.some.inj (h2.symm.trans (Stand.of_body B).code)
  rw [← h6, table_eq]
end Bodies
end VXA
/-! ===== END ===== -/
/-! ===== BEGIN a static call of a method with an exception table ===== -/
section VXS
variable {p : Program} {l : Launch} {e : Env} {R : Room} {s : State} {m : MethodId} {args : Array Value} {below : List Frame} {meth : Method} {c : Code} {T : State} {H : Heap} {locs : List Loc} {cells slots : Nat}
abbrev vx_CSW (R : Room) (s : State) (args : Array Value) (own : String) (index : Nat) (y : MethodName) (bytes : ByteArray) (maxL : Nat) (ret : Option FieldType) (hh : List (Nat × Nat × Nat × Nat)) (ws : List Cond) (rm : Room) (mc ms n : Nat) : Prop :=
  (rm.cells = mc ∧ rm.slots = ms ∧ rm.frames + 1 ≤ R.frames ∧ 8 + (maxL + 11) + rm.locals ≤ R.locals ∧ (∀ w ∈ ws, ∀ (a' : Array Value) (U : State), s.WarmedH U.vm → w.before a' U = true) ∧ Cond.codeWith y bytes maxL ret hh ∈ ws) ∧
  (Cond.codeWith y bytes maxL ret hh).before args s = true ∧ (Cond.initialized y.cls).before args s = true ∧ (y.cls ≠ "java/lang/invoke/MethodHandle" ∧ y.cls ≠ "java/lang/invoke/VarHandle") ∧
  (∀ sig, parseMethodDescriptor y.desc = some sig → n = sig.parameters.length) ∧ (Cond.methodLink own index y).before args s = true ∧ (Cond.static y).before args s = true
theorem vx_cwSW {own : String} {index maxL mc ms : Nat} {y : MethodName} {bytes : ByteArray} {ret : Option FieldType} {hh : List (Nat × Nat × Nat × Nat)} {Ts ws ws' : List Cond} {rm : Room} (n : Nat) (ht : ∀ w ∈ Ts, w.before args s = true) (hT : GoodIn Ts (va_wsS own index y ws)) (hw : ws = Cond.codeWith y bytes maxL ret hh :: ws') (hrc : rm.cells = mc) (hrs : rm.slots = ms)
    (hd : y.cls ≠ "java/lang/invoke/MethodHandle" ∧ y.cls ≠ "java/lang/invoke/VarHandle" ∧ (parseMethodDescriptor y.desc).map (fun d => d.parameters.length) = some n) (hR : rm.frames + 1 ≤ R.frames ∧ 8 + (maxL + 11) + rm.locals ≤ R.locals) :
    vx_CSW R s args own index y bytes maxL ret hh ws rm mc ms n := by
  have ok : ∀ w ∈ va_wsS own index y ws, w.before args s = true := fun w h => ht w (hT w h).1
  have hG : GoodIn Ts ws := fun w h => hT w (by unfold va_wsS; exact List.mem_append_right _ h)
  have hc : Cond.codeWith y bytes maxL ret hh ∈ ws := by rw [hw]; exact List.mem_cons_self
  refine ⟨⟨hrc, hrs, hR.1, hR.2, pay_in ht hG, hc⟩, ht _ (hG _ hc).1, ok _ (by simp [va_wsS]), ⟨hd.1, hd.2.1⟩, fun sig h => ?_, ok _ (by simp [va_wsS]), ok _ (by simp [va_wsS])⟩
  have h2 := hd.2.2
  rw [h] at h2
  exact (Option.some.inj h2).symm
theorem vx_callSW (X : Stand p l e R s m args below meth c T locs cells slots) (hexec : p.tables.exec = Jvm.exec) {own : String} {index : Nat} {y : MethodName} {bytes : ByteArray} {maxL : Nat} {ret : Option FieldType} {hh : List (Nat × Nat × Nat × Nat)}
    (hown : s.vm.findClass own = some m.cls) (hlink : (Cond.methodLink own index y).before args s = true) (hstat : (Cond.static y).before args s = true) (hinit : (Cond.initialized y.cls).before args s = true)
    (hcode : (Cond.codeWith y bytes maxL ret hh).before args s = true) (hy : y.cls ≠ "java/lang/invoke/MethodHandle" ∧ y.cls ≠ "java/lang/invoke/VarHandle")
    {W9 : Nat} {Pre : Pt → Array Value → Prop} {Post : Pt → Array Value → Option Value → Pt → Prop} (hK : Back l R p e below s args y 3 W9 Pre Post)
    {g : JFrame} (hg : g.method = m) (hsize : g.locals.size = c.maxLocals) {argsL rest : List Value} (hlen : ∀ sig, parseMethodDescriptor y.desc = some sig → argsL.length = sig.parameters.length)
    (hstack : g.stack = argsL.reverse ++ rest) (hW : 2 * g.monitorRoom + (rest.map fun v => v.category).sum ≤ W9) (hdg : decode c.code g.pc = .ok (.invokestatic index, 3))
    (hpre : ∀ vm₁, s.WarmedH vm₁ → Pre ⟨T.setVm vm₁, locs, cells, slots⟩ argsL.toArray) :
    ∃ (v : Option Value) (vm₁ : Vm) (B : Pt), s.WarmedH vm₁ ∧ Stand p l e R s m args below meth c B.U B.locs B.cells B.slots ∧ Post ⟨T.setVm vm₁, locs, cells, slots⟩ argsL.toArray v B ∧
      ∀ target, Steps p.tables e below (B.U.setTop { g with pc := g.pc + 3, stack := v.toList ++ rest }) target → Steps p.tables e below (T.setTop g) target := by
  obtain ⟨mk, methM, cM, hnamed, hmethM, -, -, -, -, -, -, hsigM⟩ := Cond.codeWith_spec hcode
  have hstatic : methM.isStatic = true := Cond.static_spec hnamed hmethM hstat
  obtain ⟨kP, hkP, -⟩ := className_of_methodNamed hnamed
  have hinitP : kP.init = .initialized := Cond.initialized_spec (findClass_of_methodNamed hnamed) hkP hinit
  obtain ⟨vm₁, X₁, hstep₁⟩ := X.invokestatic hexec hown hlink hnamed hmethM hstatic hkP hinitP hy (g := g) hg (argsL := argsL) (rest := rest) (hlen _ hsigM) hstack hdg
  obtain ⟨v, B, X', hpost, hsteps⟩ := hK m meth c ⟨T.setVm vm₁, locs, cells, slots⟩ { g with stack := rest } (.invokestatic index) mk argsL.toArray X₁ hg hsize hdg hW (X₁.named hnamed) (hpre vm₁ X₁.warmed)
  exact ⟨v, vm₁, B, X₁.warmed, X', hpost, fun target h => hstep₁ _ fun acts => by rw [doInvoke_state]; exact hsteps.trans h⟩
theorem vx_runSW {y : MethodName} {bytes cc : ByteArray} {maxL nL mc ms n index : Nat} {ret : Option FieldType} {hh : List (Nat × Nat × Nat × Nat)} {ws : List Cond} {rm : Room} {Pc : Array Value → State → Prop} {Qc : Array Value → State → Outcome → State → Prop} {free : Addr → Prop} {Ts : List Cond} {own : String} {As rest : List Value} {g : JFrame}
    (S : CallFix p m c cc nL s args Ts own) (hM : Met l y ws rm Pc Qc mc ms free) (cw : vx_CSW R s args own index y bytes maxL ret hh ws rm mc ms n) (hp : PreS s H Pc As)
    (hg : g.method = m) (hn : As.length = n) (hsize : g.locals.size = nL) (hstack : g.stack = As.reverse ++ rest) (hW : 2 * g.monitorRoom + (rest.map fun v => v.category).sum ≤ 8) (hdg : decode cc g.pc = .ok (.invokestatic index, 3)) (hf : cells + mc ≤ R.cells ∧ slots + ms ≤ R.slots) :
    va_Run p l e R s m args below meth c H locs cells slots mc ms g rest (Qc As.toArray) (free) := by
  obtain ⟨⟨hrc, hrs, hfr, hlo, hws, hcw⟩, hcode, hini, hy, hlen, hl, hstt⟩ := cw
  have hK : Back l R p e below s args y 3 8 (PreOf R mc ms Pc) (PostOf Qc mc ms free) := va_backW (hh := hh) (bytes := bytes) (maxL := maxL) (ret := ret) hM hp.1 hrc hrs hfr hlo hws hcw (fun a' U hW => word_at hW (Or.inl (by first | rfl | simp [Cond.onTables, Cond.keeps, Cond.steady])) hini)
  obtain ⟨hx, hb, hml, ho, -⟩ := S
  intro T hT X
  obtain ⟨v, vm₁, ⟨U', l2, c2, s2⟩, hW₁, X', ⟨g', mk, t, L, e1, e2, hq, h1, hL, h2, h3⟩, st⟩ := vx_callSW X hx (hh := hh) (bytes := bytes) (maxL := maxL) (ret := ret) ho hl hstt hini hcode hy hK hg (hsize.trans hml.symm) (argsL := As) (rest := rest) (fun sig h => hn.trans (hlen sig h)) hstack hW (by rw [hb]; exact hdg)
    (fun vm₁ hW₁ => ⟨hf.1, hf.2, hp.2 (T.setVm vm₁) hT hW₁⟩)
  dsimp only [Pt.U, Pt.locs, Pt.cells, Pt.slots] at X' e1 e2 h1 h2 h3 st
  subst h1; subst h2; subst h3
  exact ⟨v, (T.setVm vm₁).calling g' mk As.toArray, t, U', L, hT, X', hL, e1, e2, hq, st⟩
/-- not caught here, past rows that name other classes: it goes on to the caller -/
theorem vx_outP {p : Program} {l : Launch} {e : Env} {R : Room} {s : State} {m : MethodId} {args : Array Value} {below : List Frame} {meth : Method} {c : Code} {H : Heap} {locs : List Loc} {cells slots : Nat} {free : Addr → Prop} {ls : Array Slot} {rest : List Value} {Qc : Array Value → State → Outcome → State → Prop} {XC : String → State → State → Prop}
    {pc : Nat} {own E : String} {ce : Cell} {q : Addr} {mc ms : Nat} (hown : s.vm.findClass own = some m.cls) (hlocks : meth.locks = false)
    (hpass : ∀ z ∈ c.exceptionTable.toList, covers z pc = false ∨ (z.catchType ≠ 0 ∧ ∃ nm : String, (Cond.classLink own z.catchType nm).before args s = true ∧ va_Nc E nm s)) (hcell : H[q]? = some ce) (hv : ce.vm = .none) (hcl : s.vm.findClass E = some ce.cls)
    (hx : ∀ t : State, t.heap = H → s.vm.Alike t.vm → XC E s t) (hf : ∀ z ∈ locs, free z.base) (hc : cells ≤ mc) (hs : slots ≤ ms) :
    vx_W p l e R s m args below meth c H locs cells slots (vx_MQ below Qc XC args s mc ms free) (F0 m pc ls rest) q := by
  intro T hT X
  have hpl : e.platform.magicAccessors = ({} : Platform).magicAccessors := by rw [X.admits.platform]
  obtain ⟨vm', hW', X', st⟩ := X.outThrough hlocks q (g := F0 m pc ls rest) rfl rfl rfl (cell := ce) (by rw [hT]; exact hcell) (by rw [hv]; rfl)
    (by obtain ⟨k9, h9, -⟩ := Vm.findClass_spec hcl; exact ⟨k9, h9⟩) (fun z hz => by
      rcases hpass z hz with h | ⟨hz0, nm, hl1, hn1⟩
      · exact Or.inl h
      · obtain ⟨c6, hc6, hcl6⟩ := Cond.classLink_spec hown hl1 e.platform hpl
        obtain ⟨a8, b8, h1, h2, h3⟩ := hn1
        cases Option.some.inj (h1.symm.trans hcl)
        cases Option.some.inj (h2.symm.trans hc6)
        exact Or.inr ⟨hz0, _, hcl6, h3⟩)
  obtain ⟨g₀, hfr⟩ := X'.frames_eq
  have hcell9 : ((T.setVm vm').setFrames (.throwing q :: below)).heap[q]? = some ce := by
    show T.heap[q]? = some ce
    rw [hT]; exact hcell
  have hend : Ended ((T.setVm vm').setFrames (.throwing q :: below)) below (.threw q) := State.frames_setFrames _ (State.cur_lt_of_frames hfr)
  refine ⟨(T.setVm vm').setFrames (.throwing q :: below), ?_, .threw q, X'.here.running, hend, Or.inr ⟨q, rfl, E, ce, locs, hx _ hT (X'.ends _).1.alike, hcell9, hv, hcl, (X'.ends _).1, (X'.ends _).2.mono hc hs, hf⟩⟩
  rw [X.pushThrowing_eq]
  exact st
/-- a thing of a world lies in the heap -/
theorem vx_lt {D : va_G} {cl : List vw_C} {ws : va_W} {H1 : Heap} (h : va_P D cl ws H1) {k : Nat} {q : Nat × va_E} (hk : ws[k]? = some q) : q.1 < H1.size := (h k q hk).lt
end VXS
/-! ===== END ===== -/
/-! ===== BEGIN methods with a table of their own: called by a name, returning or throwing ===== -/
section VXH
/-! vx_backW, vx_callVX, vx_callSX, vx_callVW, vx_runVW, vx_runVX, vx_runSX, vx_ofWH follow the same proofs as their sisters above (Free/Laws.lean, Shelf42/LK1.lean); vx_outP calls Shelf42/NT130.lean (outThrough). -/
section
variable {l : Launch} {R : Room} {p : Program} {e : Env} {below : List Frame} {s : State} {sargs : Array Value} {y : MethodName} {len W9 : Nat}
theorem vx_backW {ws : List Cond} {rm : Room} {Pc : Array Value → State → Prop} {Qc : Array Value → State → Outcome → State → Prop} {XC : String → State → State → Prop} {mc ms : Nat} {free : Addr → Prop} {bytes : ByteArray} {maxL : Nat} {ret : Option FieldType} {hh : List (Nat × Nat × Nat × Nat)}
    (hM : vx_Met l y ws rm Pc Qc XC mc ms free) (hblind : FrameBlind Pc) (hrc : rm.cells = mc) (hrs : rm.slots = ms)
    (hframes : rm.frames + 1 ≤ R.frames) (hlocals : W9 + (maxL + 11) + rm.locals ≤ R.locals)
    (hws : ∀ w ∈ ws, ∀ a' U, s.WarmedH U.vm → w.before a' U = true) (hcode : Cond.codeWith y bytes maxL ret hh ∈ ws) (hinit : ∀ a' U, s.WarmedH U.vm → (Cond.initialized y.cls).before a' U = true) :
    vx_Back l R p e below s sargs y len W9 (PreOf R mc ms Pc) (PostOf Qc mc ms free) (vx_Post XC mc ms free) := by
  intro m meth c A g ig mk a X hg hsize hdg hW hn hp
  have h1 : (headSpec ws rm).pre.before a A.U = true := atoms_intro fun w hw => hws w hw _ _ X.warmed
  have h2 : (Cond.codeWith y bytes maxL ret hh).before a A.U = true := hws _ hcode _ _ X.warmed
  have h3 : (Cond.initialized y.cls).before a A.U = true := hinit _ _ X.warmed
  have h4 : A.cells + (headSpec ws rm).room.cells ≤ R.cells := by rw [show (headSpec ws rm).room.cells = mc from hrc]; exact hp.1
  have h5 : A.slots + (headSpec ws rm).room.slots ≤ R.slots := by rw [show (headSpec ws rm).room.slots = ms from hrs]; exact hp.2.1
  have hPc : Pc a (A.U.calling g mk a) := hblind _ _ _ _ hp.2.2
  obtain ⟨U, Ls, c0, s0⟩ := A
  dsimp only [Pt.U, Pt.locs, Pt.cells, Pt.slots] at h1 h2 h3 h4 h5 X hn hPc ⊢
  obtain ⟨m9, methY, cY, hn9, hmY, hcY, -, hlY, -⟩ := Cond.codeWith_spec h2
  cases Option.some.inj (hn9.symm.trans hn)
  obtain ⟨kY, hkY, -⟩ := className_of_methodNamed hn
  have hinitY : kY.init = .initialized := Cond.initialized_spec (findClass_of_methodNamed hn) hkY h3
  have h : At U g.method c below := by rw [hg]; exact X.here
  have hlocals9 : W9 + (maxL + 11) + (headSpec ws rm).room.locals ≤ R.locals := hlocals
  have happ : (headSpec ws rm).appliesLoose y e.platform (U.calling g mk a) = true :=
    Spec.appliesLoose_calling (g := g) h hdg hn hkY hinitY
      (X.room_calling (g := g) (R' := (headSpec ws rm).room) hsize hmY hcY hframes (by rw [hlY]; omega) h4 h5) h1
  obtain ⟨mid, hmid⟩ := h.above
  have hfr : (U.setTop g).frames = (.java g :: mid) ++ below := by rw [State.frames_setTop' g h.top, hmid]; rfl
  obtain ⟨o, s₂, hsteps, -, hend, hq⟩ := Steps.callFree hM p X.admits X.cas X.clock (acts := []) hfr happ hPc trivial
  have hq' : vx_Q Qc XC mc ms free a (U.calling g mk a) o s₂ := hq
  rw [State.frames_setTop' g h.top] at hend
  obtain ⟨g₀, hg0⟩ := Option.isSome_iff_exists.mp h.top
  obtain ⟨r, hr⟩ := State.topJava?_eq_some.mp hg0
  have hr' : (({ U with heap := s₂.heap, slotsUsed := s₂.slotsUsed } : State).setVm s₂.vm).frames = .java g₀ :: r := hr
  rcases hq' with ⟨hqc, L, hfe, hL⟩ | ⟨q, rfl, E, ce, L, hx, hce, hcv, hcl, hW₂, hsm, hL⟩
  · obtain ⟨⟨v, rfl⟩, hW₂, e2, q2, q3, q4, q5, q6⟩ := id hfe
    have e3 : s₂ = ({ (U.calling g mk a).setFrames s₂.frames with heap := s₂.heap, slotsUsed := s₂.slotsUsed } : State).setVm s₂.vm := by
      have : s₂ = ({ s₂ with vm := (U.calling g mk a).vm } : State).setVm s₂.vm := rfl
      rw [e2] at this
      exact this
    obtain ⟨c₂, i₂, len₂, hc₂, hd₂, hf₂⟩ := hend
    have hW' : U.WarmedH s₂.vm := hW₂
    have hcc : c₂ = c := by
      have h1 : s₂.code? g.method = U.code? g.method := by
        rw [State.code?_eq, State.code?_eq, hW'.alike.method?]
      exact Option.some.inj (hc₂.symm.trans (h1.trans h.code))
    subst hcc
    have hlen : len₂ = len := by rw [hdg] at hd₂; cases hd₂; rfl
    subst hlen
    have hs₂ : s₂ = (({ U with heap := s₂.heap, slotsUsed := s₂.slotsUsed } : State).setVm s₂.vm).setTop { g with pc := g.pc + len₂, stack := v.toList ++ g.stack } := by
      refine e3.trans ?_
      rw [hf₂, State.calling_eq h.top, State.setFrames_setFrames, State.setTop_of_frames _ hr', hr]
      rfl
    have hsame : U.sameButNew ({ U with heap := s₂.heap, slotsUsed := s₂.slotsUsed } : State) L mc ms := by
      refine ⟨?_, q2, q3, q4, q5, q6⟩
      obtain ⟨t, ht, -⟩ := State.frames_cons hr
      show ({ U with heap := s₂.heap, slotsUsed := s₂.slotsUsed } : State) = { U.setFrames U.frames with heap := s₂.heap, slotsUsed := s₂.slotsUsed }
      rw [State.setFrames_self ht]
    subst hg
    refine Or.inl ⟨v, ⟨(({ U with heap := s₂.heap, slotsUsed := s₂.slotsUsed } : State).setVm s₂.vm), Ls ++ L, c0 + mc, s0 + ms⟩,
      ⟨X.admits, X.cas, X.clock, X.frames, X.room, X.hears, X.method, X.code, (X.here.setHeapUsed s₂.heap s₂.slotsUsed).setVm hW'.alike, X.tail, State.WarmedH.trans X.warmed hW', X.limits, X.bytes, X.same.trans (hsame.setVm s.vm)⟩,
      ⟨g, mk, s₂, L, rfl, rfl, hqc, rfl, hL, rfl, rfl⟩, ?_⟩
    show Steps p.tables e below _ ((({ U with heap := s₂.heap, slotsUsed := s₂.slotsUsed } : State).setVm s₂.vm).setTop { g with pc := g.pc + len₂, stack := v.toList ++ g.stack })
    rw [← hs₂]
    exact hsteps
  · obtain ⟨e2, q2, q3, q4, q5, q6⟩ := id hsm
    have e3 : s₂ = ({ (U.calling g mk a).setFrames s₂.frames with heap := s₂.heap, slotsUsed := s₂.slotsUsed } : State).setVm s₂.vm := by
      have : s₂ = ({ s₂ with vm := (U.calling g mk a).vm } : State).setVm s₂.vm := rfl
      rw [e2] at this
      exact this
    have hf₂ : s₂.frames = .throwing q :: .java g :: U.frames.tail := hend
    have hW' : U.WarmedH s₂.vm := hW₂
    have hs₂ : s₂ = ((({ U with heap := s₂.heap, slotsUsed := s₂.slotsUsed } : State).setVm s₂.vm).setTop g).pushFrame (.throwing q) := by
      refine e3.trans ?_
      rw [hf₂, State.calling_eq h.top, State.setFrames_setFrames, State.pushFrame, State.frames_setTop _ hr', State.setTop_of_frames _ hr', State.setFrames_setFrames, hr]
      rfl
    have hsame : U.sameButNew ({ U with heap := s₂.heap, slotsUsed := s₂.slotsUsed } : State) L mc ms := by
      refine ⟨?_, q2, q3, q4, q5, q6⟩
      obtain ⟨t, ht, -⟩ := State.frames_cons hr
      show ({ U with heap := s₂.heap, slotsUsed := s₂.slotsUsed } : State) = { U.setFrames U.frames with heap := s₂.heap, slotsUsed := s₂.slotsUsed }
      rw [State.setFrames_self ht]
    subst hg
    refine Or.inr ⟨q, ⟨(({ U with heap := s₂.heap, slotsUsed := s₂.slotsUsed } : State).setVm s₂.vm), Ls ++ L, c0 + mc, s0 + ms⟩,
      ⟨X.admits, X.cas, X.clock, X.frames, X.room, X.hears, X.method, X.code, (X.here.setHeapUsed s₂.heap s₂.slotsUsed).setVm hW'.alike, X.tail, State.WarmedH.trans X.warmed hW', X.limits, X.bytes, X.same.trans (hsame.setVm s.vm)⟩,
      ⟨g, mk, s₂, L, E, ce, rfl, rfl, hx, hce, hcv, hcl, rfl, hL, rfl, rfl⟩, ?_⟩
    show Steps p.tables e below _ (((({ U with heap := s₂.heap, slotsUsed := s₂.slotsUsed } : State).setVm s₂.vm).setTop g).pushFrame (.throwing q))
    rw [← hs₂]
    exact hsteps
end
variable {p : Program} {l : Launch} {e : Env} {R : Room} {s : State} {m : MethodId} {args : Array Value} {below : List Frame} {meth : Method} {c : Code} {T : State} {H : Heap} {locs : List Loc} {cells slots : Nat}
theorem vx_callVX (X : Stand p l e R s m args below meth c T locs cells slots) (hexec : p.tables.exec = Jvm.exec) {own C : String} {index : Nat} {y : MethodName} {bytes : ByteArray} {maxL : Nat} {ret : Option FieldType} {hh : List (Nat × Nat × Nat × Nat)}
    (hown : s.vm.findClass own = some m.cls) (hlink : (Cond.methodLink own index y).before args s = true) (hinst : (Cond.instanceMethod y).before args s = true) (hsel : (Cond.selects C y y).before args s = true)
    (hcode : (Cond.codeWith y bytes maxL ret hh).before args s = true) (hy : y.cls ≠ "java/lang/invoke/MethodHandle" ∧ y.cls ≠ "java/lang/invoke/VarHandle")
    {W9 : Nat} {Pre : Pt → Array Value → Prop} {Post : Pt → Array Value → Option Value → Pt → Prop} {PostX : Pt → Array Value → Addr → Pt → Prop} (hK : vx_Back l R p e below s args y 3 W9 Pre Post PostX)
    {b : Addr} {cellB : Cell} (hcell : T.heap[b]? = some cellB) (hobj : cellB.vm.isStatics = false) (hcls : s.vm.findClass C = some cellB.cls)
    {g : JFrame} (hg : g.method = m) (hsize : g.locals.size = c.maxLocals) {argsL rest : List Value} (hlen : ∀ sig, parseMethodDescriptor y.desc = some sig → argsL.length = sig.parameters.length)
    (hstack : g.stack = argsL.reverse ++ .ref b :: rest) (hW : 2 * g.monitorRoom + (rest.map fun v => v.category).sum ≤ W9) (hdg : decode c.code g.pc = .ok (.invokevirtual index, 3))
    (hpre : ∀ vm₁, s.WarmedH vm₁ → Pre ⟨T.setVm vm₁, locs, cells, slots⟩ (Value.ref b :: argsL).toArray) :
    (∃ (v : Option Value) (vm₁ : Vm) (B : Pt), s.WarmedH vm₁ ∧ Stand p l e R s m args below meth c B.U B.locs B.cells B.slots ∧ Post ⟨T.setVm vm₁, locs, cells, slots⟩ (Value.ref b :: argsL).toArray v B ∧
      ∀ target, Steps p.tables e below (B.U.setTop { g with pc := g.pc + 3, stack := v.toList ++ rest }) target → Steps p.tables e below (T.setTop g) target) ∨
    (∃ (q : Addr) (vm₁ : Vm) (B : Pt), s.WarmedH vm₁ ∧ Stand p l e R s m args below meth c B.U B.locs B.cells B.slots ∧ PostX ⟨T.setVm vm₁, locs, cells, slots⟩ (Value.ref b :: argsL).toArray q B ∧
      Steps p.tables e below (T.setTop g) ((B.U.setTop { g with stack := rest }).pushFrame (.throwing q))) := by
  obtain ⟨mk, methM, hnamed, hmethM, hstM, habM⟩ := Cond.instanceMethod_spec hinst
  obtain ⟨m8, methM', cM, hn8, hmethM', -, -, -, -, -, -, hsigM⟩ := Cond.codeWith_spec hcode
  cases Option.some.inj (hn8.symm.trans hnamed)
  cases hmethM.symm.trans hmethM'
  obtain ⟨c2, r2, m2, q1, q2, q3, q4, kP, hkP, hkPi⟩ := Cond.selects_spec hsel
  cases hcls.symm.trans q1
  cases (State.methodFound?_of_named hnamed hy).symm.trans q2
  cases hnamed.symm.trans q3
  have hselP : selectMethod e.platform s.vm cellB.cls mk = .method mk := by rw [Launch.admits_selectMethod X.admits]; exact q4
  obtain ⟨vm₁, X₁, hstep₁⟩ := X.invokevirtual hexec hown hlink hnamed hmethM hstM hkP hkPi hy (a := b) (cell := cellB) hcell
    (fun z h => by rw [h] at hobj; cases hobj) hselP hmethM habM hkP hkPi (g := g) hg (argsL := argsL) (rest := rest) (hlen _ hsigM) hstack hdg
  rcases hK m meth c ⟨T.setVm vm₁, locs, cells, slots⟩ { g with stack := rest } (.invokevirtual index) mk (Value.ref b :: argsL).toArray X₁ hg hsize hdg hW (X₁.named hnamed) (hpre vm₁ X₁.warmed) with ⟨v, B, X', hpost, hsteps⟩ | ⟨q, B, X', hpost, hsteps⟩
  · exact Or.inl ⟨v, vm₁, B, X₁.warmed, X', hpost, fun target h => hstep₁ _ fun acts => by rw [doInvoke_state]; exact hsteps.trans h⟩
  · exact Or.inr ⟨q, vm₁, B, X₁.warmed, X', hpost, hstep₁ _ fun acts => by rw [doInvoke_state]; exact hsteps⟩
theorem vx_callSX (X : Stand p l e R s m args below meth c T locs cells slots) (hexec : p.tables.exec = Jvm.exec) {own : String} {index : Nat} {y : MethodName} {bytes : ByteArray} {maxL : Nat} {ret : Option FieldType} {hh : List (Nat × Nat × Nat × Nat)}
    (hown : s.vm.findClass own = some m.cls) (hlink : (Cond.methodLink own index y).before args s = true) (hstat : (Cond.static y).before args s = true) (hinit : (Cond.initialized y.cls).before args s = true)
    (hcode : (Cond.codeWith y bytes maxL ret hh).before args s = true) (hy : y.cls ≠ "java/lang/invoke/MethodHandle" ∧ y.cls ≠ "java/lang/invoke/VarHandle")
    {W9 : Nat} {Pre : Pt → Array Value → Prop} {Post : Pt → Array Value → Option Value → Pt → Prop} {PostX : Pt → Array Value → Addr → Pt → Prop} (hK : vx_Back l R p e below s args y 3 W9 Pre Post PostX)
    {g : JFrame} (hg : g.method = m) (hsize : g.locals.size = c.maxLocals) {argsL rest : List Value} (hlen : ∀ sig, parseMethodDescriptor y.desc = some sig → argsL.length = sig.parameters.length)
    (hstack : g.stack = argsL.reverse ++ rest) (hW : 2 * g.monitorRoom + (rest.map fun v => v.category).sum ≤ W9) (hdg : decode c.code g.pc = .ok (.invokestatic index, 3))
    (hpre : ∀ vm₁, s.WarmedH vm₁ → Pre ⟨T.setVm vm₁, locs, cells, slots⟩ argsL.toArray) :
    (∃ (v : Option Value) (vm₁ : Vm) (B : Pt), s.WarmedH vm₁ ∧ Stand p l e R s m args below meth c B.U B.locs B.cells B.slots ∧ Post ⟨T.setVm vm₁, locs, cells, slots⟩ argsL.toArray v B ∧
      ∀ target, Steps p.tables e below (B.U.setTop { g with pc := g.pc + 3, stack := v.toList ++ rest }) target → Steps p.tables e below (T.setTop g) target) ∨
    (∃ (q : Addr) (vm₁ : Vm) (B : Pt), s.WarmedH vm₁ ∧ Stand p l e R s m args below meth c B.U B.locs B.cells B.slots ∧ PostX ⟨T.setVm vm₁, locs, cells, slots⟩ argsL.toArray q B ∧
      Steps p.tables e below (T.setTop g) ((B.U.setTop { g with stack := rest }).pushFrame (.throwing q))) := by
  obtain ⟨mk, methM, cM, hnamed, hmethM, -, -, -, -, -, -, hsigM⟩ := Cond.codeWith_spec hcode
  have hstatic : methM.isStatic = true := Cond.static_spec hnamed hmethM hstat
  obtain ⟨kP, hkP, -⟩ := className_of_methodNamed hnamed
  have hinitP : kP.init = .initialized := Cond.initialized_spec (findClass_of_methodNamed hnamed) hkP hinit
  obtain ⟨vm₁, X₁, hstep₁⟩ := X.invokestatic hexec hown hlink hnamed hmethM hstatic hkP hinitP hy (g := g) hg (argsL := argsL) (rest := rest) (hlen _ hsigM) hstack hdg
  rcases hK m meth c ⟨T.setVm vm₁, locs, cells, slots⟩ { g with stack := rest } (.invokestatic index) mk argsL.toArray X₁ hg hsize hdg hW (X₁.named hnamed) (hpre vm₁ X₁.warmed) with ⟨v, B, X', hpost, hsteps⟩ | ⟨q, B, X', hpost, hsteps⟩
  · exact Or.inl ⟨v, vm₁, B, X₁.warmed, X', hpost, fun target h => hstep₁ _ fun acts => by rw [doInvoke_state]; exact hsteps.trans h⟩
  · exact Or.inr ⟨q, vm₁, B, X₁.warmed, X', hpost, hstep₁ _ fun acts => by rw [doInvoke_state]; exact hsteps⟩
theorem vx_callVW (X : Stand p l e R s m args below meth c T locs cells slots) (hexec : p.tables.exec = Jvm.exec) {own C : String} {index : Nat} {y : MethodName} {bytes : ByteArray} {maxL : Nat} {ret : Option FieldType} {hh : List (Nat × Nat × Nat × Nat)}
    (hown : s.vm.findClass own = some m.cls) (hlink : (Cond.methodLink own index y).before args s = true) (hinst : (Cond.instanceMethod y).before args s = true) (hsel : (Cond.selects C y y).before args s = true)
    (hcode : (Cond.codeWith y bytes maxL ret hh).before args s = true) (hy : y.cls ≠ "java/lang/invoke/MethodHandle" ∧ y.cls ≠ "java/lang/invoke/VarHandle")
    {W9 : Nat} {Pre : Pt → Array Value → Prop} {Post : Pt → Array Value → Option Value → Pt → Prop} (hK : Back l R p e below s args y 3 W9 Pre Post)
    {b : Addr} {cellB : Cell} (hcell : T.heap[b]? = some cellB) (hobj : cellB.vm.isStatics = false) (hcls : s.vm.findClass C = some cellB.cls)
    {g : JFrame} (hg : g.method = m) (hsize : g.locals.size = c.maxLocals) {argsL rest : List Value} (hlen : ∀ sig, parseMethodDescriptor y.desc = some sig → argsL.length = sig.parameters.length)
    (hstack : g.stack = argsL.reverse ++ .ref b :: rest) (hW : 2 * g.monitorRoom + (rest.map fun v => v.category).sum ≤ W9) (hdg : decode c.code g.pc = .ok (.invokevirtual index, 3))
    (hpre : ∀ vm₁, s.WarmedH vm₁ → Pre ⟨T.setVm vm₁, locs, cells, slots⟩ (Value.ref b :: argsL).toArray) :
    ∃ (v : Option Value) (vm₁ : Vm) (B : Pt), s.WarmedH vm₁ ∧ Stand p l e R s m args below meth c B.U B.locs B.cells B.slots ∧ Post ⟨T.setVm vm₁, locs, cells, slots⟩ (Value.ref b :: argsL).toArray v B ∧
      ∀ target, Steps p.tables e below (B.U.setTop { g with pc := g.pc + 3, stack := v.toList ++ rest }) target → Steps p.tables e below (T.setTop g) target := by
  obtain ⟨mk, methM, hnamed, hmethM, hstM, habM⟩ := Cond.instanceMethod_spec hinst
  obtain ⟨m8, methM', cM, hn8, hmethM', -, -, -, -, -, -, hsigM⟩ := Cond.codeWith_spec hcode
  cases Option.some.inj (hn8.symm.trans hnamed)
  cases hmethM.symm.trans hmethM'
  obtain ⟨c2, r2, m2, q1, q2, q3, q4, kP, hkP, hkPi⟩ := Cond.selects_spec hsel
  cases hcls.symm.trans q1
  cases (State.methodFound?_of_named hnamed hy).symm.trans q2
  cases hnamed.symm.trans q3
  have hselP : selectMethod e.platform s.vm cellB.cls mk = .method mk := by rw [Launch.admits_selectMethod X.admits]; exact q4
  obtain ⟨vm₁, X₁, hstep₁⟩ := X.invokevirtual hexec hown hlink hnamed hmethM hstM hkP hkPi hy (a := b) (cell := cellB) hcell
    (fun z h => by rw [h] at hobj; cases hobj) hselP hmethM habM hkP hkPi (g := g) hg (argsL := argsL) (rest := rest) (hlen _ hsigM) hstack hdg
  obtain ⟨v, B, X', hpost, hsteps⟩ := hK m meth c ⟨T.setVm vm₁, locs, cells, slots⟩ { g with stack := rest } (.invokevirtual index) mk (Value.ref b :: argsL).toArray X₁ hg hsize hdg hW (X₁.named hnamed) (hpre vm₁ X₁.warmed)
  exact ⟨v, vm₁, B, X₁.warmed, X', hpost, fun target h => hstep₁ _ fun acts => by rw [doInvoke_state]; exact hsteps.trans h⟩
abbrev vx_CVW (R : Room) (s : State) (args : Array Value) (own C : String) (index : Nat) (y : MethodName) (bytes : ByteArray) (maxL : Nat) (ret : Option FieldType) (hh : List (Nat × Nat × Nat × Nat)) (ws : List Cond) (rm : Room) (mc ms n : Nat) : Prop :=
  (rm.cells = mc ∧ rm.slots = ms ∧ rm.frames + 1 ≤ R.frames ∧ 8 + (maxL + 11) + rm.locals ≤ R.locals ∧ (∀ w ∈ ws, ∀ (a' : Array Value) (U : State), s.WarmedH U.vm → w.before a' U = true) ∧ Cond.codeWith y bytes maxL ret hh ∈ ws) ∧
  (Cond.codeWith y bytes maxL ret hh).before args s = true ∧ (Cond.initialized y.cls).before args s = true ∧ (y.cls ≠ "java/lang/invoke/MethodHandle" ∧ y.cls ≠ "java/lang/invoke/VarHandle") ∧
  (∀ sig, parseMethodDescriptor y.desc = some sig → n = sig.parameters.length) ∧ (Cond.methodLink own index y).before args s = true ∧ (Cond.instanceMethod y).before args s = true ∧ (Cond.selects C y y).before args s = true
theorem vx_cwVW {own C : String} {index maxL mc ms : Nat} {y : MethodName} {bytes : ByteArray} {ret : Option FieldType} {hh : List (Nat × Nat × Nat × Nat)} {Ts ws ws' : List Cond} {rm : Room} (n : Nat) (ht : ∀ w ∈ Ts, w.before args s = true) (hT : GoodIn Ts (wsV own index C y ws)) (hw : ws = Cond.codeWith y bytes maxL ret hh :: ws') (hrc : rm.cells = mc) (hrs : rm.slots = ms)
    (hd : y.cls = C ∧ y.cls ≠ "java/lang/invoke/MethodHandle" ∧ y.cls ≠ "java/lang/invoke/VarHandle" ∧ (parseMethodDescriptor y.desc).map (fun d => d.parameters.length) = some n) (hR : rm.frames + 1 ≤ R.frames ∧ 8 + (maxL + 11) + rm.locals ≤ R.locals) :
    vx_CVW R s args own C index y bytes maxL ret hh ws rm mc ms n := by
  obtain ⟨hC, hd⟩ := hd
  subst hC
  have ok : ∀ w ∈ wsV own index y.cls y ws, w.before args s = true := fun w h => ht w (hT w h).1
  have hG : GoodIn Ts ws := fun w h => hT w (by unfold wsV; exact List.mem_append_right _ h)
  have hc : Cond.codeWith y bytes maxL ret hh ∈ ws := by rw [hw]; exact List.mem_cons_self
  refine ⟨⟨hrc, hrs, hR.1, hR.2, pay_in ht hG, hc⟩, ht _ (hG _ hc).1, ok _ (by simp [wsV]), ⟨hd.1, hd.2.1⟩, fun sig h => ?_, ok _ (by simp [wsV]), ok _ (by simp [wsV]), ok _ (by simp [wsV])⟩
  have h2 := hd.2.2
  rw [h] at h2
  exact (Option.some.inj h2).symm
theorem vx_runVW {y : MethodName} {bytes cc : ByteArray} {maxL nL mc ms n index : Nat} {ret : Option FieldType} {hh : List (Nat × Nat × Nat × Nat)} {ws : List Cond} {rm : Room} {Pc : Array Value → State → Prop} {Qc : Array Value → State → Outcome → State → Prop} {free : Addr → Prop} {Ts : List Cond} {own C : String} {b : Addr} {As rest : List Value} {g : JFrame}
    (S : CallFix p m c cc nL s args Ts own) (hM : Met l y ws rm Pc Qc mc ms free) (cw : vx_CVW R s args own C index y bytes maxL ret hh ws rm mc ms n) (hp : PreV s H C b Pc As)
    (hg : g.method = m) (hn : As.length = n) (hsize : g.locals.size = nL) (hstack : g.stack = As.reverse ++ .ref b :: rest) (hW : 2 * g.monitorRoom + (rest.map fun v => v.category).sum ≤ 8) (hdg : decode cc g.pc = .ok (.invokevirtual index, 3)) (hf : cells + mc ≤ R.cells ∧ slots + ms ≤ R.slots) :
    va_Run p l e R s m args below meth c H locs cells slots mc ms g rest (Qc (Value.ref b :: As).toArray) free := by
  obtain ⟨⟨hrc, hrs, hfr, hlo, hws, hcw⟩, hcode, hini, hy, hlen, hl, hin, hse⟩ := cw
  have hK : Back l R p e below s args y 3 8 (PreOf R mc ms Pc) (PostOf Qc mc ms free) := va_backW (hh := hh) (bytes := bytes) (maxL := maxL) (ret := ret) hM hp.1 hrc hrs hfr hlo hws hcw (fun a' U hW => word_at hW (Or.inl (by first | rfl | simp [Cond.onTables, Cond.keeps, Cond.steady])) hini)
  obtain ⟨hx, hb, hml, ho, -⟩ := S
  obtain ⟨-, ⟨cellB, hcB, hoB, hclB⟩, hPc⟩ := hp
  intro T hT X
  obtain ⟨v, vm₁, ⟨U', l2, c2, s2⟩, hW₁, X', ⟨g', mk, t, L, e1, e2, hq, h1, hL, h2, h3⟩, st⟩ := vx_callVW X hx (C := C) (hh := hh) (bytes := bytes) (maxL := maxL) (ret := ret) ho hl hin hse hcode hy hK (by rw [hT]; exact hcB) hoB hclB hg (hsize.trans hml.symm) (argsL := As) (rest := rest) (fun sig h => hn.trans (hlen sig h)) hstack hW (by rw [hb]; exact hdg)
    (fun vm₁ hW₁ => ⟨hf.1, hf.2, hPc (T.setVm vm₁) hT hW₁⟩)
  dsimp only [Pt.U, Pt.locs, Pt.cells, Pt.slots] at X' e1 e2 h1 h2 h3 st
  subst h1; subst h2; subst h3
  exact ⟨v, (T.setVm vm₁).calling g' mk (Value.ref b :: As).toArray, t, U', L, hT, X', hL, e1, e2, hq, st⟩
section
variable {y : MethodName} {bytes cc : ByteArray} {maxL nL mc ms n index : Nat} {ret : Option FieldType} {ws : List Cond} {rm : Room} {Pc : Array Value → State → Prop} {Qc : Array Value → State → Outcome → State → Prop} {XC : String → State → State → Prop} {free : Addr → Prop} {Ts : List Cond} {own C : String} {b : Addr} {As rest : List Value} {g : JFrame}
theorem vx_runVX {hh : List (Nat × Nat × Nat × Nat)} (S : CallFix p m c cc nL s args Ts own) (hM : vx_Met l y ws rm Pc Qc XC mc ms free) (cw : vx_CVW R s args own C index y bytes maxL ret hh ws rm mc ms n) (hp : PreV s H C b Pc As)
    (hg : g.method = m) (hn : As.length = n) (hsize : g.locals.size = nL) (hstack : g.stack = As.reverse ++ .ref b :: rest) (hW : 2 * g.monitorRoom + (rest.map fun v => v.category).sum ≤ 8) (hdg : decode cc g.pc = .ok (.invokevirtual index, 3)) (hf : cells + mc ≤ R.cells ∧ slots + ms ≤ R.slots) :
    vx_Run p l e R s m args below meth c H locs cells slots mc ms g rest (Qc (Value.ref b :: As).toArray) XC free := by
  obtain ⟨⟨hrc, hrs, hfr, hlo, hws, hcw⟩, hcode, hini, hy, hlen, hl, hin, hse⟩ := cw
  have hK : vx_Back l R p e below s args y 3 8 (PreOf R mc ms Pc) (PostOf Qc mc ms free) (vx_Post XC mc ms free) := vx_backW (hh := hh) (bytes := bytes) (maxL := maxL) (ret := ret) hM hp.1 hrc hrs hfr hlo hws hcw (fun a' U hW => word_at hW (Or.inl (by first | rfl | simp [Cond.onTables, Cond.keeps, Cond.steady])) hini)
  obtain ⟨hx, hb, hml, ho, -⟩ := S
  obtain ⟨-, ⟨cellB, hcB, hoB, hclB⟩, hPc⟩ := hp
  intro T hT X
  rcases vx_callVX X hx (C := C) (hh := hh) (bytes := bytes) (maxL := maxL) (ret := ret) ho hl hin hse hcode hy hK (by rw [hT]; exact hcB) hoB hclB hg (hsize.trans hml.symm) (argsL := As) (rest := rest) (fun sig h => hn.trans (hlen sig h)) hstack hW (by rw [hb]; exact hdg)
    (fun vm₁ hW₁ => ⟨hf.1, hf.2, hPc (T.setVm vm₁) hT hW₁⟩) with ⟨v, vm₁, ⟨U', l2, c2, s2⟩, hW₁, X', ⟨g', mk, t, L, e1, e2, hq, h1, hL, h2, h3⟩, st⟩ | ⟨q, vm₁, ⟨U', l2, c2, s2⟩, hW₁, X', ⟨g', mk, t, L, E, ce, e1, e2, hq, hce, hcv, hcl, h1, hL, h2, h3⟩, st⟩
  · dsimp only [Pt.U, Pt.locs, Pt.cells, Pt.slots] at X' e1 e2 h1 h2 h3 st
    subst h1; subst h2; subst h3
    exact Or.inl ⟨v, (T.setVm vm₁).calling g' mk (Value.ref b :: As).toArray, t, U', L, hT, X', hL, e1, e2, hq, st⟩
  · dsimp only [Pt.U, Pt.locs, Pt.cells, Pt.slots] at X' e1 e2 h1 h2 h3 st hcl
    subst h1; subst h2; subst h3
    exact Or.inr ⟨q, (T.setVm vm₁).calling g' mk (Value.ref b :: As).toArray, t, U', L, E, ce, hT, X', hL, e1, e2, hq, hce, hcv, vx_cls hW₁ hcl, st⟩
theorem vx_runSX {hh : List (Nat × Nat × Nat × Nat)} (S : CallFix p m c cc nL s args Ts own) (hM : vx_Met l y ws rm Pc Qc XC mc ms free) (cw : vx_CSW R s args own index y bytes maxL ret hh ws rm mc ms n) (hp : PreS s H Pc As)
    (hg : g.method = m) (hn : As.length = n) (hsize : g.locals.size = nL) (hstack : g.stack = As.reverse ++ rest) (hW : 2 * g.monitorRoom + (rest.map fun v => v.category).sum ≤ 8) (hdg : decode cc g.pc = .ok (.invokestatic index, 3)) (hf : cells + mc ≤ R.cells ∧ slots + ms ≤ R.slots) :
    vx_Run p l e R s m args below meth c H locs cells slots mc ms g rest (Qc As.toArray) XC free := by
  obtain ⟨⟨hrc, hrs, hfr, hlo, hws, hcw⟩, hcode, hini, hy, hlen, hl, hstt⟩ := cw
  have hK : vx_Back l R p e below s args y 3 8 (PreOf R mc ms Pc) (PostOf Qc mc ms free) (vx_Post XC mc ms free) := vx_backW (hh := hh) (bytes := bytes) (maxL := maxL) (ret := ret) hM hp.1 hrc hrs hfr hlo hws hcw (fun a' U hW => word_at hW (Or.inl (by first | rfl | simp [Cond.onTables, Cond.keeps, Cond.steady])) hini)
  obtain ⟨hx, hb, hml, ho, -⟩ := S
  intro T hT X
  rcases vx_callSX X hx (hh := hh) (bytes := bytes) (maxL := maxL) (ret := ret) ho hl hstt hini hcode hy hK hg (hsize.trans hml.symm) (argsL := As) (rest := rest) (fun sig h => hn.trans (hlen sig h)) hstack hW (by rw [hb]; exact hdg)
    (fun vm₁ hW₁ => ⟨hf.1, hf.2, hp.2 (T.setVm vm₁) hT hW₁⟩) with ⟨v, vm₁, ⟨U', l2, c2, s2⟩, hW₁, X', ⟨g', mk, t, L, e1, e2, hq, h1, hL, h2, h3⟩, st⟩ | ⟨q, vm₁, ⟨U', l2, c2, s2⟩, hW₁, X', ⟨g', mk, t, L, E, ce, e1, e2, hq, hce, hcv, hcl, h1, hL, h2, h3⟩, st⟩
  · dsimp only [Pt.U, Pt.locs, Pt.cells, Pt.slots] at X' e1 e2 h1 h2 h3 st
    subst h1; subst h2; subst h3
    exact Or.inl ⟨v, (T.setVm vm₁).calling g' mk As.toArray, t, U', L, hT, X', hL, e1, e2, hq, st⟩
  · dsimp only [Pt.U, Pt.locs, Pt.cells, Pt.slots] at X' e1 e2 h1 h2 h3 st hcl
    subst h1; subst h2; subst h3
    exact Or.inr ⟨q, (T.setVm vm₁).calling g' mk As.toArray, t, U', L, E, ce, hT, X', hL, e1, e2, hq, hce, hcv, vx_cls hW₁ hcl, st⟩
end
end VXH
theorem vx_ofWH {l : Launch} {y : MethodName} {ws ws' : List Cond} {rm : Room} {Pc : Array Value → State → Prop} {Qc : Array Value → State → Outcome → State → Prop} {XC : String → State → State → Prop} {mc ms : Nat} {free : Addr → Prop} {cc : ByteArray} {maxL : Nat} {ret : Option FieldType} {hh : List (Nat × Nat × Nat × Nat)}
    (hy : plainName y.cls = true) (hw : ws = Cond.codeWith y cc maxL ret hh :: ws')
    (body : ∀ p e s m args below meth c s₁, BodyLoose p l y (headSpec ws rm) cc maxL ret e s m args below meth c s₁ → c.maxLocals = maxL → Pc args s →
      W p l e (headSpec ws rm).room s m args below meth c s.heap [] 0 0 (vx_MQ below Qc XC args s mc ms free) (entryFrame m args maxL)) : vx_Met l y ws rm Pc Qc XC mc ms free := by
  refine MetFree.of_bodyS (code := cc) (maxLocals := maxL) (ret := ret) hy ?_ ?_
  · intro args s m h hn
    obtain ⟨m9, meth, c, hn9, h1, h2, h3, h4, -, h5, h6, -⟩ := Cond.codeWith_spec (atoms_spec (ws := ws) h _ (by rw [hw]; exact List.mem_cons_self))
    cases hn.symm.trans hn9
    exact ⟨meth, c, h1, h2, h3, h4, h5, h6⟩
  · intro p e s m args below meth c s₁ B hml hP _
    have hh0 : s₁.heap = s.heap := by rw [B.state]; rfl
    obtain ⟨t, a1, o, b1, b2, b3⟩ := body p e s m args below meth c s₁ B hml hP s₁ hh0 (Stand.of_body B)
    exact ⟨t, o, a1, b1, b2, b3⟩
/-! ===== END ===== -/
end
section
/-! ===== BEGIN printed: names, fields, word lists, decode rows ===== -/
def RX0 : String := "StowagePlan$Box"
def TX0 : u_T := fun k => match k with
  | 0 => ("StowagePlan$Box", "number", "I", true)
  | 1 => ("StowagePlan$Box", "weight", "I", true)
  | 2 => ("StowagePlan$Box", "from", "I", true)
  | 3 => ("StowagePlan$Box", "to", "I", true)
  | 4 => ("StowagePlan$Box", "kind", "I", true)
  | 5 => ("StowagePlan$Box", "isLanded", "Z", false)
  | 6 => ("StowagePlan$Box", "stack", "LStowagePlan$Stack;", false)
  | _ => ("StowagePlan$Box", "tier", "I", false)
def tyX0 : Nat → FieldType := fun k => match k with
  | 0 => .int
  | 1 => .int
  | 2 => .int
  | 3 => .int
  | 4 => .int
  | 5 => .boolean
  | 6 => .object "StowagePlan$Stack"
  | _ => .int
abbrev wsX00 : List Cond := u_ws RX0 TX0 8
theorem nmX0 : ∀ a, a < 8 → ∀ b, b < 8 → a ≠ b → (TX0 a).2.1 ≠ (TX0 b).2.1 := by decide +kernel
theorem tyX0_ok : ∀ k, k < 8 → parseFieldDescriptor (TX0 k).2.2.1 = some (tyX0 k) := by decide +kernel
abbrev cX0_init : ByteArray := prog_2_method_1_code
def yX0_init : MethodName := ⟨RX0, "<init>", "(IIIII)V"⟩
abbrev cX0_tell : ByteArray := prog_2_method_2_code
def yX0_tell : MethodName := ⟨RX0, "tell", "(I)I"⟩
abbrev cX0_state : ByteArray := prog_2_method_3_code
def yX0_state : MethodName := ⟨RX0, "state", "()I"⟩
abbrev cX0_waitsAt : ByteArray := prog_2_method_4_code
def yX0_waitsAt : MethodName := ⟨RX0, "waitsAt", "(I)Z"⟩
abbrev cX0_isDangerous : ByteArray := prog_2_method_5_code
def yX0_isDangerous : MethodName := ⟨RX0, "isDangerous", "()Z"⟩
abbrev cX0_place : ByteArray := prog_2_method_6_code
def yX0_place : MethodName := ⟨RX0, "place", "()I"⟩
abbrev cX0_isBlocked : ByteArray := prog_2_method_7_code
def yX0_isBlocked : MethodName := ⟨RX0, "isBlocked", "()Z"⟩
abbrev cX0_goesBefore : ByteArray := prog_2_method_8_code
def yX0_goesBefore : MethodName := ⟨RX0, "goesBefore", "(LStowagePlan$Box;)Z"⟩
def RX1 : String := "StowagePlan$Stack"
def TX1 : u_T := fun k => match k with
  | 0 => ("StowagePlan$Stack", "bay", "I", true)
  | 1 => ("StowagePlan$Stack", "row", "I", true)
  | 2 => ("StowagePlan$Stack", "boxes", "[LStowagePlan$Box;", true)
  | 3 => ("StowagePlan$Stack", "size", "I", false)
  | _ => ("StowagePlan$Stack", "hasPlug", "Z", false)
def tyX1 : Nat → FieldType := fun k => match k with
  | 0 => .int
  | 1 => .int
  | 2 => .array (.object "StowagePlan$Box")
  | 3 => .int
  | _ => .boolean
abbrev wsX10 : List Cond := u_ws RX1 TX1 5
theorem nmX1 : ∀ a, a < 5 → ∀ b, b < 5 → a ≠ b → (TX1 a).2.1 ≠ (TX1 b).2.1 := by decide +kernel
theorem tyX1_ok : ∀ k, k < 5 → parseFieldDescriptor (TX1 k).2.2.1 = some (tyX1 k) := by decide +kernel
abbrev cX1_init : ByteArray := prog_3_method_1_code
def yX1_init : MethodName := ⟨RX1, "<init>", "(IIZ)V"⟩
abbrev cX1_listArm : ByteArray := prog_3_method_2_code
def yX1_listArm : MethodName := ⟨RX1, "listArm", "()I"⟩
abbrev cX1_trimArm : ByteArray := prog_3_method_3_code
def yX1_trimArm : MethodName := ⟨RX1, "trimArm", "()I"⟩
abbrev cX1_isApartFrom : ByteArray := prog_3_method_4_code
def yX1_isApartFrom : MethodName := ⟨RX1, "isApartFrom", "(LStowagePlan$Stack;)Z"⟩
abbrev cX1_hasPowerOnNextTier : ByteArray := prog_3_method_5_code
def yX1_hasPowerOnNextTier : MethodName := ⟨RX1, "hasPowerOnNextTier", "()Z"⟩
abbrev cX1_onTier : ByteArray := prog_3_method_6_code
def yX1_onTier : MethodName := ⟨RX1, "onTier", "(I)LStowagePlan$Box;"⟩
abbrev cX1_top : ByteArray := prog_3_method_7_code
def yX1_top : MethodName := ⟨RX1, "top", "()LStowagePlan$Box;"⟩
abbrev cX1_push : ByteArray := prog_3_method_8_code
def yX1_push : MethodName := ⟨RX1, "push", "(LStowagePlan$Box;)V"⟩
abbrev cX1_dropTop : ByteArray := prog_3_method_9_code
def yX1_dropTop : MethodName := ⟨RX1, "dropTop", "()V"⟩
abbrev cX1_land : ByteArray := prog_3_method_10_code
def yX1_land : MethodName := ⟨RX1, "land", "(I)V"⟩
abbrev cX1_weightSum : ByteArray := prog_3_method_11_code
def yX1_weightSum : MethodName := ⟨RX1, "weightSum", "()I"⟩
abbrev cX1_hasReefer : ByteArray := prog_3_method_12_code
def yX1_hasReefer : MethodName := ⟨RX1, "hasReefer", "()Z"⟩
abbrev cX1_countLandedBefore : ByteArray := prog_3_method_13_code
def yX1_countLandedBefore : MethodName := ⟨RX1, "countLandedBefore", "(I)I"⟩
abbrev cX1_hasLaterAbove : ByteArray := prog_3_method_14_code
def yX1_hasLaterAbove : MethodName := ⟨RX1, "hasLaterAbove", "(II)Z"⟩
abbrev cX1_liftsFor : ByteArray := prog_3_method_15_code
def yX1_liftsFor : MethodName := ⟨RX1, "liftsFor", "(I)I"⟩
def RX2 : String := "StowagePlan"
def TX2 : u_T := fun k => match k with
  | 0 => ("StowagePlan", "boxes", "[LStowagePlan$Box;", true)
  | 1 => ("StowagePlan", "stacks", "[LStowagePlan$Stack;", true)
  | 2 => ("StowagePlan", "boxCount", "I", false)
  | 3 => ("StowagePlan", "shipPort", "I", false)
  | 4 => ("StowagePlan", "stackLimit", "I", false)
  | 5 => ("StowagePlan", "listLimit", "I", false)
  | 6 => ("StowagePlan", "trimLimit", "I", false)
  | _ => ("StowagePlan", "putBack", "I", false)
def tyX2 : Nat → FieldType := fun k => match k with
  | 0 => .array (.object "StowagePlan$Box")
  | 1 => .array (.object "StowagePlan$Stack")
  | 2 => .int
  | 3 => .int
  | 4 => .int
  | 5 => .int
  | 6 => .int
  | _ => .int
abbrev wsX20 : List Cond := u_ws RX2 TX2 8
theorem nmX2 : ∀ a, a < 8 → ∀ b, b < 8 → a ≠ b → (TX2 a).2.1 ≠ (TX2 b).2.1 := by decide +kernel
theorem tyX2_ok : ∀ k, k < 8 → parseFieldDescriptor (TX2 k).2.2.1 = some (tyX2 k) := by decide +kernel
abbrev cX2_init : ByteArray := prog_1_method_1_code
def yX2_init : MethodName := ⟨RX2, "<init>", "()V"⟩
abbrev cX2_addContainer : ByteArray := prog_1_method_2_code
def yX2_addContainer : MethodName := ⟨RX2, "addContainer", "(IIII)I"⟩
abbrev cX2_container : ByteArray := prog_1_method_3_code
def yX2_container : MethodName := ⟨RX2, "container", "(II)I"⟩
abbrev cX2_setLimits : ByteArray := prog_1_method_4_code
def yX2_setLimits : MethodName := ⟨RX2, "setLimits", "(III)I"⟩
abbrev cX2_setPlug : ByteArray := prog_1_method_5_code
def yX2_setPlug : MethodName := ⟨RX2, "setPlug", "(IIZ)Z"⟩
abbrev cX2_canLoad : ByteArray := prog_1_method_6_code
def yX2_canLoad : MethodName := ⟨RX2, "canLoad", "(III)Z"⟩
abbrev cX2_load : ByteArray := prog_1_method_7_code
def yX2_load : MethodName := ⟨RX2, "load", "(III)I"⟩
abbrev cX2_lift : ByteArray := prog_1_method_8_code
def yX2_lift : MethodName := ⟨RX2, "lift", "(II)I"⟩
abbrev cX2_plan : ByteArray := prog_1_method_9_code
def yX2_plan : MethodName := ⟨RX2, "plan", "()I"⟩
abbrev cX2_sail : ByteArray := prog_1_method_10_code
def yX2_sail : MethodName := ⟨RX2, "sail", "()I"⟩
abbrev cX2_port : ByteArray := prog_1_method_11_code
def yX2_port : MethodName := ⟨RX2, "port", "()I"⟩
abbrev cX2_at : ByteArray := prog_1_method_12_code
def yX2_at : MethodName := ⟨RX2, "at", "(III)I"⟩
abbrev cX2_where : ByteArray := prog_1_method_13_code
def yX2_where : MethodName := ⟨RX2, "where", "(I)I"⟩
abbrev cX2_moment : ByteArray := prog_1_method_14_code
def yX2_moment : MethodName := ⟨RX2, "moment", "(Z)I"⟩
abbrev cX2_height : ByteArray := prog_1_method_15_code
def yX2_height : MethodName := ⟨RX2, "height", "()D"⟩
abbrev cX2_isSteady : ByteArray := prog_1_method_16_code
def yX2_isSteady : MethodName := ⟨RX2, "isSteady", "()Z"⟩
abbrev cX2_count : ByteArray := prog_1_method_17_code
def yX2_count : MethodName := ⟨RX2, "count", "(Z)I"⟩
abbrev cX2_weight : ByteArray := prog_1_method_18_code
def yX2_weight : MethodName := ⟨RX2, "weight", "(I)I"⟩
abbrev cX2_blocked : ByteArray := prog_1_method_19_code
def yX2_blocked : MethodName := ⟨RX2, "blocked", "()I"⟩
abbrev cX2_lifts : ByteArray := prog_1_method_20_code
def yX2_lifts : MethodName := ⟨RX2, "lifts", "(I)I"⟩
abbrev cX2_freePlugs : ByteArray := prog_1_method_21_code
def yX2_freePlugs : MethodName := ⟨RX2, "freePlugs", "()I"⟩
abbrev cX2_choices : ByteArray := prog_1_method_22_code
def yX2_choices : MethodName := ⟨RX2, "choices", "(I)I"⟩
abbrev cX2_lifted : ByteArray := prog_1_method_23_code
def yX2_lifted : MethodName := ⟨RX2, "lifted", "()I"⟩
abbrev cX2_digest : ByteArray := prog_1_method_24_code
def yX2_digest : MethodName := ⟨RX2, "digest", "()J"⟩
abbrev cX2_isWithin : ByteArray := prog_1_method_25_code
def yX2_isWithin : MethodName := ⟨RX2, "isWithin", "(III)Z"⟩
abbrev cX2_mix : ByteArray := prog_1_method_26_code
def yX2_mix : MethodName := ⟨RX2, "mix", "(JJ)J"⟩
abbrev cX2_mixBox : ByteArray := prog_1_method_27_code
def yX2_mixBox : MethodName := ⟨RX2, "mixBox", "(JLStowagePlan$Box;)J"⟩
abbrev cX2_boxNumbered : ByteArray := prog_1_method_28_code
def yX2_boxNumbered : MethodName := ⟨RX2, "boxNumbered", "(I)LStowagePlan$Box;"⟩
abbrev cX2_numberOf : ByteArray := prog_1_method_29_code
def yX2_numberOf : MethodName := ⟨RX2, "numberOf", "(LStowagePlan$Box;)I"⟩
abbrev cX2_stackAt : ByteArray := prog_1_method_30_code
def yX2_stackAt : MethodName := ⟨RX2, "stackAt", "(II)LStowagePlan$Stack;"⟩
abbrev cX2_isLoadable : ByteArray := prog_1_method_31_code
def yX2_isLoadable : MethodName := ⟨RX2, "isLoadable", "(LStowagePlan$Box;LStowagePlan$Stack;)Z"⟩
abbrev cX2_isApartFromOthers : ByteArray := prog_1_method_32_code
def yX2_isApartFromOthers : MethodName := ⟨RX2, "isApartFromOthers", "(LStowagePlan$Box;LStowagePlan$Stack;)Z"⟩
abbrev cX2_nextToLoad : ByteArray := prog_1_method_33_code
def yX2_nextToLoad : MethodName := ⟨RX2, "nextToLoad", "()LStowagePlan$Box;"⟩
abbrev cX2_hasChoice : ByteArray := prog_1_method_34_code
def yX2_hasChoice : MethodName := ⟨RX2, "hasChoice", "(LStowagePlan$Box;)Z"⟩
abbrev cX2_bestStackFor : ByteArray := prog_1_method_35_code
def yX2_bestStackFor : MethodName := ⟨RX2, "bestStackFor", "(LStowagePlan$Box;)LStowagePlan$Stack;"⟩
def RX3 : String := "StowagePlanModel"
def TX3 : u_T := fun k => match k with
  | 0 => ("StowagePlanModel", "thrown", "I", false)
  | 1 => ("StowagePlanModel", "many", "I", false)
  | 2 => ("StowagePlanModel", "table", "[I", true)
  | 3 => ("StowagePlanModel", "stacks", "[I", true)
  | 4 => ("StowagePlanModel", "tiers", "[I", true)
  | 5 => ("StowagePlanModel", "plugs", "[Z", true)
  | 6 => ("StowagePlanModel", "stackLimit", "I", false)
  | 7 => ("StowagePlanModel", "listLimit", "I", false)
  | 8 => ("StowagePlanModel", "trimLimit", "I", false)
  | 9 => ("StowagePlanModel", "port", "I", false)
  | 10 => ("StowagePlanModel", "lifted", "I", false)
  | 11 => ("StowagePlanModel", "up", "I", false)
  | _ => ("StowagePlanModel", "all", "I", false)
def tyX3 : Nat → FieldType := fun k => match k with
  | 0 => .int
  | 1 => .int
  | 2 => .array .int
  | 3 => .array .int
  | 4 => .array .int
  | 5 => .array .boolean
  | 6 => .int
  | 7 => .int
  | 8 => .int
  | 9 => .int
  | 10 => .int
  | 11 => .int
  | _ => .int
abbrev wsX30 : List Cond := u_ws RX3 TX3 13
theorem nmX3 : ∀ a, a < 13 → ∀ b, b < 13 → a ≠ b → (TX3 a).2.1 ≠ (TX3 b).2.1 := by decide +kernel
theorem tyX3_ok : ∀ k, k < 13 → parseFieldDescriptor (TX3 k).2.2.1 = some (tyX3 k) := by decide +kernel
abbrev cX3_init : ByteArray := prog_5_method_1_code
def yX3_init : MethodName := ⟨RX3, "<init>", "()V"⟩
abbrev cX3_thrown : ByteArray := prog_5_method_2_code
def yX3_thrown : MethodName := ⟨RX3, "thrown", "()I"⟩
abbrev cX3_fail : ByteArray := prog_5_method_3_code
def yX3_fail : MethodName := ⟨RX3, "fail", "(I)I"⟩
abbrev cX3_isIn : ByteArray := prog_5_method_4_code
def yX3_isIn : MethodName := ⟨RX3, "isIn", "(III)Z"⟩
abbrev cX3_isContainer : ByteArray := prog_5_method_5_code
def yX3_isContainer : MethodName := ⟨RX3, "isContainer", "(I)Z"⟩
abbrev cX3_isStack : ByteArray := prog_5_method_6_code
def yX3_isStack : MethodName := ⟨RX3, "isStack", "(II)Z"⟩
abbrev cX3_stack : ByteArray := prog_5_method_7_code
def yX3_stack : MethodName := ⟨RX3, "stack", "(II)I"⟩
abbrev cX3_heavy : ByteArray := prog_5_method_8_code
def yX3_heavy : MethodName := ⟨RX3, "heavy", "(I)I"⟩
abbrev cX3_to : ByteArray := prog_5_method_9_code
def yX3_to : MethodName := ⟨RX3, "to", "(I)I"⟩
abbrev cX3_kind : ByteArray := prog_5_method_10_code
def yX3_kind : MethodName := ⟨RX3, "kind", "(I)I"⟩
abbrev cX3_state : ByteArray := prog_5_method_11_code
def yX3_state : MethodName := ⟨RX3, "state", "(I)I"⟩
abbrev cX3_isOn : ByteArray := prog_5_method_12_code
def yX3_isOn : MethodName := ⟨RX3, "isOn", "(II)Z"⟩
abbrev cX3_high : ByteArray := prog_5_method_13_code
def yX3_high : MethodName := ⟨RX3, "high", "(I)I"⟩
abbrev cX3_find : ByteArray := prog_5_method_14_code
def yX3_find : MethodName := ⟨RX3, "find", "(II)I"⟩
abbrev cX3_addContainer : ByteArray := prog_5_method_15_code
def yX3_addContainer : MethodName := ⟨RX3, "addContainer", "(IIII)I"⟩
abbrev cX3_container : ByteArray := prog_5_method_16_code
def yX3_container : MethodName := ⟨RX3, "container", "(II)I"⟩
abbrev cX3_setLimits : ByteArray := prog_5_method_17_code
def yX3_setLimits : MethodName := ⟨RX3, "setLimits", "(III)I"⟩
abbrev cX3_setPlug : ByteArray := prog_5_method_18_code
def yX3_setPlug : MethodName := ⟨RX3, "setPlug", "(IIZ)Z"⟩
abbrev cX3_areApart : ByteArray := prog_5_method_19_code
def yX3_areApart : MethodName := ⟨RX3, "areApart", "(II)Z"⟩
abbrev cX3_weightOf : ByteArray := prog_5_method_20_code
def yX3_weightOf : MethodName := ⟨RX3, "weightOf", "(I)I"⟩
abbrev cX3_isAllowed : ByteArray := prog_5_method_21_code
def yX3_isAllowed : MethodName := ⟨RX3, "isAllowed", "(II)Z"⟩
abbrev cX3_canLoad : ByteArray := prog_5_method_22_code
def yX3_canLoad : MethodName := ⟨RX3, "canLoad", "(III)Z"⟩
abbrev cX3_put : ByteArray := prog_5_method_23_code
def yX3_put : MethodName := ⟨RX3, "put", "(II)V"⟩
abbrev cX3_load : ByteArray := prog_5_method_24_code
def yX3_load : MethodName := ⟨RX3, "load", "(III)I"⟩
abbrev cX3_lift : ByteArray := prog_5_method_25_code
def yX3_lift : MethodName := ⟨RX3, "lift", "(II)I"⟩
abbrev cX3_momentOf : ByteArray := prog_5_method_26_code
def yX3_momentOf : MethodName := ⟨RX3, "momentOf", "(Z)I"⟩
abbrev cX3_arm : ByteArray := prog_5_method_27_code
def yX3_arm : MethodName := ⟨RX3, "arm", "(IZ)I"⟩
abbrev cX3_earlier : ByteArray := prog_5_method_28_code
def yX3_earlier : MethodName := ⟨RX3, "earlier", "(II)I"⟩
abbrev cX3_choicesOf : ByteArray := prog_5_method_29_code
def yX3_choicesOf : MethodName := ⟨RX3, "choicesOf", "(I)I"⟩
abbrev cX3_isBetter : ByteArray := prog_5_method_30_code
def yX3_isBetter : MethodName := ⟨RX3, "isBetter", "(III)Z"⟩
abbrev cX3_planOne : ByteArray := prog_5_method_31_code
def yX3_planOne : MethodName := ⟨RX3, "planOne", "()Z"⟩
abbrev cX3_plan : ByteArray := prog_5_method_32_code
def yX3_plan : MethodName := ⟨RX3, "plan", "()I"⟩
abbrev cX3_weigh : ByteArray := prog_5_method_33_code
def yX3_weigh : MethodName := ⟨RX3, "weigh", "()V"⟩
abbrev cX3_steady : ByteArray := prog_5_method_34_code
def yX3_steady : MethodName := ⟨RX3, "steady", "()Z"⟩
abbrev cX3_lowest : ByteArray := prog_5_method_35_code
def yX3_lowest : MethodName := ⟨RX3, "lowest", "(II)I"⟩
abbrev cX3_liftsAt : ByteArray := prog_5_method_36_code
def yX3_liftsAt : MethodName := ⟨RX3, "liftsAt", "(I)I"⟩
abbrev cX3_sail : ByteArray := prog_5_method_37_code
def yX3_sail : MethodName := ⟨RX3, "sail", "()I"⟩
abbrev cX3_port : ByteArray := prog_5_method_38_code
def yX3_port : MethodName := ⟨RX3, "port", "()I"⟩
abbrev cX3_at : ByteArray := prog_5_method_39_code
def yX3_at : MethodName := ⟨RX3, "at", "(III)I"⟩
abbrev cX3_place : ByteArray := prog_5_method_40_code
def yX3_place : MethodName := ⟨RX3, "place", "(I)I"⟩
abbrev cX3_where : ByteArray := prog_5_method_41_code
def yX3_where : MethodName := ⟨RX3, "where", "(I)I"⟩
abbrev cX3_moment : ByteArray := prog_5_method_42_code
def yX3_moment : MethodName := ⟨RX3, "moment", "(Z)I"⟩
abbrev cX3_height : ByteArray := prog_5_method_43_code
def yX3_height : MethodName := ⟨RX3, "height", "()D"⟩
abbrev cX3_isSteady : ByteArray := prog_5_method_44_code
def yX3_isSteady : MethodName := ⟨RX3, "isSteady", "()Z"⟩
abbrev cX3_count : ByteArray := prog_5_method_45_code
def yX3_count : MethodName := ⟨RX3, "count", "(Z)I"⟩
abbrev cX3_weight : ByteArray := prog_5_method_46_code
def yX3_weight : MethodName := ⟨RX3, "weight", "(I)I"⟩
abbrev cX3_isBlocked : ByteArray := prog_5_method_47_code
def yX3_isBlocked : MethodName := ⟨RX3, "isBlocked", "(I)Z"⟩
abbrev cX3_blocked : ByteArray := prog_5_method_48_code
def yX3_blocked : MethodName := ⟨RX3, "blocked", "()I"⟩
abbrev cX3_lifts : ByteArray := prog_5_method_49_code
def yX3_lifts : MethodName := ⟨RX3, "lifts", "(I)I"⟩
abbrev cX3_freePlugs : ByteArray := prog_5_method_50_code
def yX3_freePlugs : MethodName := ⟨RX3, "freePlugs", "()I"⟩
abbrev cX3_choices : ByteArray := prog_5_method_51_code
def yX3_choices : MethodName := ⟨RX3, "choices", "(I)I"⟩
abbrev cX3_lifted : ByteArray := prog_5_method_52_code
def yX3_lifted : MethodName := ⟨RX3, "lifted", "()I"⟩
abbrev cX3_digest : ByteArray := prog_5_method_53_code
def yX3_digest : MethodName := ⟨RX3, "digest", "()J"⟩
def RJ9 : String := "java/lang/Math"
def TJ9 : u_T := fun k => match k with
  | _ => ("", "", "", false)
def tyJ9 : Nat → FieldType := fun k => match k with
  | _ => .int
abbrev wsJ90 : List Cond := u_ws RJ9 TJ9 0
theorem nmJ9 : ∀ a, a < 0 → ∀ b, b < 0 → a ≠ b → (TJ9 a).2.1 ≠ (TJ9 b).2.1 := by decide +kernel
theorem tyJ9_ok : ∀ k, k < 0 → parseFieldDescriptor (TJ9 k).2.2.1 = some (tyJ9 k) := by decide +kernel
abbrev cJ9_abs_0f7a4 : ByteArray := prog_10_method_59_code
def yJ9_abs_0f7a4 : MethodName := ⟨RJ9, "abs", "(I)I"⟩
abbrev cJ9_max_7cf53 : ByteArray := prog_10_method_65_code
def yJ9_max_7cf53 : MethodName := ⟨RJ9, "max", "(II)I"⟩
abbrev cJ9_min_7cf53 : ByteArray := prog_10_method_69_code
def yJ9_min_7cf53 : MethodName := ⟨RJ9, "min", "(II)I"⟩
def RJ0 : String := "java/lang/String"
def TJ0 : u_T := fun k => match k with
  | _ => ("", "", "", false)
def tyJ0 : Nat → FieldType := fun k => match k with
  | _ => .int
abbrev wsJ00 : List Cond := u_ws RJ0 TJ0 0
theorem nmJ0 : ∀ a, a < 0 → ∀ b, b < 0 → a ≠ b → (TJ0 a).2.1 ≠ (TJ0 b).2.1 := by decide +kernel
theorem tyJ0_ok : ∀ k, k < 0 → parseFieldDescriptor (TJ0 k).2.2.1 = some (tyJ0 k) := by decide +kernel
def RJ10 : String := "java/lang/System"
def TJ10 : u_T := fun k => match k with
  | _ => ("", "", "", false)
def tyJ10 : Nat → FieldType := fun k => match k with
  | _ => .int
abbrev wsJ100 : List Cond := u_ws RJ10 TJ10 0
theorem nmJ10 : ∀ a, a < 0 → ∀ b, b < 0 → a ≠ b → (TJ10 a).2.1 ≠ (TJ10 b).2.1 := by decide +kernel
theorem tyJ10_ok : ∀ k, k < 0 → parseFieldDescriptor (TJ10 k).2.2.1 = some (tyJ10 k) := by decide +kernel
def RL : String := "StowagePlanLaw"
abbrev cL_addContainer : ByteArray := method_3_code
def yL_addContainer : MethodName := ⟨RL, "addContainer", "(LStowagePlan;IIII[J)I"⟩
abbrev cL_container : ByteArray := method_4_code
def yL_container : MethodName := ⟨RL, "container", "(LStowagePlan;II[J)I"⟩
abbrev cL_setLimits : ByteArray := method_5_code
def yL_setLimits : MethodName := ⟨RL, "setLimits", "(LStowagePlan;III[J)I"⟩
abbrev cL_setPlug : ByteArray := method_6_code
def yL_setPlug : MethodName := ⟨RL, "setPlug", "(LStowagePlan;IIZ[J)I"⟩
abbrev cL_canLoad : ByteArray := method_7_code
def yL_canLoad : MethodName := ⟨RL, "canLoad", "(LStowagePlan;III[J)I"⟩
abbrev cL_load : ByteArray := method_8_code
def yL_load : MethodName := ⟨RL, "load", "(LStowagePlan;III[J)I"⟩
abbrev cL_lift : ByteArray := method_9_code
def yL_lift : MethodName := ⟨RL, "lift", "(LStowagePlan;II[J)I"⟩
abbrev cL_sail : ByteArray := method_10_code
def yL_sail : MethodName := ⟨RL, "sail", "(LStowagePlan;[J)I"⟩
abbrev cL_at : ByteArray := method_11_code
def yL_at : MethodName := ⟨RL, "at", "(LStowagePlan;III[J)I"⟩
abbrev cL_where : ByteArray := method_12_code
def yL_where : MethodName := ⟨RL, "where", "(LStowagePlan;I[J)I"⟩
abbrev cL_weight : ByteArray := method_13_code
def yL_weight : MethodName := ⟨RL, "weight", "(LStowagePlan;I[J)I"⟩
abbrev cL_lifts : ByteArray := method_14_code
def yL_lifts : MethodName := ⟨RL, "lifts", "(LStowagePlan;I[J)I"⟩
abbrev cL_choices : ByteArray := method_15_code
def yL_choices : MethodName := ⟨RL, "choices", "(LStowagePlan;I[J)I"⟩
abbrev cL_law : ByteArray := code
def yL_law : MethodName := ⟨RL, "law", "([I)Z"⟩
def wsX0_init : List Cond := .code yX0_init cX0_init 6 none :: ([.methodLink RX0 3 objectInit, .instanceMethod objectInit, .code objectInit ⟨#[0xb1]⟩ 1 none, .fieldLink RX0 9 "StowagePlan$Box" "isLanded" "Z", .fieldLink RX0 15 "StowagePlan$Box" "stack" "LStowagePlan$Stack;", .fieldLink RX0 19 "StowagePlan$Box" "tier" "I", .fieldLink RX0 23 "StowagePlan$Box" "number" "I", .fieldLink RX0 26 "StowagePlan$Box" "weight" "I", .fieldLink RX0 29 "StowagePlan$Box" "from" "I", .fieldLink RX0 32 "StowagePlan$Box" "to" "I", .fieldLink RX0 35 "StowagePlan$Box" "kind" "I"] ++ wsX00)
def wsX0_state : List Cond := .code yX0_state cX0_state 1 (some .int) :: ([.fieldLink RX0 9 "StowagePlan$Box" "isLanded" "Z", .fieldLink RX0 15 "StowagePlan$Box" "stack" "LStowagePlan$Stack;"] ++ wsX00)
def wsX0_tell : List Cond := .code yX0_tell cX0_tell 2 (some .int) :: ([.fieldLink RX0 26 "StowagePlan$Box" "weight" "I", .fieldLink RX0 29 "StowagePlan$Box" "from" "I", .fieldLink RX0 32 "StowagePlan$Box" "to" "I", .fieldLink RX0 35 "StowagePlan$Box" "kind" "I", .methodLink RX0 38 yX0_state, .instanceMethod yX0_state, .selects RX0 yX0_state yX0_state, .initialized RX0, .code yX0_state cX0_state 1 (some .int), .fieldLink RX0 9 "StowagePlan$Box" "isLanded" "Z", .fieldLink RX0 15 "StowagePlan$Box" "stack" "LStowagePlan$Stack;"] ++ wsX00)
def wsX0_waitsAt : List Cond := .code yX0_waitsAt cX0_waitsAt 2 (some .boolean) :: ([.fieldLink RX0 29 "StowagePlan$Box" "from" "I", .methodLink RX0 38 yX0_state, .instanceMethod yX0_state, .selects RX0 yX0_state yX0_state, .initialized RX0, .code yX0_state cX0_state 1 (some .int), .fieldLink RX0 9 "StowagePlan$Box" "isLanded" "Z", .fieldLink RX0 15 "StowagePlan$Box" "stack" "LStowagePlan$Stack;"] ++ wsX00)
def wsX0_isDangerous : List Cond := .code yX0_isDangerous cX0_isDangerous 1 (some .boolean) :: ([.fieldLink RX0 35 "StowagePlan$Box" "kind" "I"] ++ wsX00)
def wsX0_place : List Cond := .code yX0_place cX0_place 1 (some .int) :: ([.fieldLink RX0 15 "StowagePlan$Box" "stack" "LStowagePlan$Stack;", .fieldLink RX0 42 "StowagePlan$Stack" "bay" "I", .fieldLink RX0 47 "StowagePlan$Stack" "row" "I", .fieldLink RX0 19 "StowagePlan$Box" "tier" "I"] ++ wsX00 ++ wsX10)
def wsX1_hasLaterAbove : List Cond := .code yX1_hasLaterAbove cX1_hasLaterAbove 7 (some .boolean) :: ([.fieldLink RX1 11 "StowagePlan$Stack" "boxes" "[LStowagePlan$Box;", .fieldLink RX1 45 "StowagePlan$Box" "tier" "I", .fieldLink RX1 48 "StowagePlan$Box" "to" "I"] ++ wsX10 ++ wsX00)
def wsX0_isBlocked : List Cond := .code yX0_isBlocked cX0_isBlocked 1 (some .boolean) :: ([.fieldLink RX0 15 "StowagePlan$Box" "stack" "LStowagePlan$Stack;", .fieldLink RX0 19 "StowagePlan$Box" "tier" "I", .fieldLink RX0 32 "StowagePlan$Box" "to" "I", .methodLink RX0 50 yX1_hasLaterAbove, .instanceMethod yX1_hasLaterAbove, .selects RX1 yX1_hasLaterAbove yX1_hasLaterAbove, .initialized RX1, .code yX1_hasLaterAbove cX1_hasLaterAbove 7 (some .boolean), .fieldLink RX1 11 "StowagePlan$Stack" "boxes" "[LStowagePlan$Box;", .fieldLink RX1 45 "StowagePlan$Box" "tier" "I", .fieldLink RX1 48 "StowagePlan$Box" "to" "I"] ++ wsX00 ++ wsX10)
def wsX0_goesBefore : List Cond := .code yX0_goesBefore cX0_goesBefore 2 (some .boolean) :: ([.fieldLink RX0 32 "StowagePlan$Box" "to" "I", .fieldLink RX0 26 "StowagePlan$Box" "weight" "I"] ++ wsX00)
def wsX1_init : List Cond := .code yX1_init cX1_init 4 none :: ([.methodLink RX1 3 objectInit, .instanceMethod objectInit, .code objectInit ⟨#[0xb1]⟩ 1 none, .classLink RX1 9 RX0, .fieldLink RX1 11 "StowagePlan$Stack" "boxes" "[LStowagePlan$Box;", .fieldLink RX1 17 "StowagePlan$Stack" "size" "I", .fieldLink RX1 21 "StowagePlan$Stack" "bay" "I", .fieldLink RX1 24 "StowagePlan$Stack" "row" "I", .fieldLink RX1 27 "StowagePlan$Stack" "hasPlug" "Z"] ++ wsX10)
def wsX1_listArm : List Cond := .code yX1_listArm cX1_listArm 1 (some .int) :: ([.fieldLink RX1 24 "StowagePlan$Stack" "row" "I"] ++ wsX10)
def wsX1_trimArm : List Cond := .code yX1_trimArm cX1_trimArm 1 (some .int) :: ([.fieldLink RX1 21 "StowagePlan$Stack" "bay" "I"] ++ wsX10)
def wsX1_isApartFrom : List Cond := .code yX1_isApartFrom cX1_isApartFrom 3 (some .boolean) :: ([.fieldLink RX1 21 "StowagePlan$Stack" "bay" "I", .methodLink RX1 31 Lib.Math.abs.name, .static Lib.Math.abs.name, .initialized "java/lang/Math", .code Lib.Math.abs.name Lib.Math.abs.code 1 (some .int), .fieldLink RX1 24 "StowagePlan$Stack" "row" "I"] ++ wsX10)
def wsX1_hasPowerOnNextTier : List Cond := .code yX1_hasPowerOnNextTier cX1_hasPowerOnNextTier 1 (some .boolean) :: ([.fieldLink RX1 27 "StowagePlan$Stack" "hasPlug" "Z", .fieldLink RX1 17 "StowagePlan$Stack" "size" "I"] ++ wsX10)
def wsX1_onTier : List Cond := .code yX1_onTier cX1_onTier 2 (some (.object "StowagePlan$Box")) :: ([.fieldLink RX1 11 "StowagePlan$Stack" "boxes" "[LStowagePlan$Box;"] ++ wsX10)
def wsX1_top : List Cond := .code yX1_top cX1_top 1 (some (.object "StowagePlan$Box")) :: ([.fieldLink RX1 17 "StowagePlan$Stack" "size" "I", .methodLink RX1 37 yX1_onTier, .instanceMethod yX1_onTier, .selects RX1 yX1_onTier yX1_onTier, .initialized RX1, .code yX1_onTier cX1_onTier 2 (some (.object "StowagePlan$Box")), .fieldLink RX1 11 "StowagePlan$Stack" "boxes" "[LStowagePlan$Box;"] ++ wsX10)
def wsX1_push : List Cond := .code yX1_push cX1_push 2 none :: ([.fieldLink RX1 17 "StowagePlan$Stack" "size" "I", .fieldLink RX1 11 "StowagePlan$Stack" "boxes" "[LStowagePlan$Box;", .fieldLink RX1 41 "StowagePlan$Box" "stack" "LStowagePlan$Stack;", .fieldLink RX1 45 "StowagePlan$Box" "tier" "I"] ++ wsX10 ++ wsX00)
def wsX1_dropTop : List Cond := .code yX1_dropTop cX1_dropTop 3 none :: ([.fieldLink RX1 17 "StowagePlan$Stack" "size" "I", .fieldLink RX1 11 "StowagePlan$Stack" "boxes" "[LStowagePlan$Box;", .fieldLink RX1 41 "StowagePlan$Box" "stack" "LStowagePlan$Stack;", .methodLink RX1 37 yX1_onTier, .instanceMethod yX1_onTier, .selects RX1 yX1_onTier yX1_onTier, .initialized RX1, .code yX1_onTier cX1_onTier 2 (some (.object "StowagePlan$Box"))] ++ wsX10 ++ wsX00)
def wsX1_land : List Cond := .code yX1_land cX1_land 4 none :: ([.fieldLink RX1 17 "StowagePlan$Stack" "size" "I", .fieldLink RX1 11 "StowagePlan$Stack" "boxes" "[LStowagePlan$Box;", .fieldLink RX1 48 "StowagePlan$Box" "to" "I", .fieldLink RX1 41 "StowagePlan$Box" "stack" "LStowagePlan$Stack;", .fieldLink RX1 51 "StowagePlan$Box" "isLanded" "Z", .methodLink RX1 54 yX1_push, .instanceMethod yX1_push, .selects RX1 yX1_push yX1_push, .initialized RX1, .code yX1_push cX1_push 2 none, .fieldLink RX1 45 "StowagePlan$Box" "tier" "I"] ++ wsX10 ++ wsX00)
def wsX1_weightSum : List Cond := .code yX1_weightSum cX1_weightSum 6 (some .int) :: ([.fieldLink RX1 11 "StowagePlan$Stack" "boxes" "[LStowagePlan$Box;", .fieldLink RX1 58 "StowagePlan$Box" "weight" "I"] ++ wsX10 ++ wsX00)
def wsX1_hasReefer : List Cond := .code yX1_hasReefer cX1_hasReefer 5 (some .boolean) :: ([.fieldLink RX1 11 "StowagePlan$Stack" "boxes" "[LStowagePlan$Box;", .fieldLink RX1 61 "StowagePlan$Box" "kind" "I"] ++ wsX10 ++ wsX00)
def wsX1_countLandedBefore : List Cond := .code yX1_countLandedBefore cX1_countLandedBefore 7 (some .int) :: ([.fieldLink RX1 11 "StowagePlan$Stack" "boxes" "[LStowagePlan$Box;", .fieldLink RX1 48 "StowagePlan$Box" "to" "I"] ++ wsX10 ++ wsX00)
def wsX1_liftsFor : List Cond := .code yX1_liftsFor cX1_liftsFor 8 (some .int) :: ([.fieldLink RX1 11 "StowagePlan$Stack" "boxes" "[LStowagePlan$Box;", .fieldLink RX1 48 "StowagePlan$Box" "to" "I"] ++ wsX10 ++ wsX00)
def wsX2_init_r1 : List Cond := [Cond.methodLink RX2 1 objectInit, Cond.instanceMethod objectInit, Cond.code objectInit ⟨#[0xb1]⟩ 1 none, Cond.classLink RX2 9 RX0, Cond.fieldLink RX2 11 "StowagePlan" "boxes" "[LStowagePlan$Box;", Cond.classLink RX2 15 RX1, Cond.fieldLink RX2 17 "StowagePlan" "stacks" "[LStowagePlan$Stack;", Cond.fieldLink RX2 21 "StowagePlan" "boxCount" "I", Cond.fieldLink RX2 25 "StowagePlan" "shipPort" "I", Cond.fieldLink RX2 28 "StowagePlan" "stackLimit" "I", Cond.fieldLink RX2 31 "StowagePlan" "listLimit" "I", Cond.fieldLink RX2 34 "StowagePlan" "trimLimit" "I", Cond.fieldLink RX2 37 "StowagePlan" "putBack" "I", Cond.instantiable RX1 5, Cond.initialized RX1, Cond.methodLink RX2 40 yX1_init, Cond.instanceMethod yX1_init, Cond.code yX1_init cX1_init 4 none, Cond.methodLink RX1 3 objectInit, Cond.classLink RX1 9 RX0, Cond.fieldLink RX1 11 "StowagePlan$Stack" "boxes" "[LStowagePlan$Box;", Cond.fieldLink RX1 17 "StowagePlan$Stack" "size" "I", Cond.fieldLink RX1 21 "StowagePlan$Stack" "bay" "I", Cond.fieldLink RX1 24 "StowagePlan$Stack" "row" "I"]
def wsX2_init_r2 : List Cond := [Cond.fieldLink RX1 27 "StowagePlan$Stack" "hasPlug" "Z"]
def wsX2_init : List Cond := .code yX2_init cX2_init 3 none :: ((wsX2_init_r1 ++ wsX2_init_r2) ++ wsX20 ++ wsX10)
def wsX2_isWithin : List Cond := .code yX2_isWithin cX2_isWithin 3 (some .boolean) :: ([])
def wsX2_addContainer_r1 : List Cond := [Cond.classLink RX2 47 "java/lang/IllegalArgumentException", Cond.initialized "java/lang/IllegalArgumentException", Cond.classLink RX2 54 "java/lang/IllegalStateException", Cond.initialized "java/lang/IllegalStateException", Cond.fieldLink RX2 25 "StowagePlan" "shipPort" "I", Cond.fieldLink RX2 21 "StowagePlan" "boxCount" "I", Cond.fieldLink RX2 11 "StowagePlan" "boxes" "[LStowagePlan$Box;", Cond.classLink RX2 9 RX0, Cond.instantiable RX0 8, Cond.initialized RX0, Cond.methodLink RX2 43 yX2_isWithin, Cond.static yX2_isWithin, Cond.initialized RX2, Cond.code yX2_isWithin cX2_isWithin 3 (some .boolean), Cond.methodLink RX2 61 yX0_init, Cond.instanceMethod yX0_init, Cond.code yX0_init cX0_init 6 none, Cond.methodLink RX0 3 objectInit, Cond.instanceMethod objectInit, Cond.code objectInit ⟨#[0xb1]⟩ 1 none, Cond.fieldLink RX0 9 "StowagePlan$Box" "isLanded" "Z", Cond.fieldLink RX0 15 "StowagePlan$Box" "stack" "LStowagePlan$Stack;", Cond.fieldLink RX0 19 "StowagePlan$Box" "tier" "I", Cond.fieldLink RX0 23 "StowagePlan$Box" "number" "I"]
def wsX2_addContainer_r2 : List Cond := [Cond.fieldLink RX0 26 "StowagePlan$Box" "weight" "I", Cond.fieldLink RX0 29 "StowagePlan$Box" "from" "I", Cond.fieldLink RX0 32 "StowagePlan$Box" "to" "I", Cond.fieldLink RX0 35 "StowagePlan$Box" "kind" "I"]
def wsX2_addContainer : List Cond := .code yX2_addContainer cX2_addContainer 6 (some .int) :: ((wsX2_addContainer_r1 ++ wsX2_addContainer_r2) ++ wsX20 ++ wsX00 ++ (vx_atS RX2 51 "java/lang/IllegalArgumentException" ["java/lang/RuntimeException", "java/lang/Exception"]).filter goodWord ++ (vx_atS RX2 58 "java/lang/IllegalStateException" ["java/lang/RuntimeException", "java/lang/Exception"]).filter goodWord)
def wsX2_boxNumbered : List Cond := .code yX2_boxNumbered cX2_boxNumbered 2 (some (.object "StowagePlan$Box")) :: ([.fieldLink RX2 11 "StowagePlan" "boxes" "[LStowagePlan$Box;"] ++ wsX20)
def wsX2_container_r1 : List Cond := [Cond.classLink RX2 68 "java/lang/IndexOutOfBoundsException", Cond.initialized "java/lang/IndexOutOfBoundsException", Cond.methodLink RX2 64 yX2_boxNumbered, Cond.instanceMethod yX2_boxNumbered, Cond.selects RX2 yX2_boxNumbered yX2_boxNumbered, Cond.initialized RX2, Cond.code yX2_boxNumbered cX2_boxNumbered 2 (some (.object "StowagePlan$Box")), Cond.fieldLink RX2 11 "StowagePlan" "boxes" "[LStowagePlan$Box;", Cond.methodLink RX2 43 yX2_isWithin, Cond.static yX2_isWithin, Cond.code yX2_isWithin cX2_isWithin 3 (some .boolean), Cond.methodLink RX2 73 yX0_tell, Cond.instanceMethod yX0_tell, Cond.selects RX0 yX0_tell yX0_tell, Cond.initialized RX0, Cond.code yX0_tell cX0_tell 2 (some .int), Cond.fieldLink RX0 26 "StowagePlan$Box" "weight" "I", Cond.fieldLink RX0 29 "StowagePlan$Box" "from" "I", Cond.fieldLink RX0 32 "StowagePlan$Box" "to" "I", Cond.fieldLink RX0 35 "StowagePlan$Box" "kind" "I", Cond.methodLink RX0 38 yX0_state, Cond.instanceMethod yX0_state, Cond.selects RX0 yX0_state yX0_state, Cond.code yX0_state cX0_state 1 (some .int)]
def wsX2_container_r2 : List Cond := [Cond.fieldLink RX0 9 "StowagePlan$Box" "isLanded" "Z", Cond.fieldLink RX0 15 "StowagePlan$Box" "stack" "LStowagePlan$Stack;"]
def wsX2_container : List Cond := .code yX2_container cX2_container 4 (some .int) :: ((wsX2_container_r1 ++ wsX2_container_r2) ++ wsX20 ++ wsX00 ++ (vx_atS RX2 72 "java/lang/IndexOutOfBoundsException" ["java/lang/RuntimeException", "java/lang/Exception"]).filter goodWord)
def wsX2_setLimits : List Cond := .code yX2_setLimits cX2_setLimits 5 (some .int) :: ([.classLink RX2 47 "java/lang/IllegalArgumentException", .initialized "java/lang/IllegalArgumentException", .fieldLink RX2 28 "StowagePlan" "stackLimit" "I", .fieldLink RX2 31 "StowagePlan" "listLimit" "I", .fieldLink RX2 34 "StowagePlan" "trimLimit" "I", .methodLink RX2 43 yX2_isWithin, .static yX2_isWithin, .initialized RX2, .code yX2_isWithin cX2_isWithin 3 (some .boolean)] ++ wsX20 ++ (vx_atS RX2 51 "java/lang/IllegalArgumentException" ["java/lang/RuntimeException", "java/lang/Exception"]).filter goodWord)
def wsX2_stackAt : List Cond := .code yX2_stackAt cX2_stackAt 4 (some (.object "StowagePlan$Stack")) :: ([.fieldLink RX2 17 "StowagePlan" "stacks" "[LStowagePlan$Stack;", .methodLink RX2 43 yX2_isWithin, .static yX2_isWithin, .initialized RX2, .code yX2_isWithin cX2_isWithin 3 (some .boolean)] ++ wsX20)
def wsX2_setPlug : List Cond := .code yX2_setPlug cX2_setPlug 6 (some .boolean) :: ([.classLink RX2 68 "java/lang/IndexOutOfBoundsException", .initialized "java/lang/IndexOutOfBoundsException", .classLink RX2 54 "java/lang/IllegalStateException", .initialized "java/lang/IllegalStateException", .fieldLink RX2 91 "StowagePlan$Stack" "hasPlug" "Z", .methodLink RX2 79 yX2_stackAt, .instanceMethod yX2_stackAt, .selects RX2 yX2_stackAt yX2_stackAt, .initialized RX2, .code yX2_stackAt cX2_stackAt 4 (some (.object "StowagePlan$Stack")), .fieldLink RX2 17 "StowagePlan" "stacks" "[LStowagePlan$Stack;", .methodLink RX2 43 yX2_isWithin, .static yX2_isWithin, .code yX2_isWithin cX2_isWithin 3 (some .boolean), .methodLink RX2 85 yX1_hasReefer, .instanceMethod yX1_hasReefer, .selects RX1 yX1_hasReefer yX1_hasReefer, .initialized RX1, .code yX1_hasReefer cX1_hasReefer 5 (some .boolean), .fieldLink RX1 11 "StowagePlan$Stack" "boxes" "[LStowagePlan$Box;", .fieldLink RX1 61 "StowagePlan$Box" "kind" "I"] ++ wsX10 ++ wsX20 ++ wsX00 ++ (vx_atS RX2 72 "java/lang/IndexOutOfBoundsException" ["java/lang/RuntimeException", "java/lang/Exception"]).filter goodWord ++ (vx_atS RX2 58 "java/lang/IllegalStateException" ["java/lang/RuntimeException", "java/lang/Exception"]).filter goodWord)
def wsX2_isApartFromOthers : List Cond := .code yX2_isApartFromOthers cX2_isApartFromOthers 7 (some .boolean) :: ([.fieldLink RX2 11 "StowagePlan" "boxes" "[LStowagePlan$Box;", .fieldLink RX2 165 "StowagePlan$Box" "stack" "LStowagePlan$Stack;", .fieldLink RX2 219 "StowagePlan$Box" "kind" "I", .methodLink RX2 228 yX0_isDangerous, .instanceMethod yX0_isDangerous, .selects RX0 yX0_isDangerous yX0_isDangerous, .initialized RX0, .code yX0_isDangerous cX0_isDangerous 1 (some .boolean), .fieldLink RX0 35 "StowagePlan$Box" "kind" "I", .methodLink RX2 231 yX1_isApartFrom, .instanceMethod yX1_isApartFrom, .selects RX1 yX1_isApartFrom yX1_isApartFrom, .initialized RX1, .code yX1_isApartFrom cX1_isApartFrom 3 (some .boolean), .fieldLink RX1 21 "StowagePlan$Stack" "bay" "I", .methodLink RX1 31 Lib.Math.abs.name, .static Lib.Math.abs.name, .initialized "java/lang/Math", .code Lib.Math.abs.name Lib.Math.abs.code 1 (some .int), .fieldLink RX1 24 "StowagePlan$Stack" "row" "I"] ++ wsX20 ++ wsX00 ++ wsX10)
def wsX2_isLoadable_r1 : List Cond := [Cond.fieldLink RX2 25 "StowagePlan" "shipPort" "I", Cond.fieldLink RX2 201 "StowagePlan$Stack" "size" "I", Cond.fieldLink RX2 169 "StowagePlan$Box" "weight" "I", Cond.fieldLink RX2 28 "StowagePlan" "stackLimit" "I", Cond.fieldLink RX2 219 "StowagePlan$Box" "kind" "I", Cond.methodLink RX2 187 yX0_waitsAt, Cond.instanceMethod yX0_waitsAt, Cond.selects RX0 yX0_waitsAt yX0_waitsAt, Cond.initialized RX0, Cond.code yX0_waitsAt cX0_waitsAt 2 (some .boolean), Cond.fieldLink RX0 29 "StowagePlan$Box" "from" "I", Cond.methodLink RX0 38 yX0_state, Cond.instanceMethod yX0_state, Cond.selects RX0 yX0_state yX0_state, Cond.code yX0_state cX0_state 1 (some .int), Cond.fieldLink RX0 9 "StowagePlan$Box" "isLanded" "Z", Cond.fieldLink RX0 15 "StowagePlan$Box" "stack" "LStowagePlan$Stack;", Cond.methodLink RX2 156 yX1_weightSum, Cond.instanceMethod yX1_weightSum, Cond.selects RX1 yX1_weightSum yX1_weightSum, Cond.initialized RX1, Cond.code yX1_weightSum cX1_weightSum 6 (some .int), Cond.fieldLink RX1 11 "StowagePlan$Stack" "boxes" "[LStowagePlan$Box;", Cond.fieldLink RX1 58 "StowagePlan$Box" "weight" "I"]
def wsX2_isLoadable_r2 : List Cond := [Cond.methodLink RX2 222 yX1_hasPowerOnNextTier, Cond.instanceMethod yX1_hasPowerOnNextTier, Cond.selects RX1 yX1_hasPowerOnNextTier yX1_hasPowerOnNextTier, Cond.code yX1_hasPowerOnNextTier cX1_hasPowerOnNextTier 1 (some .boolean), Cond.fieldLink RX1 27 "StowagePlan$Stack" "hasPlug" "Z", Cond.fieldLink RX1 17 "StowagePlan$Stack" "size" "I", Cond.methodLink RX2 225 yX2_isApartFromOthers, Cond.instanceMethod yX2_isApartFromOthers, Cond.selects RX2 yX2_isApartFromOthers yX2_isApartFromOthers, Cond.initialized RX2, Cond.code yX2_isApartFromOthers cX2_isApartFromOthers 7 (some .boolean), Cond.fieldLink RX2 11 "StowagePlan" "boxes" "[LStowagePlan$Box;", Cond.fieldLink RX2 165 "StowagePlan$Box" "stack" "LStowagePlan$Stack;", Cond.methodLink RX2 228 yX0_isDangerous, Cond.instanceMethod yX0_isDangerous, Cond.selects RX0 yX0_isDangerous yX0_isDangerous, Cond.code yX0_isDangerous cX0_isDangerous 1 (some .boolean), Cond.fieldLink RX0 35 "StowagePlan$Box" "kind" "I", Cond.methodLink RX2 231 yX1_isApartFrom, Cond.instanceMethod yX1_isApartFrom, Cond.selects RX1 yX1_isApartFrom yX1_isApartFrom, Cond.code yX1_isApartFrom cX1_isApartFrom 3 (some .boolean), Cond.fieldLink RX1 21 "StowagePlan$Stack" "bay" "I", Cond.methodLink RX1 31 Lib.Math.abs.name]
def wsX2_isLoadable_r3 : List Cond := [Cond.static Lib.Math.abs.name, Cond.initialized "java/lang/Math", Cond.code Lib.Math.abs.name Lib.Math.abs.code 1 (some .int), Cond.fieldLink RX1 24 "StowagePlan$Stack" "row" "I"]
def wsX2_isLoadable : List Cond := .code yX2_isLoadable cX2_isLoadable 3 (some .boolean) :: ((wsX2_isLoadable_r1 ++ (wsX2_isLoadable_r2 ++ wsX2_isLoadable_r3)) ++ wsX20 ++ wsX10 ++ wsX00)
def wsX2_canLoad_r1 : List Cond := [Cond.classLink RX2 68 "java/lang/IndexOutOfBoundsException", Cond.initialized "java/lang/IndexOutOfBoundsException", Cond.methodLink RX2 64 yX2_boxNumbered, Cond.instanceMethod yX2_boxNumbered, Cond.selects RX2 yX2_boxNumbered yX2_boxNumbered, Cond.initialized RX2, Cond.code yX2_boxNumbered cX2_boxNumbered 2 (some (.object "StowagePlan$Box")), Cond.fieldLink RX2 11 "StowagePlan" "boxes" "[LStowagePlan$Box;", Cond.methodLink RX2 79 yX2_stackAt, Cond.instanceMethod yX2_stackAt, Cond.selects RX2 yX2_stackAt yX2_stackAt, Cond.code yX2_stackAt cX2_stackAt 4 (some (.object "StowagePlan$Stack")), Cond.fieldLink RX2 17 "StowagePlan" "stacks" "[LStowagePlan$Stack;", Cond.methodLink RX2 43 yX2_isWithin, Cond.static yX2_isWithin, Cond.code yX2_isWithin cX2_isWithin 3 (some .boolean), Cond.methodLink RX2 97 yX2_isLoadable, Cond.instanceMethod yX2_isLoadable, Cond.selects RX2 yX2_isLoadable yX2_isLoadable, Cond.code yX2_isLoadable cX2_isLoadable 3 (some .boolean), Cond.fieldLink RX2 25 "StowagePlan" "shipPort" "I", Cond.fieldLink RX2 201 "StowagePlan$Stack" "size" "I", Cond.fieldLink RX2 169 "StowagePlan$Box" "weight" "I", Cond.fieldLink RX2 28 "StowagePlan" "stackLimit" "I"]
def wsX2_canLoad_r2 : List Cond := [Cond.fieldLink RX2 219 "StowagePlan$Box" "kind" "I", Cond.methodLink RX2 187 yX0_waitsAt, Cond.instanceMethod yX0_waitsAt, Cond.selects RX0 yX0_waitsAt yX0_waitsAt, Cond.initialized RX0, Cond.code yX0_waitsAt cX0_waitsAt 2 (some .boolean), Cond.fieldLink RX0 29 "StowagePlan$Box" "from" "I", Cond.methodLink RX0 38 yX0_state, Cond.instanceMethod yX0_state, Cond.selects RX0 yX0_state yX0_state, Cond.code yX0_state cX0_state 1 (some .int), Cond.fieldLink RX0 9 "StowagePlan$Box" "isLanded" "Z", Cond.fieldLink RX0 15 "StowagePlan$Box" "stack" "LStowagePlan$Stack;", Cond.methodLink RX2 156 yX1_weightSum, Cond.instanceMethod yX1_weightSum, Cond.selects RX1 yX1_weightSum yX1_weightSum, Cond.initialized RX1, Cond.code yX1_weightSum cX1_weightSum 6 (some .int), Cond.fieldLink RX1 11 "StowagePlan$Stack" "boxes" "[LStowagePlan$Box;", Cond.fieldLink RX1 58 "StowagePlan$Box" "weight" "I", Cond.methodLink RX2 222 yX1_hasPowerOnNextTier, Cond.instanceMethod yX1_hasPowerOnNextTier, Cond.selects RX1 yX1_hasPowerOnNextTier yX1_hasPowerOnNextTier, Cond.code yX1_hasPowerOnNextTier cX1_hasPowerOnNextTier 1 (some .boolean)]
def wsX2_canLoad_r3 : List Cond := [Cond.fieldLink RX1 27 "StowagePlan$Stack" "hasPlug" "Z", Cond.fieldLink RX1 17 "StowagePlan$Stack" "size" "I", Cond.methodLink RX2 225 yX2_isApartFromOthers, Cond.instanceMethod yX2_isApartFromOthers, Cond.selects RX2 yX2_isApartFromOthers yX2_isApartFromOthers, Cond.code yX2_isApartFromOthers cX2_isApartFromOthers 7 (some .boolean), Cond.fieldLink RX2 165 "StowagePlan$Box" "stack" "LStowagePlan$Stack;", Cond.methodLink RX2 228 yX0_isDangerous, Cond.instanceMethod yX0_isDangerous, Cond.selects RX0 yX0_isDangerous yX0_isDangerous, Cond.code yX0_isDangerous cX0_isDangerous 1 (some .boolean), Cond.fieldLink RX0 35 "StowagePlan$Box" "kind" "I", Cond.methodLink RX2 231 yX1_isApartFrom, Cond.instanceMethod yX1_isApartFrom, Cond.selects RX1 yX1_isApartFrom yX1_isApartFrom, Cond.code yX1_isApartFrom cX1_isApartFrom 3 (some .boolean), Cond.fieldLink RX1 21 "StowagePlan$Stack" "bay" "I", Cond.methodLink RX1 31 Lib.Math.abs.name, Cond.static Lib.Math.abs.name, Cond.initialized "java/lang/Math", Cond.code Lib.Math.abs.name Lib.Math.abs.code 1 (some .int), Cond.fieldLink RX1 24 "StowagePlan$Stack" "row" "I"]
def wsX2_canLoad : List Cond := .code yX2_canLoad cX2_canLoad 6 (some .boolean) :: ((wsX2_canLoad_r1 ++ (wsX2_canLoad_r2 ++ wsX2_canLoad_r3)) ++ wsX20 ++ wsX10 ++ wsX00 ++ (vx_atS RX2 72 "java/lang/IndexOutOfBoundsException" ["java/lang/RuntimeException", "java/lang/Exception"]).filter goodWord)
def wsX2_load_r1 : List Cond := [Cond.classLink RX2 68 "java/lang/IndexOutOfBoundsException", Cond.initialized "java/lang/IndexOutOfBoundsException", Cond.classLink RX2 54 "java/lang/IllegalStateException", Cond.initialized "java/lang/IllegalStateException", Cond.fieldLink RX2 107 "StowagePlan$Box" "tier" "I", Cond.methodLink RX2 64 yX2_boxNumbered, Cond.instanceMethod yX2_boxNumbered, Cond.selects RX2 yX2_boxNumbered yX2_boxNumbered, Cond.initialized RX2, Cond.code yX2_boxNumbered cX2_boxNumbered 2 (some (.object "StowagePlan$Box")), Cond.fieldLink RX2 11 "StowagePlan" "boxes" "[LStowagePlan$Box;", Cond.methodLink RX2 79 yX2_stackAt, Cond.instanceMethod yX2_stackAt, Cond.selects RX2 yX2_stackAt yX2_stackAt, Cond.code yX2_stackAt cX2_stackAt 4 (some (.object "StowagePlan$Stack")), Cond.fieldLink RX2 17 "StowagePlan" "stacks" "[LStowagePlan$Stack;", Cond.methodLink RX2 43 yX2_isWithin, Cond.static yX2_isWithin, Cond.code yX2_isWithin cX2_isWithin 3 (some .boolean), Cond.methodLink RX2 97 yX2_isLoadable, Cond.instanceMethod yX2_isLoadable, Cond.selects RX2 yX2_isLoadable yX2_isLoadable, Cond.code yX2_isLoadable cX2_isLoadable 3 (some .boolean), Cond.fieldLink RX2 25 "StowagePlan" "shipPort" "I"]
def wsX2_load_r2 : List Cond := [Cond.fieldLink RX2 201 "StowagePlan$Stack" "size" "I", Cond.fieldLink RX2 169 "StowagePlan$Box" "weight" "I", Cond.fieldLink RX2 28 "StowagePlan" "stackLimit" "I", Cond.fieldLink RX2 219 "StowagePlan$Box" "kind" "I", Cond.methodLink RX2 187 yX0_waitsAt, Cond.instanceMethod yX0_waitsAt, Cond.selects RX0 yX0_waitsAt yX0_waitsAt, Cond.initialized RX0, Cond.code yX0_waitsAt cX0_waitsAt 2 (some .boolean), Cond.fieldLink RX0 29 "StowagePlan$Box" "from" "I", Cond.methodLink RX0 38 yX0_state, Cond.instanceMethod yX0_state, Cond.selects RX0 yX0_state yX0_state, Cond.code yX0_state cX0_state 1 (some .int), Cond.fieldLink RX0 9 "StowagePlan$Box" "isLanded" "Z", Cond.fieldLink RX0 15 "StowagePlan$Box" "stack" "LStowagePlan$Stack;", Cond.methodLink RX2 156 yX1_weightSum, Cond.instanceMethod yX1_weightSum, Cond.selects RX1 yX1_weightSum yX1_weightSum, Cond.initialized RX1, Cond.code yX1_weightSum cX1_weightSum 6 (some .int), Cond.fieldLink RX1 11 "StowagePlan$Stack" "boxes" "[LStowagePlan$Box;", Cond.fieldLink RX1 58 "StowagePlan$Box" "weight" "I", Cond.methodLink RX2 222 yX1_hasPowerOnNextTier]
def wsX2_load_r3 : List Cond := [Cond.instanceMethod yX1_hasPowerOnNextTier, Cond.selects RX1 yX1_hasPowerOnNextTier yX1_hasPowerOnNextTier, Cond.code yX1_hasPowerOnNextTier cX1_hasPowerOnNextTier 1 (some .boolean), Cond.fieldLink RX1 27 "StowagePlan$Stack" "hasPlug" "Z", Cond.fieldLink RX1 17 "StowagePlan$Stack" "size" "I", Cond.methodLink RX2 225 yX2_isApartFromOthers, Cond.instanceMethod yX2_isApartFromOthers, Cond.selects RX2 yX2_isApartFromOthers yX2_isApartFromOthers, Cond.code yX2_isApartFromOthers cX2_isApartFromOthers 7 (some .boolean), Cond.fieldLink RX2 165 "StowagePlan$Box" "stack" "LStowagePlan$Stack;", Cond.methodLink RX2 228 yX0_isDangerous, Cond.instanceMethod yX0_isDangerous, Cond.selects RX0 yX0_isDangerous yX0_isDangerous, Cond.code yX0_isDangerous cX0_isDangerous 1 (some .boolean), Cond.fieldLink RX0 35 "StowagePlan$Box" "kind" "I", Cond.methodLink RX2 231 yX1_isApartFrom, Cond.instanceMethod yX1_isApartFrom, Cond.selects RX1 yX1_isApartFrom yX1_isApartFrom, Cond.code yX1_isApartFrom cX1_isApartFrom 3 (some .boolean), Cond.fieldLink RX1 21 "StowagePlan$Stack" "bay" "I", Cond.methodLink RX1 31 Lib.Math.abs.name, Cond.static Lib.Math.abs.name, Cond.initialized "java/lang/Math", Cond.code Lib.Math.abs.name Lib.Math.abs.code 1 (some .int)]
def wsX2_load_r4 : List Cond := [Cond.fieldLink RX1 24 "StowagePlan$Stack" "row" "I", Cond.methodLink RX2 103 yX1_push, Cond.instanceMethod yX1_push, Cond.selects RX1 yX1_push yX1_push, Cond.code yX1_push cX1_push 2 none, Cond.fieldLink RX1 41 "StowagePlan$Box" "stack" "LStowagePlan$Stack;", Cond.fieldLink RX1 45 "StowagePlan$Box" "tier" "I"]
def wsX2_load : List Cond := .code yX2_load cX2_load 6 (some .int) :: ((wsX2_load_r1 ++ (wsX2_load_r2 ++ (wsX2_load_r3 ++ wsX2_load_r4))) ++ wsX00 ++ wsX20 ++ wsX10 ++ (vx_atS RX2 72 "java/lang/IndexOutOfBoundsException" ["java/lang/RuntimeException", "java/lang/Exception"]).filter goodWord ++ (vx_atS RX2 58 "java/lang/IllegalStateException" ["java/lang/RuntimeException", "java/lang/Exception"]).filter goodWord)
def wsX2_numberOf : List Cond := .code yX2_numberOf cX2_numberOf 1 (some .int) :: ([.fieldLink RX2 216 "StowagePlan$Box" "number" "I"] ++ wsX00)
def wsX2_lift_r1 : List Cond := [Cond.classLink RX2 68 "java/lang/IndexOutOfBoundsException", Cond.initialized "java/lang/IndexOutOfBoundsException", Cond.classLink RX2 54 "java/lang/IllegalStateException", Cond.initialized "java/lang/IllegalStateException", Cond.fieldLink RX2 114 "StowagePlan$Box" "from" "I", Cond.fieldLink RX2 25 "StowagePlan" "shipPort" "I", Cond.methodLink RX2 79 yX2_stackAt, Cond.instanceMethod yX2_stackAt, Cond.selects RX2 yX2_stackAt yX2_stackAt, Cond.initialized RX2, Cond.code yX2_stackAt cX2_stackAt 4 (some (.object "StowagePlan$Stack")), Cond.fieldLink RX2 17 "StowagePlan" "stacks" "[LStowagePlan$Stack;", Cond.methodLink RX2 43 yX2_isWithin, Cond.static yX2_isWithin, Cond.code yX2_isWithin cX2_isWithin 3 (some .boolean), Cond.methodLink RX2 110 yX1_top, Cond.instanceMethod yX1_top, Cond.selects RX1 yX1_top yX1_top, Cond.initialized RX1, Cond.code yX1_top cX1_top 1 (some (.object "StowagePlan$Box")), Cond.fieldLink RX1 17 "StowagePlan$Stack" "size" "I", Cond.methodLink RX1 37 yX1_onTier, Cond.instanceMethod yX1_onTier, Cond.selects RX1 yX1_onTier yX1_onTier]
def wsX2_lift_r2 : List Cond := [Cond.code yX1_onTier cX1_onTier 2 (some (.object "StowagePlan$Box")), Cond.fieldLink RX1 11 "StowagePlan$Stack" "boxes" "[LStowagePlan$Box;", Cond.methodLink RX2 119 yX1_dropTop, Cond.instanceMethod yX1_dropTop, Cond.selects RX1 yX1_dropTop yX1_dropTop, Cond.code yX1_dropTop cX1_dropTop 3 none, Cond.fieldLink RX1 41 "StowagePlan$Box" "stack" "LStowagePlan$Stack;", Cond.methodLink RX2 122 yX2_numberOf, Cond.static yX2_numberOf, Cond.code yX2_numberOf cX2_numberOf 1 (some .int), Cond.fieldLink RX2 216 "StowagePlan$Box" "number" "I"]
def wsX2_lift : List Cond := .code yX2_lift cX2_lift 5 (some .int) :: ((wsX2_lift_r1 ++ wsX2_lift_r2) ++ wsX00 ++ wsX20 ++ wsX10 ++ (vx_atS RX2 72 "java/lang/IndexOutOfBoundsException" ["java/lang/RuntimeException", "java/lang/Exception"]).filter goodWord ++ (vx_atS RX2 58 "java/lang/IllegalStateException" ["java/lang/RuntimeException", "java/lang/Exception"]).filter goodWord)
def wsX2_hasChoice_r1 : List Cond := [Cond.fieldLink RX2 17 "StowagePlan" "stacks" "[LStowagePlan$Stack;", Cond.methodLink RX2 97 yX2_isLoadable, Cond.instanceMethod yX2_isLoadable, Cond.selects RX2 yX2_isLoadable yX2_isLoadable, Cond.initialized RX2, Cond.code yX2_isLoadable cX2_isLoadable 3 (some .boolean), Cond.fieldLink RX2 25 "StowagePlan" "shipPort" "I", Cond.fieldLink RX2 201 "StowagePlan$Stack" "size" "I", Cond.fieldLink RX2 169 "StowagePlan$Box" "weight" "I", Cond.fieldLink RX2 28 "StowagePlan" "stackLimit" "I", Cond.fieldLink RX2 219 "StowagePlan$Box" "kind" "I", Cond.methodLink RX2 187 yX0_waitsAt, Cond.instanceMethod yX0_waitsAt, Cond.selects RX0 yX0_waitsAt yX0_waitsAt, Cond.initialized RX0, Cond.code yX0_waitsAt cX0_waitsAt 2 (some .boolean), Cond.fieldLink RX0 29 "StowagePlan$Box" "from" "I", Cond.methodLink RX0 38 yX0_state, Cond.instanceMethod yX0_state, Cond.selects RX0 yX0_state yX0_state, Cond.code yX0_state cX0_state 1 (some .int), Cond.fieldLink RX0 9 "StowagePlan$Box" "isLanded" "Z", Cond.fieldLink RX0 15 "StowagePlan$Box" "stack" "LStowagePlan$Stack;", Cond.methodLink RX2 156 yX1_weightSum]
def wsX2_hasChoice_r2 : List Cond := [Cond.instanceMethod yX1_weightSum, Cond.selects RX1 yX1_weightSum yX1_weightSum, Cond.initialized RX1, Cond.code yX1_weightSum cX1_weightSum 6 (some .int), Cond.fieldLink RX1 11 "StowagePlan$Stack" "boxes" "[LStowagePlan$Box;", Cond.fieldLink RX1 58 "StowagePlan$Box" "weight" "I", Cond.methodLink RX2 222 yX1_hasPowerOnNextTier, Cond.instanceMethod yX1_hasPowerOnNextTier, Cond.selects RX1 yX1_hasPowerOnNextTier yX1_hasPowerOnNextTier, Cond.code yX1_hasPowerOnNextTier cX1_hasPowerOnNextTier 1 (some .boolean), Cond.fieldLink RX1 27 "StowagePlan$Stack" "hasPlug" "Z", Cond.fieldLink RX1 17 "StowagePlan$Stack" "size" "I", Cond.methodLink RX2 225 yX2_isApartFromOthers, Cond.instanceMethod yX2_isApartFromOthers, Cond.selects RX2 yX2_isApartFromOthers yX2_isApartFromOthers, Cond.code yX2_isApartFromOthers cX2_isApartFromOthers 7 (some .boolean), Cond.fieldLink RX2 11 "StowagePlan" "boxes" "[LStowagePlan$Box;", Cond.fieldLink RX2 165 "StowagePlan$Box" "stack" "LStowagePlan$Stack;", Cond.methodLink RX2 228 yX0_isDangerous, Cond.instanceMethod yX0_isDangerous, Cond.selects RX0 yX0_isDangerous yX0_isDangerous, Cond.code yX0_isDangerous cX0_isDangerous 1 (some .boolean), Cond.fieldLink RX0 35 "StowagePlan$Box" "kind" "I", Cond.methodLink RX2 231 yX1_isApartFrom]
def wsX2_hasChoice_r3 : List Cond := [Cond.instanceMethod yX1_isApartFrom, Cond.selects RX1 yX1_isApartFrom yX1_isApartFrom, Cond.code yX1_isApartFrom cX1_isApartFrom 3 (some .boolean), Cond.fieldLink RX1 21 "StowagePlan$Stack" "bay" "I", Cond.methodLink RX1 31 Lib.Math.abs.name, Cond.static Lib.Math.abs.name, Cond.initialized "java/lang/Math", Cond.code Lib.Math.abs.name Lib.Math.abs.code 1 (some .int), Cond.fieldLink RX1 24 "StowagePlan$Stack" "row" "I"]
def wsX2_hasChoice : List Cond := .code yX2_hasChoice cX2_hasChoice 6 (some .boolean) :: ((wsX2_hasChoice_r1 ++ (wsX2_hasChoice_r2 ++ wsX2_hasChoice_r3)) ++ wsX20 ++ wsX10 ++ wsX00)
def wsX2_nextToLoad_r1 : List Cond := [Cond.fieldLink RX2 11 "StowagePlan" "boxes" "[LStowagePlan$Box;", Cond.methodLink RX2 235 yX0_goesBefore, Cond.instanceMethod yX0_goesBefore, Cond.selects RX0 yX0_goesBefore yX0_goesBefore, Cond.initialized RX0, Cond.code yX0_goesBefore cX0_goesBefore 2 (some .boolean), Cond.fieldLink RX0 32 "StowagePlan$Box" "to" "I", Cond.fieldLink RX0 26 "StowagePlan$Box" "weight" "I", Cond.methodLink RX2 239 yX2_hasChoice, Cond.instanceMethod yX2_hasChoice, Cond.selects RX2 yX2_hasChoice yX2_hasChoice, Cond.initialized RX2, Cond.code yX2_hasChoice cX2_hasChoice 6 (some .boolean), Cond.fieldLink RX2 17 "StowagePlan" "stacks" "[LStowagePlan$Stack;", Cond.methodLink RX2 97 yX2_isLoadable, Cond.instanceMethod yX2_isLoadable, Cond.selects RX2 yX2_isLoadable yX2_isLoadable, Cond.code yX2_isLoadable cX2_isLoadable 3 (some .boolean), Cond.fieldLink RX2 25 "StowagePlan" "shipPort" "I", Cond.fieldLink RX2 201 "StowagePlan$Stack" "size" "I", Cond.fieldLink RX2 169 "StowagePlan$Box" "weight" "I", Cond.fieldLink RX2 28 "StowagePlan" "stackLimit" "I", Cond.fieldLink RX2 219 "StowagePlan$Box" "kind" "I", Cond.methodLink RX2 187 yX0_waitsAt]
def wsX2_nextToLoad_r2 : List Cond := [Cond.instanceMethod yX0_waitsAt, Cond.selects RX0 yX0_waitsAt yX0_waitsAt, Cond.code yX0_waitsAt cX0_waitsAt 2 (some .boolean), Cond.fieldLink RX0 29 "StowagePlan$Box" "from" "I", Cond.methodLink RX0 38 yX0_state, Cond.instanceMethod yX0_state, Cond.selects RX0 yX0_state yX0_state, Cond.code yX0_state cX0_state 1 (some .int), Cond.fieldLink RX0 9 "StowagePlan$Box" "isLanded" "Z", Cond.fieldLink RX0 15 "StowagePlan$Box" "stack" "LStowagePlan$Stack;", Cond.methodLink RX2 156 yX1_weightSum, Cond.instanceMethod yX1_weightSum, Cond.selects RX1 yX1_weightSum yX1_weightSum, Cond.initialized RX1, Cond.code yX1_weightSum cX1_weightSum 6 (some .int), Cond.fieldLink RX1 11 "StowagePlan$Stack" "boxes" "[LStowagePlan$Box;", Cond.fieldLink RX1 58 "StowagePlan$Box" "weight" "I", Cond.methodLink RX2 222 yX1_hasPowerOnNextTier, Cond.instanceMethod yX1_hasPowerOnNextTier, Cond.selects RX1 yX1_hasPowerOnNextTier yX1_hasPowerOnNextTier, Cond.code yX1_hasPowerOnNextTier cX1_hasPowerOnNextTier 1 (some .boolean), Cond.fieldLink RX1 27 "StowagePlan$Stack" "hasPlug" "Z", Cond.fieldLink RX1 17 "StowagePlan$Stack" "size" "I", Cond.methodLink RX2 225 yX2_isApartFromOthers]
def wsX2_nextToLoad_r3 : List Cond := [Cond.instanceMethod yX2_isApartFromOthers, Cond.selects RX2 yX2_isApartFromOthers yX2_isApartFromOthers, Cond.code yX2_isApartFromOthers cX2_isApartFromOthers 7 (some .boolean), Cond.fieldLink RX2 165 "StowagePlan$Box" "stack" "LStowagePlan$Stack;", Cond.methodLink RX2 228 yX0_isDangerous, Cond.instanceMethod yX0_isDangerous, Cond.selects RX0 yX0_isDangerous yX0_isDangerous, Cond.code yX0_isDangerous cX0_isDangerous 1 (some .boolean), Cond.fieldLink RX0 35 "StowagePlan$Box" "kind" "I", Cond.methodLink RX2 231 yX1_isApartFrom, Cond.instanceMethod yX1_isApartFrom, Cond.selects RX1 yX1_isApartFrom yX1_isApartFrom, Cond.code yX1_isApartFrom cX1_isApartFrom 3 (some .boolean), Cond.fieldLink RX1 21 "StowagePlan$Stack" "bay" "I", Cond.methodLink RX1 31 Lib.Math.abs.name, Cond.static Lib.Math.abs.name, Cond.initialized "java/lang/Math", Cond.code Lib.Math.abs.name Lib.Math.abs.code 1 (some .int), Cond.fieldLink RX1 24 "StowagePlan$Stack" "row" "I"]
def wsX2_nextToLoad : List Cond := .code yX2_nextToLoad cX2_nextToLoad 6 (some (.object "StowagePlan$Box")) :: ((wsX2_nextToLoad_r1 ++ (wsX2_nextToLoad_r2 ++ wsX2_nextToLoad_r3)) ++ wsX20 ++ wsX00 ++ wsX10)
def wsX2_moment : List Cond := .code yX2_moment cX2_moment 7 (some .int) :: ([.fieldLink RX2 17 "StowagePlan" "stacks" "[LStowagePlan$Stack;", .methodLink RX2 156 yX1_weightSum, .instanceMethod yX1_weightSum, .selects RX1 yX1_weightSum yX1_weightSum, .initialized RX1, .code yX1_weightSum cX1_weightSum 6 (some .int), .fieldLink RX1 11 "StowagePlan$Stack" "boxes" "[LStowagePlan$Box;", .fieldLink RX1 58 "StowagePlan$Box" "weight" "I", .methodLink RX2 159 yX1_trimArm, .instanceMethod yX1_trimArm, .selects RX1 yX1_trimArm yX1_trimArm, .code yX1_trimArm cX1_trimArm 1 (some .int), .fieldLink RX1 21 "StowagePlan$Stack" "bay" "I", .methodLink RX2 162 yX1_listArm, .instanceMethod yX1_listArm, .selects RX1 yX1_listArm yX1_listArm, .code yX1_listArm cX1_listArm 1 (some .int), .fieldLink RX1 24 "StowagePlan$Stack" "row" "I"] ++ wsX20 ++ wsX10 ++ wsX00)
def wsX2_bestStackFor_r1 : List Cond := [Cond.fieldLink RX2 17 "StowagePlan" "stacks" "[LStowagePlan$Stack;", Cond.fieldLink RX2 242 "StowagePlan$Box" "to" "I", Cond.fieldLink RX2 169 "StowagePlan$Box" "weight" "I", Cond.methodLink RX2 176 Lib.Math.abs.name, Cond.static Lib.Math.abs.name, Cond.initialized "java/lang/Math", Cond.code Lib.Math.abs.name Lib.Math.abs.code 1 (some .int), Cond.methodLink RX2 172 yX2_moment, Cond.instanceMethod yX2_moment, Cond.selects RX2 yX2_moment yX2_moment, Cond.initialized RX2, Cond.code yX2_moment cX2_moment 7 (some .int), Cond.methodLink RX2 156 yX1_weightSum, Cond.instanceMethod yX1_weightSum, Cond.selects RX1 yX1_weightSum yX1_weightSum, Cond.initialized RX1, Cond.code yX1_weightSum cX1_weightSum 6 (some .int), Cond.fieldLink RX1 11 "StowagePlan$Stack" "boxes" "[LStowagePlan$Box;", Cond.fieldLink RX1 58 "StowagePlan$Box" "weight" "I", Cond.methodLink RX2 159 yX1_trimArm, Cond.instanceMethod yX1_trimArm, Cond.selects RX1 yX1_trimArm yX1_trimArm, Cond.code yX1_trimArm cX1_trimArm 1 (some .int), Cond.fieldLink RX1 21 "StowagePlan$Stack" "bay" "I"]
def wsX2_bestStackFor_r2 : List Cond := [Cond.methodLink RX2 162 yX1_listArm, Cond.instanceMethod yX1_listArm, Cond.selects RX1 yX1_listArm yX1_listArm, Cond.code yX1_listArm cX1_listArm 1 (some .int), Cond.fieldLink RX1 24 "StowagePlan$Stack" "row" "I", Cond.methodLink RX2 97 yX2_isLoadable, Cond.instanceMethod yX2_isLoadable, Cond.selects RX2 yX2_isLoadable yX2_isLoadable, Cond.code yX2_isLoadable cX2_isLoadable 3 (some .boolean), Cond.fieldLink RX2 25 "StowagePlan" "shipPort" "I", Cond.fieldLink RX2 201 "StowagePlan$Stack" "size" "I", Cond.fieldLink RX2 28 "StowagePlan" "stackLimit" "I", Cond.fieldLink RX2 219 "StowagePlan$Box" "kind" "I", Cond.methodLink RX2 187 yX0_waitsAt, Cond.instanceMethod yX0_waitsAt, Cond.selects RX0 yX0_waitsAt yX0_waitsAt, Cond.initialized RX0, Cond.code yX0_waitsAt cX0_waitsAt 2 (some .boolean), Cond.fieldLink RX0 29 "StowagePlan$Box" "from" "I", Cond.methodLink RX0 38 yX0_state, Cond.instanceMethod yX0_state, Cond.selects RX0 yX0_state yX0_state, Cond.code yX0_state cX0_state 1 (some .int), Cond.fieldLink RX0 9 "StowagePlan$Box" "isLanded" "Z"]
def wsX2_bestStackFor_r3 : List Cond := [Cond.fieldLink RX0 15 "StowagePlan$Box" "stack" "LStowagePlan$Stack;", Cond.methodLink RX2 222 yX1_hasPowerOnNextTier, Cond.instanceMethod yX1_hasPowerOnNextTier, Cond.selects RX1 yX1_hasPowerOnNextTier yX1_hasPowerOnNextTier, Cond.code yX1_hasPowerOnNextTier cX1_hasPowerOnNextTier 1 (some .boolean), Cond.fieldLink RX1 27 "StowagePlan$Stack" "hasPlug" "Z", Cond.fieldLink RX1 17 "StowagePlan$Stack" "size" "I", Cond.methodLink RX2 225 yX2_isApartFromOthers, Cond.instanceMethod yX2_isApartFromOthers, Cond.selects RX2 yX2_isApartFromOthers yX2_isApartFromOthers, Cond.code yX2_isApartFromOthers cX2_isApartFromOthers 7 (some .boolean), Cond.fieldLink RX2 11 "StowagePlan" "boxes" "[LStowagePlan$Box;", Cond.fieldLink RX2 165 "StowagePlan$Box" "stack" "LStowagePlan$Stack;", Cond.methodLink RX2 228 yX0_isDangerous, Cond.instanceMethod yX0_isDangerous, Cond.selects RX0 yX0_isDangerous yX0_isDangerous, Cond.code yX0_isDangerous cX0_isDangerous 1 (some .boolean), Cond.fieldLink RX0 35 "StowagePlan$Box" "kind" "I", Cond.methodLink RX2 231 yX1_isApartFrom, Cond.instanceMethod yX1_isApartFrom, Cond.selects RX1 yX1_isApartFrom yX1_isApartFrom, Cond.code yX1_isApartFrom cX1_isApartFrom 3 (some .boolean), Cond.methodLink RX1 31 Lib.Math.abs.name, Cond.methodLink RX2 245 yX1_countLandedBefore]
def wsX2_bestStackFor_r4 : List Cond := [Cond.instanceMethod yX1_countLandedBefore, Cond.selects RX1 yX1_countLandedBefore yX1_countLandedBefore, Cond.code yX1_countLandedBefore cX1_countLandedBefore 7 (some .int), Cond.fieldLink RX1 48 "StowagePlan$Box" "to" "I"]
def wsX2_bestStackFor : List Cond := .code yX2_bestStackFor cX2_bestStackFor 15 (some (.object "StowagePlan$Stack")) :: ((wsX2_bestStackFor_r1 ++ (wsX2_bestStackFor_r2 ++ (wsX2_bestStackFor_r3 ++ wsX2_bestStackFor_r4))) ++ wsX20 ++ wsX00 ++ wsX10)
def wsX2_plan_r1 : List Cond := [Cond.methodLink RX2 126 yX2_nextToLoad, Cond.instanceMethod yX2_nextToLoad, Cond.selects RX2 yX2_nextToLoad yX2_nextToLoad, Cond.initialized RX2, Cond.code yX2_nextToLoad cX2_nextToLoad 6 (some (.object "StowagePlan$Box")), Cond.fieldLink RX2 11 "StowagePlan" "boxes" "[LStowagePlan$Box;", Cond.methodLink RX2 235 yX0_goesBefore, Cond.instanceMethod yX0_goesBefore, Cond.selects RX0 yX0_goesBefore yX0_goesBefore, Cond.initialized RX0, Cond.code yX0_goesBefore cX0_goesBefore 2 (some .boolean), Cond.fieldLink RX0 32 "StowagePlan$Box" "to" "I", Cond.fieldLink RX0 26 "StowagePlan$Box" "weight" "I", Cond.methodLink RX2 239 yX2_hasChoice, Cond.instanceMethod yX2_hasChoice, Cond.selects RX2 yX2_hasChoice yX2_hasChoice, Cond.code yX2_hasChoice cX2_hasChoice 6 (some .boolean), Cond.fieldLink RX2 17 "StowagePlan" "stacks" "[LStowagePlan$Stack;", Cond.methodLink RX2 97 yX2_isLoadable, Cond.instanceMethod yX2_isLoadable, Cond.selects RX2 yX2_isLoadable yX2_isLoadable, Cond.code yX2_isLoadable cX2_isLoadable 3 (some .boolean), Cond.fieldLink RX2 25 "StowagePlan" "shipPort" "I", Cond.fieldLink RX2 201 "StowagePlan$Stack" "size" "I"]
def wsX2_plan_r2 : List Cond := [Cond.fieldLink RX2 169 "StowagePlan$Box" "weight" "I", Cond.fieldLink RX2 28 "StowagePlan" "stackLimit" "I", Cond.fieldLink RX2 219 "StowagePlan$Box" "kind" "I", Cond.methodLink RX2 187 yX0_waitsAt, Cond.instanceMethod yX0_waitsAt, Cond.selects RX0 yX0_waitsAt yX0_waitsAt, Cond.code yX0_waitsAt cX0_waitsAt 2 (some .boolean), Cond.fieldLink RX0 29 "StowagePlan$Box" "from" "I", Cond.methodLink RX0 38 yX0_state, Cond.instanceMethod yX0_state, Cond.selects RX0 yX0_state yX0_state, Cond.code yX0_state cX0_state 1 (some .int), Cond.fieldLink RX0 9 "StowagePlan$Box" "isLanded" "Z", Cond.fieldLink RX0 15 "StowagePlan$Box" "stack" "LStowagePlan$Stack;", Cond.methodLink RX2 156 yX1_weightSum, Cond.instanceMethod yX1_weightSum, Cond.selects RX1 yX1_weightSum yX1_weightSum, Cond.initialized RX1, Cond.code yX1_weightSum cX1_weightSum 6 (some .int), Cond.fieldLink RX1 11 "StowagePlan$Stack" "boxes" "[LStowagePlan$Box;", Cond.fieldLink RX1 58 "StowagePlan$Box" "weight" "I", Cond.methodLink RX2 222 yX1_hasPowerOnNextTier, Cond.instanceMethod yX1_hasPowerOnNextTier, Cond.selects RX1 yX1_hasPowerOnNextTier yX1_hasPowerOnNextTier]
def wsX2_plan_r3 : List Cond := [Cond.code yX1_hasPowerOnNextTier cX1_hasPowerOnNextTier 1 (some .boolean), Cond.fieldLink RX1 27 "StowagePlan$Stack" "hasPlug" "Z", Cond.fieldLink RX1 17 "StowagePlan$Stack" "size" "I", Cond.methodLink RX2 225 yX2_isApartFromOthers, Cond.instanceMethod yX2_isApartFromOthers, Cond.selects RX2 yX2_isApartFromOthers yX2_isApartFromOthers, Cond.code yX2_isApartFromOthers cX2_isApartFromOthers 7 (some .boolean), Cond.fieldLink RX2 165 "StowagePlan$Box" "stack" "LStowagePlan$Stack;", Cond.methodLink RX2 228 yX0_isDangerous, Cond.instanceMethod yX0_isDangerous, Cond.selects RX0 yX0_isDangerous yX0_isDangerous, Cond.code yX0_isDangerous cX0_isDangerous 1 (some .boolean), Cond.fieldLink RX0 35 "StowagePlan$Box" "kind" "I", Cond.methodLink RX2 231 yX1_isApartFrom, Cond.instanceMethod yX1_isApartFrom, Cond.selects RX1 yX1_isApartFrom yX1_isApartFrom, Cond.code yX1_isApartFrom cX1_isApartFrom 3 (some .boolean), Cond.fieldLink RX1 21 "StowagePlan$Stack" "bay" "I", Cond.methodLink RX1 31 Lib.Math.abs.name, Cond.static Lib.Math.abs.name, Cond.initialized "java/lang/Math", Cond.code Lib.Math.abs.name Lib.Math.abs.code 1 (some .int), Cond.fieldLink RX1 24 "StowagePlan$Stack" "row" "I", Cond.methodLink RX2 129 yX2_bestStackFor]
def wsX2_plan_r4 : List Cond := [Cond.instanceMethod yX2_bestStackFor, Cond.selects RX2 yX2_bestStackFor yX2_bestStackFor, Cond.code yX2_bestStackFor cX2_bestStackFor 15 (some (.object "StowagePlan$Stack")), Cond.fieldLink RX2 242 "StowagePlan$Box" "to" "I", Cond.methodLink RX2 176 Lib.Math.abs.name, Cond.methodLink RX2 172 yX2_moment, Cond.instanceMethod yX2_moment, Cond.selects RX2 yX2_moment yX2_moment, Cond.code yX2_moment cX2_moment 7 (some .int), Cond.methodLink RX2 159 yX1_trimArm, Cond.instanceMethod yX1_trimArm, Cond.selects RX1 yX1_trimArm yX1_trimArm, Cond.code yX1_trimArm cX1_trimArm 1 (some .int), Cond.methodLink RX2 162 yX1_listArm, Cond.instanceMethod yX1_listArm, Cond.selects RX1 yX1_listArm yX1_listArm, Cond.code yX1_listArm cX1_listArm 1 (some .int), Cond.methodLink RX2 245 yX1_countLandedBefore, Cond.instanceMethod yX1_countLandedBefore, Cond.selects RX1 yX1_countLandedBefore yX1_countLandedBefore, Cond.code yX1_countLandedBefore cX1_countLandedBefore 7 (some .int), Cond.fieldLink RX1 48 "StowagePlan$Box" "to" "I", Cond.methodLink RX2 103 yX1_push, Cond.instanceMethod yX1_push]
def wsX2_plan_r5 : List Cond := [Cond.selects RX1 yX1_push yX1_push, Cond.code yX1_push cX1_push 2 none, Cond.fieldLink RX1 41 "StowagePlan$Box" "stack" "LStowagePlan$Stack;", Cond.fieldLink RX1 45 "StowagePlan$Box" "tier" "I"]
def wsX2_plan : List Cond := .code yX2_plan cX2_plan 5 (some .int) :: ((wsX2_plan_r1 ++ (wsX2_plan_r2 ++ (wsX2_plan_r3 ++ (wsX2_plan_r4 ++ wsX2_plan_r5)))) ++ wsX20 ++ wsX00 ++ wsX10)
def wsX2_height : List Cond := .code yX2_height cX2_height 7 (some .double) :: ([.fieldLink RX2 11 "StowagePlan" "boxes" "[LStowagePlan$Box;", .fieldLink RX2 165 "StowagePlan$Box" "stack" "LStowagePlan$Stack;", .fieldLink RX2 169 "StowagePlan$Box" "weight" "I", .fieldLink RX2 107 "StowagePlan$Box" "tier" "I"] ++ wsX20 ++ wsX00)
def wsX2_isSteady_r1 : List Cond := [Cond.methodLink RX2 176 Lib.Math.abs.name, Cond.static Lib.Math.abs.name, Cond.initialized "java/lang/Math", Cond.code Lib.Math.abs.name Lib.Math.abs.code 1 (some .int), Cond.fieldLink RX2 31 "StowagePlan" "listLimit" "I", Cond.fieldLink RX2 34 "StowagePlan" "trimLimit" "I", Cond.constantDouble RX2 185 (4617315517961601024), Cond.methodLink RX2 172 yX2_moment, Cond.instanceMethod yX2_moment, Cond.selects RX2 yX2_moment yX2_moment, Cond.initialized RX2, Cond.code yX2_moment cX2_moment 7 (some .int), Cond.fieldLink RX2 17 "StowagePlan" "stacks" "[LStowagePlan$Stack;", Cond.methodLink RX2 156 yX1_weightSum, Cond.instanceMethod yX1_weightSum, Cond.selects RX1 yX1_weightSum yX1_weightSum, Cond.initialized RX1, Cond.code yX1_weightSum cX1_weightSum 6 (some .int), Cond.fieldLink RX1 11 "StowagePlan$Stack" "boxes" "[LStowagePlan$Box;", Cond.fieldLink RX1 58 "StowagePlan$Box" "weight" "I", Cond.methodLink RX2 159 yX1_trimArm, Cond.instanceMethod yX1_trimArm, Cond.selects RX1 yX1_trimArm yX1_trimArm, Cond.code yX1_trimArm cX1_trimArm 1 (some .int)]
def wsX2_isSteady_r2 : List Cond := [Cond.fieldLink RX1 21 "StowagePlan$Stack" "bay" "I", Cond.methodLink RX2 162 yX1_listArm, Cond.instanceMethod yX1_listArm, Cond.selects RX1 yX1_listArm yX1_listArm, Cond.code yX1_listArm cX1_listArm 1 (some .int), Cond.fieldLink RX1 24 "StowagePlan$Stack" "row" "I", Cond.methodLink RX2 181 yX2_height, Cond.instanceMethod yX2_height, Cond.selects RX2 yX2_height yX2_height, Cond.code yX2_height cX2_height 7 (some .double), Cond.fieldLink RX2 11 "StowagePlan" "boxes" "[LStowagePlan$Box;", Cond.fieldLink RX2 165 "StowagePlan$Box" "stack" "LStowagePlan$Stack;", Cond.fieldLink RX2 169 "StowagePlan$Box" "weight" "I", Cond.fieldLink RX2 107 "StowagePlan$Box" "tier" "I"]
def wsX2_isSteady : List Cond := .code yX2_isSteady cX2_isSteady 1 (some .boolean) :: ((wsX2_isSteady_r1 ++ wsX2_isSteady_r2) ++ wsX20 ++ wsX10 ++ wsX00)
def wsX2_sail_r1 : List Cond := [Cond.classLink RX2 54 "java/lang/IllegalStateException", Cond.initialized "java/lang/IllegalStateException", Cond.fieldLink RX2 25 "StowagePlan" "shipPort" "I", Cond.fieldLink RX2 17 "StowagePlan" "stacks" "[LStowagePlan$Stack;", Cond.fieldLink RX2 37 "StowagePlan" "putBack" "I", Cond.methodLink RX2 133 yX2_isSteady, Cond.instanceMethod yX2_isSteady, Cond.selects RX2 yX2_isSteady yX2_isSteady, Cond.initialized RX2, Cond.code yX2_isSteady cX2_isSteady 1 (some .boolean), Cond.methodLink RX2 176 Lib.Math.abs.name, Cond.static Lib.Math.abs.name, Cond.initialized "java/lang/Math", Cond.code Lib.Math.abs.name Lib.Math.abs.code 1 (some .int), Cond.fieldLink RX2 31 "StowagePlan" "listLimit" "I", Cond.fieldLink RX2 34 "StowagePlan" "trimLimit" "I", Cond.constantDouble RX2 185 (4617315517961601024), Cond.methodLink RX2 172 yX2_moment, Cond.instanceMethod yX2_moment, Cond.selects RX2 yX2_moment yX2_moment, Cond.code yX2_moment cX2_moment 7 (some .int), Cond.methodLink RX2 156 yX1_weightSum, Cond.instanceMethod yX1_weightSum, Cond.selects RX1 yX1_weightSum yX1_weightSum]
def wsX2_sail_r2 : List Cond := [Cond.initialized RX1, Cond.code yX1_weightSum cX1_weightSum 6 (some .int), Cond.fieldLink RX1 11 "StowagePlan$Stack" "boxes" "[LStowagePlan$Box;", Cond.fieldLink RX1 58 "StowagePlan$Box" "weight" "I", Cond.methodLink RX2 159 yX1_trimArm, Cond.instanceMethod yX1_trimArm, Cond.selects RX1 yX1_trimArm yX1_trimArm, Cond.code yX1_trimArm cX1_trimArm 1 (some .int), Cond.fieldLink RX1 21 "StowagePlan$Stack" "bay" "I", Cond.methodLink RX2 162 yX1_listArm, Cond.instanceMethod yX1_listArm, Cond.selects RX1 yX1_listArm yX1_listArm, Cond.code yX1_listArm cX1_listArm 1 (some .int), Cond.fieldLink RX1 24 "StowagePlan$Stack" "row" "I", Cond.methodLink RX2 181 yX2_height, Cond.instanceMethod yX2_height, Cond.selects RX2 yX2_height yX2_height, Cond.code yX2_height cX2_height 7 (some .double), Cond.fieldLink RX2 11 "StowagePlan" "boxes" "[LStowagePlan$Box;", Cond.fieldLink RX2 165 "StowagePlan$Box" "stack" "LStowagePlan$Stack;", Cond.fieldLink RX2 169 "StowagePlan$Box" "weight" "I", Cond.fieldLink RX2 107 "StowagePlan$Box" "tier" "I", Cond.methodLink RX2 138 yX1_liftsFor, Cond.instanceMethod yX1_liftsFor]
def wsX2_sail_r3 : List Cond := [Cond.selects RX1 yX1_liftsFor yX1_liftsFor, Cond.code yX1_liftsFor cX1_liftsFor 8 (some .int), Cond.fieldLink RX1 48 "StowagePlan$Box" "to" "I", Cond.methodLink RX2 141 yX1_land, Cond.instanceMethod yX1_land, Cond.selects RX1 yX1_land yX1_land, Cond.code yX1_land cX1_land 4 none, Cond.fieldLink RX1 17 "StowagePlan$Stack" "size" "I", Cond.fieldLink RX1 41 "StowagePlan$Box" "stack" "LStowagePlan$Stack;", Cond.fieldLink RX1 51 "StowagePlan$Box" "isLanded" "Z", Cond.methodLink RX1 54 yX1_push, Cond.instanceMethod yX1_push, Cond.selects RX1 yX1_push yX1_push, Cond.code yX1_push cX1_push 2 none, Cond.fieldLink RX1 45 "StowagePlan$Box" "tier" "I"]
def wsX2_sail : List Cond := .code yX2_sail cX2_sail 6 (some .int) :: ((wsX2_sail_r1 ++ (wsX2_sail_r2 ++ wsX2_sail_r3)) ++ wsX20 ++ wsX10 ++ wsX00 ++ (vx_atS RX2 58 "java/lang/IllegalStateException" ["java/lang/RuntimeException", "java/lang/Exception"]).filter goodWord)
def wsX2_port : List Cond := .code yX2_port cX2_port 1 (some .int) :: ([.fieldLink RX2 25 "StowagePlan" "shipPort" "I"] ++ wsX20)
def wsX2_at : List Cond := .code yX2_at cX2_at 5 (some .int) :: ([.classLink RX2 68 "java/lang/IndexOutOfBoundsException", .initialized "java/lang/IndexOutOfBoundsException", .methodLink RX2 79 yX2_stackAt, .instanceMethod yX2_stackAt, .selects RX2 yX2_stackAt yX2_stackAt, .initialized RX2, .code yX2_stackAt cX2_stackAt 4 (some (.object "StowagePlan$Stack")), .fieldLink RX2 17 "StowagePlan" "stacks" "[LStowagePlan$Stack;", .methodLink RX2 43 yX2_isWithin, .static yX2_isWithin, .code yX2_isWithin cX2_isWithin 3 (some .boolean), .methodLink RX2 147 yX1_onTier, .instanceMethod yX1_onTier, .selects RX1 yX1_onTier yX1_onTier, .initialized RX1, .code yX1_onTier cX1_onTier 2 (some (.object "StowagePlan$Box")), .fieldLink RX1 11 "StowagePlan$Stack" "boxes" "[LStowagePlan$Box;", .methodLink RX2 122 yX2_numberOf, .static yX2_numberOf, .code yX2_numberOf cX2_numberOf 1 (some .int), .fieldLink RX2 216 "StowagePlan$Box" "number" "I"] ++ wsX20 ++ wsX10 ++ wsX00 ++ (vx_atS RX2 72 "java/lang/IndexOutOfBoundsException" ["java/lang/RuntimeException", "java/lang/Exception"]).filter goodWord)
def wsX2_where : List Cond := .code yX2_where cX2_where 3 (some .int) :: ([.classLink RX2 68 "java/lang/IndexOutOfBoundsException", .initialized "java/lang/IndexOutOfBoundsException", .methodLink RX2 64 yX2_boxNumbered, .instanceMethod yX2_boxNumbered, .selects RX2 yX2_boxNumbered yX2_boxNumbered, .initialized RX2, .code yX2_boxNumbered cX2_boxNumbered 2 (some (.object "StowagePlan$Box")), .fieldLink RX2 11 "StowagePlan" "boxes" "[LStowagePlan$Box;", .methodLink RX2 152 yX0_place, .instanceMethod yX0_place, .selects RX0 yX0_place yX0_place, .initialized RX0, .code yX0_place cX0_place 1 (some .int), .fieldLink RX0 15 "StowagePlan$Box" "stack" "LStowagePlan$Stack;", .fieldLink RX0 42 "StowagePlan$Stack" "bay" "I", .fieldLink RX0 47 "StowagePlan$Stack" "row" "I", .fieldLink RX0 19 "StowagePlan$Box" "tier" "I"] ++ wsX20 ++ wsX00 ++ wsX10 ++ (vx_atS RX2 72 "java/lang/IndexOutOfBoundsException" ["java/lang/RuntimeException", "java/lang/Exception"]).filter goodWord)
def wsX2_count : List Cond := .code yX2_count cX2_count 7 (some .int) :: ([.fieldLink RX2 11 "StowagePlan" "boxes" "[LStowagePlan$Box;", .fieldLink RX2 25 "StowagePlan" "shipPort" "I", .fieldLink RX2 165 "StowagePlan$Box" "stack" "LStowagePlan$Stack;", .methodLink RX2 187 yX0_waitsAt, .instanceMethod yX0_waitsAt, .selects RX0 yX0_waitsAt yX0_waitsAt, .initialized RX0, .code yX0_waitsAt cX0_waitsAt 2 (some .boolean), .fieldLink RX0 29 "StowagePlan$Box" "from" "I", .methodLink RX0 38 yX0_state, .instanceMethod yX0_state, .selects RX0 yX0_state yX0_state, .code yX0_state cX0_state 1 (some .int), .fieldLink RX0 9 "StowagePlan$Box" "isLanded" "Z", .fieldLink RX0 15 "StowagePlan$Box" "stack" "LStowagePlan$Stack;"] ++ wsX20 ++ wsX00)
def wsX2_weight : List Cond := .code yX2_weight cX2_weight 7 (some .int) :: ([.classLink RX2 68 "java/lang/IndexOutOfBoundsException", .initialized "java/lang/IndexOutOfBoundsException", .fieldLink RX2 17 "StowagePlan" "stacks" "[LStowagePlan$Stack;", .fieldLink RX2 193 "StowagePlan$Stack" "bay" "I", .methodLink RX2 43 yX2_isWithin, .static yX2_isWithin, .initialized RX2, .code yX2_isWithin cX2_isWithin 3 (some .boolean), .methodLink RX2 156 yX1_weightSum, .instanceMethod yX1_weightSum, .selects RX1 yX1_weightSum yX1_weightSum, .initialized RX1, .code yX1_weightSum cX1_weightSum 6 (some .int), .fieldLink RX1 11 "StowagePlan$Stack" "boxes" "[LStowagePlan$Box;", .fieldLink RX1 58 "StowagePlan$Box" "weight" "I"] ++ wsX20 ++ wsX10 ++ wsX00 ++ (vx_atS RX2 72 "java/lang/IndexOutOfBoundsException" ["java/lang/RuntimeException", "java/lang/Exception"]).filter goodWord)
def wsX2_blocked : List Cond := .code yX2_blocked cX2_blocked 6 (some .int) :: ([.fieldLink RX2 11 "StowagePlan" "boxes" "[LStowagePlan$Box;", .methodLink RX2 196 yX0_isBlocked, .instanceMethod yX0_isBlocked, .selects RX0 yX0_isBlocked yX0_isBlocked, .initialized RX0, .code yX0_isBlocked cX0_isBlocked 1 (some .boolean), .fieldLink RX0 15 "StowagePlan$Box" "stack" "LStowagePlan$Stack;", .fieldLink RX0 19 "StowagePlan$Box" "tier" "I", .fieldLink RX0 32 "StowagePlan$Box" "to" "I", .methodLink RX0 50 yX1_hasLaterAbove, .instanceMethod yX1_hasLaterAbove, .selects RX1 yX1_hasLaterAbove yX1_hasLaterAbove, .initialized RX1, .code yX1_hasLaterAbove cX1_hasLaterAbove 7 (some .boolean), .fieldLink RX1 11 "StowagePlan$Stack" "boxes" "[LStowagePlan$Box;", .fieldLink RX1 45 "StowagePlan$Box" "tier" "I", .fieldLink RX1 48 "StowagePlan$Box" "to" "I"] ++ wsX20 ++ wsX00 ++ wsX10)
def wsX2_lifts : List Cond := .code yX2_lifts cX2_lifts 7 (some .int) :: ([.classLink RX2 68 "java/lang/IndexOutOfBoundsException", .initialized "java/lang/IndexOutOfBoundsException", .fieldLink RX2 17 "StowagePlan" "stacks" "[LStowagePlan$Stack;", .methodLink RX2 43 yX2_isWithin, .static yX2_isWithin, .initialized RX2, .code yX2_isWithin cX2_isWithin 3 (some .boolean), .methodLink RX2 138 yX1_liftsFor, .instanceMethod yX1_liftsFor, .selects RX1 yX1_liftsFor yX1_liftsFor, .initialized RX1, .code yX1_liftsFor cX1_liftsFor 8 (some .int), .fieldLink RX1 11 "StowagePlan$Stack" "boxes" "[LStowagePlan$Box;", .fieldLink RX1 48 "StowagePlan$Box" "to" "I"] ++ wsX20 ++ wsX10 ++ wsX00 ++ (vx_atS RX2 72 "java/lang/IndexOutOfBoundsException" ["java/lang/RuntimeException", "java/lang/Exception"]).filter goodWord)
def wsX2_freePlugs : List Cond := .code yX2_freePlugs cX2_freePlugs 6 (some .int) :: ([.fieldLink RX2 17 "StowagePlan" "stacks" "[LStowagePlan$Stack;", .fieldLink RX2 91 "StowagePlan$Stack" "hasPlug" "Z", .fieldLink RX2 201 "StowagePlan$Stack" "size" "I"] ++ wsX20 ++ wsX10)
def wsX2_choices_r1 : List Cond := [Cond.classLink RX2 68 "java/lang/IndexOutOfBoundsException", Cond.initialized "java/lang/IndexOutOfBoundsException", Cond.fieldLink RX2 17 "StowagePlan" "stacks" "[LStowagePlan$Stack;", Cond.methodLink RX2 64 yX2_boxNumbered, Cond.instanceMethod yX2_boxNumbered, Cond.selects RX2 yX2_boxNumbered yX2_boxNumbered, Cond.initialized RX2, Cond.code yX2_boxNumbered cX2_boxNumbered 2 (some (.object "StowagePlan$Box")), Cond.fieldLink RX2 11 "StowagePlan" "boxes" "[LStowagePlan$Box;", Cond.methodLink RX2 97 yX2_isLoadable, Cond.instanceMethod yX2_isLoadable, Cond.selects RX2 yX2_isLoadable yX2_isLoadable, Cond.code yX2_isLoadable cX2_isLoadable 3 (some .boolean), Cond.fieldLink RX2 25 "StowagePlan" "shipPort" "I", Cond.fieldLink RX2 201 "StowagePlan$Stack" "size" "I", Cond.fieldLink RX2 169 "StowagePlan$Box" "weight" "I", Cond.fieldLink RX2 28 "StowagePlan" "stackLimit" "I", Cond.fieldLink RX2 219 "StowagePlan$Box" "kind" "I", Cond.methodLink RX2 187 yX0_waitsAt, Cond.instanceMethod yX0_waitsAt, Cond.selects RX0 yX0_waitsAt yX0_waitsAt, Cond.initialized RX0, Cond.code yX0_waitsAt cX0_waitsAt 2 (some .boolean), Cond.fieldLink RX0 29 "StowagePlan$Box" "from" "I"]
def wsX2_choices_r2 : List Cond := [Cond.methodLink RX0 38 yX0_state, Cond.instanceMethod yX0_state, Cond.selects RX0 yX0_state yX0_state, Cond.code yX0_state cX0_state 1 (some .int), Cond.fieldLink RX0 9 "StowagePlan$Box" "isLanded" "Z", Cond.fieldLink RX0 15 "StowagePlan$Box" "stack" "LStowagePlan$Stack;", Cond.methodLink RX2 156 yX1_weightSum, Cond.instanceMethod yX1_weightSum, Cond.selects RX1 yX1_weightSum yX1_weightSum, Cond.initialized RX1, Cond.code yX1_weightSum cX1_weightSum 6 (some .int), Cond.fieldLink RX1 11 "StowagePlan$Stack" "boxes" "[LStowagePlan$Box;", Cond.fieldLink RX1 58 "StowagePlan$Box" "weight" "I", Cond.methodLink RX2 222 yX1_hasPowerOnNextTier, Cond.instanceMethod yX1_hasPowerOnNextTier, Cond.selects RX1 yX1_hasPowerOnNextTier yX1_hasPowerOnNextTier, Cond.code yX1_hasPowerOnNextTier cX1_hasPowerOnNextTier 1 (some .boolean), Cond.fieldLink RX1 27 "StowagePlan$Stack" "hasPlug" "Z", Cond.fieldLink RX1 17 "StowagePlan$Stack" "size" "I", Cond.methodLink RX2 225 yX2_isApartFromOthers, Cond.instanceMethod yX2_isApartFromOthers, Cond.selects RX2 yX2_isApartFromOthers yX2_isApartFromOthers, Cond.code yX2_isApartFromOthers cX2_isApartFromOthers 7 (some .boolean), Cond.fieldLink RX2 165 "StowagePlan$Box" "stack" "LStowagePlan$Stack;"]
def wsX2_choices_r3 : List Cond := [Cond.methodLink RX2 228 yX0_isDangerous, Cond.instanceMethod yX0_isDangerous, Cond.selects RX0 yX0_isDangerous yX0_isDangerous, Cond.code yX0_isDangerous cX0_isDangerous 1 (some .boolean), Cond.fieldLink RX0 35 "StowagePlan$Box" "kind" "I", Cond.methodLink RX2 231 yX1_isApartFrom, Cond.instanceMethod yX1_isApartFrom, Cond.selects RX1 yX1_isApartFrom yX1_isApartFrom, Cond.code yX1_isApartFrom cX1_isApartFrom 3 (some .boolean), Cond.fieldLink RX1 21 "StowagePlan$Stack" "bay" "I", Cond.methodLink RX1 31 Lib.Math.abs.name, Cond.static Lib.Math.abs.name, Cond.initialized "java/lang/Math", Cond.code Lib.Math.abs.name Lib.Math.abs.code 1 (some .int), Cond.fieldLink RX1 24 "StowagePlan$Stack" "row" "I"]
def wsX2_choices : List Cond := .code yX2_choices cX2_choices 8 (some .int) :: ((wsX2_choices_r1 ++ (wsX2_choices_r2 ++ wsX2_choices_r3)) ++ wsX20 ++ wsX10 ++ wsX00 ++ (vx_atS RX2 72 "java/lang/IndexOutOfBoundsException" ["java/lang/RuntimeException", "java/lang/Exception"]).filter goodWord)
def wsX2_lifted : List Cond := .code yX2_lifted cX2_lifted 1 (some .int) :: ([.fieldLink RX2 37 "StowagePlan" "putBack" "I"] ++ wsX20)
def wsX2_mix : List Cond := .code yX2_mix cX2_mix 4 (some .long) :: ([.constantLong RX2 214 (31)])
def wsX2_mixBox_r1 : List Cond := [Cond.methodLink RX2 73 yX0_tell, Cond.instanceMethod yX0_tell, Cond.selects RX0 yX0_tell yX0_tell, Cond.initialized RX0, Cond.code yX0_tell cX0_tell 2 (some .int), Cond.fieldLink RX0 26 "StowagePlan$Box" "weight" "I", Cond.fieldLink RX0 29 "StowagePlan$Box" "from" "I", Cond.fieldLink RX0 32 "StowagePlan$Box" "to" "I", Cond.fieldLink RX0 35 "StowagePlan$Box" "kind" "I", Cond.methodLink RX0 38 yX0_state, Cond.instanceMethod yX0_state, Cond.selects RX0 yX0_state yX0_state, Cond.code yX0_state cX0_state 1 (some .int), Cond.fieldLink RX0 9 "StowagePlan$Box" "isLanded" "Z", Cond.fieldLink RX0 15 "StowagePlan$Box" "stack" "LStowagePlan$Stack;", Cond.methodLink RX2 206 yX2_mix, Cond.static yX2_mix, Cond.initialized RX2, Cond.code yX2_mix cX2_mix 4 (some .long), Cond.constantLong RX2 214 (31), Cond.methodLink RX2 152 yX0_place, Cond.instanceMethod yX0_place, Cond.selects RX0 yX0_place yX0_place, Cond.code yX0_place cX0_place 1 (some .int)]
def wsX2_mixBox_r2 : List Cond := [Cond.fieldLink RX0 42 "StowagePlan$Stack" "bay" "I", Cond.fieldLink RX0 47 "StowagePlan$Stack" "row" "I", Cond.fieldLink RX0 19 "StowagePlan$Box" "tier" "I"]
def wsX2_mixBox : List Cond := .code yX2_mixBox cX2_mixBox 6 (some .long) :: ((wsX2_mixBox_r1 ++ wsX2_mixBox_r2) ++ wsX00 ++ wsX10)
def wsX2_digest_r1 : List Cond := [Cond.constantLong RX2 204 (283), Cond.fieldLink RX2 25 "StowagePlan" "shipPort" "I", Cond.fieldLink RX2 21 "StowagePlan" "boxCount" "I", Cond.fieldLink RX2 11 "StowagePlan" "boxes" "[LStowagePlan$Box;", Cond.fieldLink RX2 28 "StowagePlan" "stackLimit" "I", Cond.fieldLink RX2 31 "StowagePlan" "listLimit" "I", Cond.fieldLink RX2 34 "StowagePlan" "trimLimit" "I", Cond.fieldLink RX2 17 "StowagePlan" "stacks" "[LStowagePlan$Stack;", Cond.fieldLink RX2 91 "StowagePlan$Stack" "hasPlug" "Z", Cond.fieldLink RX2 37 "StowagePlan" "putBack" "I", Cond.methodLink RX2 206 yX2_mix, Cond.static yX2_mix, Cond.initialized RX2, Cond.code yX2_mix cX2_mix 4 (some .long), Cond.constantLong RX2 214 (31), Cond.methodLink RX2 210 yX2_mixBox, Cond.static yX2_mixBox, Cond.code yX2_mixBox cX2_mixBox 6 (some .long), Cond.methodLink RX2 73 yX0_tell, Cond.instanceMethod yX0_tell, Cond.selects RX0 yX0_tell yX0_tell, Cond.initialized RX0, Cond.code yX0_tell cX0_tell 2 (some .int), Cond.fieldLink RX0 26 "StowagePlan$Box" "weight" "I"]
def wsX2_digest_r2 : List Cond := [Cond.fieldLink RX0 29 "StowagePlan$Box" "from" "I", Cond.fieldLink RX0 32 "StowagePlan$Box" "to" "I", Cond.fieldLink RX0 35 "StowagePlan$Box" "kind" "I", Cond.methodLink RX0 38 yX0_state, Cond.instanceMethod yX0_state, Cond.selects RX0 yX0_state yX0_state, Cond.code yX0_state cX0_state 1 (some .int), Cond.fieldLink RX0 9 "StowagePlan$Box" "isLanded" "Z", Cond.fieldLink RX0 15 "StowagePlan$Box" "stack" "LStowagePlan$Stack;", Cond.methodLink RX2 152 yX0_place, Cond.instanceMethod yX0_place, Cond.selects RX0 yX0_place yX0_place, Cond.code yX0_place cX0_place 1 (some .int), Cond.fieldLink RX0 42 "StowagePlan$Stack" "bay" "I", Cond.fieldLink RX0 47 "StowagePlan$Stack" "row" "I", Cond.fieldLink RX0 19 "StowagePlan$Box" "tier" "I", Cond.methodLink RX2 172 yX2_moment, Cond.instanceMethod yX2_moment, Cond.selects RX2 yX2_moment yX2_moment, Cond.code yX2_moment cX2_moment 7 (some .int), Cond.methodLink RX2 156 yX1_weightSum, Cond.instanceMethod yX1_weightSum, Cond.selects RX1 yX1_weightSum yX1_weightSum, Cond.initialized RX1]
def wsX2_digest_r3 : List Cond := [Cond.code yX1_weightSum cX1_weightSum 6 (some .int), Cond.fieldLink RX1 11 "StowagePlan$Stack" "boxes" "[LStowagePlan$Box;", Cond.fieldLink RX1 58 "StowagePlan$Box" "weight" "I", Cond.methodLink RX2 159 yX1_trimArm, Cond.instanceMethod yX1_trimArm, Cond.selects RX1 yX1_trimArm yX1_trimArm, Cond.code yX1_trimArm cX1_trimArm 1 (some .int), Cond.fieldLink RX1 21 "StowagePlan$Stack" "bay" "I", Cond.methodLink RX2 162 yX1_listArm, Cond.instanceMethod yX1_listArm, Cond.selects RX1 yX1_listArm yX1_listArm, Cond.code yX1_listArm cX1_listArm 1 (some .int), Cond.fieldLink RX1 24 "StowagePlan$Stack" "row" "I"]
def wsX2_digest : List Cond := .code yX2_digest cX2_digest 7 (some .long) :: ((wsX2_digest_r1 ++ (wsX2_digest_r2 ++ wsX2_digest_r3)) ++ wsX20 ++ wsX10 ++ wsX00)
def wsX3_init : List Cond := .code yX3_init cX3_init 2 none :: ([.methodLink RX3 3 objectInit, .instanceMethod objectInit, .code objectInit ⟨#[0xb1]⟩ 1 none, .arrayClass .int, .fieldLink RX3 9 "StowagePlanModel" "table" "[I", .fieldLink RX3 13 "StowagePlanModel" "stacks" "[I", .fieldLink RX3 16 "StowagePlanModel" "tiers" "[I", .arrayClass .boolean, .fieldLink RX3 19 "StowagePlanModel" "plugs" "[Z", .fieldLink RX3 23 "StowagePlanModel" "stackLimit" "I", .fieldLink RX3 27 "StowagePlanModel" "listLimit" "I", .fieldLink RX3 30 "StowagePlanModel" "trimLimit" "I"] ++ wsX30)
def wsX3_thrown : List Cond := .code yX3_thrown cX3_thrown 1 (some .int) :: ([.fieldLink RX3 33 "StowagePlanModel" "thrown" "I"] ++ wsX30)
def wsX3_fail : List Cond := .code yX3_fail cX3_fail 2 (some .int) :: ([.fieldLink RX3 33 "StowagePlanModel" "thrown" "I"] ++ wsX30)
def wsX3_isIn : List Cond := .code yX3_isIn cX3_isIn 3 (some .boolean) :: ([])
def wsX3_isContainer : List Cond := .code yX3_isContainer cX3_isContainer 2 (some .boolean) :: ([.fieldLink RX3 36 "StowagePlanModel" "many" "I", .methodLink RX3 39 yX3_isIn, .static yX3_isIn, .initialized RX3, .code yX3_isIn cX3_isIn 3 (some .boolean)] ++ wsX30)
def wsX3_isStack : List Cond := .code yX3_isStack cX3_isStack 2 (some .boolean) :: ([.methodLink RX3 39 yX3_isIn, .static yX3_isIn, .initialized RX3, .code yX3_isIn cX3_isIn 3 (some .boolean)])
def wsX3_stack : List Cond := .code yX3_stack cX3_stack 2 (some .int) :: ([])
def wsX3_heavy : List Cond := .code yX3_heavy cX3_heavy 2 (some .int) :: ([.fieldLink RX3 9 "StowagePlanModel" "table" "[I"] ++ wsX30)
def wsX3_to : List Cond := .code yX3_to cX3_to 2 (some .int) :: ([.fieldLink RX3 9 "StowagePlanModel" "table" "[I"] ++ wsX30)
def wsX3_kind : List Cond := .code yX3_kind cX3_kind 2 (some .int) :: ([.fieldLink RX3 9 "StowagePlanModel" "table" "[I"] ++ wsX30)
def wsX3_state : List Cond := .code yX3_state cX3_state 2 (some .int) :: ([.fieldLink RX3 9 "StowagePlanModel" "table" "[I"] ++ wsX30)
def wsX3_isOn : List Cond := .code yX3_isOn cX3_isOn 3 (some .boolean) :: ([.fieldLink RX3 13 "StowagePlanModel" "stacks" "[I", .methodLink RX3 43 yX3_state, .instanceMethod yX3_state, .selects RX3 yX3_state yX3_state, .initialized RX3, .code yX3_state cX3_state 2 (some .int), .fieldLink RX3 9 "StowagePlanModel" "table" "[I"] ++ wsX30)
def wsX3_high : List Cond := .code yX3_high cX3_high 4 (some .int) :: ([.fieldLink RX3 36 "StowagePlanModel" "many" "I", .methodLink RX3 47 yX3_isOn, .instanceMethod yX3_isOn, .selects RX3 yX3_isOn yX3_isOn, .initialized RX3, .code yX3_isOn cX3_isOn 3 (some .boolean), .fieldLink RX3 13 "StowagePlanModel" "stacks" "[I", .methodLink RX3 43 yX3_state, .instanceMethod yX3_state, .selects RX3 yX3_state yX3_state, .code yX3_state cX3_state 2 (some .int), .fieldLink RX3 9 "StowagePlanModel" "table" "[I"] ++ wsX30)
def wsX3_find : List Cond := .code yX3_find cX3_find 4 (some .int) :: ([.fieldLink RX3 36 "StowagePlanModel" "many" "I", .fieldLink RX3 16 "StowagePlanModel" "tiers" "[I", .methodLink RX3 47 yX3_isOn, .instanceMethod yX3_isOn, .selects RX3 yX3_isOn yX3_isOn, .initialized RX3, .code yX3_isOn cX3_isOn 3 (some .boolean), .fieldLink RX3 13 "StowagePlanModel" "stacks" "[I", .methodLink RX3 43 yX3_state, .instanceMethod yX3_state, .selects RX3 yX3_state yX3_state, .code yX3_state cX3_state 2 (some .int), .fieldLink RX3 9 "StowagePlanModel" "table" "[I"] ++ wsX30)
def wsX3_addContainer : List Cond := .code yX3_addContainer cX3_addContainer 6 (some .int) :: ([.fieldLink RX3 33 "StowagePlanModel" "thrown" "I", .fieldLink RX3 54 "StowagePlanModel" "port" "I", .fieldLink RX3 36 "StowagePlanModel" "many" "I", .arrayClass .int, .fieldLink RX3 9 "StowagePlanModel" "table" "[I", .methodLink RX3 57 arraycopyName, .native arraycopyName, .static arraycopyName, .initialized "java/lang/System", .methodLink RX3 39 yX3_isIn, .static yX3_isIn, .initialized RX3, .code yX3_isIn cX3_isIn 3 (some .boolean), .methodLink RX3 51 yX3_fail, .instanceMethod yX3_fail, .selects RX3 yX3_fail yX3_fail, .code yX3_fail cX3_fail 2 (some .int)] ++ wsX30)
def wsX3_container : List Cond := .code yX3_container cX3_container 3 (some .int) :: ([.fieldLink RX3 33 "StowagePlanModel" "thrown" "I", .fieldLink RX3 9 "StowagePlanModel" "table" "[I", .methodLink RX3 63 yX3_isContainer, .instanceMethod yX3_isContainer, .selects RX3 yX3_isContainer yX3_isContainer, .initialized RX3, .code yX3_isContainer cX3_isContainer 2 (some .boolean), .fieldLink RX3 36 "StowagePlanModel" "many" "I", .methodLink RX3 39 yX3_isIn, .static yX3_isIn, .code yX3_isIn cX3_isIn 3 (some .boolean), .methodLink RX3 51 yX3_fail, .instanceMethod yX3_fail, .selects RX3 yX3_fail yX3_fail, .code yX3_fail cX3_fail 2 (some .int)] ++ wsX30)
def wsX3_setLimits : List Cond := .code yX3_setLimits cX3_setLimits 5 (some .int) :: ([.fieldLink RX3 33 "StowagePlanModel" "thrown" "I", .fieldLink RX3 23 "StowagePlanModel" "stackLimit" "I", .fieldLink RX3 27 "StowagePlanModel" "listLimit" "I", .fieldLink RX3 30 "StowagePlanModel" "trimLimit" "I", .methodLink RX3 39 yX3_isIn, .static yX3_isIn, .initialized RX3, .code yX3_isIn cX3_isIn 3 (some .boolean), .methodLink RX3 51 yX3_fail, .instanceMethod yX3_fail, .selects RX3 yX3_fail yX3_fail, .code yX3_fail cX3_fail 2 (some .int)] ++ wsX30)
def wsX3_setPlug_r1 : List Cond := [Cond.fieldLink RX3 33 "StowagePlanModel" "thrown" "I", Cond.fieldLink RX3 36 "StowagePlanModel" "many" "I", Cond.fieldLink RX3 19 "StowagePlanModel" "plugs" "[Z", Cond.methodLink RX3 67 yX3_isStack, Cond.static yX3_isStack, Cond.initialized RX3, Cond.code yX3_isStack cX3_isStack 2 (some .boolean), Cond.methodLink RX3 39 yX3_isIn, Cond.static yX3_isIn, Cond.code yX3_isIn cX3_isIn 3 (some .boolean), Cond.methodLink RX3 70 yX3_stack, Cond.static yX3_stack, Cond.code yX3_stack cX3_stack 2 (some .int), Cond.methodLink RX3 47 yX3_isOn, Cond.instanceMethod yX3_isOn, Cond.selects RX3 yX3_isOn yX3_isOn, Cond.code yX3_isOn cX3_isOn 3 (some .boolean), Cond.fieldLink RX3 13 "StowagePlanModel" "stacks" "[I", Cond.methodLink RX3 43 yX3_state, Cond.instanceMethod yX3_state, Cond.selects RX3 yX3_state yX3_state, Cond.code yX3_state cX3_state 2 (some .int), Cond.fieldLink RX3 9 "StowagePlanModel" "table" "[I", Cond.methodLink RX3 74 yX3_kind]
def wsX3_setPlug_r2 : List Cond := [Cond.instanceMethod yX3_kind, Cond.selects RX3 yX3_kind yX3_kind, Cond.code yX3_kind cX3_kind 2 (some .int)]
def wsX3_setPlug : List Cond := .code yX3_setPlug cX3_setPlug 6 (some .boolean) :: ((wsX3_setPlug_r1 ++ wsX3_setPlug_r2) ++ wsX30)
def wsX3_areApart : List Cond := .code yX3_areApart cX3_areApart 3 (some .boolean) :: ([.methodLink RX3 77 Lib.Math.abs.name, .static Lib.Math.abs.name, .initialized "java/lang/Math", .code Lib.Math.abs.name Lib.Math.abs.code 1 (some .int)])
def wsX3_weightOf : List Cond := .code yX3_weightOf cX3_weightOf 4 (some .int) :: ([.fieldLink RX3 36 "StowagePlanModel" "many" "I", .methodLink RX3 47 yX3_isOn, .instanceMethod yX3_isOn, .selects RX3 yX3_isOn yX3_isOn, .initialized RX3, .code yX3_isOn cX3_isOn 3 (some .boolean), .fieldLink RX3 13 "StowagePlanModel" "stacks" "[I", .methodLink RX3 43 yX3_state, .instanceMethod yX3_state, .selects RX3 yX3_state yX3_state, .code yX3_state cX3_state 2 (some .int), .fieldLink RX3 9 "StowagePlanModel" "table" "[I", .methodLink RX3 82 yX3_heavy, .instanceMethod yX3_heavy, .selects RX3 yX3_heavy yX3_heavy, .code yX3_heavy cX3_heavy 2 (some .int)] ++ wsX30)
def wsX3_isAllowed_r1 : List Cond := [Cond.fieldLink RX3 9 "StowagePlanModel" "table" "[I", Cond.fieldLink RX3 54 "StowagePlanModel" "port" "I", Cond.fieldLink RX3 23 "StowagePlanModel" "stackLimit" "I", Cond.fieldLink RX3 19 "StowagePlanModel" "plugs" "[Z", Cond.fieldLink RX3 36 "StowagePlanModel" "many" "I", Cond.fieldLink RX3 13 "StowagePlanModel" "stacks" "[I", Cond.methodLink RX3 43 yX3_state, Cond.instanceMethod yX3_state, Cond.selects RX3 yX3_state yX3_state, Cond.initialized RX3, Cond.code yX3_state cX3_state 2 (some .int), Cond.methodLink RX3 85 yX3_high, Cond.instanceMethod yX3_high, Cond.selects RX3 yX3_high yX3_high, Cond.code yX3_high cX3_high 4 (some .int), Cond.methodLink RX3 47 yX3_isOn, Cond.instanceMethod yX3_isOn, Cond.selects RX3 yX3_isOn yX3_isOn, Cond.code yX3_isOn cX3_isOn 3 (some .boolean), Cond.methodLink RX3 88 yX3_weightOf, Cond.instanceMethod yX3_weightOf, Cond.selects RX3 yX3_weightOf yX3_weightOf, Cond.code yX3_weightOf cX3_weightOf 4 (some .int), Cond.methodLink RX3 82 yX3_heavy]
def wsX3_isAllowed_r2 : List Cond := [Cond.instanceMethod yX3_heavy, Cond.selects RX3 yX3_heavy yX3_heavy, Cond.code yX3_heavy cX3_heavy 2 (some .int), Cond.methodLink RX3 74 yX3_kind, Cond.instanceMethod yX3_kind, Cond.selects RX3 yX3_kind yX3_kind, Cond.code yX3_kind cX3_kind 2 (some .int), Cond.methodLink RX3 91 yX3_areApart, Cond.static yX3_areApart, Cond.code yX3_areApart cX3_areApart 3 (some .boolean), Cond.methodLink RX3 77 Lib.Math.abs.name, Cond.static Lib.Math.abs.name, Cond.initialized "java/lang/Math", Cond.code Lib.Math.abs.name Lib.Math.abs.code 1 (some .int)]
def wsX3_isAllowed : List Cond := .code yX3_isAllowed cX3_isAllowed 5 (some .boolean) :: ((wsX3_isAllowed_r1 ++ wsX3_isAllowed_r2) ++ wsX30)
def wsX3_canLoad_r1 : List Cond := [Cond.fieldLink RX3 33 "StowagePlanModel" "thrown" "I", Cond.methodLink RX3 63 yX3_isContainer, Cond.instanceMethod yX3_isContainer, Cond.selects RX3 yX3_isContainer yX3_isContainer, Cond.initialized RX3, Cond.code yX3_isContainer cX3_isContainer 2 (some .boolean), Cond.fieldLink RX3 36 "StowagePlanModel" "many" "I", Cond.methodLink RX3 39 yX3_isIn, Cond.static yX3_isIn, Cond.code yX3_isIn cX3_isIn 3 (some .boolean), Cond.methodLink RX3 67 yX3_isStack, Cond.static yX3_isStack, Cond.code yX3_isStack cX3_isStack 2 (some .boolean), Cond.methodLink RX3 70 yX3_stack, Cond.static yX3_stack, Cond.code yX3_stack cX3_stack 2 (some .int), Cond.methodLink RX3 94 yX3_isAllowed, Cond.instanceMethod yX3_isAllowed, Cond.selects RX3 yX3_isAllowed yX3_isAllowed, Cond.code yX3_isAllowed cX3_isAllowed 5 (some .boolean), Cond.fieldLink RX3 9 "StowagePlanModel" "table" "[I", Cond.fieldLink RX3 54 "StowagePlanModel" "port" "I", Cond.fieldLink RX3 23 "StowagePlanModel" "stackLimit" "I", Cond.fieldLink RX3 19 "StowagePlanModel" "plugs" "[Z"]
def wsX3_canLoad_r2 : List Cond := [Cond.fieldLink RX3 13 "StowagePlanModel" "stacks" "[I", Cond.methodLink RX3 43 yX3_state, Cond.instanceMethod yX3_state, Cond.selects RX3 yX3_state yX3_state, Cond.code yX3_state cX3_state 2 (some .int), Cond.methodLink RX3 85 yX3_high, Cond.instanceMethod yX3_high, Cond.selects RX3 yX3_high yX3_high, Cond.code yX3_high cX3_high 4 (some .int), Cond.methodLink RX3 47 yX3_isOn, Cond.instanceMethod yX3_isOn, Cond.selects RX3 yX3_isOn yX3_isOn, Cond.code yX3_isOn cX3_isOn 3 (some .boolean), Cond.methodLink RX3 88 yX3_weightOf, Cond.instanceMethod yX3_weightOf, Cond.selects RX3 yX3_weightOf yX3_weightOf, Cond.code yX3_weightOf cX3_weightOf 4 (some .int), Cond.methodLink RX3 82 yX3_heavy, Cond.instanceMethod yX3_heavy, Cond.selects RX3 yX3_heavy yX3_heavy, Cond.code yX3_heavy cX3_heavy 2 (some .int), Cond.methodLink RX3 74 yX3_kind, Cond.instanceMethod yX3_kind, Cond.selects RX3 yX3_kind yX3_kind]
def wsX3_canLoad_r3 : List Cond := [Cond.code yX3_kind cX3_kind 2 (some .int), Cond.methodLink RX3 91 yX3_areApart, Cond.static yX3_areApart, Cond.code yX3_areApart cX3_areApart 3 (some .boolean), Cond.methodLink RX3 77 Lib.Math.abs.name, Cond.static Lib.Math.abs.name, Cond.initialized "java/lang/Math", Cond.code Lib.Math.abs.name Lib.Math.abs.code 1 (some .int)]
def wsX3_canLoad : List Cond := .code yX3_canLoad cX3_canLoad 4 (some .boolean) :: ((wsX3_canLoad_r1 ++ (wsX3_canLoad_r2 ++ wsX3_canLoad_r3)) ++ wsX30)
def wsX3_put : List Cond := .code yX3_put cX3_put 3 none :: ([.fieldLink RX3 16 "StowagePlanModel" "tiers" "[I", .fieldLink RX3 13 "StowagePlanModel" "stacks" "[I", .fieldLink RX3 9 "StowagePlanModel" "table" "[I", .methodLink RX3 85 yX3_high, .instanceMethod yX3_high, .selects RX3 yX3_high yX3_high, .initialized RX3, .code yX3_high cX3_high 4 (some .int), .fieldLink RX3 36 "StowagePlanModel" "many" "I", .methodLink RX3 47 yX3_isOn, .instanceMethod yX3_isOn, .selects RX3 yX3_isOn yX3_isOn, .code yX3_isOn cX3_isOn 3 (some .boolean), .methodLink RX3 43 yX3_state, .instanceMethod yX3_state, .selects RX3 yX3_state yX3_state, .code yX3_state cX3_state 2 (some .int)] ++ wsX30)
def wsX3_load_r1 : List Cond := [Cond.fieldLink RX3 33 "StowagePlanModel" "thrown" "I", Cond.fieldLink RX3 16 "StowagePlanModel" "tiers" "[I", Cond.methodLink RX3 63 yX3_isContainer, Cond.instanceMethod yX3_isContainer, Cond.selects RX3 yX3_isContainer yX3_isContainer, Cond.initialized RX3, Cond.code yX3_isContainer cX3_isContainer 2 (some .boolean), Cond.fieldLink RX3 36 "StowagePlanModel" "many" "I", Cond.methodLink RX3 39 yX3_isIn, Cond.static yX3_isIn, Cond.code yX3_isIn cX3_isIn 3 (some .boolean), Cond.methodLink RX3 67 yX3_isStack, Cond.static yX3_isStack, Cond.code yX3_isStack cX3_isStack 2 (some .boolean), Cond.methodLink RX3 51 yX3_fail, Cond.instanceMethod yX3_fail, Cond.selects RX3 yX3_fail yX3_fail, Cond.code yX3_fail cX3_fail 2 (some .int), Cond.methodLink RX3 70 yX3_stack, Cond.static yX3_stack, Cond.code yX3_stack cX3_stack 2 (some .int), Cond.methodLink RX3 94 yX3_isAllowed, Cond.instanceMethod yX3_isAllowed, Cond.selects RX3 yX3_isAllowed yX3_isAllowed]
def wsX3_load_r2 : List Cond := [Cond.code yX3_isAllowed cX3_isAllowed 5 (some .boolean), Cond.fieldLink RX3 9 "StowagePlanModel" "table" "[I", Cond.fieldLink RX3 54 "StowagePlanModel" "port" "I", Cond.fieldLink RX3 23 "StowagePlanModel" "stackLimit" "I", Cond.fieldLink RX3 19 "StowagePlanModel" "plugs" "[Z", Cond.fieldLink RX3 13 "StowagePlanModel" "stacks" "[I", Cond.methodLink RX3 43 yX3_state, Cond.instanceMethod yX3_state, Cond.selects RX3 yX3_state yX3_state, Cond.code yX3_state cX3_state 2 (some .int), Cond.methodLink RX3 85 yX3_high, Cond.instanceMethod yX3_high, Cond.selects RX3 yX3_high yX3_high, Cond.code yX3_high cX3_high 4 (some .int), Cond.methodLink RX3 47 yX3_isOn, Cond.instanceMethod yX3_isOn, Cond.selects RX3 yX3_isOn yX3_isOn, Cond.code yX3_isOn cX3_isOn 3 (some .boolean), Cond.methodLink RX3 88 yX3_weightOf, Cond.instanceMethod yX3_weightOf, Cond.selects RX3 yX3_weightOf yX3_weightOf, Cond.code yX3_weightOf cX3_weightOf 4 (some .int), Cond.methodLink RX3 82 yX3_heavy, Cond.instanceMethod yX3_heavy]
def wsX3_load_r3 : List Cond := [Cond.selects RX3 yX3_heavy yX3_heavy, Cond.code yX3_heavy cX3_heavy 2 (some .int), Cond.methodLink RX3 74 yX3_kind, Cond.instanceMethod yX3_kind, Cond.selects RX3 yX3_kind yX3_kind, Cond.code yX3_kind cX3_kind 2 (some .int), Cond.methodLink RX3 91 yX3_areApart, Cond.static yX3_areApart, Cond.code yX3_areApart cX3_areApart 3 (some .boolean), Cond.methodLink RX3 77 Lib.Math.abs.name, Cond.static Lib.Math.abs.name, Cond.initialized "java/lang/Math", Cond.code Lib.Math.abs.name Lib.Math.abs.code 1 (some .int), Cond.methodLink RX3 97 yX3_put, Cond.instanceMethod yX3_put, Cond.selects RX3 yX3_put yX3_put, Cond.code yX3_put cX3_put 3 none]
def wsX3_load : List Cond := .code yX3_load cX3_load 4 (some .int) :: ((wsX3_load_r1 ++ (wsX3_load_r2 ++ wsX3_load_r3)) ++ wsX30)
def wsX3_lift_r1 : List Cond := [Cond.fieldLink RX3 33 "StowagePlanModel" "thrown" "I", Cond.fieldLink RX3 9 "StowagePlanModel" "table" "[I", Cond.fieldLink RX3 54 "StowagePlanModel" "port" "I", Cond.methodLink RX3 67 yX3_isStack, Cond.static yX3_isStack, Cond.initialized RX3, Cond.code yX3_isStack cX3_isStack 2 (some .boolean), Cond.methodLink RX3 39 yX3_isIn, Cond.static yX3_isIn, Cond.code yX3_isIn cX3_isIn 3 (some .boolean), Cond.methodLink RX3 51 yX3_fail, Cond.instanceMethod yX3_fail, Cond.selects RX3 yX3_fail yX3_fail, Cond.code yX3_fail cX3_fail 2 (some .int), Cond.methodLink RX3 70 yX3_stack, Cond.static yX3_stack, Cond.code yX3_stack cX3_stack 2 (some .int), Cond.methodLink RX3 85 yX3_high, Cond.instanceMethod yX3_high, Cond.selects RX3 yX3_high yX3_high, Cond.code yX3_high cX3_high 4 (some .int), Cond.fieldLink RX3 36 "StowagePlanModel" "many" "I", Cond.methodLink RX3 47 yX3_isOn, Cond.instanceMethod yX3_isOn]
def wsX3_lift_r2 : List Cond := [Cond.selects RX3 yX3_isOn yX3_isOn, Cond.code yX3_isOn cX3_isOn 3 (some .boolean), Cond.fieldLink RX3 13 "StowagePlanModel" "stacks" "[I", Cond.methodLink RX3 43 yX3_state, Cond.instanceMethod yX3_state, Cond.selects RX3 yX3_state yX3_state, Cond.code yX3_state cX3_state 2 (some .int), Cond.methodLink RX3 101 yX3_find, Cond.instanceMethod yX3_find, Cond.selects RX3 yX3_find yX3_find, Cond.code yX3_find cX3_find 4 (some .int), Cond.fieldLink RX3 16 "StowagePlanModel" "tiers" "[I"]
def wsX3_lift : List Cond := .code yX3_lift cX3_lift 5 (some .int) :: ((wsX3_lift_r1 ++ wsX3_lift_r2) ++ wsX30)
def wsX3_arm : List Cond := .code yX3_arm cX3_arm 2 (some .int) :: ([])
def wsX3_momentOf : List Cond := .code yX3_momentOf cX3_momentOf 4 (some .int) :: ([.fieldLink RX3 36 "StowagePlanModel" "many" "I", .fieldLink RX3 13 "StowagePlanModel" "stacks" "[I", .methodLink RX3 43 yX3_state, .instanceMethod yX3_state, .selects RX3 yX3_state yX3_state, .initialized RX3, .code yX3_state cX3_state 2 (some .int), .fieldLink RX3 9 "StowagePlanModel" "table" "[I", .methodLink RX3 82 yX3_heavy, .instanceMethod yX3_heavy, .selects RX3 yX3_heavy yX3_heavy, .code yX3_heavy cX3_heavy 2 (some .int), .methodLink RX3 104 yX3_arm, .static yX3_arm, .code yX3_arm cX3_arm 2 (some .int)] ++ wsX30)
def wsX3_earlier : List Cond := .code yX3_earlier cX3_earlier 5 (some .int) :: ([.fieldLink RX3 36 "StowagePlanModel" "many" "I", .methodLink RX3 47 yX3_isOn, .instanceMethod yX3_isOn, .selects RX3 yX3_isOn yX3_isOn, .initialized RX3, .code yX3_isOn cX3_isOn 3 (some .boolean), .fieldLink RX3 13 "StowagePlanModel" "stacks" "[I", .methodLink RX3 43 yX3_state, .instanceMethod yX3_state, .selects RX3 yX3_state yX3_state, .code yX3_state cX3_state 2 (some .int), .fieldLink RX3 9 "StowagePlanModel" "table" "[I", .methodLink RX3 108 yX3_to, .instanceMethod yX3_to, .selects RX3 yX3_to yX3_to, .code yX3_to cX3_to 2 (some .int)] ++ wsX30)
def wsX3_choicesOf_r1 : List Cond := [Cond.methodLink RX3 94 yX3_isAllowed, Cond.instanceMethod yX3_isAllowed, Cond.selects RX3 yX3_isAllowed yX3_isAllowed, Cond.initialized RX3, Cond.code yX3_isAllowed cX3_isAllowed 5 (some .boolean), Cond.fieldLink RX3 9 "StowagePlanModel" "table" "[I", Cond.fieldLink RX3 54 "StowagePlanModel" "port" "I", Cond.fieldLink RX3 23 "StowagePlanModel" "stackLimit" "I", Cond.fieldLink RX3 19 "StowagePlanModel" "plugs" "[Z", Cond.fieldLink RX3 36 "StowagePlanModel" "many" "I", Cond.fieldLink RX3 13 "StowagePlanModel" "stacks" "[I", Cond.methodLink RX3 43 yX3_state, Cond.instanceMethod yX3_state, Cond.selects RX3 yX3_state yX3_state, Cond.code yX3_state cX3_state 2 (some .int), Cond.methodLink RX3 85 yX3_high, Cond.instanceMethod yX3_high, Cond.selects RX3 yX3_high yX3_high, Cond.code yX3_high cX3_high 4 (some .int), Cond.methodLink RX3 47 yX3_isOn, Cond.instanceMethod yX3_isOn, Cond.selects RX3 yX3_isOn yX3_isOn, Cond.code yX3_isOn cX3_isOn 3 (some .boolean), Cond.methodLink RX3 88 yX3_weightOf]
def wsX3_choicesOf_r2 : List Cond := [Cond.instanceMethod yX3_weightOf, Cond.selects RX3 yX3_weightOf yX3_weightOf, Cond.code yX3_weightOf cX3_weightOf 4 (some .int), Cond.methodLink RX3 82 yX3_heavy, Cond.instanceMethod yX3_heavy, Cond.selects RX3 yX3_heavy yX3_heavy, Cond.code yX3_heavy cX3_heavy 2 (some .int), Cond.methodLink RX3 74 yX3_kind, Cond.instanceMethod yX3_kind, Cond.selects RX3 yX3_kind yX3_kind, Cond.code yX3_kind cX3_kind 2 (some .int), Cond.methodLink RX3 91 yX3_areApart, Cond.static yX3_areApart, Cond.code yX3_areApart cX3_areApart 3 (some .boolean), Cond.methodLink RX3 77 Lib.Math.abs.name, Cond.static Lib.Math.abs.name, Cond.initialized "java/lang/Math", Cond.code Lib.Math.abs.name Lib.Math.abs.code 1 (some .int)]
def wsX3_choicesOf : List Cond := .code yX3_choicesOf cX3_choicesOf 4 (some .int) :: ((wsX3_choicesOf_r1 ++ wsX3_choicesOf_r2) ++ wsX30)
def wsX3_isBetter_r1 : List Cond := [Cond.methodLink RX3 77 Lib.Math.abs.name, Cond.static Lib.Math.abs.name, Cond.initialized "java/lang/Math", Cond.code Lib.Math.abs.name Lib.Math.abs.code 1 (some .int), Cond.methodLink RX3 108 yX3_to, Cond.instanceMethod yX3_to, Cond.selects RX3 yX3_to yX3_to, Cond.initialized RX3, Cond.code yX3_to cX3_to 2 (some .int), Cond.fieldLink RX3 9 "StowagePlanModel" "table" "[I", Cond.methodLink RX3 111 yX3_earlier, Cond.instanceMethod yX3_earlier, Cond.selects RX3 yX3_earlier yX3_earlier, Cond.code yX3_earlier cX3_earlier 5 (some .int), Cond.fieldLink RX3 36 "StowagePlanModel" "many" "I", Cond.methodLink RX3 47 yX3_isOn, Cond.instanceMethod yX3_isOn, Cond.selects RX3 yX3_isOn yX3_isOn, Cond.code yX3_isOn cX3_isOn 3 (some .boolean), Cond.fieldLink RX3 13 "StowagePlanModel" "stacks" "[I", Cond.methodLink RX3 43 yX3_state, Cond.instanceMethod yX3_state, Cond.selects RX3 yX3_state yX3_state, Cond.code yX3_state cX3_state 2 (some .int)]
def wsX3_isBetter_r2 : List Cond := [Cond.methodLink RX3 114 yX3_momentOf, Cond.instanceMethod yX3_momentOf, Cond.selects RX3 yX3_momentOf yX3_momentOf, Cond.code yX3_momentOf cX3_momentOf 4 (some .int), Cond.methodLink RX3 82 yX3_heavy, Cond.instanceMethod yX3_heavy, Cond.selects RX3 yX3_heavy yX3_heavy, Cond.code yX3_heavy cX3_heavy 2 (some .int), Cond.methodLink RX3 104 yX3_arm, Cond.static yX3_arm, Cond.code yX3_arm cX3_arm 2 (some .int)]
def wsX3_isBetter : List Cond := .code yX3_isBetter cX3_isBetter 6 (some .boolean) :: ((wsX3_isBetter_r1 ++ wsX3_isBetter_r2) ++ wsX30)
def wsX3_planOne_r1 : List Cond := [Cond.fieldLink RX3 36 "StowagePlanModel" "many" "I", Cond.methodLink RX3 118 yX3_choicesOf, Cond.instanceMethod yX3_choicesOf, Cond.selects RX3 yX3_choicesOf yX3_choicesOf, Cond.initialized RX3, Cond.code yX3_choicesOf cX3_choicesOf 4 (some .int), Cond.methodLink RX3 94 yX3_isAllowed, Cond.instanceMethod yX3_isAllowed, Cond.selects RX3 yX3_isAllowed yX3_isAllowed, Cond.code yX3_isAllowed cX3_isAllowed 5 (some .boolean), Cond.fieldLink RX3 9 "StowagePlanModel" "table" "[I", Cond.fieldLink RX3 54 "StowagePlanModel" "port" "I", Cond.fieldLink RX3 23 "StowagePlanModel" "stackLimit" "I", Cond.fieldLink RX3 19 "StowagePlanModel" "plugs" "[Z", Cond.fieldLink RX3 13 "StowagePlanModel" "stacks" "[I", Cond.methodLink RX3 43 yX3_state, Cond.instanceMethod yX3_state, Cond.selects RX3 yX3_state yX3_state, Cond.code yX3_state cX3_state 2 (some .int), Cond.methodLink RX3 85 yX3_high, Cond.instanceMethod yX3_high, Cond.selects RX3 yX3_high yX3_high, Cond.code yX3_high cX3_high 4 (some .int), Cond.methodLink RX3 47 yX3_isOn]
def wsX3_planOne_r2 : List Cond := [Cond.instanceMethod yX3_isOn, Cond.selects RX3 yX3_isOn yX3_isOn, Cond.code yX3_isOn cX3_isOn 3 (some .boolean), Cond.methodLink RX3 88 yX3_weightOf, Cond.instanceMethod yX3_weightOf, Cond.selects RX3 yX3_weightOf yX3_weightOf, Cond.code yX3_weightOf cX3_weightOf 4 (some .int), Cond.methodLink RX3 82 yX3_heavy, Cond.instanceMethod yX3_heavy, Cond.selects RX3 yX3_heavy yX3_heavy, Cond.code yX3_heavy cX3_heavy 2 (some .int), Cond.methodLink RX3 74 yX3_kind, Cond.instanceMethod yX3_kind, Cond.selects RX3 yX3_kind yX3_kind, Cond.code yX3_kind cX3_kind 2 (some .int), Cond.methodLink RX3 91 yX3_areApart, Cond.static yX3_areApart, Cond.code yX3_areApart cX3_areApart 3 (some .boolean), Cond.methodLink RX3 77 Lib.Math.abs.name, Cond.static Lib.Math.abs.name, Cond.initialized "java/lang/Math", Cond.code Lib.Math.abs.name Lib.Math.abs.code 1 (some .int), Cond.methodLink RX3 108 yX3_to, Cond.instanceMethod yX3_to]
def wsX3_planOne_r3 : List Cond := [Cond.selects RX3 yX3_to yX3_to, Cond.code yX3_to cX3_to 2 (some .int), Cond.methodLink RX3 121 yX3_isBetter, Cond.instanceMethod yX3_isBetter, Cond.selects RX3 yX3_isBetter yX3_isBetter, Cond.code yX3_isBetter cX3_isBetter 6 (some .boolean), Cond.methodLink RX3 111 yX3_earlier, Cond.instanceMethod yX3_earlier, Cond.selects RX3 yX3_earlier yX3_earlier, Cond.code yX3_earlier cX3_earlier 5 (some .int), Cond.methodLink RX3 114 yX3_momentOf, Cond.instanceMethod yX3_momentOf, Cond.selects RX3 yX3_momentOf yX3_momentOf, Cond.code yX3_momentOf cX3_momentOf 4 (some .int), Cond.methodLink RX3 104 yX3_arm, Cond.static yX3_arm, Cond.code yX3_arm cX3_arm 2 (some .int), Cond.methodLink RX3 97 yX3_put, Cond.instanceMethod yX3_put, Cond.selects RX3 yX3_put yX3_put, Cond.code yX3_put cX3_put 3 none, Cond.fieldLink RX3 16 "StowagePlanModel" "tiers" "[I"]
def wsX3_planOne : List Cond := .code yX3_planOne cX3_planOne 4 (some .boolean) :: ((wsX3_planOne_r1 ++ (wsX3_planOne_r2 ++ wsX3_planOne_r3)) ++ wsX30)
def wsX3_plan_r1 : List Cond := [Cond.fieldLink RX3 33 "StowagePlanModel" "thrown" "I", Cond.methodLink RX3 124 yX3_planOne, Cond.instanceMethod yX3_planOne, Cond.selects RX3 yX3_planOne yX3_planOne, Cond.initialized RX3, Cond.code yX3_planOne cX3_planOne 4 (some .boolean), Cond.fieldLink RX3 36 "StowagePlanModel" "many" "I", Cond.methodLink RX3 118 yX3_choicesOf, Cond.instanceMethod yX3_choicesOf, Cond.selects RX3 yX3_choicesOf yX3_choicesOf, Cond.code yX3_choicesOf cX3_choicesOf 4 (some .int), Cond.methodLink RX3 94 yX3_isAllowed, Cond.instanceMethod yX3_isAllowed, Cond.selects RX3 yX3_isAllowed yX3_isAllowed, Cond.code yX3_isAllowed cX3_isAllowed 5 (some .boolean), Cond.fieldLink RX3 9 "StowagePlanModel" "table" "[I", Cond.fieldLink RX3 54 "StowagePlanModel" "port" "I", Cond.fieldLink RX3 23 "StowagePlanModel" "stackLimit" "I", Cond.fieldLink RX3 19 "StowagePlanModel" "plugs" "[Z", Cond.fieldLink RX3 13 "StowagePlanModel" "stacks" "[I", Cond.methodLink RX3 43 yX3_state, Cond.instanceMethod yX3_state, Cond.selects RX3 yX3_state yX3_state, Cond.code yX3_state cX3_state 2 (some .int)]
def wsX3_plan_r2 : List Cond := [Cond.methodLink RX3 85 yX3_high, Cond.instanceMethod yX3_high, Cond.selects RX3 yX3_high yX3_high, Cond.code yX3_high cX3_high 4 (some .int), Cond.methodLink RX3 47 yX3_isOn, Cond.instanceMethod yX3_isOn, Cond.selects RX3 yX3_isOn yX3_isOn, Cond.code yX3_isOn cX3_isOn 3 (some .boolean), Cond.methodLink RX3 88 yX3_weightOf, Cond.instanceMethod yX3_weightOf, Cond.selects RX3 yX3_weightOf yX3_weightOf, Cond.code yX3_weightOf cX3_weightOf 4 (some .int), Cond.methodLink RX3 82 yX3_heavy, Cond.instanceMethod yX3_heavy, Cond.selects RX3 yX3_heavy yX3_heavy, Cond.code yX3_heavy cX3_heavy 2 (some .int), Cond.methodLink RX3 74 yX3_kind, Cond.instanceMethod yX3_kind, Cond.selects RX3 yX3_kind yX3_kind, Cond.code yX3_kind cX3_kind 2 (some .int), Cond.methodLink RX3 91 yX3_areApart, Cond.static yX3_areApart, Cond.code yX3_areApart cX3_areApart 3 (some .boolean), Cond.methodLink RX3 77 Lib.Math.abs.name]
def wsX3_plan_r3 : List Cond := [Cond.static Lib.Math.abs.name, Cond.initialized "java/lang/Math", Cond.code Lib.Math.abs.name Lib.Math.abs.code 1 (some .int), Cond.methodLink RX3 108 yX3_to, Cond.instanceMethod yX3_to, Cond.selects RX3 yX3_to yX3_to, Cond.code yX3_to cX3_to 2 (some .int), Cond.methodLink RX3 121 yX3_isBetter, Cond.instanceMethod yX3_isBetter, Cond.selects RX3 yX3_isBetter yX3_isBetter, Cond.code yX3_isBetter cX3_isBetter 6 (some .boolean), Cond.methodLink RX3 111 yX3_earlier, Cond.instanceMethod yX3_earlier, Cond.selects RX3 yX3_earlier yX3_earlier, Cond.code yX3_earlier cX3_earlier 5 (some .int), Cond.methodLink RX3 114 yX3_momentOf, Cond.instanceMethod yX3_momentOf, Cond.selects RX3 yX3_momentOf yX3_momentOf, Cond.code yX3_momentOf cX3_momentOf 4 (some .int), Cond.methodLink RX3 104 yX3_arm, Cond.static yX3_arm, Cond.code yX3_arm cX3_arm 2 (some .int), Cond.methodLink RX3 97 yX3_put, Cond.instanceMethod yX3_put]
def wsX3_plan_r4 : List Cond := [Cond.selects RX3 yX3_put yX3_put, Cond.code yX3_put cX3_put 3 none, Cond.fieldLink RX3 16 "StowagePlanModel" "tiers" "[I"]
def wsX3_plan : List Cond := .code yX3_plan cX3_plan 2 (some .int) :: ((wsX3_plan_r1 ++ (wsX3_plan_r2 ++ (wsX3_plan_r3 ++ wsX3_plan_r4))) ++ wsX30)
def wsX3_weigh : List Cond := .code yX3_weigh cX3_weigh 2 none :: ([.fieldLink RX3 128 "StowagePlanModel" "up" "I", .fieldLink RX3 131 "StowagePlanModel" "all" "I", .fieldLink RX3 36 "StowagePlanModel" "many" "I", .fieldLink RX3 16 "StowagePlanModel" "tiers" "[I", .methodLink RX3 43 yX3_state, .instanceMethod yX3_state, .selects RX3 yX3_state yX3_state, .initialized RX3, .code yX3_state cX3_state 2 (some .int), .fieldLink RX3 9 "StowagePlanModel" "table" "[I", .methodLink RX3 82 yX3_heavy, .instanceMethod yX3_heavy, .selects RX3 yX3_heavy yX3_heavy, .code yX3_heavy cX3_heavy 2 (some .int)] ++ wsX30)
def wsX3_steady_r1 : List Cond := [Cond.methodLink RX3 77 Lib.Math.abs.name, Cond.static Lib.Math.abs.name, Cond.initialized "java/lang/Math", Cond.code Lib.Math.abs.name Lib.Math.abs.code 1 (some .int), Cond.fieldLink RX3 27 "StowagePlanModel" "listLimit" "I", Cond.fieldLink RX3 30 "StowagePlanModel" "trimLimit" "I", Cond.fieldLink RX3 128 "StowagePlanModel" "up" "I", Cond.fieldLink RX3 131 "StowagePlanModel" "all" "I", Cond.methodLink RX3 134 yX3_weigh, Cond.instanceMethod yX3_weigh, Cond.selects RX3 yX3_weigh yX3_weigh, Cond.initialized RX3, Cond.code yX3_weigh cX3_weigh 2 none, Cond.fieldLink RX3 36 "StowagePlanModel" "many" "I", Cond.fieldLink RX3 16 "StowagePlanModel" "tiers" "[I", Cond.methodLink RX3 43 yX3_state, Cond.instanceMethod yX3_state, Cond.selects RX3 yX3_state yX3_state, Cond.code yX3_state cX3_state 2 (some .int), Cond.fieldLink RX3 9 "StowagePlanModel" "table" "[I", Cond.methodLink RX3 82 yX3_heavy, Cond.instanceMethod yX3_heavy, Cond.selects RX3 yX3_heavy yX3_heavy, Cond.code yX3_heavy cX3_heavy 2 (some .int)]
def wsX3_steady_r2 : List Cond := [Cond.methodLink RX3 114 yX3_momentOf, Cond.instanceMethod yX3_momentOf, Cond.selects RX3 yX3_momentOf yX3_momentOf, Cond.code yX3_momentOf cX3_momentOf 4 (some .int), Cond.fieldLink RX3 13 "StowagePlanModel" "stacks" "[I", Cond.methodLink RX3 104 yX3_arm, Cond.static yX3_arm, Cond.code yX3_arm cX3_arm 2 (some .int)]
def wsX3_steady : List Cond := .code yX3_steady cX3_steady 1 (some .boolean) :: ((wsX3_steady_r1 ++ wsX3_steady_r2) ++ wsX30)
def wsX3_lowest : List Cond := .code yX3_lowest cX3_lowest 5 (some .int) :: ([.fieldLink RX3 36 "StowagePlanModel" "many" "I", .fieldLink RX3 16 "StowagePlanModel" "tiers" "[I", .methodLink RX3 137 Lib.Math.min.name, .static Lib.Math.min.name, .initialized "java/lang/Math", .code Lib.Math.min.name Lib.Math.min.code 2 (some .int), .methodLink RX3 47 yX3_isOn, .instanceMethod yX3_isOn, .selects RX3 yX3_isOn yX3_isOn, .initialized RX3, .code yX3_isOn cX3_isOn 3 (some .boolean), .fieldLink RX3 13 "StowagePlanModel" "stacks" "[I", .methodLink RX3 43 yX3_state, .instanceMethod yX3_state, .selects RX3 yX3_state yX3_state, .code yX3_state cX3_state 2 (some .int), .fieldLink RX3 9 "StowagePlanModel" "table" "[I", .methodLink RX3 108 yX3_to, .instanceMethod yX3_to, .selects RX3 yX3_to yX3_to, .code yX3_to cX3_to 2 (some .int)] ++ wsX30)
def wsX3_liftsAt_r1 : List Cond := [Cond.fieldLink RX3 36 "StowagePlanModel" "many" "I", Cond.fieldLink RX3 16 "StowagePlanModel" "tiers" "[I", Cond.fieldLink RX3 13 "StowagePlanModel" "stacks" "[I", Cond.methodLink RX3 43 yX3_state, Cond.instanceMethod yX3_state, Cond.selects RX3 yX3_state yX3_state, Cond.initialized RX3, Cond.code yX3_state cX3_state 2 (some .int), Cond.fieldLink RX3 9 "StowagePlanModel" "table" "[I", Cond.methodLink RX3 108 yX3_to, Cond.instanceMethod yX3_to, Cond.selects RX3 yX3_to yX3_to, Cond.code yX3_to cX3_to 2 (some .int), Cond.methodLink RX3 140 yX3_lowest, Cond.instanceMethod yX3_lowest, Cond.selects RX3 yX3_lowest yX3_lowest, Cond.code yX3_lowest cX3_lowest 5 (some .int), Cond.methodLink RX3 137 Lib.Math.min.name, Cond.static Lib.Math.min.name, Cond.initialized "java/lang/Math", Cond.code Lib.Math.min.name Lib.Math.min.code 2 (some .int), Cond.methodLink RX3 47 yX3_isOn, Cond.instanceMethod yX3_isOn, Cond.selects RX3 yX3_isOn yX3_isOn]
def wsX3_liftsAt_r2 : List Cond := [Cond.code yX3_isOn cX3_isOn 3 (some .boolean)]
def wsX3_liftsAt : List Cond := .code yX3_liftsAt cX3_liftsAt 4 (some .int) :: ((wsX3_liftsAt_r1 ++ wsX3_liftsAt_r2) ++ wsX30)
def wsX3_sail_r1 : List Cond := [Cond.fieldLink RX3 33 "StowagePlanModel" "thrown" "I", Cond.fieldLink RX3 54 "StowagePlanModel" "port" "I", Cond.fieldLink RX3 149 "StowagePlanModel" "lifted" "I", Cond.fieldLink RX3 9 "StowagePlanModel" "table" "[I", Cond.fieldLink RX3 16 "StowagePlanModel" "tiers" "[I", Cond.methodLink RX3 143 yX3_steady, Cond.instanceMethod yX3_steady, Cond.selects RX3 yX3_steady yX3_steady, Cond.initialized RX3, Cond.code yX3_steady cX3_steady 1 (some .boolean), Cond.methodLink RX3 77 Lib.Math.abs.name, Cond.static Lib.Math.abs.name, Cond.initialized "java/lang/Math", Cond.code Lib.Math.abs.name Lib.Math.abs.code 1 (some .int), Cond.fieldLink RX3 27 "StowagePlanModel" "listLimit" "I", Cond.fieldLink RX3 30 "StowagePlanModel" "trimLimit" "I", Cond.fieldLink RX3 128 "StowagePlanModel" "up" "I", Cond.fieldLink RX3 131 "StowagePlanModel" "all" "I", Cond.methodLink RX3 134 yX3_weigh, Cond.instanceMethod yX3_weigh, Cond.selects RX3 yX3_weigh yX3_weigh, Cond.code yX3_weigh cX3_weigh 2 none, Cond.fieldLink RX3 36 "StowagePlanModel" "many" "I", Cond.methodLink RX3 43 yX3_state]
def wsX3_sail_r2 : List Cond := [Cond.instanceMethod yX3_state, Cond.selects RX3 yX3_state yX3_state, Cond.code yX3_state cX3_state 2 (some .int), Cond.methodLink RX3 82 yX3_heavy, Cond.instanceMethod yX3_heavy, Cond.selects RX3 yX3_heavy yX3_heavy, Cond.code yX3_heavy cX3_heavy 2 (some .int), Cond.methodLink RX3 114 yX3_momentOf, Cond.instanceMethod yX3_momentOf, Cond.selects RX3 yX3_momentOf yX3_momentOf, Cond.code yX3_momentOf cX3_momentOf 4 (some .int), Cond.fieldLink RX3 13 "StowagePlanModel" "stacks" "[I", Cond.methodLink RX3 104 yX3_arm, Cond.static yX3_arm, Cond.code yX3_arm cX3_arm 2 (some .int), Cond.methodLink RX3 51 yX3_fail, Cond.instanceMethod yX3_fail, Cond.selects RX3 yX3_fail yX3_fail, Cond.code yX3_fail cX3_fail 2 (some .int), Cond.methodLink RX3 146 yX3_liftsAt, Cond.instanceMethod yX3_liftsAt, Cond.selects RX3 yX3_liftsAt yX3_liftsAt, Cond.code yX3_liftsAt cX3_liftsAt 4 (some .int), Cond.methodLink RX3 108 yX3_to]
def wsX3_sail_r3 : List Cond := [Cond.instanceMethod yX3_to, Cond.selects RX3 yX3_to yX3_to, Cond.code yX3_to cX3_to 2 (some .int), Cond.methodLink RX3 140 yX3_lowest, Cond.instanceMethod yX3_lowest, Cond.selects RX3 yX3_lowest yX3_lowest, Cond.code yX3_lowest cX3_lowest 5 (some .int), Cond.methodLink RX3 137 Lib.Math.min.name, Cond.static Lib.Math.min.name, Cond.code Lib.Math.min.name Lib.Math.min.code 2 (some .int), Cond.methodLink RX3 47 yX3_isOn, Cond.instanceMethod yX3_isOn, Cond.selects RX3 yX3_isOn yX3_isOn, Cond.code yX3_isOn cX3_isOn 3 (some .boolean), Cond.methodLink RX3 85 yX3_high, Cond.instanceMethod yX3_high, Cond.selects RX3 yX3_high yX3_high, Cond.code yX3_high cX3_high 4 (some .int), Cond.methodLink RX3 101 yX3_find, Cond.instanceMethod yX3_find, Cond.selects RX3 yX3_find yX3_find, Cond.code yX3_find cX3_find 4 (some .int)]
def wsX3_sail : List Cond := .code yX3_sail cX3_sail 7 (some .int) :: ((wsX3_sail_r1 ++ (wsX3_sail_r2 ++ wsX3_sail_r3)) ++ wsX30)
def wsX3_port : List Cond := .code yX3_port cX3_port 1 (some .int) :: ([.fieldLink RX3 33 "StowagePlanModel" "thrown" "I", .fieldLink RX3 54 "StowagePlanModel" "port" "I"] ++ wsX30)
def wsX3_at_r1 : List Cond := [Cond.fieldLink RX3 33 "StowagePlanModel" "thrown" "I", Cond.methodLink RX3 67 yX3_isStack, Cond.static yX3_isStack, Cond.initialized RX3, Cond.code yX3_isStack cX3_isStack 2 (some .boolean), Cond.methodLink RX3 39 yX3_isIn, Cond.static yX3_isIn, Cond.code yX3_isIn cX3_isIn 3 (some .boolean), Cond.methodLink RX3 70 yX3_stack, Cond.static yX3_stack, Cond.code yX3_stack cX3_stack 2 (some .int), Cond.methodLink RX3 101 yX3_find, Cond.instanceMethod yX3_find, Cond.selects RX3 yX3_find yX3_find, Cond.code yX3_find cX3_find 4 (some .int), Cond.fieldLink RX3 36 "StowagePlanModel" "many" "I", Cond.fieldLink RX3 16 "StowagePlanModel" "tiers" "[I", Cond.methodLink RX3 47 yX3_isOn, Cond.instanceMethod yX3_isOn, Cond.selects RX3 yX3_isOn yX3_isOn, Cond.code yX3_isOn cX3_isOn 3 (some .boolean), Cond.fieldLink RX3 13 "StowagePlanModel" "stacks" "[I", Cond.methodLink RX3 43 yX3_state, Cond.instanceMethod yX3_state]
def wsX3_at_r2 : List Cond := [Cond.selects RX3 yX3_state yX3_state, Cond.code yX3_state cX3_state 2 (some .int), Cond.fieldLink RX3 9 "StowagePlanModel" "table" "[I", Cond.methodLink RX3 51 yX3_fail, Cond.instanceMethod yX3_fail, Cond.selects RX3 yX3_fail yX3_fail, Cond.code yX3_fail cX3_fail 2 (some .int)]
def wsX3_at : List Cond := .code yX3_at cX3_at 4 (some .int) :: ((wsX3_at_r1 ++ wsX3_at_r2) ++ wsX30)
def wsX3_place : List Cond := .code yX3_place cX3_place 2 (some .int) :: ([.fieldLink RX3 13 "StowagePlanModel" "stacks" "[I", .fieldLink RX3 16 "StowagePlanModel" "tiers" "[I", .methodLink RX3 43 yX3_state, .instanceMethod yX3_state, .selects RX3 yX3_state yX3_state, .initialized RX3, .code yX3_state cX3_state 2 (some .int), .fieldLink RX3 9 "StowagePlanModel" "table" "[I"] ++ wsX30)
def wsX3_where_r1 : List Cond := [Cond.fieldLink RX3 33 "StowagePlanModel" "thrown" "I", Cond.methodLink RX3 63 yX3_isContainer, Cond.instanceMethod yX3_isContainer, Cond.selects RX3 yX3_isContainer yX3_isContainer, Cond.initialized RX3, Cond.code yX3_isContainer cX3_isContainer 2 (some .boolean), Cond.fieldLink RX3 36 "StowagePlanModel" "many" "I", Cond.methodLink RX3 39 yX3_isIn, Cond.static yX3_isIn, Cond.code yX3_isIn cX3_isIn 3 (some .boolean), Cond.methodLink RX3 152 yX3_place, Cond.instanceMethod yX3_place, Cond.selects RX3 yX3_place yX3_place, Cond.code yX3_place cX3_place 2 (some .int), Cond.fieldLink RX3 13 "StowagePlanModel" "stacks" "[I", Cond.fieldLink RX3 16 "StowagePlanModel" "tiers" "[I", Cond.methodLink RX3 43 yX3_state, Cond.instanceMethod yX3_state, Cond.selects RX3 yX3_state yX3_state, Cond.code yX3_state cX3_state 2 (some .int), Cond.fieldLink RX3 9 "StowagePlanModel" "table" "[I", Cond.methodLink RX3 51 yX3_fail, Cond.instanceMethod yX3_fail, Cond.selects RX3 yX3_fail yX3_fail]
def wsX3_where_r2 : List Cond := [Cond.code yX3_fail cX3_fail 2 (some .int)]
def wsX3_where : List Cond := .code yX3_where cX3_where 2 (some .int) :: ((wsX3_where_r1 ++ wsX3_where_r2) ++ wsX30)
def wsX3_moment : List Cond := .code yX3_moment cX3_moment 2 (some .int) :: ([.fieldLink RX3 33 "StowagePlanModel" "thrown" "I", .methodLink RX3 114 yX3_momentOf, .instanceMethod yX3_momentOf, .selects RX3 yX3_momentOf yX3_momentOf, .initialized RX3, .code yX3_momentOf cX3_momentOf 4 (some .int), .fieldLink RX3 36 "StowagePlanModel" "many" "I", .fieldLink RX3 13 "StowagePlanModel" "stacks" "[I", .methodLink RX3 43 yX3_state, .instanceMethod yX3_state, .selects RX3 yX3_state yX3_state, .code yX3_state cX3_state 2 (some .int), .fieldLink RX3 9 "StowagePlanModel" "table" "[I", .methodLink RX3 82 yX3_heavy, .instanceMethod yX3_heavy, .selects RX3 yX3_heavy yX3_heavy, .code yX3_heavy cX3_heavy 2 (some .int), .methodLink RX3 104 yX3_arm, .static yX3_arm, .code yX3_arm cX3_arm 2 (some .int)] ++ wsX30)
def wsX3_height : List Cond := .code yX3_height cX3_height 1 (some .double) :: ([.fieldLink RX3 33 "StowagePlanModel" "thrown" "I", .fieldLink RX3 131 "StowagePlanModel" "all" "I", .fieldLink RX3 128 "StowagePlanModel" "up" "I", .methodLink RX3 134 yX3_weigh, .instanceMethod yX3_weigh, .selects RX3 yX3_weigh yX3_weigh, .initialized RX3, .code yX3_weigh cX3_weigh 2 none, .fieldLink RX3 36 "StowagePlanModel" "many" "I", .fieldLink RX3 16 "StowagePlanModel" "tiers" "[I", .methodLink RX3 43 yX3_state, .instanceMethod yX3_state, .selects RX3 yX3_state yX3_state, .code yX3_state cX3_state 2 (some .int), .fieldLink RX3 9 "StowagePlanModel" "table" "[I", .methodLink RX3 82 yX3_heavy, .instanceMethod yX3_heavy, .selects RX3 yX3_heavy yX3_heavy, .code yX3_heavy cX3_heavy 2 (some .int)] ++ wsX30)
def wsX3_isSteady_r1 : List Cond := [Cond.fieldLink RX3 33 "StowagePlanModel" "thrown" "I", Cond.methodLink RX3 143 yX3_steady, Cond.instanceMethod yX3_steady, Cond.selects RX3 yX3_steady yX3_steady, Cond.initialized RX3, Cond.code yX3_steady cX3_steady 1 (some .boolean), Cond.methodLink RX3 77 Lib.Math.abs.name, Cond.static Lib.Math.abs.name, Cond.initialized "java/lang/Math", Cond.code Lib.Math.abs.name Lib.Math.abs.code 1 (some .int), Cond.fieldLink RX3 27 "StowagePlanModel" "listLimit" "I", Cond.fieldLink RX3 30 "StowagePlanModel" "trimLimit" "I", Cond.fieldLink RX3 128 "StowagePlanModel" "up" "I", Cond.fieldLink RX3 131 "StowagePlanModel" "all" "I", Cond.methodLink RX3 134 yX3_weigh, Cond.instanceMethod yX3_weigh, Cond.selects RX3 yX3_weigh yX3_weigh, Cond.code yX3_weigh cX3_weigh 2 none, Cond.fieldLink RX3 36 "StowagePlanModel" "many" "I", Cond.fieldLink RX3 16 "StowagePlanModel" "tiers" "[I", Cond.methodLink RX3 43 yX3_state, Cond.instanceMethod yX3_state, Cond.selects RX3 yX3_state yX3_state, Cond.code yX3_state cX3_state 2 (some .int)]
def wsX3_isSteady_r2 : List Cond := [Cond.fieldLink RX3 9 "StowagePlanModel" "table" "[I", Cond.methodLink RX3 82 yX3_heavy, Cond.instanceMethod yX3_heavy, Cond.selects RX3 yX3_heavy yX3_heavy, Cond.code yX3_heavy cX3_heavy 2 (some .int), Cond.methodLink RX3 114 yX3_momentOf, Cond.instanceMethod yX3_momentOf, Cond.selects RX3 yX3_momentOf yX3_momentOf, Cond.code yX3_momentOf cX3_momentOf 4 (some .int), Cond.fieldLink RX3 13 "StowagePlanModel" "stacks" "[I", Cond.methodLink RX3 104 yX3_arm, Cond.static yX3_arm, Cond.code yX3_arm cX3_arm 2 (some .int)]
def wsX3_isSteady : List Cond := .code yX3_isSteady cX3_isSteady 1 (some .boolean) :: ((wsX3_isSteady_r1 ++ wsX3_isSteady_r2) ++ wsX30)
def wsX3_count : List Cond := .code yX3_count cX3_count 4 (some .int) :: ([.fieldLink RX3 33 "StowagePlanModel" "thrown" "I", .fieldLink RX3 36 "StowagePlanModel" "many" "I", .fieldLink RX3 9 "StowagePlanModel" "table" "[I", .fieldLink RX3 54 "StowagePlanModel" "port" "I", .methodLink RX3 43 yX3_state, .instanceMethod yX3_state, .selects RX3 yX3_state yX3_state, .initialized RX3, .code yX3_state cX3_state 2 (some .int)] ++ wsX30)
def wsX3_weight_r1 : List Cond := [Cond.fieldLink RX3 33 "StowagePlanModel" "thrown" "I", Cond.methodLink RX3 39 yX3_isIn, Cond.static yX3_isIn, Cond.initialized RX3, Cond.code yX3_isIn cX3_isIn 3 (some .boolean), Cond.methodLink RX3 51 yX3_fail, Cond.instanceMethod yX3_fail, Cond.selects RX3 yX3_fail yX3_fail, Cond.code yX3_fail cX3_fail 2 (some .int), Cond.methodLink RX3 70 yX3_stack, Cond.static yX3_stack, Cond.code yX3_stack cX3_stack 2 (some .int), Cond.methodLink RX3 88 yX3_weightOf, Cond.instanceMethod yX3_weightOf, Cond.selects RX3 yX3_weightOf yX3_weightOf, Cond.code yX3_weightOf cX3_weightOf 4 (some .int), Cond.fieldLink RX3 36 "StowagePlanModel" "many" "I", Cond.methodLink RX3 47 yX3_isOn, Cond.instanceMethod yX3_isOn, Cond.selects RX3 yX3_isOn yX3_isOn, Cond.code yX3_isOn cX3_isOn 3 (some .boolean), Cond.fieldLink RX3 13 "StowagePlanModel" "stacks" "[I", Cond.methodLink RX3 43 yX3_state, Cond.instanceMethod yX3_state]
def wsX3_weight_r2 : List Cond := [Cond.selects RX3 yX3_state yX3_state, Cond.code yX3_state cX3_state 2 (some .int), Cond.fieldLink RX3 9 "StowagePlanModel" "table" "[I", Cond.methodLink RX3 82 yX3_heavy, Cond.instanceMethod yX3_heavy, Cond.selects RX3 yX3_heavy yX3_heavy, Cond.code yX3_heavy cX3_heavy 2 (some .int)]
def wsX3_weight : List Cond := .code yX3_weight cX3_weight 4 (some .int) :: ((wsX3_weight_r1 ++ wsX3_weight_r2) ++ wsX30)
def wsX3_isBlocked : List Cond := .code yX3_isBlocked cX3_isBlocked 4 (some .boolean) :: ([.fieldLink RX3 36 "StowagePlanModel" "many" "I", .fieldLink RX3 13 "StowagePlanModel" "stacks" "[I", .fieldLink RX3 16 "StowagePlanModel" "tiers" "[I", .methodLink RX3 47 yX3_isOn, .instanceMethod yX3_isOn, .selects RX3 yX3_isOn yX3_isOn, .initialized RX3, .code yX3_isOn cX3_isOn 3 (some .boolean), .methodLink RX3 43 yX3_state, .instanceMethod yX3_state, .selects RX3 yX3_state yX3_state, .code yX3_state cX3_state 2 (some .int), .fieldLink RX3 9 "StowagePlanModel" "table" "[I", .methodLink RX3 108 yX3_to, .instanceMethod yX3_to, .selects RX3 yX3_to yX3_to, .code yX3_to cX3_to 2 (some .int)] ++ wsX30)
def wsX3_blocked : List Cond := .code yX3_blocked cX3_blocked 3 (some .int) :: ([.fieldLink RX3 33 "StowagePlanModel" "thrown" "I", .fieldLink RX3 36 "StowagePlanModel" "many" "I", .methodLink RX3 43 yX3_state, .instanceMethod yX3_state, .selects RX3 yX3_state yX3_state, .initialized RX3, .code yX3_state cX3_state 2 (some .int), .fieldLink RX3 9 "StowagePlanModel" "table" "[I", .methodLink RX3 155 yX3_isBlocked, .instanceMethod yX3_isBlocked, .selects RX3 yX3_isBlocked yX3_isBlocked, .code yX3_isBlocked cX3_isBlocked 4 (some .boolean), .fieldLink RX3 13 "StowagePlanModel" "stacks" "[I", .fieldLink RX3 16 "StowagePlanModel" "tiers" "[I", .methodLink RX3 47 yX3_isOn, .instanceMethod yX3_isOn, .selects RX3 yX3_isOn yX3_isOn, .code yX3_isOn cX3_isOn 3 (some .boolean), .methodLink RX3 108 yX3_to, .instanceMethod yX3_to, .selects RX3 yX3_to yX3_to, .code yX3_to cX3_to 2 (some .int)] ++ wsX30)
def wsX3_lifts_r1 : List Cond := [Cond.fieldLink RX3 33 "StowagePlanModel" "thrown" "I", Cond.methodLink RX3 39 yX3_isIn, Cond.static yX3_isIn, Cond.initialized RX3, Cond.code yX3_isIn cX3_isIn 3 (some .boolean), Cond.methodLink RX3 146 yX3_liftsAt, Cond.instanceMethod yX3_liftsAt, Cond.selects RX3 yX3_liftsAt yX3_liftsAt, Cond.code yX3_liftsAt cX3_liftsAt 4 (some .int), Cond.fieldLink RX3 36 "StowagePlanModel" "many" "I", Cond.fieldLink RX3 16 "StowagePlanModel" "tiers" "[I", Cond.fieldLink RX3 13 "StowagePlanModel" "stacks" "[I", Cond.methodLink RX3 43 yX3_state, Cond.instanceMethod yX3_state, Cond.selects RX3 yX3_state yX3_state, Cond.code yX3_state cX3_state 2 (some .int), Cond.fieldLink RX3 9 "StowagePlanModel" "table" "[I", Cond.methodLink RX3 108 yX3_to, Cond.instanceMethod yX3_to, Cond.selects RX3 yX3_to yX3_to, Cond.code yX3_to cX3_to 2 (some .int), Cond.methodLink RX3 140 yX3_lowest, Cond.instanceMethod yX3_lowest, Cond.selects RX3 yX3_lowest yX3_lowest]
def wsX3_lifts_r2 : List Cond := [Cond.code yX3_lowest cX3_lowest 5 (some .int), Cond.methodLink RX3 137 Lib.Math.min.name, Cond.static Lib.Math.min.name, Cond.initialized "java/lang/Math", Cond.code Lib.Math.min.name Lib.Math.min.code 2 (some .int), Cond.methodLink RX3 47 yX3_isOn, Cond.instanceMethod yX3_isOn, Cond.selects RX3 yX3_isOn yX3_isOn, Cond.code yX3_isOn cX3_isOn 3 (some .boolean), Cond.methodLink RX3 51 yX3_fail, Cond.instanceMethod yX3_fail, Cond.selects RX3 yX3_fail yX3_fail, Cond.code yX3_fail cX3_fail 2 (some .int)]
def wsX3_lifts : List Cond := .code yX3_lifts cX3_lifts 2 (some .int) :: ((wsX3_lifts_r1 ++ wsX3_lifts_r2) ++ wsX30)
def wsX3_freePlugs : List Cond := .code yX3_freePlugs cX3_freePlugs 3 (some .int) :: ([.fieldLink RX3 33 "StowagePlanModel" "thrown" "I", .fieldLink RX3 19 "StowagePlanModel" "plugs" "[Z", .methodLink RX3 158 Lib.Math.max.name, .static Lib.Math.max.name, .initialized "java/lang/Math", .code Lib.Math.max.name Lib.Math.max.code 2 (some .int), .methodLink RX3 85 yX3_high, .instanceMethod yX3_high, .selects RX3 yX3_high yX3_high, .initialized RX3, .code yX3_high cX3_high 4 (some .int), .fieldLink RX3 36 "StowagePlanModel" "many" "I", .methodLink RX3 47 yX3_isOn, .instanceMethod yX3_isOn, .selects RX3 yX3_isOn yX3_isOn, .code yX3_isOn cX3_isOn 3 (some .boolean), .fieldLink RX3 13 "StowagePlanModel" "stacks" "[I", .methodLink RX3 43 yX3_state, .instanceMethod yX3_state, .selects RX3 yX3_state yX3_state, .code yX3_state cX3_state 2 (some .int), .fieldLink RX3 9 "StowagePlanModel" "table" "[I"] ++ wsX30)
def wsX3_choices_r1 : List Cond := [Cond.fieldLink RX3 33 "StowagePlanModel" "thrown" "I", Cond.methodLink RX3 63 yX3_isContainer, Cond.instanceMethod yX3_isContainer, Cond.selects RX3 yX3_isContainer yX3_isContainer, Cond.initialized RX3, Cond.code yX3_isContainer cX3_isContainer 2 (some .boolean), Cond.fieldLink RX3 36 "StowagePlanModel" "many" "I", Cond.methodLink RX3 39 yX3_isIn, Cond.static yX3_isIn, Cond.code yX3_isIn cX3_isIn 3 (some .boolean), Cond.methodLink RX3 118 yX3_choicesOf, Cond.instanceMethod yX3_choicesOf, Cond.selects RX3 yX3_choicesOf yX3_choicesOf, Cond.code yX3_choicesOf cX3_choicesOf 4 (some .int), Cond.methodLink RX3 94 yX3_isAllowed, Cond.instanceMethod yX3_isAllowed, Cond.selects RX3 yX3_isAllowed yX3_isAllowed, Cond.code yX3_isAllowed cX3_isAllowed 5 (some .boolean), Cond.fieldLink RX3 9 "StowagePlanModel" "table" "[I", Cond.fieldLink RX3 54 "StowagePlanModel" "port" "I", Cond.fieldLink RX3 23 "StowagePlanModel" "stackLimit" "I", Cond.fieldLink RX3 19 "StowagePlanModel" "plugs" "[Z", Cond.fieldLink RX3 13 "StowagePlanModel" "stacks" "[I", Cond.methodLink RX3 43 yX3_state]
def wsX3_choices_r2 : List Cond := [Cond.instanceMethod yX3_state, Cond.selects RX3 yX3_state yX3_state, Cond.code yX3_state cX3_state 2 (some .int), Cond.methodLink RX3 85 yX3_high, Cond.instanceMethod yX3_high, Cond.selects RX3 yX3_high yX3_high, Cond.code yX3_high cX3_high 4 (some .int), Cond.methodLink RX3 47 yX3_isOn, Cond.instanceMethod yX3_isOn, Cond.selects RX3 yX3_isOn yX3_isOn, Cond.code yX3_isOn cX3_isOn 3 (some .boolean), Cond.methodLink RX3 88 yX3_weightOf, Cond.instanceMethod yX3_weightOf, Cond.selects RX3 yX3_weightOf yX3_weightOf, Cond.code yX3_weightOf cX3_weightOf 4 (some .int), Cond.methodLink RX3 82 yX3_heavy, Cond.instanceMethod yX3_heavy, Cond.selects RX3 yX3_heavy yX3_heavy, Cond.code yX3_heavy cX3_heavy 2 (some .int), Cond.methodLink RX3 74 yX3_kind, Cond.instanceMethod yX3_kind, Cond.selects RX3 yX3_kind yX3_kind, Cond.code yX3_kind cX3_kind 2 (some .int), Cond.methodLink RX3 91 yX3_areApart]
def wsX3_choices_r3 : List Cond := [Cond.static yX3_areApart, Cond.code yX3_areApart cX3_areApart 3 (some .boolean), Cond.methodLink RX3 77 Lib.Math.abs.name, Cond.static Lib.Math.abs.name, Cond.initialized "java/lang/Math", Cond.code Lib.Math.abs.name Lib.Math.abs.code 1 (some .int), Cond.methodLink RX3 51 yX3_fail, Cond.instanceMethod yX3_fail, Cond.selects RX3 yX3_fail yX3_fail, Cond.code yX3_fail cX3_fail 2 (some .int)]
def wsX3_choices : List Cond := .code yX3_choices cX3_choices 2 (some .int) :: ((wsX3_choices_r1 ++ (wsX3_choices_r2 ++ wsX3_choices_r3)) ++ wsX30)
def wsX3_lifted : List Cond := .code yX3_lifted cX3_lifted 1 (some .int) :: ([.fieldLink RX3 33 "StowagePlanModel" "thrown" "I", .fieldLink RX3 149 "StowagePlanModel" "lifted" "I"] ++ wsX30)
def wsX3_digest_r1 : List Cond := [Cond.fieldLink RX3 33 "StowagePlanModel" "thrown" "I", Cond.constantLong RX3 161 (8773), Cond.fieldLink RX3 54 "StowagePlanModel" "port" "I", Cond.constantLong RX3 163 (31), Cond.fieldLink RX3 36 "StowagePlanModel" "many" "I", Cond.fieldLink RX3 9 "StowagePlanModel" "table" "[I", Cond.fieldLink RX3 23 "StowagePlanModel" "stackLimit" "I", Cond.fieldLink RX3 27 "StowagePlanModel" "listLimit" "I", Cond.fieldLink RX3 30 "StowagePlanModel" "trimLimit" "I", Cond.fieldLink RX3 19 "StowagePlanModel" "plugs" "[Z", Cond.fieldLink RX3 149 "StowagePlanModel" "lifted" "I", Cond.methodLink RX3 152 yX3_place, Cond.instanceMethod yX3_place, Cond.selects RX3 yX3_place yX3_place, Cond.initialized RX3, Cond.code yX3_place cX3_place 2 (some .int), Cond.fieldLink RX3 13 "StowagePlanModel" "stacks" "[I", Cond.fieldLink RX3 16 "StowagePlanModel" "tiers" "[I", Cond.methodLink RX3 43 yX3_state, Cond.instanceMethod yX3_state, Cond.selects RX3 yX3_state yX3_state, Cond.code yX3_state cX3_state 2 (some .int), Cond.methodLink RX3 114 yX3_momentOf, Cond.instanceMethod yX3_momentOf]
def wsX3_digest_r2 : List Cond := [Cond.selects RX3 yX3_momentOf yX3_momentOf, Cond.code yX3_momentOf cX3_momentOf 4 (some .int), Cond.methodLink RX3 82 yX3_heavy, Cond.instanceMethod yX3_heavy, Cond.selects RX3 yX3_heavy yX3_heavy, Cond.code yX3_heavy cX3_heavy 2 (some .int), Cond.methodLink RX3 104 yX3_arm, Cond.static yX3_arm, Cond.code yX3_arm cX3_arm 2 (some .int)]
def wsX3_digest : List Cond := .code yX3_digest cX3_digest 7 (some .long) :: ((wsX3_digest_r1 ++ wsX3_digest_r2) ++ wsX30)
def wsJ9_abs_0f7a4 : List Cond := .code yJ9_abs_0f7a4 cJ9_abs_0f7a4 1 (some .int) :: ([])
def wsJ9_max_7cf53 : List Cond := .code yJ9_max_7cf53 cJ9_max_7cf53 2 (some .int) :: ([])
def wsJ9_min_7cf53 : List Cond := .code yJ9_min_7cf53 cJ9_min_7cf53 2 (some .int) :: ([])
def wsL_addContainer_r1 : List Cond := [Cond.classLink RL 13 "java/lang/IllegalArgumentException", Cond.classLink RL 15 "java/lang/IllegalStateException", Cond.methodLink RL 7 yX2_addContainer, Cond.instanceMethod yX2_addContainer, Cond.selects RX2 yX2_addContainer yX2_addContainer, Cond.initialized RX2, Cond.code yX2_addContainer cX2_addContainer 6 (some .int), Cond.classLink RX2 47 "java/lang/IllegalArgumentException", Cond.initialized "java/lang/IllegalArgumentException", Cond.classLink RX2 54 "java/lang/IllegalStateException", Cond.initialized "java/lang/IllegalStateException", Cond.fieldLink RX2 25 "StowagePlan" "shipPort" "I", Cond.fieldLink RX2 21 "StowagePlan" "boxCount" "I", Cond.fieldLink RX2 11 "StowagePlan" "boxes" "[LStowagePlan$Box;", Cond.classLink RX2 9 RX0, Cond.instantiable RX0 8, Cond.initialized RX0, Cond.methodLink RX2 43 yX2_isWithin, Cond.static yX2_isWithin, Cond.code yX2_isWithin cX2_isWithin 3 (some .boolean), Cond.methodLink RX2 61 yX0_init, Cond.instanceMethod yX0_init, Cond.code yX0_init cX0_init 6 none, Cond.methodLink RX0 3 objectInit]
def wsL_addContainer_r2 : List Cond := [Cond.instanceMethod objectInit, Cond.code objectInit ⟨#[0xb1]⟩ 1 none, Cond.fieldLink RX0 9 "StowagePlan$Box" "isLanded" "Z", Cond.fieldLink RX0 15 "StowagePlan$Box" "stack" "LStowagePlan$Stack;", Cond.fieldLink RX0 19 "StowagePlan$Box" "tier" "I", Cond.fieldLink RX0 23 "StowagePlan$Box" "number" "I", Cond.fieldLink RX0 26 "StowagePlan$Box" "weight" "I", Cond.fieldLink RX0 29 "StowagePlan$Box" "from" "I", Cond.fieldLink RX0 32 "StowagePlan$Box" "to" "I", Cond.fieldLink RX0 35 "StowagePlan$Box" "kind" "I"]
def wsL_addContainer : List Cond := .codeWith yL_addContainer cL_addContainer 7 (some .int) [(0, 14, 17, 13), (0, 14, 21, 15)] :: ((wsL_addContainer_r1 ++ wsL_addContainer_r2) ++ wsX20 ++ wsX00 ++ (vx_atS RX2 51 "java/lang/IllegalArgumentException" ["java/lang/RuntimeException", "java/lang/Exception"]).filter goodWord ++ (vx_atS RX2 58 "java/lang/IllegalStateException" ["java/lang/RuntimeException", "java/lang/Exception"]).filter goodWord)
def wsL_container_r1 : List Cond := [Cond.classLink RL 21 "java/lang/IndexOutOfBoundsException", Cond.methodLink RL 17 yX2_container, Cond.instanceMethod yX2_container, Cond.selects RX2 yX2_container yX2_container, Cond.initialized RX2, Cond.code yX2_container cX2_container 4 (some .int), Cond.classLink RX2 68 "java/lang/IndexOutOfBoundsException", Cond.initialized "java/lang/IndexOutOfBoundsException", Cond.methodLink RX2 64 yX2_boxNumbered, Cond.instanceMethod yX2_boxNumbered, Cond.selects RX2 yX2_boxNumbered yX2_boxNumbered, Cond.code yX2_boxNumbered cX2_boxNumbered 2 (some (.object "StowagePlan$Box")), Cond.fieldLink RX2 11 "StowagePlan" "boxes" "[LStowagePlan$Box;", Cond.methodLink RX2 43 yX2_isWithin, Cond.static yX2_isWithin, Cond.code yX2_isWithin cX2_isWithin 3 (some .boolean), Cond.methodLink RX2 73 yX0_tell, Cond.instanceMethod yX0_tell, Cond.selects RX0 yX0_tell yX0_tell, Cond.initialized RX0, Cond.code yX0_tell cX0_tell 2 (some .int), Cond.fieldLink RX0 26 "StowagePlan$Box" "weight" "I", Cond.fieldLink RX0 29 "StowagePlan$Box" "from" "I", Cond.fieldLink RX0 32 "StowagePlan$Box" "to" "I"]
def wsL_container_r2 : List Cond := [Cond.fieldLink RX0 35 "StowagePlan$Box" "kind" "I", Cond.methodLink RX0 38 yX0_state, Cond.instanceMethod yX0_state, Cond.selects RX0 yX0_state yX0_state, Cond.code yX0_state cX0_state 1 (some .int), Cond.fieldLink RX0 9 "StowagePlan$Box" "isLanded" "Z", Cond.fieldLink RX0 15 "StowagePlan$Box" "stack" "LStowagePlan$Stack;"]
def wsL_container : List Cond := .codeWith yL_container cL_container 5 (some .int) [(0, 10, 13, 21)] :: ((wsL_container_r1 ++ wsL_container_r2) ++ wsX20 ++ wsX00 ++ (vx_atS RX2 72 "java/lang/IndexOutOfBoundsException" ["java/lang/RuntimeException", "java/lang/Exception"]).filter goodWord)
def wsL_setLimits : List Cond := .codeWith yL_setLimits cL_setLimits 6 (some .int) [(0, 12, 15, 13)] :: ([.classLink RL 13 "java/lang/IllegalArgumentException", .methodLink RL 23 yX2_setLimits, .instanceMethod yX2_setLimits, .selects RX2 yX2_setLimits yX2_setLimits, .initialized RX2, .code yX2_setLimits cX2_setLimits 5 (some .int), .classLink RX2 47 "java/lang/IllegalArgumentException", .initialized "java/lang/IllegalArgumentException", .fieldLink RX2 28 "StowagePlan" "stackLimit" "I", .fieldLink RX2 31 "StowagePlan" "listLimit" "I", .fieldLink RX2 34 "StowagePlan" "trimLimit" "I", .methodLink RX2 43 yX2_isWithin, .static yX2_isWithin, .code yX2_isWithin cX2_isWithin 3 (some .boolean)] ++ wsX20 ++ (vx_atS RX2 51 "java/lang/IllegalArgumentException" ["java/lang/RuntimeException", "java/lang/Exception"]).filter goodWord)
def wsL_setPlug_r1 : List Cond := [Cond.classLink RL 21 "java/lang/IndexOutOfBoundsException", Cond.classLink RL 15 "java/lang/IllegalStateException", Cond.methodLink RL 27 yX2_setPlug, Cond.instanceMethod yX2_setPlug, Cond.selects RX2 yX2_setPlug yX2_setPlug, Cond.initialized RX2, Cond.code yX2_setPlug cX2_setPlug 6 (some .boolean), Cond.classLink RX2 68 "java/lang/IndexOutOfBoundsException", Cond.initialized "java/lang/IndexOutOfBoundsException", Cond.classLink RX2 54 "java/lang/IllegalStateException", Cond.initialized "java/lang/IllegalStateException", Cond.fieldLink RX2 91 "StowagePlan$Stack" "hasPlug" "Z", Cond.methodLink RX2 79 yX2_stackAt, Cond.instanceMethod yX2_stackAt, Cond.selects RX2 yX2_stackAt yX2_stackAt, Cond.code yX2_stackAt cX2_stackAt 4 (some (.object "StowagePlan$Stack")), Cond.fieldLink RX2 17 "StowagePlan" "stacks" "[LStowagePlan$Stack;", Cond.methodLink RX2 43 yX2_isWithin, Cond.static yX2_isWithin, Cond.code yX2_isWithin cX2_isWithin 3 (some .boolean), Cond.methodLink RX2 85 yX1_hasReefer, Cond.instanceMethod yX1_hasReefer, Cond.selects RX1 yX1_hasReefer yX1_hasReefer, Cond.initialized RX1]
def wsL_setPlug_r2 : List Cond := [Cond.code yX1_hasReefer cX1_hasReefer 5 (some .boolean), Cond.fieldLink RX1 11 "StowagePlan$Stack" "boxes" "[LStowagePlan$Box;", Cond.fieldLink RX1 61 "StowagePlan$Box" "kind" "I"]
def wsL_setPlug : List Cond := .codeWith yL_setPlug cL_setPlug 6 (some .int) [(0, 19, 22, 21), (0, 19, 26, 15)] :: ((wsL_setPlug_r1 ++ wsL_setPlug_r2) ++ wsX10 ++ wsX20 ++ wsX00 ++ (vx_atS RX2 72 "java/lang/IndexOutOfBoundsException" ["java/lang/RuntimeException", "java/lang/Exception"]).filter goodWord ++ (vx_atS RX2 58 "java/lang/IllegalStateException" ["java/lang/RuntimeException", "java/lang/Exception"]).filter goodWord)
def wsL_canLoad_r1 : List Cond := [Cond.classLink RL 21 "java/lang/IndexOutOfBoundsException", Cond.methodLink RL 31 yX2_canLoad, Cond.instanceMethod yX2_canLoad, Cond.selects RX2 yX2_canLoad yX2_canLoad, Cond.initialized RX2, Cond.code yX2_canLoad cX2_canLoad 6 (some .boolean), Cond.classLink RX2 68 "java/lang/IndexOutOfBoundsException", Cond.initialized "java/lang/IndexOutOfBoundsException", Cond.methodLink RX2 64 yX2_boxNumbered, Cond.instanceMethod yX2_boxNumbered, Cond.selects RX2 yX2_boxNumbered yX2_boxNumbered, Cond.code yX2_boxNumbered cX2_boxNumbered 2 (some (.object "StowagePlan$Box")), Cond.fieldLink RX2 11 "StowagePlan" "boxes" "[LStowagePlan$Box;", Cond.methodLink RX2 79 yX2_stackAt, Cond.instanceMethod yX2_stackAt, Cond.selects RX2 yX2_stackAt yX2_stackAt, Cond.code yX2_stackAt cX2_stackAt 4 (some (.object "StowagePlan$Stack")), Cond.fieldLink RX2 17 "StowagePlan" "stacks" "[LStowagePlan$Stack;", Cond.methodLink RX2 43 yX2_isWithin, Cond.static yX2_isWithin, Cond.code yX2_isWithin cX2_isWithin 3 (some .boolean), Cond.methodLink RX2 97 yX2_isLoadable, Cond.instanceMethod yX2_isLoadable, Cond.selects RX2 yX2_isLoadable yX2_isLoadable]
def wsL_canLoad_r2 : List Cond := [Cond.code yX2_isLoadable cX2_isLoadable 3 (some .boolean), Cond.fieldLink RX2 25 "StowagePlan" "shipPort" "I", Cond.fieldLink RX2 201 "StowagePlan$Stack" "size" "I", Cond.fieldLink RX2 169 "StowagePlan$Box" "weight" "I", Cond.fieldLink RX2 28 "StowagePlan" "stackLimit" "I", Cond.fieldLink RX2 219 "StowagePlan$Box" "kind" "I", Cond.methodLink RX2 187 yX0_waitsAt, Cond.instanceMethod yX0_waitsAt, Cond.selects RX0 yX0_waitsAt yX0_waitsAt, Cond.initialized RX0, Cond.code yX0_waitsAt cX0_waitsAt 2 (some .boolean), Cond.fieldLink RX0 29 "StowagePlan$Box" "from" "I", Cond.methodLink RX0 38 yX0_state, Cond.instanceMethod yX0_state, Cond.selects RX0 yX0_state yX0_state, Cond.code yX0_state cX0_state 1 (some .int), Cond.fieldLink RX0 9 "StowagePlan$Box" "isLanded" "Z", Cond.fieldLink RX0 15 "StowagePlan$Box" "stack" "LStowagePlan$Stack;", Cond.methodLink RX2 156 yX1_weightSum, Cond.instanceMethod yX1_weightSum, Cond.selects RX1 yX1_weightSum yX1_weightSum, Cond.initialized RX1, Cond.code yX1_weightSum cX1_weightSum 6 (some .int), Cond.fieldLink RX1 11 "StowagePlan$Stack" "boxes" "[LStowagePlan$Box;"]
def wsL_canLoad_r3 : List Cond := [Cond.fieldLink RX1 58 "StowagePlan$Box" "weight" "I", Cond.methodLink RX2 222 yX1_hasPowerOnNextTier, Cond.instanceMethod yX1_hasPowerOnNextTier, Cond.selects RX1 yX1_hasPowerOnNextTier yX1_hasPowerOnNextTier, Cond.code yX1_hasPowerOnNextTier cX1_hasPowerOnNextTier 1 (some .boolean), Cond.fieldLink RX1 27 "StowagePlan$Stack" "hasPlug" "Z", Cond.fieldLink RX1 17 "StowagePlan$Stack" "size" "I", Cond.methodLink RX2 225 yX2_isApartFromOthers, Cond.instanceMethod yX2_isApartFromOthers, Cond.selects RX2 yX2_isApartFromOthers yX2_isApartFromOthers, Cond.code yX2_isApartFromOthers cX2_isApartFromOthers 7 (some .boolean), Cond.fieldLink RX2 165 "StowagePlan$Box" "stack" "LStowagePlan$Stack;", Cond.methodLink RX2 228 yX0_isDangerous, Cond.instanceMethod yX0_isDangerous, Cond.selects RX0 yX0_isDangerous yX0_isDangerous, Cond.code yX0_isDangerous cX0_isDangerous 1 (some .boolean), Cond.fieldLink RX0 35 "StowagePlan$Box" "kind" "I", Cond.methodLink RX2 231 yX1_isApartFrom, Cond.instanceMethod yX1_isApartFrom, Cond.selects RX1 yX1_isApartFrom yX1_isApartFrom, Cond.code yX1_isApartFrom cX1_isApartFrom 3 (some .boolean), Cond.fieldLink RX1 21 "StowagePlan$Stack" "bay" "I", Cond.methodLink RX1 31 Lib.Math.abs.name, Cond.static Lib.Math.abs.name]
def wsL_canLoad_r4 : List Cond := [Cond.initialized "java/lang/Math", Cond.code Lib.Math.abs.name Lib.Math.abs.code 1 (some .int), Cond.fieldLink RX1 24 "StowagePlan$Stack" "row" "I"]
def wsL_canLoad : List Cond := .codeWith yL_canLoad cL_canLoad 6 (some .int) [(0, 19, 22, 21)] :: ((wsL_canLoad_r1 ++ (wsL_canLoad_r2 ++ (wsL_canLoad_r3 ++ wsL_canLoad_r4))) ++ wsX20 ++ wsX10 ++ wsX00 ++ (vx_atS RX2 72 "java/lang/IndexOutOfBoundsException" ["java/lang/RuntimeException", "java/lang/Exception"]).filter goodWord)
def wsL_load_r1 : List Cond := [Cond.classLink RL 21 "java/lang/IndexOutOfBoundsException", Cond.classLink RL 15 "java/lang/IllegalStateException", Cond.methodLink RL 35 yX2_load, Cond.instanceMethod yX2_load, Cond.selects RX2 yX2_load yX2_load, Cond.initialized RX2, Cond.code yX2_load cX2_load 6 (some .int), Cond.classLink RX2 68 "java/lang/IndexOutOfBoundsException", Cond.initialized "java/lang/IndexOutOfBoundsException", Cond.classLink RX2 54 "java/lang/IllegalStateException", Cond.initialized "java/lang/IllegalStateException", Cond.fieldLink RX2 107 "StowagePlan$Box" "tier" "I", Cond.methodLink RX2 64 yX2_boxNumbered, Cond.instanceMethod yX2_boxNumbered, Cond.selects RX2 yX2_boxNumbered yX2_boxNumbered, Cond.code yX2_boxNumbered cX2_boxNumbered 2 (some (.object "StowagePlan$Box")), Cond.fieldLink RX2 11 "StowagePlan" "boxes" "[LStowagePlan$Box;", Cond.methodLink RX2 79 yX2_stackAt, Cond.instanceMethod yX2_stackAt, Cond.selects RX2 yX2_stackAt yX2_stackAt, Cond.code yX2_stackAt cX2_stackAt 4 (some (.object "StowagePlan$Stack")), Cond.fieldLink RX2 17 "StowagePlan" "stacks" "[LStowagePlan$Stack;", Cond.methodLink RX2 43 yX2_isWithin, Cond.static yX2_isWithin]
def wsL_load_r2 : List Cond := [Cond.code yX2_isWithin cX2_isWithin 3 (some .boolean), Cond.methodLink RX2 97 yX2_isLoadable, Cond.instanceMethod yX2_isLoadable, Cond.selects RX2 yX2_isLoadable yX2_isLoadable, Cond.code yX2_isLoadable cX2_isLoadable 3 (some .boolean), Cond.fieldLink RX2 25 "StowagePlan" "shipPort" "I", Cond.fieldLink RX2 201 "StowagePlan$Stack" "size" "I", Cond.fieldLink RX2 169 "StowagePlan$Box" "weight" "I", Cond.fieldLink RX2 28 "StowagePlan" "stackLimit" "I", Cond.fieldLink RX2 219 "StowagePlan$Box" "kind" "I", Cond.methodLink RX2 187 yX0_waitsAt, Cond.instanceMethod yX0_waitsAt, Cond.selects RX0 yX0_waitsAt yX0_waitsAt, Cond.initialized RX0, Cond.code yX0_waitsAt cX0_waitsAt 2 (some .boolean), Cond.fieldLink RX0 29 "StowagePlan$Box" "from" "I", Cond.methodLink RX0 38 yX0_state, Cond.instanceMethod yX0_state, Cond.selects RX0 yX0_state yX0_state, Cond.code yX0_state cX0_state 1 (some .int), Cond.fieldLink RX0 9 "StowagePlan$Box" "isLanded" "Z", Cond.fieldLink RX0 15 "StowagePlan$Box" "stack" "LStowagePlan$Stack;", Cond.methodLink RX2 156 yX1_weightSum, Cond.instanceMethod yX1_weightSum]
def wsL_load_r3 : List Cond := [Cond.selects RX1 yX1_weightSum yX1_weightSum, Cond.initialized RX1, Cond.code yX1_weightSum cX1_weightSum 6 (some .int), Cond.fieldLink RX1 11 "StowagePlan$Stack" "boxes" "[LStowagePlan$Box;", Cond.fieldLink RX1 58 "StowagePlan$Box" "weight" "I", Cond.methodLink RX2 222 yX1_hasPowerOnNextTier, Cond.instanceMethod yX1_hasPowerOnNextTier, Cond.selects RX1 yX1_hasPowerOnNextTier yX1_hasPowerOnNextTier, Cond.code yX1_hasPowerOnNextTier cX1_hasPowerOnNextTier 1 (some .boolean), Cond.fieldLink RX1 27 "StowagePlan$Stack" "hasPlug" "Z", Cond.fieldLink RX1 17 "StowagePlan$Stack" "size" "I", Cond.methodLink RX2 225 yX2_isApartFromOthers, Cond.instanceMethod yX2_isApartFromOthers, Cond.selects RX2 yX2_isApartFromOthers yX2_isApartFromOthers, Cond.code yX2_isApartFromOthers cX2_isApartFromOthers 7 (some .boolean), Cond.fieldLink RX2 165 "StowagePlan$Box" "stack" "LStowagePlan$Stack;", Cond.methodLink RX2 228 yX0_isDangerous, Cond.instanceMethod yX0_isDangerous, Cond.selects RX0 yX0_isDangerous yX0_isDangerous, Cond.code yX0_isDangerous cX0_isDangerous 1 (some .boolean), Cond.fieldLink RX0 35 "StowagePlan$Box" "kind" "I", Cond.methodLink RX2 231 yX1_isApartFrom, Cond.instanceMethod yX1_isApartFrom, Cond.selects RX1 yX1_isApartFrom yX1_isApartFrom]
def wsL_load_r4 : List Cond := [Cond.code yX1_isApartFrom cX1_isApartFrom 3 (some .boolean), Cond.fieldLink RX1 21 "StowagePlan$Stack" "bay" "I", Cond.methodLink RX1 31 Lib.Math.abs.name, Cond.static Lib.Math.abs.name, Cond.initialized "java/lang/Math", Cond.code Lib.Math.abs.name Lib.Math.abs.code 1 (some .int), Cond.fieldLink RX1 24 "StowagePlan$Stack" "row" "I", Cond.methodLink RX2 103 yX1_push, Cond.instanceMethod yX1_push, Cond.selects RX1 yX1_push yX1_push, Cond.code yX1_push cX1_push 2 none, Cond.fieldLink RX1 41 "StowagePlan$Box" "stack" "LStowagePlan$Stack;", Cond.fieldLink RX1 45 "StowagePlan$Box" "tier" "I"]
def wsL_load : List Cond := .codeWith yL_load cL_load 6 (some .int) [(0, 12, 15, 21), (0, 12, 19, 15)] :: ((wsL_load_r1 ++ (wsL_load_r2 ++ (wsL_load_r3 ++ wsL_load_r4))) ++ wsX00 ++ wsX20 ++ wsX10 ++ (vx_atS RX2 72 "java/lang/IndexOutOfBoundsException" ["java/lang/RuntimeException", "java/lang/Exception"]).filter goodWord ++ (vx_atS RX2 58 "java/lang/IllegalStateException" ["java/lang/RuntimeException", "java/lang/Exception"]).filter goodWord)
def wsL_lift_r1 : List Cond := [Cond.classLink RL 21 "java/lang/IndexOutOfBoundsException", Cond.classLink RL 15 "java/lang/IllegalStateException", Cond.methodLink RL 38 yX2_lift, Cond.instanceMethod yX2_lift, Cond.selects RX2 yX2_lift yX2_lift, Cond.initialized RX2, Cond.code yX2_lift cX2_lift 5 (some .int), Cond.classLink RX2 68 "java/lang/IndexOutOfBoundsException", Cond.initialized "java/lang/IndexOutOfBoundsException", Cond.classLink RX2 54 "java/lang/IllegalStateException", Cond.initialized "java/lang/IllegalStateException", Cond.fieldLink RX2 114 "StowagePlan$Box" "from" "I", Cond.fieldLink RX2 25 "StowagePlan" "shipPort" "I", Cond.methodLink RX2 79 yX2_stackAt, Cond.instanceMethod yX2_stackAt, Cond.selects RX2 yX2_stackAt yX2_stackAt, Cond.code yX2_stackAt cX2_stackAt 4 (some (.object "StowagePlan$Stack")), Cond.fieldLink RX2 17 "StowagePlan" "stacks" "[LStowagePlan$Stack;", Cond.methodLink RX2 43 yX2_isWithin, Cond.static yX2_isWithin, Cond.code yX2_isWithin cX2_isWithin 3 (some .boolean), Cond.methodLink RX2 110 yX1_top, Cond.instanceMethod yX1_top, Cond.selects RX1 yX1_top yX1_top]
def wsL_lift_r2 : List Cond := [Cond.initialized RX1, Cond.code yX1_top cX1_top 1 (some (.object "StowagePlan$Box")), Cond.fieldLink RX1 17 "StowagePlan$Stack" "size" "I", Cond.methodLink RX1 37 yX1_onTier, Cond.instanceMethod yX1_onTier, Cond.selects RX1 yX1_onTier yX1_onTier, Cond.code yX1_onTier cX1_onTier 2 (some (.object "StowagePlan$Box")), Cond.fieldLink RX1 11 "StowagePlan$Stack" "boxes" "[LStowagePlan$Box;", Cond.methodLink RX2 119 yX1_dropTop, Cond.instanceMethod yX1_dropTop, Cond.selects RX1 yX1_dropTop yX1_dropTop, Cond.code yX1_dropTop cX1_dropTop 3 none, Cond.fieldLink RX1 41 "StowagePlan$Box" "stack" "LStowagePlan$Stack;", Cond.methodLink RX2 122 yX2_numberOf, Cond.static yX2_numberOf, Cond.code yX2_numberOf cX2_numberOf 1 (some .int), Cond.fieldLink RX2 216 "StowagePlan$Box" "number" "I"]
def wsL_lift : List Cond := .codeWith yL_lift cL_lift 5 (some .int) [(0, 10, 13, 21), (0, 10, 17, 15)] :: ((wsL_lift_r1 ++ wsL_lift_r2) ++ wsX00 ++ wsX20 ++ wsX10 ++ (vx_atS RX2 72 "java/lang/IndexOutOfBoundsException" ["java/lang/RuntimeException", "java/lang/Exception"]).filter goodWord ++ (vx_atS RX2 58 "java/lang/IllegalStateException" ["java/lang/RuntimeException", "java/lang/Exception"]).filter goodWord)
def wsL_sail_r1 : List Cond := [Cond.classLink RL 15 "java/lang/IllegalStateException", Cond.methodLink RL 41 yX2_sail, Cond.instanceMethod yX2_sail, Cond.selects RX2 yX2_sail yX2_sail, Cond.initialized RX2, Cond.code yX2_sail cX2_sail 6 (some .int), Cond.classLink RX2 54 "java/lang/IllegalStateException", Cond.initialized "java/lang/IllegalStateException", Cond.fieldLink RX2 25 "StowagePlan" "shipPort" "I", Cond.fieldLink RX2 17 "StowagePlan" "stacks" "[LStowagePlan$Stack;", Cond.fieldLink RX2 37 "StowagePlan" "putBack" "I", Cond.methodLink RX2 133 yX2_isSteady, Cond.instanceMethod yX2_isSteady, Cond.selects RX2 yX2_isSteady yX2_isSteady, Cond.code yX2_isSteady cX2_isSteady 1 (some .boolean), Cond.methodLink RX2 176 Lib.Math.abs.name, Cond.static Lib.Math.abs.name, Cond.initialized "java/lang/Math", Cond.code Lib.Math.abs.name Lib.Math.abs.code 1 (some .int), Cond.fieldLink RX2 31 "StowagePlan" "listLimit" "I", Cond.fieldLink RX2 34 "StowagePlan" "trimLimit" "I", Cond.constantDouble RX2 185 (4617315517961601024), Cond.methodLink RX2 172 yX2_moment, Cond.instanceMethod yX2_moment]
def wsL_sail_r2 : List Cond := [Cond.selects RX2 yX2_moment yX2_moment, Cond.code yX2_moment cX2_moment 7 (some .int), Cond.methodLink RX2 156 yX1_weightSum, Cond.instanceMethod yX1_weightSum, Cond.selects RX1 yX1_weightSum yX1_weightSum, Cond.initialized RX1, Cond.code yX1_weightSum cX1_weightSum 6 (some .int), Cond.fieldLink RX1 11 "StowagePlan$Stack" "boxes" "[LStowagePlan$Box;", Cond.fieldLink RX1 58 "StowagePlan$Box" "weight" "I", Cond.methodLink RX2 159 yX1_trimArm, Cond.instanceMethod yX1_trimArm, Cond.selects RX1 yX1_trimArm yX1_trimArm, Cond.code yX1_trimArm cX1_trimArm 1 (some .int), Cond.fieldLink RX1 21 "StowagePlan$Stack" "bay" "I", Cond.methodLink RX2 162 yX1_listArm, Cond.instanceMethod yX1_listArm, Cond.selects RX1 yX1_listArm yX1_listArm, Cond.code yX1_listArm cX1_listArm 1 (some .int), Cond.fieldLink RX1 24 "StowagePlan$Stack" "row" "I", Cond.methodLink RX2 181 yX2_height, Cond.instanceMethod yX2_height, Cond.selects RX2 yX2_height yX2_height, Cond.code yX2_height cX2_height 7 (some .double), Cond.fieldLink RX2 11 "StowagePlan" "boxes" "[LStowagePlan$Box;"]
def wsL_sail_r3 : List Cond := [Cond.fieldLink RX2 165 "StowagePlan$Box" "stack" "LStowagePlan$Stack;", Cond.fieldLink RX2 169 "StowagePlan$Box" "weight" "I", Cond.fieldLink RX2 107 "StowagePlan$Box" "tier" "I", Cond.methodLink RX2 138 yX1_liftsFor, Cond.instanceMethod yX1_liftsFor, Cond.selects RX1 yX1_liftsFor yX1_liftsFor, Cond.code yX1_liftsFor cX1_liftsFor 8 (some .int), Cond.fieldLink RX1 48 "StowagePlan$Box" "to" "I", Cond.methodLink RX2 141 yX1_land, Cond.instanceMethod yX1_land, Cond.selects RX1 yX1_land yX1_land, Cond.code yX1_land cX1_land 4 none, Cond.fieldLink RX1 17 "StowagePlan$Stack" "size" "I", Cond.fieldLink RX1 41 "StowagePlan$Box" "stack" "LStowagePlan$Stack;", Cond.fieldLink RX1 51 "StowagePlan$Box" "isLanded" "Z", Cond.methodLink RX1 54 yX1_push, Cond.instanceMethod yX1_push, Cond.selects RX1 yX1_push yX1_push, Cond.code yX1_push cX1_push 2 none, Cond.fieldLink RX1 45 "StowagePlan$Box" "tier" "I"]
def wsL_sail : List Cond := .codeWith yL_sail cL_sail 3 (some .int) [(0, 8, 11, 15)] :: ((wsL_sail_r1 ++ (wsL_sail_r2 ++ wsL_sail_r3)) ++ wsX20 ++ wsX10 ++ wsX00 ++ (vx_atS RX2 58 "java/lang/IllegalStateException" ["java/lang/RuntimeException", "java/lang/Exception"]).filter goodWord)
def wsL_at_r1 : List Cond := [Cond.classLink RL 21 "java/lang/IndexOutOfBoundsException", Cond.methodLink RL 45 yX2_at, Cond.instanceMethod yX2_at, Cond.selects RX2 yX2_at yX2_at, Cond.initialized RX2, Cond.code yX2_at cX2_at 5 (some .int), Cond.classLink RX2 68 "java/lang/IndexOutOfBoundsException", Cond.initialized "java/lang/IndexOutOfBoundsException", Cond.methodLink RX2 79 yX2_stackAt, Cond.instanceMethod yX2_stackAt, Cond.selects RX2 yX2_stackAt yX2_stackAt, Cond.code yX2_stackAt cX2_stackAt 4 (some (.object "StowagePlan$Stack")), Cond.fieldLink RX2 17 "StowagePlan" "stacks" "[LStowagePlan$Stack;", Cond.methodLink RX2 43 yX2_isWithin, Cond.static yX2_isWithin, Cond.code yX2_isWithin cX2_isWithin 3 (some .boolean), Cond.methodLink RX2 147 yX1_onTier, Cond.instanceMethod yX1_onTier, Cond.selects RX1 yX1_onTier yX1_onTier, Cond.initialized RX1, Cond.code yX1_onTier cX1_onTier 2 (some (.object "StowagePlan$Box")), Cond.fieldLink RX1 11 "StowagePlan$Stack" "boxes" "[LStowagePlan$Box;", Cond.methodLink RX2 122 yX2_numberOf, Cond.static yX2_numberOf]
def wsL_at_r2 : List Cond := [Cond.code yX2_numberOf cX2_numberOf 1 (some .int), Cond.fieldLink RX2 216 "StowagePlan$Box" "number" "I"]
def wsL_at : List Cond := .codeWith yL_at cL_at 6 (some .int) [(0, 12, 15, 21)] :: ((wsL_at_r1 ++ wsL_at_r2) ++ wsX20 ++ wsX10 ++ wsX00 ++ (vx_atS RX2 72 "java/lang/IndexOutOfBoundsException" ["java/lang/RuntimeException", "java/lang/Exception"]).filter goodWord)
def wsL_where : List Cond := .codeWith yL_where cL_where 4 (some .int) [(0, 9, 12, 21)] :: ([.classLink RL 21 "java/lang/IndexOutOfBoundsException", .methodLink RL 48 yX2_where, .instanceMethod yX2_where, .selects RX2 yX2_where yX2_where, .initialized RX2, .code yX2_where cX2_where 3 (some .int), .classLink RX2 68 "java/lang/IndexOutOfBoundsException", .initialized "java/lang/IndexOutOfBoundsException", .methodLink RX2 64 yX2_boxNumbered, .instanceMethod yX2_boxNumbered, .selects RX2 yX2_boxNumbered yX2_boxNumbered, .code yX2_boxNumbered cX2_boxNumbered 2 (some (.object "StowagePlan$Box")), .fieldLink RX2 11 "StowagePlan" "boxes" "[LStowagePlan$Box;", .methodLink RX2 152 yX0_place, .instanceMethod yX0_place, .selects RX0 yX0_place yX0_place, .initialized RX0, .code yX0_place cX0_place 1 (some .int), .fieldLink RX0 15 "StowagePlan$Box" "stack" "LStowagePlan$Stack;", .fieldLink RX0 42 "StowagePlan$Stack" "bay" "I", .fieldLink RX0 47 "StowagePlan$Stack" "row" "I", .fieldLink RX0 19 "StowagePlan$Box" "tier" "I"] ++ wsX20 ++ wsX00 ++ wsX10 ++ (vx_atS RX2 72 "java/lang/IndexOutOfBoundsException" ["java/lang/RuntimeException", "java/lang/Exception"]).filter goodWord)
def wsL_weight : List Cond := .codeWith yL_weight cL_weight 4 (some .int) [(0, 9, 12, 21)] :: ([.classLink RL 21 "java/lang/IndexOutOfBoundsException", .methodLink RL 52 yX2_weight, .instanceMethod yX2_weight, .selects RX2 yX2_weight yX2_weight, .initialized RX2, .code yX2_weight cX2_weight 7 (some .int), .classLink RX2 68 "java/lang/IndexOutOfBoundsException", .initialized "java/lang/IndexOutOfBoundsException", .fieldLink RX2 17 "StowagePlan" "stacks" "[LStowagePlan$Stack;", .fieldLink RX2 193 "StowagePlan$Stack" "bay" "I", .methodLink RX2 43 yX2_isWithin, .static yX2_isWithin, .code yX2_isWithin cX2_isWithin 3 (some .boolean), .methodLink RX2 156 yX1_weightSum, .instanceMethod yX1_weightSum, .selects RX1 yX1_weightSum yX1_weightSum, .initialized RX1, .code yX1_weightSum cX1_weightSum 6 (some .int), .fieldLink RX1 11 "StowagePlan$Stack" "boxes" "[LStowagePlan$Box;", .fieldLink RX1 58 "StowagePlan$Box" "weight" "I"] ++ wsX20 ++ wsX10 ++ wsX00 ++ (vx_atS RX2 72 "java/lang/IndexOutOfBoundsException" ["java/lang/RuntimeException", "java/lang/Exception"]).filter goodWord)
def wsL_lifts : List Cond := .codeWith yL_lifts cL_lifts 4 (some .int) [(0, 9, 12, 21)] :: ([.classLink RL 21 "java/lang/IndexOutOfBoundsException", .methodLink RL 55 yX2_lifts, .instanceMethod yX2_lifts, .selects RX2 yX2_lifts yX2_lifts, .initialized RX2, .code yX2_lifts cX2_lifts 7 (some .int), .classLink RX2 68 "java/lang/IndexOutOfBoundsException", .initialized "java/lang/IndexOutOfBoundsException", .fieldLink RX2 17 "StowagePlan" "stacks" "[LStowagePlan$Stack;", .methodLink RX2 43 yX2_isWithin, .static yX2_isWithin, .code yX2_isWithin cX2_isWithin 3 (some .boolean), .methodLink RX2 138 yX1_liftsFor, .instanceMethod yX1_liftsFor, .selects RX1 yX1_liftsFor yX1_liftsFor, .initialized RX1, .code yX1_liftsFor cX1_liftsFor 8 (some .int), .fieldLink RX1 11 "StowagePlan$Stack" "boxes" "[LStowagePlan$Box;", .fieldLink RX1 48 "StowagePlan$Box" "to" "I"] ++ wsX20 ++ wsX10 ++ wsX00 ++ (vx_atS RX2 72 "java/lang/IndexOutOfBoundsException" ["java/lang/RuntimeException", "java/lang/Exception"]).filter goodWord)
def wsL_choices_r1 : List Cond := [Cond.classLink RL 21 "java/lang/IndexOutOfBoundsException", Cond.methodLink RL 58 yX2_choices, Cond.instanceMethod yX2_choices, Cond.selects RX2 yX2_choices yX2_choices, Cond.initialized RX2, Cond.code yX2_choices cX2_choices 8 (some .int), Cond.classLink RX2 68 "java/lang/IndexOutOfBoundsException", Cond.initialized "java/lang/IndexOutOfBoundsException", Cond.fieldLink RX2 17 "StowagePlan" "stacks" "[LStowagePlan$Stack;", Cond.methodLink RX2 64 yX2_boxNumbered, Cond.instanceMethod yX2_boxNumbered, Cond.selects RX2 yX2_boxNumbered yX2_boxNumbered, Cond.code yX2_boxNumbered cX2_boxNumbered 2 (some (.object "StowagePlan$Box")), Cond.fieldLink RX2 11 "StowagePlan" "boxes" "[LStowagePlan$Box;", Cond.methodLink RX2 97 yX2_isLoadable, Cond.instanceMethod yX2_isLoadable, Cond.selects RX2 yX2_isLoadable yX2_isLoadable, Cond.code yX2_isLoadable cX2_isLoadable 3 (some .boolean), Cond.fieldLink RX2 25 "StowagePlan" "shipPort" "I", Cond.fieldLink RX2 201 "StowagePlan$Stack" "size" "I", Cond.fieldLink RX2 169 "StowagePlan$Box" "weight" "I", Cond.fieldLink RX2 28 "StowagePlan" "stackLimit" "I", Cond.fieldLink RX2 219 "StowagePlan$Box" "kind" "I", Cond.methodLink RX2 187 yX0_waitsAt]
def wsL_choices_r2 : List Cond := [Cond.instanceMethod yX0_waitsAt, Cond.selects RX0 yX0_waitsAt yX0_waitsAt, Cond.initialized RX0, Cond.code yX0_waitsAt cX0_waitsAt 2 (some .boolean), Cond.fieldLink RX0 29 "StowagePlan$Box" "from" "I", Cond.methodLink RX0 38 yX0_state, Cond.instanceMethod yX0_state, Cond.selects RX0 yX0_state yX0_state, Cond.code yX0_state cX0_state 1 (some .int), Cond.fieldLink RX0 9 "StowagePlan$Box" "isLanded" "Z", Cond.fieldLink RX0 15 "StowagePlan$Box" "stack" "LStowagePlan$Stack;", Cond.methodLink RX2 156 yX1_weightSum, Cond.instanceMethod yX1_weightSum, Cond.selects RX1 yX1_weightSum yX1_weightSum, Cond.initialized RX1, Cond.code yX1_weightSum cX1_weightSum 6 (some .int), Cond.fieldLink RX1 11 "StowagePlan$Stack" "boxes" "[LStowagePlan$Box;", Cond.fieldLink RX1 58 "StowagePlan$Box" "weight" "I", Cond.methodLink RX2 222 yX1_hasPowerOnNextTier, Cond.instanceMethod yX1_hasPowerOnNextTier, Cond.selects RX1 yX1_hasPowerOnNextTier yX1_hasPowerOnNextTier, Cond.code yX1_hasPowerOnNextTier cX1_hasPowerOnNextTier 1 (some .boolean), Cond.fieldLink RX1 27 "StowagePlan$Stack" "hasPlug" "Z", Cond.fieldLink RX1 17 "StowagePlan$Stack" "size" "I"]
def wsL_choices_r3 : List Cond := [Cond.methodLink RX2 225 yX2_isApartFromOthers, Cond.instanceMethod yX2_isApartFromOthers, Cond.selects RX2 yX2_isApartFromOthers yX2_isApartFromOthers, Cond.code yX2_isApartFromOthers cX2_isApartFromOthers 7 (some .boolean), Cond.fieldLink RX2 165 "StowagePlan$Box" "stack" "LStowagePlan$Stack;", Cond.methodLink RX2 228 yX0_isDangerous, Cond.instanceMethod yX0_isDangerous, Cond.selects RX0 yX0_isDangerous yX0_isDangerous, Cond.code yX0_isDangerous cX0_isDangerous 1 (some .boolean), Cond.fieldLink RX0 35 "StowagePlan$Box" "kind" "I", Cond.methodLink RX2 231 yX1_isApartFrom, Cond.instanceMethod yX1_isApartFrom, Cond.selects RX1 yX1_isApartFrom yX1_isApartFrom, Cond.code yX1_isApartFrom cX1_isApartFrom 3 (some .boolean), Cond.fieldLink RX1 21 "StowagePlan$Stack" "bay" "I", Cond.methodLink RX1 31 Lib.Math.abs.name, Cond.static Lib.Math.abs.name, Cond.initialized "java/lang/Math", Cond.code Lib.Math.abs.name Lib.Math.abs.code 1 (some .int), Cond.fieldLink RX1 24 "StowagePlan$Stack" "row" "I"]
def wsL_choices : List Cond := .codeWith yL_choices cL_choices 4 (some .int) [(0, 9, 12, 21)] :: ((wsL_choices_r1 ++ (wsL_choices_r2 ++ wsL_choices_r3)) ++ wsX20 ++ wsX10 ++ wsX00 ++ (vx_atS RX2 72 "java/lang/IndexOutOfBoundsException" ["java/lang/RuntimeException", "java/lang/Exception"]).filter goodWord)
def wsL_law0_r1 : List Cond := [Cond.classLink RL 8 RX2, Cond.instantiable RX2 8, Cond.initialized RX2, Cond.classLink RL 62 RX3, Cond.instantiable RX3 13, Cond.initialized RX3, Cond.arrayClass .long, Cond.methodLink RL 61 yX2_init, Cond.instanceMethod yX2_init, Cond.code yX2_init cX2_init 3 none, Cond.methodLink RX2 1 objectInit, Cond.instanceMethod objectInit, Cond.code objectInit ⟨#[0xb1]⟩ 1 none, Cond.classLink RX2 9 RX0, Cond.fieldLink RX2 11 "StowagePlan" "boxes" "[LStowagePlan$Box;", Cond.classLink RX2 15 RX1, Cond.fieldLink RX2 17 "StowagePlan" "stacks" "[LStowagePlan$Stack;", Cond.fieldLink RX2 21 "StowagePlan" "boxCount" "I", Cond.fieldLink RX2 25 "StowagePlan" "shipPort" "I", Cond.fieldLink RX2 28 "StowagePlan" "stackLimit" "I", Cond.fieldLink RX2 31 "StowagePlan" "listLimit" "I", Cond.fieldLink RX2 34 "StowagePlan" "trimLimit" "I", Cond.fieldLink RX2 37 "StowagePlan" "putBack" "I", Cond.instantiable RX1 5]
def wsL_law0_r2 : List Cond := [Cond.initialized RX1, Cond.methodLink RX2 40 yX1_init, Cond.instanceMethod yX1_init, Cond.code yX1_init cX1_init 4 none, Cond.methodLink RX1 3 objectInit, Cond.classLink RX1 9 RX0, Cond.fieldLink RX1 11 "StowagePlan$Stack" "boxes" "[LStowagePlan$Box;", Cond.fieldLink RX1 17 "StowagePlan$Stack" "size" "I", Cond.fieldLink RX1 21 "StowagePlan$Stack" "bay" "I", Cond.fieldLink RX1 24 "StowagePlan$Stack" "row" "I", Cond.fieldLink RX1 27 "StowagePlan$Stack" "hasPlug" "Z", Cond.methodLink RL 64 yX3_init, Cond.instanceMethod yX3_init, Cond.code yX3_init cX3_init 2 none, Cond.methodLink RX3 3 objectInit, Cond.arrayClass .int, Cond.fieldLink RX3 9 "StowagePlanModel" "table" "[I", Cond.fieldLink RX3 13 "StowagePlanModel" "stacks" "[I", Cond.fieldLink RX3 16 "StowagePlanModel" "tiers" "[I", Cond.arrayClass .boolean, Cond.fieldLink RX3 19 "StowagePlanModel" "plugs" "[Z", Cond.fieldLink RX3 23 "StowagePlanModel" "stackLimit" "I", Cond.fieldLink RX3 27 "StowagePlanModel" "listLimit" "I", Cond.fieldLink RX3 30 "StowagePlanModel" "trimLimit" "I"]
def wsL_law0_r3 : List Cond := [Cond.methodLink RL 65 yL_addContainer, Cond.static yL_addContainer, Cond.initialized RL, Cond.codeWith yL_addContainer cL_addContainer 7 (some .int) [(0, 14, 17, 13), (0, 14, 21, 15)], Cond.classLink RL 13 "java/lang/IllegalArgumentException", Cond.classLink RL 15 "java/lang/IllegalStateException", Cond.methodLink RL 7 yX2_addContainer, Cond.instanceMethod yX2_addContainer, Cond.selects RX2 yX2_addContainer yX2_addContainer, Cond.code yX2_addContainer cX2_addContainer 6 (some .int), Cond.classLink RX2 47 "java/lang/IllegalArgumentException", Cond.initialized "java/lang/IllegalArgumentException", Cond.classLink RX2 54 "java/lang/IllegalStateException", Cond.initialized "java/lang/IllegalStateException", Cond.instantiable RX0 8, Cond.initialized RX0, Cond.methodLink RX2 43 yX2_isWithin, Cond.static yX2_isWithin, Cond.code yX2_isWithin cX2_isWithin 3 (some .boolean), Cond.methodLink RX2 61 yX0_init, Cond.instanceMethod yX0_init, Cond.code yX0_init cX0_init 6 none, Cond.methodLink RX0 3 objectInit, Cond.fieldLink RX0 9 "StowagePlan$Box" "isLanded" "Z"]
def wsL_law0_r4 : List Cond := [Cond.fieldLink RX0 15 "StowagePlan$Box" "stack" "LStowagePlan$Stack;", Cond.fieldLink RX0 19 "StowagePlan$Box" "tier" "I", Cond.fieldLink RX0 23 "StowagePlan$Box" "number" "I", Cond.fieldLink RX0 26 "StowagePlan$Box" "weight" "I", Cond.fieldLink RX0 29 "StowagePlan$Box" "from" "I", Cond.fieldLink RX0 32 "StowagePlan$Box" "to" "I", Cond.fieldLink RX0 35 "StowagePlan$Box" "kind" "I", Cond.methodLink RL 70 yX3_addContainer, Cond.instanceMethod yX3_addContainer, Cond.selects RX3 yX3_addContainer yX3_addContainer, Cond.code yX3_addContainer cX3_addContainer 6 (some .int), Cond.fieldLink RX3 33 "StowagePlanModel" "thrown" "I", Cond.fieldLink RX3 54 "StowagePlanModel" "port" "I", Cond.fieldLink RX3 36 "StowagePlanModel" "many" "I", Cond.methodLink RX3 57 arraycopyName, Cond.native arraycopyName, Cond.static arraycopyName, Cond.initialized "java/lang/System", Cond.methodLink RX3 39 yX3_isIn, Cond.static yX3_isIn, Cond.code yX3_isIn cX3_isIn 3 (some .boolean), Cond.methodLink RX3 51 yX3_fail, Cond.instanceMethod yX3_fail, Cond.selects RX3 yX3_fail yX3_fail]
def wsL_law0_r5 : List Cond := [Cond.code yX3_fail cX3_fail 2 (some .int), Cond.methodLink RL 71 yX3_thrown, Cond.instanceMethod yX3_thrown, Cond.selects RX3 yX3_thrown yX3_thrown, Cond.code yX3_thrown cX3_thrown 1 (some .int), Cond.methodLink RL 74 yL_container, Cond.static yL_container, Cond.codeWith yL_container cL_container 5 (some .int) [(0, 10, 13, 21)], Cond.classLink RL 21 "java/lang/IndexOutOfBoundsException", Cond.methodLink RL 17 yX2_container, Cond.instanceMethod yX2_container, Cond.selects RX2 yX2_container yX2_container, Cond.code yX2_container cX2_container 4 (some .int), Cond.classLink RX2 68 "java/lang/IndexOutOfBoundsException", Cond.initialized "java/lang/IndexOutOfBoundsException", Cond.methodLink RX2 64 yX2_boxNumbered, Cond.instanceMethod yX2_boxNumbered, Cond.selects RX2 yX2_boxNumbered yX2_boxNumbered, Cond.code yX2_boxNumbered cX2_boxNumbered 2 (some (.object "StowagePlan$Box")), Cond.methodLink RX2 73 yX0_tell, Cond.instanceMethod yX0_tell, Cond.selects RX0 yX0_tell yX0_tell, Cond.code yX0_tell cX0_tell 2 (some .int), Cond.methodLink RX0 38 yX0_state]
def wsL_law0_r6 : List Cond := [Cond.instanceMethod yX0_state, Cond.selects RX0 yX0_state yX0_state, Cond.code yX0_state cX0_state 1 (some .int), Cond.methodLink RL 77 yX3_container, Cond.instanceMethod yX3_container, Cond.selects RX3 yX3_container yX3_container, Cond.code yX3_container cX3_container 3 (some .int), Cond.methodLink RX3 63 yX3_isContainer, Cond.instanceMethod yX3_isContainer, Cond.selects RX3 yX3_isContainer yX3_isContainer, Cond.code yX3_isContainer cX3_isContainer 2 (some .boolean), Cond.methodLink RL 78 yL_setLimits, Cond.static yL_setLimits, Cond.codeWith yL_setLimits cL_setLimits 6 (some .int) [(0, 12, 15, 13)], Cond.methodLink RL 23 yX2_setLimits, Cond.instanceMethod yX2_setLimits, Cond.selects RX2 yX2_setLimits yX2_setLimits, Cond.code yX2_setLimits cX2_setLimits 5 (some .int), Cond.methodLink RL 81 yX3_setLimits, Cond.instanceMethod yX3_setLimits, Cond.selects RX3 yX3_setLimits yX3_setLimits, Cond.code yX3_setLimits cX3_setLimits 5 (some .int), Cond.methodLink RL 82 yL_setPlug, Cond.static yL_setPlug]
def wsL_law0_r7 : List Cond := [Cond.codeWith yL_setPlug cL_setPlug 6 (some .int) [(0, 19, 22, 21), (0, 19, 26, 15)], Cond.methodLink RL 27 yX2_setPlug, Cond.instanceMethod yX2_setPlug, Cond.selects RX2 yX2_setPlug yX2_setPlug, Cond.code yX2_setPlug cX2_setPlug 6 (some .boolean), Cond.fieldLink RX2 91 "StowagePlan$Stack" "hasPlug" "Z", Cond.methodLink RX2 79 yX2_stackAt, Cond.instanceMethod yX2_stackAt, Cond.selects RX2 yX2_stackAt yX2_stackAt, Cond.code yX2_stackAt cX2_stackAt 4 (some (.object "StowagePlan$Stack")), Cond.methodLink RX2 85 yX1_hasReefer, Cond.instanceMethod yX1_hasReefer, Cond.selects RX1 yX1_hasReefer yX1_hasReefer, Cond.code yX1_hasReefer cX1_hasReefer 5 (some .boolean), Cond.fieldLink RX1 61 "StowagePlan$Box" "kind" "I", Cond.methodLink RL 85 yX3_setPlug, Cond.instanceMethod yX3_setPlug, Cond.selects RX3 yX3_setPlug yX3_setPlug, Cond.code yX3_setPlug cX3_setPlug 6 (some .boolean), Cond.methodLink RX3 67 yX3_isStack, Cond.static yX3_isStack, Cond.code yX3_isStack cX3_isStack 2 (some .boolean), Cond.methodLink RX3 70 yX3_stack, Cond.static yX3_stack]
def wsL_law0_r8 : List Cond := [Cond.code yX3_stack cX3_stack 2 (some .int), Cond.methodLink RX3 47 yX3_isOn, Cond.instanceMethod yX3_isOn, Cond.selects RX3 yX3_isOn yX3_isOn, Cond.code yX3_isOn cX3_isOn 3 (some .boolean), Cond.methodLink RX3 43 yX3_state, Cond.instanceMethod yX3_state, Cond.selects RX3 yX3_state yX3_state, Cond.code yX3_state cX3_state 2 (some .int), Cond.methodLink RX3 74 yX3_kind, Cond.instanceMethod yX3_kind, Cond.selects RX3 yX3_kind yX3_kind, Cond.code yX3_kind cX3_kind 2 (some .int), Cond.methodLink RL 86 yL_canLoad, Cond.static yL_canLoad, Cond.codeWith yL_canLoad cL_canLoad 6 (some .int) [(0, 19, 22, 21)], Cond.methodLink RL 31 yX2_canLoad, Cond.instanceMethod yX2_canLoad, Cond.selects RX2 yX2_canLoad yX2_canLoad, Cond.code yX2_canLoad cX2_canLoad 6 (some .boolean), Cond.methodLink RX2 97 yX2_isLoadable, Cond.instanceMethod yX2_isLoadable, Cond.selects RX2 yX2_isLoadable yX2_isLoadable, Cond.code yX2_isLoadable cX2_isLoadable 3 (some .boolean)]
def wsL_law0_r9 : List Cond := [Cond.fieldLink RX2 201 "StowagePlan$Stack" "size" "I", Cond.fieldLink RX2 169 "StowagePlan$Box" "weight" "I", Cond.fieldLink RX2 219 "StowagePlan$Box" "kind" "I", Cond.methodLink RX2 187 yX0_waitsAt, Cond.instanceMethod yX0_waitsAt, Cond.selects RX0 yX0_waitsAt yX0_waitsAt, Cond.code yX0_waitsAt cX0_waitsAt 2 (some .boolean), Cond.methodLink RX2 156 yX1_weightSum, Cond.instanceMethod yX1_weightSum, Cond.selects RX1 yX1_weightSum yX1_weightSum, Cond.code yX1_weightSum cX1_weightSum 6 (some .int), Cond.fieldLink RX1 58 "StowagePlan$Box" "weight" "I", Cond.methodLink RX2 222 yX1_hasPowerOnNextTier, Cond.instanceMethod yX1_hasPowerOnNextTier, Cond.selects RX1 yX1_hasPowerOnNextTier yX1_hasPowerOnNextTier, Cond.code yX1_hasPowerOnNextTier cX1_hasPowerOnNextTier 1 (some .boolean), Cond.methodLink RX2 225 yX2_isApartFromOthers, Cond.instanceMethod yX2_isApartFromOthers, Cond.selects RX2 yX2_isApartFromOthers yX2_isApartFromOthers, Cond.code yX2_isApartFromOthers cX2_isApartFromOthers 7 (some .boolean), Cond.fieldLink RX2 165 "StowagePlan$Box" "stack" "LStowagePlan$Stack;", Cond.methodLink RX2 228 yX0_isDangerous, Cond.instanceMethod yX0_isDangerous, Cond.selects RX0 yX0_isDangerous yX0_isDangerous]
def wsL_law0_r10 : List Cond := [Cond.code yX0_isDangerous cX0_isDangerous 1 (some .boolean), Cond.methodLink RX2 231 yX1_isApartFrom, Cond.instanceMethod yX1_isApartFrom, Cond.selects RX1 yX1_isApartFrom yX1_isApartFrom, Cond.code yX1_isApartFrom cX1_isApartFrom 3 (some .boolean), Cond.methodLink RX1 31 Lib.Math.abs.name, Cond.static Lib.Math.abs.name, Cond.initialized "java/lang/Math", Cond.code Lib.Math.abs.name Lib.Math.abs.code 1 (some .int), Cond.methodLink RL 88 yX3_canLoad, Cond.instanceMethod yX3_canLoad, Cond.selects RX3 yX3_canLoad yX3_canLoad, Cond.code yX3_canLoad cX3_canLoad 4 (some .boolean), Cond.methodLink RX3 94 yX3_isAllowed, Cond.instanceMethod yX3_isAllowed, Cond.selects RX3 yX3_isAllowed yX3_isAllowed, Cond.code yX3_isAllowed cX3_isAllowed 5 (some .boolean), Cond.methodLink RX3 85 yX3_high, Cond.instanceMethod yX3_high, Cond.selects RX3 yX3_high yX3_high, Cond.code yX3_high cX3_high 4 (some .int), Cond.methodLink RX3 88 yX3_weightOf, Cond.instanceMethod yX3_weightOf, Cond.selects RX3 yX3_weightOf yX3_weightOf]
def wsL_law0_r11 : List Cond := [Cond.code yX3_weightOf cX3_weightOf 4 (some .int), Cond.methodLink RX3 82 yX3_heavy, Cond.instanceMethod yX3_heavy, Cond.selects RX3 yX3_heavy yX3_heavy, Cond.code yX3_heavy cX3_heavy 2 (some .int), Cond.methodLink RX3 91 yX3_areApart, Cond.static yX3_areApart, Cond.code yX3_areApart cX3_areApart 3 (some .boolean), Cond.methodLink RX3 77 Lib.Math.abs.name, Cond.methodLink RL 89 yL_load, Cond.static yL_load, Cond.codeWith yL_load cL_load 6 (some .int) [(0, 12, 15, 21), (0, 12, 19, 15)], Cond.methodLink RL 35 yX2_load, Cond.instanceMethod yX2_load, Cond.selects RX2 yX2_load yX2_load, Cond.code yX2_load cX2_load 6 (some .int), Cond.fieldLink RX2 107 "StowagePlan$Box" "tier" "I", Cond.methodLink RX2 103 yX1_push, Cond.instanceMethod yX1_push, Cond.selects RX1 yX1_push yX1_push, Cond.code yX1_push cX1_push 2 none, Cond.fieldLink RX1 41 "StowagePlan$Box" "stack" "LStowagePlan$Stack;", Cond.fieldLink RX1 45 "StowagePlan$Box" "tier" "I", Cond.methodLink RL 91 yX3_load]
def wsL_law0_r12 : List Cond := [Cond.instanceMethod yX3_load, Cond.selects RX3 yX3_load yX3_load, Cond.code yX3_load cX3_load 4 (some .int), Cond.methodLink RX3 97 yX3_put, Cond.instanceMethod yX3_put, Cond.selects RX3 yX3_put yX3_put, Cond.code yX3_put cX3_put 3 none, Cond.methodLink RL 92 yL_lift, Cond.static yL_lift, Cond.codeWith yL_lift cL_lift 5 (some .int) [(0, 10, 13, 21), (0, 10, 17, 15)], Cond.methodLink RL 38 yX2_lift, Cond.instanceMethod yX2_lift, Cond.selects RX2 yX2_lift yX2_lift, Cond.code yX2_lift cX2_lift 5 (some .int), Cond.fieldLink RX2 114 "StowagePlan$Box" "from" "I", Cond.methodLink RX2 110 yX1_top, Cond.instanceMethod yX1_top, Cond.selects RX1 yX1_top yX1_top, Cond.code yX1_top cX1_top 1 (some (.object "StowagePlan$Box")), Cond.methodLink RX1 37 yX1_onTier, Cond.instanceMethod yX1_onTier, Cond.selects RX1 yX1_onTier yX1_onTier, Cond.code yX1_onTier cX1_onTier 2 (some (.object "StowagePlan$Box")), Cond.methodLink RX2 119 yX1_dropTop]
def wsL_law0_r13 : List Cond := [Cond.instanceMethod yX1_dropTop, Cond.selects RX1 yX1_dropTop yX1_dropTop, Cond.code yX1_dropTop cX1_dropTop 3 none, Cond.methodLink RX2 122 yX2_numberOf, Cond.static yX2_numberOf, Cond.code yX2_numberOf cX2_numberOf 1 (some .int), Cond.fieldLink RX2 216 "StowagePlan$Box" "number" "I", Cond.methodLink RL 94 yX3_lift, Cond.instanceMethod yX3_lift, Cond.selects RX3 yX3_lift yX3_lift, Cond.code yX3_lift cX3_lift 5 (some .int), Cond.methodLink RX3 101 yX3_find, Cond.instanceMethod yX3_find, Cond.selects RX3 yX3_find yX3_find, Cond.code yX3_find cX3_find 4 (some .int), Cond.methodLink RL 95 yX2_plan, Cond.instanceMethod yX2_plan, Cond.selects RX2 yX2_plan yX2_plan, Cond.code yX2_plan cX2_plan 5 (some .int), Cond.methodLink RX2 126 yX2_nextToLoad, Cond.instanceMethod yX2_nextToLoad, Cond.selects RX2 yX2_nextToLoad yX2_nextToLoad, Cond.code yX2_nextToLoad cX2_nextToLoad 6 (some (.object "StowagePlan$Box")), Cond.methodLink RX2 235 yX0_goesBefore]
def wsL_law0_r14 : List Cond := [Cond.instanceMethod yX0_goesBefore, Cond.selects RX0 yX0_goesBefore yX0_goesBefore, Cond.code yX0_goesBefore cX0_goesBefore 2 (some .boolean), Cond.methodLink RX2 239 yX2_hasChoice, Cond.instanceMethod yX2_hasChoice, Cond.selects RX2 yX2_hasChoice yX2_hasChoice, Cond.code yX2_hasChoice cX2_hasChoice 6 (some .boolean), Cond.methodLink RX2 129 yX2_bestStackFor, Cond.instanceMethod yX2_bestStackFor, Cond.selects RX2 yX2_bestStackFor yX2_bestStackFor, Cond.code yX2_bestStackFor cX2_bestStackFor 15 (some (.object "StowagePlan$Stack")), Cond.fieldLink RX2 242 "StowagePlan$Box" "to" "I", Cond.methodLink RX2 176 Lib.Math.abs.name, Cond.methodLink RX2 172 yX2_moment, Cond.instanceMethod yX2_moment, Cond.selects RX2 yX2_moment yX2_moment, Cond.code yX2_moment cX2_moment 7 (some .int), Cond.methodLink RX2 159 yX1_trimArm, Cond.instanceMethod yX1_trimArm, Cond.selects RX1 yX1_trimArm yX1_trimArm, Cond.code yX1_trimArm cX1_trimArm 1 (some .int), Cond.methodLink RX2 162 yX1_listArm, Cond.instanceMethod yX1_listArm, Cond.selects RX1 yX1_listArm yX1_listArm]
def wsL_law0_r15 : List Cond := [Cond.code yX1_listArm cX1_listArm 1 (some .int), Cond.methodLink RX2 245 yX1_countLandedBefore, Cond.instanceMethod yX1_countLandedBefore, Cond.selects RX1 yX1_countLandedBefore yX1_countLandedBefore, Cond.code yX1_countLandedBefore cX1_countLandedBefore 7 (some .int), Cond.fieldLink RX1 48 "StowagePlan$Box" "to" "I", Cond.methodLink RL 98 yX3_plan, Cond.instanceMethod yX3_plan, Cond.selects RX3 yX3_plan yX3_plan, Cond.code yX3_plan cX3_plan 2 (some .int), Cond.methodLink RX3 124 yX3_planOne, Cond.instanceMethod yX3_planOne, Cond.selects RX3 yX3_planOne yX3_planOne, Cond.code yX3_planOne cX3_planOne 4 (some .boolean), Cond.methodLink RX3 118 yX3_choicesOf, Cond.instanceMethod yX3_choicesOf, Cond.selects RX3 yX3_choicesOf yX3_choicesOf, Cond.code yX3_choicesOf cX3_choicesOf 4 (some .int), Cond.methodLink RX3 108 yX3_to, Cond.instanceMethod yX3_to, Cond.selects RX3 yX3_to yX3_to, Cond.code yX3_to cX3_to 2 (some .int), Cond.methodLink RX3 121 yX3_isBetter, Cond.instanceMethod yX3_isBetter]
def wsL_law0_r16 : List Cond := [Cond.selects RX3 yX3_isBetter yX3_isBetter, Cond.code yX3_isBetter cX3_isBetter 6 (some .boolean), Cond.methodLink RX3 111 yX3_earlier, Cond.instanceMethod yX3_earlier, Cond.selects RX3 yX3_earlier yX3_earlier, Cond.code yX3_earlier cX3_earlier 5 (some .int), Cond.methodLink RX3 114 yX3_momentOf, Cond.instanceMethod yX3_momentOf, Cond.selects RX3 yX3_momentOf yX3_momentOf, Cond.code yX3_momentOf cX3_momentOf 4 (some .int), Cond.methodLink RX3 104 yX3_arm, Cond.static yX3_arm, Cond.code yX3_arm cX3_arm 2 (some .int), Cond.methodLink RL 99 yL_sail, Cond.static yL_sail, Cond.codeWith yL_sail cL_sail 3 (some .int) [(0, 8, 11, 15)], Cond.methodLink RL 41 yX2_sail, Cond.instanceMethod yX2_sail, Cond.selects RX2 yX2_sail yX2_sail, Cond.code yX2_sail cX2_sail 6 (some .int), Cond.methodLink RX2 133 yX2_isSteady, Cond.instanceMethod yX2_isSteady, Cond.selects RX2 yX2_isSteady yX2_isSteady, Cond.code yX2_isSteady cX2_isSteady 1 (some .boolean)]
def wsL_law0_r17 : List Cond := [Cond.constantDouble RX2 185 (4617315517961601024), Cond.methodLink RX2 181 yX2_height, Cond.instanceMethod yX2_height, Cond.selects RX2 yX2_height yX2_height, Cond.code yX2_height cX2_height 7 (some .double), Cond.methodLink RX2 138 yX1_liftsFor, Cond.instanceMethod yX1_liftsFor, Cond.selects RX1 yX1_liftsFor yX1_liftsFor, Cond.code yX1_liftsFor cX1_liftsFor 8 (some .int), Cond.methodLink RX2 141 yX1_land, Cond.instanceMethod yX1_land, Cond.selects RX1 yX1_land yX1_land, Cond.code yX1_land cX1_land 4 none, Cond.fieldLink RX1 51 "StowagePlan$Box" "isLanded" "Z", Cond.methodLink RX1 54 yX1_push, Cond.methodLink RL 102 yX3_sail, Cond.instanceMethod yX3_sail, Cond.selects RX3 yX3_sail yX3_sail, Cond.code yX3_sail cX3_sail 7 (some .int), Cond.fieldLink RX3 149 "StowagePlanModel" "lifted" "I", Cond.methodLink RX3 143 yX3_steady, Cond.instanceMethod yX3_steady, Cond.selects RX3 yX3_steady yX3_steady, Cond.code yX3_steady cX3_steady 1 (some .boolean)]
def wsL_law0_r18 : List Cond := [Cond.fieldLink RX3 128 "StowagePlanModel" "up" "I", Cond.fieldLink RX3 131 "StowagePlanModel" "all" "I", Cond.methodLink RX3 134 yX3_weigh, Cond.instanceMethod yX3_weigh, Cond.selects RX3 yX3_weigh yX3_weigh, Cond.code yX3_weigh cX3_weigh 2 none, Cond.methodLink RX3 146 yX3_liftsAt, Cond.instanceMethod yX3_liftsAt, Cond.selects RX3 yX3_liftsAt yX3_liftsAt, Cond.code yX3_liftsAt cX3_liftsAt 4 (some .int), Cond.methodLink RX3 140 yX3_lowest, Cond.instanceMethod yX3_lowest, Cond.selects RX3 yX3_lowest yX3_lowest, Cond.code yX3_lowest cX3_lowest 5 (some .int), Cond.methodLink RX3 137 Lib.Math.min.name, Cond.static Lib.Math.min.name, Cond.code Lib.Math.min.name Lib.Math.min.code 2 (some .int), Cond.methodLink RL 103 yX2_port, Cond.instanceMethod yX2_port, Cond.selects RX2 yX2_port yX2_port, Cond.code yX2_port cX2_port 1 (some .int), Cond.methodLink RL 106 yX3_port, Cond.instanceMethod yX3_port, Cond.selects RX3 yX3_port yX3_port]
def wsL_law0_r19 : List Cond := [Cond.code yX3_port cX3_port 1 (some .int), Cond.methodLink RL 107 yL_at, Cond.static yL_at, Cond.codeWith yL_at cL_at 6 (some .int) [(0, 12, 15, 21)], Cond.methodLink RL 45 yX2_at, Cond.instanceMethod yX2_at, Cond.selects RX2 yX2_at yX2_at, Cond.code yX2_at cX2_at 5 (some .int), Cond.methodLink RX2 147 yX1_onTier, Cond.methodLink RL 109 yX3_at, Cond.instanceMethod yX3_at, Cond.selects RX3 yX3_at yX3_at, Cond.code yX3_at cX3_at 4 (some .int), Cond.methodLink RL 110 yL_where, Cond.static yL_where, Cond.codeWith yL_where cL_where 4 (some .int) [(0, 9, 12, 21)], Cond.methodLink RL 48 yX2_where, Cond.instanceMethod yX2_where, Cond.selects RX2 yX2_where yX2_where, Cond.code yX2_where cX2_where 3 (some .int), Cond.methodLink RX2 152 yX0_place, Cond.instanceMethod yX0_place, Cond.selects RX0 yX0_place yX0_place, Cond.code yX0_place cX0_place 1 (some .int)]
def wsL_law0_r20 : List Cond := [Cond.fieldLink RX0 42 "StowagePlan$Stack" "bay" "I", Cond.fieldLink RX0 47 "StowagePlan$Stack" "row" "I", Cond.methodLink RL 113 yX3_where, Cond.instanceMethod yX3_where, Cond.selects RX3 yX3_where yX3_where, Cond.code yX3_where cX3_where 2 (some .int), Cond.methodLink RX3 152 yX3_place, Cond.instanceMethod yX3_place, Cond.selects RX3 yX3_place yX3_place, Cond.code yX3_place cX3_place 2 (some .int), Cond.methodLink RL 114 yX2_moment, Cond.methodLink RL 118 yX3_moment, Cond.instanceMethod yX3_moment, Cond.selects RX3 yX3_moment yX3_moment, Cond.code yX3_moment cX3_moment 2 (some .int), Cond.methodLink RL 119 yX2_height, Cond.methodLink RL 123 yX3_height, Cond.instanceMethod yX3_height, Cond.selects RX3 yX3_height yX3_height, Cond.code yX3_height cX3_height 1 (some .double), Cond.methodLink RL 124 yX2_isSteady, Cond.methodLink RL 128 yX3_isSteady, Cond.instanceMethod yX3_isSteady, Cond.selects RX3 yX3_isSteady yX3_isSteady]
def wsL_law0_r21 : List Cond := [Cond.code yX3_isSteady cX3_isSteady 1 (some .boolean), Cond.methodLink RL 129 yX2_count, Cond.instanceMethod yX2_count, Cond.selects RX2 yX2_count yX2_count, Cond.code yX2_count cX2_count 7 (some .int), Cond.methodLink RL 132 yX3_count, Cond.instanceMethod yX3_count, Cond.selects RX3 yX3_count yX3_count, Cond.code yX3_count cX3_count 4 (some .int), Cond.methodLink RL 133 yL_weight, Cond.static yL_weight, Cond.codeWith yL_weight cL_weight 4 (some .int) [(0, 9, 12, 21)], Cond.methodLink RL 52 yX2_weight, Cond.instanceMethod yX2_weight, Cond.selects RX2 yX2_weight yX2_weight, Cond.code yX2_weight cX2_weight 7 (some .int), Cond.fieldLink RX2 193 "StowagePlan$Stack" "bay" "I", Cond.methodLink RL 135 yX3_weight, Cond.instanceMethod yX3_weight, Cond.selects RX3 yX3_weight yX3_weight, Cond.code yX3_weight cX3_weight 4 (some .int), Cond.methodLink RL 136 yX2_blocked, Cond.instanceMethod yX2_blocked, Cond.selects RX2 yX2_blocked yX2_blocked]
def wsL_law0_r22 : List Cond := [Cond.code yX2_blocked cX2_blocked 6 (some .int), Cond.methodLink RX2 196 yX0_isBlocked, Cond.instanceMethod yX0_isBlocked, Cond.selects RX0 yX0_isBlocked yX0_isBlocked, Cond.code yX0_isBlocked cX0_isBlocked 1 (some .boolean), Cond.methodLink RX0 50 yX1_hasLaterAbove, Cond.instanceMethod yX1_hasLaterAbove, Cond.selects RX1 yX1_hasLaterAbove yX1_hasLaterAbove, Cond.code yX1_hasLaterAbove cX1_hasLaterAbove 7 (some .boolean), Cond.methodLink RL 139 yX3_blocked, Cond.instanceMethod yX3_blocked, Cond.selects RX3 yX3_blocked yX3_blocked, Cond.code yX3_blocked cX3_blocked 3 (some .int), Cond.methodLink RX3 155 yX3_isBlocked, Cond.instanceMethod yX3_isBlocked, Cond.selects RX3 yX3_isBlocked yX3_isBlocked, Cond.code yX3_isBlocked cX3_isBlocked 4 (some .boolean), Cond.methodLink RL 140 yL_lifts, Cond.static yL_lifts, Cond.codeWith yL_lifts cL_lifts 4 (some .int) [(0, 9, 12, 21)], Cond.methodLink RL 55 yX2_lifts, Cond.instanceMethod yX2_lifts, Cond.selects RX2 yX2_lifts yX2_lifts, Cond.code yX2_lifts cX2_lifts 7 (some .int)]
def wsL_law0_r23 : List Cond := [Cond.methodLink RL 142 yX3_lifts, Cond.instanceMethod yX3_lifts, Cond.selects RX3 yX3_lifts yX3_lifts, Cond.code yX3_lifts cX3_lifts 2 (some .int), Cond.methodLink RL 143 yX2_freePlugs, Cond.instanceMethod yX2_freePlugs, Cond.selects RX2 yX2_freePlugs yX2_freePlugs, Cond.code yX2_freePlugs cX2_freePlugs 6 (some .int), Cond.methodLink RL 146 yX3_freePlugs, Cond.instanceMethod yX3_freePlugs, Cond.selects RX3 yX3_freePlugs yX3_freePlugs, Cond.code yX3_freePlugs cX3_freePlugs 3 (some .int), Cond.methodLink RX3 158 Lib.Math.max.name, Cond.static Lib.Math.max.name, Cond.code Lib.Math.max.name Lib.Math.max.code 2 (some .int), Cond.methodLink RL 147 yL_choices, Cond.static yL_choices, Cond.codeWith yL_choices cL_choices 4 (some .int) [(0, 9, 12, 21)], Cond.methodLink RL 58 yX2_choices, Cond.instanceMethod yX2_choices, Cond.selects RX2 yX2_choices yX2_choices, Cond.code yX2_choices cX2_choices 8 (some .int), Cond.methodLink RL 149 yX3_choices, Cond.instanceMethod yX3_choices]
def wsL_law0_r24 : List Cond := [Cond.selects RX3 yX3_choices yX3_choices, Cond.code yX3_choices cX3_choices 2 (some .int), Cond.methodLink RL 150 yX2_lifted, Cond.instanceMethod yX2_lifted, Cond.selects RX2 yX2_lifted yX2_lifted, Cond.code yX2_lifted cX2_lifted 1 (some .int), Cond.methodLink RL 153 yX3_lifted, Cond.instanceMethod yX3_lifted, Cond.selects RX3 yX3_lifted yX3_lifted, Cond.code yX3_lifted cX3_lifted 1 (some .int), Cond.methodLink RL 154 yX2_digest, Cond.instanceMethod yX2_digest, Cond.selects RX2 yX2_digest yX2_digest, Cond.code yX2_digest cX2_digest 7 (some .long), Cond.constantLong RX2 204 (283), Cond.methodLink RX2 206 yX2_mix, Cond.static yX2_mix, Cond.code yX2_mix cX2_mix 4 (some .long), Cond.constantLong RX2 214 (31), Cond.methodLink RX2 210 yX2_mixBox, Cond.static yX2_mixBox, Cond.code yX2_mixBox cX2_mixBox 6 (some .long), Cond.methodLink RL 158 yX3_digest, Cond.instanceMethod yX3_digest]
def wsL_law0_r25 : List Cond := [Cond.selects RX3 yX3_digest yX3_digest, Cond.code yX3_digest cX3_digest 7 (some .long), Cond.constantLong RX3 161 (8773), Cond.constantLong RX3 163 (31)]
def wsL_law0 : List Cond := (wsL_law0_r1 ++ (wsL_law0_r2 ++ (wsL_law0_r3 ++ (wsL_law0_r4 ++ (wsL_law0_r5 ++ (wsL_law0_r6 ++ (wsL_law0_r7 ++ (wsL_law0_r8 ++ (wsL_law0_r9 ++ (wsL_law0_r10 ++ (wsL_law0_r11 ++ (wsL_law0_r12 ++ (wsL_law0_r13 ++ (wsL_law0_r14 ++ (wsL_law0_r15 ++ (wsL_law0_r16 ++ (wsL_law0_r17 ++ (wsL_law0_r18 ++ (wsL_law0_r19 ++ (wsL_law0_r20 ++ (wsL_law0_r21 ++ (wsL_law0_r22 ++ (wsL_law0_r23 ++ (wsL_law0_r24 ++ wsL_law0_r25)))))))))))))))))))))))) ++ wsX20 ++ wsX30 ++ wsX10 ++ wsX00 ++ ([] : List Cond)
def wsL_law : List Cond := wsL_law0 ++ (vx_atS RX2 51 "java/lang/IllegalArgumentException" ["java/lang/RuntimeException", "java/lang/Exception"]).filter goodWord ++ (vx_atS RX2 58 "java/lang/IllegalStateException" ["java/lang/RuntimeException", "java/lang/Exception"]).filter goodWord ++ (vx_atS RX2 72 "java/lang/IndexOutOfBoundsException" ["java/lang/RuntimeException", "java/lang/Exception"]).filter goodWord
end
section
set_option maxRecDepth 20000 in
theorem wsL_law0_r1_in : ∀ w ∈ wsL_law0_r1, w ∈ lw_tbl := fun w h => (goodIn_p wsL_law0_r1 [48, 51] (by decide +kernel) (by decide +kernel) w h).1
set_option maxRecDepth 20000 in
theorem wsL_law0_r2_in : ∀ w ∈ wsL_law0_r2, w ∈ lw_tbl := fun w h => (goodIn_p wsL_law0_r2 [59, 537] (by decide +kernel) (by decide +kernel) w h).1
set_option maxRecDepth 20000 in
theorem wsL_law0_r3_in : ∀ w ∈ wsL_law0_r3, w ∈ lw_tbl := fun w h => (goodIn_p wsL_law0_r3 [251, 254, 343] (by decide +kernel) (by decide +kernel) w h).1
set_option maxRecDepth 20000 in
theorem wsL_law0_r4_in : ∀ w ∈ wsL_law0_r4, w ∈ lw_tbl := fun w h => (goodIn_p wsL_law0_r4 [588, 591] (by decide +kernel) (by decide +kernel) w h).1
set_option maxRecDepth 20000 in
theorem wsL_law0_r5_in : ∀ w ∈ wsL_law0_r5, w ∈ lw_tbl := fun w h => (goodIn_p wsL_law0_r5 [595, 584, 390, 394, 238] (by decide +kernel) (by decide +kernel) w h).1
set_option maxRecDepth 20000 in
theorem wsL_law0_r6_in : ∀ w ∈ wsL_law0_r6, w ∈ lw_tbl := fun w h => (goodIn_p wsL_law0_r6 [135, 602, 606, 417, 610] (by decide +kernel) (by decide +kernel) w h).1
set_option maxRecDepth 20000 in
theorem wsL_law0_r7_in : ∀ w ∈ wsL_law0_r7, w ∈ lw_tbl := fun w h => (goodIn_p wsL_law0_r7 [425, 429, 434, 614, 617] (by decide +kernel) (by decide +kernel) w h).1
set_option maxRecDepth 20000 in
theorem wsL_law0_r8_in : ∀ w ∈ wsL_law0_r8, w ∈ lw_tbl := fun w h => (goodIn_p wsL_law0_r8 [620, 624, 628, 632, 442, 127] (by decide +kernel) (by decide +kernel) w h).1
set_option maxRecDepth 20000 in
theorem wsL_law0_r9_in : ∀ w ∈ wsL_law0_r9, w ∈ lw_tbl := fun w h => (goodIn_p wsL_law0_r9 [131, 139, 143, 147] (by decide +kernel) (by decide +kernel) w h).1
set_option maxRecDepth 20000 in
theorem wsL_law0_r10_in : ∀ w ∈ wsL_law0_r10, w ∈ lw_tbl := fun w h => (goodIn_p wsL_law0_r10 [151, 155, 158, 636, 640, 644] (by decide +kernel) (by decide +kernel) w h).1
set_option maxRecDepth 20000 in
theorem wsL_law0_r11_in : ∀ w ∈ wsL_law0_r11, w ∈ lw_tbl := fun w h => (goodIn_p wsL_law0_r11 [648, 652, 655, 450, 183] (by decide +kernel) (by decide +kernel) w h).1
set_option maxRecDepth 20000 in
theorem wsL_law0_r12_in : ∀ w ∈ wsL_law0_r12, w ∈ lw_tbl := fun w h => (goodIn_p wsL_law0_r12 [660, 664, 458, 462, 466] (by decide +kernel) (by decide +kernel) w h).1
set_option maxRecDepth 20000 in
theorem wsL_law0_r13_in : ∀ w ∈ wsL_law0_r13, w ∈ lw_tbl := fun w h => (goodIn_p wsL_law0_r13 [471, 474, 668, 672, 111, 115] (by decide +kernel) (by decide +kernel) w h).1
set_option maxRecDepth 20000 in
theorem wsL_law0_r14_in : ∀ w ∈ wsL_law0_r14, w ∈ lw_tbl := fun w h => (goodIn_p wsL_law0_r14 [119, 123, 162, 166, 170] (by decide +kernel) (by decide +kernel) w h).1
set_option maxRecDepth 20000 in
theorem wsL_law0_r15_in : ∀ w ∈ wsL_law0_r15, w ∈ lw_tbl := fun w h => (goodIn_p wsL_law0_r15 [174, 178, 676, 680, 684, 688] (by decide +kernel) (by decide +kernel) w h).1
set_option maxRecDepth 20000 in
theorem wsL_law0_r16_in : ∀ w ∈ wsL_law0_r16, w ∈ lw_tbl := fun w h => (goodIn_p wsL_law0_r16 [692, 696, 700, 703, 481, 196] (by decide +kernel) (by decide +kernel) w h).1
set_option maxRecDepth 20000 in
theorem wsL_law0_r17_in : ∀ w ∈ wsL_law0_r17, w ∈ lw_tbl := fun w h => (goodIn_p wsL_law0_r17 [192, 487, 491, 707, 711] (by decide +kernel) (by decide +kernel) w h).1
set_option maxRecDepth 20000 in
theorem wsL_law0_r18_in : ∀ w ∈ wsL_law0_r18, w ∈ lw_tbl := fun w h => (goodIn_p wsL_law0_r18 [715, 719, 723, 726, 187] (by decide +kernel) (by decide +kernel) w h).1
set_option maxRecDepth 20000 in
theorem wsL_law0_r19_in : ∀ w ∈ wsL_law0_r19, w ∈ lw_tbl := fun w h => (goodIn_p wsL_law0_r19 [730, 499, 734, 508, 242] (by decide +kernel) (by decide +kernel) w h).1
set_option maxRecDepth 20000 in
theorem wsL_law0_r20_in : ∀ w ∈ wsL_law0_r20, w ∈ lw_tbl := fun w h => (goodIn_p wsL_law0_r20 [738, 742, 746, 750] (by decide +kernel) (by decide +kernel) w h).1
set_option maxRecDepth 20000 in
theorem wsL_law0_r21_in : ∀ w ∈ wsL_law0_r21, w ∈ lw_tbl := fun w h => (goodIn_p wsL_law0_r21 [754, 202, 758, 516, 762] (by decide +kernel) (by decide +kernel) w h).1
set_option maxRecDepth 20000 in
theorem wsL_law0_r22_in : ∀ w ∈ wsL_law0_r22, w ∈ lw_tbl := fun w h => (goodIn_p wsL_law0_r22 [206, 210, 214, 766, 770, 524] (by decide +kernel) (by decide +kernel) w h).1
set_option maxRecDepth 20000 in
theorem wsL_law0_r23_in : ∀ w ∈ wsL_law0_r23, w ∈ lw_tbl := fun w h => (goodIn_p wsL_law0_r23 [774, 218, 778, 781, 532] (by decide +kernel) (by decide +kernel) w h).1
set_option maxRecDepth 20000 in
theorem wsL_law0_r24_in : ∀ w ∈ wsL_law0_r24, w ∈ lw_tbl := fun w h => (goodIn_p wsL_law0_r24 [785, 222, 789, 226, 230, 234] (by decide +kernel) (by decide +kernel) w h).1
set_option maxRecDepth 20000 in
theorem wsL_law0_r25_in : ∀ w ∈ wsL_law0_r25, w ∈ lw_tbl := fun w h => (goodIn_p wsL_law0_r25 [793] (by decide +kernel) (by decide +kernel) w h).1
set_option maxRecDepth 20000 in
theorem wsX20_in0 : ∀ w ∈ wsX20, w ∈ lw_tbl := fun w h => (goodIn_p wsX20 [] (by decide +kernel) (by decide +kernel) w h).1
set_option maxRecDepth 20000 in
theorem wsX30_in0 : ∀ w ∈ wsX30, w ∈ lw_tbl := fun w h => (goodIn_p wsX30 [] (by decide +kernel) (by decide +kernel) w h).1
set_option maxRecDepth 20000 in
theorem wsX10_in0 : ∀ w ∈ wsX10, w ∈ lw_tbl := fun w h => (goodIn_p wsX10 [] (by decide +kernel) (by decide +kernel) w h).1
set_option maxRecDepth 20000 in
theorem wsX00_in0 : ∀ w ∈ wsX00, w ∈ lw_tbl := fun w h => (goodIn_p wsX00 [] (by decide +kernel) (by decide +kernel) w h).1
theorem wsL_law_in0 : ∀ w ∈ wsL_law0, w ∈ lw_tbl := (List.forall_mem_append.mpr ⟨(List.forall_mem_append.mpr ⟨(List.forall_mem_append.mpr ⟨(List.forall_mem_append.mpr ⟨(List.forall_mem_append.mpr ⟨(List.forall_mem_append.mpr ⟨wsL_law0_r1_in, (List.forall_mem_append.mpr ⟨wsL_law0_r2_in, (List.forall_mem_append.mpr ⟨wsL_law0_r3_in, (List.forall_mem_append.mpr ⟨wsL_law0_r4_in, (List.forall_mem_append.mpr ⟨wsL_law0_r5_in, (List.forall_mem_append.mpr ⟨wsL_law0_r6_in, (List.forall_mem_append.mpr ⟨wsL_law0_r7_in, (List.forall_mem_append.mpr ⟨wsL_law0_r8_in, (List.forall_mem_append.mpr ⟨wsL_law0_r9_in, (List.forall_mem_append.mpr ⟨wsL_law0_r10_in, (List.forall_mem_append.mpr ⟨wsL_law0_r11_in, (List.forall_mem_append.mpr ⟨wsL_law0_r12_in, (List.forall_mem_append.mpr ⟨wsL_law0_r13_in, (List.forall_mem_append.mpr ⟨wsL_law0_r14_in, (List.forall_mem_append.mpr ⟨wsL_law0_r15_in, (List.forall_mem_append.mpr ⟨wsL_law0_r16_in, (List.forall_mem_append.mpr ⟨wsL_law0_r17_in, (List.forall_mem_append.mpr ⟨wsL_law0_r18_in, (List.forall_mem_append.mpr ⟨wsL_law0_r19_in, (List.forall_mem_append.mpr ⟨wsL_law0_r20_in, (List.forall_mem_append.mpr ⟨wsL_law0_r21_in, (List.forall_mem_append.mpr ⟨wsL_law0_r22_in, (List.forall_mem_append.mpr ⟨wsL_law0_r23_in, (List.forall_mem_append.mpr ⟨wsL_law0_r24_in, wsL_law0_r25_in⟩)⟩)⟩)⟩)⟩)⟩)⟩)⟩)⟩)⟩)⟩)⟩)⟩)⟩)⟩)⟩)⟩)⟩)⟩)⟩)⟩)⟩)⟩)⟩), wsX20_in0⟩), wsX30_in0⟩), wsX10_in0⟩), wsX00_in0⟩), fun _ h => absurd h List.not_mem_nil⟩)
theorem wsL_law_x0 : ∀ w ∈ (vx_atS RX2 51 "java/lang/IllegalArgumentException" ["java/lang/RuntimeException", "java/lang/Exception"]).filter goodWord, w ∈ lw_tbl := by decide +kernel
theorem wsL_law_x1 : ∀ w ∈ (vx_atS RX2 58 "java/lang/IllegalStateException" ["java/lang/RuntimeException", "java/lang/Exception"]).filter goodWord, w ∈ lw_tbl := by decide +kernel
theorem wsL_law_x2 : ∀ w ∈ (vx_atS RX2 72 "java/lang/IndexOutOfBoundsException" ["java/lang/RuntimeException", "java/lang/Exception"]).filter goodWord, w ∈ lw_tbl := by decide +kernel
theorem wsL_law_in : ∀ w ∈ wsL_law, w ∈ lw_tbl := fun w h => (List.mem_append.mp h).elim (fun h => (List.mem_append.mp h).elim (fun h => (List.mem_append.mp h).elim (fun h => wsL_law_in0 w h) (fun h => wsL_law_x0 w h)) (fun h => wsL_law_x1 w h)) (fun h => wsL_law_x2 w h)
theorem inlX0 : ∀ w ∈ wsX00, w ∈ wsL_law := fun _ h => List.mem_append_left _ (List.mem_append_left _ (List.mem_append_left _ (List.mem_append_left _ (List.mem_append_right _ h))))
theorem inX0 : ∀ w ∈ wsX00, w ∈ lw_tbl := fun w h => wsL_law_in w (inlX0 w h)
theorem inlX1 : ∀ w ∈ wsX10, w ∈ wsL_law := fun _ h => List.mem_append_left _ (List.mem_append_left _ (List.mem_append_left _ (List.mem_append_left _ (List.mem_append_left _ (List.mem_append_right _ h)))))
theorem inX1 : ∀ w ∈ wsX10, w ∈ lw_tbl := fun w h => wsL_law_in w (inlX1 w h)
theorem inlX2 : ∀ w ∈ wsX20, w ∈ wsL_law := fun _ h => List.mem_append_left _ (List.mem_append_left _ (List.mem_append_left _ (List.mem_append_left _ (List.mem_append_left _ (List.mem_append_left _ (List.mem_append_left _ (List.mem_append_right _ h)))))))
theorem inX2 : ∀ w ∈ wsX20, w ∈ lw_tbl := fun w h => wsL_law_in w (inlX2 w h)
theorem inlX3 : ∀ w ∈ wsX30, w ∈ wsL_law := fun _ h => List.mem_append_left _ (List.mem_append_left _ (List.mem_append_left _ (List.mem_append_left _ (List.mem_append_left _ (List.mem_append_left _ (List.mem_append_right _ h))))))
theorem inX3 : ∀ w ∈ wsX30, w ∈ lw_tbl := fun w h => wsL_law_in w (inlX3 w h)
theorem inJ9 : ∀ w ∈ wsJ90, w ∈ lw_tbl := by decide +kernel
theorem inJ0 : ∀ w ∈ wsJ00, w ∈ lw_tbl := by decide +kernel
theorem inJ10 : ∀ w ∈ wsJ100, w ∈ lw_tbl := by decide +kernel
end
section
theorem dX0_init_0 : decode cX0_init 0 = .ok (.aload_n 0, 1) := by decide +kernel
theorem dX0_init_1 : decode cX0_init 1 = .ok (.invokespecial 3, 3) := by decide +kernel
theorem dX0_init_4 : decode cX0_init 4 = .ok (.aload_n 0, 1) := by decide +kernel
theorem dX0_init_5 : decode cX0_init 5 = .ok (.iconst 0, 1) := by decide +kernel
theorem dX0_init_6 : decode cX0_init 6 = .ok (.putfield 9, 3) := by decide +kernel
theorem dX0_init_9 : decode cX0_init 9 = .ok (.aload_n 0, 1) := by decide +kernel
theorem dX0_init_10 : decode cX0_init 10 = .ok (.aconst_null, 1) := by decide +kernel
theorem dX0_init_11 : decode cX0_init 11 = .ok (.putfield 15, 3) := by decide +kernel
theorem dX0_init_14 : decode cX0_init 14 = .ok (.aload_n 0, 1) := by decide +kernel
theorem dX0_init_15 : decode cX0_init 15 = .ok (.iconst 0, 1) := by decide +kernel
theorem dX0_init_16 : decode cX0_init 16 = .ok (.putfield 19, 3) := by decide +kernel
theorem dX0_init_19 : decode cX0_init 19 = .ok (.aload_n 0, 1) := by decide +kernel
theorem dX0_init_20 : decode cX0_init 20 = .ok (.iload_n 1, 1) := by decide +kernel
theorem dX0_init_21 : decode cX0_init 21 = .ok (.putfield 23, 3) := by decide +kernel
theorem dX0_init_24 : decode cX0_init 24 = .ok (.aload_n 0, 1) := by decide +kernel
theorem dX0_init_25 : decode cX0_init 25 = .ok (.iload_n 2, 1) := by decide +kernel
theorem dX0_init_26 : decode cX0_init 26 = .ok (.putfield 26, 3) := by decide +kernel
theorem dX0_init_29 : decode cX0_init 29 = .ok (.aload_n 0, 1) := by decide +kernel
theorem dX0_init_30 : decode cX0_init 30 = .ok (.iload_n 3, 1) := by decide +kernel
theorem dX0_init_31 : decode cX0_init 31 = .ok (.putfield 29, 3) := by decide +kernel
theorem dX0_init_34 : decode cX0_init 34 = .ok (.aload_n 0, 1) := by decide +kernel
theorem dX0_init_35 : decode cX0_init 35 = .ok (.iload 4, 2) := by decide +kernel
theorem dX0_init_37 : decode cX0_init 37 = .ok (.putfield 32, 3) := by decide +kernel
theorem dX0_init_40 : decode cX0_init 40 = .ok (.aload_n 0, 1) := by decide +kernel
theorem dX0_init_41 : decode cX0_init 41 = .ok (.iload 5, 2) := by decide +kernel
theorem dX0_init_43 : decode cX0_init 43 = .ok (.putfield 35, 3) := by decide +kernel
theorem dX0_init_46 : decode cX0_init 46 = .ok (.return_, 1) := by decide +kernel
set_option maxRecDepth 20000 in
theorem ggX0_tell_X0_state : GoodIn wsX0_tell wsX0_state := goodIn_r _ [9, 10, 11, 12, 13, 14, 15, 16, 17, 18, 19] (by decide +kernel) (by decide +kernel)
set_option maxRecDepth 20000 in
theorem gX0_tell_X0_state : GoodIn wsX0_tell (wsV RX0 38 RX0 yX0_state wsX0_state) := goodIn_app (goodIn_of _ (by decide +kernel)) ggX0_tell_X0_state
theorem dX0_tell_0 : decode cX0_tell 0 = .ok (.iload_n 1, 1) := by decide +kernel
theorem dX0_tell_1 : decode cX0_tell 1 = .ok (.tableswitch 51 0 3 #[31, 36, 41, 46], 31) := by decide +kernel
theorem dX0_tell_32 : decode cX0_tell 32 = .ok (.aload_n 0, 1) := by decide +kernel
theorem dX0_tell_33 : decode cX0_tell 33 = .ok (.getfield 26, 3) := by decide +kernel
theorem dX0_tell_36 : decode cX0_tell 36 = .ok (.ireturn, 1) := by decide +kernel
theorem dX0_tell_37 : decode cX0_tell 37 = .ok (.aload_n 0, 1) := by decide +kernel
theorem dX0_tell_38 : decode cX0_tell 38 = .ok (.getfield 29, 3) := by decide +kernel
theorem dX0_tell_41 : decode cX0_tell 41 = .ok (.ireturn, 1) := by decide +kernel
theorem dX0_tell_42 : decode cX0_tell 42 = .ok (.aload_n 0, 1) := by decide +kernel
theorem dX0_tell_43 : decode cX0_tell 43 = .ok (.getfield 32, 3) := by decide +kernel
theorem dX0_tell_46 : decode cX0_tell 46 = .ok (.ireturn, 1) := by decide +kernel
theorem dX0_tell_47 : decode cX0_tell 47 = .ok (.aload_n 0, 1) := by decide +kernel
theorem dX0_tell_48 : decode cX0_tell 48 = .ok (.getfield 35, 3) := by decide +kernel
theorem dX0_tell_51 : decode cX0_tell 51 = .ok (.ireturn, 1) := by decide +kernel
theorem dX0_tell_52 : decode cX0_tell 52 = .ok (.aload_n 0, 1) := by decide +kernel
theorem dX0_tell_53 : decode cX0_tell 53 = .ok (.invokevirtual 38, 3) := by decide +kernel
theorem dX0_tell_56 : decode cX0_tell 56 = .ok (.ireturn, 1) := by decide +kernel
theorem dX0_state_0 : decode cX0_state 0 = .ok (.aload_n 0, 1) := by decide +kernel
theorem dX0_state_1 : decode cX0_state 1 = .ok (.getfield 9, 3) := by decide +kernel
theorem dX0_state_4 : decode cX0_state 4 = .ok (.ifCond .eq 5, 3) := by decide +kernel
theorem dX0_state_7 : decode cX0_state 7 = .ok (.iconst 2, 1) := by decide +kernel
theorem dX0_state_8 : decode cX0_state 8 = .ok (.ireturn, 1) := by decide +kernel
theorem dX0_state_9 : decode cX0_state 9 = .ok (.aload_n 0, 1) := by decide +kernel
theorem dX0_state_10 : decode cX0_state 10 = .ok (.getfield 15, 3) := by decide +kernel
theorem dX0_state_13 : decode cX0_state 13 = .ok (.ifnull 7, 3) := by decide +kernel
theorem dX0_state_16 : decode cX0_state 16 = .ok (.iconst 1, 1) := by decide +kernel
theorem dX0_state_17 : decode cX0_state 17 = .ok (.goto 4, 3) := by decide +kernel
theorem dX0_state_20 : decode cX0_state 20 = .ok (.iconst 0, 1) := by decide +kernel
theorem dX0_state_21 : decode cX0_state 21 = .ok (.ireturn, 1) := by decide +kernel
set_option maxRecDepth 20000 in
theorem ggX0_waitsAt_X0_state : GoodIn wsX0_waitsAt wsX0_state := goodIn_r _ [6, 7, 8, 9, 10, 11, 12, 13, 14, 15, 16] (by decide +kernel) (by decide +kernel)
set_option maxRecDepth 20000 in
theorem gX0_waitsAt_X0_state : GoodIn wsX0_waitsAt (wsV RX0 38 RX0 yX0_state wsX0_state) := goodIn_app (goodIn_of _ (by decide +kernel)) ggX0_waitsAt_X0_state
theorem dX0_waitsAt_0 : decode cX0_waitsAt 0 = .ok (.aload_n 0, 1) := by decide +kernel
theorem dX0_waitsAt_1 : decode cX0_waitsAt 1 = .ok (.invokevirtual 38, 3) := by decide +kernel
theorem dX0_waitsAt_4 : decode cX0_waitsAt 4 = .ok (.ifCond .ne 15, 3) := by decide +kernel
theorem dX0_waitsAt_7 : decode cX0_waitsAt 7 = .ok (.aload_n 0, 1) := by decide +kernel
theorem dX0_waitsAt_8 : decode cX0_waitsAt 8 = .ok (.getfield 29, 3) := by decide +kernel
theorem dX0_waitsAt_11 : decode cX0_waitsAt 11 = .ok (.iload_n 1, 1) := by decide +kernel
theorem dX0_waitsAt_12 : decode cX0_waitsAt 12 = .ok (.if_icmp .ne 7, 3) := by decide +kernel
theorem dX0_waitsAt_15 : decode cX0_waitsAt 15 = .ok (.iconst 1, 1) := by decide +kernel
theorem dX0_waitsAt_16 : decode cX0_waitsAt 16 = .ok (.goto 4, 3) := by decide +kernel
theorem dX0_waitsAt_19 : decode cX0_waitsAt 19 = .ok (.iconst 0, 1) := by decide +kernel
theorem dX0_waitsAt_20 : decode cX0_waitsAt 20 = .ok (.ireturn, 1) := by decide +kernel
theorem dX0_isDangerous_0 : decode cX0_isDangerous 0 = .ok (.aload_n 0, 1) := by decide +kernel
theorem dX0_isDangerous_1 : decode cX0_isDangerous 1 = .ok (.getfield 35, 3) := by decide +kernel
theorem dX0_isDangerous_4 : decode cX0_isDangerous 4 = .ok (.iconst 2, 1) := by decide +kernel
theorem dX0_isDangerous_5 : decode cX0_isDangerous 5 = .ok (.if_icmp .lt 7, 3) := by decide +kernel
theorem dX0_isDangerous_8 : decode cX0_isDangerous 8 = .ok (.iconst 1, 1) := by decide +kernel
theorem dX0_isDangerous_9 : decode cX0_isDangerous 9 = .ok (.goto 4, 3) := by decide +kernel
theorem dX0_isDangerous_12 : decode cX0_isDangerous 12 = .ok (.iconst 0, 1) := by decide +kernel
theorem dX0_isDangerous_13 : decode cX0_isDangerous 13 = .ok (.ireturn, 1) := by decide +kernel
theorem dX0_place_0 : decode cX0_place 0 = .ok (.aload_n 0, 1) := by decide +kernel
theorem dX0_place_1 : decode cX0_place 1 = .ok (.getfield 15, 3) := by decide +kernel
theorem dX0_place_4 : decode cX0_place 4 = .ok (.ifnonnull 7, 3) := by decide +kernel
theorem dX0_place_7 : decode cX0_place 7 = .ok (.iconst (-1), 1) := by decide +kernel
theorem dX0_place_8 : decode cX0_place 8 = .ok (.goto 29, 3) := by decide +kernel
theorem dX0_place_11 : decode cX0_place 11 = .ok (.bipush 100, 2) := by decide +kernel
theorem dX0_place_13 : decode cX0_place 13 = .ok (.aload_n 0, 1) := by decide +kernel
theorem dX0_place_14 : decode cX0_place 14 = .ok (.getfield 15, 3) := by decide +kernel
theorem dX0_place_17 : decode cX0_place 17 = .ok (.getfield 42, 3) := by decide +kernel
theorem dX0_place_20 : decode cX0_place 20 = .ok (.imul, 1) := by decide +kernel
theorem dX0_place_21 : decode cX0_place 21 = .ok (.bipush 10, 2) := by decide +kernel
theorem dX0_place_23 : decode cX0_place 23 = .ok (.aload_n 0, 1) := by decide +kernel
theorem dX0_place_24 : decode cX0_place 24 = .ok (.getfield 15, 3) := by decide +kernel
theorem dX0_place_27 : decode cX0_place 27 = .ok (.getfield 47, 3) := by decide +kernel
theorem dX0_place_30 : decode cX0_place 30 = .ok (.imul, 1) := by decide +kernel
theorem dX0_place_31 : decode cX0_place 31 = .ok (.iadd, 1) := by decide +kernel
theorem dX0_place_32 : decode cX0_place 32 = .ok (.aload_n 0, 1) := by decide +kernel
theorem dX0_place_33 : decode cX0_place 33 = .ok (.getfield 19, 3) := by decide +kernel
theorem dX0_place_36 : decode cX0_place 36 = .ok (.iadd, 1) := by decide +kernel
theorem dX0_place_37 : decode cX0_place 37 = .ok (.ireturn, 1) := by decide +kernel
set_option maxRecDepth 20000 in
theorem ggX0_isBlocked_X1_hasLaterAbove : GoodIn wsX0_isBlocked wsX1_hasLaterAbove := goodIn_r _ [8, 9, 10, 11, 20, 21, 22, 23, 24, 12, 13, 14, 15, 16, 17, 18, 19] (by decide +kernel) (by decide +kernel)
set_option maxRecDepth 20000 in
theorem gX0_isBlocked_X1_hasLaterAbove : GoodIn wsX0_isBlocked (wsV RX0 50 RX1 yX1_hasLaterAbove wsX1_hasLaterAbove) := goodIn_app (goodIn_of _ (by decide +kernel)) ggX0_isBlocked_X1_hasLaterAbove
theorem dX0_isBlocked_0 : decode cX0_isBlocked 0 = .ok (.aload_n 0, 1) := by decide +kernel
theorem dX0_isBlocked_1 : decode cX0_isBlocked 1 = .ok (.getfield 15, 3) := by decide +kernel
theorem dX0_isBlocked_4 : decode cX0_isBlocked 4 = .ok (.ifnull 25, 3) := by decide +kernel
theorem dX0_isBlocked_7 : decode cX0_isBlocked 7 = .ok (.aload_n 0, 1) := by decide +kernel
theorem dX0_isBlocked_8 : decode cX0_isBlocked 8 = .ok (.getfield 15, 3) := by decide +kernel
theorem dX0_isBlocked_11 : decode cX0_isBlocked 11 = .ok (.aload_n 0, 1) := by decide +kernel
theorem dX0_isBlocked_12 : decode cX0_isBlocked 12 = .ok (.getfield 19, 3) := by decide +kernel
theorem dX0_isBlocked_15 : decode cX0_isBlocked 15 = .ok (.aload_n 0, 1) := by decide +kernel
theorem dX0_isBlocked_16 : decode cX0_isBlocked 16 = .ok (.getfield 32, 3) := by decide +kernel
theorem dX0_isBlocked_19 : decode cX0_isBlocked 19 = .ok (.invokevirtual 50, 3) := by decide +kernel
theorem dX0_isBlocked_22 : decode cX0_isBlocked 22 = .ok (.ifCond .eq 7, 3) := by decide +kernel
theorem dX0_isBlocked_25 : decode cX0_isBlocked 25 = .ok (.iconst 1, 1) := by decide +kernel
theorem dX0_isBlocked_26 : decode cX0_isBlocked 26 = .ok (.goto 4, 3) := by decide +kernel
theorem dX0_isBlocked_29 : decode cX0_isBlocked 29 = .ok (.iconst 0, 1) := by decide +kernel
theorem dX0_isBlocked_30 : decode cX0_isBlocked 30 = .ok (.ireturn, 1) := by decide +kernel
theorem dX0_goesBefore_0 : decode cX0_goesBefore 0 = .ok (.aload_n 0, 1) := by decide +kernel
theorem dX0_goesBefore_1 : decode cX0_goesBefore 1 = .ok (.getfield 32, 3) := by decide +kernel
theorem dX0_goesBefore_4 : decode cX0_goesBefore 4 = .ok (.aload_n 1, 1) := by decide +kernel
theorem dX0_goesBefore_5 : decode cX0_goesBefore 5 = .ok (.getfield 32, 3) := by decide +kernel
theorem dX0_goesBefore_8 : decode cX0_goesBefore 8 = .ok (.if_icmp .gt 25, 3) := by decide +kernel
theorem dX0_goesBefore_11 : decode cX0_goesBefore 11 = .ok (.aload_n 0, 1) := by decide +kernel
theorem dX0_goesBefore_12 : decode cX0_goesBefore 12 = .ok (.getfield 32, 3) := by decide +kernel
theorem dX0_goesBefore_15 : decode cX0_goesBefore 15 = .ok (.aload_n 1, 1) := by decide +kernel
theorem dX0_goesBefore_16 : decode cX0_goesBefore 16 = .ok (.getfield 32, 3) := by decide +kernel
theorem dX0_goesBefore_19 : decode cX0_goesBefore 19 = .ok (.if_icmp .ne 18, 3) := by decide +kernel
theorem dX0_goesBefore_22 : decode cX0_goesBefore 22 = .ok (.aload_n 0, 1) := by decide +kernel
theorem dX0_goesBefore_23 : decode cX0_goesBefore 23 = .ok (.getfield 26, 3) := by decide +kernel
theorem dX0_goesBefore_26 : decode cX0_goesBefore 26 = .ok (.aload_n 1, 1) := by decide +kernel
theorem dX0_goesBefore_27 : decode cX0_goesBefore 27 = .ok (.getfield 26, 3) := by decide +kernel
theorem dX0_goesBefore_30 : decode cX0_goesBefore 30 = .ok (.if_icmp .le 7, 3) := by decide +kernel
theorem dX0_goesBefore_33 : decode cX0_goesBefore 33 = .ok (.iconst 1, 1) := by decide +kernel
theorem dX0_goesBefore_34 : decode cX0_goesBefore 34 = .ok (.goto 4, 3) := by decide +kernel
theorem dX0_goesBefore_37 : decode cX0_goesBefore 37 = .ok (.iconst 0, 1) := by decide +kernel
theorem dX0_goesBefore_38 : decode cX0_goesBefore 38 = .ok (.ireturn, 1) := by decide +kernel
theorem dX1_init_0 : decode cX1_init 0 = .ok (.aload_n 0, 1) := by decide +kernel
theorem dX1_init_1 : decode cX1_init 1 = .ok (.invokespecial 3, 3) := by decide +kernel
theorem dX1_init_4 : decode cX1_init 4 = .ok (.aload_n 0, 1) := by decide +kernel
theorem dX1_init_5 : decode cX1_init 5 = .ok (.iconst 4, 1) := by decide +kernel
theorem dX1_init_6 : decode cX1_init 6 = .ok (.anewarray 9, 3) := by decide +kernel
theorem dX1_init_9 : decode cX1_init 9 = .ok (.putfield 11, 3) := by decide +kernel
theorem dX1_init_12 : decode cX1_init 12 = .ok (.aload_n 0, 1) := by decide +kernel
theorem dX1_init_13 : decode cX1_init 13 = .ok (.iconst 0, 1) := by decide +kernel
theorem dX1_init_14 : decode cX1_init 14 = .ok (.putfield 17, 3) := by decide +kernel
theorem dX1_init_17 : decode cX1_init 17 = .ok (.aload_n 0, 1) := by decide +kernel
theorem dX1_init_18 : decode cX1_init 18 = .ok (.iload_n 1, 1) := by decide +kernel
theorem dX1_init_19 : decode cX1_init 19 = .ok (.putfield 21, 3) := by decide +kernel
theorem dX1_init_22 : decode cX1_init 22 = .ok (.aload_n 0, 1) := by decide +kernel
theorem dX1_init_23 : decode cX1_init 23 = .ok (.iload_n 2, 1) := by decide +kernel
theorem dX1_init_24 : decode cX1_init 24 = .ok (.putfield 24, 3) := by decide +kernel
theorem dX1_init_27 : decode cX1_init 27 = .ok (.aload_n 0, 1) := by decide +kernel
theorem dX1_init_28 : decode cX1_init 28 = .ok (.iload_n 3, 1) := by decide +kernel
theorem dX1_init_29 : decode cX1_init 29 = .ok (.putfield 27, 3) := by decide +kernel
theorem dX1_init_32 : decode cX1_init 32 = .ok (.return_, 1) := by decide +kernel
theorem dX1_listArm_0 : decode cX1_listArm 0 = .ok (.aload_n 0, 1) := by decide +kernel
theorem dX1_listArm_1 : decode cX1_listArm 1 = .ok (.getfield 24, 3) := by decide +kernel
theorem dX1_listArm_4 : decode cX1_listArm 4 = .ok (.iconst 2, 1) := by decide +kernel
theorem dX1_listArm_5 : decode cX1_listArm 5 = .ok (.isub, 1) := by decide +kernel
theorem dX1_listArm_6 : decode cX1_listArm 6 = .ok (.ireturn, 1) := by decide +kernel
theorem dX1_trimArm_0 : decode cX1_trimArm 0 = .ok (.iconst 2, 1) := by decide +kernel
theorem dX1_trimArm_1 : decode cX1_trimArm 1 = .ok (.aload_n 0, 1) := by decide +kernel
theorem dX1_trimArm_2 : decode cX1_trimArm 2 = .ok (.getfield 21, 3) := by decide +kernel
theorem dX1_trimArm_5 : decode cX1_trimArm 5 = .ok (.imul, 1) := by decide +kernel
theorem dX1_trimArm_6 : decode cX1_trimArm 6 = .ok (.iconst 5, 1) := by decide +kernel
theorem dX1_trimArm_7 : decode cX1_trimArm 7 = .ok (.isub, 1) := by decide +kernel
theorem dX1_trimArm_8 : decode cX1_trimArm 8 = .ok (.ireturn, 1) := by decide +kernel
theorem dX1_isApartFrom_0 : decode cX1_isApartFrom 0 = .ok (.aload_n 0, 1) := by decide +kernel
theorem dX1_isApartFrom_1 : decode cX1_isApartFrom 1 = .ok (.getfield 21, 3) := by decide +kernel
theorem dX1_isApartFrom_4 : decode cX1_isApartFrom 4 = .ok (.aload_n 1, 1) := by decide +kernel
theorem dX1_isApartFrom_5 : decode cX1_isApartFrom 5 = .ok (.getfield 21, 3) := by decide +kernel
theorem dX1_isApartFrom_8 : decode cX1_isApartFrom 8 = .ok (.isub, 1) := by decide +kernel
theorem dX1_isApartFrom_9 : decode cX1_isApartFrom 9 = .ok (.invokestatic 31, 3) := by decide +kernel
theorem dX1_isApartFrom_12 : decode cX1_isApartFrom 12 = .ok (.istore_n 2, 1) := by decide +kernel
theorem dX1_isApartFrom_13 : decode cX1_isApartFrom 13 = .ok (.iload_n 2, 1) := by decide +kernel
theorem dX1_isApartFrom_14 : decode cX1_isApartFrom 14 = .ok (.iconst 2, 1) := by decide +kernel
theorem dX1_isApartFrom_15 : decode cX1_isApartFrom 15 = .ok (.if_icmp .ge 24, 3) := by decide +kernel
theorem dX1_isApartFrom_18 : decode cX1_isApartFrom 18 = .ok (.iload_n 2, 1) := by decide +kernel
theorem dX1_isApartFrom_19 : decode cX1_isApartFrom 19 = .ok (.iconst 1, 1) := by decide +kernel
theorem dX1_isApartFrom_20 : decode cX1_isApartFrom 20 = .ok (.if_icmp .ne 23, 3) := by decide +kernel
theorem dX1_isApartFrom_23 : decode cX1_isApartFrom 23 = .ok (.aload_n 0, 1) := by decide +kernel
theorem dX1_isApartFrom_24 : decode cX1_isApartFrom 24 = .ok (.getfield 24, 3) := by decide +kernel
theorem dX1_isApartFrom_27 : decode cX1_isApartFrom 27 = .ok (.aload_n 1, 1) := by decide +kernel
theorem dX1_isApartFrom_28 : decode cX1_isApartFrom 28 = .ok (.getfield 24, 3) := by decide +kernel
theorem dX1_isApartFrom_31 : decode cX1_isApartFrom 31 = .ok (.isub, 1) := by decide +kernel
theorem dX1_isApartFrom_32 : decode cX1_isApartFrom 32 = .ok (.invokestatic 31, 3) := by decide +kernel
theorem dX1_isApartFrom_35 : decode cX1_isApartFrom 35 = .ok (.iconst 2, 1) := by decide +kernel
theorem dX1_isApartFrom_36 : decode cX1_isApartFrom 36 = .ok (.if_icmp .lt 7, 3) := by decide +kernel
theorem dX1_isApartFrom_39 : decode cX1_isApartFrom 39 = .ok (.iconst 1, 1) := by decide +kernel
theorem dX1_isApartFrom_40 : decode cX1_isApartFrom 40 = .ok (.goto 4, 3) := by decide +kernel
theorem dX1_isApartFrom_43 : decode cX1_isApartFrom 43 = .ok (.iconst 0, 1) := by decide +kernel
theorem dX1_isApartFrom_44 : decode cX1_isApartFrom 44 = .ok (.ireturn, 1) := by decide +kernel
theorem dX1_hasPowerOnNextTier_0 : decode cX1_hasPowerOnNextTier 0 = .ok (.aload_n 0, 1) := by decide +kernel
theorem dX1_hasPowerOnNextTier_1 : decode cX1_hasPowerOnNextTier 1 = .ok (.getfield 27, 3) := by decide +kernel
theorem dX1_hasPowerOnNextTier_4 : decode cX1_hasPowerOnNextTier 4 = .ok (.ifCond .eq 15, 3) := by decide +kernel
theorem dX1_hasPowerOnNextTier_7 : decode cX1_hasPowerOnNextTier 7 = .ok (.aload_n 0, 1) := by decide +kernel
theorem dX1_hasPowerOnNextTier_8 : decode cX1_hasPowerOnNextTier 8 = .ok (.getfield 17, 3) := by decide +kernel
theorem dX1_hasPowerOnNextTier_11 : decode cX1_hasPowerOnNextTier 11 = .ok (.iconst 2, 1) := by decide +kernel
theorem dX1_hasPowerOnNextTier_12 : decode cX1_hasPowerOnNextTier 12 = .ok (.if_icmp .ge 7, 3) := by decide +kernel
theorem dX1_hasPowerOnNextTier_15 : decode cX1_hasPowerOnNextTier 15 = .ok (.iconst 1, 1) := by decide +kernel
theorem dX1_hasPowerOnNextTier_16 : decode cX1_hasPowerOnNextTier 16 = .ok (.goto 4, 3) := by decide +kernel
theorem dX1_hasPowerOnNextTier_19 : decode cX1_hasPowerOnNextTier 19 = .ok (.iconst 0, 1) := by decide +kernel
theorem dX1_hasPowerOnNextTier_20 : decode cX1_hasPowerOnNextTier 20 = .ok (.ireturn, 1) := by decide +kernel
theorem dX1_onTier_0 : decode cX1_onTier 0 = .ok (.iload_n 1, 1) := by decide +kernel
theorem dX1_onTier_1 : decode cX1_onTier 1 = .ok (.ifCond .lt 12, 3) := by decide +kernel
theorem dX1_onTier_4 : decode cX1_onTier 4 = .ok (.iload_n 1, 1) := by decide +kernel
theorem dX1_onTier_5 : decode cX1_onTier 5 = .ok (.aload_n 0, 1) := by decide +kernel
theorem dX1_onTier_6 : decode cX1_onTier 6 = .ok (.getfield 11, 3) := by decide +kernel
theorem dX1_onTier_9 : decode cX1_onTier 9 = .ok (.arraylength, 1) := by decide +kernel
theorem dX1_onTier_10 : decode cX1_onTier 10 = .ok (.if_icmp .lt 5, 3) := by decide +kernel
theorem dX1_onTier_13 : decode cX1_onTier 13 = .ok (.aconst_null, 1) := by decide +kernel
theorem dX1_onTier_14 : decode cX1_onTier 14 = .ok (.areturn, 1) := by decide +kernel
theorem dX1_onTier_15 : decode cX1_onTier 15 = .ok (.aload_n 0, 1) := by decide +kernel
theorem dX1_onTier_16 : decode cX1_onTier 16 = .ok (.getfield 11, 3) := by decide +kernel
theorem dX1_onTier_19 : decode cX1_onTier 19 = .ok (.iload_n 1, 1) := by decide +kernel
theorem dX1_onTier_20 : decode cX1_onTier 20 = .ok (.aaload, 1) := by decide +kernel
theorem dX1_onTier_21 : decode cX1_onTier 21 = .ok (.areturn, 1) := by decide +kernel
set_option maxRecDepth 20000 in
theorem ggX1_top_X1_onTier : GoodIn wsX1_top wsX1_onTier := goodIn_r _ [6, 7, 8, 9, 10, 11, 12] (by decide +kernel) (by decide +kernel)
set_option maxRecDepth 20000 in
theorem gX1_top_X1_onTier : GoodIn wsX1_top (wsV RX1 37 RX1 yX1_onTier wsX1_onTier) := goodIn_app (goodIn_of _ (by decide +kernel)) ggX1_top_X1_onTier
theorem dX1_top_0 : decode cX1_top 0 = .ok (.aload_n 0, 1) := by decide +kernel
theorem dX1_top_1 : decode cX1_top 1 = .ok (.aload_n 0, 1) := by decide +kernel
theorem dX1_top_2 : decode cX1_top 2 = .ok (.getfield 17, 3) := by decide +kernel
theorem dX1_top_5 : decode cX1_top 5 = .ok (.iconst 1, 1) := by decide +kernel
theorem dX1_top_6 : decode cX1_top 6 = .ok (.isub, 1) := by decide +kernel
theorem dX1_top_7 : decode cX1_top 7 = .ok (.invokevirtual 37, 3) := by decide +kernel
theorem dX1_top_10 : decode cX1_top 10 = .ok (.areturn, 1) := by decide +kernel
theorem dX1_push_0 : decode cX1_push 0 = .ok (.aload_n 1, 1) := by decide +kernel
theorem dX1_push_1 : decode cX1_push 1 = .ok (.ifnull 22, 3) := by decide +kernel
theorem dX1_push_4 : decode cX1_push 4 = .ok (.aload_n 0, 1) := by decide +kernel
theorem dX1_push_5 : decode cX1_push 5 = .ok (.getfield 17, 3) := by decide +kernel
theorem dX1_push_8 : decode cX1_push 8 = .ok (.ifCond .lt 15, 3) := by decide +kernel
theorem dX1_push_11 : decode cX1_push 11 = .ok (.aload_n 0, 1) := by decide +kernel
theorem dX1_push_12 : decode cX1_push 12 = .ok (.getfield 17, 3) := by decide +kernel
theorem dX1_push_15 : decode cX1_push 15 = .ok (.aload_n 0, 1) := by decide +kernel
theorem dX1_push_16 : decode cX1_push 16 = .ok (.getfield 11, 3) := by decide +kernel
theorem dX1_push_19 : decode cX1_push 19 = .ok (.arraylength, 1) := by decide +kernel
theorem dX1_push_20 : decode cX1_push 20 = .ok (.if_icmp .lt 4, 3) := by decide +kernel
theorem dX1_push_23 : decode cX1_push 23 = .ok (.return_, 1) := by decide +kernel
theorem dX1_push_24 : decode cX1_push 24 = .ok (.aload_n 0, 1) := by decide +kernel
theorem dX1_push_25 : decode cX1_push 25 = .ok (.getfield 11, 3) := by decide +kernel
theorem dX1_push_28 : decode cX1_push 28 = .ok (.aload_n 0, 1) := by decide +kernel
theorem dX1_push_29 : decode cX1_push 29 = .ok (.getfield 17, 3) := by decide +kernel
theorem dX1_push_32 : decode cX1_push 32 = .ok (.aload_n 1, 1) := by decide +kernel
theorem dX1_push_33 : decode cX1_push 33 = .ok (.aastore, 1) := by decide +kernel
theorem dX1_push_34 : decode cX1_push 34 = .ok (.aload_n 1, 1) := by decide +kernel
theorem dX1_push_35 : decode cX1_push 35 = .ok (.aload_n 0, 1) := by decide +kernel
theorem dX1_push_36 : decode cX1_push 36 = .ok (.putfield 41, 3) := by decide +kernel
theorem dX1_push_39 : decode cX1_push 39 = .ok (.aload_n 1, 1) := by decide +kernel
theorem dX1_push_40 : decode cX1_push 40 = .ok (.aload_n 0, 1) := by decide +kernel
theorem dX1_push_41 : decode cX1_push 41 = .ok (.getfield 17, 3) := by decide +kernel
theorem dX1_push_44 : decode cX1_push 44 = .ok (.putfield 45, 3) := by decide +kernel
theorem dX1_push_47 : decode cX1_push 47 = .ok (.aload_n 0, 1) := by decide +kernel
theorem dX1_push_48 : decode cX1_push 48 = .ok (.dup, 1) := by decide +kernel
theorem dX1_push_49 : decode cX1_push 49 = .ok (.getfield 17, 3) := by decide +kernel
theorem dX1_push_52 : decode cX1_push 52 = .ok (.iconst 1, 1) := by decide +kernel
theorem dX1_push_53 : decode cX1_push 53 = .ok (.iadd, 1) := by decide +kernel
theorem dX1_push_54 : decode cX1_push 54 = .ok (.putfield 17, 3) := by decide +kernel
theorem dX1_push_57 : decode cX1_push 57 = .ok (.return_, 1) := by decide +kernel
set_option maxRecDepth 20000 in
theorem ggX1_dropTop_X1_onTier : GoodIn wsX1_dropTop wsX1_onTier := goodIn_r _ [8, 2, 9, 10, 11, 12, 13] (by decide +kernel) (by decide +kernel)
set_option maxRecDepth 20000 in
theorem gX1_dropTop_X1_onTier : GoodIn wsX1_dropTop (wsV RX1 37 RX1 yX1_onTier wsX1_onTier) := goodIn_app (goodIn_of _ (by decide +kernel)) ggX1_dropTop_X1_onTier
theorem dX1_dropTop_0 : decode cX1_dropTop 0 = .ok (.aload_n 0, 1) := by decide +kernel
theorem dX1_dropTop_1 : decode cX1_dropTop 1 = .ok (.getfield 17, 3) := by decide +kernel
theorem dX1_dropTop_4 : decode cX1_dropTop 4 = .ok (.iconst 1, 1) := by decide +kernel
theorem dX1_dropTop_5 : decode cX1_dropTop 5 = .ok (.isub, 1) := by decide +kernel
theorem dX1_dropTop_6 : decode cX1_dropTop 6 = .ok (.istore_n 1, 1) := by decide +kernel
theorem dX1_dropTop_7 : decode cX1_dropTop 7 = .ok (.aload_n 0, 1) := by decide +kernel
theorem dX1_dropTop_8 : decode cX1_dropTop 8 = .ok (.iload_n 1, 1) := by decide +kernel
theorem dX1_dropTop_9 : decode cX1_dropTop 9 = .ok (.invokevirtual 37, 3) := by decide +kernel
theorem dX1_dropTop_12 : decode cX1_dropTop 12 = .ok (.astore_n 2, 1) := by decide +kernel
theorem dX1_dropTop_13 : decode cX1_dropTop 13 = .ok (.aload_n 2, 1) := by decide +kernel
theorem dX1_dropTop_14 : decode cX1_dropTop 14 = .ok (.ifnull 16, 3) := by decide +kernel
theorem dX1_dropTop_17 : decode cX1_dropTop 17 = .ok (.iload_n 1, 1) := by decide +kernel
theorem dX1_dropTop_18 : decode cX1_dropTop 18 = .ok (.ifCond .lt 12, 3) := by decide +kernel
theorem dX1_dropTop_21 : decode cX1_dropTop 21 = .ok (.iload_n 1, 1) := by decide +kernel
theorem dX1_dropTop_22 : decode cX1_dropTop 22 = .ok (.aload_n 0, 1) := by decide +kernel
theorem dX1_dropTop_23 : decode cX1_dropTop 23 = .ok (.getfield 11, 3) := by decide +kernel
theorem dX1_dropTop_26 : decode cX1_dropTop 26 = .ok (.arraylength, 1) := by decide +kernel
theorem dX1_dropTop_27 : decode cX1_dropTop 27 = .ok (.if_icmp .lt 4, 3) := by decide +kernel
theorem dX1_dropTop_30 : decode cX1_dropTop 30 = .ok (.return_, 1) := by decide +kernel
theorem dX1_dropTop_31 : decode cX1_dropTop 31 = .ok (.aload_n 0, 1) := by decide +kernel
theorem dX1_dropTop_32 : decode cX1_dropTop 32 = .ok (.getfield 11, 3) := by decide +kernel
theorem dX1_dropTop_35 : decode cX1_dropTop 35 = .ok (.iload_n 1, 1) := by decide +kernel
theorem dX1_dropTop_36 : decode cX1_dropTop 36 = .ok (.aconst_null, 1) := by decide +kernel
theorem dX1_dropTop_37 : decode cX1_dropTop 37 = .ok (.aastore, 1) := by decide +kernel
theorem dX1_dropTop_38 : decode cX1_dropTop 38 = .ok (.aload_n 2, 1) := by decide +kernel
theorem dX1_dropTop_39 : decode cX1_dropTop 39 = .ok (.aconst_null, 1) := by decide +kernel
theorem dX1_dropTop_40 : decode cX1_dropTop 40 = .ok (.putfield 41, 3) := by decide +kernel
theorem dX1_dropTop_43 : decode cX1_dropTop 43 = .ok (.aload_n 0, 1) := by decide +kernel
theorem dX1_dropTop_44 : decode cX1_dropTop 44 = .ok (.iload_n 1, 1) := by decide +kernel
theorem dX1_dropTop_45 : decode cX1_dropTop 45 = .ok (.putfield 17, 3) := by decide +kernel
theorem dX1_dropTop_48 : decode cX1_dropTop 48 = .ok (.return_, 1) := by decide +kernel
set_option maxRecDepth 20000 in
theorem ggX1_land_X1_push : GoodIn wsX1_land wsX1_push := goodIn_r _ [10, 1, 2, 4, 11, 12, 13, 14, 15, 16, 17, 18, 19, 20, 21, 22, 23, 24] (by decide +kernel) (by decide +kernel)
set_option maxRecDepth 20000 in
theorem gX1_land_X1_push : GoodIn wsX1_land (wsV RX1 54 RX1 yX1_push wsX1_push) := goodIn_app (goodIn_of _ (by decide +kernel)) ggX1_land_X1_push
theorem dX1_land_0 : decode cX1_land 0 = .ok (.aload_n 0, 1) := by decide +kernel
theorem dX1_land_1 : decode cX1_land 1 = .ok (.iconst 0, 1) := by decide +kernel
theorem dX1_land_2 : decode cX1_land 2 = .ok (.putfield 17, 3) := by decide +kernel
theorem dX1_land_5 : decode cX1_land 5 = .ok (.iconst 0, 1) := by decide +kernel
theorem dX1_land_6 : decode cX1_land 6 = .ok (.istore_n 2, 1) := by decide +kernel
theorem dX1_land_7 : decode cX1_land 7 = .ok (.iload_n 2, 1) := by decide +kernel
theorem dX1_land_8 : decode cX1_land 8 = .ok (.aload_n 0, 1) := by decide +kernel
theorem dX1_land_9 : decode cX1_land 9 = .ok (.getfield 11, 3) := by decide +kernel
theorem dX1_land_12 : decode cX1_land 12 = .ok (.arraylength, 1) := by decide +kernel
theorem dX1_land_13 : decode cX1_land 13 = .ok (.if_icmp .ge 57, 3) := by decide +kernel
theorem dX1_land_16 : decode cX1_land 16 = .ok (.aload_n 0, 1) := by decide +kernel
theorem dX1_land_17 : decode cX1_land 17 = .ok (.getfield 11, 3) := by decide +kernel
theorem dX1_land_20 : decode cX1_land 20 = .ok (.iload_n 2, 1) := by decide +kernel
theorem dX1_land_21 : decode cX1_land 21 = .ok (.aaload, 1) := by decide +kernel
theorem dX1_land_22 : decode cX1_land 22 = .ok (.astore_n 3, 1) := by decide +kernel
theorem dX1_land_23 : decode cX1_land 23 = .ok (.aload_n 0, 1) := by decide +kernel
theorem dX1_land_24 : decode cX1_land 24 = .ok (.getfield 11, 3) := by decide +kernel
theorem dX1_land_27 : decode cX1_land 27 = .ok (.iload_n 2, 1) := by decide +kernel
theorem dX1_land_28 : decode cX1_land 28 = .ok (.aconst_null, 1) := by decide +kernel
theorem dX1_land_29 : decode cX1_land 29 = .ok (.aastore, 1) := by decide +kernel
theorem dX1_land_30 : decode cX1_land 30 = .ok (.aload_n 3, 1) := by decide +kernel
theorem dX1_land_31 : decode cX1_land 31 = .ok (.ifnull 24, 3) := by decide +kernel
theorem dX1_land_34 : decode cX1_land 34 = .ok (.aload_n 3, 1) := by decide +kernel
theorem dX1_land_35 : decode cX1_land 35 = .ok (.getfield 48, 3) := by decide +kernel
theorem dX1_land_38 : decode cX1_land 38 = .ok (.iload_n 1, 1) := by decide +kernel
theorem dX1_land_39 : decode cX1_land 39 = .ok (.if_icmp .ne 16, 3) := by decide +kernel
theorem dX1_land_42 : decode cX1_land 42 = .ok (.aload_n 3, 1) := by decide +kernel
theorem dX1_land_43 : decode cX1_land 43 = .ok (.aconst_null, 1) := by decide +kernel
theorem dX1_land_44 : decode cX1_land 44 = .ok (.putfield 41, 3) := by decide +kernel
theorem dX1_land_47 : decode cX1_land 47 = .ok (.aload_n 3, 1) := by decide +kernel
theorem dX1_land_48 : decode cX1_land 48 = .ok (.iconst 1, 1) := by decide +kernel
theorem dX1_land_49 : decode cX1_land 49 = .ok (.putfield 51, 3) := by decide +kernel
theorem dX1_land_52 : decode cX1_land 52 = .ok (.goto 12, 3) := by decide +kernel
theorem dX1_land_55 : decode cX1_land 55 = .ok (.aload_n 3, 1) := by decide +kernel
theorem dX1_land_56 : decode cX1_land 56 = .ok (.ifnull 8, 3) := by decide +kernel
theorem dX1_land_59 : decode cX1_land 59 = .ok (.aload_n 0, 1) := by decide +kernel
theorem dX1_land_60 : decode cX1_land 60 = .ok (.aload_n 3, 1) := by decide +kernel
theorem dX1_land_61 : decode cX1_land 61 = .ok (.invokevirtual 54, 3) := by decide +kernel
theorem dX1_land_64 : decode cX1_land 64 = .ok (.iinc 2 1, 3) := by decide +kernel
theorem dX1_land_67 : decode cX1_land 67 = .ok (.goto (-60), 3) := by decide +kernel
theorem dX1_land_70 : decode cX1_land 70 = .ok (.return_, 1) := by decide +kernel
theorem dX1_weightSum_0 : decode cX1_weightSum 0 = .ok (.iconst 0, 1) := by decide +kernel
theorem dX1_weightSum_1 : decode cX1_weightSum 1 = .ok (.istore_n 1, 1) := by decide +kernel
theorem dX1_weightSum_2 : decode cX1_weightSum 2 = .ok (.aload_n 0, 1) := by decide +kernel
theorem dX1_weightSum_3 : decode cX1_weightSum 3 = .ok (.getfield 11, 3) := by decide +kernel
theorem dX1_weightSum_6 : decode cX1_weightSum 6 = .ok (.astore_n 2, 1) := by decide +kernel
theorem dX1_weightSum_7 : decode cX1_weightSum 7 = .ok (.aload_n 2, 1) := by decide +kernel
theorem dX1_weightSum_8 : decode cX1_weightSum 8 = .ok (.arraylength, 1) := by decide +kernel
theorem dX1_weightSum_9 : decode cX1_weightSum 9 = .ok (.istore_n 3, 1) := by decide +kernel
theorem dX1_weightSum_10 : decode cX1_weightSum 10 = .ok (.iconst 0, 1) := by decide +kernel
theorem dX1_weightSum_11 : decode cX1_weightSum 11 = .ok (.istore 4, 2) := by decide +kernel
theorem dX1_weightSum_13 : decode cX1_weightSum 13 = .ok (.iload 4, 2) := by decide +kernel
theorem dX1_weightSum_15 : decode cX1_weightSum 15 = .ok (.iload_n 3, 1) := by decide +kernel
theorem dX1_weightSum_16 : decode cX1_weightSum 16 = .ok (.if_icmp .ge 28, 3) := by decide +kernel
theorem dX1_weightSum_19 : decode cX1_weightSum 19 = .ok (.aload_n 2, 1) := by decide +kernel
theorem dX1_weightSum_20 : decode cX1_weightSum 20 = .ok (.iload 4, 2) := by decide +kernel
theorem dX1_weightSum_22 : decode cX1_weightSum 22 = .ok (.aaload, 1) := by decide +kernel
theorem dX1_weightSum_23 : decode cX1_weightSum 23 = .ok (.astore 5, 2) := by decide +kernel
theorem dX1_weightSum_25 : decode cX1_weightSum 25 = .ok (.aload 5, 2) := by decide +kernel
theorem dX1_weightSum_27 : decode cX1_weightSum 27 = .ok (.ifnull 11, 3) := by decide +kernel
theorem dX1_weightSum_30 : decode cX1_weightSum 30 = .ok (.iload_n 1, 1) := by decide +kernel
theorem dX1_weightSum_31 : decode cX1_weightSum 31 = .ok (.aload 5, 2) := by decide +kernel
theorem dX1_weightSum_33 : decode cX1_weightSum 33 = .ok (.getfield 58, 3) := by decide +kernel
theorem dX1_weightSum_36 : decode cX1_weightSum 36 = .ok (.iadd, 1) := by decide +kernel
theorem dX1_weightSum_37 : decode cX1_weightSum 37 = .ok (.istore_n 1, 1) := by decide +kernel
theorem dX1_weightSum_38 : decode cX1_weightSum 38 = .ok (.iinc 4 1, 3) := by decide +kernel
theorem dX1_weightSum_41 : decode cX1_weightSum 41 = .ok (.goto (-28), 3) := by decide +kernel
theorem dX1_weightSum_44 : decode cX1_weightSum 44 = .ok (.iload_n 1, 1) := by decide +kernel
theorem dX1_weightSum_45 : decode cX1_weightSum 45 = .ok (.ireturn, 1) := by decide +kernel
theorem dX1_hasReefer_0 : decode cX1_hasReefer 0 = .ok (.aload_n 0, 1) := by decide +kernel
theorem dX1_hasReefer_1 : decode cX1_hasReefer 1 = .ok (.getfield 11, 3) := by decide +kernel
theorem dX1_hasReefer_4 : decode cX1_hasReefer 4 = .ok (.astore_n 1, 1) := by decide +kernel
theorem dX1_hasReefer_5 : decode cX1_hasReefer 5 = .ok (.aload_n 1, 1) := by decide +kernel
theorem dX1_hasReefer_6 : decode cX1_hasReefer 6 = .ok (.arraylength, 1) := by decide +kernel
theorem dX1_hasReefer_7 : decode cX1_hasReefer 7 = .ok (.istore_n 2, 1) := by decide +kernel
theorem dX1_hasReefer_8 : decode cX1_hasReefer 8 = .ok (.iconst 0, 1) := by decide +kernel
theorem dX1_hasReefer_9 : decode cX1_hasReefer 9 = .ok (.istore_n 3, 1) := by decide +kernel
theorem dX1_hasReefer_10 : decode cX1_hasReefer 10 = .ok (.iload_n 3, 1) := by decide +kernel
theorem dX1_hasReefer_11 : decode cX1_hasReefer 11 = .ok (.iload_n 2, 1) := by decide +kernel
theorem dX1_hasReefer_12 : decode cX1_hasReefer 12 = .ok (.if_icmp .ge 30, 3) := by decide +kernel
theorem dX1_hasReefer_15 : decode cX1_hasReefer 15 = .ok (.aload_n 1, 1) := by decide +kernel
theorem dX1_hasReefer_16 : decode cX1_hasReefer 16 = .ok (.iload_n 3, 1) := by decide +kernel
theorem dX1_hasReefer_17 : decode cX1_hasReefer 17 = .ok (.aaload, 1) := by decide +kernel
theorem dX1_hasReefer_18 : decode cX1_hasReefer 18 = .ok (.astore 4, 2) := by decide +kernel
theorem dX1_hasReefer_20 : decode cX1_hasReefer 20 = .ok (.aload 4, 2) := by decide +kernel
theorem dX1_hasReefer_22 : decode cX1_hasReefer 22 = .ok (.ifnull 14, 3) := by decide +kernel
theorem dX1_hasReefer_25 : decode cX1_hasReefer 25 = .ok (.aload 4, 2) := by decide +kernel
theorem dX1_hasReefer_27 : decode cX1_hasReefer 27 = .ok (.getfield 61, 3) := by decide +kernel
theorem dX1_hasReefer_30 : decode cX1_hasReefer 30 = .ok (.iconst 1, 1) := by decide +kernel
theorem dX1_hasReefer_31 : decode cX1_hasReefer 31 = .ok (.if_icmp .ne 5, 3) := by decide +kernel
theorem dX1_hasReefer_34 : decode cX1_hasReefer 34 = .ok (.iconst 1, 1) := by decide +kernel
theorem dX1_hasReefer_35 : decode cX1_hasReefer 35 = .ok (.ireturn, 1) := by decide +kernel
theorem dX1_hasReefer_36 : decode cX1_hasReefer 36 = .ok (.iinc 3 1, 3) := by decide +kernel
theorem dX1_hasReefer_39 : decode cX1_hasReefer 39 = .ok (.goto (-29), 3) := by decide +kernel
theorem dX1_hasReefer_42 : decode cX1_hasReefer 42 = .ok (.iconst 0, 1) := by decide +kernel
theorem dX1_hasReefer_43 : decode cX1_hasReefer 43 = .ok (.ireturn, 1) := by decide +kernel
theorem dX1_countLandedBefore_0 : decode cX1_countLandedBefore 0 = .ok (.iconst 0, 1) := by decide +kernel
theorem dX1_countLandedBefore_1 : decode cX1_countLandedBefore 1 = .ok (.istore_n 2, 1) := by decide +kernel
theorem dX1_countLandedBefore_2 : decode cX1_countLandedBefore 2 = .ok (.aload_n 0, 1) := by decide +kernel
theorem dX1_countLandedBefore_3 : decode cX1_countLandedBefore 3 = .ok (.getfield 11, 3) := by decide +kernel
theorem dX1_countLandedBefore_6 : decode cX1_countLandedBefore 6 = .ok (.astore_n 3, 1) := by decide +kernel
theorem dX1_countLandedBefore_7 : decode cX1_countLandedBefore 7 = .ok (.aload_n 3, 1) := by decide +kernel
theorem dX1_countLandedBefore_8 : decode cX1_countLandedBefore 8 = .ok (.arraylength, 1) := by decide +kernel
theorem dX1_countLandedBefore_9 : decode cX1_countLandedBefore 9 = .ok (.istore 4, 2) := by decide +kernel
theorem dX1_countLandedBefore_11 : decode cX1_countLandedBefore 11 = .ok (.iconst 0, 1) := by decide +kernel
theorem dX1_countLandedBefore_12 : decode cX1_countLandedBefore 12 = .ok (.istore 5, 2) := by decide +kernel
theorem dX1_countLandedBefore_14 : decode cX1_countLandedBefore 14 = .ok (.iload 5, 2) := by decide +kernel
theorem dX1_countLandedBefore_16 : decode cX1_countLandedBefore 16 = .ok (.iload 4, 2) := by decide +kernel
theorem dX1_countLandedBefore_18 : decode cX1_countLandedBefore 18 = .ok (.if_icmp .ge 32, 3) := by decide +kernel
theorem dX1_countLandedBefore_21 : decode cX1_countLandedBefore 21 = .ok (.aload_n 3, 1) := by decide +kernel
theorem dX1_countLandedBefore_22 : decode cX1_countLandedBefore 22 = .ok (.iload 5, 2) := by decide +kernel
theorem dX1_countLandedBefore_24 : decode cX1_countLandedBefore 24 = .ok (.aaload, 1) := by decide +kernel
theorem dX1_countLandedBefore_25 : decode cX1_countLandedBefore 25 = .ok (.astore 6, 2) := by decide +kernel
theorem dX1_countLandedBefore_27 : decode cX1_countLandedBefore 27 = .ok (.aload 6, 2) := by decide +kernel
theorem dX1_countLandedBefore_29 : decode cX1_countLandedBefore 29 = .ok (.ifnull 15, 3) := by decide +kernel
theorem dX1_countLandedBefore_32 : decode cX1_countLandedBefore 32 = .ok (.aload 6, 2) := by decide +kernel
theorem dX1_countLandedBefore_34 : decode cX1_countLandedBefore 34 = .ok (.getfield 48, 3) := by decide +kernel
theorem dX1_countLandedBefore_37 : decode cX1_countLandedBefore 37 = .ok (.iload_n 1, 1) := by decide +kernel
theorem dX1_countLandedBefore_38 : decode cX1_countLandedBefore 38 = .ok (.if_icmp .ge 6, 3) := by decide +kernel
theorem dX1_countLandedBefore_41 : decode cX1_countLandedBefore 41 = .ok (.iinc 2 1, 3) := by decide +kernel
theorem dX1_countLandedBefore_44 : decode cX1_countLandedBefore 44 = .ok (.iinc 5 1, 3) := by decide +kernel
theorem dX1_countLandedBefore_47 : decode cX1_countLandedBefore 47 = .ok (.goto (-33), 3) := by decide +kernel
theorem dX1_countLandedBefore_50 : decode cX1_countLandedBefore 50 = .ok (.iload_n 2, 1) := by decide +kernel
theorem dX1_countLandedBefore_51 : decode cX1_countLandedBefore 51 = .ok (.ireturn, 1) := by decide +kernel
theorem dX1_hasLaterAbove_0 : decode cX1_hasLaterAbove 0 = .ok (.aload_n 0, 1) := by decide +kernel
theorem dX1_hasLaterAbove_1 : decode cX1_hasLaterAbove 1 = .ok (.getfield 11, 3) := by decide +kernel
theorem dX1_hasLaterAbove_4 : decode cX1_hasLaterAbove 4 = .ok (.astore_n 3, 1) := by decide +kernel
theorem dX1_hasLaterAbove_5 : decode cX1_hasLaterAbove 5 = .ok (.aload_n 3, 1) := by decide +kernel
theorem dX1_hasLaterAbove_6 : decode cX1_hasLaterAbove 6 = .ok (.arraylength, 1) := by decide +kernel
theorem dX1_hasLaterAbove_7 : decode cX1_hasLaterAbove 7 = .ok (.istore 4, 2) := by decide +kernel
theorem dX1_hasLaterAbove_9 : decode cX1_hasLaterAbove 9 = .ok (.iconst 0, 1) := by decide +kernel
theorem dX1_hasLaterAbove_10 : decode cX1_hasLaterAbove 10 = .ok (.istore 5, 2) := by decide +kernel
theorem dX1_hasLaterAbove_12 : decode cX1_hasLaterAbove 12 = .ok (.iload 5, 2) := by decide +kernel
theorem dX1_hasLaterAbove_14 : decode cX1_hasLaterAbove 14 = .ok (.iload 4, 2) := by decide +kernel
theorem dX1_hasLaterAbove_16 : decode cX1_hasLaterAbove 16 = .ok (.if_icmp .ge 40, 3) := by decide +kernel
theorem dX1_hasLaterAbove_19 : decode cX1_hasLaterAbove 19 = .ok (.aload_n 3, 1) := by decide +kernel
theorem dX1_hasLaterAbove_20 : decode cX1_hasLaterAbove 20 = .ok (.iload 5, 2) := by decide +kernel
theorem dX1_hasLaterAbove_22 : decode cX1_hasLaterAbove 22 = .ok (.aaload, 1) := by decide +kernel
theorem dX1_hasLaterAbove_23 : decode cX1_hasLaterAbove 23 = .ok (.astore 6, 2) := by decide +kernel
theorem dX1_hasLaterAbove_25 : decode cX1_hasLaterAbove 25 = .ok (.aload 6, 2) := by decide +kernel
theorem dX1_hasLaterAbove_27 : decode cX1_hasLaterAbove 27 = .ok (.ifnull 23, 3) := by decide +kernel
theorem dX1_hasLaterAbove_30 : decode cX1_hasLaterAbove 30 = .ok (.aload 6, 2) := by decide +kernel
theorem dX1_hasLaterAbove_32 : decode cX1_hasLaterAbove 32 = .ok (.getfield 45, 3) := by decide +kernel
theorem dX1_hasLaterAbove_35 : decode cX1_hasLaterAbove 35 = .ok (.iload_n 1, 1) := by decide +kernel
theorem dX1_hasLaterAbove_36 : decode cX1_hasLaterAbove 36 = .ok (.if_icmp .le 14, 3) := by decide +kernel
theorem dX1_hasLaterAbove_39 : decode cX1_hasLaterAbove 39 = .ok (.aload 6, 2) := by decide +kernel
theorem dX1_hasLaterAbove_41 : decode cX1_hasLaterAbove 41 = .ok (.getfield 48, 3) := by decide +kernel
theorem dX1_hasLaterAbove_44 : decode cX1_hasLaterAbove 44 = .ok (.iload_n 2, 1) := by decide +kernel
theorem dX1_hasLaterAbove_45 : decode cX1_hasLaterAbove 45 = .ok (.if_icmp .le 5, 3) := by decide +kernel
theorem dX1_hasLaterAbove_48 : decode cX1_hasLaterAbove 48 = .ok (.iconst 1, 1) := by decide +kernel
theorem dX1_hasLaterAbove_49 : decode cX1_hasLaterAbove 49 = .ok (.ireturn, 1) := by decide +kernel
theorem dX1_hasLaterAbove_50 : decode cX1_hasLaterAbove 50 = .ok (.iinc 5 1, 3) := by decide +kernel
theorem dX1_hasLaterAbove_53 : decode cX1_hasLaterAbove 53 = .ok (.goto (-41), 3) := by decide +kernel
theorem dX1_hasLaterAbove_56 : decode cX1_hasLaterAbove 56 = .ok (.iconst 0, 1) := by decide +kernel
theorem dX1_hasLaterAbove_57 : decode cX1_hasLaterAbove 57 = .ok (.ireturn, 1) := by decide +kernel
theorem dX1_liftsFor_0 : decode cX1_liftsFor 0 = .ok (.iconst 0, 1) := by decide +kernel
theorem dX1_liftsFor_1 : decode cX1_liftsFor 1 = .ok (.istore_n 2, 1) := by decide +kernel
theorem dX1_liftsFor_2 : decode cX1_liftsFor 2 = .ok (.iconst 0, 1) := by decide +kernel
theorem dX1_liftsFor_3 : decode cX1_liftsFor 3 = .ok (.istore_n 3, 1) := by decide +kernel
theorem dX1_liftsFor_4 : decode cX1_liftsFor 4 = .ok (.aload_n 0, 1) := by decide +kernel
theorem dX1_liftsFor_5 : decode cX1_liftsFor 5 = .ok (.getfield 11, 3) := by decide +kernel
theorem dX1_liftsFor_8 : decode cX1_liftsFor 8 = .ok (.astore 4, 2) := by decide +kernel
theorem dX1_liftsFor_10 : decode cX1_liftsFor 10 = .ok (.aload 4, 2) := by decide +kernel
theorem dX1_liftsFor_12 : decode cX1_liftsFor 12 = .ok (.arraylength, 1) := by decide +kernel
theorem dX1_liftsFor_13 : decode cX1_liftsFor 13 = .ok (.istore 5, 2) := by decide +kernel
theorem dX1_liftsFor_15 : decode cX1_liftsFor 15 = .ok (.iconst 0, 1) := by decide +kernel
theorem dX1_liftsFor_16 : decode cX1_liftsFor 16 = .ok (.istore 6, 2) := by decide +kernel
theorem dX1_liftsFor_18 : decode cX1_liftsFor 18 = .ok (.iload 6, 2) := by decide +kernel
theorem dX1_liftsFor_20 : decode cX1_liftsFor 20 = .ok (.iload 5, 2) := by decide +kernel
theorem dX1_liftsFor_22 : decode cX1_liftsFor 22 = .ok (.if_icmp .ge 47, 3) := by decide +kernel
theorem dX1_liftsFor_25 : decode cX1_liftsFor 25 = .ok (.aload 4, 2) := by decide +kernel
theorem dX1_liftsFor_27 : decode cX1_liftsFor 27 = .ok (.iload 6, 2) := by decide +kernel
theorem dX1_liftsFor_29 : decode cX1_liftsFor 29 = .ok (.aaload, 1) := by decide +kernel
theorem dX1_liftsFor_30 : decode cX1_liftsFor 30 = .ok (.astore 7, 2) := by decide +kernel
theorem dX1_liftsFor_32 : decode cX1_liftsFor 32 = .ok (.aload 7, 2) := by decide +kernel
theorem dX1_liftsFor_34 : decode cX1_liftsFor 34 = .ok (.ifnull 17, 3) := by decide +kernel
theorem dX1_liftsFor_37 : decode cX1_liftsFor 37 = .ok (.aload 7, 2) := by decide +kernel
theorem dX1_liftsFor_39 : decode cX1_liftsFor 39 = .ok (.getfield 48, 3) := by decide +kernel
theorem dX1_liftsFor_42 : decode cX1_liftsFor 42 = .ok (.iload_n 1, 1) := by decide +kernel
theorem dX1_liftsFor_43 : decode cX1_liftsFor 43 = .ok (.if_icmp .ne 8, 3) := by decide +kernel
theorem dX1_liftsFor_46 : decode cX1_liftsFor 46 = .ok (.iconst 1, 1) := by decide +kernel
theorem dX1_liftsFor_47 : decode cX1_liftsFor 47 = .ok (.istore_n 3, 1) := by decide +kernel
theorem dX1_liftsFor_48 : decode cX1_liftsFor 48 = .ok (.goto 15, 3) := by decide +kernel
theorem dX1_liftsFor_51 : decode cX1_liftsFor 51 = .ok (.aload 7, 2) := by decide +kernel
theorem dX1_liftsFor_53 : decode cX1_liftsFor 53 = .ok (.ifnull 10, 3) := by decide +kernel
theorem dX1_liftsFor_56 : decode cX1_liftsFor 56 = .ok (.iload_n 3, 1) := by decide +kernel
theorem dX1_liftsFor_57 : decode cX1_liftsFor 57 = .ok (.ifCond .eq 6, 3) := by decide +kernel
theorem dX1_liftsFor_60 : decode cX1_liftsFor 60 = .ok (.iinc 2 1, 3) := by decide +kernel
theorem dX1_liftsFor_63 : decode cX1_liftsFor 63 = .ok (.iinc 6 1, 3) := by decide +kernel
theorem dX1_liftsFor_66 : decode cX1_liftsFor 66 = .ok (.goto (-48), 3) := by decide +kernel
theorem dX1_liftsFor_69 : decode cX1_liftsFor 69 = .ok (.iload_n 2, 1) := by decide +kernel
theorem dX1_liftsFor_70 : decode cX1_liftsFor 70 = .ok (.ireturn, 1) := by decide +kernel
set_option maxRecDepth 20000 in
theorem ggX2_init_X1_init : GoodIn wsX2_init wsX1_init := goodIn_r _ [18, 19, 2, 3, 20, 21, 22, 23, 24, 25, 34, 35, 36, 37, 38] (by decide +kernel) (by decide +kernel)
set_option maxRecDepth 20000 in
theorem gX2_init_X1_init : GoodIn wsX2_init (wsX1_init) := ggX2_init_X1_init
theorem dX2_init_0 : decode cX2_init 0 = .ok (.aload_n 0, 1) := by decide +kernel
theorem dX2_init_1 : decode cX2_init 1 = .ok (.invokespecial 1, 3) := by decide +kernel
theorem dX2_init_4 : decode cX2_init 4 = .ok (.aload_n 0, 1) := by decide +kernel
theorem dX2_init_5 : decode cX2_init 5 = .ok (.bipush 40, 2) := by decide +kernel
theorem dX2_init_7 : decode cX2_init 7 = .ok (.anewarray 9, 3) := by decide +kernel
theorem dX2_init_10 : decode cX2_init 10 = .ok (.putfield 11, 3) := by decide +kernel
theorem dX2_init_13 : decode cX2_init 13 = .ok (.aload_n 0, 1) := by decide +kernel
theorem dX2_init_14 : decode cX2_init 14 = .ok (.bipush 30, 2) := by decide +kernel
theorem dX2_init_16 : decode cX2_init 16 = .ok (.anewarray 15, 3) := by decide +kernel
theorem dX2_init_19 : decode cX2_init 19 = .ok (.putfield 17, 3) := by decide +kernel
theorem dX2_init_22 : decode cX2_init 22 = .ok (.aload_n 0, 1) := by decide +kernel
theorem dX2_init_23 : decode cX2_init 23 = .ok (.iconst 0, 1) := by decide +kernel
theorem dX2_init_24 : decode cX2_init 24 = .ok (.putfield 21, 3) := by decide +kernel
theorem dX2_init_27 : decode cX2_init 27 = .ok (.aload_n 0, 1) := by decide +kernel
theorem dX2_init_28 : decode cX2_init 28 = .ok (.iconst 0, 1) := by decide +kernel
theorem dX2_init_29 : decode cX2_init 29 = .ok (.putfield 25, 3) := by decide +kernel
theorem dX2_init_32 : decode cX2_init 32 = .ok (.aload_n 0, 1) := by decide +kernel
theorem dX2_init_33 : decode cX2_init 33 = .ok (.bipush 60, 2) := by decide +kernel
theorem dX2_init_35 : decode cX2_init 35 = .ok (.putfield 28, 3) := by decide +kernel
theorem dX2_init_38 : decode cX2_init 38 = .ok (.aload_n 0, 1) := by decide +kernel
theorem dX2_init_39 : decode cX2_init 39 = .ok (.bipush 60, 2) := by decide +kernel
theorem dX2_init_41 : decode cX2_init 41 = .ok (.putfield 31, 3) := by decide +kernel
theorem dX2_init_44 : decode cX2_init 44 = .ok (.aload_n 0, 1) := by decide +kernel
theorem dX2_init_45 : decode cX2_init 45 = .ok (.sipush 200, 3) := by decide +kernel
theorem dX2_init_48 : decode cX2_init 48 = .ok (.putfield 34, 3) := by decide +kernel
theorem dX2_init_51 : decode cX2_init 51 = .ok (.aload_n 0, 1) := by decide +kernel
theorem dX2_init_52 : decode cX2_init 52 = .ok (.iconst 0, 1) := by decide +kernel
theorem dX2_init_53 : decode cX2_init 53 = .ok (.putfield 37, 3) := by decide +kernel
theorem dX2_init_56 : decode cX2_init 56 = .ok (.iconst 0, 1) := by decide +kernel
theorem dX2_init_57 : decode cX2_init 57 = .ok (.istore_n 1, 1) := by decide +kernel
theorem dX2_init_58 : decode cX2_init 58 = .ok (.iload_n 1, 1) := by decide +kernel
theorem dX2_init_59 : decode cX2_init 59 = .ok (.aload_n 0, 1) := by decide +kernel
theorem dX2_init_60 : decode cX2_init 60 = .ok (.getfield 17, 3) := by decide +kernel
theorem dX2_init_63 : decode cX2_init 63 = .ok (.arraylength, 1) := by decide +kernel
theorem dX2_init_64 : decode cX2_init 64 = .ok (.if_icmp .ge 45, 3) := by decide +kernel
theorem dX2_init_67 : decode cX2_init 67 = .ok (.iload_n 1, 1) := by decide +kernel
theorem dX2_init_68 : decode cX2_init 68 = .ok (.iconst 5, 1) := by decide +kernel
theorem dX2_init_69 : decode cX2_init 69 = .ok (.idiv, 1) := by decide +kernel
theorem dX2_init_70 : decode cX2_init 70 = .ok (.istore_n 2, 1) := by decide +kernel
theorem dX2_init_71 : decode cX2_init 71 = .ok (.aload_n 0, 1) := by decide +kernel
theorem dX2_init_72 : decode cX2_init 72 = .ok (.getfield 17, 3) := by decide +kernel
theorem dX2_init_75 : decode cX2_init 75 = .ok (.iload_n 1, 1) := by decide +kernel
theorem dX2_init_76 : decode cX2_init 76 = .ok (.new 15, 3) := by decide +kernel
theorem dX2_init_79 : decode cX2_init 79 = .ok (.dup, 1) := by decide +kernel
theorem dX2_init_80 : decode cX2_init 80 = .ok (.iload_n 2, 1) := by decide +kernel
theorem dX2_init_81 : decode cX2_init 81 = .ok (.iload_n 1, 1) := by decide +kernel
theorem dX2_init_82 : decode cX2_init 82 = .ok (.iconst 5, 1) := by decide +kernel
theorem dX2_init_83 : decode cX2_init 83 = .ok (.irem, 1) := by decide +kernel
theorem dX2_init_84 : decode cX2_init 84 = .ok (.iload_n 2, 1) := by decide +kernel
theorem dX2_init_85 : decode cX2_init 85 = .ok (.iconst 2, 1) := by decide +kernel
theorem dX2_init_86 : decode cX2_init 86 = .ok (.if_icmp .eq 8, 3) := by decide +kernel
theorem dX2_init_89 : decode cX2_init 89 = .ok (.iload_n 2, 1) := by decide +kernel
theorem dX2_init_90 : decode cX2_init 90 = .ok (.iconst 3, 1) := by decide +kernel
theorem dX2_init_91 : decode cX2_init 91 = .ok (.if_icmp .ne 7, 3) := by decide +kernel
theorem dX2_init_94 : decode cX2_init 94 = .ok (.iconst 1, 1) := by decide +kernel
theorem dX2_init_95 : decode cX2_init 95 = .ok (.goto 4, 3) := by decide +kernel
theorem dX2_init_98 : decode cX2_init 98 = .ok (.iconst 0, 1) := by decide +kernel
theorem dX2_init_99 : decode cX2_init 99 = .ok (.invokespecial 40, 3) := by decide +kernel
theorem dX2_init_102 : decode cX2_init 102 = .ok (.aastore, 1) := by decide +kernel
theorem dX2_init_103 : decode cX2_init 103 = .ok (.iinc 1 1, 3) := by decide +kernel
theorem dX2_init_106 : decode cX2_init 106 = .ok (.goto (-48), 3) := by decide +kernel
theorem dX2_init_109 : decode cX2_init 109 = .ok (.return_, 1) := by decide +kernel
set_option maxRecDepth 20000 in
theorem ggX2_addContainer_X2_isWithin : GoodIn wsX2_addContainer wsX2_isWithin := goodIn_r _ [14] (by decide +kernel) (by decide +kernel)
set_option maxRecDepth 20000 in
theorem gX2_addContainer_X2_isWithin : GoodIn wsX2_addContainer (va_wsS RX2 43 yX2_isWithin wsX2_isWithin) := goodIn_app (goodIn_of _ (by decide +kernel)) ggX2_addContainer_X2_isWithin
set_option maxRecDepth 20000 in
theorem ggX2_addContainer_X0_init : GoodIn wsX2_addContainer wsX0_init := goodIn_r _ [17, 18, 19, 20, 21, 22, 23, 24, 25, 26, 27, 28, 37, 38, 39, 40, 41, 42, 43, 44] (by decide +kernel) (by decide +kernel)
set_option maxRecDepth 20000 in
theorem gX2_addContainer_X0_init : GoodIn wsX2_addContainer (wsX0_init) := ggX2_addContainer_X0_init
theorem dX2_addContainer_0 : decode cX2_addContainer 0 = .ok (.iload_n 1, 1) := by decide +kernel
theorem dX2_addContainer_1 : decode cX2_addContainer 1 = .ok (.iconst 1, 1) := by decide +kernel
theorem dX2_addContainer_2 : decode cX2_addContainer 2 = .ok (.bipush 30, 2) := by decide +kernel
theorem dX2_addContainer_4 : decode cX2_addContainer 4 = .ok (.invokestatic 43, 3) := by decide +kernel
theorem dX2_addContainer_7 : decode cX2_addContainer 7 = .ok (.ifCond .eq 32, 3) := by decide +kernel
theorem dX2_addContainer_10 : decode cX2_addContainer 10 = .ok (.iload_n 2, 1) := by decide +kernel
theorem dX2_addContainer_11 : decode cX2_addContainer 11 = .ok (.iconst 0, 1) := by decide +kernel
theorem dX2_addContainer_12 : decode cX2_addContainer 12 = .ok (.iconst 4, 1) := by decide +kernel
theorem dX2_addContainer_13 : decode cX2_addContainer 13 = .ok (.invokestatic 43, 3) := by decide +kernel
theorem dX2_addContainer_16 : decode cX2_addContainer 16 = .ok (.ifCond .eq 23, 3) := by decide +kernel
theorem dX2_addContainer_19 : decode cX2_addContainer 19 = .ok (.iload_n 3, 1) := by decide +kernel
theorem dX2_addContainer_20 : decode cX2_addContainer 20 = .ok (.iload_n 2, 1) := by decide +kernel
theorem dX2_addContainer_21 : decode cX2_addContainer 21 = .ok (.if_icmp .le 18, 3) := by decide +kernel
theorem dX2_addContainer_24 : decode cX2_addContainer 24 = .ok (.iload_n 3, 1) := by decide +kernel
theorem dX2_addContainer_25 : decode cX2_addContainer 25 = .ok (.iconst 5, 1) := by decide +kernel
theorem dX2_addContainer_26 : decode cX2_addContainer 26 = .ok (.if_icmp .gt 13, 3) := by decide +kernel
theorem dX2_addContainer_29 : decode cX2_addContainer 29 = .ok (.iload 4, 2) := by decide +kernel
theorem dX2_addContainer_31 : decode cX2_addContainer 31 = .ok (.iconst 0, 1) := by decide +kernel
theorem dX2_addContainer_32 : decode cX2_addContainer 32 = .ok (.iconst 4, 1) := by decide +kernel
theorem dX2_addContainer_33 : decode cX2_addContainer 33 = .ok (.invokestatic 43, 3) := by decide +kernel
theorem dX2_addContainer_36 : decode cX2_addContainer 36 = .ok (.ifCond .ne 13, 3) := by decide +kernel
theorem dX2_addContainer_39 : decode cX2_addContainer 39 = .ok (.new 47, 3) := by decide +kernel
theorem dX2_addContainer_42 : decode cX2_addContainer 42 = .ok (.dup, 1) := by decide +kernel
theorem dX2_addContainer_43 : decode cX2_addContainer 43 = .ok (.ldc 49, 2) := by decide +kernel
theorem dX2_addContainer_45 : decode cX2_addContainer 45 = .ok (.invokespecial 51, 3) := by decide +kernel
theorem dX2_addContainer_48 : decode cX2_addContainer 48 = .ok (.athrow, 1) := by decide +kernel
theorem dX2_addContainer_49 : decode cX2_addContainer 49 = .ok (.iload_n 2, 1) := by decide +kernel
theorem dX2_addContainer_50 : decode cX2_addContainer 50 = .ok (.aload_n 0, 1) := by decide +kernel
theorem dX2_addContainer_51 : decode cX2_addContainer 51 = .ok (.getfield 25, 3) := by decide +kernel
theorem dX2_addContainer_54 : decode cX2_addContainer 54 = .ok (.if_icmp .ge 13, 3) := by decide +kernel
theorem dX2_addContainer_57 : decode cX2_addContainer 57 = .ok (.new 54, 3) := by decide +kernel
theorem dX2_addContainer_60 : decode cX2_addContainer 60 = .ok (.dup, 1) := by decide +kernel
theorem dX2_addContainer_61 : decode cX2_addContainer 61 = .ok (.ldc 56, 2) := by decide +kernel
theorem dX2_addContainer_63 : decode cX2_addContainer 63 = .ok (.invokespecial 58, 3) := by decide +kernel
theorem dX2_addContainer_66 : decode cX2_addContainer 66 = .ok (.athrow, 1) := by decide +kernel
theorem dX2_addContainer_67 : decode cX2_addContainer 67 = .ok (.aload_n 0, 1) := by decide +kernel
theorem dX2_addContainer_68 : decode cX2_addContainer 68 = .ok (.getfield 21, 3) := by decide +kernel
theorem dX2_addContainer_71 : decode cX2_addContainer 71 = .ok (.ifCond .lt 15, 3) := by decide +kernel
theorem dX2_addContainer_74 : decode cX2_addContainer 74 = .ok (.aload_n 0, 1) := by decide +kernel
theorem dX2_addContainer_75 : decode cX2_addContainer 75 = .ok (.getfield 21, 3) := by decide +kernel
theorem dX2_addContainer_78 : decode cX2_addContainer 78 = .ok (.aload_n 0, 1) := by decide +kernel
theorem dX2_addContainer_79 : decode cX2_addContainer 79 = .ok (.getfield 11, 3) := by decide +kernel
theorem dX2_addContainer_82 : decode cX2_addContainer 82 = .ok (.arraylength, 1) := by decide +kernel
theorem dX2_addContainer_83 : decode cX2_addContainer 83 = .ok (.if_icmp .lt 13, 3) := by decide +kernel
theorem dX2_addContainer_86 : decode cX2_addContainer 86 = .ok (.new 54, 3) := by decide +kernel
theorem dX2_addContainer_89 : decode cX2_addContainer 89 = .ok (.dup, 1) := by decide +kernel
theorem dX2_addContainer_90 : decode cX2_addContainer 90 = .ok (.ldc 59, 2) := by decide +kernel
theorem dX2_addContainer_92 : decode cX2_addContainer 92 = .ok (.invokespecial 58, 3) := by decide +kernel
theorem dX2_addContainer_95 : decode cX2_addContainer 95 = .ok (.athrow, 1) := by decide +kernel
theorem dX2_addContainer_96 : decode cX2_addContainer 96 = .ok (.aload_n 0, 1) := by decide +kernel
theorem dX2_addContainer_97 : decode cX2_addContainer 97 = .ok (.getfield 21, 3) := by decide +kernel
theorem dX2_addContainer_100 : decode cX2_addContainer 100 = .ok (.istore 5, 2) := by decide +kernel
theorem dX2_addContainer_102 : decode cX2_addContainer 102 = .ok (.aload_n 0, 1) := by decide +kernel
theorem dX2_addContainer_103 : decode cX2_addContainer 103 = .ok (.getfield 11, 3) := by decide +kernel
theorem dX2_addContainer_106 : decode cX2_addContainer 106 = .ok (.iload 5, 2) := by decide +kernel
theorem dX2_addContainer_108 : decode cX2_addContainer 108 = .ok (.new 9, 3) := by decide +kernel
theorem dX2_addContainer_111 : decode cX2_addContainer 111 = .ok (.dup, 1) := by decide +kernel
theorem dX2_addContainer_112 : decode cX2_addContainer 112 = .ok (.iload 5, 2) := by decide +kernel
theorem dX2_addContainer_114 : decode cX2_addContainer 114 = .ok (.iload_n 1, 1) := by decide +kernel
theorem dX2_addContainer_115 : decode cX2_addContainer 115 = .ok (.iload_n 2, 1) := by decide +kernel
theorem dX2_addContainer_116 : decode cX2_addContainer 116 = .ok (.iload_n 3, 1) := by decide +kernel
theorem dX2_addContainer_117 : decode cX2_addContainer 117 = .ok (.iload 4, 2) := by decide +kernel
theorem dX2_addContainer_119 : decode cX2_addContainer 119 = .ok (.invokespecial 61, 3) := by decide +kernel
theorem dX2_addContainer_122 : decode cX2_addContainer 122 = .ok (.aastore, 1) := by decide +kernel
theorem dX2_addContainer_123 : decode cX2_addContainer 123 = .ok (.aload_n 0, 1) := by decide +kernel
theorem dX2_addContainer_124 : decode cX2_addContainer 124 = .ok (.iload 5, 2) := by decide +kernel
theorem dX2_addContainer_126 : decode cX2_addContainer 126 = .ok (.iconst 1, 1) := by decide +kernel
theorem dX2_addContainer_127 : decode cX2_addContainer 127 = .ok (.iadd, 1) := by decide +kernel
theorem dX2_addContainer_128 : decode cX2_addContainer 128 = .ok (.putfield 21, 3) := by decide +kernel
theorem dX2_addContainer_131 : decode cX2_addContainer 131 = .ok (.iload 5, 2) := by decide +kernel
theorem dX2_addContainer_133 : decode cX2_addContainer 133 = .ok (.ireturn, 1) := by decide +kernel
set_option maxRecDepth 20000 in
theorem ggX2_container_X2_boxNumbered : GoodIn wsX2_container wsX2_boxNumbered := goodIn_r _ [7, 8, 27, 28, 29, 30, 31, 32, 33, 34] (by decide +kernel) (by decide +kernel)
set_option maxRecDepth 20000 in
theorem gX2_container_X2_boxNumbered : GoodIn wsX2_container (wsV RX2 64 RX2 yX2_boxNumbered wsX2_boxNumbered) := goodIn_app (goodIn_of _ (by decide +kernel)) ggX2_container_X2_boxNumbered
set_option maxRecDepth 20000 in
theorem ggX2_container_X2_isWithin : GoodIn wsX2_container wsX2_isWithin := goodIn_r _ [11] (by decide +kernel) (by decide +kernel)
set_option maxRecDepth 20000 in
theorem gX2_container_X2_isWithin : GoodIn wsX2_container (va_wsS RX2 43 yX2_isWithin wsX2_isWithin) := goodIn_app (goodIn_of _ (by decide +kernel)) ggX2_container_X2_isWithin
set_option maxRecDepth 20000 in
theorem ggX2_container_X0_tell : GoodIn wsX2_container wsX0_tell := goodIn_r _ [16, 17, 18, 19, 20, 21, 22, 23, 15, 24, 25, 26, 35, 36, 37, 38, 39, 40, 41, 42] (by decide +kernel) (by decide +kernel)
set_option maxRecDepth 20000 in
theorem gX2_container_X0_tell : GoodIn wsX2_container (wsV RX2 73 RX0 yX0_tell wsX0_tell) := goodIn_app (goodIn_of _ (by decide +kernel)) ggX2_container_X0_tell
theorem dX2_container_0 : decode cX2_container 0 = .ok (.aload_n 0, 1) := by decide +kernel
theorem dX2_container_1 : decode cX2_container 1 = .ok (.iload_n 1, 1) := by decide +kernel
theorem dX2_container_2 : decode cX2_container 2 = .ok (.invokevirtual 64, 3) := by decide +kernel
theorem dX2_container_5 : decode cX2_container 5 = .ok (.astore_n 3, 1) := by decide +kernel
theorem dX2_container_6 : decode cX2_container 6 = .ok (.aload_n 3, 1) := by decide +kernel
theorem dX2_container_7 : decode cX2_container 7 = .ok (.ifnull 12, 3) := by decide +kernel
theorem dX2_container_10 : decode cX2_container 10 = .ok (.iload_n 2, 1) := by decide +kernel
theorem dX2_container_11 : decode cX2_container 11 = .ok (.iconst 0, 1) := by decide +kernel
theorem dX2_container_12 : decode cX2_container 12 = .ok (.iconst 4, 1) := by decide +kernel
theorem dX2_container_13 : decode cX2_container 13 = .ok (.invokestatic 43, 3) := by decide +kernel
theorem dX2_container_16 : decode cX2_container 16 = .ok (.ifCond .ne 13, 3) := by decide +kernel
theorem dX2_container_19 : decode cX2_container 19 = .ok (.new 68, 3) := by decide +kernel
theorem dX2_container_22 : decode cX2_container 22 = .ok (.dup, 1) := by decide +kernel
theorem dX2_container_23 : decode cX2_container 23 = .ok (.ldc 70, 2) := by decide +kernel
theorem dX2_container_25 : decode cX2_container 25 = .ok (.invokespecial 72, 3) := by decide +kernel
theorem dX2_container_28 : decode cX2_container 28 = .ok (.athrow, 1) := by decide +kernel
theorem dX2_container_29 : decode cX2_container 29 = .ok (.aload_n 3, 1) := by decide +kernel
theorem dX2_container_30 : decode cX2_container 30 = .ok (.iload_n 2, 1) := by decide +kernel
theorem dX2_container_31 : decode cX2_container 31 = .ok (.invokevirtual 73, 3) := by decide +kernel
theorem dX2_container_34 : decode cX2_container 34 = .ok (.ireturn, 1) := by decide +kernel
set_option maxRecDepth 20000 in
theorem ggX2_setLimits_X2_isWithin : GoodIn wsX2_setLimits wsX2_isWithin := goodIn_r _ [9] (by decide +kernel) (by decide +kernel)
set_option maxRecDepth 20000 in
theorem gX2_setLimits_X2_isWithin : GoodIn wsX2_setLimits (va_wsS RX2 43 yX2_isWithin wsX2_isWithin) := goodIn_app (goodIn_of _ (by decide +kernel)) ggX2_setLimits_X2_isWithin
theorem dX2_setLimits_0 : decode cX2_setLimits 0 = .ok (.iload_n 1, 1) := by decide +kernel
theorem dX2_setLimits_1 : decode cX2_setLimits 1 = .ok (.iconst 1, 1) := by decide +kernel
theorem dX2_setLimits_2 : decode cX2_setLimits 2 = .ok (.bipush 120, 2) := by decide +kernel
theorem dX2_setLimits_4 : decode cX2_setLimits 4 = .ok (.invokestatic 43, 3) := by decide +kernel
theorem dX2_setLimits_7 : decode cX2_setLimits 7 = .ok (.ifCond .eq 25, 3) := by decide +kernel
theorem dX2_setLimits_10 : decode cX2_setLimits 10 = .ok (.iload_n 2, 1) := by decide +kernel
theorem dX2_setLimits_11 : decode cX2_setLimits 11 = .ok (.iconst 0, 1) := by decide +kernel
theorem dX2_setLimits_12 : decode cX2_setLimits 12 = .ok (.sipush 1000, 3) := by decide +kernel
theorem dX2_setLimits_15 : decode cX2_setLimits 15 = .ok (.invokestatic 43, 3) := by decide +kernel
theorem dX2_setLimits_18 : decode cX2_setLimits 18 = .ok (.ifCond .eq 14, 3) := by decide +kernel
theorem dX2_setLimits_21 : decode cX2_setLimits 21 = .ok (.iload_n 3, 1) := by decide +kernel
theorem dX2_setLimits_22 : decode cX2_setLimits 22 = .ok (.iconst 0, 1) := by decide +kernel
theorem dX2_setLimits_23 : decode cX2_setLimits 23 = .ok (.sipush 1000, 3) := by decide +kernel
theorem dX2_setLimits_26 : decode cX2_setLimits 26 = .ok (.invokestatic 43, 3) := by decide +kernel
theorem dX2_setLimits_29 : decode cX2_setLimits 29 = .ok (.ifCond .ne 13, 3) := by decide +kernel
theorem dX2_setLimits_32 : decode cX2_setLimits 32 = .ok (.new 47, 3) := by decide +kernel
theorem dX2_setLimits_35 : decode cX2_setLimits 35 = .ok (.dup, 1) := by decide +kernel
theorem dX2_setLimits_36 : decode cX2_setLimits 36 = .ok (.ldc 77, 2) := by decide +kernel
theorem dX2_setLimits_38 : decode cX2_setLimits 38 = .ok (.invokespecial 51, 3) := by decide +kernel
theorem dX2_setLimits_41 : decode cX2_setLimits 41 = .ok (.athrow, 1) := by decide +kernel
theorem dX2_setLimits_42 : decode cX2_setLimits 42 = .ok (.aload_n 0, 1) := by decide +kernel
theorem dX2_setLimits_43 : decode cX2_setLimits 43 = .ok (.getfield 28, 3) := by decide +kernel
theorem dX2_setLimits_46 : decode cX2_setLimits 46 = .ok (.istore 4, 2) := by decide +kernel
theorem dX2_setLimits_48 : decode cX2_setLimits 48 = .ok (.aload_n 0, 1) := by decide +kernel
theorem dX2_setLimits_49 : decode cX2_setLimits 49 = .ok (.iload_n 1, 1) := by decide +kernel
theorem dX2_setLimits_50 : decode cX2_setLimits 50 = .ok (.putfield 28, 3) := by decide +kernel
theorem dX2_setLimits_53 : decode cX2_setLimits 53 = .ok (.aload_n 0, 1) := by decide +kernel
theorem dX2_setLimits_54 : decode cX2_setLimits 54 = .ok (.iload_n 2, 1) := by decide +kernel
theorem dX2_setLimits_55 : decode cX2_setLimits 55 = .ok (.putfield 31, 3) := by decide +kernel
theorem dX2_setLimits_58 : decode cX2_setLimits 58 = .ok (.aload_n 0, 1) := by decide +kernel
theorem dX2_setLimits_59 : decode cX2_setLimits 59 = .ok (.iload_n 3, 1) := by decide +kernel
theorem dX2_setLimits_60 : decode cX2_setLimits 60 = .ok (.putfield 34, 3) := by decide +kernel
theorem dX2_setLimits_63 : decode cX2_setLimits 63 = .ok (.iload 4, 2) := by decide +kernel
theorem dX2_setLimits_65 : decode cX2_setLimits 65 = .ok (.ireturn, 1) := by decide +kernel
set_option maxRecDepth 20000 in
theorem ggX2_setPlug_X2_stackAt : GoodIn wsX2_setPlug wsX2_stackAt := goodIn_r _ [10, 11, 12, 13, 9, 14, 27, 28, 29, 30, 31, 32, 33, 34] (by decide +kernel) (by decide +kernel)
set_option maxRecDepth 20000 in
theorem gX2_setPlug_X2_stackAt : GoodIn wsX2_setPlug (wsV RX2 79 RX2 yX2_stackAt wsX2_stackAt) := goodIn_app (goodIn_of _ (by decide +kernel)) ggX2_setPlug_X2_stackAt
set_option maxRecDepth 20000 in
theorem ggX2_setPlug_X1_hasReefer : GoodIn wsX2_setPlug wsX1_hasReefer := goodIn_r _ [19, 20, 21, 22, 23, 24, 25, 26, 35, 36, 37, 38, 39, 40, 41, 42] (by decide +kernel) (by decide +kernel)
set_option maxRecDepth 20000 in
theorem gX2_setPlug_X1_hasReefer : GoodIn wsX2_setPlug (wsV RX2 85 RX1 yX1_hasReefer wsX1_hasReefer) := goodIn_app (goodIn_of _ (by decide +kernel)) ggX2_setPlug_X1_hasReefer
theorem dX2_setPlug_0 : decode cX2_setPlug 0 = .ok (.aload_n 0, 1) := by decide +kernel
theorem dX2_setPlug_1 : decode cX2_setPlug 1 = .ok (.iload_n 1, 1) := by decide +kernel
theorem dX2_setPlug_2 : decode cX2_setPlug 2 = .ok (.iload_n 2, 1) := by decide +kernel
theorem dX2_setPlug_3 : decode cX2_setPlug 3 = .ok (.invokevirtual 79, 3) := by decide +kernel
theorem dX2_setPlug_6 : decode cX2_setPlug 6 = .ok (.astore 4, 2) := by decide +kernel
theorem dX2_setPlug_8 : decode cX2_setPlug 8 = .ok (.aload 4, 2) := by decide +kernel
theorem dX2_setPlug_10 : decode cX2_setPlug 10 = .ok (.ifnonnull 13, 3) := by decide +kernel
theorem dX2_setPlug_13 : decode cX2_setPlug 13 = .ok (.new 68, 3) := by decide +kernel
theorem dX2_setPlug_16 : decode cX2_setPlug 16 = .ok (.dup, 1) := by decide +kernel
theorem dX2_setPlug_17 : decode cX2_setPlug 17 = .ok (.ldc 83, 2) := by decide +kernel
theorem dX2_setPlug_19 : decode cX2_setPlug 19 = .ok (.invokespecial 72, 3) := by decide +kernel
theorem dX2_setPlug_22 : decode cX2_setPlug 22 = .ok (.athrow, 1) := by decide +kernel
theorem dX2_setPlug_23 : decode cX2_setPlug 23 = .ok (.iload_n 3, 1) := by decide +kernel
theorem dX2_setPlug_24 : decode cX2_setPlug 24 = .ok (.ifCond .ne 21, 3) := by decide +kernel
theorem dX2_setPlug_27 : decode cX2_setPlug 27 = .ok (.aload 4, 2) := by decide +kernel
theorem dX2_setPlug_29 : decode cX2_setPlug 29 = .ok (.invokevirtual 85, 3) := by decide +kernel
theorem dX2_setPlug_32 : decode cX2_setPlug 32 = .ok (.ifCond .eq 13, 3) := by decide +kernel
theorem dX2_setPlug_35 : decode cX2_setPlug 35 = .ok (.new 54, 3) := by decide +kernel
theorem dX2_setPlug_38 : decode cX2_setPlug 38 = .ok (.dup, 1) := by decide +kernel
theorem dX2_setPlug_39 : decode cX2_setPlug 39 = .ok (.ldc 89, 2) := by decide +kernel
theorem dX2_setPlug_41 : decode cX2_setPlug 41 = .ok (.invokespecial 58, 3) := by decide +kernel
theorem dX2_setPlug_44 : decode cX2_setPlug 44 = .ok (.athrow, 1) := by decide +kernel
theorem dX2_setPlug_45 : decode cX2_setPlug 45 = .ok (.aload 4, 2) := by decide +kernel
theorem dX2_setPlug_47 : decode cX2_setPlug 47 = .ok (.getfield 91, 3) := by decide +kernel
theorem dX2_setPlug_50 : decode cX2_setPlug 50 = .ok (.istore 5, 2) := by decide +kernel
theorem dX2_setPlug_52 : decode cX2_setPlug 52 = .ok (.aload 4, 2) := by decide +kernel
theorem dX2_setPlug_54 : decode cX2_setPlug 54 = .ok (.iload_n 3, 1) := by decide +kernel
theorem dX2_setPlug_55 : decode cX2_setPlug 55 = .ok (.putfield 91, 3) := by decide +kernel
theorem dX2_setPlug_58 : decode cX2_setPlug 58 = .ok (.iload 5, 2) := by decide +kernel
theorem dX2_setPlug_60 : decode cX2_setPlug 60 = .ok (.ireturn, 1) := by decide +kernel
set_option maxRecDepth 20000 in
theorem ggX2_canLoad_X2_boxNumbered : GoodIn wsX2_canLoad wsX2_boxNumbered := goodIn_r _ [7, 8, 71, 72, 73, 74, 75, 76, 77, 78] (by decide +kernel) (by decide +kernel)
set_option maxRecDepth 20000 in
theorem gX2_canLoad_X2_boxNumbered : GoodIn wsX2_canLoad (wsV RX2 64 RX2 yX2_boxNumbered wsX2_boxNumbered) := goodIn_app (goodIn_of _ (by decide +kernel)) ggX2_canLoad_X2_boxNumbered
set_option maxRecDepth 20000 in
theorem ggX2_canLoad_X2_stackAt : GoodIn wsX2_canLoad wsX2_stackAt := goodIn_r _ [12, 13, 14, 15, 6, 16, 71, 72, 73, 74, 75, 76, 77, 78] (by decide +kernel) (by decide +kernel)
set_option maxRecDepth 20000 in
theorem gX2_canLoad_X2_stackAt : GoodIn wsX2_canLoad (wsV RX2 79 RX2 yX2_stackAt wsX2_stackAt) := goodIn_app (goodIn_of _ (by decide +kernel)) ggX2_canLoad_X2_stackAt
set_option maxRecDepth 20000 in
theorem ggX2_canLoad_X2_isLoadable : GoodIn wsX2_canLoad wsX2_isLoadable := goodIn_r _ [20, 21, 22, 23, 24, 25, 26, 27, 28, 29, 30, 31, 32, 33, 34, 35, 36, 37, 38, 39, 40, 41, 42, 43, 44, 45, 46, 47, 48, 49, 50, 51, 52, 53, 6, 54, 8, 55, 56, 57, 58, 59, 60, 61, 62, 63, 64, 65, 66, 67, 68, 69, 70, 71, 72, 73, 74, 75, 76, 77, 78, 79, 80, 81, 82, 83, 84, 85, 86, 87, 88, 89, 90, 91] (by decide +kernel) (by decide +kernel)
set_option maxRecDepth 20000 in
theorem gX2_canLoad_X2_isLoadable : GoodIn wsX2_canLoad (wsV RX2 97 RX2 yX2_isLoadable wsX2_isLoadable) := goodIn_app (goodIn_of _ (by decide +kernel)) ggX2_canLoad_X2_isLoadable
theorem dX2_canLoad_0 : decode cX2_canLoad 0 = .ok (.aload_n 0, 1) := by decide +kernel
theorem dX2_canLoad_1 : decode cX2_canLoad 1 = .ok (.iload_n 1, 1) := by decide +kernel
theorem dX2_canLoad_2 : decode cX2_canLoad 2 = .ok (.invokevirtual 64, 3) := by decide +kernel
theorem dX2_canLoad_5 : decode cX2_canLoad 5 = .ok (.astore 4, 2) := by decide +kernel
theorem dX2_canLoad_7 : decode cX2_canLoad 7 = .ok (.aload_n 0, 1) := by decide +kernel
theorem dX2_canLoad_8 : decode cX2_canLoad 8 = .ok (.iload_n 2, 1) := by decide +kernel
theorem dX2_canLoad_9 : decode cX2_canLoad 9 = .ok (.iload_n 3, 1) := by decide +kernel
theorem dX2_canLoad_10 : decode cX2_canLoad 10 = .ok (.invokevirtual 79, 3) := by decide +kernel
theorem dX2_canLoad_13 : decode cX2_canLoad 13 = .ok (.astore 5, 2) := by decide +kernel
theorem dX2_canLoad_15 : decode cX2_canLoad 15 = .ok (.aload 4, 2) := by decide +kernel
theorem dX2_canLoad_17 : decode cX2_canLoad 17 = .ok (.ifnull 8, 3) := by decide +kernel
theorem dX2_canLoad_20 : decode cX2_canLoad 20 = .ok (.aload 5, 2) := by decide +kernel
theorem dX2_canLoad_22 : decode cX2_canLoad 22 = .ok (.ifnonnull 13, 3) := by decide +kernel
theorem dX2_canLoad_25 : decode cX2_canLoad 25 = .ok (.new 68, 3) := by decide +kernel
theorem dX2_canLoad_28 : decode cX2_canLoad 28 = .ok (.dup, 1) := by decide +kernel
theorem dX2_canLoad_29 : decode cX2_canLoad 29 = .ok (.ldc 95, 2) := by decide +kernel
theorem dX2_canLoad_31 : decode cX2_canLoad 31 = .ok (.invokespecial 72, 3) := by decide +kernel
theorem dX2_canLoad_34 : decode cX2_canLoad 34 = .ok (.athrow, 1) := by decide +kernel
theorem dX2_canLoad_35 : decode cX2_canLoad 35 = .ok (.aload_n 0, 1) := by decide +kernel
theorem dX2_canLoad_36 : decode cX2_canLoad 36 = .ok (.aload 4, 2) := by decide +kernel
theorem dX2_canLoad_38 : decode cX2_canLoad 38 = .ok (.aload 5, 2) := by decide +kernel
theorem dX2_canLoad_40 : decode cX2_canLoad 40 = .ok (.invokevirtual 97, 3) := by decide +kernel
theorem dX2_canLoad_43 : decode cX2_canLoad 43 = .ok (.ireturn, 1) := by decide +kernel
set_option maxRecDepth 20000 in
theorem ggX2_load_X2_boxNumbered : GoodIn wsX2_load wsX2_boxNumbered := goodIn_r _ [10, 11, 88, 89, 90, 91, 92, 93, 94, 95] (by decide +kernel) (by decide +kernel)
set_option maxRecDepth 20000 in
theorem gX2_load_X2_boxNumbered : GoodIn wsX2_load (wsV RX2 64 RX2 yX2_boxNumbered wsX2_boxNumbered) := goodIn_app (goodIn_of _ (by decide +kernel)) ggX2_load_X2_boxNumbered
set_option maxRecDepth 20000 in
theorem ggX2_load_X2_stackAt : GoodIn wsX2_load wsX2_stackAt := goodIn_r _ [15, 16, 17, 18, 9, 19, 88, 89, 90, 91, 92, 93, 94, 95] (by decide +kernel) (by decide +kernel)
set_option maxRecDepth 20000 in
theorem gX2_load_X2_stackAt : GoodIn wsX2_load (wsV RX2 79 RX2 yX2_stackAt wsX2_stackAt) := goodIn_app (goodIn_of _ (by decide +kernel)) ggX2_load_X2_stackAt
set_option maxRecDepth 20000 in
theorem ggX2_load_X2_isLoadable : GoodIn wsX2_load wsX2_isLoadable := goodIn_r _ [23, 24, 25, 26, 27, 28, 29, 30, 31, 32, 33, 34, 35, 36, 37, 38, 39, 40, 41, 42, 43, 44, 45, 46, 47, 48, 49, 50, 51, 52, 53, 54, 55, 56, 9, 57, 11, 58, 59, 60, 61, 62, 63, 64, 65, 66, 67, 68, 69, 70, 71, 72, 73, 88, 89, 90, 91, 92, 93, 94, 95, 96, 97, 98, 99, 100, 80, 81, 82, 83, 84, 85, 86, 87] (by decide +kernel) (by decide +kernel)
set_option maxRecDepth 20000 in
theorem gX2_load_X2_isLoadable : GoodIn wsX2_load (wsV RX2 97 RX2 yX2_isLoadable wsX2_isLoadable) := goodIn_app (goodIn_of _ (by decide +kernel)) ggX2_load_X2_isLoadable
set_option maxRecDepth 20000 in
theorem ggX2_load_X1_push : GoodIn wsX2_load wsX1_push := goodIn_r _ [77, 53, 46, 78, 79, 96, 97, 98, 99, 100, 80, 81, 82, 83, 84, 85, 86, 87] (by decide +kernel) (by decide +kernel)
set_option maxRecDepth 20000 in
theorem gX2_load_X1_push : GoodIn wsX2_load (wsV RX2 103 RX1 yX1_push wsX1_push) := goodIn_app (goodIn_of _ (by decide +kernel)) ggX2_load_X1_push
theorem dX2_load_0 : decode cX2_load 0 = .ok (.aload_n 0, 1) := by decide +kernel
theorem dX2_load_1 : decode cX2_load 1 = .ok (.iload_n 1, 1) := by decide +kernel
theorem dX2_load_2 : decode cX2_load 2 = .ok (.invokevirtual 64, 3) := by decide +kernel
theorem dX2_load_5 : decode cX2_load 5 = .ok (.astore 4, 2) := by decide +kernel
theorem dX2_load_7 : decode cX2_load 7 = .ok (.aload_n 0, 1) := by decide +kernel
theorem dX2_load_8 : decode cX2_load 8 = .ok (.iload_n 2, 1) := by decide +kernel
theorem dX2_load_9 : decode cX2_load 9 = .ok (.iload_n 3, 1) := by decide +kernel
theorem dX2_load_10 : decode cX2_load 10 = .ok (.invokevirtual 79, 3) := by decide +kernel
theorem dX2_load_13 : decode cX2_load 13 = .ok (.astore 5, 2) := by decide +kernel
theorem dX2_load_15 : decode cX2_load 15 = .ok (.aload 4, 2) := by decide +kernel
theorem dX2_load_17 : decode cX2_load 17 = .ok (.ifnull 8, 3) := by decide +kernel
theorem dX2_load_20 : decode cX2_load 20 = .ok (.aload 5, 2) := by decide +kernel
theorem dX2_load_22 : decode cX2_load 22 = .ok (.ifnonnull 13, 3) := by decide +kernel
theorem dX2_load_25 : decode cX2_load 25 = .ok (.new 68, 3) := by decide +kernel
theorem dX2_load_28 : decode cX2_load 28 = .ok (.dup, 1) := by decide +kernel
theorem dX2_load_29 : decode cX2_load 29 = .ok (.ldc 95, 2) := by decide +kernel
theorem dX2_load_31 : decode cX2_load 31 = .ok (.invokespecial 72, 3) := by decide +kernel
theorem dX2_load_34 : decode cX2_load 34 = .ok (.athrow, 1) := by decide +kernel
theorem dX2_load_35 : decode cX2_load 35 = .ok (.aload_n 0, 1) := by decide +kernel
theorem dX2_load_36 : decode cX2_load 36 = .ok (.aload 4, 2) := by decide +kernel
theorem dX2_load_38 : decode cX2_load 38 = .ok (.aload 5, 2) := by decide +kernel
theorem dX2_load_40 : decode cX2_load 40 = .ok (.invokevirtual 97, 3) := by decide +kernel
theorem dX2_load_43 : decode cX2_load 43 = .ok (.ifCond .ne 13, 3) := by decide +kernel
theorem dX2_load_46 : decode cX2_load 46 = .ok (.new 54, 3) := by decide +kernel
theorem dX2_load_49 : decode cX2_load 49 = .ok (.dup, 1) := by decide +kernel
theorem dX2_load_50 : decode cX2_load 50 = .ok (.ldc 101, 2) := by decide +kernel
theorem dX2_load_52 : decode cX2_load 52 = .ok (.invokespecial 58, 3) := by decide +kernel
theorem dX2_load_55 : decode cX2_load 55 = .ok (.athrow, 1) := by decide +kernel
theorem dX2_load_56 : decode cX2_load 56 = .ok (.aload 5, 2) := by decide +kernel
theorem dX2_load_58 : decode cX2_load 58 = .ok (.aload 4, 2) := by decide +kernel
theorem dX2_load_60 : decode cX2_load 60 = .ok (.invokevirtual 103, 3) := by decide +kernel
theorem dX2_load_63 : decode cX2_load 63 = .ok (.aload 4, 2) := by decide +kernel
theorem dX2_load_65 : decode cX2_load 65 = .ok (.getfield 107, 3) := by decide +kernel
theorem dX2_load_68 : decode cX2_load 68 = .ok (.ireturn, 1) := by decide +kernel
set_option maxRecDepth 20000 in
theorem ggX2_lift_X2_stackAt : GoodIn wsX2_lift wsX2_stackAt := goodIn_r _ [11, 12, 13, 14, 10, 15, 44, 45, 46, 47, 48, 49, 50, 51] (by decide +kernel) (by decide +kernel)
set_option maxRecDepth 20000 in
theorem gX2_lift_X2_stackAt : GoodIn wsX2_lift (wsV RX2 79 RX2 yX2_stackAt wsX2_stackAt) := goodIn_app (goodIn_of _ (by decide +kernel)) ggX2_lift_X2_stackAt
set_option maxRecDepth 20000 in
theorem ggX2_lift_X1_top : GoodIn wsX2_lift wsX1_top := goodIn_r _ [20, 21, 22, 23, 24, 19, 25, 26, 52, 53, 54, 55, 56] (by decide +kernel) (by decide +kernel)
set_option maxRecDepth 20000 in
theorem gX2_lift_X1_top : GoodIn wsX2_lift (wsV RX2 110 RX1 yX1_top wsX1_top) := goodIn_app (goodIn_of _ (by decide +kernel)) ggX2_lift_X1_top
set_option maxRecDepth 20000 in
theorem ggX2_lift_X1_dropTop : GoodIn wsX2_lift wsX1_dropTop := goodIn_r _ [30, 21, 26, 31, 22, 23, 24, 19, 25, 52, 53, 54, 55, 56, 36, 37, 38, 39, 40, 41, 42, 43] (by decide +kernel) (by decide +kernel)
set_option maxRecDepth 20000 in
theorem gX2_lift_X1_dropTop : GoodIn wsX2_lift (wsV RX2 119 RX1 yX1_dropTop wsX1_dropTop) := goodIn_app (goodIn_of _ (by decide +kernel)) ggX2_lift_X1_dropTop
set_option maxRecDepth 20000 in
theorem ggX2_lift_X2_numberOf : GoodIn wsX2_lift wsX2_numberOf := goodIn_r _ [34, 35, 36, 37, 38, 39, 40, 41, 42, 43] (by decide +kernel) (by decide +kernel)
set_option maxRecDepth 20000 in
theorem gX2_lift_X2_numberOf : GoodIn wsX2_lift (va_wsS RX2 122 yX2_numberOf wsX2_numberOf) := goodIn_app (goodIn_of _ (by decide +kernel)) ggX2_lift_X2_numberOf
theorem dX2_lift_0 : decode cX2_lift 0 = .ok (.aload_n 0, 1) := by decide +kernel
theorem dX2_lift_1 : decode cX2_lift 1 = .ok (.iload_n 1, 1) := by decide +kernel
theorem dX2_lift_2 : decode cX2_lift 2 = .ok (.iload_n 2, 1) := by decide +kernel
theorem dX2_lift_3 : decode cX2_lift 3 = .ok (.invokevirtual 79, 3) := by decide +kernel
theorem dX2_lift_6 : decode cX2_lift 6 = .ok (.astore_n 3, 1) := by decide +kernel
theorem dX2_lift_7 : decode cX2_lift 7 = .ok (.aload_n 3, 1) := by decide +kernel
theorem dX2_lift_8 : decode cX2_lift 8 = .ok (.ifnonnull 13, 3) := by decide +kernel
theorem dX2_lift_11 : decode cX2_lift 11 = .ok (.new 68, 3) := by decide +kernel
theorem dX2_lift_14 : decode cX2_lift 14 = .ok (.dup, 1) := by decide +kernel
theorem dX2_lift_15 : decode cX2_lift 15 = .ok (.ldc 83, 2) := by decide +kernel
theorem dX2_lift_17 : decode cX2_lift 17 = .ok (.invokespecial 72, 3) := by decide +kernel
theorem dX2_lift_20 : decode cX2_lift 20 = .ok (.athrow, 1) := by decide +kernel
theorem dX2_lift_21 : decode cX2_lift 21 = .ok (.aload_n 3, 1) := by decide +kernel
theorem dX2_lift_22 : decode cX2_lift 22 = .ok (.invokevirtual 110, 3) := by decide +kernel
theorem dX2_lift_25 : decode cX2_lift 25 = .ok (.astore 4, 2) := by decide +kernel
theorem dX2_lift_27 : decode cX2_lift 27 = .ok (.aload 4, 2) := by decide +kernel
theorem dX2_lift_29 : decode cX2_lift 29 = .ok (.ifnull 15, 3) := by decide +kernel
theorem dX2_lift_32 : decode cX2_lift 32 = .ok (.aload 4, 2) := by decide +kernel
theorem dX2_lift_34 : decode cX2_lift 34 = .ok (.getfield 114, 3) := by decide +kernel
theorem dX2_lift_37 : decode cX2_lift 37 = .ok (.aload_n 0, 1) := by decide +kernel
theorem dX2_lift_38 : decode cX2_lift 38 = .ok (.getfield 25, 3) := by decide +kernel
theorem dX2_lift_41 : decode cX2_lift 41 = .ok (.if_icmp .eq 13, 3) := by decide +kernel
theorem dX2_lift_44 : decode cX2_lift 44 = .ok (.new 54, 3) := by decide +kernel
theorem dX2_lift_47 : decode cX2_lift 47 = .ok (.dup, 1) := by decide +kernel
theorem dX2_lift_48 : decode cX2_lift 48 = .ok (.ldc 117, 2) := by decide +kernel
theorem dX2_lift_50 : decode cX2_lift 50 = .ok (.invokespecial 58, 3) := by decide +kernel
theorem dX2_lift_53 : decode cX2_lift 53 = .ok (.athrow, 1) := by decide +kernel
theorem dX2_lift_54 : decode cX2_lift 54 = .ok (.aload_n 3, 1) := by decide +kernel
theorem dX2_lift_55 : decode cX2_lift 55 = .ok (.invokevirtual 119, 3) := by decide +kernel
theorem dX2_lift_58 : decode cX2_lift 58 = .ok (.aload 4, 2) := by decide +kernel
theorem dX2_lift_60 : decode cX2_lift 60 = .ok (.invokestatic 122, 3) := by decide +kernel
theorem dX2_lift_63 : decode cX2_lift 63 = .ok (.ireturn, 1) := by decide +kernel
set_option maxRecDepth 20000 in
theorem ggX2_plan_X2_nextToLoad : GoodIn wsX2_plan wsX2_nextToLoad := goodIn_r _ [5, 6, 7, 8, 9, 10, 11, 12, 13, 14, 15, 16, 4, 17, 18, 19, 20, 21, 22, 23, 24, 25, 26, 27, 28, 29, 30, 31, 32, 33, 34, 35, 36, 37, 38, 39, 40, 41, 42, 43, 44, 45, 46, 47, 48, 49, 50, 51, 52, 53, 54, 55, 56, 57, 58, 59, 60, 61, 62, 63, 64, 65, 66, 67, 68, 69, 70, 71, 101, 102, 103, 104, 105, 106, 107, 108, 109, 110, 111, 112, 113, 114, 115, 116, 117, 118, 119, 120, 121] (by decide +kernel) (by decide +kernel)
set_option maxRecDepth 20000 in
theorem gX2_plan_X2_nextToLoad : GoodIn wsX2_plan (wsV RX2 126 RX2 yX2_nextToLoad wsX2_nextToLoad) := goodIn_app (goodIn_of _ (by decide +kernel)) ggX2_plan_X2_nextToLoad
set_option maxRecDepth 20000 in
theorem ggX2_plan_X2_bestStackFor : GoodIn wsX2_plan wsX2_bestStackFor := goodIn_r _ [75, 18, 76, 25, 77, 68, 69, 70, 78, 79, 80, 4, 81, 39, 40, 41, 42, 43, 44, 45, 82, 83, 84, 85, 66, 86, 87, 88, 89, 71, 19, 20, 21, 22, 23, 24, 26, 27, 28, 29, 30, 10, 31, 32, 33, 34, 35, 36, 37, 38, 46, 47, 48, 49, 50, 51, 52, 53, 54, 55, 6, 56, 57, 58, 59, 60, 61, 62, 63, 64, 65, 67, 90, 91, 92, 93, 94, 101, 102, 103, 104, 105, 106, 107, 108, 109, 110, 111, 112, 113, 114, 115, 116, 117, 118, 119, 120, 121] (by decide +kernel) (by decide +kernel)
set_option maxRecDepth 20000 in
theorem gX2_plan_X2_bestStackFor : GoodIn wsX2_plan (wsV RX2 129 RX2 yX2_bestStackFor wsX2_bestStackFor) := goodIn_app (goodIn_of _ (by decide +kernel)) ggX2_plan_X2_bestStackFor
set_option maxRecDepth 20000 in
theorem ggX2_plan_X1_push : GoodIn wsX2_plan wsX1_push := goodIn_r _ [98, 51, 44, 99, 100, 117, 118, 119, 120, 121, 109, 110, 111, 112, 113, 114, 115, 116] (by decide +kernel) (by decide +kernel)
set_option maxRecDepth 20000 in
theorem gX2_plan_X1_push : GoodIn wsX2_plan (wsV RX2 103 RX1 yX1_push wsX1_push) := goodIn_app (goodIn_of _ (by decide +kernel)) ggX2_plan_X1_push
theorem dX2_plan_0 : decode cX2_plan 0 = .ok (.iconst 0, 1) := by decide +kernel
theorem dX2_plan_1 : decode cX2_plan 1 = .ok (.istore_n 1, 1) := by decide +kernel
theorem dX2_plan_2 : decode cX2_plan 2 = .ok (.iconst 0, 1) := by decide +kernel
theorem dX2_plan_3 : decode cX2_plan 3 = .ok (.istore_n 2, 1) := by decide +kernel
theorem dX2_plan_4 : decode cX2_plan 4 = .ok (.iload_n 2, 1) := by decide +kernel
theorem dX2_plan_5 : decode cX2_plan 5 = .ok (.bipush 40, 2) := by decide +kernel
theorem dX2_plan_7 : decode cX2_plan 7 = .ok (.if_icmp .ge 37, 3) := by decide +kernel
theorem dX2_plan_10 : decode cX2_plan 10 = .ok (.aload_n 0, 1) := by decide +kernel
theorem dX2_plan_11 : decode cX2_plan 11 = .ok (.invokevirtual 126, 3) := by decide +kernel
theorem dX2_plan_14 : decode cX2_plan 14 = .ok (.astore_n 3, 1) := by decide +kernel
theorem dX2_plan_15 : decode cX2_plan 15 = .ok (.aload_n 0, 1) := by decide +kernel
theorem dX2_plan_16 : decode cX2_plan 16 = .ok (.aload_n 3, 1) := by decide +kernel
theorem dX2_plan_17 : decode cX2_plan 17 = .ok (.invokevirtual 129, 3) := by decide +kernel
theorem dX2_plan_20 : decode cX2_plan 20 = .ok (.astore 4, 2) := by decide +kernel
theorem dX2_plan_22 : decode cX2_plan 22 = .ok (.aload 4, 2) := by decide +kernel
theorem dX2_plan_24 : decode cX2_plan 24 = .ok (.ifnonnull 5, 3) := by decide +kernel
theorem dX2_plan_27 : decode cX2_plan 27 = .ok (.iload_n 1, 1) := by decide +kernel
theorem dX2_plan_28 : decode cX2_plan 28 = .ok (.ireturn, 1) := by decide +kernel
theorem dX2_plan_29 : decode cX2_plan 29 = .ok (.aload 4, 2) := by decide +kernel
theorem dX2_plan_31 : decode cX2_plan 31 = .ok (.aload_n 3, 1) := by decide +kernel
theorem dX2_plan_32 : decode cX2_plan 32 = .ok (.invokevirtual 103, 3) := by decide +kernel
theorem dX2_plan_35 : decode cX2_plan 35 = .ok (.iinc 1 1, 3) := by decide +kernel
theorem dX2_plan_38 : decode cX2_plan 38 = .ok (.iinc 2 1, 3) := by decide +kernel
theorem dX2_plan_41 : decode cX2_plan 41 = .ok (.goto (-37), 3) := by decide +kernel
theorem dX2_plan_44 : decode cX2_plan 44 = .ok (.iload_n 1, 1) := by decide +kernel
theorem dX2_plan_45 : decode cX2_plan 45 = .ok (.ireturn, 1) := by decide +kernel
set_option maxRecDepth 20000 in
theorem ggX2_sail_X2_isSteady : GoodIn wsX2_sail wsX2_isSteady := goodIn_r _ [10, 11, 12, 13, 14, 15, 16, 17, 18, 19, 20, 9, 21, 4, 22, 23, 24, 25, 26, 27, 28, 29, 30, 31, 32, 33, 34, 35, 36, 37, 38, 39, 40, 41, 42, 43, 44, 45, 46, 64, 65, 66, 67, 68, 69, 70, 71, 72, 73, 74, 75, 76, 77, 78, 79, 80, 81, 82, 83, 84] (by decide +kernel) (by decide +kernel)
set_option maxRecDepth 20000 in
theorem gX2_sail_X2_isSteady : GoodIn wsX2_sail (wsV RX2 133 RX2 yX2_isSteady wsX2_isSteady) := goodIn_app (goodIn_of _ (by decide +kernel)) ggX2_sail_X2_isSteady
set_option maxRecDepth 20000 in
theorem ggX2_sail_X1_liftsFor : GoodIn wsX2_sail wsX1_liftsFor := goodIn_r _ [50, 27, 51, 72, 73, 74, 75, 76, 77, 78, 79, 80, 81, 82, 83, 84] (by decide +kernel) (by decide +kernel)
set_option maxRecDepth 20000 in
theorem gX2_sail_X1_liftsFor : GoodIn wsX2_sail (wsV RX2 138 RX1 yX1_liftsFor wsX1_liftsFor) := goodIn_app (goodIn_of _ (by decide +kernel)) ggX2_sail_X1_liftsFor
set_option maxRecDepth 20000 in
theorem ggX2_sail_X1_land : GoodIn wsX2_sail wsX1_land := goodIn_r _ [55, 56, 27, 51, 57, 58, 59, 60, 61, 25, 62, 63, 72, 73, 74, 75, 76, 77, 78, 79, 80, 81, 82, 83, 84] (by decide +kernel) (by decide +kernel)
set_option maxRecDepth 20000 in
theorem gX2_sail_X1_land : GoodIn wsX2_sail (wsV RX2 141 RX1 yX1_land wsX1_land) := goodIn_app (goodIn_of _ (by decide +kernel)) ggX2_sail_X1_land
theorem dX2_sail_0 : decode cX2_sail 0 = .ok (.aload_n 0, 1) := by decide +kernel
theorem dX2_sail_1 : decode cX2_sail 1 = .ok (.getfield 25, 3) := by decide +kernel
theorem dX2_sail_4 : decode cX2_sail 4 = .ok (.iconst 5, 1) := by decide +kernel
theorem dX2_sail_5 : decode cX2_sail 5 = .ok (.if_icmp .ge 10, 3) := by decide +kernel
theorem dX2_sail_8 : decode cX2_sail 8 = .ok (.aload_n 0, 1) := by decide +kernel
theorem dX2_sail_9 : decode cX2_sail 9 = .ok (.invokevirtual 133, 3) := by decide +kernel
theorem dX2_sail_12 : decode cX2_sail 12 = .ok (.ifCond .ne 13, 3) := by decide +kernel
theorem dX2_sail_15 : decode cX2_sail 15 = .ok (.new 54, 3) := by decide +kernel
theorem dX2_sail_18 : decode cX2_sail 18 = .ok (.dup, 1) := by decide +kernel
theorem dX2_sail_19 : decode cX2_sail 19 = .ok (.ldc 136, 2) := by decide +kernel
theorem dX2_sail_21 : decode cX2_sail 21 = .ok (.invokespecial 58, 3) := by decide +kernel
theorem dX2_sail_24 : decode cX2_sail 24 = .ok (.athrow, 1) := by decide +kernel
theorem dX2_sail_25 : decode cX2_sail 25 = .ok (.aload_n 0, 1) := by decide +kernel
theorem dX2_sail_26 : decode cX2_sail 26 = .ok (.dup, 1) := by decide +kernel
theorem dX2_sail_27 : decode cX2_sail 27 = .ok (.getfield 25, 3) := by decide +kernel
theorem dX2_sail_30 : decode cX2_sail 30 = .ok (.iconst 1, 1) := by decide +kernel
theorem dX2_sail_31 : decode cX2_sail 31 = .ok (.iadd, 1) := by decide +kernel
theorem dX2_sail_32 : decode cX2_sail 32 = .ok (.putfield 25, 3) := by decide +kernel
theorem dX2_sail_35 : decode cX2_sail 35 = .ok (.iconst 0, 1) := by decide +kernel
theorem dX2_sail_36 : decode cX2_sail 36 = .ok (.istore_n 1, 1) := by decide +kernel
theorem dX2_sail_37 : decode cX2_sail 37 = .ok (.aload_n 0, 1) := by decide +kernel
theorem dX2_sail_38 : decode cX2_sail 38 = .ok (.getfield 17, 3) := by decide +kernel
theorem dX2_sail_41 : decode cX2_sail 41 = .ok (.astore_n 2, 1) := by decide +kernel
theorem dX2_sail_42 : decode cX2_sail 42 = .ok (.aload_n 2, 1) := by decide +kernel
theorem dX2_sail_43 : decode cX2_sail 43 = .ok (.arraylength, 1) := by decide +kernel
theorem dX2_sail_44 : decode cX2_sail 44 = .ok (.istore_n 3, 1) := by decide +kernel
theorem dX2_sail_45 : decode cX2_sail 45 = .ok (.iconst 0, 1) := by decide +kernel
theorem dX2_sail_46 : decode cX2_sail 46 = .ok (.istore 4, 2) := by decide +kernel
theorem dX2_sail_48 : decode cX2_sail 48 = .ok (.iload 4, 2) := by decide +kernel
theorem dX2_sail_50 : decode cX2_sail 50 = .ok (.iload_n 3, 1) := by decide +kernel
theorem dX2_sail_51 : decode cX2_sail 51 = .ok (.if_icmp .ge 41, 3) := by decide +kernel
theorem dX2_sail_54 : decode cX2_sail 54 = .ok (.aload_n 2, 1) := by decide +kernel
theorem dX2_sail_55 : decode cX2_sail 55 = .ok (.iload 4, 2) := by decide +kernel
theorem dX2_sail_57 : decode cX2_sail 57 = .ok (.aaload, 1) := by decide +kernel
theorem dX2_sail_58 : decode cX2_sail 58 = .ok (.astore 5, 2) := by decide +kernel
theorem dX2_sail_60 : decode cX2_sail 60 = .ok (.aload 5, 2) := by decide +kernel
theorem dX2_sail_62 : decode cX2_sail 62 = .ok (.ifnull 24, 3) := by decide +kernel
theorem dX2_sail_65 : decode cX2_sail 65 = .ok (.iload_n 1, 1) := by decide +kernel
theorem dX2_sail_66 : decode cX2_sail 66 = .ok (.aload 5, 2) := by decide +kernel
theorem dX2_sail_68 : decode cX2_sail 68 = .ok (.aload_n 0, 1) := by decide +kernel
theorem dX2_sail_69 : decode cX2_sail 69 = .ok (.getfield 25, 3) := by decide +kernel
theorem dX2_sail_72 : decode cX2_sail 72 = .ok (.invokevirtual 138, 3) := by decide +kernel
theorem dX2_sail_75 : decode cX2_sail 75 = .ok (.iadd, 1) := by decide +kernel
theorem dX2_sail_76 : decode cX2_sail 76 = .ok (.istore_n 1, 1) := by decide +kernel
theorem dX2_sail_77 : decode cX2_sail 77 = .ok (.aload 5, 2) := by decide +kernel
theorem dX2_sail_79 : decode cX2_sail 79 = .ok (.aload_n 0, 1) := by decide +kernel
theorem dX2_sail_80 : decode cX2_sail 80 = .ok (.getfield 25, 3) := by decide +kernel
theorem dX2_sail_83 : decode cX2_sail 83 = .ok (.invokevirtual 141, 3) := by decide +kernel
theorem dX2_sail_86 : decode cX2_sail 86 = .ok (.iinc 4 1, 3) := by decide +kernel
theorem dX2_sail_89 : decode cX2_sail 89 = .ok (.goto (-41), 3) := by decide +kernel
theorem dX2_sail_92 : decode cX2_sail 92 = .ok (.aload_n 0, 1) := by decide +kernel
theorem dX2_sail_93 : decode cX2_sail 93 = .ok (.dup, 1) := by decide +kernel
theorem dX2_sail_94 : decode cX2_sail 94 = .ok (.getfield 37, 3) := by decide +kernel
theorem dX2_sail_97 : decode cX2_sail 97 = .ok (.iload_n 1, 1) := by decide +kernel
theorem dX2_sail_98 : decode cX2_sail 98 = .ok (.iadd, 1) := by decide +kernel
theorem dX2_sail_99 : decode cX2_sail 99 = .ok (.putfield 37, 3) := by decide +kernel
theorem dX2_sail_102 : decode cX2_sail 102 = .ok (.iload_n 1, 1) := by decide +kernel
theorem dX2_sail_103 : decode cX2_sail 103 = .ok (.ireturn, 1) := by decide +kernel
theorem dX2_port_0 : decode cX2_port 0 = .ok (.aload_n 0, 1) := by decide +kernel
theorem dX2_port_1 : decode cX2_port 1 = .ok (.getfield 25, 3) := by decide +kernel
theorem dX2_port_4 : decode cX2_port 4 = .ok (.ireturn, 1) := by decide +kernel
set_option maxRecDepth 20000 in
theorem ggX2_at_X2_stackAt : GoodIn wsX2_at wsX2_stackAt := goodIn_r _ [7, 8, 9, 10, 6, 11, 22, 23, 24, 25, 26, 27, 28, 29] (by decide +kernel) (by decide +kernel)
set_option maxRecDepth 20000 in
theorem gX2_at_X2_stackAt : GoodIn wsX2_at (wsV RX2 79 RX2 yX2_stackAt wsX2_stackAt) := goodIn_app (goodIn_of _ (by decide +kernel)) ggX2_at_X2_stackAt
set_option maxRecDepth 20000 in
theorem ggX2_at_X2_isWithin : GoodIn wsX2_at wsX2_isWithin := goodIn_r _ [11] (by decide +kernel) (by decide +kernel)
set_option maxRecDepth 20000 in
theorem gX2_at_X2_isWithin : GoodIn wsX2_at (va_wsS RX2 43 yX2_isWithin wsX2_isWithin) := goodIn_app (goodIn_of _ (by decide +kernel)) ggX2_at_X2_isWithin
set_option maxRecDepth 20000 in
theorem ggX2_at_X1_onTier : GoodIn wsX2_at wsX1_onTier := goodIn_r _ [16, 17, 30, 31, 32, 33, 34] (by decide +kernel) (by decide +kernel)
set_option maxRecDepth 20000 in
theorem gX2_at_X1_onTier : GoodIn wsX2_at (wsV RX2 147 RX1 yX1_onTier wsX1_onTier) := goodIn_app (goodIn_of _ (by decide +kernel)) ggX2_at_X1_onTier
set_option maxRecDepth 20000 in
theorem ggX2_at_X2_numberOf : GoodIn wsX2_at wsX2_numberOf := goodIn_r _ [20, 21, 35, 36, 37, 38, 39, 40, 41, 42] (by decide +kernel) (by decide +kernel)
set_option maxRecDepth 20000 in
theorem gX2_at_X2_numberOf : GoodIn wsX2_at (va_wsS RX2 122 yX2_numberOf wsX2_numberOf) := goodIn_app (goodIn_of _ (by decide +kernel)) ggX2_at_X2_numberOf
theorem dX2_at_0 : decode cX2_at 0 = .ok (.aload_n 0, 1) := by decide +kernel
theorem dX2_at_1 : decode cX2_at 1 = .ok (.iload_n 1, 1) := by decide +kernel
theorem dX2_at_2 : decode cX2_at 2 = .ok (.iload_n 2, 1) := by decide +kernel
theorem dX2_at_3 : decode cX2_at 3 = .ok (.invokevirtual 79, 3) := by decide +kernel
theorem dX2_at_6 : decode cX2_at 6 = .ok (.astore 4, 2) := by decide +kernel
theorem dX2_at_8 : decode cX2_at 8 = .ok (.aload 4, 2) := by decide +kernel
theorem dX2_at_10 : decode cX2_at 10 = .ok (.ifnull 12, 3) := by decide +kernel
theorem dX2_at_13 : decode cX2_at 13 = .ok (.iload_n 3, 1) := by decide +kernel
theorem dX2_at_14 : decode cX2_at 14 = .ok (.iconst 0, 1) := by decide +kernel
theorem dX2_at_15 : decode cX2_at 15 = .ok (.iconst 3, 1) := by decide +kernel
theorem dX2_at_16 : decode cX2_at 16 = .ok (.invokestatic 43, 3) := by decide +kernel
theorem dX2_at_19 : decode cX2_at 19 = .ok (.ifCond .ne 13, 3) := by decide +kernel
theorem dX2_at_22 : decode cX2_at 22 = .ok (.new 68, 3) := by decide +kernel
theorem dX2_at_25 : decode cX2_at 25 = .ok (.dup, 1) := by decide +kernel
theorem dX2_at_26 : decode cX2_at 26 = .ok (.ldc 145, 2) := by decide +kernel
theorem dX2_at_28 : decode cX2_at 28 = .ok (.invokespecial 72, 3) := by decide +kernel
theorem dX2_at_31 : decode cX2_at 31 = .ok (.athrow, 1) := by decide +kernel
theorem dX2_at_32 : decode cX2_at 32 = .ok (.aload 4, 2) := by decide +kernel
theorem dX2_at_34 : decode cX2_at 34 = .ok (.iload_n 3, 1) := by decide +kernel
theorem dX2_at_35 : decode cX2_at 35 = .ok (.invokevirtual 147, 3) := by decide +kernel
theorem dX2_at_38 : decode cX2_at 38 = .ok (.invokestatic 122, 3) := by decide +kernel
theorem dX2_at_41 : decode cX2_at 41 = .ok (.ireturn, 1) := by decide +kernel
set_option maxRecDepth 20000 in
theorem ggX2_where_X2_boxNumbered : GoodIn wsX2_where wsX2_boxNumbered := goodIn_r _ [7, 8, 18, 19, 20, 21, 22, 23, 24, 25] (by decide +kernel) (by decide +kernel)
set_option maxRecDepth 20000 in
theorem gX2_where_X2_boxNumbered : GoodIn wsX2_where (wsV RX2 64 RX2 yX2_boxNumbered wsX2_boxNumbered) := goodIn_app (goodIn_of _ (by decide +kernel)) ggX2_where_X2_boxNumbered
set_option maxRecDepth 20000 in
theorem ggX2_where_X0_place : GoodIn wsX2_where wsX0_place := goodIn_r _ [13, 14, 15, 16, 17, 26, 27, 28, 29, 30, 31, 32, 33, 34, 35, 36, 37, 38] (by decide +kernel) (by decide +kernel)
set_option maxRecDepth 20000 in
theorem gX2_where_X0_place : GoodIn wsX2_where (wsV RX2 152 RX0 yX0_place wsX0_place) := goodIn_app (goodIn_of _ (by decide +kernel)) ggX2_where_X0_place
theorem dX2_where_0 : decode cX2_where 0 = .ok (.aload_n 0, 1) := by decide +kernel
theorem dX2_where_1 : decode cX2_where 1 = .ok (.iload_n 1, 1) := by decide +kernel
theorem dX2_where_2 : decode cX2_where 2 = .ok (.invokevirtual 64, 3) := by decide +kernel
theorem dX2_where_5 : decode cX2_where 5 = .ok (.astore_n 2, 1) := by decide +kernel
theorem dX2_where_6 : decode cX2_where 6 = .ok (.aload_n 2, 1) := by decide +kernel
theorem dX2_where_7 : decode cX2_where 7 = .ok (.ifnonnull 13, 3) := by decide +kernel
theorem dX2_where_10 : decode cX2_where 10 = .ok (.new 68, 3) := by decide +kernel
theorem dX2_where_13 : decode cX2_where 13 = .ok (.dup, 1) := by decide +kernel
theorem dX2_where_14 : decode cX2_where 14 = .ok (.ldc 150, 2) := by decide +kernel
theorem dX2_where_16 : decode cX2_where 16 = .ok (.invokespecial 72, 3) := by decide +kernel
theorem dX2_where_19 : decode cX2_where 19 = .ok (.athrow, 1) := by decide +kernel
theorem dX2_where_20 : decode cX2_where 20 = .ok (.aload_n 2, 1) := by decide +kernel
theorem dX2_where_21 : decode cX2_where 21 = .ok (.invokevirtual 152, 3) := by decide +kernel
theorem dX2_where_24 : decode cX2_where 24 = .ok (.ireturn, 1) := by decide +kernel
set_option maxRecDepth 20000 in
theorem ggX2_moment_X1_weightSum : GoodIn wsX2_moment wsX1_weightSum := goodIn_r _ [6, 7, 8, 27, 28, 29, 30, 31, 32, 33, 34, 35, 36, 37, 38, 39] (by decide +kernel) (by decide +kernel)
set_option maxRecDepth 20000 in
theorem gX2_moment_X1_weightSum : GoodIn wsX2_moment (wsV RX2 156 RX1 yX1_weightSum wsX1_weightSum) := goodIn_app (goodIn_of _ (by decide +kernel)) ggX2_moment_X1_weightSum
set_option maxRecDepth 20000 in
theorem ggX2_moment_X1_trimArm : GoodIn wsX2_moment wsX1_trimArm := goodIn_r _ [12, 13, 27, 28, 29, 30, 31] (by decide +kernel) (by decide +kernel)
set_option maxRecDepth 20000 in
theorem gX2_moment_X1_trimArm : GoodIn wsX2_moment (wsV RX2 159 RX1 yX1_trimArm wsX1_trimArm) := goodIn_app (goodIn_of _ (by decide +kernel)) ggX2_moment_X1_trimArm
set_option maxRecDepth 20000 in
theorem ggX2_moment_X1_listArm : GoodIn wsX2_moment wsX1_listArm := goodIn_r _ [17, 18, 27, 28, 29, 30, 31] (by decide +kernel) (by decide +kernel)
set_option maxRecDepth 20000 in
theorem gX2_moment_X1_listArm : GoodIn wsX2_moment (wsV RX2 162 RX1 yX1_listArm wsX1_listArm) := goodIn_app (goodIn_of _ (by decide +kernel)) ggX2_moment_X1_listArm
theorem dX2_moment_0 : decode cX2_moment 0 = .ok (.iconst 0, 1) := by decide +kernel
theorem dX2_moment_1 : decode cX2_moment 1 = .ok (.istore_n 2, 1) := by decide +kernel
theorem dX2_moment_2 : decode cX2_moment 2 = .ok (.aload_n 0, 1) := by decide +kernel
theorem dX2_moment_3 : decode cX2_moment 3 = .ok (.getfield 17, 3) := by decide +kernel
theorem dX2_moment_6 : decode cX2_moment 6 = .ok (.astore_n 3, 1) := by decide +kernel
theorem dX2_moment_7 : decode cX2_moment 7 = .ok (.aload_n 3, 1) := by decide +kernel
theorem dX2_moment_8 : decode cX2_moment 8 = .ok (.arraylength, 1) := by decide +kernel
theorem dX2_moment_9 : decode cX2_moment 9 = .ok (.istore 4, 2) := by decide +kernel
theorem dX2_moment_11 : decode cX2_moment 11 = .ok (.iconst 0, 1) := by decide +kernel
theorem dX2_moment_12 : decode cX2_moment 12 = .ok (.istore 5, 2) := by decide +kernel
theorem dX2_moment_14 : decode cX2_moment 14 = .ok (.iload 5, 2) := by decide +kernel
theorem dX2_moment_16 : decode cX2_moment 16 = .ok (.iload 4, 2) := by decide +kernel
theorem dX2_moment_18 : decode cX2_moment 18 = .ok (.if_icmp .ge 46, 3) := by decide +kernel
theorem dX2_moment_21 : decode cX2_moment 21 = .ok (.aload_n 3, 1) := by decide +kernel
theorem dX2_moment_22 : decode cX2_moment 22 = .ok (.iload 5, 2) := by decide +kernel
theorem dX2_moment_24 : decode cX2_moment 24 = .ok (.aaload, 1) := by decide +kernel
theorem dX2_moment_25 : decode cX2_moment 25 = .ok (.astore 6, 2) := by decide +kernel
theorem dX2_moment_27 : decode cX2_moment 27 = .ok (.aload 6, 2) := by decide +kernel
theorem dX2_moment_29 : decode cX2_moment 29 = .ok (.ifnull 29, 3) := by decide +kernel
theorem dX2_moment_32 : decode cX2_moment 32 = .ok (.iload_n 2, 1) := by decide +kernel
theorem dX2_moment_33 : decode cX2_moment 33 = .ok (.aload 6, 2) := by decide +kernel
theorem dX2_moment_35 : decode cX2_moment 35 = .ok (.invokevirtual 156, 3) := by decide +kernel
theorem dX2_moment_38 : decode cX2_moment 38 = .ok (.iload_n 1, 1) := by decide +kernel
theorem dX2_moment_39 : decode cX2_moment 39 = .ok (.ifCond .eq 11, 3) := by decide +kernel
theorem dX2_moment_42 : decode cX2_moment 42 = .ok (.aload 6, 2) := by decide +kernel
theorem dX2_moment_44 : decode cX2_moment 44 = .ok (.invokevirtual 159, 3) := by decide +kernel
theorem dX2_moment_47 : decode cX2_moment 47 = .ok (.goto 8, 3) := by decide +kernel
theorem dX2_moment_50 : decode cX2_moment 50 = .ok (.aload 6, 2) := by decide +kernel
theorem dX2_moment_52 : decode cX2_moment 52 = .ok (.invokevirtual 162, 3) := by decide +kernel
theorem dX2_moment_55 : decode cX2_moment 55 = .ok (.imul, 1) := by decide +kernel
theorem dX2_moment_56 : decode cX2_moment 56 = .ok (.iadd, 1) := by decide +kernel
theorem dX2_moment_57 : decode cX2_moment 57 = .ok (.istore_n 2, 1) := by decide +kernel
theorem dX2_moment_58 : decode cX2_moment 58 = .ok (.iinc 5 1, 3) := by decide +kernel
theorem dX2_moment_61 : decode cX2_moment 61 = .ok (.goto (-47), 3) := by decide +kernel
theorem dX2_moment_64 : decode cX2_moment 64 = .ok (.iload_n 2, 1) := by decide +kernel
theorem dX2_moment_65 : decode cX2_moment 65 = .ok (.ireturn, 1) := by decide +kernel
theorem dX2_height_0 : decode cX2_height 0 = .ok (.iconst 0, 1) := by decide +kernel
theorem dX2_height_1 : decode cX2_height 1 = .ok (.istore_n 1, 1) := by decide +kernel
theorem dX2_height_2 : decode cX2_height 2 = .ok (.iconst 0, 1) := by decide +kernel
theorem dX2_height_3 : decode cX2_height 3 = .ok (.istore_n 2, 1) := by decide +kernel
theorem dX2_height_4 : decode cX2_height 4 = .ok (.aload_n 0, 1) := by decide +kernel
theorem dX2_height_5 : decode cX2_height 5 = .ok (.getfield 11, 3) := by decide +kernel
theorem dX2_height_8 : decode cX2_height 8 = .ok (.astore_n 3, 1) := by decide +kernel
theorem dX2_height_9 : decode cX2_height 9 = .ok (.aload_n 3, 1) := by decide +kernel
theorem dX2_height_10 : decode cX2_height 10 = .ok (.arraylength, 1) := by decide +kernel
theorem dX2_height_11 : decode cX2_height 11 = .ok (.istore 4, 2) := by decide +kernel
theorem dX2_height_13 : decode cX2_height 13 = .ok (.iconst 0, 1) := by decide +kernel
theorem dX2_height_14 : decode cX2_height 14 = .ok (.istore 5, 2) := by decide +kernel
theorem dX2_height_16 : decode cX2_height 16 = .ok (.iload 5, 2) := by decide +kernel
theorem dX2_height_18 : decode cX2_height 18 = .ok (.iload 4, 2) := by decide +kernel
theorem dX2_height_20 : decode cX2_height 20 = .ok (.if_icmp .ge 54, 3) := by decide +kernel
theorem dX2_height_23 : decode cX2_height 23 = .ok (.aload_n 3, 1) := by decide +kernel
theorem dX2_height_24 : decode cX2_height 24 = .ok (.iload 5, 2) := by decide +kernel
theorem dX2_height_26 : decode cX2_height 26 = .ok (.aaload, 1) := by decide +kernel
theorem dX2_height_27 : decode cX2_height 27 = .ok (.astore 6, 2) := by decide +kernel
theorem dX2_height_29 : decode cX2_height 29 = .ok (.aload 6, 2) := by decide +kernel
theorem dX2_height_31 : decode cX2_height 31 = .ok (.ifnull 37, 3) := by decide +kernel
theorem dX2_height_34 : decode cX2_height 34 = .ok (.aload 6, 2) := by decide +kernel
theorem dX2_height_36 : decode cX2_height 36 = .ok (.getfield 165, 3) := by decide +kernel
theorem dX2_height_39 : decode cX2_height 39 = .ok (.ifnull 29, 3) := by decide +kernel
theorem dX2_height_42 : decode cX2_height 42 = .ok (.iload_n 1, 1) := by decide +kernel
theorem dX2_height_43 : decode cX2_height 43 = .ok (.aload 6, 2) := by decide +kernel
theorem dX2_height_45 : decode cX2_height 45 = .ok (.getfield 169, 3) := by decide +kernel
theorem dX2_height_48 : decode cX2_height 48 = .ok (.iadd, 1) := by decide +kernel
theorem dX2_height_49 : decode cX2_height 49 = .ok (.istore_n 1, 1) := by decide +kernel
theorem dX2_height_50 : decode cX2_height 50 = .ok (.iload_n 2, 1) := by decide +kernel
theorem dX2_height_51 : decode cX2_height 51 = .ok (.aload 6, 2) := by decide +kernel
theorem dX2_height_53 : decode cX2_height 53 = .ok (.getfield 169, 3) := by decide +kernel
theorem dX2_height_56 : decode cX2_height 56 = .ok (.iconst 2, 1) := by decide +kernel
theorem dX2_height_57 : decode cX2_height 57 = .ok (.aload 6, 2) := by decide +kernel
theorem dX2_height_59 : decode cX2_height 59 = .ok (.getfield 107, 3) := by decide +kernel
theorem dX2_height_62 : decode cX2_height 62 = .ok (.imul, 1) := by decide +kernel
theorem dX2_height_63 : decode cX2_height 63 = .ok (.iconst 1, 1) := by decide +kernel
theorem dX2_height_64 : decode cX2_height 64 = .ok (.iadd, 1) := by decide +kernel
theorem dX2_height_65 : decode cX2_height 65 = .ok (.imul, 1) := by decide +kernel
theorem dX2_height_66 : decode cX2_height 66 = .ok (.iadd, 1) := by decide +kernel
theorem dX2_height_67 : decode cX2_height 67 = .ok (.istore_n 2, 1) := by decide +kernel
theorem dX2_height_68 : decode cX2_height 68 = .ok (.iinc 5 1, 3) := by decide +kernel
theorem dX2_height_71 : decode cX2_height 71 = .ok (.goto (-55), 3) := by decide +kernel
theorem dX2_height_74 : decode cX2_height 74 = .ok (.iload_n 1, 1) := by decide +kernel
theorem dX2_height_75 : decode cX2_height 75 = .ok (.ifCond .ne 5, 3) := by decide +kernel
theorem dX2_height_78 : decode cX2_height 78 = .ok (.dconst 0, 1) := by decide +kernel
theorem dX2_height_79 : decode cX2_height 79 = .ok (.dreturn, 1) := by decide +kernel
theorem dX2_height_80 : decode cX2_height 80 = .ok (.iload_n 2, 1) := by decide +kernel
theorem dX2_height_81 : decode cX2_height 81 = .ok (.i2d, 1) := by decide +kernel
theorem dX2_height_82 : decode cX2_height 82 = .ok (.iload_n 1, 1) := by decide +kernel
theorem dX2_height_83 : decode cX2_height 83 = .ok (.i2d, 1) := by decide +kernel
theorem dX2_height_84 : decode cX2_height 84 = .ok (.ddiv, 1) := by decide +kernel
theorem dX2_height_85 : decode cX2_height 85 = .ok (.dreturn, 1) := by decide +kernel
set_option maxRecDepth 20000 in
theorem ggX2_isSteady_X2_moment : GoodIn wsX2_isSteady wsX2_moment := goodIn_r _ [12, 13, 14, 15, 16, 17, 18, 19, 20, 21, 22, 23, 24, 25, 26, 27, 28, 29, 30, 39, 40, 41, 42, 43, 44, 45, 46, 47, 48, 49, 50, 51, 52, 53, 54, 55, 56, 57, 58, 59] (by decide +kernel) (by decide +kernel)
set_option maxRecDepth 20000 in
theorem gX2_isSteady_X2_moment : GoodIn wsX2_isSteady (wsV RX2 172 RX2 yX2_moment wsX2_moment) := goodIn_app (goodIn_of _ (by decide +kernel)) ggX2_isSteady_X2_moment
set_option maxRecDepth 20000 in
theorem ggX2_isSteady_X2_height : GoodIn wsX2_isSteady wsX2_height := goodIn_r _ [34, 35, 36, 37, 38, 39, 40, 41, 42, 43, 44, 45, 46, 52, 53, 54, 55, 56, 57, 58, 59] (by decide +kernel) (by decide +kernel)
set_option maxRecDepth 20000 in
theorem gX2_isSteady_X2_height : GoodIn wsX2_isSteady (wsV RX2 181 RX2 yX2_height wsX2_height) := goodIn_app (goodIn_of _ (by decide +kernel)) ggX2_isSteady_X2_height
theorem dX2_isSteady_0 : decode cX2_isSteady 0 = .ok (.aload_n 0, 1) := by decide +kernel
theorem dX2_isSteady_1 : decode cX2_isSteady 1 = .ok (.iconst 0, 1) := by decide +kernel
theorem dX2_isSteady_2 : decode cX2_isSteady 2 = .ok (.invokevirtual 172, 3) := by decide +kernel
theorem dX2_isSteady_5 : decode cX2_isSteady 5 = .ok (.invokestatic 176, 3) := by decide +kernel
theorem dX2_isSteady_8 : decode cX2_isSteady 8 = .ok (.aload_n 0, 1) := by decide +kernel
theorem dX2_isSteady_9 : decode cX2_isSteady 9 = .ok (.getfield 31, 3) := by decide +kernel
theorem dX2_isSteady_12 : decode cX2_isSteady 12 = .ok (.if_icmp .gt 33, 3) := by decide +kernel
theorem dX2_isSteady_15 : decode cX2_isSteady 15 = .ok (.aload_n 0, 1) := by decide +kernel
theorem dX2_isSteady_16 : decode cX2_isSteady 16 = .ok (.iconst 1, 1) := by decide +kernel
theorem dX2_isSteady_17 : decode cX2_isSteady 17 = .ok (.invokevirtual 172, 3) := by decide +kernel
theorem dX2_isSteady_20 : decode cX2_isSteady 20 = .ok (.invokestatic 176, 3) := by decide +kernel
theorem dX2_isSteady_23 : decode cX2_isSteady 23 = .ok (.aload_n 0, 1) := by decide +kernel
theorem dX2_isSteady_24 : decode cX2_isSteady 24 = .ok (.getfield 34, 3) := by decide +kernel
theorem dX2_isSteady_27 : decode cX2_isSteady 27 = .ok (.if_icmp .gt 18, 3) := by decide +kernel
theorem dX2_isSteady_30 : decode cX2_isSteady 30 = .ok (.aload_n 0, 1) := by decide +kernel
theorem dX2_isSteady_31 : decode cX2_isSteady 31 = .ok (.invokevirtual 181, 3) := by decide +kernel
theorem dX2_isSteady_34 : decode cX2_isSteady 34 = .ok (.ldc2_w 185, 3) := by decide +kernel
theorem dX2_isSteady_37 : decode cX2_isSteady 37 = .ok (.dcmp .g, 1) := by decide +kernel
theorem dX2_isSteady_38 : decode cX2_isSteady 38 = .ok (.ifCond .gt 7, 3) := by decide +kernel
theorem dX2_isSteady_41 : decode cX2_isSteady 41 = .ok (.iconst 1, 1) := by decide +kernel
theorem dX2_isSteady_42 : decode cX2_isSteady 42 = .ok (.goto 4, 3) := by decide +kernel
theorem dX2_isSteady_45 : decode cX2_isSteady 45 = .ok (.iconst 0, 1) := by decide +kernel
theorem dX2_isSteady_46 : decode cX2_isSteady 46 = .ok (.ireturn, 1) := by decide +kernel
set_option maxRecDepth 20000 in
theorem ggX2_count_X0_waitsAt : GoodIn wsX2_count wsX0_waitsAt := goodIn_r _ [8, 9, 10, 11, 12, 7, 13, 14, 15, 24, 25, 26, 27, 28, 29, 30, 31] (by decide +kernel) (by decide +kernel)
set_option maxRecDepth 20000 in
theorem gX2_count_X0_waitsAt : GoodIn wsX2_count (wsV RX2 187 RX0 yX0_waitsAt wsX0_waitsAt) := goodIn_app (goodIn_of _ (by decide +kernel)) ggX2_count_X0_waitsAt
theorem dX2_count_0 : decode cX2_count 0 = .ok (.iconst 0, 1) := by decide +kernel
theorem dX2_count_1 : decode cX2_count 1 = .ok (.istore_n 2, 1) := by decide +kernel
theorem dX2_count_2 : decode cX2_count 2 = .ok (.aload_n 0, 1) := by decide +kernel
theorem dX2_count_3 : decode cX2_count 3 = .ok (.getfield 11, 3) := by decide +kernel
theorem dX2_count_6 : decode cX2_count 6 = .ok (.astore_n 3, 1) := by decide +kernel
theorem dX2_count_7 : decode cX2_count 7 = .ok (.aload_n 3, 1) := by decide +kernel
theorem dX2_count_8 : decode cX2_count 8 = .ok (.arraylength, 1) := by decide +kernel
theorem dX2_count_9 : decode cX2_count 9 = .ok (.istore 4, 2) := by decide +kernel
theorem dX2_count_11 : decode cX2_count 11 = .ok (.iconst 0, 1) := by decide +kernel
theorem dX2_count_12 : decode cX2_count 12 = .ok (.istore 5, 2) := by decide +kernel
theorem dX2_count_14 : decode cX2_count 14 = .ok (.iload 5, 2) := by decide +kernel
theorem dX2_count_16 : decode cX2_count 16 = .ok (.iload 4, 2) := by decide +kernel
theorem dX2_count_18 : decode cX2_count 18 = .ok (.if_icmp .ge 50, 3) := by decide +kernel
theorem dX2_count_21 : decode cX2_count 21 = .ok (.aload_n 3, 1) := by decide +kernel
theorem dX2_count_22 : decode cX2_count 22 = .ok (.iload 5, 2) := by decide +kernel
theorem dX2_count_24 : decode cX2_count 24 = .ok (.aaload, 1) := by decide +kernel
theorem dX2_count_25 : decode cX2_count 25 = .ok (.astore 6, 2) := by decide +kernel
theorem dX2_count_27 : decode cX2_count 27 = .ok (.aload 6, 2) := by decide +kernel
theorem dX2_count_29 : decode cX2_count 29 = .ok (.ifnull 33, 3) := by decide +kernel
theorem dX2_count_32 : decode cX2_count 32 = .ok (.iload_n 1, 1) := by decide +kernel
theorem dX2_count_33 : decode cX2_count 33 = .ok (.ifCond .eq 18, 3) := by decide +kernel
theorem dX2_count_36 : decode cX2_count 36 = .ok (.aload 6, 2) := by decide +kernel
theorem dX2_count_38 : decode cX2_count 38 = .ok (.aload_n 0, 1) := by decide +kernel
theorem dX2_count_39 : decode cX2_count 39 = .ok (.getfield 25, 3) := by decide +kernel
theorem dX2_count_42 : decode cX2_count 42 = .ok (.invokevirtual 187, 3) := by decide +kernel
theorem dX2_count_45 : decode cX2_count 45 = .ok (.ifCond .eq 17, 3) := by decide +kernel
theorem dX2_count_48 : decode cX2_count 48 = .ok (.goto 11, 3) := by decide +kernel
theorem dX2_count_51 : decode cX2_count 51 = .ok (.aload 6, 2) := by decide +kernel
theorem dX2_count_53 : decode cX2_count 53 = .ok (.getfield 165, 3) := by decide +kernel
theorem dX2_count_56 : decode cX2_count 56 = .ok (.ifnull 6, 3) := by decide +kernel
theorem dX2_count_59 : decode cX2_count 59 = .ok (.iinc 2 1, 3) := by decide +kernel
theorem dX2_count_62 : decode cX2_count 62 = .ok (.iinc 5 1, 3) := by decide +kernel
theorem dX2_count_65 : decode cX2_count 65 = .ok (.goto (-51), 3) := by decide +kernel
theorem dX2_count_68 : decode cX2_count 68 = .ok (.iload_n 2, 1) := by decide +kernel
theorem dX2_count_69 : decode cX2_count 69 = .ok (.ireturn, 1) := by decide +kernel
set_option maxRecDepth 20000 in
theorem ggX2_weight_X2_isWithin : GoodIn wsX2_weight wsX2_isWithin := goodIn_r _ [8] (by decide +kernel) (by decide +kernel)
set_option maxRecDepth 20000 in
theorem gX2_weight_X2_isWithin : GoodIn wsX2_weight (va_wsS RX2 43 yX2_isWithin wsX2_isWithin) := goodIn_app (goodIn_of _ (by decide +kernel)) ggX2_weight_X2_isWithin
set_option maxRecDepth 20000 in
theorem ggX2_weight_X1_weightSum : GoodIn wsX2_weight wsX1_weightSum := goodIn_r _ [13, 14, 15, 24, 25, 26, 27, 28, 29, 30, 31, 32, 33, 34, 35, 36] (by decide +kernel) (by decide +kernel)
set_option maxRecDepth 20000 in
theorem gX2_weight_X1_weightSum : GoodIn wsX2_weight (wsV RX2 156 RX1 yX1_weightSum wsX1_weightSum) := goodIn_app (goodIn_of _ (by decide +kernel)) ggX2_weight_X1_weightSum
theorem dX2_weight_0 : decode cX2_weight 0 = .ok (.iload_n 1, 1) := by decide +kernel
theorem dX2_weight_1 : decode cX2_weight 1 = .ok (.iconst 0, 1) := by decide +kernel
theorem dX2_weight_2 : decode cX2_weight 2 = .ok (.iconst 5, 1) := by decide +kernel
theorem dX2_weight_3 : decode cX2_weight 3 = .ok (.invokestatic 43, 3) := by decide +kernel
theorem dX2_weight_6 : decode cX2_weight 6 = .ok (.ifCond .ne 13, 3) := by decide +kernel
theorem dX2_weight_9 : decode cX2_weight 9 = .ok (.new 68, 3) := by decide +kernel
theorem dX2_weight_12 : decode cX2_weight 12 = .ok (.dup, 1) := by decide +kernel
theorem dX2_weight_13 : decode cX2_weight 13 = .ok (.ldc 191, 2) := by decide +kernel
theorem dX2_weight_15 : decode cX2_weight 15 = .ok (.invokespecial 72, 3) := by decide +kernel
theorem dX2_weight_18 : decode cX2_weight 18 = .ok (.athrow, 1) := by decide +kernel
theorem dX2_weight_19 : decode cX2_weight 19 = .ok (.iconst 0, 1) := by decide +kernel
theorem dX2_weight_20 : decode cX2_weight 20 = .ok (.istore_n 2, 1) := by decide +kernel
theorem dX2_weight_21 : decode cX2_weight 21 = .ok (.aload_n 0, 1) := by decide +kernel
theorem dX2_weight_22 : decode cX2_weight 22 = .ok (.getfield 17, 3) := by decide +kernel
theorem dX2_weight_25 : decode cX2_weight 25 = .ok (.astore_n 3, 1) := by decide +kernel
theorem dX2_weight_26 : decode cX2_weight 26 = .ok (.aload_n 3, 1) := by decide +kernel
theorem dX2_weight_27 : decode cX2_weight 27 = .ok (.arraylength, 1) := by decide +kernel
theorem dX2_weight_28 : decode cX2_weight 28 = .ok (.istore 4, 2) := by decide +kernel
theorem dX2_weight_30 : decode cX2_weight 30 = .ok (.iconst 0, 1) := by decide +kernel
theorem dX2_weight_31 : decode cX2_weight 31 = .ok (.istore 5, 2) := by decide +kernel
theorem dX2_weight_33 : decode cX2_weight 33 = .ok (.iload 5, 2) := by decide +kernel
theorem dX2_weight_35 : decode cX2_weight 35 = .ok (.iload 4, 2) := by decide +kernel
theorem dX2_weight_37 : decode cX2_weight 37 = .ok (.if_icmp .ge 37, 3) := by decide +kernel
theorem dX2_weight_40 : decode cX2_weight 40 = .ok (.aload_n 3, 1) := by decide +kernel
theorem dX2_weight_41 : decode cX2_weight 41 = .ok (.iload 5, 2) := by decide +kernel
theorem dX2_weight_43 : decode cX2_weight 43 = .ok (.aaload, 1) := by decide +kernel
theorem dX2_weight_44 : decode cX2_weight 44 = .ok (.astore 6, 2) := by decide +kernel
theorem dX2_weight_46 : decode cX2_weight 46 = .ok (.aload 6, 2) := by decide +kernel
theorem dX2_weight_48 : decode cX2_weight 48 = .ok (.ifnull 20, 3) := by decide +kernel
theorem dX2_weight_51 : decode cX2_weight 51 = .ok (.aload 6, 2) := by decide +kernel
theorem dX2_weight_53 : decode cX2_weight 53 = .ok (.getfield 193, 3) := by decide +kernel
theorem dX2_weight_56 : decode cX2_weight 56 = .ok (.iload_n 1, 1) := by decide +kernel
theorem dX2_weight_57 : decode cX2_weight 57 = .ok (.if_icmp .ne 11, 3) := by decide +kernel
theorem dX2_weight_60 : decode cX2_weight 60 = .ok (.iload_n 2, 1) := by decide +kernel
theorem dX2_weight_61 : decode cX2_weight 61 = .ok (.aload 6, 2) := by decide +kernel
theorem dX2_weight_63 : decode cX2_weight 63 = .ok (.invokevirtual 156, 3) := by decide +kernel
theorem dX2_weight_66 : decode cX2_weight 66 = .ok (.iadd, 1) := by decide +kernel
theorem dX2_weight_67 : decode cX2_weight 67 = .ok (.istore_n 2, 1) := by decide +kernel
theorem dX2_weight_68 : decode cX2_weight 68 = .ok (.iinc 5 1, 3) := by decide +kernel
theorem dX2_weight_71 : decode cX2_weight 71 = .ok (.goto (-38), 3) := by decide +kernel
theorem dX2_weight_74 : decode cX2_weight 74 = .ok (.iload_n 2, 1) := by decide +kernel
theorem dX2_weight_75 : decode cX2_weight 75 = .ok (.ireturn, 1) := by decide +kernel
set_option maxRecDepth 20000 in
theorem ggX2_blocked_X0_isBlocked : GoodIn wsX2_blocked wsX0_isBlocked := goodIn_r _ [6, 7, 8, 9, 10, 11, 12, 13, 14, 15, 16, 17, 26, 27, 28, 29, 30, 31, 32, 33, 34, 35, 36, 37, 38] (by decide +kernel) (by decide +kernel)
set_option maxRecDepth 20000 in
theorem gX2_blocked_X0_isBlocked : GoodIn wsX2_blocked (wsV RX2 196 RX0 yX0_isBlocked wsX0_isBlocked) := goodIn_app (goodIn_of _ (by decide +kernel)) ggX2_blocked_X0_isBlocked
theorem dX2_blocked_0 : decode cX2_blocked 0 = .ok (.iconst 0, 1) := by decide +kernel
theorem dX2_blocked_1 : decode cX2_blocked 1 = .ok (.istore_n 1, 1) := by decide +kernel
theorem dX2_blocked_2 : decode cX2_blocked 2 = .ok (.aload_n 0, 1) := by decide +kernel
theorem dX2_blocked_3 : decode cX2_blocked 3 = .ok (.getfield 11, 3) := by decide +kernel
theorem dX2_blocked_6 : decode cX2_blocked 6 = .ok (.astore_n 2, 1) := by decide +kernel
theorem dX2_blocked_7 : decode cX2_blocked 7 = .ok (.aload_n 2, 1) := by decide +kernel
theorem dX2_blocked_8 : decode cX2_blocked 8 = .ok (.arraylength, 1) := by decide +kernel
theorem dX2_blocked_9 : decode cX2_blocked 9 = .ok (.istore_n 3, 1) := by decide +kernel
theorem dX2_blocked_10 : decode cX2_blocked 10 = .ok (.iconst 0, 1) := by decide +kernel
theorem dX2_blocked_11 : decode cX2_blocked 11 = .ok (.istore 4, 2) := by decide +kernel
theorem dX2_blocked_13 : decode cX2_blocked 13 = .ok (.iload 4, 2) := by decide +kernel
theorem dX2_blocked_15 : decode cX2_blocked 15 = .ok (.iload_n 3, 1) := by decide +kernel
theorem dX2_blocked_16 : decode cX2_blocked 16 = .ok (.if_icmp .ge 31, 3) := by decide +kernel
theorem dX2_blocked_19 : decode cX2_blocked 19 = .ok (.aload_n 2, 1) := by decide +kernel
theorem dX2_blocked_20 : decode cX2_blocked 20 = .ok (.iload 4, 2) := by decide +kernel
theorem dX2_blocked_22 : decode cX2_blocked 22 = .ok (.aaload, 1) := by decide +kernel
theorem dX2_blocked_23 : decode cX2_blocked 23 = .ok (.astore 5, 2) := by decide +kernel
theorem dX2_blocked_25 : decode cX2_blocked 25 = .ok (.aload 5, 2) := by decide +kernel
theorem dX2_blocked_27 : decode cX2_blocked 27 = .ok (.ifnull 14, 3) := by decide +kernel
theorem dX2_blocked_30 : decode cX2_blocked 30 = .ok (.aload 5, 2) := by decide +kernel
theorem dX2_blocked_32 : decode cX2_blocked 32 = .ok (.invokevirtual 196, 3) := by decide +kernel
theorem dX2_blocked_35 : decode cX2_blocked 35 = .ok (.ifCond .eq 6, 3) := by decide +kernel
theorem dX2_blocked_38 : decode cX2_blocked 38 = .ok (.iinc 1 1, 3) := by decide +kernel
end
section
theorem dX2_blocked_41 : decode cX2_blocked 41 = .ok (.iinc 4 1, 3) := by decide +kernel
theorem dX2_blocked_44 : decode cX2_blocked 44 = .ok (.goto (-31), 3) := by decide +kernel
theorem dX2_blocked_47 : decode cX2_blocked 47 = .ok (.iload_n 1, 1) := by decide +kernel
theorem dX2_blocked_48 : decode cX2_blocked 48 = .ok (.ireturn, 1) := by decide +kernel
set_option maxRecDepth 20000 in
theorem ggX2_lifts_X2_isWithin : GoodIn wsX2_lifts wsX2_isWithin := goodIn_r _ [7] (by decide +kernel) (by decide +kernel)
set_option maxRecDepth 20000 in
theorem gX2_lifts_X2_isWithin : GoodIn wsX2_lifts (va_wsS RX2 43 yX2_isWithin wsX2_isWithin) := goodIn_app (goodIn_of _ (by decide +kernel)) ggX2_lifts_X2_isWithin
set_option maxRecDepth 20000 in
theorem ggX2_lifts_X1_liftsFor : GoodIn wsX2_lifts wsX1_liftsFor := goodIn_r _ [12, 13, 14, 23, 24, 25, 26, 27, 28, 29, 30, 31, 32, 33, 34, 35] (by decide +kernel) (by decide +kernel)
set_option maxRecDepth 20000 in
theorem gX2_lifts_X1_liftsFor : GoodIn wsX2_lifts (wsV RX2 138 RX1 yX1_liftsFor wsX1_liftsFor) := goodIn_app (goodIn_of _ (by decide +kernel)) ggX2_lifts_X1_liftsFor
theorem dX2_lifts_0 : decode cX2_lifts 0 = .ok (.iload_n 1, 1) := by decide +kernel
theorem dX2_lifts_1 : decode cX2_lifts 1 = .ok (.iconst 0, 1) := by decide +kernel
theorem dX2_lifts_2 : decode cX2_lifts 2 = .ok (.iconst 5, 1) := by decide +kernel
theorem dX2_lifts_3 : decode cX2_lifts 3 = .ok (.invokestatic 43, 3) := by decide +kernel
theorem dX2_lifts_6 : decode cX2_lifts 6 = .ok (.ifCond .ne 13, 3) := by decide +kernel
theorem dX2_lifts_9 : decode cX2_lifts 9 = .ok (.new 68, 3) := by decide +kernel
theorem dX2_lifts_12 : decode cX2_lifts 12 = .ok (.dup, 1) := by decide +kernel
theorem dX2_lifts_13 : decode cX2_lifts 13 = .ok (.ldc 199, 2) := by decide +kernel
theorem dX2_lifts_15 : decode cX2_lifts 15 = .ok (.invokespecial 72, 3) := by decide +kernel
theorem dX2_lifts_18 : decode cX2_lifts 18 = .ok (.athrow, 1) := by decide +kernel
theorem dX2_lifts_19 : decode cX2_lifts 19 = .ok (.iconst 0, 1) := by decide +kernel
theorem dX2_lifts_20 : decode cX2_lifts 20 = .ok (.istore_n 2, 1) := by decide +kernel
theorem dX2_lifts_21 : decode cX2_lifts 21 = .ok (.aload_n 0, 1) := by decide +kernel
theorem dX2_lifts_22 : decode cX2_lifts 22 = .ok (.getfield 17, 3) := by decide +kernel
theorem dX2_lifts_25 : decode cX2_lifts 25 = .ok (.astore_n 3, 1) := by decide +kernel
theorem dX2_lifts_26 : decode cX2_lifts 26 = .ok (.aload_n 3, 1) := by decide +kernel
theorem dX2_lifts_27 : decode cX2_lifts 27 = .ok (.arraylength, 1) := by decide +kernel
theorem dX2_lifts_28 : decode cX2_lifts 28 = .ok (.istore 4, 2) := by decide +kernel
theorem dX2_lifts_30 : decode cX2_lifts 30 = .ok (.iconst 0, 1) := by decide +kernel
theorem dX2_lifts_31 : decode cX2_lifts 31 = .ok (.istore 5, 2) := by decide +kernel
theorem dX2_lifts_33 : decode cX2_lifts 33 = .ok (.iload 5, 2) := by decide +kernel
theorem dX2_lifts_35 : decode cX2_lifts 35 = .ok (.iload 4, 2) := by decide +kernel
theorem dX2_lifts_37 : decode cX2_lifts 37 = .ok (.if_icmp .ge 29, 3) := by decide +kernel
theorem dX2_lifts_40 : decode cX2_lifts 40 = .ok (.aload_n 3, 1) := by decide +kernel
theorem dX2_lifts_41 : decode cX2_lifts 41 = .ok (.iload 5, 2) := by decide +kernel
theorem dX2_lifts_43 : decode cX2_lifts 43 = .ok (.aaload, 1) := by decide +kernel
theorem dX2_lifts_44 : decode cX2_lifts 44 = .ok (.astore 6, 2) := by decide +kernel
theorem dX2_lifts_46 : decode cX2_lifts 46 = .ok (.aload 6, 2) := by decide +kernel
theorem dX2_lifts_48 : decode cX2_lifts 48 = .ok (.ifnull 12, 3) := by decide +kernel
theorem dX2_lifts_51 : decode cX2_lifts 51 = .ok (.iload_n 2, 1) := by decide +kernel
theorem dX2_lifts_52 : decode cX2_lifts 52 = .ok (.aload 6, 2) := by decide +kernel
theorem dX2_lifts_54 : decode cX2_lifts 54 = .ok (.iload_n 1, 1) := by decide +kernel
theorem dX2_lifts_55 : decode cX2_lifts 55 = .ok (.invokevirtual 138, 3) := by decide +kernel
theorem dX2_lifts_58 : decode cX2_lifts 58 = .ok (.iadd, 1) := by decide +kernel
theorem dX2_lifts_59 : decode cX2_lifts 59 = .ok (.istore_n 2, 1) := by decide +kernel
theorem dX2_lifts_60 : decode cX2_lifts 60 = .ok (.iinc 5 1, 3) := by decide +kernel
theorem dX2_lifts_63 : decode cX2_lifts 63 = .ok (.goto (-30), 3) := by decide +kernel
theorem dX2_lifts_66 : decode cX2_lifts 66 = .ok (.iload_n 2, 1) := by decide +kernel
theorem dX2_lifts_67 : decode cX2_lifts 67 = .ok (.ireturn, 1) := by decide +kernel
theorem dX2_freePlugs_0 : decode cX2_freePlugs 0 = .ok (.iconst 0, 1) := by decide +kernel
theorem dX2_freePlugs_1 : decode cX2_freePlugs 1 = .ok (.istore_n 1, 1) := by decide +kernel
theorem dX2_freePlugs_2 : decode cX2_freePlugs 2 = .ok (.aload_n 0, 1) := by decide +kernel
theorem dX2_freePlugs_3 : decode cX2_freePlugs 3 = .ok (.getfield 17, 3) := by decide +kernel
theorem dX2_freePlugs_6 : decode cX2_freePlugs 6 = .ok (.astore_n 2, 1) := by decide +kernel
theorem dX2_freePlugs_7 : decode cX2_freePlugs 7 = .ok (.aload_n 2, 1) := by decide +kernel
theorem dX2_freePlugs_8 : decode cX2_freePlugs 8 = .ok (.arraylength, 1) := by decide +kernel
theorem dX2_freePlugs_9 : decode cX2_freePlugs 9 = .ok (.istore_n 3, 1) := by decide +kernel
theorem dX2_freePlugs_10 : decode cX2_freePlugs 10 = .ok (.iconst 0, 1) := by decide +kernel
theorem dX2_freePlugs_11 : decode cX2_freePlugs 11 = .ok (.istore 4, 2) := by decide +kernel
theorem dX2_freePlugs_13 : decode cX2_freePlugs 13 = .ok (.iload 4, 2) := by decide +kernel
theorem dX2_freePlugs_15 : decode cX2_freePlugs 15 = .ok (.iload_n 3, 1) := by decide +kernel
theorem dX2_freePlugs_16 : decode cX2_freePlugs 16 = .ok (.if_icmp .ge 47, 3) := by decide +kernel
theorem dX2_freePlugs_19 : decode cX2_freePlugs 19 = .ok (.aload_n 2, 1) := by decide +kernel
theorem dX2_freePlugs_20 : decode cX2_freePlugs 20 = .ok (.iload 4, 2) := by decide +kernel
theorem dX2_freePlugs_22 : decode cX2_freePlugs 22 = .ok (.aaload, 1) := by decide +kernel
theorem dX2_freePlugs_23 : decode cX2_freePlugs 23 = .ok (.astore 5, 2) := by decide +kernel
theorem dX2_freePlugs_25 : decode cX2_freePlugs 25 = .ok (.aload 5, 2) := by decide +kernel
theorem dX2_freePlugs_27 : decode cX2_freePlugs 27 = .ok (.ifnull 30, 3) := by decide +kernel
theorem dX2_freePlugs_30 : decode cX2_freePlugs 30 = .ok (.aload 5, 2) := by decide +kernel
theorem dX2_freePlugs_32 : decode cX2_freePlugs 32 = .ok (.getfield 91, 3) := by decide +kernel
theorem dX2_freePlugs_35 : decode cX2_freePlugs 35 = .ok (.ifCond .eq 22, 3) := by decide +kernel
theorem dX2_freePlugs_38 : decode cX2_freePlugs 38 = .ok (.aload 5, 2) := by decide +kernel
theorem dX2_freePlugs_40 : decode cX2_freePlugs 40 = .ok (.getfield 201, 3) := by decide +kernel
theorem dX2_freePlugs_43 : decode cX2_freePlugs 43 = .ok (.iconst 2, 1) := by decide +kernel
theorem dX2_freePlugs_44 : decode cX2_freePlugs 44 = .ok (.if_icmp .ge 13, 3) := by decide +kernel
theorem dX2_freePlugs_47 : decode cX2_freePlugs 47 = .ok (.iload_n 1, 1) := by decide +kernel
theorem dX2_freePlugs_48 : decode cX2_freePlugs 48 = .ok (.iconst 2, 1) := by decide +kernel
theorem dX2_freePlugs_49 : decode cX2_freePlugs 49 = .ok (.aload 5, 2) := by decide +kernel
theorem dX2_freePlugs_51 : decode cX2_freePlugs 51 = .ok (.getfield 201, 3) := by decide +kernel
theorem dX2_freePlugs_54 : decode cX2_freePlugs 54 = .ok (.isub, 1) := by decide +kernel
theorem dX2_freePlugs_55 : decode cX2_freePlugs 55 = .ok (.iadd, 1) := by decide +kernel
theorem dX2_freePlugs_56 : decode cX2_freePlugs 56 = .ok (.istore_n 1, 1) := by decide +kernel
theorem dX2_freePlugs_57 : decode cX2_freePlugs 57 = .ok (.iinc 4 1, 3) := by decide +kernel
theorem dX2_freePlugs_60 : decode cX2_freePlugs 60 = .ok (.goto (-47), 3) := by decide +kernel
theorem dX2_freePlugs_63 : decode cX2_freePlugs 63 = .ok (.iload_n 1, 1) := by decide +kernel
theorem dX2_freePlugs_64 : decode cX2_freePlugs 64 = .ok (.ireturn, 1) := by decide +kernel
set_option maxRecDepth 20000 in
theorem ggX2_choices_X2_boxNumbered : GoodIn wsX2_choices wsX2_boxNumbered := goodIn_r _ [8, 9, 64, 65, 66, 67, 68, 69, 70, 71] (by decide +kernel) (by decide +kernel)
set_option maxRecDepth 20000 in
theorem gX2_choices_X2_boxNumbered : GoodIn wsX2_choices (wsV RX2 64 RX2 yX2_boxNumbered wsX2_boxNumbered) := goodIn_app (goodIn_of _ (by decide +kernel)) ggX2_choices_X2_boxNumbered
set_option maxRecDepth 20000 in
theorem ggX2_choices_X2_isLoadable : GoodIn wsX2_choices wsX2_isLoadable := goodIn_r _ [13, 14, 15, 16, 17, 18, 19, 20, 21, 22, 23, 24, 25, 26, 27, 28, 29, 30, 31, 32, 33, 34, 35, 36, 37, 38, 39, 40, 41, 42, 43, 44, 45, 46, 7, 47, 9, 48, 49, 50, 51, 52, 53, 54, 55, 56, 57, 58, 59, 60, 61, 62, 63, 64, 65, 66, 67, 68, 69, 70, 71, 72, 73, 74, 75, 76, 77, 78, 79, 80, 81, 82, 83, 84] (by decide +kernel) (by decide +kernel)
set_option maxRecDepth 20000 in
theorem gX2_choices_X2_isLoadable : GoodIn wsX2_choices (wsV RX2 97 RX2 yX2_isLoadable wsX2_isLoadable) := goodIn_app (goodIn_of _ (by decide +kernel)) ggX2_choices_X2_isLoadable
theorem dX2_choices_0 : decode cX2_choices 0 = .ok (.aload_n 0, 1) := by decide +kernel
theorem dX2_choices_1 : decode cX2_choices 1 = .ok (.iload_n 1, 1) := by decide +kernel
theorem dX2_choices_2 : decode cX2_choices 2 = .ok (.invokevirtual 64, 3) := by decide +kernel
theorem dX2_choices_5 : decode cX2_choices 5 = .ok (.astore_n 2, 1) := by decide +kernel
theorem dX2_choices_6 : decode cX2_choices 6 = .ok (.aload_n 2, 1) := by decide +kernel
theorem dX2_choices_7 : decode cX2_choices 7 = .ok (.ifnonnull 13, 3) := by decide +kernel
theorem dX2_choices_10 : decode cX2_choices 10 = .ok (.new 68, 3) := by decide +kernel
theorem dX2_choices_13 : decode cX2_choices 13 = .ok (.dup, 1) := by decide +kernel
theorem dX2_choices_14 : decode cX2_choices 14 = .ok (.ldc 150, 2) := by decide +kernel
theorem dX2_choices_16 : decode cX2_choices 16 = .ok (.invokespecial 72, 3) := by decide +kernel
theorem dX2_choices_19 : decode cX2_choices 19 = .ok (.athrow, 1) := by decide +kernel
theorem dX2_choices_20 : decode cX2_choices 20 = .ok (.iconst 0, 1) := by decide +kernel
theorem dX2_choices_21 : decode cX2_choices 21 = .ok (.istore_n 3, 1) := by decide +kernel
theorem dX2_choices_22 : decode cX2_choices 22 = .ok (.aload_n 0, 1) := by decide +kernel
theorem dX2_choices_23 : decode cX2_choices 23 = .ok (.getfield 17, 3) := by decide +kernel
theorem dX2_choices_26 : decode cX2_choices 26 = .ok (.astore 4, 2) := by decide +kernel
theorem dX2_choices_28 : decode cX2_choices 28 = .ok (.aload 4, 2) := by decide +kernel
theorem dX2_choices_30 : decode cX2_choices 30 = .ok (.arraylength, 1) := by decide +kernel
theorem dX2_choices_31 : decode cX2_choices 31 = .ok (.istore 5, 2) := by decide +kernel
theorem dX2_choices_33 : decode cX2_choices 33 = .ok (.iconst 0, 1) := by decide +kernel
theorem dX2_choices_34 : decode cX2_choices 34 = .ok (.istore 6, 2) := by decide +kernel
theorem dX2_choices_36 : decode cX2_choices 36 = .ok (.iload 6, 2) := by decide +kernel
theorem dX2_choices_38 : decode cX2_choices 38 = .ok (.iload 5, 2) := by decide +kernel
theorem dX2_choices_40 : decode cX2_choices 40 = .ok (.if_icmp .ge 29, 3) := by decide +kernel
theorem dX2_choices_43 : decode cX2_choices 43 = .ok (.aload 4, 2) := by decide +kernel
theorem dX2_choices_45 : decode cX2_choices 45 = .ok (.iload 6, 2) := by decide +kernel
theorem dX2_choices_47 : decode cX2_choices 47 = .ok (.aaload, 1) := by decide +kernel
theorem dX2_choices_48 : decode cX2_choices 48 = .ok (.astore 7, 2) := by decide +kernel
theorem dX2_choices_50 : decode cX2_choices 50 = .ok (.aload_n 0, 1) := by decide +kernel
theorem dX2_choices_51 : decode cX2_choices 51 = .ok (.aload_n 2, 1) := by decide +kernel
theorem dX2_choices_52 : decode cX2_choices 52 = .ok (.aload 7, 2) := by decide +kernel
theorem dX2_choices_54 : decode cX2_choices 54 = .ok (.invokevirtual 97, 3) := by decide +kernel
theorem dX2_choices_57 : decode cX2_choices 57 = .ok (.ifCond .eq 6, 3) := by decide +kernel
theorem dX2_choices_60 : decode cX2_choices 60 = .ok (.iinc 3 1, 3) := by decide +kernel
theorem dX2_choices_63 : decode cX2_choices 63 = .ok (.iinc 6 1, 3) := by decide +kernel
theorem dX2_choices_66 : decode cX2_choices 66 = .ok (.goto (-30), 3) := by decide +kernel
theorem dX2_choices_69 : decode cX2_choices 69 = .ok (.iload_n 3, 1) := by decide +kernel
theorem dX2_choices_70 : decode cX2_choices 70 = .ok (.ireturn, 1) := by decide +kernel
theorem dX2_lifted_0 : decode cX2_lifted 0 = .ok (.aload_n 0, 1) := by decide +kernel
theorem dX2_lifted_1 : decode cX2_lifted 1 = .ok (.getfield 37, 3) := by decide +kernel
theorem dX2_lifted_4 : decode cX2_lifted 4 = .ok (.ireturn, 1) := by decide +kernel
set_option maxRecDepth 20000 in
theorem ggX2_digest_X2_mix : GoodIn wsX2_digest wsX2_mix := goodIn_r _ [14, 15] (by decide +kernel) (by decide +kernel)
set_option maxRecDepth 20000 in
theorem gX2_digest_X2_mix : GoodIn wsX2_digest (va_wsS RX2 206 yX2_mix wsX2_mix) := goodIn_app (goodIn_of _ (by decide +kernel)) ggX2_digest_X2_mix
set_option maxRecDepth 20000 in
theorem ggX2_digest_X2_mixBox : GoodIn wsX2_digest wsX2_mixBox := goodIn_r _ [18, 19, 20, 21, 22, 23, 24, 25, 26, 27, 28, 29, 30, 31, 32, 33, 11, 12, 13, 14, 15, 34, 35, 36, 37, 38, 39, 40, 75, 76, 77, 78, 79, 80, 81, 82, 70, 71, 72, 73, 74] (by decide +kernel) (by decide +kernel)
set_option maxRecDepth 20000 in
theorem gX2_digest_X2_mixBox : GoodIn wsX2_digest (va_wsS RX2 210 yX2_mixBox wsX2_mixBox) := goodIn_app (goodIn_of _ (by decide +kernel)) ggX2_digest_X2_mixBox
set_option maxRecDepth 20000 in
theorem ggX2_digest_X2_moment : GoodIn wsX2_digest wsX2_moment := goodIn_r _ [44, 8, 45, 46, 47, 48, 49, 50, 51, 52, 53, 54, 55, 56, 57, 58, 59, 60, 61, 62, 63, 64, 65, 66, 67, 68, 69, 70, 71, 72, 73, 74, 75, 76, 77, 78, 79, 80, 81, 82] (by decide +kernel) (by decide +kernel)
set_option maxRecDepth 20000 in
theorem gX2_digest_X2_moment : GoodIn wsX2_digest (wsV RX2 172 RX2 yX2_moment wsX2_moment) := goodIn_app (goodIn_of _ (by decide +kernel)) ggX2_digest_X2_moment
theorem dX2_digest_0 : decode cX2_digest 0 = .ok (.ldc2_w 204, 3) := by decide +kernel
theorem dX2_digest_3 : decode cX2_digest 3 = .ok (.aload_n 0, 1) := by decide +kernel
theorem dX2_digest_4 : decode cX2_digest 4 = .ok (.getfield 25, 3) := by decide +kernel
theorem dX2_digest_7 : decode cX2_digest 7 = .ok (.i2l, 1) := by decide +kernel
theorem dX2_digest_8 : decode cX2_digest 8 = .ok (.invokestatic 206, 3) := by decide +kernel
theorem dX2_digest_11 : decode cX2_digest 11 = .ok (.lstore_n 1, 1) := by decide +kernel
theorem dX2_digest_12 : decode cX2_digest 12 = .ok (.lload_n 1, 1) := by decide +kernel
theorem dX2_digest_13 : decode cX2_digest 13 = .ok (.aload_n 0, 1) := by decide +kernel
theorem dX2_digest_14 : decode cX2_digest 14 = .ok (.getfield 21, 3) := by decide +kernel
theorem dX2_digest_17 : decode cX2_digest 17 = .ok (.i2l, 1) := by decide +kernel
theorem dX2_digest_18 : decode cX2_digest 18 = .ok (.invokestatic 206, 3) := by decide +kernel
theorem dX2_digest_21 : decode cX2_digest 21 = .ok (.lstore_n 1, 1) := by decide +kernel
theorem dX2_digest_22 : decode cX2_digest 22 = .ok (.aload_n 0, 1) := by decide +kernel
theorem dX2_digest_23 : decode cX2_digest 23 = .ok (.getfield 11, 3) := by decide +kernel
theorem dX2_digest_26 : decode cX2_digest 26 = .ok (.astore_n 3, 1) := by decide +kernel
theorem dX2_digest_27 : decode cX2_digest 27 = .ok (.aload_n 3, 1) := by decide +kernel
theorem dX2_digest_28 : decode cX2_digest 28 = .ok (.arraylength, 1) := by decide +kernel
theorem dX2_digest_29 : decode cX2_digest 29 = .ok (.istore 4, 2) := by decide +kernel
theorem dX2_digest_31 : decode cX2_digest 31 = .ok (.iconst 0, 1) := by decide +kernel
theorem dX2_digest_32 : decode cX2_digest 32 = .ok (.istore 5, 2) := by decide +kernel
theorem dX2_digest_34 : decode cX2_digest 34 = .ok (.iload 5, 2) := by decide +kernel
theorem dX2_digest_36 : decode cX2_digest 36 = .ok (.iload 4, 2) := by decide +kernel
theorem dX2_digest_38 : decode cX2_digest 38 = .ok (.if_icmp .ge 27, 3) := by decide +kernel
theorem dX2_digest_41 : decode cX2_digest 41 = .ok (.aload_n 3, 1) := by decide +kernel
theorem dX2_digest_42 : decode cX2_digest 42 = .ok (.iload 5, 2) := by decide +kernel
theorem dX2_digest_44 : decode cX2_digest 44 = .ok (.aaload, 1) := by decide +kernel
theorem dX2_digest_45 : decode cX2_digest 45 = .ok (.astore 6, 2) := by decide +kernel
theorem dX2_digest_47 : decode cX2_digest 47 = .ok (.aload 6, 2) := by decide +kernel
theorem dX2_digest_49 : decode cX2_digest 49 = .ok (.ifnull 10, 3) := by decide +kernel
theorem dX2_digest_52 : decode cX2_digest 52 = .ok (.lload_n 1, 1) := by decide +kernel
theorem dX2_digest_53 : decode cX2_digest 53 = .ok (.aload 6, 2) := by decide +kernel
theorem dX2_digest_55 : decode cX2_digest 55 = .ok (.invokestatic 210, 3) := by decide +kernel
theorem dX2_digest_58 : decode cX2_digest 58 = .ok (.lstore_n 1, 1) := by decide +kernel
theorem dX2_digest_59 : decode cX2_digest 59 = .ok (.iinc 5 1, 3) := by decide +kernel
theorem dX2_digest_62 : decode cX2_digest 62 = .ok (.goto (-28), 3) := by decide +kernel
theorem dX2_digest_65 : decode cX2_digest 65 = .ok (.lload_n 1, 1) := by decide +kernel
theorem dX2_digest_66 : decode cX2_digest 66 = .ok (.aload_n 0, 1) := by decide +kernel
theorem dX2_digest_67 : decode cX2_digest 67 = .ok (.getfield 28, 3) := by decide +kernel
theorem dX2_digest_70 : decode cX2_digest 70 = .ok (.i2l, 1) := by decide +kernel
theorem dX2_digest_71 : decode cX2_digest 71 = .ok (.invokestatic 206, 3) := by decide +kernel
theorem dX2_digest_74 : decode cX2_digest 74 = .ok (.aload_n 0, 1) := by decide +kernel
theorem dX2_digest_75 : decode cX2_digest 75 = .ok (.getfield 31, 3) := by decide +kernel
theorem dX2_digest_78 : decode cX2_digest 78 = .ok (.i2l, 1) := by decide +kernel
theorem dX2_digest_79 : decode cX2_digest 79 = .ok (.invokestatic 206, 3) := by decide +kernel
theorem dX2_digest_82 : decode cX2_digest 82 = .ok (.aload_n 0, 1) := by decide +kernel
theorem dX2_digest_83 : decode cX2_digest 83 = .ok (.getfield 34, 3) := by decide +kernel
theorem dX2_digest_86 : decode cX2_digest 86 = .ok (.i2l, 1) := by decide +kernel
theorem dX2_digest_87 : decode cX2_digest 87 = .ok (.invokestatic 206, 3) := by decide +kernel
theorem dX2_digest_90 : decode cX2_digest 90 = .ok (.lstore_n 1, 1) := by decide +kernel
theorem dX2_digest_91 : decode cX2_digest 91 = .ok (.aload_n 0, 1) := by decide +kernel
theorem dX2_digest_92 : decode cX2_digest 92 = .ok (.getfield 17, 3) := by decide +kernel
theorem dX2_digest_95 : decode cX2_digest 95 = .ok (.astore_n 3, 1) := by decide +kernel
theorem dX2_digest_96 : decode cX2_digest 96 = .ok (.aload_n 3, 1) := by decide +kernel
theorem dX2_digest_97 : decode cX2_digest 97 = .ok (.arraylength, 1) := by decide +kernel
theorem dX2_digest_98 : decode cX2_digest 98 = .ok (.istore 4, 2) := by decide +kernel
theorem dX2_digest_100 : decode cX2_digest 100 = .ok (.iconst 0, 1) := by decide +kernel
theorem dX2_digest_101 : decode cX2_digest 101 = .ok (.istore 5, 2) := by decide +kernel
theorem dX2_digest_103 : decode cX2_digest 103 = .ok (.iload 5, 2) := by decide +kernel
theorem dX2_digest_105 : decode cX2_digest 105 = .ok (.iload 4, 2) := by decide +kernel
theorem dX2_digest_107 : decode cX2_digest 107 = .ok (.if_icmp .ge 38, 3) := by decide +kernel
theorem dX2_digest_110 : decode cX2_digest 110 = .ok (.aload_n 3, 1) := by decide +kernel
theorem dX2_digest_111 : decode cX2_digest 111 = .ok (.iload 5, 2) := by decide +kernel
theorem dX2_digest_113 : decode cX2_digest 113 = .ok (.aaload, 1) := by decide +kernel
theorem dX2_digest_114 : decode cX2_digest 114 = .ok (.astore 6, 2) := by decide +kernel
theorem dX2_digest_116 : decode cX2_digest 116 = .ok (.aload 6, 2) := by decide +kernel
theorem dX2_digest_118 : decode cX2_digest 118 = .ok (.ifnull 21, 3) := by decide +kernel
theorem dX2_digest_121 : decode cX2_digest 121 = .ok (.lload_n 1, 1) := by decide +kernel
theorem dX2_digest_122 : decode cX2_digest 122 = .ok (.aload 6, 2) := by decide +kernel
theorem dX2_digest_124 : decode cX2_digest 124 = .ok (.getfield 91, 3) := by decide +kernel
theorem dX2_digest_127 : decode cX2_digest 127 = .ok (.ifCond .eq 7, 3) := by decide +kernel
theorem dX2_digest_130 : decode cX2_digest 130 = .ok (.lconst 1, 1) := by decide +kernel
theorem dX2_digest_131 : decode cX2_digest 131 = .ok (.goto 4, 3) := by decide +kernel
theorem dX2_digest_134 : decode cX2_digest 134 = .ok (.lconst 0, 1) := by decide +kernel
theorem dX2_digest_135 : decode cX2_digest 135 = .ok (.invokestatic 206, 3) := by decide +kernel
theorem dX2_digest_138 : decode cX2_digest 138 = .ok (.lstore_n 1, 1) := by decide +kernel
theorem dX2_digest_139 : decode cX2_digest 139 = .ok (.iinc 5 1, 3) := by decide +kernel
theorem dX2_digest_142 : decode cX2_digest 142 = .ok (.goto (-39), 3) := by decide +kernel
theorem dX2_digest_145 : decode cX2_digest 145 = .ok (.lload_n 1, 1) := by decide +kernel
theorem dX2_digest_146 : decode cX2_digest 146 = .ok (.aload_n 0, 1) := by decide +kernel
theorem dX2_digest_147 : decode cX2_digest 147 = .ok (.iconst 0, 1) := by decide +kernel
theorem dX2_digest_148 : decode cX2_digest 148 = .ok (.invokevirtual 172, 3) := by decide +kernel
theorem dX2_digest_151 : decode cX2_digest 151 = .ok (.i2l, 1) := by decide +kernel
theorem dX2_digest_152 : decode cX2_digest 152 = .ok (.invokestatic 206, 3) := by decide +kernel
theorem dX2_digest_155 : decode cX2_digest 155 = .ok (.aload_n 0, 1) := by decide +kernel
theorem dX2_digest_156 : decode cX2_digest 156 = .ok (.iconst 1, 1) := by decide +kernel
theorem dX2_digest_157 : decode cX2_digest 157 = .ok (.invokevirtual 172, 3) := by decide +kernel
theorem dX2_digest_160 : decode cX2_digest 160 = .ok (.i2l, 1) := by decide +kernel
theorem dX2_digest_161 : decode cX2_digest 161 = .ok (.invokestatic 206, 3) := by decide +kernel
theorem dX2_digest_164 : decode cX2_digest 164 = .ok (.aload_n 0, 1) := by decide +kernel
theorem dX2_digest_165 : decode cX2_digest 165 = .ok (.getfield 37, 3) := by decide +kernel
theorem dX2_digest_168 : decode cX2_digest 168 = .ok (.i2l, 1) := by decide +kernel
theorem dX2_digest_169 : decode cX2_digest 169 = .ok (.invokestatic 206, 3) := by decide +kernel
theorem dX2_digest_172 : decode cX2_digest 172 = .ok (.lreturn, 1) := by decide +kernel
theorem dX2_isWithin_0 : decode cX2_isWithin 0 = .ok (.iload_n 0, 1) := by decide +kernel
theorem dX2_isWithin_1 : decode cX2_isWithin 1 = .ok (.iload_n 1, 1) := by decide +kernel
theorem dX2_isWithin_2 : decode cX2_isWithin 2 = .ok (.if_icmp .lt 12, 3) := by decide +kernel
theorem dX2_isWithin_5 : decode cX2_isWithin 5 = .ok (.iload_n 0, 1) := by decide +kernel
theorem dX2_isWithin_6 : decode cX2_isWithin 6 = .ok (.iload_n 2, 1) := by decide +kernel
theorem dX2_isWithin_7 : decode cX2_isWithin 7 = .ok (.if_icmp .gt 7, 3) := by decide +kernel
theorem dX2_isWithin_10 : decode cX2_isWithin 10 = .ok (.iconst 1, 1) := by decide +kernel
theorem dX2_isWithin_11 : decode cX2_isWithin 11 = .ok (.goto 4, 3) := by decide +kernel
theorem dX2_isWithin_14 : decode cX2_isWithin 14 = .ok (.iconst 0, 1) := by decide +kernel
theorem dX2_isWithin_15 : decode cX2_isWithin 15 = .ok (.ireturn, 1) := by decide +kernel
theorem dX2_mix_0 : decode cX2_mix 0 = .ok (.lload_n 0, 1) := by decide +kernel
theorem dX2_mix_1 : decode cX2_mix 1 = .ok (.ldc2_w 214, 3) := by decide +kernel
theorem dX2_mix_4 : decode cX2_mix 4 = .ok (.lmul, 1) := by decide +kernel
theorem dX2_mix_5 : decode cX2_mix 5 = .ok (.lload_n 2, 1) := by decide +kernel
theorem dX2_mix_6 : decode cX2_mix 6 = .ok (.ladd, 1) := by decide +kernel
theorem dX2_mix_7 : decode cX2_mix 7 = .ok (.lreturn, 1) := by decide +kernel
set_option maxRecDepth 20000 in
theorem ggX2_mixBox_X0_tell : GoodIn wsX2_mixBox wsX0_tell := goodIn_r _ [5, 6, 7, 8, 9, 10, 11, 12, 4, 13, 14, 15, 28, 29, 30, 31, 32, 33, 34, 35] (by decide +kernel) (by decide +kernel)
set_option maxRecDepth 20000 in
theorem gX2_mixBox_X0_tell : GoodIn wsX2_mixBox (wsV RX2 73 RX0 yX0_tell wsX0_tell) := goodIn_app (goodIn_of _ (by decide +kernel)) ggX2_mixBox_X0_tell
set_option maxRecDepth 20000 in
theorem ggX2_mixBox_X2_mix : GoodIn wsX2_mixBox wsX2_mix := goodIn_r _ [19, 20] (by decide +kernel) (by decide +kernel)
set_option maxRecDepth 20000 in
theorem gX2_mixBox_X2_mix : GoodIn wsX2_mixBox (va_wsS RX2 206 yX2_mix wsX2_mix) := goodIn_app (goodIn_of _ (by decide +kernel)) ggX2_mixBox_X2_mix
set_option maxRecDepth 20000 in
theorem ggX2_mixBox_X0_place : GoodIn wsX2_mixBox wsX0_place := goodIn_r _ [24, 15, 25, 26, 27, 28, 29, 30, 31, 32, 33, 34, 35, 36, 37, 38, 39, 40] (by decide +kernel) (by decide +kernel)
set_option maxRecDepth 20000 in
theorem gX2_mixBox_X0_place : GoodIn wsX2_mixBox (wsV RX2 152 RX0 yX0_place wsX0_place) := goodIn_app (goodIn_of _ (by decide +kernel)) ggX2_mixBox_X0_place
theorem dX2_mixBox_0 : decode cX2_mixBox 0 = .ok (.lload_n 0, 1) := by decide +kernel
theorem dX2_mixBox_1 : decode cX2_mixBox 1 = .ok (.lstore_n 3, 1) := by decide +kernel
theorem dX2_mixBox_2 : decode cX2_mixBox 2 = .ok (.iconst 0, 1) := by decide +kernel
theorem dX2_mixBox_3 : decode cX2_mixBox 3 = .ok (.istore 5, 2) := by decide +kernel
theorem dX2_mixBox_5 : decode cX2_mixBox 5 = .ok (.iload 5, 2) := by decide +kernel
theorem dX2_mixBox_7 : decode cX2_mixBox 7 = .ok (.iconst 5, 1) := by decide +kernel
theorem dX2_mixBox_8 : decode cX2_mixBox 8 = .ok (.if_icmp .ge 21, 3) := by decide +kernel
theorem dX2_mixBox_11 : decode cX2_mixBox 11 = .ok (.lload_n 3, 1) := by decide +kernel
theorem dX2_mixBox_12 : decode cX2_mixBox 12 = .ok (.aload_n 2, 1) := by decide +kernel
theorem dX2_mixBox_13 : decode cX2_mixBox 13 = .ok (.iload 5, 2) := by decide +kernel
theorem dX2_mixBox_15 : decode cX2_mixBox 15 = .ok (.invokevirtual 73, 3) := by decide +kernel
theorem dX2_mixBox_18 : decode cX2_mixBox 18 = .ok (.i2l, 1) := by decide +kernel
theorem dX2_mixBox_19 : decode cX2_mixBox 19 = .ok (.invokestatic 206, 3) := by decide +kernel
theorem dX2_mixBox_22 : decode cX2_mixBox 22 = .ok (.lstore_n 3, 1) := by decide +kernel
theorem dX2_mixBox_23 : decode cX2_mixBox 23 = .ok (.iinc 5 1, 3) := by decide +kernel
theorem dX2_mixBox_26 : decode cX2_mixBox 26 = .ok (.goto (-21), 3) := by decide +kernel
theorem dX2_mixBox_29 : decode cX2_mixBox 29 = .ok (.lload_n 3, 1) := by decide +kernel
theorem dX2_mixBox_30 : decode cX2_mixBox 30 = .ok (.aload_n 2, 1) := by decide +kernel
theorem dX2_mixBox_31 : decode cX2_mixBox 31 = .ok (.invokevirtual 152, 3) := by decide +kernel
theorem dX2_mixBox_34 : decode cX2_mixBox 34 = .ok (.i2l, 1) := by decide +kernel
theorem dX2_mixBox_35 : decode cX2_mixBox 35 = .ok (.invokestatic 206, 3) := by decide +kernel
theorem dX2_mixBox_38 : decode cX2_mixBox 38 = .ok (.lreturn, 1) := by decide +kernel
theorem dX2_boxNumbered_0 : decode cX2_boxNumbered 0 = .ok (.iload_n 1, 1) := by decide +kernel
theorem dX2_boxNumbered_1 : decode cX2_boxNumbered 1 = .ok (.ifCond .lt 12, 3) := by decide +kernel
theorem dX2_boxNumbered_4 : decode cX2_boxNumbered 4 = .ok (.iload_n 1, 1) := by decide +kernel
theorem dX2_boxNumbered_5 : decode cX2_boxNumbered 5 = .ok (.aload_n 0, 1) := by decide +kernel
theorem dX2_boxNumbered_6 : decode cX2_boxNumbered 6 = .ok (.getfield 11, 3) := by decide +kernel
theorem dX2_boxNumbered_9 : decode cX2_boxNumbered 9 = .ok (.arraylength, 1) := by decide +kernel
theorem dX2_boxNumbered_10 : decode cX2_boxNumbered 10 = .ok (.if_icmp .lt 5, 3) := by decide +kernel
theorem dX2_boxNumbered_13 : decode cX2_boxNumbered 13 = .ok (.aconst_null, 1) := by decide +kernel
theorem dX2_boxNumbered_14 : decode cX2_boxNumbered 14 = .ok (.areturn, 1) := by decide +kernel
theorem dX2_boxNumbered_15 : decode cX2_boxNumbered 15 = .ok (.aload_n 0, 1) := by decide +kernel
theorem dX2_boxNumbered_16 : decode cX2_boxNumbered 16 = .ok (.getfield 11, 3) := by decide +kernel
theorem dX2_boxNumbered_19 : decode cX2_boxNumbered 19 = .ok (.iload_n 1, 1) := by decide +kernel
theorem dX2_boxNumbered_20 : decode cX2_boxNumbered 20 = .ok (.aaload, 1) := by decide +kernel
theorem dX2_boxNumbered_21 : decode cX2_boxNumbered 21 = .ok (.areturn, 1) := by decide +kernel
theorem dX2_numberOf_0 : decode cX2_numberOf 0 = .ok (.aload_n 0, 1) := by decide +kernel
theorem dX2_numberOf_1 : decode cX2_numberOf 1 = .ok (.ifnonnull 7, 3) := by decide +kernel
theorem dX2_numberOf_4 : decode cX2_numberOf 4 = .ok (.iconst (-1), 1) := by decide +kernel
theorem dX2_numberOf_5 : decode cX2_numberOf 5 = .ok (.goto 7, 3) := by decide +kernel
theorem dX2_numberOf_8 : decode cX2_numberOf 8 = .ok (.aload_n 0, 1) := by decide +kernel
theorem dX2_numberOf_9 : decode cX2_numberOf 9 = .ok (.getfield 216, 3) := by decide +kernel
theorem dX2_numberOf_12 : decode cX2_numberOf 12 = .ok (.ireturn, 1) := by decide +kernel
set_option maxRecDepth 20000 in
theorem ggX2_stackAt_X2_isWithin : GoodIn wsX2_stackAt wsX2_isWithin := goodIn_r _ [5] (by decide +kernel) (by decide +kernel)
set_option maxRecDepth 20000 in
theorem gX2_stackAt_X2_isWithin : GoodIn wsX2_stackAt (va_wsS RX2 43 yX2_isWithin wsX2_isWithin) := goodIn_app (goodIn_of _ (by decide +kernel)) ggX2_stackAt_X2_isWithin
theorem dX2_stackAt_0 : decode cX2_stackAt 0 = .ok (.iload_n 1, 1) := by decide +kernel
theorem dX2_stackAt_1 : decode cX2_stackAt 1 = .ok (.iconst 0, 1) := by decide +kernel
theorem dX2_stackAt_2 : decode cX2_stackAt 2 = .ok (.iconst 5, 1) := by decide +kernel
theorem dX2_stackAt_3 : decode cX2_stackAt 3 = .ok (.invokestatic 43, 3) := by decide +kernel
theorem dX2_stackAt_6 : decode cX2_stackAt 6 = .ok (.ifCond .eq 12, 3) := by decide +kernel
theorem dX2_stackAt_9 : decode cX2_stackAt 9 = .ok (.iload_n 2, 1) := by decide +kernel
theorem dX2_stackAt_10 : decode cX2_stackAt 10 = .ok (.iconst 0, 1) := by decide +kernel
theorem dX2_stackAt_11 : decode cX2_stackAt 11 = .ok (.iconst 4, 1) := by decide +kernel
theorem dX2_stackAt_12 : decode cX2_stackAt 12 = .ok (.invokestatic 43, 3) := by decide +kernel
theorem dX2_stackAt_15 : decode cX2_stackAt 15 = .ok (.ifCond .ne 5, 3) := by decide +kernel
theorem dX2_stackAt_18 : decode cX2_stackAt 18 = .ok (.aconst_null, 1) := by decide +kernel
theorem dX2_stackAt_19 : decode cX2_stackAt 19 = .ok (.areturn, 1) := by decide +kernel
theorem dX2_stackAt_20 : decode cX2_stackAt 20 = .ok (.iload_n 1, 1) := by decide +kernel
theorem dX2_stackAt_21 : decode cX2_stackAt 21 = .ok (.iconst 5, 1) := by decide +kernel
theorem dX2_stackAt_22 : decode cX2_stackAt 22 = .ok (.imul, 1) := by decide +kernel
theorem dX2_stackAt_23 : decode cX2_stackAt 23 = .ok (.iload_n 2, 1) := by decide +kernel
theorem dX2_stackAt_24 : decode cX2_stackAt 24 = .ok (.iadd, 1) := by decide +kernel
theorem dX2_stackAt_25 : decode cX2_stackAt 25 = .ok (.istore_n 3, 1) := by decide +kernel
theorem dX2_stackAt_26 : decode cX2_stackAt 26 = .ok (.iload_n 3, 1) := by decide +kernel
theorem dX2_stackAt_27 : decode cX2_stackAt 27 = .ok (.ifCond .lt 12, 3) := by decide +kernel
theorem dX2_stackAt_30 : decode cX2_stackAt 30 = .ok (.iload_n 3, 1) := by decide +kernel
theorem dX2_stackAt_31 : decode cX2_stackAt 31 = .ok (.aload_n 0, 1) := by decide +kernel
theorem dX2_stackAt_32 : decode cX2_stackAt 32 = .ok (.getfield 17, 3) := by decide +kernel
theorem dX2_stackAt_35 : decode cX2_stackAt 35 = .ok (.arraylength, 1) := by decide +kernel
theorem dX2_stackAt_36 : decode cX2_stackAt 36 = .ok (.if_icmp .lt 5, 3) := by decide +kernel
theorem dX2_stackAt_39 : decode cX2_stackAt 39 = .ok (.aconst_null, 1) := by decide +kernel
theorem dX2_stackAt_40 : decode cX2_stackAt 40 = .ok (.areturn, 1) := by decide +kernel
theorem dX2_stackAt_41 : decode cX2_stackAt 41 = .ok (.aload_n 0, 1) := by decide +kernel
theorem dX2_stackAt_42 : decode cX2_stackAt 42 = .ok (.getfield 17, 3) := by decide +kernel
theorem dX2_stackAt_45 : decode cX2_stackAt 45 = .ok (.iload_n 3, 1) := by decide +kernel
theorem dX2_stackAt_46 : decode cX2_stackAt 46 = .ok (.aaload, 1) := by decide +kernel
theorem dX2_stackAt_47 : decode cX2_stackAt 47 = .ok (.areturn, 1) := by decide +kernel
set_option maxRecDepth 20000 in
theorem ggX2_isLoadable_X0_waitsAt : GoodIn wsX2_isLoadable wsX0_waitsAt := goodIn_r _ [10, 11, 12, 13, 14, 9, 15, 16, 17, 66, 67, 68, 69, 70, 71, 72, 73] (by decide +kernel) (by decide +kernel)
set_option maxRecDepth 20000 in
theorem gX2_isLoadable_X0_waitsAt : GoodIn wsX2_isLoadable (wsV RX2 187 RX0 yX0_waitsAt wsX0_waitsAt) := goodIn_app (goodIn_of _ (by decide +kernel)) ggX2_isLoadable_X0_waitsAt
set_option maxRecDepth 20000 in
theorem ggX2_isLoadable_X1_weightSum : GoodIn wsX2_isLoadable wsX1_weightSum := goodIn_r _ [22, 23, 24, 61, 62, 63, 64, 65, 66, 67, 68, 69, 70, 71, 72, 73] (by decide +kernel) (by decide +kernel)
set_option maxRecDepth 20000 in
theorem gX2_isLoadable_X1_weightSum : GoodIn wsX2_isLoadable (wsV RX2 156 RX1 yX1_weightSum wsX1_weightSum) := goodIn_app (goodIn_of _ (by decide +kernel)) ggX2_isLoadable_X1_weightSum
set_option maxRecDepth 20000 in
theorem ggX2_isLoadable_X1_hasPowerOnNextTier : GoodIn wsX2_isLoadable wsX1_hasPowerOnNextTier := goodIn_r _ [28, 29, 30, 61, 62, 63, 64, 65] (by decide +kernel) (by decide +kernel)
set_option maxRecDepth 20000 in
theorem gX2_isLoadable_X1_hasPowerOnNextTier : GoodIn wsX2_isLoadable (wsV RX2 222 RX1 yX1_hasPowerOnNextTier wsX1_hasPowerOnNextTier) := goodIn_app (goodIn_of _ (by decide +kernel)) ggX2_isLoadable_X1_hasPowerOnNextTier
set_option maxRecDepth 20000 in
theorem ggX2_isLoadable_X2_isApartFromOthers : GoodIn wsX2_isLoadable wsX2_isApartFromOthers := goodIn_r _ [35, 36, 37, 5, 38, 39, 40, 9, 41, 42, 43, 44, 45, 21, 46, 47, 48, 49, 50, 51, 52, 53, 54, 55, 56, 57, 58, 59, 60, 66, 67, 68, 69, 70, 71, 72, 73, 61, 62, 63, 64, 65] (by decide +kernel) (by decide +kernel)
set_option maxRecDepth 20000 in
theorem gX2_isLoadable_X2_isApartFromOthers : GoodIn wsX2_isLoadable (wsV RX2 225 RX2 yX2_isApartFromOthers wsX2_isApartFromOthers) := goodIn_app (goodIn_of _ (by decide +kernel)) ggX2_isLoadable_X2_isApartFromOthers
theorem dX2_isLoadable_0 : decode cX2_isLoadable 0 = .ok (.aload_n 1, 1) := by decide +kernel
theorem dX2_isLoadable_1 : decode cX2_isLoadable 1 = .ok (.ifnull 70, 3) := by decide +kernel
theorem dX2_isLoadable_4 : decode cX2_isLoadable 4 = .ok (.aload_n 2, 1) := by decide +kernel
theorem dX2_isLoadable_5 : decode cX2_isLoadable 5 = .ok (.ifnull 66, 3) := by decide +kernel
theorem dX2_isLoadable_8 : decode cX2_isLoadable 8 = .ok (.aload_n 1, 1) := by decide +kernel
theorem dX2_isLoadable_9 : decode cX2_isLoadable 9 = .ok (.aload_n 0, 1) := by decide +kernel
theorem dX2_isLoadable_10 : decode cX2_isLoadable 10 = .ok (.getfield 25, 3) := by decide +kernel
theorem dX2_isLoadable_13 : decode cX2_isLoadable 13 = .ok (.invokevirtual 187, 3) := by decide +kernel
theorem dX2_isLoadable_16 : decode cX2_isLoadable 16 = .ok (.ifCond .eq 55, 3) := by decide +kernel
theorem dX2_isLoadable_19 : decode cX2_isLoadable 19 = .ok (.aload_n 2, 1) := by decide +kernel
theorem dX2_isLoadable_20 : decode cX2_isLoadable 20 = .ok (.getfield 201, 3) := by decide +kernel
theorem dX2_isLoadable_23 : decode cX2_isLoadable 23 = .ok (.iconst 4, 1) := by decide +kernel
theorem dX2_isLoadable_24 : decode cX2_isLoadable 24 = .ok (.if_icmp .ge 47, 3) := by decide +kernel
theorem dX2_isLoadable_27 : decode cX2_isLoadable 27 = .ok (.aload_n 2, 1) := by decide +kernel
theorem dX2_isLoadable_28 : decode cX2_isLoadable 28 = .ok (.invokevirtual 156, 3) := by decide +kernel
theorem dX2_isLoadable_31 : decode cX2_isLoadable 31 = .ok (.aload_n 1, 1) := by decide +kernel
theorem dX2_isLoadable_32 : decode cX2_isLoadable 32 = .ok (.getfield 169, 3) := by decide +kernel
theorem dX2_isLoadable_35 : decode cX2_isLoadable 35 = .ok (.iadd, 1) := by decide +kernel
theorem dX2_isLoadable_36 : decode cX2_isLoadable 36 = .ok (.aload_n 0, 1) := by decide +kernel
theorem dX2_isLoadable_37 : decode cX2_isLoadable 37 = .ok (.getfield 28, 3) := by decide +kernel
theorem dX2_isLoadable_40 : decode cX2_isLoadable 40 = .ok (.if_icmp .gt 31, 3) := by decide +kernel
theorem dX2_isLoadable_43 : decode cX2_isLoadable 43 = .ok (.aload_n 1, 1) := by decide +kernel
theorem dX2_isLoadable_44 : decode cX2_isLoadable 44 = .ok (.getfield 219, 3) := by decide +kernel
theorem dX2_isLoadable_47 : decode cX2_isLoadable 47 = .ok (.iconst 1, 1) := by decide +kernel
theorem dX2_isLoadable_48 : decode cX2_isLoadable 48 = .ok (.if_icmp .ne 10, 3) := by decide +kernel
theorem dX2_isLoadable_51 : decode cX2_isLoadable 51 = .ok (.aload_n 2, 1) := by decide +kernel
theorem dX2_isLoadable_52 : decode cX2_isLoadable 52 = .ok (.invokevirtual 222, 3) := by decide +kernel
theorem dX2_isLoadable_55 : decode cX2_isLoadable 55 = .ok (.ifCond .eq 16, 3) := by decide +kernel
theorem dX2_isLoadable_58 : decode cX2_isLoadable 58 = .ok (.aload_n 0, 1) := by decide +kernel
theorem dX2_isLoadable_59 : decode cX2_isLoadable 59 = .ok (.aload_n 1, 1) := by decide +kernel
theorem dX2_isLoadable_60 : decode cX2_isLoadable 60 = .ok (.aload_n 2, 1) := by decide +kernel
theorem dX2_isLoadable_61 : decode cX2_isLoadable 61 = .ok (.invokevirtual 225, 3) := by decide +kernel
theorem dX2_isLoadable_64 : decode cX2_isLoadable 64 = .ok (.ifCond .eq 7, 3) := by decide +kernel
theorem dX2_isLoadable_67 : decode cX2_isLoadable 67 = .ok (.iconst 1, 1) := by decide +kernel
theorem dX2_isLoadable_68 : decode cX2_isLoadable 68 = .ok (.goto 4, 3) := by decide +kernel
theorem dX2_isLoadable_71 : decode cX2_isLoadable 71 = .ok (.iconst 0, 1) := by decide +kernel
theorem dX2_isLoadable_72 : decode cX2_isLoadable 72 = .ok (.ireturn, 1) := by decide +kernel
set_option maxRecDepth 20000 in
theorem ggX2_isApartFromOthers_X0_isDangerous : GoodIn wsX2_isApartFromOthers wsX0_isDangerous := goodIn_r _ [8, 9, 29, 30, 31, 32, 33, 34, 35, 36] (by decide +kernel) (by decide +kernel)
set_option maxRecDepth 20000 in
theorem gX2_isApartFromOthers_X0_isDangerous : GoodIn wsX2_isApartFromOthers (wsV RX2 228 RX0 yX0_isDangerous wsX0_isDangerous) := goodIn_app (goodIn_of _ (by decide +kernel)) ggX2_isApartFromOthers_X0_isDangerous
set_option maxRecDepth 20000 in
theorem ggX2_isApartFromOthers_X1_isApartFrom : GoodIn wsX2_isApartFromOthers wsX1_isApartFrom := goodIn_r _ [14, 15, 16, 17, 18, 19, 20, 37, 38, 39, 40, 41] (by decide +kernel) (by decide +kernel)
set_option maxRecDepth 20000 in
theorem gX2_isApartFromOthers_X1_isApartFrom : GoodIn wsX2_isApartFromOthers (wsV RX2 231 RX1 yX1_isApartFrom wsX1_isApartFrom) := goodIn_app (goodIn_of _ (by decide +kernel)) ggX2_isApartFromOthers_X1_isApartFrom
theorem dX2_isApartFromOthers_0 : decode cX2_isApartFromOthers 0 = .ok (.aload_n 1, 1) := by decide +kernel
theorem dX2_isApartFromOthers_1 : decode cX2_isApartFromOthers 1 = .ok (.invokevirtual 228, 3) := by decide +kernel
theorem dX2_isApartFromOthers_4 : decode cX2_isApartFromOthers 4 = .ok (.ifCond .ne 5, 3) := by decide +kernel
theorem dX2_isApartFromOthers_7 : decode cX2_isApartFromOthers 7 = .ok (.iconst 1, 1) := by decide +kernel
theorem dX2_isApartFromOthers_8 : decode cX2_isApartFromOthers 8 = .ok (.ireturn, 1) := by decide +kernel
theorem dX2_isApartFromOthers_9 : decode cX2_isApartFromOthers 9 = .ok (.aload_n 0, 1) := by decide +kernel
theorem dX2_isApartFromOthers_10 : decode cX2_isApartFromOthers 10 = .ok (.getfield 11, 3) := by decide +kernel
theorem dX2_isApartFromOthers_13 : decode cX2_isApartFromOthers 13 = .ok (.astore_n 3, 1) := by decide +kernel
theorem dX2_isApartFromOthers_14 : decode cX2_isApartFromOthers 14 = .ok (.aload_n 3, 1) := by decide +kernel
theorem dX2_isApartFromOthers_15 : decode cX2_isApartFromOthers 15 = .ok (.arraylength, 1) := by decide +kernel
theorem dX2_isApartFromOthers_16 : decode cX2_isApartFromOthers 16 = .ok (.istore 4, 2) := by decide +kernel
theorem dX2_isApartFromOthers_18 : decode cX2_isApartFromOthers 18 = .ok (.iconst 0, 1) := by decide +kernel
theorem dX2_isApartFromOthers_19 : decode cX2_isApartFromOthers 19 = .ok (.istore 5, 2) := by decide +kernel
theorem dX2_isApartFromOthers_21 : decode cX2_isApartFromOthers 21 = .ok (.iload 5, 2) := by decide +kernel
theorem dX2_isApartFromOthers_23 : decode cX2_isApartFromOthers 23 = .ok (.iload 4, 2) := by decide +kernel
theorem dX2_isApartFromOthers_25 : decode cX2_isApartFromOthers 25 = .ok (.if_icmp .ge 62, 3) := by decide +kernel
theorem dX2_isApartFromOthers_28 : decode cX2_isApartFromOthers 28 = .ok (.aload_n 3, 1) := by decide +kernel
theorem dX2_isApartFromOthers_29 : decode cX2_isApartFromOthers 29 = .ok (.iload 5, 2) := by decide +kernel
theorem dX2_isApartFromOthers_31 : decode cX2_isApartFromOthers 31 = .ok (.aaload, 1) := by decide +kernel
theorem dX2_isApartFromOthers_32 : decode cX2_isApartFromOthers 32 = .ok (.astore 6, 2) := by decide +kernel
theorem dX2_isApartFromOthers_34 : decode cX2_isApartFromOthers 34 = .ok (.aload 6, 2) := by decide +kernel
theorem dX2_isApartFromOthers_36 : decode cX2_isApartFromOthers 36 = .ok (.ifnull 45, 3) := by decide +kernel
theorem dX2_isApartFromOthers_39 : decode cX2_isApartFromOthers 39 = .ok (.aload 6, 2) := by decide +kernel
theorem dX2_isApartFromOthers_41 : decode cX2_isApartFromOthers 41 = .ok (.getfield 165, 3) := by decide +kernel
theorem dX2_isApartFromOthers_44 : decode cX2_isApartFromOthers 44 = .ok (.ifnull 37, 3) := by decide +kernel
theorem dX2_isApartFromOthers_47 : decode cX2_isApartFromOthers 47 = .ok (.aload 6, 2) := by decide +kernel
theorem dX2_isApartFromOthers_49 : decode cX2_isApartFromOthers 49 = .ok (.invokevirtual 228, 3) := by decide +kernel
theorem dX2_isApartFromOthers_52 : decode cX2_isApartFromOthers 52 = .ok (.ifCond .eq 29, 3) := by decide +kernel
theorem dX2_isApartFromOthers_55 : decode cX2_isApartFromOthers 55 = .ok (.aload 6, 2) := by decide +kernel
theorem dX2_isApartFromOthers_57 : decode cX2_isApartFromOthers 57 = .ok (.getfield 219, 3) := by decide +kernel
theorem dX2_isApartFromOthers_60 : decode cX2_isApartFromOthers 60 = .ok (.aload_n 1, 1) := by decide +kernel
theorem dX2_isApartFromOthers_61 : decode cX2_isApartFromOthers 61 = .ok (.getfield 219, 3) := by decide +kernel
theorem dX2_isApartFromOthers_64 : decode cX2_isApartFromOthers 64 = .ok (.if_icmp .eq 17, 3) := by decide +kernel
theorem dX2_isApartFromOthers_67 : decode cX2_isApartFromOthers 67 = .ok (.aload 6, 2) := by decide +kernel
theorem dX2_isApartFromOthers_69 : decode cX2_isApartFromOthers 69 = .ok (.getfield 165, 3) := by decide +kernel
theorem dX2_isApartFromOthers_72 : decode cX2_isApartFromOthers 72 = .ok (.aload_n 2, 1) := by decide +kernel
theorem dX2_isApartFromOthers_73 : decode cX2_isApartFromOthers 73 = .ok (.invokevirtual 231, 3) := by decide +kernel
theorem dX2_isApartFromOthers_76 : decode cX2_isApartFromOthers 76 = .ok (.ifCond .ne 5, 3) := by decide +kernel
theorem dX2_isApartFromOthers_79 : decode cX2_isApartFromOthers 79 = .ok (.iconst 0, 1) := by decide +kernel
theorem dX2_isApartFromOthers_80 : decode cX2_isApartFromOthers 80 = .ok (.ireturn, 1) := by decide +kernel
theorem dX2_isApartFromOthers_81 : decode cX2_isApartFromOthers 81 = .ok (.iinc 5 1, 3) := by decide +kernel
theorem dX2_isApartFromOthers_84 : decode cX2_isApartFromOthers 84 = .ok (.goto (-63), 3) := by decide +kernel
theorem dX2_isApartFromOthers_87 : decode cX2_isApartFromOthers 87 = .ok (.iconst 1, 1) := by decide +kernel
theorem dX2_isApartFromOthers_88 : decode cX2_isApartFromOthers 88 = .ok (.ireturn, 1) := by decide +kernel
set_option maxRecDepth 20000 in
theorem ggX2_nextToLoad_X0_goesBefore : GoodIn wsX2_nextToLoad wsX0_goesBefore := goodIn_r _ [6, 7, 8, 76, 77, 78, 79, 80, 81, 82, 83] (by decide +kernel) (by decide +kernel)
set_option maxRecDepth 20000 in
theorem gX2_nextToLoad_X0_goesBefore : GoodIn wsX2_nextToLoad (wsV RX2 235 RX0 yX0_goesBefore wsX0_goesBefore) := goodIn_app (goodIn_of _ (by decide +kernel)) ggX2_nextToLoad_X0_goesBefore
set_option maxRecDepth 20000 in
theorem ggX2_nextToLoad_X2_hasChoice : GoodIn wsX2_nextToLoad wsX2_hasChoice := goodIn_r _ [13, 14, 15, 16, 17, 12, 18, 19, 20, 21, 22, 23, 24, 25, 26, 5, 27, 28, 29, 30, 31, 32, 33, 34, 35, 36, 37, 38, 39, 40, 41, 42, 43, 44, 45, 46, 47, 48, 49, 50, 51, 1, 52, 53, 54, 55, 56, 57, 58, 59, 60, 61, 62, 63, 64, 65, 66, 67, 68, 69, 70, 71, 72, 73, 74, 75, 84, 85, 86, 87, 88, 76, 77, 78, 79, 80, 81, 82, 83] (by decide +kernel) (by decide +kernel)
set_option maxRecDepth 20000 in
theorem gX2_nextToLoad_X2_hasChoice : GoodIn wsX2_nextToLoad (wsV RX2 239 RX2 yX2_hasChoice wsX2_hasChoice) := goodIn_app (goodIn_of _ (by decide +kernel)) ggX2_nextToLoad_X2_hasChoice
theorem dX2_nextToLoad_0 : decode cX2_nextToLoad 0 = .ok (.aconst_null, 1) := by decide +kernel
theorem dX2_nextToLoad_1 : decode cX2_nextToLoad 1 = .ok (.astore_n 1, 1) := by decide +kernel
theorem dX2_nextToLoad_2 : decode cX2_nextToLoad 2 = .ok (.aload_n 0, 1) := by decide +kernel
theorem dX2_nextToLoad_3 : decode cX2_nextToLoad 3 = .ok (.getfield 11, 3) := by decide +kernel
theorem dX2_nextToLoad_6 : decode cX2_nextToLoad 6 = .ok (.astore_n 2, 1) := by decide +kernel
theorem dX2_nextToLoad_7 : decode cX2_nextToLoad 7 = .ok (.aload_n 2, 1) := by decide +kernel
theorem dX2_nextToLoad_8 : decode cX2_nextToLoad 8 = .ok (.arraylength, 1) := by decide +kernel
theorem dX2_nextToLoad_9 : decode cX2_nextToLoad 9 = .ok (.istore_n 3, 1) := by decide +kernel
theorem dX2_nextToLoad_10 : decode cX2_nextToLoad 10 = .ok (.iconst 0, 1) := by decide +kernel
theorem dX2_nextToLoad_11 : decode cX2_nextToLoad 11 = .ok (.istore 4, 2) := by decide +kernel
theorem dX2_nextToLoad_13 : decode cX2_nextToLoad 13 = .ok (.iload 4, 2) := by decide +kernel
theorem dX2_nextToLoad_15 : decode cX2_nextToLoad 15 = .ok (.iload_n 3, 1) := by decide +kernel
theorem dX2_nextToLoad_16 : decode cX2_nextToLoad 16 = .ok (.if_icmp .ge 45, 3) := by decide +kernel
theorem dX2_nextToLoad_19 : decode cX2_nextToLoad 19 = .ok (.aload_n 2, 1) := by decide +kernel
theorem dX2_nextToLoad_20 : decode cX2_nextToLoad 20 = .ok (.iload 4, 2) := by decide +kernel
theorem dX2_nextToLoad_22 : decode cX2_nextToLoad 22 = .ok (.aaload, 1) := by decide +kernel
theorem dX2_nextToLoad_23 : decode cX2_nextToLoad 23 = .ok (.astore 5, 2) := by decide +kernel
theorem dX2_nextToLoad_25 : decode cX2_nextToLoad 25 = .ok (.aload 5, 2) := by decide +kernel
theorem dX2_nextToLoad_27 : decode cX2_nextToLoad 27 = .ok (.ifnull 28, 3) := by decide +kernel
theorem dX2_nextToLoad_30 : decode cX2_nextToLoad 30 = .ok (.aload_n 1, 1) := by decide +kernel
theorem dX2_nextToLoad_31 : decode cX2_nextToLoad 31 = .ok (.ifnull 12, 3) := by decide +kernel
theorem dX2_nextToLoad_34 : decode cX2_nextToLoad 34 = .ok (.aload 5, 2) := by decide +kernel
theorem dX2_nextToLoad_36 : decode cX2_nextToLoad 36 = .ok (.aload_n 1, 1) := by decide +kernel
theorem dX2_nextToLoad_37 : decode cX2_nextToLoad 37 = .ok (.invokevirtual 235, 3) := by decide +kernel
theorem dX2_nextToLoad_40 : decode cX2_nextToLoad 40 = .ok (.ifCond .eq 15, 3) := by decide +kernel
theorem dX2_nextToLoad_43 : decode cX2_nextToLoad 43 = .ok (.aload_n 0, 1) := by decide +kernel
theorem dX2_nextToLoad_44 : decode cX2_nextToLoad 44 = .ok (.aload 5, 2) := by decide +kernel
theorem dX2_nextToLoad_46 : decode cX2_nextToLoad 46 = .ok (.invokevirtual 239, 3) := by decide +kernel
theorem dX2_nextToLoad_49 : decode cX2_nextToLoad 49 = .ok (.ifCond .eq 6, 3) := by decide +kernel
theorem dX2_nextToLoad_52 : decode cX2_nextToLoad 52 = .ok (.aload 5, 2) := by decide +kernel
theorem dX2_nextToLoad_54 : decode cX2_nextToLoad 54 = .ok (.astore_n 1, 1) := by decide +kernel
theorem dX2_nextToLoad_55 : decode cX2_nextToLoad 55 = .ok (.iinc 4 1, 3) := by decide +kernel
theorem dX2_nextToLoad_58 : decode cX2_nextToLoad 58 = .ok (.goto (-45), 3) := by decide +kernel
theorem dX2_nextToLoad_61 : decode cX2_nextToLoad 61 = .ok (.aload_n 1, 1) := by decide +kernel
theorem dX2_nextToLoad_62 : decode cX2_nextToLoad 62 = .ok (.areturn, 1) := by decide +kernel
set_option maxRecDepth 20000 in
theorem ggX2_hasChoice_X2_isLoadable : GoodIn wsX2_hasChoice wsX2_isLoadable := goodIn_r _ [6, 7, 8, 9, 10, 11, 12, 13, 14, 15, 16, 17, 18, 19, 20, 21, 22, 23, 24, 25, 26, 27, 28, 29, 30, 31, 32, 33, 34, 35, 36, 37, 38, 39, 5, 40, 41, 42, 43, 44, 45, 46, 47, 48, 49, 50, 51, 52, 53, 54, 55, 56, 57, 58, 59, 60, 61, 62, 63, 64, 65, 66, 67, 68, 69, 70, 71, 72, 73, 74, 75, 76, 77, 78] (by decide +kernel) (by decide +kernel)
set_option maxRecDepth 20000 in
theorem gX2_hasChoice_X2_isLoadable : GoodIn wsX2_hasChoice (wsV RX2 97 RX2 yX2_isLoadable wsX2_isLoadable) := goodIn_app (goodIn_of _ (by decide +kernel)) ggX2_hasChoice_X2_isLoadable
theorem dX2_hasChoice_0 : decode cX2_hasChoice 0 = .ok (.aload_n 0, 1) := by decide +kernel
theorem dX2_hasChoice_1 : decode cX2_hasChoice 1 = .ok (.getfield 17, 3) := by decide +kernel
theorem dX2_hasChoice_4 : decode cX2_hasChoice 4 = .ok (.astore_n 2, 1) := by decide +kernel
theorem dX2_hasChoice_5 : decode cX2_hasChoice 5 = .ok (.aload_n 2, 1) := by decide +kernel
theorem dX2_hasChoice_6 : decode cX2_hasChoice 6 = .ok (.arraylength, 1) := by decide +kernel
theorem dX2_hasChoice_7 : decode cX2_hasChoice 7 = .ok (.istore_n 3, 1) := by decide +kernel
theorem dX2_hasChoice_8 : decode cX2_hasChoice 8 = .ok (.iconst 0, 1) := by decide +kernel
theorem dX2_hasChoice_9 : decode cX2_hasChoice 9 = .ok (.istore 4, 2) := by decide +kernel
theorem dX2_hasChoice_11 : decode cX2_hasChoice 11 = .ok (.iload 4, 2) := by decide +kernel
theorem dX2_hasChoice_13 : decode cX2_hasChoice 13 = .ok (.iload_n 3, 1) := by decide +kernel
theorem dX2_hasChoice_14 : decode cX2_hasChoice 14 = .ok (.if_icmp .ge 27, 3) := by decide +kernel
theorem dX2_hasChoice_17 : decode cX2_hasChoice 17 = .ok (.aload_n 2, 1) := by decide +kernel
theorem dX2_hasChoice_18 : decode cX2_hasChoice 18 = .ok (.iload 4, 2) := by decide +kernel
theorem dX2_hasChoice_20 : decode cX2_hasChoice 20 = .ok (.aaload, 1) := by decide +kernel
theorem dX2_hasChoice_21 : decode cX2_hasChoice 21 = .ok (.astore 5, 2) := by decide +kernel
theorem dX2_hasChoice_23 : decode cX2_hasChoice 23 = .ok (.aload_n 0, 1) := by decide +kernel
theorem dX2_hasChoice_24 : decode cX2_hasChoice 24 = .ok (.aload_n 1, 1) := by decide +kernel
theorem dX2_hasChoice_25 : decode cX2_hasChoice 25 = .ok (.aload 5, 2) := by decide +kernel
theorem dX2_hasChoice_27 : decode cX2_hasChoice 27 = .ok (.invokevirtual 97, 3) := by decide +kernel
theorem dX2_hasChoice_30 : decode cX2_hasChoice 30 = .ok (.ifCond .eq 5, 3) := by decide +kernel
theorem dX2_hasChoice_33 : decode cX2_hasChoice 33 = .ok (.iconst 1, 1) := by decide +kernel
theorem dX2_hasChoice_34 : decode cX2_hasChoice 34 = .ok (.ireturn, 1) := by decide +kernel
theorem dX2_hasChoice_35 : decode cX2_hasChoice 35 = .ok (.iinc 4 1, 3) := by decide +kernel
theorem dX2_hasChoice_38 : decode cX2_hasChoice 38 = .ok (.goto (-27), 3) := by decide +kernel
theorem dX2_hasChoice_41 : decode cX2_hasChoice 41 = .ok (.iconst 0, 1) := by decide +kernel
theorem dX2_hasChoice_42 : decode cX2_hasChoice 42 = .ok (.ireturn, 1) := by decide +kernel
set_option maxRecDepth 20000 in
theorem ggX2_bestStackFor_X2_moment : GoodIn wsX2_bestStackFor wsX2_moment := goodIn_r _ [12, 1, 13, 14, 15, 16, 17, 18, 19, 20, 21, 22, 23, 24, 25, 26, 27, 28, 29, 77, 78, 79, 80, 81, 82, 83, 84, 93, 94, 95, 96, 97, 85, 86, 87, 88, 89, 90, 91, 92] (by decide +kernel) (by decide +kernel)
set_option maxRecDepth 20000 in
theorem gX2_bestStackFor_X2_moment : GoodIn wsX2_bestStackFor (wsV RX2 172 RX2 yX2_moment wsX2_moment) := goodIn_app (goodIn_of _ (by decide +kernel)) ggX2_bestStackFor_X2_moment
set_option maxRecDepth 20000 in
theorem ggX2_bestStackFor_X2_isLoadable : GoodIn wsX2_bestStackFor wsX2_isLoadable := goodIn_r _ [33, 34, 35, 3, 36, 37, 38, 39, 40, 41, 42, 43, 44, 45, 46, 47, 48, 49, 13, 14, 15, 16, 17, 18, 19, 50, 51, 52, 53, 54, 55, 56, 57, 58, 11, 59, 60, 61, 62, 63, 64, 65, 66, 67, 68, 69, 70, 24, 71, 5, 6, 7, 29, 77, 78, 79, 80, 81, 82, 83, 84, 93, 94, 95, 96, 97, 85, 86, 87, 88, 89, 90, 91, 92] (by decide +kernel) (by decide +kernel)
set_option maxRecDepth 20000 in
theorem gX2_bestStackFor_X2_isLoadable : GoodIn wsX2_bestStackFor (wsV RX2 97 RX2 yX2_isLoadable wsX2_isLoadable) := goodIn_app (goodIn_of _ (by decide +kernel)) ggX2_bestStackFor_X2_isLoadable
set_option maxRecDepth 20000 in
theorem ggX2_bestStackFor_X1_countLandedBefore : GoodIn wsX2_bestStackFor wsX1_countLandedBefore := goodIn_r _ [75, 18, 76, 93, 94, 95, 96, 97, 85, 86, 87, 88, 89, 90, 91, 92] (by decide +kernel) (by decide +kernel)
set_option maxRecDepth 20000 in
theorem gX2_bestStackFor_X1_countLandedBefore : GoodIn wsX2_bestStackFor (wsV RX2 245 RX1 yX1_countLandedBefore wsX1_countLandedBefore) := goodIn_app (goodIn_of _ (by decide +kernel)) ggX2_bestStackFor_X1_countLandedBefore
set_option maxRecDepth 20000 in
theorem ggX2_bestStackFor_X1_listArm : GoodIn wsX2_bestStackFor wsX1_listArm := goodIn_r _ [28, 29, 93, 94, 95, 96, 97] (by decide +kernel) (by decide +kernel)
set_option maxRecDepth 20000 in
theorem gX2_bestStackFor_X1_listArm : GoodIn wsX2_bestStackFor (wsV RX2 162 RX1 yX1_listArm wsX1_listArm) := goodIn_app (goodIn_of _ (by decide +kernel)) ggX2_bestStackFor_X1_listArm
set_option maxRecDepth 20000 in
theorem ggX2_bestStackFor_X1_trimArm : GoodIn wsX2_bestStackFor wsX1_trimArm := goodIn_r _ [23, 24, 93, 94, 95, 96, 97] (by decide +kernel) (by decide +kernel)
set_option maxRecDepth 20000 in
theorem gX2_bestStackFor_X1_trimArm : GoodIn wsX2_bestStackFor (wsV RX2 159 RX1 yX1_trimArm wsX1_trimArm) := goodIn_app (goodIn_of _ (by decide +kernel)) ggX2_bestStackFor_X1_trimArm
theorem dX2_bestStackFor_0 : decode cX2_bestStackFor 0 = .ok (.aload_n 1, 1) := by decide +kernel
theorem dX2_bestStackFor_1 : decode cX2_bestStackFor 1 = .ok (.ifnonnull 5, 3) := by decide +kernel
theorem dX2_bestStackFor_4 : decode cX2_bestStackFor 4 = .ok (.aconst_null, 1) := by decide +kernel
theorem dX2_bestStackFor_5 : decode cX2_bestStackFor 5 = .ok (.areturn, 1) := by decide +kernel
theorem dX2_bestStackFor_6 : decode cX2_bestStackFor 6 = .ok (.aload_n 0, 1) := by decide +kernel
theorem dX2_bestStackFor_7 : decode cX2_bestStackFor 7 = .ok (.iconst 0, 1) := by decide +kernel
theorem dX2_bestStackFor_8 : decode cX2_bestStackFor 8 = .ok (.invokevirtual 172, 3) := by decide +kernel
theorem dX2_bestStackFor_11 : decode cX2_bestStackFor 11 = .ok (.istore_n 2, 1) := by decide +kernel
theorem dX2_bestStackFor_12 : decode cX2_bestStackFor 12 = .ok (.aload_n 0, 1) := by decide +kernel
theorem dX2_bestStackFor_13 : decode cX2_bestStackFor 13 = .ok (.iconst 1, 1) := by decide +kernel
theorem dX2_bestStackFor_14 : decode cX2_bestStackFor 14 = .ok (.invokevirtual 172, 3) := by decide +kernel
theorem dX2_bestStackFor_17 : decode cX2_bestStackFor 17 = .ok (.istore_n 3, 1) := by decide +kernel
theorem dX2_bestStackFor_18 : decode cX2_bestStackFor 18 = .ok (.aconst_null, 1) := by decide +kernel
theorem dX2_bestStackFor_19 : decode cX2_bestStackFor 19 = .ok (.astore 4, 2) := by decide +kernel
theorem dX2_bestStackFor_21 : decode cX2_bestStackFor 21 = .ok (.iconst 0, 1) := by decide +kernel
theorem dX2_bestStackFor_22 : decode cX2_bestStackFor 22 = .ok (.istore 5, 2) := by decide +kernel
theorem dX2_bestStackFor_24 : decode cX2_bestStackFor 24 = .ok (.iconst 0, 1) := by decide +kernel
theorem dX2_bestStackFor_25 : decode cX2_bestStackFor 25 = .ok (.istore 6, 2) := by decide +kernel
theorem dX2_bestStackFor_27 : decode cX2_bestStackFor 27 = .ok (.iconst 0, 1) := by decide +kernel
theorem dX2_bestStackFor_28 : decode cX2_bestStackFor 28 = .ok (.istore 7, 2) := by decide +kernel
theorem dX2_bestStackFor_30 : decode cX2_bestStackFor 30 = .ok (.aload_n 0, 1) := by decide +kernel
theorem dX2_bestStackFor_31 : decode cX2_bestStackFor 31 = .ok (.getfield 17, 3) := by decide +kernel
theorem dX2_bestStackFor_34 : decode cX2_bestStackFor 34 = .ok (.astore 8, 2) := by decide +kernel
theorem dX2_bestStackFor_36 : decode cX2_bestStackFor 36 = .ok (.aload 8, 2) := by decide +kernel
theorem dX2_bestStackFor_38 : decode cX2_bestStackFor 38 = .ok (.arraylength, 1) := by decide +kernel
theorem dX2_bestStackFor_39 : decode cX2_bestStackFor 39 = .ok (.istore 9, 2) := by decide +kernel
theorem dX2_bestStackFor_41 : decode cX2_bestStackFor 41 = .ok (.iconst 0, 1) := by decide +kernel
theorem dX2_bestStackFor_42 : decode cX2_bestStackFor 42 = .ok (.istore 10, 2) := by decide +kernel
theorem dX2_bestStackFor_44 : decode cX2_bestStackFor 44 = .ok (.iload 10, 2) := by decide +kernel
theorem dX2_bestStackFor_46 : decode cX2_bestStackFor 46 = .ok (.iload 9, 2) := by decide +kernel
theorem dX2_bestStackFor_48 : decode cX2_bestStackFor 48 = .ok (.if_icmp .ge 132, 3) := by decide +kernel
theorem dX2_bestStackFor_51 : decode cX2_bestStackFor 51 = .ok (.aload 8, 2) := by decide +kernel
theorem dX2_bestStackFor_53 : decode cX2_bestStackFor 53 = .ok (.iload 10, 2) := by decide +kernel
theorem dX2_bestStackFor_55 : decode cX2_bestStackFor 55 = .ok (.aaload, 1) := by decide +kernel
theorem dX2_bestStackFor_56 : decode cX2_bestStackFor 56 = .ok (.astore 11, 2) := by decide +kernel
theorem dX2_bestStackFor_58 : decode cX2_bestStackFor 58 = .ok (.aload 11, 2) := by decide +kernel
theorem dX2_bestStackFor_60 : decode cX2_bestStackFor 60 = .ok (.ifnull 114, 3) := by decide +kernel
theorem dX2_bestStackFor_63 : decode cX2_bestStackFor 63 = .ok (.aload_n 0, 1) := by decide +kernel
theorem dX2_bestStackFor_64 : decode cX2_bestStackFor 64 = .ok (.aload_n 1, 1) := by decide +kernel
theorem dX2_bestStackFor_65 : decode cX2_bestStackFor 65 = .ok (.aload 11, 2) := by decide +kernel
theorem dX2_bestStackFor_67 : decode cX2_bestStackFor 67 = .ok (.invokevirtual 97, 3) := by decide +kernel
theorem dX2_bestStackFor_70 : decode cX2_bestStackFor 70 = .ok (.ifCond .eq 104, 3) := by decide +kernel
theorem dX2_bestStackFor_73 : decode cX2_bestStackFor 73 = .ok (.aload 11, 2) := by decide +kernel
theorem dX2_bestStackFor_75 : decode cX2_bestStackFor 75 = .ok (.aload_n 1, 1) := by decide +kernel
theorem dX2_bestStackFor_76 : decode cX2_bestStackFor 76 = .ok (.getfield 242, 3) := by decide +kernel
theorem dX2_bestStackFor_79 : decode cX2_bestStackFor 79 = .ok (.invokevirtual 245, 3) := by decide +kernel
theorem dX2_bestStackFor_82 : decode cX2_bestStackFor 82 = .ok (.istore 12, 2) := by decide +kernel
theorem dX2_bestStackFor_84 : decode cX2_bestStackFor 84 = .ok (.iload_n 2, 1) := by decide +kernel
theorem dX2_bestStackFor_85 : decode cX2_bestStackFor 85 = .ok (.aload_n 1, 1) := by decide +kernel
theorem dX2_bestStackFor_86 : decode cX2_bestStackFor 86 = .ok (.getfield 169, 3) := by decide +kernel
theorem dX2_bestStackFor_89 : decode cX2_bestStackFor 89 = .ok (.aload 11, 2) := by decide +kernel
theorem dX2_bestStackFor_91 : decode cX2_bestStackFor 91 = .ok (.invokevirtual 162, 3) := by decide +kernel
theorem dX2_bestStackFor_94 : decode cX2_bestStackFor 94 = .ok (.imul, 1) := by decide +kernel
theorem dX2_bestStackFor_95 : decode cX2_bestStackFor 95 = .ok (.iadd, 1) := by decide +kernel
theorem dX2_bestStackFor_96 : decode cX2_bestStackFor 96 = .ok (.invokestatic 176, 3) := by decide +kernel
theorem dX2_bestStackFor_99 : decode cX2_bestStackFor 99 = .ok (.istore 13, 2) := by decide +kernel
theorem dX2_bestStackFor_101 : decode cX2_bestStackFor 101 = .ok (.iload_n 3, 1) := by decide +kernel
theorem dX2_bestStackFor_102 : decode cX2_bestStackFor 102 = .ok (.aload_n 1, 1) := by decide +kernel
theorem dX2_bestStackFor_103 : decode cX2_bestStackFor 103 = .ok (.getfield 169, 3) := by decide +kernel
theorem dX2_bestStackFor_106 : decode cX2_bestStackFor 106 = .ok (.aload 11, 2) := by decide +kernel
theorem dX2_bestStackFor_108 : decode cX2_bestStackFor 108 = .ok (.invokevirtual 159, 3) := by decide +kernel
theorem dX2_bestStackFor_111 : decode cX2_bestStackFor 111 = .ok (.imul, 1) := by decide +kernel
theorem dX2_bestStackFor_112 : decode cX2_bestStackFor 112 = .ok (.iadd, 1) := by decide +kernel
theorem dX2_bestStackFor_113 : decode cX2_bestStackFor 113 = .ok (.invokestatic 176, 3) := by decide +kernel
theorem dX2_bestStackFor_116 : decode cX2_bestStackFor 116 = .ok (.istore 14, 2) := by decide +kernel
theorem dX2_bestStackFor_118 : decode cX2_bestStackFor 118 = .ok (.aload 4, 2) := by decide +kernel
theorem dX2_bestStackFor_120 : decode cX2_bestStackFor 120 = .ok (.ifnull 38, 3) := by decide +kernel
theorem dX2_bestStackFor_123 : decode cX2_bestStackFor 123 = .ok (.iload 12, 2) := by decide +kernel
theorem dX2_bestStackFor_125 : decode cX2_bestStackFor 125 = .ok (.iload 5, 2) := by decide +kernel
theorem dX2_bestStackFor_127 : decode cX2_bestStackFor 127 = .ok (.if_icmp .lt 31, 3) := by decide +kernel
theorem dX2_bestStackFor_130 : decode cX2_bestStackFor 130 = .ok (.iload 12, 2) := by decide +kernel
theorem dX2_bestStackFor_132 : decode cX2_bestStackFor 132 = .ok (.iload 5, 2) := by decide +kernel
theorem dX2_bestStackFor_134 : decode cX2_bestStackFor 134 = .ok (.if_icmp .ne 40, 3) := by decide +kernel
theorem dX2_bestStackFor_137 : decode cX2_bestStackFor 137 = .ok (.iload 13, 2) := by decide +kernel
theorem dX2_bestStackFor_139 : decode cX2_bestStackFor 139 = .ok (.iload 6, 2) := by decide +kernel
theorem dX2_bestStackFor_141 : decode cX2_bestStackFor 141 = .ok (.if_icmp .lt 17, 3) := by decide +kernel
theorem dX2_bestStackFor_144 : decode cX2_bestStackFor 144 = .ok (.iload 13, 2) := by decide +kernel
theorem dX2_bestStackFor_146 : decode cX2_bestStackFor 146 = .ok (.iload 6, 2) := by decide +kernel
theorem dX2_bestStackFor_148 : decode cX2_bestStackFor 148 = .ok (.if_icmp .ne 26, 3) := by decide +kernel
theorem dX2_bestStackFor_151 : decode cX2_bestStackFor 151 = .ok (.iload 14, 2) := by decide +kernel
theorem dX2_bestStackFor_153 : decode cX2_bestStackFor 153 = .ok (.iload 7, 2) := by decide +kernel
theorem dX2_bestStackFor_155 : decode cX2_bestStackFor 155 = .ok (.if_icmp .ge 19, 3) := by decide +kernel
theorem dX2_bestStackFor_158 : decode cX2_bestStackFor 158 = .ok (.aload 11, 2) := by decide +kernel
theorem dX2_bestStackFor_160 : decode cX2_bestStackFor 160 = .ok (.astore 4, 2) := by decide +kernel
theorem dX2_bestStackFor_162 : decode cX2_bestStackFor 162 = .ok (.iload 12, 2) := by decide +kernel
theorem dX2_bestStackFor_164 : decode cX2_bestStackFor 164 = .ok (.istore 5, 2) := by decide +kernel
theorem dX2_bestStackFor_166 : decode cX2_bestStackFor 166 = .ok (.iload 13, 2) := by decide +kernel
theorem dX2_bestStackFor_168 : decode cX2_bestStackFor 168 = .ok (.istore 6, 2) := by decide +kernel
theorem dX2_bestStackFor_170 : decode cX2_bestStackFor 170 = .ok (.iload 14, 2) := by decide +kernel
theorem dX2_bestStackFor_172 : decode cX2_bestStackFor 172 = .ok (.istore 7, 2) := by decide +kernel
theorem dX2_bestStackFor_174 : decode cX2_bestStackFor 174 = .ok (.iinc 10 1, 3) := by decide +kernel
theorem dX2_bestStackFor_177 : decode cX2_bestStackFor 177 = .ok (.goto (-133), 3) := by decide +kernel
theorem dX2_bestStackFor_180 : decode cX2_bestStackFor 180 = .ok (.aload 4, 2) := by decide +kernel
theorem dX2_bestStackFor_182 : decode cX2_bestStackFor 182 = .ok (.areturn, 1) := by decide +kernel
theorem dX3_init_0 : decode cX3_init 0 = .ok (.aload_n 0, 1) := by decide +kernel
theorem dX3_init_1 : decode cX3_init 1 = .ok (.invokespecial 3, 3) := by decide +kernel
theorem dX3_init_4 : decode cX3_init 4 = .ok (.aload_n 0, 1) := by decide +kernel
theorem dX3_init_5 : decode cX3_init 5 = .ok (.sipush 200, 3) := by decide +kernel
theorem dX3_init_8 : decode cX3_init 8 = .ok (.newarray .int, 2) := by decide +kernel
theorem dX3_init_10 : decode cX3_init 10 = .ok (.putfield 9, 3) := by decide +kernel
theorem dX3_init_13 : decode cX3_init 13 = .ok (.aload_n 0, 1) := by decide +kernel
theorem dX3_init_14 : decode cX3_init 14 = .ok (.bipush 40, 2) := by decide +kernel
theorem dX3_init_16 : decode cX3_init 16 = .ok (.newarray .int, 2) := by decide +kernel
theorem dX3_init_18 : decode cX3_init 18 = .ok (.putfield 13, 3) := by decide +kernel
theorem dX3_init_21 : decode cX3_init 21 = .ok (.aload_n 0, 1) := by decide +kernel
theorem dX3_init_22 : decode cX3_init 22 = .ok (.bipush 40, 2) := by decide +kernel
theorem dX3_init_24 : decode cX3_init 24 = .ok (.newarray .int, 2) := by decide +kernel
theorem dX3_init_26 : decode cX3_init 26 = .ok (.putfield 16, 3) := by decide +kernel
theorem dX3_init_29 : decode cX3_init 29 = .ok (.aload_n 0, 1) := by decide +kernel
theorem dX3_init_30 : decode cX3_init 30 = .ok (.bipush 30, 2) := by decide +kernel
theorem dX3_init_32 : decode cX3_init 32 = .ok (.newarray .boolean, 2) := by decide +kernel
theorem dX3_init_34 : decode cX3_init 34 = .ok (.putfield 19, 3) := by decide +kernel
theorem dX3_init_37 : decode cX3_init 37 = .ok (.aload_n 0, 1) := by decide +kernel
theorem dX3_init_38 : decode cX3_init 38 = .ok (.bipush 60, 2) := by decide +kernel
theorem dX3_init_40 : decode cX3_init 40 = .ok (.putfield 23, 3) := by decide +kernel
theorem dX3_init_43 : decode cX3_init 43 = .ok (.aload_n 0, 1) := by decide +kernel
theorem dX3_init_44 : decode cX3_init 44 = .ok (.bipush 60, 2) := by decide +kernel
theorem dX3_init_46 : decode cX3_init 46 = .ok (.putfield 27, 3) := by decide +kernel
theorem dX3_init_49 : decode cX3_init 49 = .ok (.aload_n 0, 1) := by decide +kernel
theorem dX3_init_50 : decode cX3_init 50 = .ok (.sipush 200, 3) := by decide +kernel
theorem dX3_init_53 : decode cX3_init 53 = .ok (.putfield 30, 3) := by decide +kernel
theorem dX3_init_56 : decode cX3_init 56 = .ok (.bipush 10, 2) := by decide +kernel
theorem dX3_init_58 : decode cX3_init 58 = .ok (.istore_n 1, 1) := by decide +kernel
theorem dX3_init_59 : decode cX3_init 59 = .ok (.iload_n 1, 1) := by decide +kernel
theorem dX3_init_60 : decode cX3_init 60 = .ok (.bipush 20, 2) := by decide +kernel
theorem dX3_init_62 : decode cX3_init 62 = .ok (.if_icmp .ge 16, 3) := by decide +kernel
theorem dX3_init_65 : decode cX3_init 65 = .ok (.aload_n 0, 1) := by decide +kernel
theorem dX3_init_66 : decode cX3_init 66 = .ok (.getfield 19, 3) := by decide +kernel
theorem dX3_init_69 : decode cX3_init 69 = .ok (.iload_n 1, 1) := by decide +kernel
theorem dX3_init_70 : decode cX3_init 70 = .ok (.iconst 1, 1) := by decide +kernel
theorem dX3_init_71 : decode cX3_init 71 = .ok (.bastore, 1) := by decide +kernel
theorem dX3_init_72 : decode cX3_init 72 = .ok (.iinc 1 1, 3) := by decide +kernel
theorem dX3_init_75 : decode cX3_init 75 = .ok (.goto (-16), 3) := by decide +kernel
theorem dX3_init_78 : decode cX3_init 78 = .ok (.return_, 1) := by decide +kernel
theorem dX3_thrown_0 : decode cX3_thrown 0 = .ok (.aload_n 0, 1) := by decide +kernel
theorem dX3_thrown_1 : decode cX3_thrown 1 = .ok (.getfield 33, 3) := by decide +kernel
theorem dX3_thrown_4 : decode cX3_thrown 4 = .ok (.ireturn, 1) := by decide +kernel
theorem dX3_fail_0 : decode cX3_fail 0 = .ok (.aload_n 0, 1) := by decide +kernel
theorem dX3_fail_1 : decode cX3_fail 1 = .ok (.iload_n 1, 1) := by decide +kernel
theorem dX3_fail_2 : decode cX3_fail 2 = .ok (.putfield 33, 3) := by decide +kernel
theorem dX3_fail_5 : decode cX3_fail 5 = .ok (.iconst 0, 1) := by decide +kernel
theorem dX3_fail_6 : decode cX3_fail 6 = .ok (.ireturn, 1) := by decide +kernel
theorem dX3_isIn_0 : decode cX3_isIn 0 = .ok (.iload_n 0, 1) := by decide +kernel
theorem dX3_isIn_1 : decode cX3_isIn 1 = .ok (.iload_n 1, 1) := by decide +kernel
theorem dX3_isIn_2 : decode cX3_isIn 2 = .ok (.if_icmp .lt 12, 3) := by decide +kernel
theorem dX3_isIn_5 : decode cX3_isIn 5 = .ok (.iload_n 0, 1) := by decide +kernel
theorem dX3_isIn_6 : decode cX3_isIn 6 = .ok (.iload_n 2, 1) := by decide +kernel
theorem dX3_isIn_7 : decode cX3_isIn 7 = .ok (.if_icmp .gt 7, 3) := by decide +kernel
theorem dX3_isIn_10 : decode cX3_isIn 10 = .ok (.iconst 1, 1) := by decide +kernel
theorem dX3_isIn_11 : decode cX3_isIn 11 = .ok (.goto 4, 3) := by decide +kernel
theorem dX3_isIn_14 : decode cX3_isIn 14 = .ok (.iconst 0, 1) := by decide +kernel
theorem dX3_isIn_15 : decode cX3_isIn 15 = .ok (.ireturn, 1) := by decide +kernel
set_option maxRecDepth 20000 in
theorem ggX3_isContainer_X3_isIn : GoodIn wsX3_isContainer wsX3_isIn := goodIn_r _ [5] (by decide +kernel) (by decide +kernel)
set_option maxRecDepth 20000 in
theorem gX3_isContainer_X3_isIn : GoodIn wsX3_isContainer (va_wsS RX3 39 yX3_isIn wsX3_isIn) := goodIn_app (goodIn_of _ (by decide +kernel)) ggX3_isContainer_X3_isIn
theorem dX3_isContainer_0 : decode cX3_isContainer 0 = .ok (.iload_n 1, 1) := by decide +kernel
theorem dX3_isContainer_1 : decode cX3_isContainer 1 = .ok (.iconst 0, 1) := by decide +kernel
theorem dX3_isContainer_2 : decode cX3_isContainer 2 = .ok (.aload_n 0, 1) := by decide +kernel
theorem dX3_isContainer_3 : decode cX3_isContainer 3 = .ok (.getfield 36, 3) := by decide +kernel
theorem dX3_isContainer_6 : decode cX3_isContainer 6 = .ok (.iconst 1, 1) := by decide +kernel
theorem dX3_isContainer_7 : decode cX3_isContainer 7 = .ok (.isub, 1) := by decide +kernel
theorem dX3_isContainer_8 : decode cX3_isContainer 8 = .ok (.invokestatic 39, 3) := by decide +kernel
theorem dX3_isContainer_11 : decode cX3_isContainer 11 = .ok (.ireturn, 1) := by decide +kernel
set_option maxRecDepth 20000 in
theorem ggX3_isStack_X3_isIn : GoodIn wsX3_isStack wsX3_isIn := goodIn_r _ [4] (by decide +kernel) (by decide +kernel)
set_option maxRecDepth 20000 in
theorem gX3_isStack_X3_isIn : GoodIn wsX3_isStack (va_wsS RX3 39 yX3_isIn wsX3_isIn) := goodIn_app (goodIn_of _ (by decide +kernel)) ggX3_isStack_X3_isIn
theorem dX3_isStack_0 : decode cX3_isStack 0 = .ok (.iload_n 0, 1) := by decide +kernel
theorem dX3_isStack_1 : decode cX3_isStack 1 = .ok (.iconst 0, 1) := by decide +kernel
theorem dX3_isStack_2 : decode cX3_isStack 2 = .ok (.iconst 5, 1) := by decide +kernel
theorem dX3_isStack_3 : decode cX3_isStack 3 = .ok (.invokestatic 39, 3) := by decide +kernel
theorem dX3_isStack_6 : decode cX3_isStack 6 = .ok (.ifCond .eq 16, 3) := by decide +kernel
theorem dX3_isStack_9 : decode cX3_isStack 9 = .ok (.iload_n 1, 1) := by decide +kernel
theorem dX3_isStack_10 : decode cX3_isStack 10 = .ok (.iconst 0, 1) := by decide +kernel
theorem dX3_isStack_11 : decode cX3_isStack 11 = .ok (.iconst 4, 1) := by decide +kernel
theorem dX3_isStack_12 : decode cX3_isStack 12 = .ok (.invokestatic 39, 3) := by decide +kernel
theorem dX3_isStack_15 : decode cX3_isStack 15 = .ok (.ifCond .eq 7, 3) := by decide +kernel
theorem dX3_isStack_18 : decode cX3_isStack 18 = .ok (.iconst 1, 1) := by decide +kernel
theorem dX3_isStack_19 : decode cX3_isStack 19 = .ok (.goto 4, 3) := by decide +kernel
theorem dX3_isStack_22 : decode cX3_isStack 22 = .ok (.iconst 0, 1) := by decide +kernel
theorem dX3_isStack_23 : decode cX3_isStack 23 = .ok (.ireturn, 1) := by decide +kernel
theorem dX3_stack_0 : decode cX3_stack 0 = .ok (.iconst 5, 1) := by decide +kernel
theorem dX3_stack_1 : decode cX3_stack 1 = .ok (.iload_n 0, 1) := by decide +kernel
theorem dX3_stack_2 : decode cX3_stack 2 = .ok (.imul, 1) := by decide +kernel
theorem dX3_stack_3 : decode cX3_stack 3 = .ok (.iload_n 1, 1) := by decide +kernel
theorem dX3_stack_4 : decode cX3_stack 4 = .ok (.iadd, 1) := by decide +kernel
theorem dX3_stack_5 : decode cX3_stack 5 = .ok (.ireturn, 1) := by decide +kernel
theorem dX3_heavy_0 : decode cX3_heavy 0 = .ok (.aload_n 0, 1) := by decide +kernel
theorem dX3_heavy_1 : decode cX3_heavy 1 = .ok (.getfield 9, 3) := by decide +kernel
theorem dX3_heavy_4 : decode cX3_heavy 4 = .ok (.iconst 5, 1) := by decide +kernel
theorem dX3_heavy_5 : decode cX3_heavy 5 = .ok (.iload_n 1, 1) := by decide +kernel
theorem dX3_heavy_6 : decode cX3_heavy 6 = .ok (.imul, 1) := by decide +kernel
theorem dX3_heavy_7 : decode cX3_heavy 7 = .ok (.iaload, 1) := by decide +kernel
theorem dX3_heavy_8 : decode cX3_heavy 8 = .ok (.ireturn, 1) := by decide +kernel
theorem dX3_to_0 : decode cX3_to 0 = .ok (.aload_n 0, 1) := by decide +kernel
theorem dX3_to_1 : decode cX3_to 1 = .ok (.getfield 9, 3) := by decide +kernel
theorem dX3_to_4 : decode cX3_to 4 = .ok (.iconst 5, 1) := by decide +kernel
theorem dX3_to_5 : decode cX3_to 5 = .ok (.iload_n 1, 1) := by decide +kernel
theorem dX3_to_6 : decode cX3_to 6 = .ok (.imul, 1) := by decide +kernel
theorem dX3_to_7 : decode cX3_to 7 = .ok (.iconst 2, 1) := by decide +kernel
theorem dX3_to_8 : decode cX3_to 8 = .ok (.iadd, 1) := by decide +kernel
theorem dX3_to_9 : decode cX3_to 9 = .ok (.iaload, 1) := by decide +kernel
theorem dX3_to_10 : decode cX3_to 10 = .ok (.ireturn, 1) := by decide +kernel
theorem dX3_kind_0 : decode cX3_kind 0 = .ok (.aload_n 0, 1) := by decide +kernel
theorem dX3_kind_1 : decode cX3_kind 1 = .ok (.getfield 9, 3) := by decide +kernel
theorem dX3_kind_4 : decode cX3_kind 4 = .ok (.iconst 5, 1) := by decide +kernel
theorem dX3_kind_5 : decode cX3_kind 5 = .ok (.iload_n 1, 1) := by decide +kernel
theorem dX3_kind_6 : decode cX3_kind 6 = .ok (.imul, 1) := by decide +kernel
theorem dX3_kind_7 : decode cX3_kind 7 = .ok (.iconst 3, 1) := by decide +kernel
theorem dX3_kind_8 : decode cX3_kind 8 = .ok (.iadd, 1) := by decide +kernel
theorem dX3_kind_9 : decode cX3_kind 9 = .ok (.iaload, 1) := by decide +kernel
theorem dX3_kind_10 : decode cX3_kind 10 = .ok (.ireturn, 1) := by decide +kernel
theorem dX3_state_0 : decode cX3_state 0 = .ok (.aload_n 0, 1) := by decide +kernel
theorem dX3_state_1 : decode cX3_state 1 = .ok (.getfield 9, 3) := by decide +kernel
theorem dX3_state_4 : decode cX3_state 4 = .ok (.iconst 5, 1) := by decide +kernel
theorem dX3_state_5 : decode cX3_state 5 = .ok (.iload_n 1, 1) := by decide +kernel
theorem dX3_state_6 : decode cX3_state 6 = .ok (.imul, 1) := by decide +kernel
theorem dX3_state_7 : decode cX3_state 7 = .ok (.iconst 4, 1) := by decide +kernel
theorem dX3_state_8 : decode cX3_state 8 = .ok (.iadd, 1) := by decide +kernel
theorem dX3_state_9 : decode cX3_state 9 = .ok (.iaload, 1) := by decide +kernel
theorem dX3_state_10 : decode cX3_state 10 = .ok (.ireturn, 1) := by decide +kernel
set_option maxRecDepth 20000 in
theorem ggX3_isOn_X3_state : GoodIn wsX3_isOn wsX3_state := goodIn_r _ [6, 7, 8, 9, 10, 11, 12, 13, 14, 15, 16, 17, 18, 19, 20] (by decide +kernel) (by decide +kernel)
set_option maxRecDepth 20000 in
theorem gX3_isOn_X3_state : GoodIn wsX3_isOn (wsV RX3 43 RX3 yX3_state wsX3_state) := goodIn_app (goodIn_of _ (by decide +kernel)) ggX3_isOn_X3_state
theorem dX3_isOn_0 : decode cX3_isOn 0 = .ok (.aload_n 0, 1) := by decide +kernel
theorem dX3_isOn_1 : decode cX3_isOn 1 = .ok (.iload_n 1, 1) := by decide +kernel
theorem dX3_isOn_2 : decode cX3_isOn 2 = .ok (.invokevirtual 43, 3) := by decide +kernel
theorem dX3_isOn_5 : decode cX3_isOn 5 = .ok (.iconst 1, 1) := by decide +kernel
theorem dX3_isOn_6 : decode cX3_isOn 6 = .ok (.if_icmp .ne 17, 3) := by decide +kernel
theorem dX3_isOn_9 : decode cX3_isOn 9 = .ok (.aload_n 0, 1) := by decide +kernel
theorem dX3_isOn_10 : decode cX3_isOn 10 = .ok (.getfield 13, 3) := by decide +kernel
theorem dX3_isOn_13 : decode cX3_isOn 13 = .ok (.iload_n 1, 1) := by decide +kernel
theorem dX3_isOn_14 : decode cX3_isOn 14 = .ok (.iaload, 1) := by decide +kernel
theorem dX3_isOn_15 : decode cX3_isOn 15 = .ok (.iload_n 2, 1) := by decide +kernel
theorem dX3_isOn_16 : decode cX3_isOn 16 = .ok (.if_icmp .ne 7, 3) := by decide +kernel
theorem dX3_isOn_19 : decode cX3_isOn 19 = .ok (.iconst 1, 1) := by decide +kernel
theorem dX3_isOn_20 : decode cX3_isOn 20 = .ok (.goto 4, 3) := by decide +kernel
theorem dX3_isOn_23 : decode cX3_isOn 23 = .ok (.iconst 0, 1) := by decide +kernel
theorem dX3_isOn_24 : decode cX3_isOn 24 = .ok (.ireturn, 1) := by decide +kernel
set_option maxRecDepth 20000 in
theorem ggX3_high_X3_isOn : GoodIn wsX3_high wsX3_isOn := goodIn_r _ [6, 7, 8, 9, 10, 5, 11, 12, 13, 14, 15, 16, 17, 18, 19, 20, 21, 22, 23, 24, 25] (by decide +kernel) (by decide +kernel)
set_option maxRecDepth 20000 in
theorem gX3_high_X3_isOn : GoodIn wsX3_high (wsV RX3 47 RX3 yX3_isOn wsX3_isOn) := goodIn_app (goodIn_of _ (by decide +kernel)) ggX3_high_X3_isOn
theorem dX3_high_0 : decode cX3_high 0 = .ok (.iconst 0, 1) := by decide +kernel
theorem dX3_high_1 : decode cX3_high 1 = .ok (.istore_n 2, 1) := by decide +kernel
theorem dX3_high_2 : decode cX3_high 2 = .ok (.iconst 0, 1) := by decide +kernel
theorem dX3_high_3 : decode cX3_high 3 = .ok (.istore_n 3, 1) := by decide +kernel
theorem dX3_high_4 : decode cX3_high 4 = .ok (.iload_n 3, 1) := by decide +kernel
theorem dX3_high_5 : decode cX3_high 5 = .ok (.aload_n 0, 1) := by decide +kernel
theorem dX3_high_6 : decode cX3_high 6 = .ok (.getfield 36, 3) := by decide +kernel
theorem dX3_high_9 : decode cX3_high 9 = .ok (.if_icmp .ge 26, 3) := by decide +kernel
theorem dX3_high_12 : decode cX3_high 12 = .ok (.iload_n 2, 1) := by decide +kernel
theorem dX3_high_13 : decode cX3_high 13 = .ok (.aload_n 0, 1) := by decide +kernel
theorem dX3_high_14 : decode cX3_high 14 = .ok (.iload_n 3, 1) := by decide +kernel
theorem dX3_high_15 : decode cX3_high 15 = .ok (.iload_n 1, 1) := by decide +kernel
theorem dX3_high_16 : decode cX3_high 16 = .ok (.invokevirtual 47, 3) := by decide +kernel
theorem dX3_high_19 : decode cX3_high 19 = .ok (.ifCond .eq 7, 3) := by decide +kernel
theorem dX3_high_22 : decode cX3_high 22 = .ok (.iconst 1, 1) := by decide +kernel
theorem dX3_high_23 : decode cX3_high 23 = .ok (.goto 4, 3) := by decide +kernel
theorem dX3_high_26 : decode cX3_high 26 = .ok (.iconst 0, 1) := by decide +kernel
theorem dX3_high_27 : decode cX3_high 27 = .ok (.iadd, 1) := by decide +kernel
theorem dX3_high_28 : decode cX3_high 28 = .ok (.istore_n 2, 1) := by decide +kernel
theorem dX3_high_29 : decode cX3_high 29 = .ok (.iinc 3 1, 3) := by decide +kernel
theorem dX3_high_32 : decode cX3_high 32 = .ok (.goto (-28), 3) := by decide +kernel
theorem dX3_high_35 : decode cX3_high 35 = .ok (.iload_n 2, 1) := by decide +kernel
theorem dX3_high_36 : decode cX3_high 36 = .ok (.ireturn, 1) := by decide +kernel
set_option maxRecDepth 20000 in
theorem ggX3_find_X3_isOn : GoodIn wsX3_find wsX3_isOn := goodIn_r _ [7, 8, 9, 10, 11, 6, 12, 13, 14, 15, 16, 17, 18, 19, 20, 21, 22, 23, 24, 25, 26] (by decide +kernel) (by decide +kernel)
set_option maxRecDepth 20000 in
theorem gX3_find_X3_isOn : GoodIn wsX3_find (wsV RX3 47 RX3 yX3_isOn wsX3_isOn) := goodIn_app (goodIn_of _ (by decide +kernel)) ggX3_find_X3_isOn
theorem dX3_find_0 : decode cX3_find 0 = .ok (.iconst 0, 1) := by decide +kernel
theorem dX3_find_1 : decode cX3_find 1 = .ok (.istore_n 3, 1) := by decide +kernel
theorem dX3_find_2 : decode cX3_find 2 = .ok (.iload_n 3, 1) := by decide +kernel
theorem dX3_find_3 : decode cX3_find 3 = .ok (.aload_n 0, 1) := by decide +kernel
theorem dX3_find_4 : decode cX3_find 4 = .ok (.getfield 36, 3) := by decide +kernel
theorem dX3_find_7 : decode cX3_find 7 = .ok (.if_icmp .ge 30, 3) := by decide +kernel
theorem dX3_find_10 : decode cX3_find 10 = .ok (.aload_n 0, 1) := by decide +kernel
theorem dX3_find_11 : decode cX3_find 11 = .ok (.iload_n 3, 1) := by decide +kernel
theorem dX3_find_12 : decode cX3_find 12 = .ok (.iload_n 1, 1) := by decide +kernel
theorem dX3_find_13 : decode cX3_find 13 = .ok (.invokevirtual 47, 3) := by decide +kernel
theorem dX3_find_16 : decode cX3_find 16 = .ok (.ifCond .eq 15, 3) := by decide +kernel
theorem dX3_find_19 : decode cX3_find 19 = .ok (.aload_n 0, 1) := by decide +kernel
theorem dX3_find_20 : decode cX3_find 20 = .ok (.getfield 16, 3) := by decide +kernel
theorem dX3_find_23 : decode cX3_find 23 = .ok (.iload_n 3, 1) := by decide +kernel
theorem dX3_find_24 : decode cX3_find 24 = .ok (.iaload, 1) := by decide +kernel
theorem dX3_find_25 : decode cX3_find 25 = .ok (.iload_n 2, 1) := by decide +kernel
theorem dX3_find_26 : decode cX3_find 26 = .ok (.if_icmp .ne 5, 3) := by decide +kernel
theorem dX3_find_29 : decode cX3_find 29 = .ok (.iload_n 3, 1) := by decide +kernel
theorem dX3_find_30 : decode cX3_find 30 = .ok (.ireturn, 1) := by decide +kernel
theorem dX3_find_31 : decode cX3_find 31 = .ok (.iinc 3 1, 3) := by decide +kernel
theorem dX3_find_34 : decode cX3_find 34 = .ok (.goto (-32), 3) := by decide +kernel
theorem dX3_find_37 : decode cX3_find 37 = .ok (.iconst (-1), 1) := by decide +kernel
theorem dX3_find_38 : decode cX3_find 38 = .ok (.ireturn, 1) := by decide +kernel
set_option maxRecDepth 20000 in
theorem ggX3_addContainer_X3_isIn : GoodIn wsX3_addContainer wsX3_isIn := goodIn_r _ [13] (by decide +kernel) (by decide +kernel)
set_option maxRecDepth 20000 in
theorem gX3_addContainer_X3_isIn : GoodIn wsX3_addContainer (va_wsS RX3 39 yX3_isIn wsX3_isIn) := goodIn_app (goodIn_of _ (by decide +kernel)) ggX3_addContainer_X3_isIn
set_option maxRecDepth 20000 in
theorem ggX3_addContainer_X3_fail : GoodIn wsX3_addContainer wsX3_fail := goodIn_r _ [17, 1, 18, 19, 20, 21, 22, 23, 24, 25, 26, 27, 28, 29, 30] (by decide +kernel) (by decide +kernel)
set_option maxRecDepth 20000 in
theorem gX3_addContainer_X3_fail : GoodIn wsX3_addContainer (wsV RX3 51 RX3 yX3_fail wsX3_fail) := goodIn_app (goodIn_of _ (by decide +kernel)) ggX3_addContainer_X3_fail
theorem dX3_addContainer_0 : decode cX3_addContainer 0 = .ok (.aload_n 0, 1) := by decide +kernel
theorem dX3_addContainer_1 : decode cX3_addContainer 1 = .ok (.iconst 0, 1) := by decide +kernel
theorem dX3_addContainer_2 : decode cX3_addContainer 2 = .ok (.putfield 33, 3) := by decide +kernel
theorem dX3_addContainer_5 : decode cX3_addContainer 5 = .ok (.iload_n 1, 1) := by decide +kernel
theorem dX3_addContainer_6 : decode cX3_addContainer 6 = .ok (.iconst 1, 1) := by decide +kernel
theorem dX3_addContainer_7 : decode cX3_addContainer 7 = .ok (.bipush 30, 2) := by decide +kernel
theorem dX3_addContainer_9 : decode cX3_addContainer 9 = .ok (.invokestatic 39, 3) := by decide +kernel
theorem dX3_addContainer_12 : decode cX3_addContainer 12 = .ok (.ifCond .eq 33, 3) := by decide +kernel
theorem dX3_addContainer_15 : decode cX3_addContainer 15 = .ok (.iload_n 2, 1) := by decide +kernel
theorem dX3_addContainer_16 : decode cX3_addContainer 16 = .ok (.iconst 0, 1) := by decide +kernel
theorem dX3_addContainer_17 : decode cX3_addContainer 17 = .ok (.iconst 4, 1) := by decide +kernel
theorem dX3_addContainer_18 : decode cX3_addContainer 18 = .ok (.invokestatic 39, 3) := by decide +kernel
theorem dX3_addContainer_21 : decode cX3_addContainer 21 = .ok (.ifCond .eq 24, 3) := by decide +kernel
theorem dX3_addContainer_24 : decode cX3_addContainer 24 = .ok (.iload_n 3, 1) := by decide +kernel
theorem dX3_addContainer_25 : decode cX3_addContainer 25 = .ok (.iload_n 2, 1) := by decide +kernel
theorem dX3_addContainer_26 : decode cX3_addContainer 26 = .ok (.iconst 1, 1) := by decide +kernel
theorem dX3_addContainer_27 : decode cX3_addContainer 27 = .ok (.iadd, 1) := by decide +kernel
theorem dX3_addContainer_28 : decode cX3_addContainer 28 = .ok (.iconst 5, 1) := by decide +kernel
theorem dX3_addContainer_29 : decode cX3_addContainer 29 = .ok (.invokestatic 39, 3) := by decide +kernel
theorem dX3_addContainer_32 : decode cX3_addContainer 32 = .ok (.ifCond .eq 13, 3) := by decide +kernel
theorem dX3_addContainer_35 : decode cX3_addContainer 35 = .ok (.iload 4, 2) := by decide +kernel
theorem dX3_addContainer_37 : decode cX3_addContainer 37 = .ok (.iconst 0, 1) := by decide +kernel
theorem dX3_addContainer_38 : decode cX3_addContainer 38 = .ok (.iconst 4, 1) := by decide +kernel
theorem dX3_addContainer_39 : decode cX3_addContainer 39 = .ok (.invokestatic 39, 3) := by decide +kernel
theorem dX3_addContainer_42 : decode cX3_addContainer 42 = .ok (.ifCond .ne 9, 3) := by decide +kernel
theorem dX3_addContainer_45 : decode cX3_addContainer 45 = .ok (.aload_n 0, 1) := by decide +kernel
theorem dX3_addContainer_46 : decode cX3_addContainer 46 = .ok (.iconst 1, 1) := by decide +kernel
theorem dX3_addContainer_47 : decode cX3_addContainer 47 = .ok (.invokevirtual 51, 3) := by decide +kernel
theorem dX3_addContainer_50 : decode cX3_addContainer 50 = .ok (.ireturn, 1) := by decide +kernel
theorem dX3_addContainer_51 : decode cX3_addContainer 51 = .ok (.iload_n 2, 1) := by decide +kernel
theorem dX3_addContainer_52 : decode cX3_addContainer 52 = .ok (.aload_n 0, 1) := by decide +kernel
theorem dX3_addContainer_53 : decode cX3_addContainer 53 = .ok (.getfield 54, 3) := by decide +kernel
theorem dX3_addContainer_56 : decode cX3_addContainer 56 = .ok (.if_icmp .lt 12, 3) := by decide +kernel
theorem dX3_addContainer_59 : decode cX3_addContainer 59 = .ok (.aload_n 0, 1) := by decide +kernel
theorem dX3_addContainer_60 : decode cX3_addContainer 60 = .ok (.getfield 36, 3) := by decide +kernel
theorem dX3_addContainer_63 : decode cX3_addContainer 63 = .ok (.bipush 40, 2) := by decide +kernel
theorem dX3_addContainer_65 : decode cX3_addContainer 65 = .ok (.if_icmp .ne 9, 3) := by decide +kernel
theorem dX3_addContainer_68 : decode cX3_addContainer 68 = .ok (.aload_n 0, 1) := by decide +kernel
theorem dX3_addContainer_69 : decode cX3_addContainer 69 = .ok (.iconst 2, 1) := by decide +kernel
theorem dX3_addContainer_70 : decode cX3_addContainer 70 = .ok (.invokevirtual 51, 3) := by decide +kernel
theorem dX3_addContainer_73 : decode cX3_addContainer 73 = .ok (.ireturn, 1) := by decide +kernel
theorem dX3_addContainer_74 : decode cX3_addContainer 74 = .ok (.iconst 5, 1) := by decide +kernel
theorem dX3_addContainer_75 : decode cX3_addContainer 75 = .ok (.newarray .int, 2) := by decide +kernel
theorem dX3_addContainer_77 : decode cX3_addContainer 77 = .ok (.dup, 1) := by decide +kernel
theorem dX3_addContainer_78 : decode cX3_addContainer 78 = .ok (.iconst 0, 1) := by decide +kernel
theorem dX3_addContainer_79 : decode cX3_addContainer 79 = .ok (.iload_n 1, 1) := by decide +kernel
theorem dX3_addContainer_80 : decode cX3_addContainer 80 = .ok (.iastore, 1) := by decide +kernel
theorem dX3_addContainer_81 : decode cX3_addContainer 81 = .ok (.dup, 1) := by decide +kernel
theorem dX3_addContainer_82 : decode cX3_addContainer 82 = .ok (.iconst 1, 1) := by decide +kernel
theorem dX3_addContainer_83 : decode cX3_addContainer 83 = .ok (.iload_n 2, 1) := by decide +kernel
theorem dX3_addContainer_84 : decode cX3_addContainer 84 = .ok (.iastore, 1) := by decide +kernel
theorem dX3_addContainer_85 : decode cX3_addContainer 85 = .ok (.dup, 1) := by decide +kernel
theorem dX3_addContainer_86 : decode cX3_addContainer 86 = .ok (.iconst 2, 1) := by decide +kernel
theorem dX3_addContainer_87 : decode cX3_addContainer 87 = .ok (.iload_n 3, 1) := by decide +kernel
theorem dX3_addContainer_88 : decode cX3_addContainer 88 = .ok (.iastore, 1) := by decide +kernel
theorem dX3_addContainer_89 : decode cX3_addContainer 89 = .ok (.dup, 1) := by decide +kernel
theorem dX3_addContainer_90 : decode cX3_addContainer 90 = .ok (.iconst 3, 1) := by decide +kernel
theorem dX3_addContainer_91 : decode cX3_addContainer 91 = .ok (.iload 4, 2) := by decide +kernel
theorem dX3_addContainer_93 : decode cX3_addContainer 93 = .ok (.iastore, 1) := by decide +kernel
theorem dX3_addContainer_94 : decode cX3_addContainer 94 = .ok (.dup, 1) := by decide +kernel
theorem dX3_addContainer_95 : decode cX3_addContainer 95 = .ok (.iconst 4, 1) := by decide +kernel
theorem dX3_addContainer_96 : decode cX3_addContainer 96 = .ok (.iconst 0, 1) := by decide +kernel
theorem dX3_addContainer_97 : decode cX3_addContainer 97 = .ok (.iastore, 1) := by decide +kernel
theorem dX3_addContainer_98 : decode cX3_addContainer 98 = .ok (.astore 5, 2) := by decide +kernel
theorem dX3_addContainer_100 : decode cX3_addContainer 100 = .ok (.aload 5, 2) := by decide +kernel
theorem dX3_addContainer_102 : decode cX3_addContainer 102 = .ok (.iconst 0, 1) := by decide +kernel
theorem dX3_addContainer_103 : decode cX3_addContainer 103 = .ok (.aload_n 0, 1) := by decide +kernel
theorem dX3_addContainer_104 : decode cX3_addContainer 104 = .ok (.getfield 9, 3) := by decide +kernel
theorem dX3_addContainer_107 : decode cX3_addContainer 107 = .ok (.iconst 5, 1) := by decide +kernel
theorem dX3_addContainer_108 : decode cX3_addContainer 108 = .ok (.aload_n 0, 1) := by decide +kernel
theorem dX3_addContainer_109 : decode cX3_addContainer 109 = .ok (.getfield 36, 3) := by decide +kernel
theorem dX3_addContainer_112 : decode cX3_addContainer 112 = .ok (.imul, 1) := by decide +kernel
theorem dX3_addContainer_113 : decode cX3_addContainer 113 = .ok (.iconst 5, 1) := by decide +kernel
theorem dX3_addContainer_114 : decode cX3_addContainer 114 = .ok (.invokestatic 57, 3) := by decide +kernel
theorem dX3_addContainer_117 : decode cX3_addContainer 117 = .ok (.aload_n 0, 1) := by decide +kernel
theorem dX3_addContainer_118 : decode cX3_addContainer 118 = .ok (.dup, 1) := by decide +kernel
theorem dX3_addContainer_119 : decode cX3_addContainer 119 = .ok (.getfield 36, 3) := by decide +kernel
theorem dX3_addContainer_122 : decode cX3_addContainer 122 = .ok (.iconst 1, 1) := by decide +kernel
theorem dX3_addContainer_123 : decode cX3_addContainer 123 = .ok (.iadd, 1) := by decide +kernel
theorem dX3_addContainer_124 : decode cX3_addContainer 124 = .ok (.putfield 36, 3) := by decide +kernel
theorem dX3_addContainer_127 : decode cX3_addContainer 127 = .ok (.aload_n 0, 1) := by decide +kernel
theorem dX3_addContainer_128 : decode cX3_addContainer 128 = .ok (.getfield 36, 3) := by decide +kernel
theorem dX3_addContainer_131 : decode cX3_addContainer 131 = .ok (.iconst 1, 1) := by decide +kernel
theorem dX3_addContainer_132 : decode cX3_addContainer 132 = .ok (.isub, 1) := by decide +kernel
theorem dX3_addContainer_133 : decode cX3_addContainer 133 = .ok (.ireturn, 1) := by decide +kernel
set_option maxRecDepth 20000 in
theorem ggX3_container_X3_isContainer : GoodIn wsX3_container wsX3_isContainer := goodIn_r _ [7, 8, 9, 10, 6, 11, 16, 17, 18, 19, 20, 21, 22, 23, 24, 25, 26, 27, 28] (by decide +kernel) (by decide +kernel)
set_option maxRecDepth 20000 in
theorem gX3_container_X3_isContainer : GoodIn wsX3_container (wsV RX3 63 RX3 yX3_isContainer wsX3_isContainer) := goodIn_app (goodIn_of _ (by decide +kernel)) ggX3_container_X3_isContainer
set_option maxRecDepth 20000 in
theorem ggX3_container_X3_isIn : GoodIn wsX3_container wsX3_isIn := goodIn_r _ [11] (by decide +kernel) (by decide +kernel)
set_option maxRecDepth 20000 in
theorem gX3_container_X3_isIn : GoodIn wsX3_container (va_wsS RX3 39 yX3_isIn wsX3_isIn) := goodIn_app (goodIn_of _ (by decide +kernel)) ggX3_container_X3_isIn
set_option maxRecDepth 20000 in
theorem ggX3_container_X3_fail : GoodIn wsX3_container wsX3_fail := goodIn_r _ [15, 1, 16, 17, 18, 19, 20, 21, 22, 23, 24, 25, 26, 27, 28] (by decide +kernel) (by decide +kernel)
set_option maxRecDepth 20000 in
theorem gX3_container_X3_fail : GoodIn wsX3_container (wsV RX3 51 RX3 yX3_fail wsX3_fail) := goodIn_app (goodIn_of _ (by decide +kernel)) ggX3_container_X3_fail
theorem dX3_container_0 : decode cX3_container 0 = .ok (.aload_n 0, 1) := by decide +kernel
theorem dX3_container_1 : decode cX3_container 1 = .ok (.iconst 0, 1) := by decide +kernel
theorem dX3_container_2 : decode cX3_container 2 = .ok (.putfield 33, 3) := by decide +kernel
theorem dX3_container_5 : decode cX3_container 5 = .ok (.aload_n 0, 1) := by decide +kernel
theorem dX3_container_6 : decode cX3_container 6 = .ok (.iload_n 1, 1) := by decide +kernel
theorem dX3_container_7 : decode cX3_container 7 = .ok (.invokevirtual 63, 3) := by decide +kernel
theorem dX3_container_10 : decode cX3_container 10 = .ok (.ifCond .eq 25, 3) := by decide +kernel
theorem dX3_container_13 : decode cX3_container 13 = .ok (.iload_n 2, 1) := by decide +kernel
theorem dX3_container_14 : decode cX3_container 14 = .ok (.iconst 0, 1) := by decide +kernel
theorem dX3_container_15 : decode cX3_container 15 = .ok (.iconst 4, 1) := by decide +kernel
theorem dX3_container_16 : decode cX3_container 16 = .ok (.invokestatic 39, 3) := by decide +kernel
theorem dX3_container_19 : decode cX3_container 19 = .ok (.ifCond .eq 16, 3) := by decide +kernel
theorem dX3_container_22 : decode cX3_container 22 = .ok (.aload_n 0, 1) := by decide +kernel
theorem dX3_container_23 : decode cX3_container 23 = .ok (.getfield 9, 3) := by decide +kernel
theorem dX3_container_26 : decode cX3_container 26 = .ok (.iconst 5, 1) := by decide +kernel
theorem dX3_container_27 : decode cX3_container 27 = .ok (.iload_n 1, 1) := by decide +kernel
theorem dX3_container_28 : decode cX3_container 28 = .ok (.imul, 1) := by decide +kernel
theorem dX3_container_29 : decode cX3_container 29 = .ok (.iload_n 2, 1) := by decide +kernel
theorem dX3_container_30 : decode cX3_container 30 = .ok (.iadd, 1) := by decide +kernel
theorem dX3_container_31 : decode cX3_container 31 = .ok (.iaload, 1) := by decide +kernel
theorem dX3_container_32 : decode cX3_container 32 = .ok (.goto 8, 3) := by decide +kernel
theorem dX3_container_35 : decode cX3_container 35 = .ok (.aload_n 0, 1) := by decide +kernel
theorem dX3_container_36 : decode cX3_container 36 = .ok (.iconst 1, 1) := by decide +kernel
theorem dX3_container_37 : decode cX3_container 37 = .ok (.invokevirtual 51, 3) := by decide +kernel
theorem dX3_container_40 : decode cX3_container 40 = .ok (.ireturn, 1) := by decide +kernel
set_option maxRecDepth 20000 in
theorem ggX3_setLimits_X3_isIn : GoodIn wsX3_setLimits wsX3_isIn := goodIn_r _ [8] (by decide +kernel) (by decide +kernel)
set_option maxRecDepth 20000 in
theorem gX3_setLimits_X3_isIn : GoodIn wsX3_setLimits (va_wsS RX3 39 yX3_isIn wsX3_isIn) := goodIn_app (goodIn_of _ (by decide +kernel)) ggX3_setLimits_X3_isIn
set_option maxRecDepth 20000 in
theorem ggX3_setLimits_X3_fail : GoodIn wsX3_setLimits wsX3_fail := goodIn_r _ [12, 1, 13, 14, 15, 16, 17, 18, 19, 20, 21, 22, 23, 24, 25] (by decide +kernel) (by decide +kernel)
set_option maxRecDepth 20000 in
theorem gX3_setLimits_X3_fail : GoodIn wsX3_setLimits (wsV RX3 51 RX3 yX3_fail wsX3_fail) := goodIn_app (goodIn_of _ (by decide +kernel)) ggX3_setLimits_X3_fail
theorem dX3_setLimits_0 : decode cX3_setLimits 0 = .ok (.aload_n 0, 1) := by decide +kernel
theorem dX3_setLimits_1 : decode cX3_setLimits 1 = .ok (.iconst 0, 1) := by decide +kernel
theorem dX3_setLimits_2 : decode cX3_setLimits 2 = .ok (.putfield 33, 3) := by decide +kernel
theorem dX3_setLimits_5 : decode cX3_setLimits 5 = .ok (.iload_n 1, 1) := by decide +kernel
theorem dX3_setLimits_6 : decode cX3_setLimits 6 = .ok (.iconst 1, 1) := by decide +kernel
theorem dX3_setLimits_7 : decode cX3_setLimits 7 = .ok (.bipush 120, 2) := by decide +kernel
theorem dX3_setLimits_9 : decode cX3_setLimits 9 = .ok (.invokestatic 39, 3) := by decide +kernel
theorem dX3_setLimits_12 : decode cX3_setLimits 12 = .ok (.ifCond .eq 25, 3) := by decide +kernel
theorem dX3_setLimits_15 : decode cX3_setLimits 15 = .ok (.iload_n 2, 1) := by decide +kernel
theorem dX3_setLimits_16 : decode cX3_setLimits 16 = .ok (.iconst 0, 1) := by decide +kernel
theorem dX3_setLimits_17 : decode cX3_setLimits 17 = .ok (.sipush 1000, 3) := by decide +kernel
theorem dX3_setLimits_20 : decode cX3_setLimits 20 = .ok (.invokestatic 39, 3) := by decide +kernel
theorem dX3_setLimits_23 : decode cX3_setLimits 23 = .ok (.ifCond .eq 14, 3) := by decide +kernel
theorem dX3_setLimits_26 : decode cX3_setLimits 26 = .ok (.iload_n 3, 1) := by decide +kernel
theorem dX3_setLimits_27 : decode cX3_setLimits 27 = .ok (.iconst 0, 1) := by decide +kernel
theorem dX3_setLimits_28 : decode cX3_setLimits 28 = .ok (.sipush 1000, 3) := by decide +kernel
theorem dX3_setLimits_31 : decode cX3_setLimits 31 = .ok (.invokestatic 39, 3) := by decide +kernel
theorem dX3_setLimits_34 : decode cX3_setLimits 34 = .ok (.ifCond .ne 9, 3) := by decide +kernel
theorem dX3_setLimits_37 : decode cX3_setLimits 37 = .ok (.aload_n 0, 1) := by decide +kernel
theorem dX3_setLimits_38 : decode cX3_setLimits 38 = .ok (.iconst 1, 1) := by decide +kernel
theorem dX3_setLimits_39 : decode cX3_setLimits 39 = .ok (.invokevirtual 51, 3) := by decide +kernel
theorem dX3_setLimits_42 : decode cX3_setLimits 42 = .ok (.ireturn, 1) := by decide +kernel
theorem dX3_setLimits_43 : decode cX3_setLimits 43 = .ok (.aload_n 0, 1) := by decide +kernel
theorem dX3_setLimits_44 : decode cX3_setLimits 44 = .ok (.getfield 23, 3) := by decide +kernel
theorem dX3_setLimits_47 : decode cX3_setLimits 47 = .ok (.istore 4, 2) := by decide +kernel
theorem dX3_setLimits_49 : decode cX3_setLimits 49 = .ok (.aload_n 0, 1) := by decide +kernel
theorem dX3_setLimits_50 : decode cX3_setLimits 50 = .ok (.iload_n 1, 1) := by decide +kernel
theorem dX3_setLimits_51 : decode cX3_setLimits 51 = .ok (.putfield 23, 3) := by decide +kernel
theorem dX3_setLimits_54 : decode cX3_setLimits 54 = .ok (.aload_n 0, 1) := by decide +kernel
theorem dX3_setLimits_55 : decode cX3_setLimits 55 = .ok (.iload_n 2, 1) := by decide +kernel
theorem dX3_setLimits_56 : decode cX3_setLimits 56 = .ok (.putfield 27, 3) := by decide +kernel
theorem dX3_setLimits_59 : decode cX3_setLimits 59 = .ok (.aload_n 0, 1) := by decide +kernel
theorem dX3_setLimits_60 : decode cX3_setLimits 60 = .ok (.iload_n 3, 1) := by decide +kernel
theorem dX3_setLimits_61 : decode cX3_setLimits 61 = .ok (.putfield 30, 3) := by decide +kernel
theorem dX3_setLimits_64 : decode cX3_setLimits 64 = .ok (.iload 4, 2) := by decide +kernel
theorem dX3_setLimits_66 : decode cX3_setLimits 66 = .ok (.ireturn, 1) := by decide +kernel
set_option maxRecDepth 20000 in
theorem ggX3_setPlug_X3_isStack : GoodIn wsX3_setPlug wsX3_isStack := goodIn_r _ [7, 8, 9, 6, 10] (by decide +kernel) (by decide +kernel)
set_option maxRecDepth 20000 in
theorem gX3_setPlug_X3_isStack : GoodIn wsX3_setPlug (va_wsS RX3 67 yX3_isStack wsX3_isStack) := goodIn_app (goodIn_of _ (by decide +kernel)) ggX3_setPlug_X3_isStack
set_option maxRecDepth 20000 in
theorem ggX3_setPlug_X3_stack : GoodIn wsX3_setPlug wsX3_stack := goodIn_r _ [13] (by decide +kernel) (by decide +kernel)
set_option maxRecDepth 20000 in
theorem gX3_setPlug_X3_stack : GoodIn wsX3_setPlug (va_wsS RX3 70 yX3_stack wsX3_stack) := goodIn_app (goodIn_of _ (by decide +kernel)) ggX3_setPlug_X3_stack
set_option maxRecDepth 20000 in
theorem ggX3_setPlug_X3_isOn : GoodIn wsX3_setPlug wsX3_isOn := goodIn_r _ [17, 18, 19, 20, 21, 6, 22, 23, 28, 29, 30, 31, 32, 33, 34, 35, 36, 37, 38, 39, 40] (by decide +kernel) (by decide +kernel)
set_option maxRecDepth 20000 in
theorem gX3_setPlug_X3_isOn : GoodIn wsX3_setPlug (wsV RX3 47 RX3 yX3_isOn wsX3_isOn) := goodIn_app (goodIn_of _ (by decide +kernel)) ggX3_setPlug_X3_isOn
set_option maxRecDepth 20000 in
theorem ggX3_setPlug_X3_kind : GoodIn wsX3_setPlug wsX3_kind := goodIn_r _ [27, 23, 28, 29, 30, 31, 32, 33, 34, 35, 36, 37, 38, 39, 40] (by decide +kernel) (by decide +kernel)
set_option maxRecDepth 20000 in
theorem gX3_setPlug_X3_kind : GoodIn wsX3_setPlug (wsV RX3 74 RX3 yX3_kind wsX3_kind) := goodIn_app (goodIn_of _ (by decide +kernel)) ggX3_setPlug_X3_kind
theorem dX3_setPlug_0 : decode cX3_setPlug 0 = .ok (.aload_n 0, 1) := by decide +kernel
theorem dX3_setPlug_1 : decode cX3_setPlug 1 = .ok (.iload_n 1, 1) := by decide +kernel
theorem dX3_setPlug_2 : decode cX3_setPlug 2 = .ok (.iload_n 2, 1) := by decide +kernel
theorem dX3_setPlug_3 : decode cX3_setPlug 3 = .ok (.invokestatic 67, 3) := by decide +kernel
theorem dX3_setPlug_6 : decode cX3_setPlug 6 = .ok (.ifCond .eq 7, 3) := by decide +kernel
theorem dX3_setPlug_9 : decode cX3_setPlug 9 = .ok (.iconst 0, 1) := by decide +kernel
theorem dX3_setPlug_10 : decode cX3_setPlug 10 = .ok (.goto 4, 3) := by decide +kernel
theorem dX3_setPlug_13 : decode cX3_setPlug 13 = .ok (.iconst 1, 1) := by decide +kernel
theorem dX3_setPlug_14 : decode cX3_setPlug 14 = .ok (.putfield 33, 3) := by decide +kernel
theorem dX3_setPlug_17 : decode cX3_setPlug 17 = .ok (.aload_n 0, 1) := by decide +kernel
theorem dX3_setPlug_18 : decode cX3_setPlug 18 = .ok (.getfield 33, 3) := by decide +kernel
theorem dX3_setPlug_21 : decode cX3_setPlug 21 = .ok (.ifCond .eq 5, 3) := by decide +kernel
theorem dX3_setPlug_24 : decode cX3_setPlug 24 = .ok (.iconst 0, 1) := by decide +kernel
theorem dX3_setPlug_25 : decode cX3_setPlug 25 = .ok (.ireturn, 1) := by decide +kernel
theorem dX3_setPlug_26 : decode cX3_setPlug 26 = .ok (.iload_n 1, 1) := by decide +kernel
theorem dX3_setPlug_27 : decode cX3_setPlug 27 = .ok (.iload_n 2, 1) := by decide +kernel
theorem dX3_setPlug_28 : decode cX3_setPlug 28 = .ok (.invokestatic 70, 3) := by decide +kernel
theorem dX3_setPlug_31 : decode cX3_setPlug 31 = .ok (.istore 4, 2) := by decide +kernel
theorem dX3_setPlug_33 : decode cX3_setPlug 33 = .ok (.iconst 0, 1) := by decide +kernel
theorem dX3_setPlug_34 : decode cX3_setPlug 34 = .ok (.istore 5, 2) := by decide +kernel
theorem dX3_setPlug_36 : decode cX3_setPlug 36 = .ok (.iload 5, 2) := by decide +kernel
theorem dX3_setPlug_38 : decode cX3_setPlug 38 = .ok (.aload_n 0, 1) := by decide +kernel
theorem dX3_setPlug_39 : decode cX3_setPlug 39 = .ok (.getfield 36, 3) := by decide +kernel
theorem dX3_setPlug_42 : decode cX3_setPlug 42 = .ok (.if_icmp .ge 39, 3) := by decide +kernel
theorem dX3_setPlug_45 : decode cX3_setPlug 45 = .ok (.iload_n 3, 1) := by decide +kernel
theorem dX3_setPlug_46 : decode cX3_setPlug 46 = .ok (.ifCond .ne 29, 3) := by decide +kernel
theorem dX3_setPlug_49 : decode cX3_setPlug 49 = .ok (.aload_n 0, 1) := by decide +kernel
theorem dX3_setPlug_50 : decode cX3_setPlug 50 = .ok (.iload 5, 2) := by decide +kernel
theorem dX3_setPlug_52 : decode cX3_setPlug 52 = .ok (.iload 4, 2) := by decide +kernel
theorem dX3_setPlug_54 : decode cX3_setPlug 54 = .ok (.invokevirtual 47, 3) := by decide +kernel
theorem dX3_setPlug_57 : decode cX3_setPlug 57 = .ok (.ifCond .eq 18, 3) := by decide +kernel
theorem dX3_setPlug_60 : decode cX3_setPlug 60 = .ok (.aload_n 0, 1) := by decide +kernel
theorem dX3_setPlug_61 : decode cX3_setPlug 61 = .ok (.iload 5, 2) := by decide +kernel
theorem dX3_setPlug_63 : decode cX3_setPlug 63 = .ok (.invokevirtual 74, 3) := by decide +kernel
theorem dX3_setPlug_66 : decode cX3_setPlug 66 = .ok (.iconst 1, 1) := by decide +kernel
theorem dX3_setPlug_67 : decode cX3_setPlug 67 = .ok (.if_icmp .ne 8, 3) := by decide +kernel
theorem dX3_setPlug_70 : decode cX3_setPlug 70 = .ok (.aload_n 0, 1) := by decide +kernel
theorem dX3_setPlug_71 : decode cX3_setPlug 71 = .ok (.iconst 2, 1) := by decide +kernel
theorem dX3_setPlug_72 : decode cX3_setPlug 72 = .ok (.putfield 33, 3) := by decide +kernel
theorem dX3_setPlug_75 : decode cX3_setPlug 75 = .ok (.iinc 5 1, 3) := by decide +kernel
theorem dX3_setPlug_78 : decode cX3_setPlug 78 = .ok (.goto (-42), 3) := by decide +kernel
theorem dX3_setPlug_81 : decode cX3_setPlug 81 = .ok (.aload_n 0, 1) := by decide +kernel
theorem dX3_setPlug_82 : decode cX3_setPlug 82 = .ok (.getfield 33, 3) := by decide +kernel
theorem dX3_setPlug_85 : decode cX3_setPlug 85 = .ok (.ifCond .eq 5, 3) := by decide +kernel
theorem dX3_setPlug_88 : decode cX3_setPlug 88 = .ok (.iconst 0, 1) := by decide +kernel
theorem dX3_setPlug_89 : decode cX3_setPlug 89 = .ok (.ireturn, 1) := by decide +kernel
theorem dX3_setPlug_90 : decode cX3_setPlug 90 = .ok (.aload_n 0, 1) := by decide +kernel
theorem dX3_setPlug_91 : decode cX3_setPlug 91 = .ok (.getfield 19, 3) := by decide +kernel
theorem dX3_setPlug_94 : decode cX3_setPlug 94 = .ok (.iload 4, 2) := by decide +kernel
theorem dX3_setPlug_96 : decode cX3_setPlug 96 = .ok (.baload, 1) := by decide +kernel
theorem dX3_setPlug_97 : decode cX3_setPlug 97 = .ok (.istore 5, 2) := by decide +kernel
theorem dX3_setPlug_99 : decode cX3_setPlug 99 = .ok (.aload_n 0, 1) := by decide +kernel
theorem dX3_setPlug_100 : decode cX3_setPlug 100 = .ok (.getfield 19, 3) := by decide +kernel
theorem dX3_setPlug_103 : decode cX3_setPlug 103 = .ok (.iload 4, 2) := by decide +kernel
theorem dX3_setPlug_105 : decode cX3_setPlug 105 = .ok (.iload_n 3, 1) := by decide +kernel
theorem dX3_setPlug_106 : decode cX3_setPlug 106 = .ok (.bastore, 1) := by decide +kernel
theorem dX3_setPlug_107 : decode cX3_setPlug 107 = .ok (.iload 5, 2) := by decide +kernel
theorem dX3_setPlug_109 : decode cX3_setPlug 109 = .ok (.ireturn, 1) := by decide +kernel
theorem dX3_areApart_0 : decode cX3_areApart 0 = .ok (.iload_n 0, 1) := by decide +kernel
theorem dX3_areApart_1 : decode cX3_areApart 1 = .ok (.iconst 5, 1) := by decide +kernel
theorem dX3_areApart_2 : decode cX3_areApart 2 = .ok (.idiv, 1) := by decide +kernel
theorem dX3_areApart_3 : decode cX3_areApart 3 = .ok (.iload_n 1, 1) := by decide +kernel
theorem dX3_areApart_4 : decode cX3_areApart 4 = .ok (.iconst 5, 1) := by decide +kernel
theorem dX3_areApart_5 : decode cX3_areApart 5 = .ok (.idiv, 1) := by decide +kernel
theorem dX3_areApart_6 : decode cX3_areApart 6 = .ok (.isub, 1) := by decide +kernel
theorem dX3_areApart_7 : decode cX3_areApart 7 = .ok (.invokestatic 77, 3) := by decide +kernel
theorem dX3_areApart_10 : decode cX3_areApart 10 = .ok (.istore_n 2, 1) := by decide +kernel
theorem dX3_areApart_11 : decode cX3_areApart 11 = .ok (.iload_n 2, 1) := by decide +kernel
theorem dX3_areApart_12 : decode cX3_areApart 12 = .ok (.iconst 1, 1) := by decide +kernel
theorem dX3_areApart_13 : decode cX3_areApart 13 = .ok (.if_icmp .gt 22, 3) := by decide +kernel
theorem dX3_areApart_16 : decode cX3_areApart 16 = .ok (.iload_n 2, 1) := by decide +kernel
theorem dX3_areApart_17 : decode cX3_areApart 17 = .ok (.iconst 1, 1) := by decide +kernel
theorem dX3_areApart_18 : decode cX3_areApart 18 = .ok (.if_icmp .ne 21, 3) := by decide +kernel
theorem dX3_areApart_21 : decode cX3_areApart 21 = .ok (.iload_n 0, 1) := by decide +kernel
theorem dX3_areApart_22 : decode cX3_areApart 22 = .ok (.iconst 5, 1) := by decide +kernel
theorem dX3_areApart_23 : decode cX3_areApart 23 = .ok (.irem, 1) := by decide +kernel
theorem dX3_areApart_24 : decode cX3_areApart 24 = .ok (.iload_n 1, 1) := by decide +kernel
theorem dX3_areApart_25 : decode cX3_areApart 25 = .ok (.iconst 5, 1) := by decide +kernel
theorem dX3_areApart_26 : decode cX3_areApart 26 = .ok (.irem, 1) := by decide +kernel
theorem dX3_areApart_27 : decode cX3_areApart 27 = .ok (.isub, 1) := by decide +kernel
theorem dX3_areApart_28 : decode cX3_areApart 28 = .ok (.invokestatic 77, 3) := by decide +kernel
theorem dX3_areApart_31 : decode cX3_areApart 31 = .ok (.iconst 1, 1) := by decide +kernel
theorem dX3_areApart_32 : decode cX3_areApart 32 = .ok (.if_icmp .le 7, 3) := by decide +kernel
theorem dX3_areApart_35 : decode cX3_areApart 35 = .ok (.iconst 1, 1) := by decide +kernel
theorem dX3_areApart_36 : decode cX3_areApart 36 = .ok (.goto 4, 3) := by decide +kernel
theorem dX3_areApart_39 : decode cX3_areApart 39 = .ok (.iconst 0, 1) := by decide +kernel
theorem dX3_areApart_40 : decode cX3_areApart 40 = .ok (.ireturn, 1) := by decide +kernel
set_option maxRecDepth 20000 in
theorem ggX3_weightOf_X3_isOn : GoodIn wsX3_weightOf wsX3_isOn := goodIn_r _ [6, 7, 8, 9, 10, 5, 11, 12, 17, 18, 19, 20, 21, 22, 23, 24, 25, 26, 27, 28, 29] (by decide +kernel) (by decide +kernel)
set_option maxRecDepth 20000 in
theorem gX3_weightOf_X3_isOn : GoodIn wsX3_weightOf (wsV RX3 47 RX3 yX3_isOn wsX3_isOn) := goodIn_app (goodIn_of _ (by decide +kernel)) ggX3_weightOf_X3_isOn
set_option maxRecDepth 20000 in
theorem ggX3_weightOf_X3_heavy : GoodIn wsX3_weightOf wsX3_heavy := goodIn_r _ [16, 12, 17, 18, 19, 20, 21, 22, 23, 24, 25, 26, 27, 28, 29] (by decide +kernel) (by decide +kernel)
set_option maxRecDepth 20000 in
theorem gX3_weightOf_X3_heavy : GoodIn wsX3_weightOf (wsV RX3 82 RX3 yX3_heavy wsX3_heavy) := goodIn_app (goodIn_of _ (by decide +kernel)) ggX3_weightOf_X3_heavy
theorem dX3_weightOf_0 : decode cX3_weightOf 0 = .ok (.iconst 0, 1) := by decide +kernel
theorem dX3_weightOf_1 : decode cX3_weightOf 1 = .ok (.istore_n 2, 1) := by decide +kernel
theorem dX3_weightOf_2 : decode cX3_weightOf 2 = .ok (.iconst 0, 1) := by decide +kernel
theorem dX3_weightOf_3 : decode cX3_weightOf 3 = .ok (.istore_n 3, 1) := by decide +kernel
theorem dX3_weightOf_4 : decode cX3_weightOf 4 = .ok (.iload_n 3, 1) := by decide +kernel
theorem dX3_weightOf_5 : decode cX3_weightOf 5 = .ok (.aload_n 0, 1) := by decide +kernel
theorem dX3_weightOf_6 : decode cX3_weightOf 6 = .ok (.getfield 36, 3) := by decide +kernel
theorem dX3_weightOf_9 : decode cX3_weightOf 9 = .ok (.if_icmp .ge 30, 3) := by decide +kernel
theorem dX3_weightOf_12 : decode cX3_weightOf 12 = .ok (.iload_n 2, 1) := by decide +kernel
theorem dX3_weightOf_13 : decode cX3_weightOf 13 = .ok (.aload_n 0, 1) := by decide +kernel
theorem dX3_weightOf_14 : decode cX3_weightOf 14 = .ok (.iload_n 3, 1) := by decide +kernel
theorem dX3_weightOf_15 : decode cX3_weightOf 15 = .ok (.iload_n 1, 1) := by decide +kernel
theorem dX3_weightOf_16 : decode cX3_weightOf 16 = .ok (.invokevirtual 47, 3) := by decide +kernel
theorem dX3_weightOf_19 : decode cX3_weightOf 19 = .ok (.ifCond .eq 11, 3) := by decide +kernel
theorem dX3_weightOf_22 : decode cX3_weightOf 22 = .ok (.aload_n 0, 1) := by decide +kernel
theorem dX3_weightOf_23 : decode cX3_weightOf 23 = .ok (.iload_n 3, 1) := by decide +kernel
theorem dX3_weightOf_24 : decode cX3_weightOf 24 = .ok (.invokevirtual 82, 3) := by decide +kernel
theorem dX3_weightOf_27 : decode cX3_weightOf 27 = .ok (.goto 4, 3) := by decide +kernel
theorem dX3_weightOf_30 : decode cX3_weightOf 30 = .ok (.iconst 0, 1) := by decide +kernel
theorem dX3_weightOf_31 : decode cX3_weightOf 31 = .ok (.iadd, 1) := by decide +kernel
theorem dX3_weightOf_32 : decode cX3_weightOf 32 = .ok (.istore_n 2, 1) := by decide +kernel
theorem dX3_weightOf_33 : decode cX3_weightOf 33 = .ok (.iinc 3 1, 3) := by decide +kernel
theorem dX3_weightOf_36 : decode cX3_weightOf 36 = .ok (.goto (-32), 3) := by decide +kernel
theorem dX3_weightOf_39 : decode cX3_weightOf 39 = .ok (.iload_n 2, 1) := by decide +kernel
theorem dX3_weightOf_40 : decode cX3_weightOf 40 = .ok (.ireturn, 1) := by decide +kernel
set_option maxRecDepth 20000 in
theorem ggX3_isAllowed_X3_state : GoodIn wsX3_isAllowed wsX3_state := goodIn_r _ [11, 1, 39, 40, 41, 42, 43, 44, 45, 46, 47, 48, 49, 50, 51] (by decide +kernel) (by decide +kernel)
set_option maxRecDepth 20000 in
theorem gX3_isAllowed_X3_state : GoodIn wsX3_isAllowed (wsV RX3 43 RX3 yX3_state wsX3_state) := goodIn_app (goodIn_of _ (by decide +kernel)) ggX3_isAllowed_X3_state
set_option maxRecDepth 20000 in
theorem ggX3_isAllowed_X3_high : GoodIn wsX3_isAllowed wsX3_high := goodIn_r _ [15, 5, 16, 17, 18, 10, 19, 6, 7, 8, 9, 11, 1, 39, 40, 41, 42, 43, 44, 45, 46, 47, 48, 49, 50, 51] (by decide +kernel) (by decide +kernel)
set_option maxRecDepth 20000 in
theorem gX3_isAllowed_X3_high : GoodIn wsX3_isAllowed (wsV RX3 85 RX3 yX3_high wsX3_high) := goodIn_app (goodIn_of _ (by decide +kernel)) ggX3_isAllowed_X3_high
set_option maxRecDepth 20000 in
theorem ggX3_isAllowed_X3_weightOf : GoodIn wsX3_isAllowed wsX3_weightOf := goodIn_r _ [23, 5, 16, 17, 18, 10, 19, 6, 7, 8, 9, 11, 1, 24, 25, 26, 27, 39, 40, 41, 42, 43, 44, 45, 46, 47, 48, 49, 50, 51] (by decide +kernel) (by decide +kernel)
set_option maxRecDepth 20000 in
theorem gX3_isAllowed_X3_weightOf : GoodIn wsX3_isAllowed (wsV RX3 88 RX3 yX3_weightOf wsX3_weightOf) := goodIn_app (goodIn_of _ (by decide +kernel)) ggX3_isAllowed_X3_weightOf
set_option maxRecDepth 20000 in
theorem ggX3_isAllowed_X3_heavy : GoodIn wsX3_isAllowed wsX3_heavy := goodIn_r _ [27, 1, 39, 40, 41, 42, 43, 44, 45, 46, 47, 48, 49, 50, 51] (by decide +kernel) (by decide +kernel)
set_option maxRecDepth 20000 in
theorem gX3_isAllowed_X3_heavy : GoodIn wsX3_isAllowed (wsV RX3 82 RX3 yX3_heavy wsX3_heavy) := goodIn_app (goodIn_of _ (by decide +kernel)) ggX3_isAllowed_X3_heavy
set_option maxRecDepth 20000 in
theorem ggX3_isAllowed_X3_kind : GoodIn wsX3_isAllowed wsX3_kind := goodIn_r _ [31, 1, 39, 40, 41, 42, 43, 44, 45, 46, 47, 48, 49, 50, 51] (by decide +kernel) (by decide +kernel)
set_option maxRecDepth 20000 in
theorem gX3_isAllowed_X3_kind : GoodIn wsX3_isAllowed (wsV RX3 74 RX3 yX3_kind wsX3_kind) := goodIn_app (goodIn_of _ (by decide +kernel)) ggX3_isAllowed_X3_kind
set_option maxRecDepth 20000 in
theorem ggX3_isAllowed_X3_areApart : GoodIn wsX3_isAllowed wsX3_areApart := goodIn_r _ [34, 35, 36, 37, 38] (by decide +kernel) (by decide +kernel)
set_option maxRecDepth 20000 in
theorem gX3_isAllowed_X3_areApart : GoodIn wsX3_isAllowed (va_wsS RX3 91 yX3_areApart wsX3_areApart) := goodIn_app (goodIn_of _ (by decide +kernel)) ggX3_isAllowed_X3_areApart
theorem dX3_isAllowed_0 : decode cX3_isAllowed 0 = .ok (.aload_n 0, 1) := by decide +kernel
theorem dX3_isAllowed_1 : decode cX3_isAllowed 1 = .ok (.iload_n 1, 1) := by decide +kernel
theorem dX3_isAllowed_2 : decode cX3_isAllowed 2 = .ok (.invokevirtual 43, 3) := by decide +kernel
theorem dX3_isAllowed_5 : decode cX3_isAllowed 5 = .ok (.ifCond .ne 47, 3) := by decide +kernel
theorem dX3_isAllowed_8 : decode cX3_isAllowed 8 = .ok (.aload_n 0, 1) := by decide +kernel
theorem dX3_isAllowed_9 : decode cX3_isAllowed 9 = .ok (.getfield 9, 3) := by decide +kernel
theorem dX3_isAllowed_12 : decode cX3_isAllowed 12 = .ok (.iconst 5, 1) := by decide +kernel
theorem dX3_isAllowed_13 : decode cX3_isAllowed 13 = .ok (.iload_n 1, 1) := by decide +kernel
theorem dX3_isAllowed_14 : decode cX3_isAllowed 14 = .ok (.imul, 1) := by decide +kernel
theorem dX3_isAllowed_15 : decode cX3_isAllowed 15 = .ok (.iconst 1, 1) := by decide +kernel
theorem dX3_isAllowed_16 : decode cX3_isAllowed 16 = .ok (.iadd, 1) := by decide +kernel
theorem dX3_isAllowed_17 : decode cX3_isAllowed 17 = .ok (.iaload, 1) := by decide +kernel
theorem dX3_isAllowed_18 : decode cX3_isAllowed 18 = .ok (.aload_n 0, 1) := by decide +kernel
theorem dX3_isAllowed_19 : decode cX3_isAllowed 19 = .ok (.getfield 54, 3) := by decide +kernel
theorem dX3_isAllowed_22 : decode cX3_isAllowed 22 = .ok (.if_icmp .ne 30, 3) := by decide +kernel
theorem dX3_isAllowed_25 : decode cX3_isAllowed 25 = .ok (.aload_n 0, 1) := by decide +kernel
theorem dX3_isAllowed_26 : decode cX3_isAllowed 26 = .ok (.iload_n 2, 1) := by decide +kernel
theorem dX3_isAllowed_27 : decode cX3_isAllowed 27 = .ok (.invokevirtual 85, 3) := by decide +kernel
theorem dX3_isAllowed_30 : decode cX3_isAllowed 30 = .ok (.iconst 4, 1) := by decide +kernel
theorem dX3_isAllowed_31 : decode cX3_isAllowed 31 = .ok (.if_icmp .eq 21, 3) := by decide +kernel
theorem dX3_isAllowed_34 : decode cX3_isAllowed 34 = .ok (.aload_n 0, 1) := by decide +kernel
theorem dX3_isAllowed_35 : decode cX3_isAllowed 35 = .ok (.iload_n 2, 1) := by decide +kernel
theorem dX3_isAllowed_36 : decode cX3_isAllowed 36 = .ok (.invokevirtual 88, 3) := by decide +kernel
theorem dX3_isAllowed_39 : decode cX3_isAllowed 39 = .ok (.aload_n 0, 1) := by decide +kernel
theorem dX3_isAllowed_40 : decode cX3_isAllowed 40 = .ok (.iload_n 1, 1) := by decide +kernel
theorem dX3_isAllowed_41 : decode cX3_isAllowed 41 = .ok (.invokevirtual 82, 3) := by decide +kernel
theorem dX3_isAllowed_44 : decode cX3_isAllowed 44 = .ok (.iadd, 1) := by decide +kernel
theorem dX3_isAllowed_45 : decode cX3_isAllowed 45 = .ok (.aload_n 0, 1) := by decide +kernel
theorem dX3_isAllowed_46 : decode cX3_isAllowed 46 = .ok (.getfield 23, 3) := by decide +kernel
theorem dX3_isAllowed_49 : decode cX3_isAllowed 49 = .ok (.if_icmp .le 5, 3) := by decide +kernel
theorem dX3_isAllowed_52 : decode cX3_isAllowed 52 = .ok (.iconst 0, 1) := by decide +kernel
theorem dX3_isAllowed_53 : decode cX3_isAllowed 53 = .ok (.ireturn, 1) := by decide +kernel
theorem dX3_isAllowed_54 : decode cX3_isAllowed 54 = .ok (.aload_n 0, 1) := by decide +kernel
theorem dX3_isAllowed_55 : decode cX3_isAllowed 55 = .ok (.iload_n 1, 1) := by decide +kernel
theorem dX3_isAllowed_56 : decode cX3_isAllowed 56 = .ok (.invokevirtual 74, 3) := by decide +kernel
theorem dX3_isAllowed_59 : decode cX3_isAllowed 59 = .ok (.iconst 1, 1) := by decide +kernel
theorem dX3_isAllowed_60 : decode cX3_isAllowed 60 = .ok (.if_icmp .ne 23, 3) := by decide +kernel
theorem dX3_isAllowed_63 : decode cX3_isAllowed 63 = .ok (.aload_n 0, 1) := by decide +kernel
theorem dX3_isAllowed_64 : decode cX3_isAllowed 64 = .ok (.getfield 19, 3) := by decide +kernel
theorem dX3_isAllowed_67 : decode cX3_isAllowed 67 = .ok (.iload_n 2, 1) := by decide +kernel
theorem dX3_isAllowed_68 : decode cX3_isAllowed 68 = .ok (.baload, 1) := by decide +kernel
theorem dX3_isAllowed_69 : decode cX3_isAllowed 69 = .ok (.ifCond .eq 12, 3) := by decide +kernel
theorem dX3_isAllowed_72 : decode cX3_isAllowed 72 = .ok (.aload_n 0, 1) := by decide +kernel
theorem dX3_isAllowed_73 : decode cX3_isAllowed 73 = .ok (.iload_n 2, 1) := by decide +kernel
theorem dX3_isAllowed_74 : decode cX3_isAllowed 74 = .ok (.invokevirtual 85, 3) := by decide +kernel
theorem dX3_isAllowed_77 : decode cX3_isAllowed 77 = .ok (.iconst 2, 1) := by decide +kernel
theorem dX3_isAllowed_78 : decode cX3_isAllowed 78 = .ok (.if_icmp .lt 5, 3) := by decide +kernel
theorem dX3_isAllowed_81 : decode cX3_isAllowed 81 = .ok (.iconst 0, 1) := by decide +kernel
theorem dX3_isAllowed_82 : decode cX3_isAllowed 82 = .ok (.ireturn, 1) := by decide +kernel
theorem dX3_isAllowed_83 : decode cX3_isAllowed 83 = .ok (.iconst 1, 1) := by decide +kernel
theorem dX3_isAllowed_84 : decode cX3_isAllowed 84 = .ok (.istore_n 3, 1) := by decide +kernel
theorem dX3_isAllowed_85 : decode cX3_isAllowed 85 = .ok (.iconst 0, 1) := by decide +kernel
theorem dX3_isAllowed_86 : decode cX3_isAllowed 86 = .ok (.istore 4, 2) := by decide +kernel
theorem dX3_isAllowed_88 : decode cX3_isAllowed 88 = .ok (.iload 4, 2) := by decide +kernel
theorem dX3_isAllowed_90 : decode cX3_isAllowed 90 = .ok (.aload_n 0, 1) := by decide +kernel
theorem dX3_isAllowed_91 : decode cX3_isAllowed 91 = .ok (.getfield 36, 3) := by decide +kernel
theorem dX3_isAllowed_94 : decode cX3_isAllowed 94 = .ok (.if_icmp .ge 76, 3) := by decide +kernel
theorem dX3_isAllowed_97 : decode cX3_isAllowed 97 = .ok (.aload_n 0, 1) := by decide +kernel
theorem dX3_isAllowed_98 : decode cX3_isAllowed 98 = .ok (.iload_n 1, 1) := by decide +kernel
theorem dX3_isAllowed_99 : decode cX3_isAllowed 99 = .ok (.invokevirtual 74, 3) := by decide +kernel
theorem dX3_isAllowed_102 : decode cX3_isAllowed 102 = .ok (.iconst 2, 1) := by decide +kernel
theorem dX3_isAllowed_103 : decode cX3_isAllowed 103 = .ok (.if_icmp .lt 67, 3) := by decide +kernel
theorem dX3_isAllowed_106 : decode cX3_isAllowed 106 = .ok (.iload_n 3, 1) := by decide +kernel
theorem dX3_isAllowed_107 : decode cX3_isAllowed 107 = .ok (.ifCond .eq 55, 3) := by decide +kernel
theorem dX3_isAllowed_110 : decode cX3_isAllowed 110 = .ok (.aload_n 0, 1) := by decide +kernel
theorem dX3_isAllowed_111 : decode cX3_isAllowed 111 = .ok (.iload 4, 2) := by decide +kernel
theorem dX3_isAllowed_113 : decode cX3_isAllowed 113 = .ok (.invokevirtual 43, 3) := by decide +kernel
theorem dX3_isAllowed_116 : decode cX3_isAllowed 116 = .ok (.iconst 1, 1) := by decide +kernel
theorem dX3_isAllowed_117 : decode cX3_isAllowed 117 = .ok (.if_icmp .ne 41, 3) := by decide +kernel
theorem dX3_isAllowed_120 : decode cX3_isAllowed 120 = .ok (.aload_n 0, 1) := by decide +kernel
theorem dX3_isAllowed_121 : decode cX3_isAllowed 121 = .ok (.iload 4, 2) := by decide +kernel
theorem dX3_isAllowed_123 : decode cX3_isAllowed 123 = .ok (.invokevirtual 74, 3) := by decide +kernel
theorem dX3_isAllowed_126 : decode cX3_isAllowed 126 = .ok (.iconst 2, 1) := by decide +kernel
theorem dX3_isAllowed_127 : decode cX3_isAllowed 127 = .ok (.if_icmp .lt 31, 3) := by decide +kernel
theorem dX3_isAllowed_130 : decode cX3_isAllowed 130 = .ok (.aload_n 0, 1) := by decide +kernel
theorem dX3_isAllowed_131 : decode cX3_isAllowed 131 = .ok (.iload 4, 2) := by decide +kernel
theorem dX3_isAllowed_133 : decode cX3_isAllowed 133 = .ok (.invokevirtual 74, 3) := by decide +kernel
theorem dX3_isAllowed_136 : decode cX3_isAllowed 136 = .ok (.aload_n 0, 1) := by decide +kernel
theorem dX3_isAllowed_137 : decode cX3_isAllowed 137 = .ok (.iload_n 1, 1) := by decide +kernel
theorem dX3_isAllowed_138 : decode cX3_isAllowed 138 = .ok (.invokevirtual 74, 3) := by decide +kernel
theorem dX3_isAllowed_141 : decode cX3_isAllowed 141 = .ok (.if_icmp .eq 17, 3) := by decide +kernel
theorem dX3_isAllowed_144 : decode cX3_isAllowed 144 = .ok (.iload_n 2, 1) := by decide +kernel
theorem dX3_isAllowed_145 : decode cX3_isAllowed 145 = .ok (.aload_n 0, 1) := by decide +kernel
theorem dX3_isAllowed_146 : decode cX3_isAllowed 146 = .ok (.getfield 13, 3) := by decide +kernel
theorem dX3_isAllowed_149 : decode cX3_isAllowed 149 = .ok (.iload 4, 2) := by decide +kernel
theorem dX3_isAllowed_151 : decode cX3_isAllowed 151 = .ok (.iaload, 1) := by decide +kernel
theorem dX3_isAllowed_152 : decode cX3_isAllowed 152 = .ok (.invokestatic 91, 3) := by decide +kernel
theorem dX3_isAllowed_155 : decode cX3_isAllowed 155 = .ok (.ifCond .eq 7, 3) := by decide +kernel
theorem dX3_isAllowed_158 : decode cX3_isAllowed 158 = .ok (.iconst 1, 1) := by decide +kernel
theorem dX3_isAllowed_159 : decode cX3_isAllowed 159 = .ok (.goto 4, 3) := by decide +kernel
theorem dX3_isAllowed_162 : decode cX3_isAllowed 162 = .ok (.iconst 0, 1) := by decide +kernel
theorem dX3_isAllowed_163 : decode cX3_isAllowed 163 = .ok (.istore_n 3, 1) := by decide +kernel
theorem dX3_isAllowed_164 : decode cX3_isAllowed 164 = .ok (.iinc 4 1, 3) := by decide +kernel
theorem dX3_isAllowed_167 : decode cX3_isAllowed 167 = .ok (.goto (-79), 3) := by decide +kernel
theorem dX3_isAllowed_170 : decode cX3_isAllowed 170 = .ok (.iload_n 3, 1) := by decide +kernel
theorem dX3_isAllowed_171 : decode cX3_isAllowed 171 = .ok (.ireturn, 1) := by decide +kernel
set_option maxRecDepth 20000 in
theorem ggX3_canLoad_X3_isContainer : GoodIn wsX3_canLoad wsX3_isContainer := goodIn_r _ [6, 7, 8, 9, 5, 10, 57, 58, 59, 60, 61, 62, 63, 64, 65, 66, 67, 68, 69] (by decide +kernel) (by decide +kernel)
set_option maxRecDepth 20000 in
theorem gX3_canLoad_X3_isContainer : GoodIn wsX3_canLoad (wsV RX3 63 RX3 yX3_isContainer wsX3_isContainer) := goodIn_app (goodIn_of _ (by decide +kernel)) ggX3_canLoad_X3_isContainer
set_option maxRecDepth 20000 in
theorem ggX3_canLoad_X3_isStack : GoodIn wsX3_canLoad wsX3_isStack := goodIn_r _ [13, 8, 9, 5, 10] (by decide +kernel) (by decide +kernel)
set_option maxRecDepth 20000 in
theorem gX3_canLoad_X3_isStack : GoodIn wsX3_canLoad (va_wsS RX3 67 yX3_isStack wsX3_isStack) := goodIn_app (goodIn_of _ (by decide +kernel)) ggX3_canLoad_X3_isStack
set_option maxRecDepth 20000 in
theorem ggX3_canLoad_X3_stack : GoodIn wsX3_canLoad wsX3_stack := goodIn_r _ [16] (by decide +kernel) (by decide +kernel)
set_option maxRecDepth 20000 in
theorem gX3_canLoad_X3_stack : GoodIn wsX3_canLoad (va_wsS RX3 70 yX3_stack wsX3_stack) := goodIn_app (goodIn_of _ (by decide +kernel)) ggX3_canLoad_X3_stack
set_option maxRecDepth 20000 in
theorem ggX3_canLoad_X3_isAllowed : GoodIn wsX3_canLoad wsX3_isAllowed := goodIn_r _ [20, 21, 22, 23, 24, 7, 25, 26, 27, 28, 5, 29, 30, 31, 32, 33, 34, 35, 36, 37, 38, 39, 40, 41, 42, 43, 44, 45, 46, 47, 48, 49, 50, 51, 52, 53, 54, 55, 56, 57, 58, 59, 60, 61, 62, 63, 64, 65, 66, 67, 68, 69] (by decide +kernel) (by decide +kernel)
set_option maxRecDepth 20000 in
theorem gX3_canLoad_X3_isAllowed : GoodIn wsX3_canLoad (wsV RX3 94 RX3 yX3_isAllowed wsX3_isAllowed) := goodIn_app (goodIn_of _ (by decide +kernel)) ggX3_canLoad_X3_isAllowed
theorem dX3_canLoad_0 : decode cX3_canLoad 0 = .ok (.aload_n 0, 1) := by decide +kernel
theorem dX3_canLoad_1 : decode cX3_canLoad 1 = .ok (.aload_n 0, 1) := by decide +kernel
theorem dX3_canLoad_2 : decode cX3_canLoad 2 = .ok (.iload_n 1, 1) := by decide +kernel
theorem dX3_canLoad_3 : decode cX3_canLoad 3 = .ok (.invokevirtual 63, 3) := by decide +kernel
theorem dX3_canLoad_6 : decode cX3_canLoad 6 = .ok (.ifCond .eq 15, 3) := by decide +kernel
theorem dX3_canLoad_9 : decode cX3_canLoad 9 = .ok (.iload_n 2, 1) := by decide +kernel
theorem dX3_canLoad_10 : decode cX3_canLoad 10 = .ok (.iload_n 3, 1) := by decide +kernel
theorem dX3_canLoad_11 : decode cX3_canLoad 11 = .ok (.invokestatic 67, 3) := by decide +kernel
theorem dX3_canLoad_14 : decode cX3_canLoad 14 = .ok (.ifCond .eq 7, 3) := by decide +kernel
theorem dX3_canLoad_17 : decode cX3_canLoad 17 = .ok (.iconst 0, 1) := by decide +kernel
theorem dX3_canLoad_18 : decode cX3_canLoad 18 = .ok (.goto 4, 3) := by decide +kernel
theorem dX3_canLoad_21 : decode cX3_canLoad 21 = .ok (.iconst 1, 1) := by decide +kernel
theorem dX3_canLoad_22 : decode cX3_canLoad 22 = .ok (.putfield 33, 3) := by decide +kernel
end
section
theorem dX3_canLoad_25 : decode cX3_canLoad 25 = .ok (.aload_n 0, 1) := by decide +kernel
theorem dX3_canLoad_26 : decode cX3_canLoad 26 = .ok (.getfield 33, 3) := by decide +kernel
theorem dX3_canLoad_29 : decode cX3_canLoad 29 = .ok (.ifCond .ne 20, 3) := by decide +kernel
theorem dX3_canLoad_32 : decode cX3_canLoad 32 = .ok (.aload_n 0, 1) := by decide +kernel
theorem dX3_canLoad_33 : decode cX3_canLoad 33 = .ok (.iload_n 1, 1) := by decide +kernel
theorem dX3_canLoad_34 : decode cX3_canLoad 34 = .ok (.iload_n 2, 1) := by decide +kernel
theorem dX3_canLoad_35 : decode cX3_canLoad 35 = .ok (.iload_n 3, 1) := by decide +kernel
theorem dX3_canLoad_36 : decode cX3_canLoad 36 = .ok (.invokestatic 70, 3) := by decide +kernel
theorem dX3_canLoad_39 : decode cX3_canLoad 39 = .ok (.invokevirtual 94, 3) := by decide +kernel
theorem dX3_canLoad_42 : decode cX3_canLoad 42 = .ok (.ifCond .eq 7, 3) := by decide +kernel
theorem dX3_canLoad_45 : decode cX3_canLoad 45 = .ok (.iconst 1, 1) := by decide +kernel
theorem dX3_canLoad_46 : decode cX3_canLoad 46 = .ok (.goto 4, 3) := by decide +kernel
theorem dX3_canLoad_49 : decode cX3_canLoad 49 = .ok (.iconst 0, 1) := by decide +kernel
theorem dX3_canLoad_50 : decode cX3_canLoad 50 = .ok (.ireturn, 1) := by decide +kernel
set_option maxRecDepth 20000 in
theorem ggX3_put_X3_high : GoodIn wsX3_put wsX3_high := goodIn_r _ [8, 9, 10, 11, 12, 7, 13, 2, 14, 15, 16, 17, 3, 18, 19, 20, 21, 22, 23, 24, 25, 26, 27, 28, 29, 30] (by decide +kernel) (by decide +kernel)
set_option maxRecDepth 20000 in
theorem gX3_put_X3_high : GoodIn wsX3_put (wsV RX3 85 RX3 yX3_high wsX3_high) := goodIn_app (goodIn_of _ (by decide +kernel)) ggX3_put_X3_high
theorem dX3_put_0 : decode cX3_put 0 = .ok (.aload_n 0, 1) := by decide +kernel
theorem dX3_put_1 : decode cX3_put 1 = .ok (.getfield 16, 3) := by decide +kernel
theorem dX3_put_4 : decode cX3_put 4 = .ok (.iload_n 1, 1) := by decide +kernel
theorem dX3_put_5 : decode cX3_put 5 = .ok (.aload_n 0, 1) := by decide +kernel
theorem dX3_put_6 : decode cX3_put 6 = .ok (.iload_n 2, 1) := by decide +kernel
theorem dX3_put_7 : decode cX3_put 7 = .ok (.invokevirtual 85, 3) := by decide +kernel
theorem dX3_put_10 : decode cX3_put 10 = .ok (.iastore, 1) := by decide +kernel
theorem dX3_put_11 : decode cX3_put 11 = .ok (.aload_n 0, 1) := by decide +kernel
theorem dX3_put_12 : decode cX3_put 12 = .ok (.getfield 13, 3) := by decide +kernel
theorem dX3_put_15 : decode cX3_put 15 = .ok (.iload_n 1, 1) := by decide +kernel
theorem dX3_put_16 : decode cX3_put 16 = .ok (.iload_n 2, 1) := by decide +kernel
theorem dX3_put_17 : decode cX3_put 17 = .ok (.iastore, 1) := by decide +kernel
theorem dX3_put_18 : decode cX3_put 18 = .ok (.aload_n 0, 1) := by decide +kernel
theorem dX3_put_19 : decode cX3_put 19 = .ok (.getfield 9, 3) := by decide +kernel
theorem dX3_put_22 : decode cX3_put 22 = .ok (.iconst 5, 1) := by decide +kernel
theorem dX3_put_23 : decode cX3_put 23 = .ok (.iload_n 1, 1) := by decide +kernel
theorem dX3_put_24 : decode cX3_put 24 = .ok (.imul, 1) := by decide +kernel
theorem dX3_put_25 : decode cX3_put 25 = .ok (.iconst 4, 1) := by decide +kernel
theorem dX3_put_26 : decode cX3_put 26 = .ok (.iadd, 1) := by decide +kernel
theorem dX3_put_27 : decode cX3_put 27 = .ok (.iconst 1, 1) := by decide +kernel
theorem dX3_put_28 : decode cX3_put 28 = .ok (.iastore, 1) := by decide +kernel
theorem dX3_put_29 : decode cX3_put 29 = .ok (.return_, 1) := by decide +kernel
set_option maxRecDepth 20000 in
theorem ggX3_load_X3_isContainer : GoodIn wsX3_load wsX3_isContainer := goodIn_r _ [7, 8, 9, 10, 6, 11, 66, 67, 68, 69, 70, 71, 72, 73, 74, 75, 76, 77, 78] (by decide +kernel) (by decide +kernel)
set_option maxRecDepth 20000 in
theorem gX3_load_X3_isContainer : GoodIn wsX3_load (wsV RX3 63 RX3 yX3_isContainer wsX3_isContainer) := goodIn_app (goodIn_of _ (by decide +kernel)) ggX3_load_X3_isContainer
set_option maxRecDepth 20000 in
theorem ggX3_load_X3_isStack : GoodIn wsX3_load wsX3_isStack := goodIn_r _ [14, 9, 10, 6, 11] (by decide +kernel) (by decide +kernel)
set_option maxRecDepth 20000 in
theorem gX3_load_X3_isStack : GoodIn wsX3_load (va_wsS RX3 67 yX3_isStack wsX3_isStack) := goodIn_app (goodIn_of _ (by decide +kernel)) ggX3_load_X3_isStack
set_option maxRecDepth 20000 in
theorem ggX3_load_X3_fail : GoodIn wsX3_load wsX3_fail := goodIn_r _ [18, 1, 66, 67, 68, 69, 70, 71, 72, 73, 74, 75, 76, 77, 78] (by decide +kernel) (by decide +kernel)
set_option maxRecDepth 20000 in
theorem gX3_load_X3_fail : GoodIn wsX3_load (wsV RX3 51 RX3 yX3_fail wsX3_fail) := goodIn_app (goodIn_of _ (by decide +kernel)) ggX3_load_X3_fail
set_option maxRecDepth 20000 in
theorem ggX3_load_X3_stack : GoodIn wsX3_load wsX3_stack := goodIn_r _ [21] (by decide +kernel) (by decide +kernel)
set_option maxRecDepth 20000 in
theorem gX3_load_X3_stack : GoodIn wsX3_load (va_wsS RX3 70 yX3_stack wsX3_stack) := goodIn_app (goodIn_of _ (by decide +kernel)) ggX3_load_X3_stack
set_option maxRecDepth 20000 in
theorem ggX3_load_X3_isAllowed : GoodIn wsX3_load wsX3_isAllowed := goodIn_r _ [25, 26, 27, 28, 29, 8, 30, 31, 32, 33, 6, 34, 35, 36, 37, 38, 39, 40, 41, 42, 43, 44, 45, 46, 47, 48, 49, 50, 51, 52, 53, 54, 55, 56, 57, 58, 59, 60, 61, 66, 67, 68, 69, 70, 71, 72, 73, 74, 75, 76, 77, 78] (by decide +kernel) (by decide +kernel)
set_option maxRecDepth 20000 in
theorem gX3_load_X3_isAllowed : GoodIn wsX3_load (wsV RX3 94 RX3 yX3_isAllowed wsX3_isAllowed) := goodIn_app (goodIn_of _ (by decide +kernel)) ggX3_load_X3_isAllowed
set_option maxRecDepth 20000 in
theorem ggX3_load_X3_put : GoodIn wsX3_load wsX3_put := goodIn_r _ [65, 2, 30, 26, 35, 36, 37, 6, 38, 8, 39, 40, 41, 42, 31, 32, 33, 34, 66, 67, 68, 69, 70, 71, 72, 73, 74, 75, 76, 77, 78] (by decide +kernel) (by decide +kernel)
set_option maxRecDepth 20000 in
theorem gX3_load_X3_put : GoodIn wsX3_load (wsV RX3 97 RX3 yX3_put wsX3_put) := goodIn_app (goodIn_of _ (by decide +kernel)) ggX3_load_X3_put
theorem dX3_load_0 : decode cX3_load 0 = .ok (.aload_n 0, 1) := by decide +kernel
theorem dX3_load_1 : decode cX3_load 1 = .ok (.iconst 0, 1) := by decide +kernel
theorem dX3_load_2 : decode cX3_load 2 = .ok (.putfield 33, 3) := by decide +kernel
theorem dX3_load_5 : decode cX3_load 5 = .ok (.aload_n 0, 1) := by decide +kernel
theorem dX3_load_6 : decode cX3_load 6 = .ok (.iload_n 1, 1) := by decide +kernel
theorem dX3_load_7 : decode cX3_load 7 = .ok (.invokevirtual 63, 3) := by decide +kernel
theorem dX3_load_10 : decode cX3_load 10 = .ok (.ifCond .eq 11, 3) := by decide +kernel
theorem dX3_load_13 : decode cX3_load 13 = .ok (.iload_n 2, 1) := by decide +kernel
theorem dX3_load_14 : decode cX3_load 14 = .ok (.iload_n 3, 1) := by decide +kernel
theorem dX3_load_15 : decode cX3_load 15 = .ok (.invokestatic 67, 3) := by decide +kernel
theorem dX3_load_18 : decode cX3_load 18 = .ok (.ifCond .ne 9, 3) := by decide +kernel
theorem dX3_load_21 : decode cX3_load 21 = .ok (.aload_n 0, 1) := by decide +kernel
theorem dX3_load_22 : decode cX3_load 22 = .ok (.iconst 1, 1) := by decide +kernel
theorem dX3_load_23 : decode cX3_load 23 = .ok (.invokevirtual 51, 3) := by decide +kernel
theorem dX3_load_26 : decode cX3_load 26 = .ok (.ireturn, 1) := by decide +kernel
theorem dX3_load_27 : decode cX3_load 27 = .ok (.aload_n 0, 1) := by decide +kernel
theorem dX3_load_28 : decode cX3_load 28 = .ok (.iload_n 1, 1) := by decide +kernel
theorem dX3_load_29 : decode cX3_load 29 = .ok (.iload_n 2, 1) := by decide +kernel
theorem dX3_load_30 : decode cX3_load 30 = .ok (.iload_n 3, 1) := by decide +kernel
theorem dX3_load_31 : decode cX3_load 31 = .ok (.invokestatic 70, 3) := by decide +kernel
theorem dX3_load_34 : decode cX3_load 34 = .ok (.invokevirtual 94, 3) := by decide +kernel
theorem dX3_load_37 : decode cX3_load 37 = .ok (.ifCond .ne 9, 3) := by decide +kernel
theorem dX3_load_40 : decode cX3_load 40 = .ok (.aload_n 0, 1) := by decide +kernel
theorem dX3_load_41 : decode cX3_load 41 = .ok (.iconst 2, 1) := by decide +kernel
theorem dX3_load_42 : decode cX3_load 42 = .ok (.invokevirtual 51, 3) := by decide +kernel
theorem dX3_load_45 : decode cX3_load 45 = .ok (.ireturn, 1) := by decide +kernel
theorem dX3_load_46 : decode cX3_load 46 = .ok (.aload_n 0, 1) := by decide +kernel
theorem dX3_load_47 : decode cX3_load 47 = .ok (.iload_n 1, 1) := by decide +kernel
theorem dX3_load_48 : decode cX3_load 48 = .ok (.iload_n 2, 1) := by decide +kernel
theorem dX3_load_49 : decode cX3_load 49 = .ok (.iload_n 3, 1) := by decide +kernel
theorem dX3_load_50 : decode cX3_load 50 = .ok (.invokestatic 70, 3) := by decide +kernel
theorem dX3_load_53 : decode cX3_load 53 = .ok (.invokevirtual 97, 3) := by decide +kernel
theorem dX3_load_56 : decode cX3_load 56 = .ok (.aload_n 0, 1) := by decide +kernel
theorem dX3_load_57 : decode cX3_load 57 = .ok (.getfield 16, 3) := by decide +kernel
theorem dX3_load_60 : decode cX3_load 60 = .ok (.iload_n 1, 1) := by decide +kernel
theorem dX3_load_61 : decode cX3_load 61 = .ok (.iaload, 1) := by decide +kernel
theorem dX3_load_62 : decode cX3_load 62 = .ok (.ireturn, 1) := by decide +kernel
set_option maxRecDepth 20000 in
theorem ggX3_lift_X3_isStack : GoodIn wsX3_lift wsX3_isStack := goodIn_r _ [7, 8, 9, 6, 10] (by decide +kernel) (by decide +kernel)
set_option maxRecDepth 20000 in
theorem gX3_lift_X3_isStack : GoodIn wsX3_lift (va_wsS RX3 67 yX3_isStack wsX3_isStack) := goodIn_app (goodIn_of _ (by decide +kernel)) ggX3_lift_X3_isStack
set_option maxRecDepth 20000 in
theorem ggX3_lift_X3_fail : GoodIn wsX3_lift wsX3_fail := goodIn_r _ [14, 1, 37, 38, 39, 40, 41, 42, 43, 44, 45, 46, 47, 48, 49] (by decide +kernel) (by decide +kernel)
set_option maxRecDepth 20000 in
theorem gX3_lift_X3_fail : GoodIn wsX3_lift (wsV RX3 51 RX3 yX3_fail wsX3_fail) := goodIn_app (goodIn_of _ (by decide +kernel)) ggX3_lift_X3_fail
set_option maxRecDepth 20000 in
theorem ggX3_lift_X3_stack : GoodIn wsX3_lift wsX3_stack := goodIn_r _ [17] (by decide +kernel) (by decide +kernel)
set_option maxRecDepth 20000 in
theorem gX3_lift_X3_stack : GoodIn wsX3_lift (va_wsS RX3 70 yX3_stack wsX3_stack) := goodIn_app (goodIn_of _ (by decide +kernel)) ggX3_lift_X3_stack
set_option maxRecDepth 20000 in
theorem ggX3_lift_X3_high : GoodIn wsX3_lift wsX3_high := goodIn_r _ [21, 22, 23, 24, 25, 6, 26, 27, 28, 29, 30, 31, 2, 37, 38, 39, 40, 41, 42, 43, 44, 45, 46, 47, 48, 49] (by decide +kernel) (by decide +kernel)
set_option maxRecDepth 20000 in
theorem gX3_lift_X3_high : GoodIn wsX3_lift (wsV RX3 85 RX3 yX3_high wsX3_high) := goodIn_app (goodIn_of _ (by decide +kernel)) ggX3_lift_X3_high
set_option maxRecDepth 20000 in
theorem ggX3_lift_X3_find : GoodIn wsX3_lift wsX3_find := goodIn_r _ [35, 22, 36, 23, 24, 25, 6, 26, 27, 28, 29, 30, 31, 2, 37, 38, 39, 40, 41, 42, 43, 44, 45, 46, 47, 48, 49] (by decide +kernel) (by decide +kernel)
set_option maxRecDepth 20000 in
theorem gX3_lift_X3_find : GoodIn wsX3_lift (wsV RX3 101 RX3 yX3_find wsX3_find) := goodIn_app (goodIn_of _ (by decide +kernel)) ggX3_lift_X3_find
theorem dX3_lift_0 : decode cX3_lift 0 = .ok (.aload_n 0, 1) := by decide +kernel
theorem dX3_lift_1 : decode cX3_lift 1 = .ok (.iconst 0, 1) := by decide +kernel
theorem dX3_lift_2 : decode cX3_lift 2 = .ok (.putfield 33, 3) := by decide +kernel
theorem dX3_lift_5 : decode cX3_lift 5 = .ok (.iload_n 1, 1) := by decide +kernel
theorem dX3_lift_6 : decode cX3_lift 6 = .ok (.iload_n 2, 1) := by decide +kernel
theorem dX3_lift_7 : decode cX3_lift 7 = .ok (.invokestatic 67, 3) := by decide +kernel
theorem dX3_lift_10 : decode cX3_lift 10 = .ok (.ifCond .ne 9, 3) := by decide +kernel
theorem dX3_lift_13 : decode cX3_lift 13 = .ok (.aload_n 0, 1) := by decide +kernel
theorem dX3_lift_14 : decode cX3_lift 14 = .ok (.iconst 1, 1) := by decide +kernel
theorem dX3_lift_15 : decode cX3_lift 15 = .ok (.invokevirtual 51, 3) := by decide +kernel
theorem dX3_lift_18 : decode cX3_lift 18 = .ok (.ireturn, 1) := by decide +kernel
theorem dX3_lift_19 : decode cX3_lift 19 = .ok (.iload_n 1, 1) := by decide +kernel
theorem dX3_lift_20 : decode cX3_lift 20 = .ok (.iload_n 2, 1) := by decide +kernel
theorem dX3_lift_21 : decode cX3_lift 21 = .ok (.invokestatic 70, 3) := by decide +kernel
theorem dX3_lift_24 : decode cX3_lift 24 = .ok (.istore_n 3, 1) := by decide +kernel
theorem dX3_lift_25 : decode cX3_lift 25 = .ok (.aload_n 0, 1) := by decide +kernel
theorem dX3_lift_26 : decode cX3_lift 26 = .ok (.iload_n 3, 1) := by decide +kernel
theorem dX3_lift_27 : decode cX3_lift 27 = .ok (.invokevirtual 85, 3) := by decide +kernel
theorem dX3_lift_30 : decode cX3_lift 30 = .ok (.ifCond .ne 7, 3) := by decide +kernel
theorem dX3_lift_33 : decode cX3_lift 33 = .ok (.iconst (-1), 1) := by decide +kernel
theorem dX3_lift_34 : decode cX3_lift 34 = .ok (.goto 15, 3) := by decide +kernel
theorem dX3_lift_37 : decode cX3_lift 37 = .ok (.aload_n 0, 1) := by decide +kernel
theorem dX3_lift_38 : decode cX3_lift 38 = .ok (.iload_n 3, 1) := by decide +kernel
theorem dX3_lift_39 : decode cX3_lift 39 = .ok (.aload_n 0, 1) := by decide +kernel
theorem dX3_lift_40 : decode cX3_lift 40 = .ok (.iload_n 3, 1) := by decide +kernel
theorem dX3_lift_41 : decode cX3_lift 41 = .ok (.invokevirtual 85, 3) := by decide +kernel
theorem dX3_lift_44 : decode cX3_lift 44 = .ok (.iconst 1, 1) := by decide +kernel
theorem dX3_lift_45 : decode cX3_lift 45 = .ok (.isub, 1) := by decide +kernel
theorem dX3_lift_46 : decode cX3_lift 46 = .ok (.invokevirtual 101, 3) := by decide +kernel
theorem dX3_lift_49 : decode cX3_lift 49 = .ok (.istore 4, 2) := by decide +kernel
theorem dX3_lift_51 : decode cX3_lift 51 = .ok (.iload 4, 2) := by decide +kernel
theorem dX3_lift_53 : decode cX3_lift 53 = .ok (.iconst (-1), 1) := by decide +kernel
theorem dX3_lift_54 : decode cX3_lift 54 = .ok (.if_icmp .eq 21, 3) := by decide +kernel
theorem dX3_lift_57 : decode cX3_lift 57 = .ok (.aload_n 0, 1) := by decide +kernel
theorem dX3_lift_58 : decode cX3_lift 58 = .ok (.getfield 9, 3) := by decide +kernel
theorem dX3_lift_61 : decode cX3_lift 61 = .ok (.iconst 5, 1) := by decide +kernel
theorem dX3_lift_62 : decode cX3_lift 62 = .ok (.iload 4, 2) := by decide +kernel
theorem dX3_lift_64 : decode cX3_lift 64 = .ok (.imul, 1) := by decide +kernel
theorem dX3_lift_65 : decode cX3_lift 65 = .ok (.iconst 1, 1) := by decide +kernel
theorem dX3_lift_66 : decode cX3_lift 66 = .ok (.iadd, 1) := by decide +kernel
theorem dX3_lift_67 : decode cX3_lift 67 = .ok (.iaload, 1) := by decide +kernel
theorem dX3_lift_68 : decode cX3_lift 68 = .ok (.aload_n 0, 1) := by decide +kernel
theorem dX3_lift_69 : decode cX3_lift 69 = .ok (.getfield 54, 3) := by decide +kernel
theorem dX3_lift_72 : decode cX3_lift 72 = .ok (.if_icmp .eq 9, 3) := by decide +kernel
theorem dX3_lift_75 : decode cX3_lift 75 = .ok (.aload_n 0, 1) := by decide +kernel
theorem dX3_lift_76 : decode cX3_lift 76 = .ok (.iconst 2, 1) := by decide +kernel
theorem dX3_lift_77 : decode cX3_lift 77 = .ok (.invokevirtual 51, 3) := by decide +kernel
theorem dX3_lift_80 : decode cX3_lift 80 = .ok (.ireturn, 1) := by decide +kernel
theorem dX3_lift_81 : decode cX3_lift 81 = .ok (.aload_n 0, 1) := by decide +kernel
theorem dX3_lift_82 : decode cX3_lift 82 = .ok (.getfield 9, 3) := by decide +kernel
theorem dX3_lift_85 : decode cX3_lift 85 = .ok (.iconst 5, 1) := by decide +kernel
theorem dX3_lift_86 : decode cX3_lift 86 = .ok (.iload 4, 2) := by decide +kernel
theorem dX3_lift_88 : decode cX3_lift 88 = .ok (.imul, 1) := by decide +kernel
theorem dX3_lift_89 : decode cX3_lift 89 = .ok (.iconst 4, 1) := by decide +kernel
theorem dX3_lift_90 : decode cX3_lift 90 = .ok (.iadd, 1) := by decide +kernel
theorem dX3_lift_91 : decode cX3_lift 91 = .ok (.iconst 0, 1) := by decide +kernel
theorem dX3_lift_92 : decode cX3_lift 92 = .ok (.iastore, 1) := by decide +kernel
theorem dX3_lift_93 : decode cX3_lift 93 = .ok (.iload 4, 2) := by decide +kernel
theorem dX3_lift_95 : decode cX3_lift 95 = .ok (.ireturn, 1) := by decide +kernel
set_option maxRecDepth 20000 in
theorem ggX3_momentOf_X3_state : GoodIn wsX3_momentOf wsX3_state := goodIn_r _ [7, 8, 16, 17, 18, 19, 20, 21, 22, 23, 24, 25, 26, 27, 28] (by decide +kernel) (by decide +kernel)
set_option maxRecDepth 20000 in
theorem gX3_momentOf_X3_state : GoodIn wsX3_momentOf (wsV RX3 43 RX3 yX3_state wsX3_state) := goodIn_app (goodIn_of _ (by decide +kernel)) ggX3_momentOf_X3_state
set_option maxRecDepth 20000 in
theorem ggX3_momentOf_X3_heavy : GoodIn wsX3_momentOf wsX3_heavy := goodIn_r _ [12, 8, 16, 17, 18, 19, 20, 21, 22, 23, 24, 25, 26, 27, 28] (by decide +kernel) (by decide +kernel)
set_option maxRecDepth 20000 in
theorem gX3_momentOf_X3_heavy : GoodIn wsX3_momentOf (wsV RX3 82 RX3 yX3_heavy wsX3_heavy) := goodIn_app (goodIn_of _ (by decide +kernel)) ggX3_momentOf_X3_heavy
set_option maxRecDepth 20000 in
theorem ggX3_momentOf_X3_arm : GoodIn wsX3_momentOf wsX3_arm := goodIn_r _ [15] (by decide +kernel) (by decide +kernel)
set_option maxRecDepth 20000 in
theorem gX3_momentOf_X3_arm : GoodIn wsX3_momentOf (va_wsS RX3 104 yX3_arm wsX3_arm) := goodIn_app (goodIn_of _ (by decide +kernel)) ggX3_momentOf_X3_arm
theorem dX3_momentOf_0 : decode cX3_momentOf 0 = .ok (.iconst 0, 1) := by decide +kernel
theorem dX3_momentOf_1 : decode cX3_momentOf 1 = .ok (.istore_n 2, 1) := by decide +kernel
theorem dX3_momentOf_2 : decode cX3_momentOf 2 = .ok (.iconst 0, 1) := by decide +kernel
theorem dX3_momentOf_3 : decode cX3_momentOf 3 = .ok (.istore_n 3, 1) := by decide +kernel
theorem dX3_momentOf_4 : decode cX3_momentOf 4 = .ok (.iload_n 3, 1) := by decide +kernel
theorem dX3_momentOf_5 : decode cX3_momentOf 5 = .ok (.aload_n 0, 1) := by decide +kernel
theorem dX3_momentOf_6 : decode cX3_momentOf 6 = .ok (.getfield 36, 3) := by decide +kernel
theorem dX3_momentOf_9 : decode cX3_momentOf 9 = .ok (.if_icmp .ge 37, 3) := by decide +kernel
theorem dX3_momentOf_12 : decode cX3_momentOf 12 = .ok (.aload_n 0, 1) := by decide +kernel
theorem dX3_momentOf_13 : decode cX3_momentOf 13 = .ok (.iload_n 3, 1) := by decide +kernel
theorem dX3_momentOf_14 : decode cX3_momentOf 14 = .ok (.invokevirtual 43, 3) := by decide +kernel
theorem dX3_momentOf_17 : decode cX3_momentOf 17 = .ok (.iconst 1, 1) := by decide +kernel
theorem dX3_momentOf_18 : decode cX3_momentOf 18 = .ok (.if_icmp .ne 22, 3) := by decide +kernel
theorem dX3_momentOf_21 : decode cX3_momentOf 21 = .ok (.iload_n 2, 1) := by decide +kernel
theorem dX3_momentOf_22 : decode cX3_momentOf 22 = .ok (.aload_n 0, 1) := by decide +kernel
theorem dX3_momentOf_23 : decode cX3_momentOf 23 = .ok (.iload_n 3, 1) := by decide +kernel
theorem dX3_momentOf_24 : decode cX3_momentOf 24 = .ok (.invokevirtual 82, 3) := by decide +kernel
theorem dX3_momentOf_27 : decode cX3_momentOf 27 = .ok (.aload_n 0, 1) := by decide +kernel
theorem dX3_momentOf_28 : decode cX3_momentOf 28 = .ok (.getfield 13, 3) := by decide +kernel
theorem dX3_momentOf_31 : decode cX3_momentOf 31 = .ok (.iload_n 3, 1) := by decide +kernel
theorem dX3_momentOf_32 : decode cX3_momentOf 32 = .ok (.iaload, 1) := by decide +kernel
theorem dX3_momentOf_33 : decode cX3_momentOf 33 = .ok (.iload_n 1, 1) := by decide +kernel
theorem dX3_momentOf_34 : decode cX3_momentOf 34 = .ok (.invokestatic 104, 3) := by decide +kernel
theorem dX3_momentOf_37 : decode cX3_momentOf 37 = .ok (.imul, 1) := by decide +kernel
theorem dX3_momentOf_38 : decode cX3_momentOf 38 = .ok (.iadd, 1) := by decide +kernel
theorem dX3_momentOf_39 : decode cX3_momentOf 39 = .ok (.istore_n 2, 1) := by decide +kernel
theorem dX3_momentOf_40 : decode cX3_momentOf 40 = .ok (.iinc 3 1, 3) := by decide +kernel
theorem dX3_momentOf_43 : decode cX3_momentOf 43 = .ok (.goto (-39), 3) := by decide +kernel
theorem dX3_momentOf_46 : decode cX3_momentOf 46 = .ok (.iload_n 2, 1) := by decide +kernel
theorem dX3_momentOf_47 : decode cX3_momentOf 47 = .ok (.ireturn, 1) := by decide +kernel
theorem dX3_arm_0 : decode cX3_arm 0 = .ok (.iload_n 1, 1) := by decide +kernel
theorem dX3_arm_1 : decode cX3_arm 1 = .ok (.ifCond .eq 13, 3) := by decide +kernel
theorem dX3_arm_4 : decode cX3_arm 4 = .ok (.iconst 2, 1) := by decide +kernel
theorem dX3_arm_5 : decode cX3_arm 5 = .ok (.iload_n 0, 1) := by decide +kernel
theorem dX3_arm_6 : decode cX3_arm 6 = .ok (.iconst 5, 1) := by decide +kernel
theorem dX3_arm_7 : decode cX3_arm 7 = .ok (.idiv, 1) := by decide +kernel
theorem dX3_arm_8 : decode cX3_arm 8 = .ok (.imul, 1) := by decide +kernel
theorem dX3_arm_9 : decode cX3_arm 9 = .ok (.iconst 5, 1) := by decide +kernel
theorem dX3_arm_10 : decode cX3_arm 10 = .ok (.isub, 1) := by decide +kernel
theorem dX3_arm_11 : decode cX3_arm 11 = .ok (.goto 8, 3) := by decide +kernel
theorem dX3_arm_14 : decode cX3_arm 14 = .ok (.iload_n 0, 1) := by decide +kernel
theorem dX3_arm_15 : decode cX3_arm 15 = .ok (.iconst 5, 1) := by decide +kernel
theorem dX3_arm_16 : decode cX3_arm 16 = .ok (.irem, 1) := by decide +kernel
theorem dX3_arm_17 : decode cX3_arm 17 = .ok (.iconst 2, 1) := by decide +kernel
theorem dX3_arm_18 : decode cX3_arm 18 = .ok (.isub, 1) := by decide +kernel
theorem dX3_arm_19 : decode cX3_arm 19 = .ok (.ireturn, 1) := by decide +kernel
set_option maxRecDepth 20000 in
theorem ggX3_earlier_X3_isOn : GoodIn wsX3_earlier wsX3_isOn := goodIn_r _ [6, 7, 8, 9, 10, 5, 11, 12, 17, 18, 19, 20, 21, 22, 23, 24, 25, 26, 27, 28, 29] (by decide +kernel) (by decide +kernel)
set_option maxRecDepth 20000 in
theorem gX3_earlier_X3_isOn : GoodIn wsX3_earlier (wsV RX3 47 RX3 yX3_isOn wsX3_isOn) := goodIn_app (goodIn_of _ (by decide +kernel)) ggX3_earlier_X3_isOn
set_option maxRecDepth 20000 in
theorem ggX3_earlier_X3_to : GoodIn wsX3_earlier wsX3_to := goodIn_r _ [16, 12, 17, 18, 19, 20, 21, 22, 23, 24, 25, 26, 27, 28, 29] (by decide +kernel) (by decide +kernel)
set_option maxRecDepth 20000 in
theorem gX3_earlier_X3_to : GoodIn wsX3_earlier (wsV RX3 108 RX3 yX3_to wsX3_to) := goodIn_app (goodIn_of _ (by decide +kernel)) ggX3_earlier_X3_to
theorem dX3_earlier_0 : decode cX3_earlier 0 = .ok (.iconst 0, 1) := by decide +kernel
theorem dX3_earlier_1 : decode cX3_earlier 1 = .ok (.istore_n 3, 1) := by decide +kernel
theorem dX3_earlier_2 : decode cX3_earlier 2 = .ok (.iconst 0, 1) := by decide +kernel
theorem dX3_earlier_3 : decode cX3_earlier 3 = .ok (.istore 4, 2) := by decide +kernel
theorem dX3_earlier_5 : decode cX3_earlier 5 = .ok (.iload 4, 2) := by decide +kernel
theorem dX3_earlier_7 : decode cX3_earlier 7 = .ok (.aload_n 0, 1) := by decide +kernel
theorem dX3_earlier_8 : decode cX3_earlier 8 = .ok (.getfield 36, 3) := by decide +kernel
theorem dX3_earlier_11 : decode cX3_earlier 11 = .ok (.if_icmp .ge 37, 3) := by decide +kernel
theorem dX3_earlier_14 : decode cX3_earlier 14 = .ok (.iload_n 3, 1) := by decide +kernel
theorem dX3_earlier_15 : decode cX3_earlier 15 = .ok (.aload_n 0, 1) := by decide +kernel
theorem dX3_earlier_16 : decode cX3_earlier 16 = .ok (.iload 4, 2) := by decide +kernel
theorem dX3_earlier_18 : decode cX3_earlier 18 = .ok (.iload_n 1, 1) := by decide +kernel
theorem dX3_earlier_19 : decode cX3_earlier 19 = .ok (.invokevirtual 47, 3) := by decide +kernel
theorem dX3_earlier_22 : decode cX3_earlier 22 = .ok (.ifCond .eq 17, 3) := by decide +kernel
theorem dX3_earlier_25 : decode cX3_earlier 25 = .ok (.aload_n 0, 1) := by decide +kernel
theorem dX3_earlier_26 : decode cX3_earlier 26 = .ok (.iload 4, 2) := by decide +kernel
theorem dX3_earlier_28 : decode cX3_earlier 28 = .ok (.invokevirtual 108, 3) := by decide +kernel
theorem dX3_earlier_31 : decode cX3_earlier 31 = .ok (.iload_n 2, 1) := by decide +kernel
theorem dX3_earlier_32 : decode cX3_earlier 32 = .ok (.if_icmp .ge 7, 3) := by decide +kernel
theorem dX3_earlier_35 : decode cX3_earlier 35 = .ok (.iconst 1, 1) := by decide +kernel
theorem dX3_earlier_36 : decode cX3_earlier 36 = .ok (.goto 4, 3) := by decide +kernel
theorem dX3_earlier_39 : decode cX3_earlier 39 = .ok (.iconst 0, 1) := by decide +kernel
theorem dX3_earlier_40 : decode cX3_earlier 40 = .ok (.iadd, 1) := by decide +kernel
theorem dX3_earlier_41 : decode cX3_earlier 41 = .ok (.istore_n 3, 1) := by decide +kernel
theorem dX3_earlier_42 : decode cX3_earlier 42 = .ok (.iinc 4 1, 3) := by decide +kernel
theorem dX3_earlier_45 : decode cX3_earlier 45 = .ok (.goto (-40), 3) := by decide +kernel
theorem dX3_earlier_48 : decode cX3_earlier 48 = .ok (.iload_n 3, 1) := by decide +kernel
theorem dX3_earlier_49 : decode cX3_earlier 49 = .ok (.ireturn, 1) := by decide +kernel
set_option maxRecDepth 20000 in
theorem ggX3_choicesOf_X3_isAllowed : GoodIn wsX3_choicesOf wsX3_isAllowed := goodIn_r _ [5, 6, 7, 8, 9, 10, 11, 12, 13, 14, 4, 15, 16, 17, 18, 19, 20, 21, 22, 23, 24, 25, 26, 27, 28, 29, 30, 31, 32, 33, 34, 35, 36, 37, 38, 39, 40, 41, 42, 43, 44, 45, 46, 47, 48, 49, 50, 51, 52, 53, 54, 55] (by decide +kernel) (by decide +kernel)
set_option maxRecDepth 20000 in
theorem gX3_choicesOf_X3_isAllowed : GoodIn wsX3_choicesOf (wsV RX3 94 RX3 yX3_isAllowed wsX3_isAllowed) := goodIn_app (goodIn_of _ (by decide +kernel)) ggX3_choicesOf_X3_isAllowed
theorem dX3_choicesOf_0 : decode cX3_choicesOf 0 = .ok (.iconst 0, 1) := by decide +kernel
theorem dX3_choicesOf_1 : decode cX3_choicesOf 1 = .ok (.istore_n 2, 1) := by decide +kernel
theorem dX3_choicesOf_2 : decode cX3_choicesOf 2 = .ok (.iconst 0, 1) := by decide +kernel
theorem dX3_choicesOf_3 : decode cX3_choicesOf 3 = .ok (.istore_n 3, 1) := by decide +kernel
theorem dX3_choicesOf_4 : decode cX3_choicesOf 4 = .ok (.iload_n 3, 1) := by decide +kernel
theorem dX3_choicesOf_5 : decode cX3_choicesOf 5 = .ok (.bipush 30, 2) := by decide +kernel
theorem dX3_choicesOf_7 : decode cX3_choicesOf 7 = .ok (.if_icmp .ge 26, 3) := by decide +kernel
theorem dX3_choicesOf_10 : decode cX3_choicesOf 10 = .ok (.iload_n 2, 1) := by decide +kernel
theorem dX3_choicesOf_11 : decode cX3_choicesOf 11 = .ok (.aload_n 0, 1) := by decide +kernel
theorem dX3_choicesOf_12 : decode cX3_choicesOf 12 = .ok (.iload_n 1, 1) := by decide +kernel
theorem dX3_choicesOf_13 : decode cX3_choicesOf 13 = .ok (.iload_n 3, 1) := by decide +kernel
theorem dX3_choicesOf_14 : decode cX3_choicesOf 14 = .ok (.invokevirtual 94, 3) := by decide +kernel
theorem dX3_choicesOf_17 : decode cX3_choicesOf 17 = .ok (.ifCond .eq 7, 3) := by decide +kernel
theorem dX3_choicesOf_20 : decode cX3_choicesOf 20 = .ok (.iconst 1, 1) := by decide +kernel
theorem dX3_choicesOf_21 : decode cX3_choicesOf 21 = .ok (.goto 4, 3) := by decide +kernel
theorem dX3_choicesOf_24 : decode cX3_choicesOf 24 = .ok (.iconst 0, 1) := by decide +kernel
theorem dX3_choicesOf_25 : decode cX3_choicesOf 25 = .ok (.iadd, 1) := by decide +kernel
theorem dX3_choicesOf_26 : decode cX3_choicesOf 26 = .ok (.istore_n 2, 1) := by decide +kernel
theorem dX3_choicesOf_27 : decode cX3_choicesOf 27 = .ok (.iinc 3 1, 3) := by decide +kernel
theorem dX3_choicesOf_30 : decode cX3_choicesOf 30 = .ok (.goto (-26), 3) := by decide +kernel
theorem dX3_choicesOf_33 : decode cX3_choicesOf 33 = .ok (.iload_n 2, 1) := by decide +kernel
theorem dX3_choicesOf_34 : decode cX3_choicesOf 34 = .ok (.ireturn, 1) := by decide +kernel
set_option maxRecDepth 20000 in
theorem ggX3_isBetter_X3_to : GoodIn wsX3_isBetter wsX3_to := goodIn_r _ [9, 10, 36, 37, 38, 39, 40, 41, 42, 43, 44, 45, 46, 47, 48] (by decide +kernel) (by decide +kernel)
set_option maxRecDepth 20000 in
theorem gX3_isBetter_X3_to : GoodIn wsX3_isBetter (wsV RX3 108 RX3 yX3_to wsX3_to) := goodIn_app (goodIn_of _ (by decide +kernel)) ggX3_isBetter_X3_to
set_option maxRecDepth 20000 in
theorem ggX3_isBetter_X3_earlier : GoodIn wsX3_isBetter wsX3_earlier := goodIn_r _ [14, 15, 16, 17, 18, 8, 19, 20, 21, 22, 23, 24, 10, 5, 6, 7, 9, 36, 37, 38, 39, 40, 41, 42, 43, 44, 45, 46, 47, 48] (by decide +kernel) (by decide +kernel)
set_option maxRecDepth 20000 in
theorem gX3_isBetter_X3_earlier : GoodIn wsX3_isBetter (wsV RX3 111 RX3 yX3_earlier wsX3_earlier) := goodIn_app (goodIn_of _ (by decide +kernel)) ggX3_isBetter_X3_earlier
set_option maxRecDepth 20000 in
theorem ggX3_isBetter_X3_momentOf : GoodIn wsX3_isBetter wsX3_momentOf := goodIn_r _ [28, 15, 20, 21, 22, 23, 8, 24, 10, 29, 30, 31, 32, 33, 34, 35, 36, 37, 38, 39, 40, 41, 42, 43, 44, 45, 46, 47, 48] (by decide +kernel) (by decide +kernel)
set_option maxRecDepth 20000 in
theorem gX3_isBetter_X3_momentOf : GoodIn wsX3_isBetter (wsV RX3 114 RX3 yX3_momentOf wsX3_momentOf) := goodIn_app (goodIn_of _ (by decide +kernel)) ggX3_isBetter_X3_momentOf
set_option maxRecDepth 20000 in
theorem ggX3_isBetter_X3_heavy : GoodIn wsX3_isBetter wsX3_heavy := goodIn_r _ [32, 10, 36, 37, 38, 39, 40, 41, 42, 43, 44, 45, 46, 47, 48] (by decide +kernel) (by decide +kernel)
set_option maxRecDepth 20000 in
theorem gX3_isBetter_X3_heavy : GoodIn wsX3_isBetter (wsV RX3 82 RX3 yX3_heavy wsX3_heavy) := goodIn_app (goodIn_of _ (by decide +kernel)) ggX3_isBetter_X3_heavy
set_option maxRecDepth 20000 in
theorem ggX3_isBetter_X3_arm : GoodIn wsX3_isBetter wsX3_arm := goodIn_r _ [35] (by decide +kernel) (by decide +kernel)
set_option maxRecDepth 20000 in
theorem gX3_isBetter_X3_arm : GoodIn wsX3_isBetter (va_wsS RX3 104 yX3_arm wsX3_arm) := goodIn_app (goodIn_of _ (by decide +kernel)) ggX3_isBetter_X3_arm
theorem dX3_isBetter_0 : decode cX3_isBetter 0 = .ok (.aload_n 0, 1) := by decide +kernel
theorem dX3_isBetter_1 : decode cX3_isBetter 1 = .ok (.iload_n 2, 1) := by decide +kernel
theorem dX3_isBetter_2 : decode cX3_isBetter 2 = .ok (.aload_n 0, 1) := by decide +kernel
theorem dX3_isBetter_3 : decode cX3_isBetter 3 = .ok (.iload_n 1, 1) := by decide +kernel
theorem dX3_isBetter_4 : decode cX3_isBetter 4 = .ok (.invokevirtual 108, 3) := by decide +kernel
theorem dX3_isBetter_7 : decode cX3_isBetter 7 = .ok (.invokevirtual 111, 3) := by decide +kernel
theorem dX3_isBetter_10 : decode cX3_isBetter 10 = .ok (.aload_n 0, 1) := by decide +kernel
theorem dX3_isBetter_11 : decode cX3_isBetter 11 = .ok (.iload_n 3, 1) := by decide +kernel
theorem dX3_isBetter_12 : decode cX3_isBetter 12 = .ok (.aload_n 0, 1) := by decide +kernel
theorem dX3_isBetter_13 : decode cX3_isBetter 13 = .ok (.iload_n 1, 1) := by decide +kernel
theorem dX3_isBetter_14 : decode cX3_isBetter 14 = .ok (.invokevirtual 108, 3) := by decide +kernel
theorem dX3_isBetter_17 : decode cX3_isBetter 17 = .ok (.invokevirtual 111, 3) := by decide +kernel
theorem dX3_isBetter_20 : decode cX3_isBetter 20 = .ok (.isub, 1) := by decide +kernel
theorem dX3_isBetter_21 : decode cX3_isBetter 21 = .ok (.istore 4, 2) := by decide +kernel
theorem dX3_isBetter_23 : decode cX3_isBetter 23 = .ok (.iconst 0, 1) := by decide +kernel
theorem dX3_isBetter_24 : decode cX3_isBetter 24 = .ok (.istore 5, 2) := by decide +kernel
theorem dX3_isBetter_26 : decode cX3_isBetter 26 = .ok (.iload 5, 2) := by decide +kernel
theorem dX3_isBetter_28 : decode cX3_isBetter 28 = .ok (.iconst 2, 1) := by decide +kernel
theorem dX3_isBetter_29 : decode cX3_isBetter 29 = .ok (.if_icmp .ge 97, 3) := by decide +kernel
theorem dX3_isBetter_32 : decode cX3_isBetter 32 = .ok (.iload 4, 2) := by decide +kernel
theorem dX3_isBetter_34 : decode cX3_isBetter 34 = .ok (.ifCond .ne 92, 3) := by decide +kernel
theorem dX3_isBetter_37 : decode cX3_isBetter 37 = .ok (.aload_n 0, 1) := by decide +kernel
theorem dX3_isBetter_38 : decode cX3_isBetter 38 = .ok (.iload 5, 2) := by decide +kernel
theorem dX3_isBetter_40 : decode cX3_isBetter 40 = .ok (.iconst 1, 1) := by decide +kernel
theorem dX3_isBetter_41 : decode cX3_isBetter 41 = .ok (.if_icmp .ne 7, 3) := by decide +kernel
theorem dX3_isBetter_44 : decode cX3_isBetter 44 = .ok (.iconst 1, 1) := by decide +kernel
theorem dX3_isBetter_45 : decode cX3_isBetter 45 = .ok (.goto 4, 3) := by decide +kernel
theorem dX3_isBetter_48 : decode cX3_isBetter 48 = .ok (.iconst 0, 1) := by decide +kernel
theorem dX3_isBetter_49 : decode cX3_isBetter 49 = .ok (.invokevirtual 114, 3) := by decide +kernel
theorem dX3_isBetter_52 : decode cX3_isBetter 52 = .ok (.aload_n 0, 1) := by decide +kernel
theorem dX3_isBetter_53 : decode cX3_isBetter 53 = .ok (.iload_n 1, 1) := by decide +kernel
theorem dX3_isBetter_54 : decode cX3_isBetter 54 = .ok (.invokevirtual 82, 3) := by decide +kernel
theorem dX3_isBetter_57 : decode cX3_isBetter 57 = .ok (.iload_n 2, 1) := by decide +kernel
theorem dX3_isBetter_58 : decode cX3_isBetter 58 = .ok (.iload 5, 2) := by decide +kernel
theorem dX3_isBetter_60 : decode cX3_isBetter 60 = .ok (.iconst 1, 1) := by decide +kernel
theorem dX3_isBetter_61 : decode cX3_isBetter 61 = .ok (.if_icmp .ne 7, 3) := by decide +kernel
theorem dX3_isBetter_64 : decode cX3_isBetter 64 = .ok (.iconst 1, 1) := by decide +kernel
theorem dX3_isBetter_65 : decode cX3_isBetter 65 = .ok (.goto 4, 3) := by decide +kernel
theorem dX3_isBetter_68 : decode cX3_isBetter 68 = .ok (.iconst 0, 1) := by decide +kernel
theorem dX3_isBetter_69 : decode cX3_isBetter 69 = .ok (.invokestatic 104, 3) := by decide +kernel
theorem dX3_isBetter_72 : decode cX3_isBetter 72 = .ok (.imul, 1) := by decide +kernel
theorem dX3_isBetter_73 : decode cX3_isBetter 73 = .ok (.iadd, 1) := by decide +kernel
theorem dX3_isBetter_74 : decode cX3_isBetter 74 = .ok (.invokestatic 77, 3) := by decide +kernel
theorem dX3_isBetter_77 : decode cX3_isBetter 77 = .ok (.aload_n 0, 1) := by decide +kernel
theorem dX3_isBetter_78 : decode cX3_isBetter 78 = .ok (.iload 5, 2) := by decide +kernel
theorem dX3_isBetter_80 : decode cX3_isBetter 80 = .ok (.iconst 1, 1) := by decide +kernel
theorem dX3_isBetter_81 : decode cX3_isBetter 81 = .ok (.if_icmp .ne 7, 3) := by decide +kernel
theorem dX3_isBetter_84 : decode cX3_isBetter 84 = .ok (.iconst 1, 1) := by decide +kernel
theorem dX3_isBetter_85 : decode cX3_isBetter 85 = .ok (.goto 4, 3) := by decide +kernel
theorem dX3_isBetter_88 : decode cX3_isBetter 88 = .ok (.iconst 0, 1) := by decide +kernel
theorem dX3_isBetter_89 : decode cX3_isBetter 89 = .ok (.invokevirtual 114, 3) := by decide +kernel
theorem dX3_isBetter_92 : decode cX3_isBetter 92 = .ok (.aload_n 0, 1) := by decide +kernel
theorem dX3_isBetter_93 : decode cX3_isBetter 93 = .ok (.iload_n 1, 1) := by decide +kernel
theorem dX3_isBetter_94 : decode cX3_isBetter 94 = .ok (.invokevirtual 82, 3) := by decide +kernel
theorem dX3_isBetter_97 : decode cX3_isBetter 97 = .ok (.iload_n 3, 1) := by decide +kernel
theorem dX3_isBetter_98 : decode cX3_isBetter 98 = .ok (.iload 5, 2) := by decide +kernel
theorem dX3_isBetter_100 : decode cX3_isBetter 100 = .ok (.iconst 1, 1) := by decide +kernel
theorem dX3_isBetter_101 : decode cX3_isBetter 101 = .ok (.if_icmp .ne 7, 3) := by decide +kernel
theorem dX3_isBetter_104 : decode cX3_isBetter 104 = .ok (.iconst 1, 1) := by decide +kernel
theorem dX3_isBetter_105 : decode cX3_isBetter 105 = .ok (.goto 4, 3) := by decide +kernel
theorem dX3_isBetter_108 : decode cX3_isBetter 108 = .ok (.iconst 0, 1) := by decide +kernel
theorem dX3_isBetter_109 : decode cX3_isBetter 109 = .ok (.invokestatic 104, 3) := by decide +kernel
theorem dX3_isBetter_112 : decode cX3_isBetter 112 = .ok (.imul, 1) := by decide +kernel
theorem dX3_isBetter_113 : decode cX3_isBetter 113 = .ok (.iadd, 1) := by decide +kernel
theorem dX3_isBetter_114 : decode cX3_isBetter 114 = .ok (.invokestatic 77, 3) := by decide +kernel
theorem dX3_isBetter_117 : decode cX3_isBetter 117 = .ok (.isub, 1) := by decide +kernel
theorem dX3_isBetter_118 : decode cX3_isBetter 118 = .ok (.istore 4, 2) := by decide +kernel
theorem dX3_isBetter_120 : decode cX3_isBetter 120 = .ok (.iinc 5 1, 3) := by decide +kernel
theorem dX3_isBetter_123 : decode cX3_isBetter 123 = .ok (.goto (-97), 3) := by decide +kernel
theorem dX3_isBetter_126 : decode cX3_isBetter 126 = .ok (.iload 4, 2) := by decide +kernel
theorem dX3_isBetter_128 : decode cX3_isBetter 128 = .ok (.ifCond .ge 7, 3) := by decide +kernel
theorem dX3_isBetter_131 : decode cX3_isBetter 131 = .ok (.iconst 1, 1) := by decide +kernel
theorem dX3_isBetter_132 : decode cX3_isBetter 132 = .ok (.goto 4, 3) := by decide +kernel
theorem dX3_isBetter_135 : decode cX3_isBetter 135 = .ok (.iconst 0, 1) := by decide +kernel
theorem dX3_isBetter_136 : decode cX3_isBetter 136 = .ok (.ireturn, 1) := by decide +kernel
set_option maxRecDepth 20000 in
theorem ggX3_planOne_X3_choicesOf : GoodIn wsX3_planOne wsX3_choicesOf := goodIn_r _ [6, 7, 8, 9, 5, 10, 11, 12, 13, 14, 1, 15, 16, 17, 18, 19, 20, 21, 22, 23, 24, 25, 26, 27, 28, 29, 30, 31, 32, 33, 34, 35, 36, 37, 38, 39, 40, 41, 42, 43, 44, 45, 46, 71, 72, 73, 74, 75, 76, 77, 78, 79, 80, 81, 82, 83] (by decide +kernel) (by decide +kernel)
set_option maxRecDepth 20000 in
theorem gX3_planOne_X3_choicesOf : GoodIn wsX3_planOne (wsV RX3 118 RX3 yX3_choicesOf wsX3_choicesOf) := goodIn_app (goodIn_of _ (by decide +kernel)) ggX3_planOne_X3_choicesOf
set_option maxRecDepth 20000 in
theorem ggX3_planOne_X3_to : GoodIn wsX3_planOne wsX3_to := goodIn_r _ [50, 11, 71, 72, 73, 74, 75, 76, 77, 78, 79, 80, 81, 82, 83] (by decide +kernel) (by decide +kernel)
set_option maxRecDepth 20000 in
theorem gX3_planOne_X3_to : GoodIn wsX3_planOne (wsV RX3 108 RX3 yX3_to wsX3_to) := goodIn_app (goodIn_of _ (by decide +kernel)) ggX3_planOne_X3_to
set_option maxRecDepth 20000 in
theorem ggX3_planOne_X3_heavy : GoodIn wsX3_planOne wsX3_heavy := goodIn_r _ [35, 11, 71, 72, 73, 74, 75, 76, 77, 78, 79, 80, 81, 82, 83] (by decide +kernel) (by decide +kernel)
set_option maxRecDepth 20000 in
theorem gX3_planOne_X3_heavy : GoodIn wsX3_planOne (wsV RX3 82 RX3 yX3_heavy wsX3_heavy) := goodIn_app (goodIn_of _ (by decide +kernel)) ggX3_planOne_X3_heavy
set_option maxRecDepth 20000 in
theorem ggX3_planOne_X3_isAllowed : GoodIn wsX3_planOne wsX3_isAllowed := goodIn_r _ [10, 11, 12, 13, 14, 1, 15, 16, 17, 18, 5, 19, 20, 21, 22, 23, 24, 25, 26, 27, 28, 29, 30, 31, 32, 33, 34, 35, 36, 37, 38, 39, 40, 41, 42, 43, 44, 45, 46, 71, 72, 73, 74, 75, 76, 77, 78, 79, 80, 81, 82, 83] (by decide +kernel) (by decide +kernel)
set_option maxRecDepth 20000 in
theorem gX3_planOne_X3_isAllowed : GoodIn wsX3_planOne (wsV RX3 94 RX3 yX3_isAllowed wsX3_isAllowed) := goodIn_app (goodIn_of _ (by decide +kernel)) ggX3_planOne_X3_isAllowed
set_option maxRecDepth 20000 in
theorem ggX3_planOne_X3_isBetter : GoodIn wsX3_planOne wsX3_isBetter := goodIn_r _ [54, 43, 44, 45, 46, 47, 48, 49, 5, 50, 11, 55, 56, 57, 58, 1, 24, 25, 26, 27, 15, 16, 17, 18, 19, 59, 60, 61, 62, 32, 33, 34, 35, 63, 64, 65, 71, 72, 73, 74, 75, 76, 77, 78, 79, 80, 81, 82, 83] (by decide +kernel) (by decide +kernel)
set_option maxRecDepth 20000 in
theorem gX3_planOne_X3_isBetter : GoodIn wsX3_planOne (wsV RX3 121 RX3 yX3_isBetter wsX3_isBetter) := goodIn_app (goodIn_of _ (by decide +kernel)) ggX3_planOne_X3_isBetter
set_option maxRecDepth 20000 in
theorem ggX3_planOne_X3_put : GoodIn wsX3_planOne wsX3_put := goodIn_r _ [69, 70, 15, 11, 20, 21, 22, 5, 23, 1, 24, 25, 26, 27, 16, 17, 18, 19, 71, 72, 73, 74, 75, 76, 77, 78, 79, 80, 81, 82, 83] (by decide +kernel) (by decide +kernel)
set_option maxRecDepth 20000 in
theorem gX3_planOne_X3_put : GoodIn wsX3_planOne (wsV RX3 97 RX3 yX3_put wsX3_put) := goodIn_app (goodIn_of _ (by decide +kernel)) ggX3_planOne_X3_put
theorem dX3_planOne_0 : decode cX3_planOne 0 = .ok (.iconst (-1), 1) := by decide +kernel
theorem dX3_planOne_1 : decode cX3_planOne 1 = .ok (.istore_n 1, 1) := by decide +kernel
theorem dX3_planOne_2 : decode cX3_planOne 2 = .ok (.iconst 0, 1) := by decide +kernel
theorem dX3_planOne_3 : decode cX3_planOne 3 = .ok (.istore_n 2, 1) := by decide +kernel
theorem dX3_planOne_4 : decode cX3_planOne 4 = .ok (.iload_n 2, 1) := by decide +kernel
theorem dX3_planOne_5 : decode cX3_planOne 5 = .ok (.aload_n 0, 1) := by decide +kernel
theorem dX3_planOne_6 : decode cX3_planOne 6 = .ok (.getfield 36, 3) := by decide +kernel
theorem dX3_planOne_9 : decode cX3_planOne 9 = .ok (.if_icmp .ge 66, 3) := by decide +kernel
theorem dX3_planOne_12 : decode cX3_planOne 12 = .ok (.aload_n 0, 1) := by decide +kernel
theorem dX3_planOne_13 : decode cX3_planOne 13 = .ok (.iload_n 2, 1) := by decide +kernel
theorem dX3_planOne_14 : decode cX3_planOne 14 = .ok (.invokevirtual 118, 3) := by decide +kernel
theorem dX3_planOne_17 : decode cX3_planOne 17 = .ok (.ifCond .ne 6, 3) := by decide +kernel
theorem dX3_planOne_20 : decode cX3_planOne 20 = .ok (.goto 49, 3) := by decide +kernel
theorem dX3_planOne_23 : decode cX3_planOne 23 = .ok (.iload_n 1, 1) := by decide +kernel
theorem dX3_planOne_24 : decode cX3_planOne 24 = .ok (.iconst (-1), 1) := by decide +kernel
theorem dX3_planOne_25 : decode cX3_planOne 25 = .ok (.if_icmp .eq 42, 3) := by decide +kernel
theorem dX3_planOne_28 : decode cX3_planOne 28 = .ok (.aload_n 0, 1) := by decide +kernel
theorem dX3_planOne_29 : decode cX3_planOne 29 = .ok (.iload_n 2, 1) := by decide +kernel
theorem dX3_planOne_30 : decode cX3_planOne 30 = .ok (.invokevirtual 108, 3) := by decide +kernel
theorem dX3_planOne_33 : decode cX3_planOne 33 = .ok (.aload_n 0, 1) := by decide +kernel
theorem dX3_planOne_34 : decode cX3_planOne 34 = .ok (.iload_n 1, 1) := by decide +kernel
theorem dX3_planOne_35 : decode cX3_planOne 35 = .ok (.invokevirtual 108, 3) := by decide +kernel
theorem dX3_planOne_38 : decode cX3_planOne 38 = .ok (.if_icmp .gt 29, 3) := by decide +kernel
theorem dX3_planOne_41 : decode cX3_planOne 41 = .ok (.aload_n 0, 1) := by decide +kernel
theorem dX3_planOne_42 : decode cX3_planOne 42 = .ok (.iload_n 2, 1) := by decide +kernel
theorem dX3_planOne_43 : decode cX3_planOne 43 = .ok (.invokevirtual 108, 3) := by decide +kernel
theorem dX3_planOne_46 : decode cX3_planOne 46 = .ok (.aload_n 0, 1) := by decide +kernel
theorem dX3_planOne_47 : decode cX3_planOne 47 = .ok (.iload_n 1, 1) := by decide +kernel
theorem dX3_planOne_48 : decode cX3_planOne 48 = .ok (.invokevirtual 108, 3) := by decide +kernel
theorem dX3_planOne_51 : decode cX3_planOne 51 = .ok (.if_icmp .ne 18, 3) := by decide +kernel
theorem dX3_planOne_54 : decode cX3_planOne 54 = .ok (.aload_n 0, 1) := by decide +kernel
theorem dX3_planOne_55 : decode cX3_planOne 55 = .ok (.iload_n 2, 1) := by decide +kernel
theorem dX3_planOne_56 : decode cX3_planOne 56 = .ok (.invokevirtual 82, 3) := by decide +kernel
theorem dX3_planOne_59 : decode cX3_planOne 59 = .ok (.aload_n 0, 1) := by decide +kernel
theorem dX3_planOne_60 : decode cX3_planOne 60 = .ok (.iload_n 1, 1) := by decide +kernel
theorem dX3_planOne_61 : decode cX3_planOne 61 = .ok (.invokevirtual 82, 3) := by decide +kernel
theorem dX3_planOne_64 : decode cX3_planOne 64 = .ok (.if_icmp .le 5, 3) := by decide +kernel
theorem dX3_planOne_67 : decode cX3_planOne 67 = .ok (.iload_n 2, 1) := by decide +kernel
theorem dX3_planOne_68 : decode cX3_planOne 68 = .ok (.istore_n 1, 1) := by decide +kernel
theorem dX3_planOne_69 : decode cX3_planOne 69 = .ok (.iinc 2 1, 3) := by decide +kernel
theorem dX3_planOne_72 : decode cX3_planOne 72 = .ok (.goto (-68), 3) := by decide +kernel
theorem dX3_planOne_75 : decode cX3_planOne 75 = .ok (.iload_n 1, 1) := by decide +kernel
theorem dX3_planOne_76 : decode cX3_planOne 76 = .ok (.iconst (-1), 1) := by decide +kernel
theorem dX3_planOne_77 : decode cX3_planOne 77 = .ok (.if_icmp .ne 5, 3) := by decide +kernel
theorem dX3_planOne_80 : decode cX3_planOne 80 = .ok (.iconst 0, 1) := by decide +kernel
theorem dX3_planOne_81 : decode cX3_planOne 81 = .ok (.ireturn, 1) := by decide +kernel
theorem dX3_planOne_82 : decode cX3_planOne 82 = .ok (.iconst (-1), 1) := by decide +kernel
theorem dX3_planOne_83 : decode cX3_planOne 83 = .ok (.istore_n 2, 1) := by decide +kernel
theorem dX3_planOne_84 : decode cX3_planOne 84 = .ok (.iconst 0, 1) := by decide +kernel
theorem dX3_planOne_85 : decode cX3_planOne 85 = .ok (.istore_n 3, 1) := by decide +kernel
theorem dX3_planOne_86 : decode cX3_planOne 86 = .ok (.iload_n 3, 1) := by decide +kernel
theorem dX3_planOne_87 : decode cX3_planOne 87 = .ok (.bipush 30, 2) := by decide +kernel
theorem dX3_planOne_89 : decode cX3_planOne 89 = .ok (.if_icmp .ge 35, 3) := by decide +kernel
theorem dX3_planOne_92 : decode cX3_planOne 92 = .ok (.aload_n 0, 1) := by decide +kernel
theorem dX3_planOne_93 : decode cX3_planOne 93 = .ok (.iload_n 1, 1) := by decide +kernel
theorem dX3_planOne_94 : decode cX3_planOne 94 = .ok (.iload_n 3, 1) := by decide +kernel
theorem dX3_planOne_95 : decode cX3_planOne 95 = .ok (.invokevirtual 94, 3) := by decide +kernel
theorem dX3_planOne_98 : decode cX3_planOne 98 = .ok (.ifCond .eq 20, 3) := by decide +kernel
theorem dX3_planOne_101 : decode cX3_planOne 101 = .ok (.iload_n 2, 1) := by decide +kernel
theorem dX3_planOne_102 : decode cX3_planOne 102 = .ok (.iconst (-1), 1) := by decide +kernel
theorem dX3_planOne_103 : decode cX3_planOne 103 = .ok (.if_icmp .eq 13, 3) := by decide +kernel
theorem dX3_planOne_106 : decode cX3_planOne 106 = .ok (.aload_n 0, 1) := by decide +kernel
theorem dX3_planOne_107 : decode cX3_planOne 107 = .ok (.iload_n 1, 1) := by decide +kernel
theorem dX3_planOne_108 : decode cX3_planOne 108 = .ok (.iload_n 3, 1) := by decide +kernel
theorem dX3_planOne_109 : decode cX3_planOne 109 = .ok (.iload_n 2, 1) := by decide +kernel
theorem dX3_planOne_110 : decode cX3_planOne 110 = .ok (.invokevirtual 121, 3) := by decide +kernel
theorem dX3_planOne_113 : decode cX3_planOne 113 = .ok (.ifCond .eq 5, 3) := by decide +kernel
theorem dX3_planOne_116 : decode cX3_planOne 116 = .ok (.iload_n 3, 1) := by decide +kernel
theorem dX3_planOne_117 : decode cX3_planOne 117 = .ok (.istore_n 2, 1) := by decide +kernel
theorem dX3_planOne_118 : decode cX3_planOne 118 = .ok (.iinc 3 1, 3) := by decide +kernel
theorem dX3_planOne_121 : decode cX3_planOne 121 = .ok (.goto (-35), 3) := by decide +kernel
theorem dX3_planOne_124 : decode cX3_planOne 124 = .ok (.aload_n 0, 1) := by decide +kernel
theorem dX3_planOne_125 : decode cX3_planOne 125 = .ok (.iload_n 1, 1) := by decide +kernel
theorem dX3_planOne_126 : decode cX3_planOne 126 = .ok (.iload_n 2, 1) := by decide +kernel
theorem dX3_planOne_127 : decode cX3_planOne 127 = .ok (.invokevirtual 97, 3) := by decide +kernel
theorem dX3_planOne_130 : decode cX3_planOne 130 = .ok (.iconst 1, 1) := by decide +kernel
theorem dX3_planOne_131 : decode cX3_planOne 131 = .ok (.ireturn, 1) := by decide +kernel
set_option maxRecDepth 20000 in
theorem ggX3_plan_X3_planOne : GoodIn wsX3_plan wsX3_planOne := goodIn_r _ [6, 7, 8, 9, 10, 5, 11, 12, 13, 14, 15, 16, 17, 18, 19, 20, 21, 22, 23, 24, 25, 26, 27, 28, 29, 30, 31, 32, 33, 34, 35, 36, 37, 38, 39, 40, 41, 42, 43, 44, 45, 46, 47, 48, 49, 50, 51, 52, 53, 54, 55, 56, 57, 58, 59, 60, 61, 62, 63, 64, 65, 66, 67, 68, 69, 70, 71, 72, 73, 74, 75, 76, 77, 78, 79, 80, 81, 82, 83, 84, 85, 86, 87, 88] (by decide +kernel) (by decide +kernel)
set_option maxRecDepth 20000 in
theorem gX3_plan_X3_planOne : GoodIn wsX3_plan (wsV RX3 124 RX3 yX3_planOne wsX3_planOne) := goodIn_app (goodIn_of _ (by decide +kernel)) ggX3_plan_X3_planOne
theorem dX3_plan_0 : decode cX3_plan 0 = .ok (.aload_n 0, 1) := by decide +kernel
theorem dX3_plan_1 : decode cX3_plan 1 = .ok (.iconst 0, 1) := by decide +kernel
theorem dX3_plan_2 : decode cX3_plan 2 = .ok (.putfield 33, 3) := by decide +kernel
theorem dX3_plan_5 : decode cX3_plan 5 = .ok (.iconst 0, 1) := by decide +kernel
theorem dX3_plan_6 : decode cX3_plan 6 = .ok (.istore_n 1, 1) := by decide +kernel
theorem dX3_plan_7 : decode cX3_plan 7 = .ok (.aload_n 0, 1) := by decide +kernel
theorem dX3_plan_8 : decode cX3_plan 8 = .ok (.invokevirtual 124, 3) := by decide +kernel
theorem dX3_plan_11 : decode cX3_plan 11 = .ok (.ifCond .eq 9, 3) := by decide +kernel
theorem dX3_plan_14 : decode cX3_plan 14 = .ok (.iinc 1 1, 3) := by decide +kernel
theorem dX3_plan_17 : decode cX3_plan 17 = .ok (.goto (-10), 3) := by decide +kernel
theorem dX3_plan_20 : decode cX3_plan 20 = .ok (.iload_n 1, 1) := by decide +kernel
theorem dX3_plan_21 : decode cX3_plan 21 = .ok (.ireturn, 1) := by decide +kernel
set_option maxRecDepth 20000 in
theorem ggX3_weigh_X3_state : GoodIn wsX3_weigh wsX3_state := goodIn_r _ [9, 10, 15, 16, 17, 18, 19, 20, 21, 22, 23, 24, 25, 26, 27] (by decide +kernel) (by decide +kernel)
set_option maxRecDepth 20000 in
theorem gX3_weigh_X3_state : GoodIn wsX3_weigh (wsV RX3 43 RX3 yX3_state wsX3_state) := goodIn_app (goodIn_of _ (by decide +kernel)) ggX3_weigh_X3_state
set_option maxRecDepth 20000 in
theorem ggX3_weigh_X3_heavy : GoodIn wsX3_weigh wsX3_heavy := goodIn_r _ [14, 10, 15, 16, 17, 18, 19, 20, 21, 22, 23, 24, 25, 26, 27] (by decide +kernel) (by decide +kernel)
set_option maxRecDepth 20000 in
theorem gX3_weigh_X3_heavy : GoodIn wsX3_weigh (wsV RX3 82 RX3 yX3_heavy wsX3_heavy) := goodIn_app (goodIn_of _ (by decide +kernel)) ggX3_weigh_X3_heavy
theorem dX3_weigh_0 : decode cX3_weigh 0 = .ok (.aload_n 0, 1) := by decide +kernel
theorem dX3_weigh_1 : decode cX3_weigh 1 = .ok (.iconst 0, 1) := by decide +kernel
theorem dX3_weigh_2 : decode cX3_weigh 2 = .ok (.putfield 128, 3) := by decide +kernel
theorem dX3_weigh_5 : decode cX3_weigh 5 = .ok (.aload_n 0, 1) := by decide +kernel
theorem dX3_weigh_6 : decode cX3_weigh 6 = .ok (.iconst 0, 1) := by decide +kernel
theorem dX3_weigh_7 : decode cX3_weigh 7 = .ok (.putfield 131, 3) := by decide +kernel
theorem dX3_weigh_10 : decode cX3_weigh 10 = .ok (.iconst 0, 1) := by decide +kernel
theorem dX3_weigh_11 : decode cX3_weigh 11 = .ok (.istore_n 1, 1) := by decide +kernel
theorem dX3_weigh_12 : decode cX3_weigh 12 = .ok (.iload_n 1, 1) := by decide +kernel
theorem dX3_weigh_13 : decode cX3_weigh 13 = .ok (.aload_n 0, 1) := by decide +kernel
theorem dX3_weigh_14 : decode cX3_weigh 14 = .ok (.getfield 36, 3) := by decide +kernel
theorem dX3_weigh_17 : decode cX3_weigh 17 = .ok (.if_icmp .ge 60, 3) := by decide +kernel
theorem dX3_weigh_20 : decode cX3_weigh 20 = .ok (.aload_n 0, 1) := by decide +kernel
theorem dX3_weigh_21 : decode cX3_weigh 21 = .ok (.iload_n 1, 1) := by decide +kernel
theorem dX3_weigh_22 : decode cX3_weigh 22 = .ok (.invokevirtual 43, 3) := by decide +kernel
theorem dX3_weigh_25 : decode cX3_weigh 25 = .ok (.iconst 1, 1) := by decide +kernel
theorem dX3_weigh_26 : decode cX3_weigh 26 = .ok (.if_icmp .eq 6, 3) := by decide +kernel
theorem dX3_weigh_29 : decode cX3_weigh 29 = .ok (.goto 42, 3) := by decide +kernel
theorem dX3_weigh_32 : decode cX3_weigh 32 = .ok (.aload_n 0, 1) := by decide +kernel
theorem dX3_weigh_33 : decode cX3_weigh 33 = .ok (.dup, 1) := by decide +kernel
theorem dX3_weigh_34 : decode cX3_weigh 34 = .ok (.getfield 128, 3) := by decide +kernel
theorem dX3_weigh_37 : decode cX3_weigh 37 = .ok (.aload_n 0, 1) := by decide +kernel
theorem dX3_weigh_38 : decode cX3_weigh 38 = .ok (.iload_n 1, 1) := by decide +kernel
theorem dX3_weigh_39 : decode cX3_weigh 39 = .ok (.invokevirtual 82, 3) := by decide +kernel
theorem dX3_weigh_42 : decode cX3_weigh 42 = .ok (.iconst 2, 1) := by decide +kernel
theorem dX3_weigh_43 : decode cX3_weigh 43 = .ok (.aload_n 0, 1) := by decide +kernel
theorem dX3_weigh_44 : decode cX3_weigh 44 = .ok (.getfield 16, 3) := by decide +kernel
theorem dX3_weigh_47 : decode cX3_weigh 47 = .ok (.iload_n 1, 1) := by decide +kernel
theorem dX3_weigh_48 : decode cX3_weigh 48 = .ok (.iaload, 1) := by decide +kernel
theorem dX3_weigh_49 : decode cX3_weigh 49 = .ok (.imul, 1) := by decide +kernel
theorem dX3_weigh_50 : decode cX3_weigh 50 = .ok (.iconst 1, 1) := by decide +kernel
theorem dX3_weigh_51 : decode cX3_weigh 51 = .ok (.iadd, 1) := by decide +kernel
theorem dX3_weigh_52 : decode cX3_weigh 52 = .ok (.imul, 1) := by decide +kernel
theorem dX3_weigh_53 : decode cX3_weigh 53 = .ok (.iadd, 1) := by decide +kernel
theorem dX3_weigh_54 : decode cX3_weigh 54 = .ok (.putfield 128, 3) := by decide +kernel
theorem dX3_weigh_57 : decode cX3_weigh 57 = .ok (.aload_n 0, 1) := by decide +kernel
theorem dX3_weigh_58 : decode cX3_weigh 58 = .ok (.dup, 1) := by decide +kernel
theorem dX3_weigh_59 : decode cX3_weigh 59 = .ok (.getfield 131, 3) := by decide +kernel
theorem dX3_weigh_62 : decode cX3_weigh 62 = .ok (.aload_n 0, 1) := by decide +kernel
theorem dX3_weigh_63 : decode cX3_weigh 63 = .ok (.iload_n 1, 1) := by decide +kernel
theorem dX3_weigh_64 : decode cX3_weigh 64 = .ok (.invokevirtual 82, 3) := by decide +kernel
theorem dX3_weigh_67 : decode cX3_weigh 67 = .ok (.iadd, 1) := by decide +kernel
theorem dX3_weigh_68 : decode cX3_weigh 68 = .ok (.putfield 131, 3) := by decide +kernel
theorem dX3_weigh_71 : decode cX3_weigh 71 = .ok (.iinc 1 1, 3) := by decide +kernel
theorem dX3_weigh_74 : decode cX3_weigh 74 = .ok (.goto (-62), 3) := by decide +kernel
theorem dX3_weigh_77 : decode cX3_weigh 77 = .ok (.return_, 1) := by decide +kernel
set_option maxRecDepth 20000 in
theorem ggX3_steady_X3_weigh : GoodIn wsX3_steady wsX3_weigh := goodIn_r _ [13, 7, 8, 14, 15, 16, 17, 18, 12, 19, 20, 21, 22, 23, 24, 33, 34, 35, 36, 37, 38, 39, 40, 41, 42, 43, 44, 45] (by decide +kernel) (by decide +kernel)
set_option maxRecDepth 20000 in
theorem gX3_steady_X3_weigh : GoodIn wsX3_steady (wsV RX3 134 RX3 yX3_weigh wsX3_weigh) := goodIn_app (goodIn_of _ (by decide +kernel)) ggX3_steady_X3_weigh
set_option maxRecDepth 20000 in
theorem ggX3_steady_X3_momentOf : GoodIn wsX3_steady wsX3_momentOf := goodIn_r _ [28, 14, 29, 16, 17, 18, 12, 19, 20, 21, 22, 23, 24, 30, 31, 32, 33, 34, 35, 36, 37, 38, 39, 40, 41, 42, 43, 44, 45] (by decide +kernel) (by decide +kernel)
set_option maxRecDepth 20000 in
theorem gX3_steady_X3_momentOf : GoodIn wsX3_steady (wsV RX3 114 RX3 yX3_momentOf wsX3_momentOf) := goodIn_app (goodIn_of _ (by decide +kernel)) ggX3_steady_X3_momentOf
theorem dX3_steady_0 : decode cX3_steady 0 = .ok (.aload_n 0, 1) := by decide +kernel
theorem dX3_steady_1 : decode cX3_steady 1 = .ok (.invokevirtual 134, 3) := by decide +kernel
theorem dX3_steady_4 : decode cX3_steady 4 = .ok (.aload_n 0, 1) := by decide +kernel
theorem dX3_steady_5 : decode cX3_steady 5 = .ok (.iconst 0, 1) := by decide +kernel
theorem dX3_steady_6 : decode cX3_steady 6 = .ok (.invokevirtual 114, 3) := by decide +kernel
theorem dX3_steady_9 : decode cX3_steady 9 = .ok (.invokestatic 77, 3) := by decide +kernel
theorem dX3_steady_12 : decode cX3_steady 12 = .ok (.aload_n 0, 1) := by decide +kernel
theorem dX3_steady_13 : decode cX3_steady 13 = .ok (.getfield 27, 3) := by decide +kernel
theorem dX3_steady_16 : decode cX3_steady 16 = .ok (.if_icmp .gt 35, 3) := by decide +kernel
theorem dX3_steady_19 : decode cX3_steady 19 = .ok (.aload_n 0, 1) := by decide +kernel
theorem dX3_steady_20 : decode cX3_steady 20 = .ok (.iconst 1, 1) := by decide +kernel
theorem dX3_steady_21 : decode cX3_steady 21 = .ok (.invokevirtual 114, 3) := by decide +kernel
theorem dX3_steady_24 : decode cX3_steady 24 = .ok (.invokestatic 77, 3) := by decide +kernel
theorem dX3_steady_27 : decode cX3_steady 27 = .ok (.aload_n 0, 1) := by decide +kernel
theorem dX3_steady_28 : decode cX3_steady 28 = .ok (.getfield 30, 3) := by decide +kernel
theorem dX3_steady_31 : decode cX3_steady 31 = .ok (.if_icmp .gt 20, 3) := by decide +kernel
theorem dX3_steady_34 : decode cX3_steady 34 = .ok (.aload_n 0, 1) := by decide +kernel
theorem dX3_steady_35 : decode cX3_steady 35 = .ok (.getfield 128, 3) := by decide +kernel
theorem dX3_steady_38 : decode cX3_steady 38 = .ok (.iconst 5, 1) := by decide +kernel
theorem dX3_steady_39 : decode cX3_steady 39 = .ok (.aload_n 0, 1) := by decide +kernel
theorem dX3_steady_40 : decode cX3_steady 40 = .ok (.getfield 131, 3) := by decide +kernel
theorem dX3_steady_43 : decode cX3_steady 43 = .ok (.imul, 1) := by decide +kernel
theorem dX3_steady_44 : decode cX3_steady 44 = .ok (.if_icmp .gt 7, 3) := by decide +kernel
theorem dX3_steady_47 : decode cX3_steady 47 = .ok (.iconst 1, 1) := by decide +kernel
theorem dX3_steady_48 : decode cX3_steady 48 = .ok (.goto 4, 3) := by decide +kernel
theorem dX3_steady_51 : decode cX3_steady 51 = .ok (.iconst 0, 1) := by decide +kernel
theorem dX3_steady_52 : decode cX3_steady 52 = .ok (.ireturn, 1) := by decide +kernel
set_option maxRecDepth 20000 in
theorem ggX3_lowest_X3_isOn : GoodIn wsX3_lowest wsX3_isOn := goodIn_r _ [11, 12, 13, 14, 15, 10, 16, 17, 22, 23, 24, 25, 26, 27, 28, 29, 30, 31, 32, 33, 34] (by decide +kernel) (by decide +kernel)
set_option maxRecDepth 20000 in
theorem gX3_lowest_X3_isOn : GoodIn wsX3_lowest (wsV RX3 47 RX3 yX3_isOn wsX3_isOn) := goodIn_app (goodIn_of _ (by decide +kernel)) ggX3_lowest_X3_isOn
set_option maxRecDepth 20000 in
theorem ggX3_lowest_X3_to : GoodIn wsX3_lowest wsX3_to := goodIn_r _ [21, 17, 22, 23, 24, 25, 26, 27, 28, 29, 30, 31, 32, 33, 34] (by decide +kernel) (by decide +kernel)
set_option maxRecDepth 20000 in
theorem gX3_lowest_X3_to : GoodIn wsX3_lowest (wsV RX3 108 RX3 yX3_to wsX3_to) := goodIn_app (goodIn_of _ (by decide +kernel)) ggX3_lowest_X3_to
theorem dX3_lowest_0 : decode cX3_lowest 0 = .ok (.iconst 4, 1) := by decide +kernel
theorem dX3_lowest_1 : decode cX3_lowest 1 = .ok (.istore_n 3, 1) := by decide +kernel
theorem dX3_lowest_2 : decode cX3_lowest 2 = .ok (.iconst 0, 1) := by decide +kernel
theorem dX3_lowest_3 : decode cX3_lowest 3 = .ok (.istore 4, 2) := by decide +kernel
theorem dX3_lowest_5 : decode cX3_lowest 5 = .ok (.iload 4, 2) := by decide +kernel
theorem dX3_lowest_7 : decode cX3_lowest 7 = .ok (.aload_n 0, 1) := by decide +kernel
theorem dX3_lowest_8 : decode cX3_lowest 8 = .ok (.getfield 36, 3) := by decide +kernel
theorem dX3_lowest_11 : decode cX3_lowest 11 = .ok (.if_icmp .ge 41, 3) := by decide +kernel
theorem dX3_lowest_14 : decode cX3_lowest 14 = .ok (.aload_n 0, 1) := by decide +kernel
theorem dX3_lowest_15 : decode cX3_lowest 15 = .ok (.iload 4, 2) := by decide +kernel
theorem dX3_lowest_17 : decode cX3_lowest 17 = .ok (.iload_n 1, 1) := by decide +kernel
theorem dX3_lowest_18 : decode cX3_lowest 18 = .ok (.invokevirtual 47, 3) := by decide +kernel
theorem dX3_lowest_21 : decode cX3_lowest 21 = .ok (.ifCond .eq 25, 3) := by decide +kernel
theorem dX3_lowest_24 : decode cX3_lowest 24 = .ok (.aload_n 0, 1) := by decide +kernel
theorem dX3_lowest_25 : decode cX3_lowest 25 = .ok (.iload 4, 2) := by decide +kernel
theorem dX3_lowest_27 : decode cX3_lowest 27 = .ok (.invokevirtual 108, 3) := by decide +kernel
theorem dX3_lowest_30 : decode cX3_lowest 30 = .ok (.iload_n 2, 1) := by decide +kernel
theorem dX3_lowest_31 : decode cX3_lowest 31 = .ok (.if_icmp .ne 15, 3) := by decide +kernel
theorem dX3_lowest_34 : decode cX3_lowest 34 = .ok (.iload_n 3, 1) := by decide +kernel
theorem dX3_lowest_35 : decode cX3_lowest 35 = .ok (.aload_n 0, 1) := by decide +kernel
theorem dX3_lowest_36 : decode cX3_lowest 36 = .ok (.getfield 16, 3) := by decide +kernel
theorem dX3_lowest_39 : decode cX3_lowest 39 = .ok (.iload 4, 2) := by decide +kernel
theorem dX3_lowest_41 : decode cX3_lowest 41 = .ok (.iaload, 1) := by decide +kernel
theorem dX3_lowest_42 : decode cX3_lowest 42 = .ok (.invokestatic 137, 3) := by decide +kernel
theorem dX3_lowest_45 : decode cX3_lowest 45 = .ok (.istore_n 3, 1) := by decide +kernel
theorem dX3_lowest_46 : decode cX3_lowest 46 = .ok (.iinc 4 1, 3) := by decide +kernel
theorem dX3_lowest_49 : decode cX3_lowest 49 = .ok (.goto (-44), 3) := by decide +kernel
theorem dX3_lowest_52 : decode cX3_lowest 52 = .ok (.iload_n 3, 1) := by decide +kernel
theorem dX3_lowest_53 : decode cX3_lowest 53 = .ok (.ireturn, 1) := by decide +kernel
set_option maxRecDepth 20000 in
theorem ggX3_liftsAt_X3_state : GoodIn wsX3_liftsAt wsX3_state := goodIn_r _ [8, 9, 26, 27, 28, 29, 30, 31, 32, 33, 34, 35, 36, 37, 38] (by decide +kernel) (by decide +kernel)
set_option maxRecDepth 20000 in
theorem gX3_liftsAt_X3_state : GoodIn wsX3_liftsAt (wsV RX3 43 RX3 yX3_state wsX3_state) := goodIn_app (goodIn_of _ (by decide +kernel)) ggX3_liftsAt_X3_state
set_option maxRecDepth 20000 in
theorem ggX3_liftsAt_X3_to : GoodIn wsX3_liftsAt wsX3_to := goodIn_r _ [13, 9, 26, 27, 28, 29, 30, 31, 32, 33, 34, 35, 36, 37, 38] (by decide +kernel) (by decide +kernel)
set_option maxRecDepth 20000 in
theorem gX3_liftsAt_X3_to : GoodIn wsX3_liftsAt (wsV RX3 108 RX3 yX3_to wsX3_to) := goodIn_app (goodIn_of _ (by decide +kernel)) ggX3_liftsAt_X3_to
set_option maxRecDepth 20000 in
theorem ggX3_liftsAt_X3_lowest : GoodIn wsX3_liftsAt wsX3_lowest := goodIn_r _ [17, 1, 2, 18, 19, 20, 21, 22, 23, 24, 7, 25, 3, 4, 5, 6, 8, 9, 10, 11, 12, 13, 26, 27, 28, 29, 30, 31, 32, 33, 34, 35, 36, 37, 38] (by decide +kernel) (by decide +kernel)
set_option maxRecDepth 20000 in
theorem gX3_liftsAt_X3_lowest : GoodIn wsX3_liftsAt (wsV RX3 140 RX3 yX3_lowest wsX3_lowest) := goodIn_app (goodIn_of _ (by decide +kernel)) ggX3_liftsAt_X3_lowest
theorem dX3_liftsAt_0 : decode cX3_liftsAt 0 = .ok (.iconst 0, 1) := by decide +kernel
theorem dX3_liftsAt_1 : decode cX3_liftsAt 1 = .ok (.istore_n 2, 1) := by decide +kernel
theorem dX3_liftsAt_2 : decode cX3_liftsAt 2 = .ok (.iconst 0, 1) := by decide +kernel
theorem dX3_liftsAt_3 : decode cX3_liftsAt 3 = .ok (.istore_n 3, 1) := by decide +kernel
theorem dX3_liftsAt_4 : decode cX3_liftsAt 4 = .ok (.iload_n 3, 1) := by decide +kernel
theorem dX3_liftsAt_5 : decode cX3_liftsAt 5 = .ok (.aload_n 0, 1) := by decide +kernel
theorem dX3_liftsAt_6 : decode cX3_liftsAt 6 = .ok (.getfield 36, 3) := by decide +kernel
theorem dX3_liftsAt_9 : decode cX3_liftsAt 9 = .ok (.if_icmp .ge 55, 3) := by decide +kernel
theorem dX3_liftsAt_12 : decode cX3_liftsAt 12 = .ok (.iload_n 2, 1) := by decide +kernel
theorem dX3_liftsAt_13 : decode cX3_liftsAt 13 = .ok (.aload_n 0, 1) := by decide +kernel
theorem dX3_liftsAt_14 : decode cX3_liftsAt 14 = .ok (.iload_n 3, 1) := by decide +kernel
theorem dX3_liftsAt_15 : decode cX3_liftsAt 15 = .ok (.invokevirtual 43, 3) := by decide +kernel
theorem dX3_liftsAt_18 : decode cX3_liftsAt 18 = .ok (.iconst 1, 1) := by decide +kernel
theorem dX3_liftsAt_19 : decode cX3_liftsAt 19 = .ok (.if_icmp .ne 36, 3) := by decide +kernel
theorem dX3_liftsAt_22 : decode cX3_liftsAt 22 = .ok (.aload_n 0, 1) := by decide +kernel
theorem dX3_liftsAt_23 : decode cX3_liftsAt 23 = .ok (.iload_n 3, 1) := by decide +kernel
theorem dX3_liftsAt_24 : decode cX3_liftsAt 24 = .ok (.invokevirtual 108, 3) := by decide +kernel
theorem dX3_liftsAt_27 : decode cX3_liftsAt 27 = .ok (.iload_n 1, 1) := by decide +kernel
theorem dX3_liftsAt_28 : decode cX3_liftsAt 28 = .ok (.if_icmp .eq 27, 3) := by decide +kernel
theorem dX3_liftsAt_31 : decode cX3_liftsAt 31 = .ok (.aload_n 0, 1) := by decide +kernel
theorem dX3_liftsAt_32 : decode cX3_liftsAt 32 = .ok (.getfield 16, 3) := by decide +kernel
theorem dX3_liftsAt_35 : decode cX3_liftsAt 35 = .ok (.iload_n 3, 1) := by decide +kernel
theorem dX3_liftsAt_36 : decode cX3_liftsAt 36 = .ok (.iaload, 1) := by decide +kernel
theorem dX3_liftsAt_37 : decode cX3_liftsAt 37 = .ok (.aload_n 0, 1) := by decide +kernel
theorem dX3_liftsAt_38 : decode cX3_liftsAt 38 = .ok (.aload_n 0, 1) := by decide +kernel
theorem dX3_liftsAt_39 : decode cX3_liftsAt 39 = .ok (.getfield 13, 3) := by decide +kernel
theorem dX3_liftsAt_42 : decode cX3_liftsAt 42 = .ok (.iload_n 3, 1) := by decide +kernel
theorem dX3_liftsAt_43 : decode cX3_liftsAt 43 = .ok (.iaload, 1) := by decide +kernel
theorem dX3_liftsAt_44 : decode cX3_liftsAt 44 = .ok (.iload_n 1, 1) := by decide +kernel
theorem dX3_liftsAt_45 : decode cX3_liftsAt 45 = .ok (.invokevirtual 140, 3) := by decide +kernel
theorem dX3_liftsAt_48 : decode cX3_liftsAt 48 = .ok (.if_icmp .le 7, 3) := by decide +kernel
theorem dX3_liftsAt_51 : decode cX3_liftsAt 51 = .ok (.iconst 1, 1) := by decide +kernel
theorem dX3_liftsAt_52 : decode cX3_liftsAt 52 = .ok (.goto 4, 3) := by decide +kernel
theorem dX3_liftsAt_55 : decode cX3_liftsAt 55 = .ok (.iconst 0, 1) := by decide +kernel
theorem dX3_liftsAt_56 : decode cX3_liftsAt 56 = .ok (.iadd, 1) := by decide +kernel
theorem dX3_liftsAt_57 : decode cX3_liftsAt 57 = .ok (.istore_n 2, 1) := by decide +kernel
theorem dX3_liftsAt_58 : decode cX3_liftsAt 58 = .ok (.iinc 3 1, 3) := by decide +kernel
theorem dX3_liftsAt_61 : decode cX3_liftsAt 61 = .ok (.goto (-57), 3) := by decide +kernel
theorem dX3_liftsAt_64 : decode cX3_liftsAt 64 = .ok (.iload_n 2, 1) := by decide +kernel
theorem dX3_liftsAt_65 : decode cX3_liftsAt 65 = .ok (.ireturn, 1) := by decide +kernel
set_option maxRecDepth 20000 in
theorem ggX3_sail_X3_steady : GoodIn wsX3_sail wsX3_steady := goodIn_r _ [10, 11, 12, 13, 14, 15, 16, 17, 18, 19, 20, 21, 9, 22, 23, 5, 24, 25, 26, 27, 4, 28, 29, 30, 31, 32, 33, 34, 35, 36, 37, 38, 39, 71, 72, 73, 74, 75, 76, 77, 78, 79, 80, 81, 82, 83] (by decide +kernel) (by decide +kernel)
set_option maxRecDepth 20000 in
theorem gX3_sail_X3_steady : GoodIn wsX3_sail (wsV RX3 143 RX3 yX3_steady wsX3_steady) := goodIn_app (goodIn_of _ (by decide +kernel)) ggX3_sail_X3_steady
set_option maxRecDepth 20000 in
theorem ggX3_sail_X3_fail : GoodIn wsX3_sail wsX3_fail := goodIn_r _ [43, 1, 71, 72, 73, 74, 75, 76, 77, 78, 79, 80, 81, 82, 83] (by decide +kernel) (by decide +kernel)
set_option maxRecDepth 20000 in
theorem gX3_sail_X3_fail : GoodIn wsX3_sail (wsV RX3 51 RX3 yX3_fail wsX3_fail) := goodIn_app (goodIn_of _ (by decide +kernel)) ggX3_sail_X3_fail
set_option maxRecDepth 20000 in
theorem ggX3_sail_X3_liftsAt : GoodIn wsX3_sail wsX3_liftsAt := goodIn_r _ [47, 23, 5, 36, 24, 25, 26, 9, 27, 4, 48, 49, 50, 51, 52, 53, 54, 55, 56, 57, 13, 58, 59, 60, 61, 62, 71, 72, 73, 74, 75, 76, 77, 78, 79, 80, 81, 82, 83] (by decide +kernel) (by decide +kernel)
set_option maxRecDepth 20000 in
theorem gX3_sail_X3_liftsAt : GoodIn wsX3_sail (wsV RX3 146 RX3 yX3_liftsAt wsX3_liftsAt) := goodIn_app (goodIn_of _ (by decide +kernel)) ggX3_sail_X3_liftsAt
set_option maxRecDepth 20000 in
theorem ggX3_sail_X3_high : GoodIn wsX3_sail wsX3_high := goodIn_r _ [66, 23, 59, 60, 61, 9, 62, 36, 24, 25, 26, 27, 4, 71, 72, 73, 74, 75, 76, 77, 78, 79, 80, 81, 82, 83] (by decide +kernel) (by decide +kernel)
set_option maxRecDepth 20000 in
theorem gX3_sail_X3_high : GoodIn wsX3_sail (wsV RX3 85 RX3 yX3_high wsX3_high) := goodIn_app (goodIn_of _ (by decide +kernel)) ggX3_sail_X3_high
set_option maxRecDepth 20000 in
theorem ggX3_sail_X3_find : GoodIn wsX3_sail wsX3_find := goodIn_r _ [70, 23, 5, 59, 60, 61, 9, 62, 36, 24, 25, 26, 27, 4, 71, 72, 73, 74, 75, 76, 77, 78, 79, 80, 81, 82, 83] (by decide +kernel) (by decide +kernel)
set_option maxRecDepth 20000 in
theorem gX3_sail_X3_find : GoodIn wsX3_sail (wsV RX3 101 RX3 yX3_find wsX3_find) := goodIn_app (goodIn_of _ (by decide +kernel)) ggX3_sail_X3_find
set_option maxRecDepth 20000 in
theorem ggX3_sail_X3_to : GoodIn wsX3_sail wsX3_to := goodIn_r _ [51, 4, 71, 72, 73, 74, 75, 76, 77, 78, 79, 80, 81, 82, 83] (by decide +kernel) (by decide +kernel)
set_option maxRecDepth 20000 in
theorem gX3_sail_X3_to : GoodIn wsX3_sail (wsV RX3 108 RX3 yX3_to wsX3_to) := goodIn_app (goodIn_of _ (by decide +kernel)) ggX3_sail_X3_to
theorem dX3_sail_0 : decode cX3_sail 0 = .ok (.aload_n 0, 1) := by decide +kernel
theorem dX3_sail_1 : decode cX3_sail 1 = .ok (.iconst 0, 1) := by decide +kernel
theorem dX3_sail_2 : decode cX3_sail 2 = .ok (.putfield 33, 3) := by decide +kernel
theorem dX3_sail_5 : decode cX3_sail 5 = .ok (.aload_n 0, 1) := by decide +kernel
theorem dX3_sail_6 : decode cX3_sail 6 = .ok (.getfield 54, 3) := by decide +kernel
theorem dX3_sail_9 : decode cX3_sail 9 = .ok (.iconst 5, 1) := by decide +kernel
theorem dX3_sail_10 : decode cX3_sail 10 = .ok (.if_icmp .eq 10, 3) := by decide +kernel
theorem dX3_sail_13 : decode cX3_sail 13 = .ok (.aload_n 0, 1) := by decide +kernel
theorem dX3_sail_14 : decode cX3_sail 14 = .ok (.invokevirtual 143, 3) := by decide +kernel
theorem dX3_sail_17 : decode cX3_sail 17 = .ok (.ifCond .ne 9, 3) := by decide +kernel
theorem dX3_sail_20 : decode cX3_sail 20 = .ok (.aload_n 0, 1) := by decide +kernel
theorem dX3_sail_21 : decode cX3_sail 21 = .ok (.iconst 1, 1) := by decide +kernel
theorem dX3_sail_22 : decode cX3_sail 22 = .ok (.invokevirtual 51, 3) := by decide +kernel
theorem dX3_sail_25 : decode cX3_sail 25 = .ok (.ireturn, 1) := by decide +kernel
theorem dX3_sail_26 : decode cX3_sail 26 = .ok (.aload_n 0, 1) := by decide +kernel
theorem dX3_sail_27 : decode cX3_sail 27 = .ok (.dup, 1) := by decide +kernel
theorem dX3_sail_28 : decode cX3_sail 28 = .ok (.getfield 54, 3) := by decide +kernel
theorem dX3_sail_31 : decode cX3_sail 31 = .ok (.iconst 1, 1) := by decide +kernel
theorem dX3_sail_32 : decode cX3_sail 32 = .ok (.iadd, 1) := by decide +kernel
theorem dX3_sail_33 : decode cX3_sail 33 = .ok (.putfield 54, 3) := by decide +kernel
theorem dX3_sail_36 : decode cX3_sail 36 = .ok (.aload_n 0, 1) := by decide +kernel
theorem dX3_sail_37 : decode cX3_sail 37 = .ok (.aload_n 0, 1) := by decide +kernel
theorem dX3_sail_38 : decode cX3_sail 38 = .ok (.getfield 54, 3) := by decide +kernel
theorem dX3_sail_41 : decode cX3_sail 41 = .ok (.invokevirtual 146, 3) := by decide +kernel
theorem dX3_sail_44 : decode cX3_sail 44 = .ok (.istore_n 1, 1) := by decide +kernel
theorem dX3_sail_45 : decode cX3_sail 45 = .ok (.aload_n 0, 1) := by decide +kernel
theorem dX3_sail_46 : decode cX3_sail 46 = .ok (.dup, 1) := by decide +kernel
theorem dX3_sail_47 : decode cX3_sail 47 = .ok (.getfield 149, 3) := by decide +kernel
theorem dX3_sail_50 : decode cX3_sail 50 = .ok (.iload_n 1, 1) := by decide +kernel
theorem dX3_sail_51 : decode cX3_sail 51 = .ok (.iadd, 1) := by decide +kernel
theorem dX3_sail_52 : decode cX3_sail 52 = .ok (.putfield 149, 3) := by decide +kernel
theorem dX3_sail_55 : decode cX3_sail 55 = .ok (.iconst 0, 1) := by decide +kernel
theorem dX3_sail_56 : decode cX3_sail 56 = .ok (.istore_n 2, 1) := by decide +kernel
theorem dX3_sail_57 : decode cX3_sail 57 = .ok (.iload_n 2, 1) := by decide +kernel
theorem dX3_sail_58 : decode cX3_sail 58 = .ok (.bipush 30, 2) := by decide +kernel
theorem dX3_sail_60 : decode cX3_sail 60 = .ok (.if_icmp .ge 82, 3) := by decide +kernel
theorem dX3_sail_63 : decode cX3_sail 63 = .ok (.aload_n 0, 1) := by decide +kernel
theorem dX3_sail_64 : decode cX3_sail 64 = .ok (.iload_n 2, 1) := by decide +kernel
theorem dX3_sail_65 : decode cX3_sail 65 = .ok (.invokevirtual 85, 3) := by decide +kernel
theorem dX3_sail_68 : decode cX3_sail 68 = .ok (.istore_n 3, 1) := by decide +kernel
theorem dX3_sail_69 : decode cX3_sail 69 = .ok (.iconst 0, 1) := by decide +kernel
theorem dX3_sail_70 : decode cX3_sail 70 = .ok (.istore 4, 2) := by decide +kernel
theorem dX3_sail_72 : decode cX3_sail 72 = .ok (.iconst 0, 1) := by decide +kernel
theorem dX3_sail_73 : decode cX3_sail 73 = .ok (.istore 5, 2) := by decide +kernel
theorem dX3_sail_75 : decode cX3_sail 75 = .ok (.iload 5, 2) := by decide +kernel
theorem dX3_sail_77 : decode cX3_sail 77 = .ok (.iload_n 3, 1) := by decide +kernel
theorem dX3_sail_78 : decode cX3_sail 78 = .ok (.if_icmp .ge 58, 3) := by decide +kernel
theorem dX3_sail_81 : decode cX3_sail 81 = .ok (.aload_n 0, 1) := by decide +kernel
theorem dX3_sail_82 : decode cX3_sail 82 = .ok (.iload_n 2, 1) := by decide +kernel
theorem dX3_sail_83 : decode cX3_sail 83 = .ok (.iload 5, 2) := by decide +kernel
theorem dX3_sail_85 : decode cX3_sail 85 = .ok (.invokevirtual 101, 3) := by decide +kernel
theorem dX3_sail_88 : decode cX3_sail 88 = .ok (.istore 6, 2) := by decide +kernel
theorem dX3_sail_90 : decode cX3_sail 90 = .ok (.aload_n 0, 1) := by decide +kernel
theorem dX3_sail_91 : decode cX3_sail 91 = .ok (.iload 6, 2) := by decide +kernel
theorem dX3_sail_93 : decode cX3_sail 93 = .ok (.invokevirtual 108, 3) := by decide +kernel
theorem dX3_sail_96 : decode cX3_sail 96 = .ok (.aload_n 0, 1) := by decide +kernel
theorem dX3_sail_97 : decode cX3_sail 97 = .ok (.getfield 54, 3) := by decide +kernel
theorem dX3_sail_100 : decode cX3_sail 100 = .ok (.if_icmp .ne 18, 3) := by decide +kernel
theorem dX3_sail_103 : decode cX3_sail 103 = .ok (.aload_n 0, 1) := by decide +kernel
theorem dX3_sail_104 : decode cX3_sail 104 = .ok (.getfield 9, 3) := by decide +kernel
theorem dX3_sail_107 : decode cX3_sail 107 = .ok (.iconst 5, 1) := by decide +kernel
theorem dX3_sail_108 : decode cX3_sail 108 = .ok (.iload 6, 2) := by decide +kernel
theorem dX3_sail_110 : decode cX3_sail 110 = .ok (.imul, 1) := by decide +kernel
theorem dX3_sail_111 : decode cX3_sail 111 = .ok (.iconst 4, 1) := by decide +kernel
theorem dX3_sail_112 : decode cX3_sail 112 = .ok (.iadd, 1) := by decide +kernel
theorem dX3_sail_113 : decode cX3_sail 113 = .ok (.iconst 2, 1) := by decide +kernel
theorem dX3_sail_114 : decode cX3_sail 114 = .ok (.iastore, 1) := by decide +kernel
theorem dX3_sail_115 : decode cX3_sail 115 = .ok (.goto 15, 3) := by decide +kernel
theorem dX3_sail_118 : decode cX3_sail 118 = .ok (.aload_n 0, 1) := by decide +kernel
theorem dX3_sail_119 : decode cX3_sail 119 = .ok (.getfield 16, 3) := by decide +kernel
theorem dX3_sail_122 : decode cX3_sail 122 = .ok (.iload 6, 2) := by decide +kernel
theorem dX3_sail_124 : decode cX3_sail 124 = .ok (.iload 4, 2) := by decide +kernel
theorem dX3_sail_126 : decode cX3_sail 126 = .ok (.iastore, 1) := by decide +kernel
theorem dX3_sail_127 : decode cX3_sail 127 = .ok (.iinc 4 1, 3) := by decide +kernel
theorem dX3_sail_130 : decode cX3_sail 130 = .ok (.iinc 5 1, 3) := by decide +kernel
theorem dX3_sail_133 : decode cX3_sail 133 = .ok (.goto (-58), 3) := by decide +kernel
theorem dX3_sail_136 : decode cX3_sail 136 = .ok (.iinc 2 1, 3) := by decide +kernel
theorem dX3_sail_139 : decode cX3_sail 139 = .ok (.goto (-82), 3) := by decide +kernel
theorem dX3_sail_142 : decode cX3_sail 142 = .ok (.iload_n 1, 1) := by decide +kernel
theorem dX3_sail_143 : decode cX3_sail 143 = .ok (.ireturn, 1) := by decide +kernel
theorem dX3_port_0 : decode cX3_port 0 = .ok (.aload_n 0, 1) := by decide +kernel
theorem dX3_port_1 : decode cX3_port 1 = .ok (.iconst 0, 1) := by decide +kernel
theorem dX3_port_2 : decode cX3_port 2 = .ok (.putfield 33, 3) := by decide +kernel
theorem dX3_port_5 : decode cX3_port 5 = .ok (.aload_n 0, 1) := by decide +kernel
theorem dX3_port_6 : decode cX3_port 6 = .ok (.getfield 54, 3) := by decide +kernel
theorem dX3_port_9 : decode cX3_port 9 = .ok (.ireturn, 1) := by decide +kernel
set_option maxRecDepth 20000 in
theorem ggX3_at_X3_isStack : GoodIn wsX3_at wsX3_isStack := goodIn_r _ [5, 6, 7, 4, 8] (by decide +kernel) (by decide +kernel)
set_option maxRecDepth 20000 in
theorem gX3_at_X3_isStack : GoodIn wsX3_at (va_wsS RX3 67 yX3_isStack wsX3_isStack) := goodIn_app (goodIn_of _ (by decide +kernel)) ggX3_at_X3_isStack
set_option maxRecDepth 20000 in
theorem ggX3_at_X3_isIn : GoodIn wsX3_at wsX3_isIn := goodIn_r _ [8] (by decide +kernel) (by decide +kernel)
set_option maxRecDepth 20000 in
theorem gX3_at_X3_isIn : GoodIn wsX3_at (va_wsS RX3 39 yX3_isIn wsX3_isIn) := goodIn_app (goodIn_of _ (by decide +kernel)) ggX3_at_X3_isIn
set_option maxRecDepth 20000 in
theorem ggX3_at_X3_stack : GoodIn wsX3_at wsX3_stack := goodIn_r _ [11] (by decide +kernel) (by decide +kernel)
set_option maxRecDepth 20000 in
theorem gX3_at_X3_stack : GoodIn wsX3_at (va_wsS RX3 70 yX3_stack wsX3_stack) := goodIn_app (goodIn_of _ (by decide +kernel)) ggX3_at_X3_stack
set_option maxRecDepth 20000 in
theorem ggX3_at_X3_find : GoodIn wsX3_at wsX3_find := goodIn_r _ [15, 16, 17, 18, 19, 20, 4, 21, 22, 23, 24, 25, 26, 27, 32, 33, 34, 35, 36, 37, 38, 39, 40, 41, 42, 43, 44] (by decide +kernel) (by decide +kernel)
set_option maxRecDepth 20000 in
theorem gX3_at_X3_find : GoodIn wsX3_at (wsV RX3 101 RX3 yX3_find wsX3_find) := goodIn_app (goodIn_of _ (by decide +kernel)) ggX3_at_X3_find
set_option maxRecDepth 20000 in
theorem ggX3_at_X3_fail : GoodIn wsX3_at wsX3_fail := goodIn_r _ [31, 1, 32, 33, 34, 35, 36, 37, 38, 39, 40, 41, 42, 43, 44] (by decide +kernel) (by decide +kernel)
set_option maxRecDepth 20000 in
theorem gX3_at_X3_fail : GoodIn wsX3_at (wsV RX3 51 RX3 yX3_fail wsX3_fail) := goodIn_app (goodIn_of _ (by decide +kernel)) ggX3_at_X3_fail
theorem dX3_at_0 : decode cX3_at 0 = .ok (.aload_n 0, 1) := by decide +kernel
theorem dX3_at_1 : decode cX3_at 1 = .ok (.iconst 0, 1) := by decide +kernel
theorem dX3_at_2 : decode cX3_at 2 = .ok (.putfield 33, 3) := by decide +kernel
theorem dX3_at_5 : decode cX3_at 5 = .ok (.iload_n 1, 1) := by decide +kernel
theorem dX3_at_6 : decode cX3_at 6 = .ok (.iload_n 2, 1) := by decide +kernel
theorem dX3_at_7 : decode cX3_at 7 = .ok (.invokestatic 67, 3) := by decide +kernel
theorem dX3_at_10 : decode cX3_at 10 = .ok (.ifCond .eq 25, 3) := by decide +kernel
theorem dX3_at_13 : decode cX3_at 13 = .ok (.iload_n 3, 1) := by decide +kernel
theorem dX3_at_14 : decode cX3_at 14 = .ok (.iconst 0, 1) := by decide +kernel
theorem dX3_at_15 : decode cX3_at 15 = .ok (.iconst 3, 1) := by decide +kernel
theorem dX3_at_16 : decode cX3_at 16 = .ok (.invokestatic 39, 3) := by decide +kernel
theorem dX3_at_19 : decode cX3_at 19 = .ok (.ifCond .eq 16, 3) := by decide +kernel
theorem dX3_at_22 : decode cX3_at 22 = .ok (.aload_n 0, 1) := by decide +kernel
theorem dX3_at_23 : decode cX3_at 23 = .ok (.iload_n 1, 1) := by decide +kernel
theorem dX3_at_24 : decode cX3_at 24 = .ok (.iload_n 2, 1) := by decide +kernel
theorem dX3_at_25 : decode cX3_at 25 = .ok (.invokestatic 70, 3) := by decide +kernel
theorem dX3_at_28 : decode cX3_at 28 = .ok (.iload_n 3, 1) := by decide +kernel
theorem dX3_at_29 : decode cX3_at 29 = .ok (.invokevirtual 101, 3) := by decide +kernel
theorem dX3_at_32 : decode cX3_at 32 = .ok (.goto 8, 3) := by decide +kernel
theorem dX3_at_35 : decode cX3_at 35 = .ok (.aload_n 0, 1) := by decide +kernel
theorem dX3_at_36 : decode cX3_at 36 = .ok (.iconst 1, 1) := by decide +kernel
theorem dX3_at_37 : decode cX3_at 37 = .ok (.invokevirtual 51, 3) := by decide +kernel
theorem dX3_at_40 : decode cX3_at 40 = .ok (.ireturn, 1) := by decide +kernel
set_option maxRecDepth 20000 in
theorem ggX3_place_X3_state : GoodIn wsX3_place wsX3_state := goodIn_r _ [7, 8, 9, 10, 11, 12, 13, 14, 15, 16, 17, 18, 19, 20, 21] (by decide +kernel) (by decide +kernel)
set_option maxRecDepth 20000 in
theorem gX3_place_X3_state : GoodIn wsX3_place (wsV RX3 43 RX3 yX3_state wsX3_state) := goodIn_app (goodIn_of _ (by decide +kernel)) ggX3_place_X3_state
theorem dX3_place_0 : decode cX3_place 0 = .ok (.aload_n 0, 1) := by decide +kernel
theorem dX3_place_1 : decode cX3_place 1 = .ok (.iload_n 1, 1) := by decide +kernel
theorem dX3_place_2 : decode cX3_place 2 = .ok (.invokevirtual 43, 3) := by decide +kernel
theorem dX3_place_5 : decode cX3_place 5 = .ok (.iconst 1, 1) := by decide +kernel
theorem dX3_place_6 : decode cX3_place 6 = .ok (.if_icmp .ne 36, 3) := by decide +kernel
theorem dX3_place_9 : decode cX3_place 9 = .ok (.bipush 100, 2) := by decide +kernel
theorem dX3_place_11 : decode cX3_place 11 = .ok (.aload_n 0, 1) := by decide +kernel
theorem dX3_place_12 : decode cX3_place 12 = .ok (.getfield 13, 3) := by decide +kernel
theorem dX3_place_15 : decode cX3_place 15 = .ok (.iload_n 1, 1) := by decide +kernel
theorem dX3_place_16 : decode cX3_place 16 = .ok (.iaload, 1) := by decide +kernel
theorem dX3_place_17 : decode cX3_place 17 = .ok (.iconst 5, 1) := by decide +kernel
theorem dX3_place_18 : decode cX3_place 18 = .ok (.idiv, 1) := by decide +kernel
theorem dX3_place_19 : decode cX3_place 19 = .ok (.imul, 1) := by decide +kernel
theorem dX3_place_20 : decode cX3_place 20 = .ok (.bipush 10, 2) := by decide +kernel
theorem dX3_place_22 : decode cX3_place 22 = .ok (.aload_n 0, 1) := by decide +kernel
theorem dX3_place_23 : decode cX3_place 23 = .ok (.getfield 13, 3) := by decide +kernel
theorem dX3_place_26 : decode cX3_place 26 = .ok (.iload_n 1, 1) := by decide +kernel
theorem dX3_place_27 : decode cX3_place 27 = .ok (.iaload, 1) := by decide +kernel
theorem dX3_place_28 : decode cX3_place 28 = .ok (.iconst 5, 1) := by decide +kernel
theorem dX3_place_29 : decode cX3_place 29 = .ok (.irem, 1) := by decide +kernel
theorem dX3_place_30 : decode cX3_place 30 = .ok (.imul, 1) := by decide +kernel
theorem dX3_place_31 : decode cX3_place 31 = .ok (.iadd, 1) := by decide +kernel
theorem dX3_place_32 : decode cX3_place 32 = .ok (.aload_n 0, 1) := by decide +kernel
theorem dX3_place_33 : decode cX3_place 33 = .ok (.getfield 16, 3) := by decide +kernel
theorem dX3_place_36 : decode cX3_place 36 = .ok (.iload_n 1, 1) := by decide +kernel
theorem dX3_place_37 : decode cX3_place 37 = .ok (.iaload, 1) := by decide +kernel
theorem dX3_place_38 : decode cX3_place 38 = .ok (.iadd, 1) := by decide +kernel
theorem dX3_place_39 : decode cX3_place 39 = .ok (.goto 4, 3) := by decide +kernel
theorem dX3_place_42 : decode cX3_place 42 = .ok (.iconst (-1), 1) := by decide +kernel
theorem dX3_place_43 : decode cX3_place 43 = .ok (.ireturn, 1) := by decide +kernel
set_option maxRecDepth 20000 in
theorem ggX3_where_X3_isContainer : GoodIn wsX3_where wsX3_isContainer := goodIn_r _ [6, 7, 8, 9, 5, 10, 26, 27, 28, 29, 30, 31, 32, 33, 34, 35, 36, 37, 38] (by decide +kernel) (by decide +kernel)
set_option maxRecDepth 20000 in
theorem gX3_where_X3_isContainer : GoodIn wsX3_where (wsV RX3 63 RX3 yX3_isContainer wsX3_isContainer) := goodIn_app (goodIn_of _ (by decide +kernel)) ggX3_where_X3_isContainer
set_option maxRecDepth 20000 in
theorem ggX3_where_X3_place : GoodIn wsX3_where wsX3_place := goodIn_r _ [14, 15, 16, 17, 18, 19, 5, 20, 21, 26, 27, 28, 29, 30, 31, 32, 33, 34, 35, 36, 37, 38] (by decide +kernel) (by decide +kernel)
set_option maxRecDepth 20000 in
theorem gX3_where_X3_place : GoodIn wsX3_where (wsV RX3 152 RX3 yX3_place wsX3_place) := goodIn_app (goodIn_of _ (by decide +kernel)) ggX3_where_X3_place
set_option maxRecDepth 20000 in
theorem ggX3_where_X3_fail : GoodIn wsX3_where wsX3_fail := goodIn_r _ [25, 1, 26, 27, 28, 29, 30, 31, 32, 33, 34, 35, 36, 37, 38] (by decide +kernel) (by decide +kernel)
set_option maxRecDepth 20000 in
theorem gX3_where_X3_fail : GoodIn wsX3_where (wsV RX3 51 RX3 yX3_fail wsX3_fail) := goodIn_app (goodIn_of _ (by decide +kernel)) ggX3_where_X3_fail
theorem dX3_where_0 : decode cX3_where 0 = .ok (.aload_n 0, 1) := by decide +kernel
theorem dX3_where_1 : decode cX3_where 1 = .ok (.iconst 0, 1) := by decide +kernel
theorem dX3_where_2 : decode cX3_where 2 = .ok (.putfield 33, 3) := by decide +kernel
theorem dX3_where_5 : decode cX3_where 5 = .ok (.aload_n 0, 1) := by decide +kernel
theorem dX3_where_6 : decode cX3_where 6 = .ok (.iload_n 1, 1) := by decide +kernel
theorem dX3_where_7 : decode cX3_where 7 = .ok (.invokevirtual 63, 3) := by decide +kernel
theorem dX3_where_10 : decode cX3_where 10 = .ok (.ifCond .eq 11, 3) := by decide +kernel
theorem dX3_where_13 : decode cX3_where 13 = .ok (.aload_n 0, 1) := by decide +kernel
theorem dX3_where_14 : decode cX3_where 14 = .ok (.iload_n 1, 1) := by decide +kernel
theorem dX3_where_15 : decode cX3_where 15 = .ok (.invokevirtual 152, 3) := by decide +kernel
theorem dX3_where_18 : decode cX3_where 18 = .ok (.goto 8, 3) := by decide +kernel
theorem dX3_where_21 : decode cX3_where 21 = .ok (.aload_n 0, 1) := by decide +kernel
theorem dX3_where_22 : decode cX3_where 22 = .ok (.iconst 1, 1) := by decide +kernel
theorem dX3_where_23 : decode cX3_where 23 = .ok (.invokevirtual 51, 3) := by decide +kernel
theorem dX3_where_26 : decode cX3_where 26 = .ok (.ireturn, 1) := by decide +kernel
set_option maxRecDepth 20000 in
theorem ggX3_moment_X3_momentOf : GoodIn wsX3_moment wsX3_momentOf := goodIn_r _ [6, 7, 8, 9, 10, 11, 5, 12, 13, 14, 15, 16, 17, 18, 19, 20, 21, 22, 23, 24, 25, 26, 27, 28, 29, 30, 31, 32, 33] (by decide +kernel) (by decide +kernel)
set_option maxRecDepth 20000 in
theorem gX3_moment_X3_momentOf : GoodIn wsX3_moment (wsV RX3 114 RX3 yX3_momentOf wsX3_momentOf) := goodIn_app (goodIn_of _ (by decide +kernel)) ggX3_moment_X3_momentOf
theorem dX3_moment_0 : decode cX3_moment 0 = .ok (.aload_n 0, 1) := by decide +kernel
theorem dX3_moment_1 : decode cX3_moment 1 = .ok (.iconst 0, 1) := by decide +kernel
theorem dX3_moment_2 : decode cX3_moment 2 = .ok (.putfield 33, 3) := by decide +kernel
theorem dX3_moment_5 : decode cX3_moment 5 = .ok (.aload_n 0, 1) := by decide +kernel
theorem dX3_moment_6 : decode cX3_moment 6 = .ok (.iload_n 1, 1) := by decide +kernel
theorem dX3_moment_7 : decode cX3_moment 7 = .ok (.invokevirtual 114, 3) := by decide +kernel
theorem dX3_moment_10 : decode cX3_moment 10 = .ok (.ireturn, 1) := by decide +kernel
set_option maxRecDepth 20000 in
theorem ggX3_height_X3_weigh : GoodIn wsX3_height wsX3_weigh := goodIn_r _ [8, 3, 2, 9, 10, 11, 12, 13, 7, 14, 15, 16, 17, 18, 19, 20, 21, 22, 23, 24, 25, 26, 27, 28, 29, 30, 31, 32] (by decide +kernel) (by decide +kernel)
set_option maxRecDepth 20000 in
theorem gX3_height_X3_weigh : GoodIn wsX3_height (wsV RX3 134 RX3 yX3_weigh wsX3_weigh) := goodIn_app (goodIn_of _ (by decide +kernel)) ggX3_height_X3_weigh
theorem dX3_height_0 : decode cX3_height 0 = .ok (.aload_n 0, 1) := by decide +kernel
theorem dX3_height_1 : decode cX3_height 1 = .ok (.iconst 0, 1) := by decide +kernel
theorem dX3_height_2 : decode cX3_height 2 = .ok (.putfield 33, 3) := by decide +kernel
theorem dX3_height_5 : decode cX3_height 5 = .ok (.aload_n 0, 1) := by decide +kernel
theorem dX3_height_6 : decode cX3_height 6 = .ok (.invokevirtual 134, 3) := by decide +kernel
theorem dX3_height_9 : decode cX3_height 9 = .ok (.aload_n 0, 1) := by decide +kernel
theorem dX3_height_10 : decode cX3_height 10 = .ok (.getfield 131, 3) := by decide +kernel
theorem dX3_height_13 : decode cX3_height 13 = .ok (.ifCond .ne 7, 3) := by decide +kernel
theorem dX3_height_16 : decode cX3_height 16 = .ok (.dconst 0, 1) := by decide +kernel
theorem dX3_height_17 : decode cX3_height 17 = .ok (.goto 14, 3) := by decide +kernel
theorem dX3_height_20 : decode cX3_height 20 = .ok (.aload_n 0, 1) := by decide +kernel
theorem dX3_height_21 : decode cX3_height 21 = .ok (.getfield 128, 3) := by decide +kernel
theorem dX3_height_24 : decode cX3_height 24 = .ok (.i2d, 1) := by decide +kernel
theorem dX3_height_25 : decode cX3_height 25 = .ok (.aload_n 0, 1) := by decide +kernel
theorem dX3_height_26 : decode cX3_height 26 = .ok (.getfield 131, 3) := by decide +kernel
theorem dX3_height_29 : decode cX3_height 29 = .ok (.i2d, 1) := by decide +kernel
theorem dX3_height_30 : decode cX3_height 30 = .ok (.ddiv, 1) := by decide +kernel
theorem dX3_height_31 : decode cX3_height 31 = .ok (.dreturn, 1) := by decide +kernel
set_option maxRecDepth 20000 in
theorem ggX3_isSteady_X3_steady : GoodIn wsX3_isSteady wsX3_steady := goodIn_r _ [6, 7, 8, 9, 10, 11, 12, 13, 14, 15, 16, 17, 5, 18, 19, 20, 21, 22, 23, 24, 25, 26, 27, 28, 29, 30, 31, 32, 33, 34, 35, 36, 37, 38, 39, 40, 41, 42, 43, 44, 45, 46, 47, 48, 49, 50] (by decide +kernel) (by decide +kernel)
set_option maxRecDepth 20000 in
theorem gX3_isSteady_X3_steady : GoodIn wsX3_isSteady (wsV RX3 143 RX3 yX3_steady wsX3_steady) := goodIn_app (goodIn_of _ (by decide +kernel)) ggX3_isSteady_X3_steady
theorem dX3_isSteady_0 : decode cX3_isSteady 0 = .ok (.aload_n 0, 1) := by decide +kernel
theorem dX3_isSteady_1 : decode cX3_isSteady 1 = .ok (.iconst 0, 1) := by decide +kernel
theorem dX3_isSteady_2 : decode cX3_isSteady 2 = .ok (.putfield 33, 3) := by decide +kernel
theorem dX3_isSteady_5 : decode cX3_isSteady 5 = .ok (.aload_n 0, 1) := by decide +kernel
theorem dX3_isSteady_6 : decode cX3_isSteady 6 = .ok (.invokevirtual 143, 3) := by decide +kernel
theorem dX3_isSteady_9 : decode cX3_isSteady 9 = .ok (.ireturn, 1) := by decide +kernel
set_option maxRecDepth 20000 in
theorem ggX3_count_X3_state : GoodIn wsX3_count wsX3_state := goodIn_r _ [9, 3, 10, 11, 12, 13, 14, 15, 16, 17, 18, 19, 20, 21, 22] (by decide +kernel) (by decide +kernel)
set_option maxRecDepth 20000 in
theorem gX3_count_X3_state : GoodIn wsX3_count (wsV RX3 43 RX3 yX3_state wsX3_state) := goodIn_app (goodIn_of _ (by decide +kernel)) ggX3_count_X3_state
theorem dX3_count_0 : decode cX3_count 0 = .ok (.aload_n 0, 1) := by decide +kernel
theorem dX3_count_1 : decode cX3_count 1 = .ok (.iconst 0, 1) := by decide +kernel
theorem dX3_count_2 : decode cX3_count 2 = .ok (.putfield 33, 3) := by decide +kernel
theorem dX3_count_5 : decode cX3_count 5 = .ok (.iconst 0, 1) := by decide +kernel
theorem dX3_count_6 : decode cX3_count 6 = .ok (.istore_n 2, 1) := by decide +kernel
theorem dX3_count_7 : decode cX3_count 7 = .ok (.iconst 0, 1) := by decide +kernel
theorem dX3_count_8 : decode cX3_count 8 = .ok (.istore_n 3, 1) := by decide +kernel
theorem dX3_count_9 : decode cX3_count 9 = .ok (.iload_n 3, 1) := by decide +kernel
theorem dX3_count_10 : decode cX3_count 10 = .ok (.aload_n 0, 1) := by decide +kernel
theorem dX3_count_11 : decode cX3_count 11 = .ok (.getfield 36, 3) := by decide +kernel
theorem dX3_count_14 : decode cX3_count 14 = .ok (.if_icmp .ge 63, 3) := by decide +kernel
theorem dX3_count_17 : decode cX3_count 17 = .ok (.iload_n 2, 1) := by decide +kernel
theorem dX3_count_18 : decode cX3_count 18 = .ok (.iload_n 1, 1) := by decide +kernel
theorem dX3_count_19 : decode cX3_count 19 = .ok (.ifCond .eq 36, 3) := by decide +kernel
theorem dX3_count_22 : decode cX3_count 22 = .ok (.aload_n 0, 1) := by decide +kernel
theorem dX3_count_23 : decode cX3_count 23 = .ok (.iload_n 3, 1) := by decide +kernel
theorem dX3_count_24 : decode cX3_count 24 = .ok (.invokevirtual 43, 3) := by decide +kernel
theorem dX3_count_27 : decode cX3_count 27 = .ok (.ifCond .ne 24, 3) := by decide +kernel
theorem dX3_count_30 : decode cX3_count 30 = .ok (.aload_n 0, 1) := by decide +kernel
theorem dX3_count_31 : decode cX3_count 31 = .ok (.getfield 9, 3) := by decide +kernel
theorem dX3_count_34 : decode cX3_count 34 = .ok (.iconst 5, 1) := by decide +kernel
theorem dX3_count_35 : decode cX3_count 35 = .ok (.iload_n 3, 1) := by decide +kernel
theorem dX3_count_36 : decode cX3_count 36 = .ok (.imul, 1) := by decide +kernel
theorem dX3_count_37 : decode cX3_count 37 = .ok (.iconst 1, 1) := by decide +kernel
theorem dX3_count_38 : decode cX3_count 38 = .ok (.iadd, 1) := by decide +kernel
theorem dX3_count_39 : decode cX3_count 39 = .ok (.iaload, 1) := by decide +kernel
theorem dX3_count_40 : decode cX3_count 40 = .ok (.aload_n 0, 1) := by decide +kernel
theorem dX3_count_41 : decode cX3_count 41 = .ok (.getfield 54, 3) := by decide +kernel
theorem dX3_count_44 : decode cX3_count 44 = .ok (.if_icmp .ne 7, 3) := by decide +kernel
theorem dX3_count_47 : decode cX3_count 47 = .ok (.iconst 1, 1) := by decide +kernel
theorem dX3_count_48 : decode cX3_count 48 = .ok (.goto 21, 3) := by decide +kernel
theorem dX3_count_51 : decode cX3_count 51 = .ok (.iconst 0, 1) := by decide +kernel
theorem dX3_count_52 : decode cX3_count 52 = .ok (.goto 17, 3) := by decide +kernel
theorem dX3_count_55 : decode cX3_count 55 = .ok (.aload_n 0, 1) := by decide +kernel
theorem dX3_count_56 : decode cX3_count 56 = .ok (.iload_n 3, 1) := by decide +kernel
theorem dX3_count_57 : decode cX3_count 57 = .ok (.invokevirtual 43, 3) := by decide +kernel
theorem dX3_count_60 : decode cX3_count 60 = .ok (.iconst 1, 1) := by decide +kernel
theorem dX3_count_61 : decode cX3_count 61 = .ok (.if_icmp .ne 7, 3) := by decide +kernel
theorem dX3_count_64 : decode cX3_count 64 = .ok (.iconst 1, 1) := by decide +kernel
theorem dX3_count_65 : decode cX3_count 65 = .ok (.goto 4, 3) := by decide +kernel
theorem dX3_count_68 : decode cX3_count 68 = .ok (.iconst 0, 1) := by decide +kernel
theorem dX3_count_69 : decode cX3_count 69 = .ok (.iadd, 1) := by decide +kernel
theorem dX3_count_70 : decode cX3_count 70 = .ok (.istore_n 2, 1) := by decide +kernel
theorem dX3_count_71 : decode cX3_count 71 = .ok (.iinc 3 1, 3) := by decide +kernel
theorem dX3_count_74 : decode cX3_count 74 = .ok (.goto (-65), 3) := by decide +kernel
theorem dX3_count_77 : decode cX3_count 77 = .ok (.iload_n 2, 1) := by decide +kernel
theorem dX3_count_78 : decode cX3_count 78 = .ok (.ireturn, 1) := by decide +kernel
set_option maxRecDepth 20000 in
theorem ggX3_weight_X3_isIn : GoodIn wsX3_weight wsX3_isIn := goodIn_r _ [5] (by decide +kernel) (by decide +kernel)
set_option maxRecDepth 20000 in
theorem gX3_weight_X3_isIn : GoodIn wsX3_weight (va_wsS RX3 39 yX3_isIn wsX3_isIn) := goodIn_app (goodIn_of _ (by decide +kernel)) ggX3_weight_X3_isIn
set_option maxRecDepth 20000 in
theorem ggX3_weight_X3_fail : GoodIn wsX3_weight wsX3_fail := goodIn_r _ [9, 1, 32, 33, 34, 35, 36, 37, 38, 39, 40, 41, 42, 43, 44] (by decide +kernel) (by decide +kernel)
set_option maxRecDepth 20000 in
theorem gX3_weight_X3_fail : GoodIn wsX3_weight (wsV RX3 51 RX3 yX3_fail wsX3_fail) := goodIn_app (goodIn_of _ (by decide +kernel)) ggX3_weight_X3_fail
set_option maxRecDepth 20000 in
theorem ggX3_weight_X3_stack : GoodIn wsX3_weight wsX3_stack := goodIn_r _ [12] (by decide +kernel) (by decide +kernel)
set_option maxRecDepth 20000 in
theorem gX3_weight_X3_stack : GoodIn wsX3_weight (va_wsS RX3 70 yX3_stack wsX3_stack) := goodIn_app (goodIn_of _ (by decide +kernel)) ggX3_weight_X3_stack
set_option maxRecDepth 20000 in
theorem ggX3_weight_X3_weightOf : GoodIn wsX3_weight wsX3_weightOf := goodIn_r _ [16, 17, 18, 19, 20, 4, 21, 22, 23, 24, 25, 26, 27, 28, 29, 30, 31, 32, 33, 34, 35, 36, 37, 38, 39, 40, 41, 42, 43, 44] (by decide +kernel) (by decide +kernel)
set_option maxRecDepth 20000 in
theorem gX3_weight_X3_weightOf : GoodIn wsX3_weight (wsV RX3 88 RX3 yX3_weightOf wsX3_weightOf) := goodIn_app (goodIn_of _ (by decide +kernel)) ggX3_weight_X3_weightOf
theorem dX3_weight_0 : decode cX3_weight 0 = .ok (.aload_n 0, 1) := by decide +kernel
theorem dX3_weight_1 : decode cX3_weight 1 = .ok (.iconst 0, 1) := by decide +kernel
theorem dX3_weight_2 : decode cX3_weight 2 = .ok (.putfield 33, 3) := by decide +kernel
theorem dX3_weight_5 : decode cX3_weight 5 = .ok (.iload_n 1, 1) := by decide +kernel
theorem dX3_weight_6 : decode cX3_weight 6 = .ok (.iconst 0, 1) := by decide +kernel
theorem dX3_weight_7 : decode cX3_weight 7 = .ok (.iconst 5, 1) := by decide +kernel
theorem dX3_weight_8 : decode cX3_weight 8 = .ok (.invokestatic 39, 3) := by decide +kernel
theorem dX3_weight_11 : decode cX3_weight 11 = .ok (.ifCond .ne 9, 3) := by decide +kernel
theorem dX3_weight_14 : decode cX3_weight 14 = .ok (.aload_n 0, 1) := by decide +kernel
theorem dX3_weight_15 : decode cX3_weight 15 = .ok (.iconst 1, 1) := by decide +kernel
theorem dX3_weight_16 : decode cX3_weight 16 = .ok (.invokevirtual 51, 3) := by decide +kernel
theorem dX3_weight_19 : decode cX3_weight 19 = .ok (.ireturn, 1) := by decide +kernel
theorem dX3_weight_20 : decode cX3_weight 20 = .ok (.iconst 0, 1) := by decide +kernel
theorem dX3_weight_21 : decode cX3_weight 21 = .ok (.istore_n 2, 1) := by decide +kernel
theorem dX3_weight_22 : decode cX3_weight 22 = .ok (.iconst 0, 1) := by decide +kernel
theorem dX3_weight_23 : decode cX3_weight 23 = .ok (.istore_n 3, 1) := by decide +kernel
theorem dX3_weight_24 : decode cX3_weight 24 = .ok (.iload_n 3, 1) := by decide +kernel
theorem dX3_weight_25 : decode cX3_weight 25 = .ok (.iconst 5, 1) := by decide +kernel
theorem dX3_weight_26 : decode cX3_weight 26 = .ok (.if_icmp .ge 21, 3) := by decide +kernel
theorem dX3_weight_29 : decode cX3_weight 29 = .ok (.iload_n 2, 1) := by decide +kernel
theorem dX3_weight_30 : decode cX3_weight 30 = .ok (.aload_n 0, 1) := by decide +kernel
theorem dX3_weight_31 : decode cX3_weight 31 = .ok (.iload_n 1, 1) := by decide +kernel
theorem dX3_weight_32 : decode cX3_weight 32 = .ok (.iload_n 3, 1) := by decide +kernel
theorem dX3_weight_33 : decode cX3_weight 33 = .ok (.invokestatic 70, 3) := by decide +kernel
theorem dX3_weight_36 : decode cX3_weight 36 = .ok (.invokevirtual 88, 3) := by decide +kernel
theorem dX3_weight_39 : decode cX3_weight 39 = .ok (.iadd, 1) := by decide +kernel
theorem dX3_weight_40 : decode cX3_weight 40 = .ok (.istore_n 2, 1) := by decide +kernel
theorem dX3_weight_41 : decode cX3_weight 41 = .ok (.iinc 3 1, 3) := by decide +kernel
theorem dX3_weight_44 : decode cX3_weight 44 = .ok (.goto (-20), 3) := by decide +kernel
theorem dX3_weight_47 : decode cX3_weight 47 = .ok (.iload_n 2, 1) := by decide +kernel
theorem dX3_weight_48 : decode cX3_weight 48 = .ok (.ireturn, 1) := by decide +kernel
set_option maxRecDepth 20000 in
theorem ggX3_isBlocked_X3_isOn : GoodIn wsX3_isBlocked wsX3_isOn := goodIn_r _ [8, 2, 9, 10, 11, 7, 12, 13, 18, 19, 20, 21, 22, 23, 24, 25, 26, 27, 28, 29, 30] (by decide +kernel) (by decide +kernel)
set_option maxRecDepth 20000 in
theorem gX3_isBlocked_X3_isOn : GoodIn wsX3_isBlocked (wsV RX3 47 RX3 yX3_isOn wsX3_isOn) := goodIn_app (goodIn_of _ (by decide +kernel)) ggX3_isBlocked_X3_isOn
set_option maxRecDepth 20000 in
theorem ggX3_isBlocked_X3_to : GoodIn wsX3_isBlocked wsX3_to := goodIn_r _ [17, 13, 18, 19, 20, 21, 22, 23, 24, 25, 26, 27, 28, 29, 30] (by decide +kernel) (by decide +kernel)
set_option maxRecDepth 20000 in
theorem gX3_isBlocked_X3_to : GoodIn wsX3_isBlocked (wsV RX3 108 RX3 yX3_to wsX3_to) := goodIn_app (goodIn_of _ (by decide +kernel)) ggX3_isBlocked_X3_to
theorem dX3_isBlocked_0 : decode cX3_isBlocked 0 = .ok (.iconst 0, 1) := by decide +kernel
theorem dX3_isBlocked_1 : decode cX3_isBlocked 1 = .ok (.istore_n 2, 1) := by decide +kernel
theorem dX3_isBlocked_2 : decode cX3_isBlocked 2 = .ok (.iconst 0, 1) := by decide +kernel
theorem dX3_isBlocked_3 : decode cX3_isBlocked 3 = .ok (.istore_n 3, 1) := by decide +kernel
theorem dX3_isBlocked_4 : decode cX3_isBlocked 4 = .ok (.iload_n 3, 1) := by decide +kernel
theorem dX3_isBlocked_5 : decode cX3_isBlocked 5 = .ok (.aload_n 0, 1) := by decide +kernel
theorem dX3_isBlocked_6 : decode cX3_isBlocked 6 = .ok (.getfield 36, 3) := by decide +kernel
theorem dX3_isBlocked_9 : decode cX3_isBlocked 9 = .ok (.if_icmp .ge 61, 3) := by decide +kernel
theorem dX3_isBlocked_12 : decode cX3_isBlocked 12 = .ok (.iload_n 2, 1) := by decide +kernel
theorem dX3_isBlocked_13 : decode cX3_isBlocked 13 = .ok (.ifCond .ne 45, 3) := by decide +kernel
theorem dX3_isBlocked_16 : decode cX3_isBlocked 16 = .ok (.aload_n 0, 1) := by decide +kernel
theorem dX3_isBlocked_17 : decode cX3_isBlocked 17 = .ok (.iload_n 3, 1) := by decide +kernel
theorem dX3_isBlocked_18 : decode cX3_isBlocked 18 = .ok (.aload_n 0, 1) := by decide +kernel
theorem dX3_isBlocked_19 : decode cX3_isBlocked 19 = .ok (.getfield 13, 3) := by decide +kernel
theorem dX3_isBlocked_22 : decode cX3_isBlocked 22 = .ok (.iload_n 1, 1) := by decide +kernel
theorem dX3_isBlocked_23 : decode cX3_isBlocked 23 = .ok (.iaload, 1) := by decide +kernel
theorem dX3_isBlocked_24 : decode cX3_isBlocked 24 = .ok (.invokevirtual 47, 3) := by decide +kernel
theorem dX3_isBlocked_27 : decode cX3_isBlocked 27 = .ok (.ifCond .eq 35, 3) := by decide +kernel
theorem dX3_isBlocked_30 : decode cX3_isBlocked 30 = .ok (.aload_n 0, 1) := by decide +kernel
theorem dX3_isBlocked_31 : decode cX3_isBlocked 31 = .ok (.getfield 16, 3) := by decide +kernel
theorem dX3_isBlocked_34 : decode cX3_isBlocked 34 = .ok (.iload_n 3, 1) := by decide +kernel
theorem dX3_isBlocked_35 : decode cX3_isBlocked 35 = .ok (.iaload, 1) := by decide +kernel
theorem dX3_isBlocked_36 : decode cX3_isBlocked 36 = .ok (.aload_n 0, 1) := by decide +kernel
theorem dX3_isBlocked_37 : decode cX3_isBlocked 37 = .ok (.getfield 16, 3) := by decide +kernel
theorem dX3_isBlocked_40 : decode cX3_isBlocked 40 = .ok (.iload_n 1, 1) := by decide +kernel
theorem dX3_isBlocked_41 : decode cX3_isBlocked 41 = .ok (.iaload, 1) := by decide +kernel
theorem dX3_isBlocked_42 : decode cX3_isBlocked 42 = .ok (.if_icmp .le 20, 3) := by decide +kernel
theorem dX3_isBlocked_45 : decode cX3_isBlocked 45 = .ok (.aload_n 0, 1) := by decide +kernel
theorem dX3_isBlocked_46 : decode cX3_isBlocked 46 = .ok (.iload_n 3, 1) := by decide +kernel
theorem dX3_isBlocked_47 : decode cX3_isBlocked 47 = .ok (.invokevirtual 108, 3) := by decide +kernel
theorem dX3_isBlocked_50 : decode cX3_isBlocked 50 = .ok (.aload_n 0, 1) := by decide +kernel
theorem dX3_isBlocked_51 : decode cX3_isBlocked 51 = .ok (.iload_n 1, 1) := by decide +kernel
theorem dX3_isBlocked_52 : decode cX3_isBlocked 52 = .ok (.invokevirtual 108, 3) := by decide +kernel
theorem dX3_isBlocked_55 : decode cX3_isBlocked 55 = .ok (.if_icmp .le 7, 3) := by decide +kernel
theorem dX3_isBlocked_58 : decode cX3_isBlocked 58 = .ok (.iconst 1, 1) := by decide +kernel
theorem dX3_isBlocked_59 : decode cX3_isBlocked 59 = .ok (.goto 4, 3) := by decide +kernel
theorem dX3_isBlocked_62 : decode cX3_isBlocked 62 = .ok (.iconst 0, 1) := by decide +kernel
theorem dX3_isBlocked_63 : decode cX3_isBlocked 63 = .ok (.istore_n 2, 1) := by decide +kernel
theorem dX3_isBlocked_64 : decode cX3_isBlocked 64 = .ok (.iinc 3 1, 3) := by decide +kernel
theorem dX3_isBlocked_67 : decode cX3_isBlocked 67 = .ok (.goto (-63), 3) := by decide +kernel
theorem dX3_isBlocked_70 : decode cX3_isBlocked 70 = .ok (.iload_n 2, 1) := by decide +kernel
theorem dX3_isBlocked_71 : decode cX3_isBlocked 71 = .ok (.ireturn, 1) := by decide +kernel
set_option maxRecDepth 20000 in
theorem ggX3_blocked_X3_state : GoodIn wsX3_blocked wsX3_state := goodIn_r _ [7, 8, 23, 24, 25, 26, 27, 28, 29, 30, 31, 32, 33, 34, 35] (by decide +kernel) (by decide +kernel)
set_option maxRecDepth 20000 in
theorem gX3_blocked_X3_state : GoodIn wsX3_blocked (wsV RX3 43 RX3 yX3_state wsX3_state) := goodIn_app (goodIn_of _ (by decide +kernel)) ggX3_blocked_X3_state
set_option maxRecDepth 20000 in
theorem ggX3_blocked_X3_isBlocked : GoodIn wsX3_blocked wsX3_isBlocked := goodIn_r _ [12, 2, 13, 14, 15, 16, 17, 6, 18, 3, 4, 5, 7, 8, 19, 20, 21, 22, 23, 24, 25, 26, 27, 28, 29, 30, 31, 32, 33, 34, 35] (by decide +kernel) (by decide +kernel)
set_option maxRecDepth 20000 in
theorem gX3_blocked_X3_isBlocked : GoodIn wsX3_blocked (wsV RX3 155 RX3 yX3_isBlocked wsX3_isBlocked) := goodIn_app (goodIn_of _ (by decide +kernel)) ggX3_blocked_X3_isBlocked
theorem dX3_blocked_0 : decode cX3_blocked 0 = .ok (.aload_n 0, 1) := by decide +kernel
theorem dX3_blocked_1 : decode cX3_blocked 1 = .ok (.iconst 0, 1) := by decide +kernel
theorem dX3_blocked_2 : decode cX3_blocked 2 = .ok (.putfield 33, 3) := by decide +kernel
theorem dX3_blocked_5 : decode cX3_blocked 5 = .ok (.iconst 0, 1) := by decide +kernel
theorem dX3_blocked_6 : decode cX3_blocked 6 = .ok (.istore_n 1, 1) := by decide +kernel
theorem dX3_blocked_7 : decode cX3_blocked 7 = .ok (.iconst 0, 1) := by decide +kernel
theorem dX3_blocked_8 : decode cX3_blocked 8 = .ok (.istore_n 2, 1) := by decide +kernel
theorem dX3_blocked_9 : decode cX3_blocked 9 = .ok (.iload_n 2, 1) := by decide +kernel
theorem dX3_blocked_10 : decode cX3_blocked 10 = .ok (.aload_n 0, 1) := by decide +kernel
theorem dX3_blocked_11 : decode cX3_blocked 11 = .ok (.getfield 36, 3) := by decide +kernel
theorem dX3_blocked_14 : decode cX3_blocked 14 = .ok (.if_icmp .ge 34, 3) := by decide +kernel
theorem dX3_blocked_17 : decode cX3_blocked 17 = .ok (.iload_n 1, 1) := by decide +kernel
theorem dX3_blocked_18 : decode cX3_blocked 18 = .ok (.aload_n 0, 1) := by decide +kernel
theorem dX3_blocked_19 : decode cX3_blocked 19 = .ok (.iload_n 2, 1) := by decide +kernel
theorem dX3_blocked_20 : decode cX3_blocked 20 = .ok (.invokevirtual 43, 3) := by decide +kernel
theorem dX3_blocked_23 : decode cX3_blocked 23 = .ok (.iconst 1, 1) := by decide +kernel
theorem dX3_blocked_24 : decode cX3_blocked 24 = .ok (.if_icmp .ne 15, 3) := by decide +kernel
theorem dX3_blocked_27 : decode cX3_blocked 27 = .ok (.aload_n 0, 1) := by decide +kernel
theorem dX3_blocked_28 : decode cX3_blocked 28 = .ok (.iload_n 2, 1) := by decide +kernel
theorem dX3_blocked_29 : decode cX3_blocked 29 = .ok (.invokevirtual 155, 3) := by decide +kernel
theorem dX3_blocked_32 : decode cX3_blocked 32 = .ok (.ifCond .eq 7, 3) := by decide +kernel
theorem dX3_blocked_35 : decode cX3_blocked 35 = .ok (.iconst 1, 1) := by decide +kernel
theorem dX3_blocked_36 : decode cX3_blocked 36 = .ok (.goto 4, 3) := by decide +kernel
theorem dX3_blocked_39 : decode cX3_blocked 39 = .ok (.iconst 0, 1) := by decide +kernel
theorem dX3_blocked_40 : decode cX3_blocked 40 = .ok (.iadd, 1) := by decide +kernel
theorem dX3_blocked_41 : decode cX3_blocked 41 = .ok (.istore_n 1, 1) := by decide +kernel
theorem dX3_blocked_42 : decode cX3_blocked 42 = .ok (.iinc 2 1, 3) := by decide +kernel
theorem dX3_blocked_45 : decode cX3_blocked 45 = .ok (.goto (-36), 3) := by decide +kernel
theorem dX3_blocked_48 : decode cX3_blocked 48 = .ok (.iload_n 1, 1) := by decide +kernel
theorem dX3_blocked_49 : decode cX3_blocked 49 = .ok (.ireturn, 1) := by decide +kernel
set_option maxRecDepth 20000 in
theorem ggX3_lifts_X3_isIn : GoodIn wsX3_lifts wsX3_isIn := goodIn_r _ [5] (by decide +kernel) (by decide +kernel)
set_option maxRecDepth 20000 in
theorem gX3_lifts_X3_isIn : GoodIn wsX3_lifts (va_wsS RX3 39 yX3_isIn wsX3_isIn) := goodIn_app (goodIn_of _ (by decide +kernel)) ggX3_lifts_X3_isIn
set_option maxRecDepth 20000 in
theorem ggX3_lifts_X3_liftsAt : GoodIn wsX3_lifts wsX3_liftsAt := goodIn_r _ [9, 10, 11, 12, 13, 14, 15, 4, 16, 17, 18, 19, 20, 21, 22, 23, 24, 25, 26, 27, 28, 29, 30, 31, 32, 33, 38, 39, 40, 41, 42, 43, 44, 45, 46, 47, 48, 49, 50] (by decide +kernel) (by decide +kernel)
set_option maxRecDepth 20000 in
theorem gX3_lifts_X3_liftsAt : GoodIn wsX3_lifts (wsV RX3 146 RX3 yX3_liftsAt wsX3_liftsAt) := goodIn_app (goodIn_of _ (by decide +kernel)) ggX3_lifts_X3_liftsAt
set_option maxRecDepth 20000 in
theorem ggX3_lifts_X3_fail : GoodIn wsX3_lifts wsX3_fail := goodIn_r _ [37, 1, 38, 39, 40, 41, 42, 43, 44, 45, 46, 47, 48, 49, 50] (by decide +kernel) (by decide +kernel)
set_option maxRecDepth 20000 in
theorem gX3_lifts_X3_fail : GoodIn wsX3_lifts (wsV RX3 51 RX3 yX3_fail wsX3_fail) := goodIn_app (goodIn_of _ (by decide +kernel)) ggX3_lifts_X3_fail
theorem dX3_lifts_0 : decode cX3_lifts 0 = .ok (.aload_n 0, 1) := by decide +kernel
theorem dX3_lifts_1 : decode cX3_lifts 1 = .ok (.iconst 0, 1) := by decide +kernel
theorem dX3_lifts_2 : decode cX3_lifts 2 = .ok (.putfield 33, 3) := by decide +kernel
theorem dX3_lifts_5 : decode cX3_lifts 5 = .ok (.iload_n 1, 1) := by decide +kernel
theorem dX3_lifts_6 : decode cX3_lifts 6 = .ok (.iconst 0, 1) := by decide +kernel
theorem dX3_lifts_7 : decode cX3_lifts 7 = .ok (.iconst 5, 1) := by decide +kernel
theorem dX3_lifts_8 : decode cX3_lifts 8 = .ok (.invokestatic 39, 3) := by decide +kernel
theorem dX3_lifts_11 : decode cX3_lifts 11 = .ok (.ifCond .eq 11, 3) := by decide +kernel
theorem dX3_lifts_14 : decode cX3_lifts 14 = .ok (.aload_n 0, 1) := by decide +kernel
theorem dX3_lifts_15 : decode cX3_lifts 15 = .ok (.iload_n 1, 1) := by decide +kernel
theorem dX3_lifts_16 : decode cX3_lifts 16 = .ok (.invokevirtual 146, 3) := by decide +kernel
theorem dX3_lifts_19 : decode cX3_lifts 19 = .ok (.goto 8, 3) := by decide +kernel
theorem dX3_lifts_22 : decode cX3_lifts 22 = .ok (.aload_n 0, 1) := by decide +kernel
theorem dX3_lifts_23 : decode cX3_lifts 23 = .ok (.iconst 1, 1) := by decide +kernel
theorem dX3_lifts_24 : decode cX3_lifts 24 = .ok (.invokevirtual 51, 3) := by decide +kernel
theorem dX3_lifts_27 : decode cX3_lifts 27 = .ok (.ireturn, 1) := by decide +kernel
set_option maxRecDepth 20000 in
theorem ggX3_freePlugs_X3_high : GoodIn wsX3_freePlugs wsX3_high := goodIn_r _ [11, 12, 13, 14, 15, 10, 16, 17, 18, 19, 20, 21, 22, 23, 24, 25, 26, 27, 28, 29, 30, 31, 32, 33, 34, 35] (by decide +kernel) (by decide +kernel)
set_option maxRecDepth 20000 in
theorem gX3_freePlugs_X3_high : GoodIn wsX3_freePlugs (wsV RX3 85 RX3 yX3_high wsX3_high) := goodIn_app (goodIn_of _ (by decide +kernel)) ggX3_freePlugs_X3_high
theorem dX3_freePlugs_0 : decode cX3_freePlugs 0 = .ok (.aload_n 0, 1) := by decide +kernel
theorem dX3_freePlugs_1 : decode cX3_freePlugs 1 = .ok (.iconst 0, 1) := by decide +kernel
theorem dX3_freePlugs_2 : decode cX3_freePlugs 2 = .ok (.putfield 33, 3) := by decide +kernel
theorem dX3_freePlugs_5 : decode cX3_freePlugs 5 = .ok (.iconst 0, 1) := by decide +kernel
theorem dX3_freePlugs_6 : decode cX3_freePlugs 6 = .ok (.istore_n 1, 1) := by decide +kernel
theorem dX3_freePlugs_7 : decode cX3_freePlugs 7 = .ok (.iconst 0, 1) := by decide +kernel
theorem dX3_freePlugs_8 : decode cX3_freePlugs 8 = .ok (.istore_n 2, 1) := by decide +kernel
theorem dX3_freePlugs_9 : decode cX3_freePlugs 9 = .ok (.iload_n 2, 1) := by decide +kernel
theorem dX3_freePlugs_10 : decode cX3_freePlugs 10 = .ok (.bipush 30, 2) := by decide +kernel
theorem dX3_freePlugs_12 : decode cX3_freePlugs 12 = .ok (.if_icmp .ge 36, 3) := by decide +kernel
theorem dX3_freePlugs_15 : decode cX3_freePlugs 15 = .ok (.iload_n 1, 1) := by decide +kernel
theorem dX3_freePlugs_16 : decode cX3_freePlugs 16 = .ok (.aload_n 0, 1) := by decide +kernel
theorem dX3_freePlugs_17 : decode cX3_freePlugs 17 = .ok (.getfield 19, 3) := by decide +kernel
theorem dX3_freePlugs_20 : decode cX3_freePlugs 20 = .ok (.iload_n 2, 1) := by decide +kernel
theorem dX3_freePlugs_21 : decode cX3_freePlugs 21 = .ok (.baload, 1) := by decide +kernel
theorem dX3_freePlugs_22 : decode cX3_freePlugs 22 = .ok (.ifCond .eq 17, 3) := by decide +kernel
theorem dX3_freePlugs_25 : decode cX3_freePlugs 25 = .ok (.iconst 0, 1) := by decide +kernel
theorem dX3_freePlugs_26 : decode cX3_freePlugs 26 = .ok (.iconst 2, 1) := by decide +kernel
theorem dX3_freePlugs_27 : decode cX3_freePlugs 27 = .ok (.aload_n 0, 1) := by decide +kernel
theorem dX3_freePlugs_28 : decode cX3_freePlugs 28 = .ok (.iload_n 2, 1) := by decide +kernel
theorem dX3_freePlugs_29 : decode cX3_freePlugs 29 = .ok (.invokevirtual 85, 3) := by decide +kernel
theorem dX3_freePlugs_32 : decode cX3_freePlugs 32 = .ok (.isub, 1) := by decide +kernel
theorem dX3_freePlugs_33 : decode cX3_freePlugs 33 = .ok (.invokestatic 158, 3) := by decide +kernel
theorem dX3_freePlugs_36 : decode cX3_freePlugs 36 = .ok (.goto 4, 3) := by decide +kernel
theorem dX3_freePlugs_39 : decode cX3_freePlugs 39 = .ok (.iconst 0, 1) := by decide +kernel
theorem dX3_freePlugs_40 : decode cX3_freePlugs 40 = .ok (.iadd, 1) := by decide +kernel
theorem dX3_freePlugs_41 : decode cX3_freePlugs 41 = .ok (.istore_n 1, 1) := by decide +kernel
theorem dX3_freePlugs_42 : decode cX3_freePlugs 42 = .ok (.iinc 2 1, 3) := by decide +kernel
theorem dX3_freePlugs_45 : decode cX3_freePlugs 45 = .ok (.goto (-36), 3) := by decide +kernel
theorem dX3_freePlugs_48 : decode cX3_freePlugs 48 = .ok (.iload_n 1, 1) := by decide +kernel
theorem dX3_freePlugs_49 : decode cX3_freePlugs 49 = .ok (.ireturn, 1) := by decide +kernel
set_option maxRecDepth 20000 in
theorem ggX3_choices_X3_isContainer : GoodIn wsX3_choices wsX3_isContainer := goodIn_r _ [6, 7, 8, 9, 5, 10, 59, 60, 61, 62, 63, 64, 65, 66, 67, 68, 69, 70, 71] (by decide +kernel) (by decide +kernel)
set_option maxRecDepth 20000 in
theorem gX3_choices_X3_isContainer : GoodIn wsX3_choices (wsV RX3 63 RX3 yX3_isContainer wsX3_isContainer) := goodIn_app (goodIn_of _ (by decide +kernel)) ggX3_choices_X3_isContainer
set_option maxRecDepth 20000 in
theorem ggX3_choices_X3_choicesOf : GoodIn wsX3_choices wsX3_choicesOf := goodIn_r _ [14, 15, 16, 17, 5, 18, 19, 20, 21, 22, 7, 23, 24, 25, 26, 27, 28, 29, 30, 31, 32, 33, 34, 35, 36, 37, 38, 39, 40, 41, 42, 43, 44, 45, 46, 47, 48, 49, 50, 51, 52, 53, 54, 59, 60, 61, 62, 63, 64, 65, 66, 67, 68, 69, 70, 71] (by decide +kernel) (by decide +kernel)
set_option maxRecDepth 20000 in
theorem gX3_choices_X3_choicesOf : GoodIn wsX3_choices (wsV RX3 118 RX3 yX3_choicesOf wsX3_choicesOf) := goodIn_app (goodIn_of _ (by decide +kernel)) ggX3_choices_X3_choicesOf
set_option maxRecDepth 20000 in
theorem ggX3_choices_X3_fail : GoodIn wsX3_choices wsX3_fail := goodIn_r _ [58, 1, 59, 60, 61, 62, 63, 64, 65, 66, 67, 68, 69, 70, 71] (by decide +kernel) (by decide +kernel)
set_option maxRecDepth 20000 in
theorem gX3_choices_X3_fail : GoodIn wsX3_choices (wsV RX3 51 RX3 yX3_fail wsX3_fail) := goodIn_app (goodIn_of _ (by decide +kernel)) ggX3_choices_X3_fail
theorem dX3_choices_0 : decode cX3_choices 0 = .ok (.aload_n 0, 1) := by decide +kernel
theorem dX3_choices_1 : decode cX3_choices 1 = .ok (.iconst 0, 1) := by decide +kernel
theorem dX3_choices_2 : decode cX3_choices 2 = .ok (.putfield 33, 3) := by decide +kernel
theorem dX3_choices_5 : decode cX3_choices 5 = .ok (.aload_n 0, 1) := by decide +kernel
theorem dX3_choices_6 : decode cX3_choices 6 = .ok (.iload_n 1, 1) := by decide +kernel
theorem dX3_choices_7 : decode cX3_choices 7 = .ok (.invokevirtual 63, 3) := by decide +kernel
theorem dX3_choices_10 : decode cX3_choices 10 = .ok (.ifCond .eq 11, 3) := by decide +kernel
theorem dX3_choices_13 : decode cX3_choices 13 = .ok (.aload_n 0, 1) := by decide +kernel
theorem dX3_choices_14 : decode cX3_choices 14 = .ok (.iload_n 1, 1) := by decide +kernel
theorem dX3_choices_15 : decode cX3_choices 15 = .ok (.invokevirtual 118, 3) := by decide +kernel
theorem dX3_choices_18 : decode cX3_choices 18 = .ok (.goto 8, 3) := by decide +kernel
theorem dX3_choices_21 : decode cX3_choices 21 = .ok (.aload_n 0, 1) := by decide +kernel
theorem dX3_choices_22 : decode cX3_choices 22 = .ok (.iconst 1, 1) := by decide +kernel
theorem dX3_choices_23 : decode cX3_choices 23 = .ok (.invokevirtual 51, 3) := by decide +kernel
theorem dX3_choices_26 : decode cX3_choices 26 = .ok (.ireturn, 1) := by decide +kernel
theorem dX3_lifted_0 : decode cX3_lifted 0 = .ok (.aload_n 0, 1) := by decide +kernel
theorem dX3_lifted_1 : decode cX3_lifted 1 = .ok (.iconst 0, 1) := by decide +kernel
theorem dX3_lifted_2 : decode cX3_lifted 2 = .ok (.putfield 33, 3) := by decide +kernel
theorem dX3_lifted_5 : decode cX3_lifted 5 = .ok (.aload_n 0, 1) := by decide +kernel
theorem dX3_lifted_6 : decode cX3_lifted 6 = .ok (.getfield 149, 3) := by decide +kernel
theorem dX3_lifted_9 : decode cX3_lifted 9 = .ok (.ireturn, 1) := by decide +kernel
set_option maxRecDepth 20000 in
theorem ggX3_digest_X3_place : GoodIn wsX3_digest wsX3_place := goodIn_r _ [16, 17, 18, 19, 20, 21, 15, 22, 6, 34, 35, 36, 37, 38, 39, 40, 41, 42, 43, 44, 45, 46] (by decide +kernel) (by decide +kernel)
set_option maxRecDepth 20000 in
theorem gX3_digest_X3_place : GoodIn wsX3_digest (wsV RX3 152 RX3 yX3_place wsX3_place) := goodIn_app (goodIn_of _ (by decide +kernel)) ggX3_digest_X3_place
set_option maxRecDepth 20000 in
theorem ggX3_digest_X3_momentOf : GoodIn wsX3_digest wsX3_momentOf := goodIn_r _ [26, 5, 17, 19, 20, 21, 15, 22, 6, 27, 28, 29, 30, 31, 32, 33, 34, 35, 36, 37, 38, 39, 40, 41, 42, 43, 44, 45, 46] (by decide +kernel) (by decide +kernel)
set_option maxRecDepth 20000 in
theorem gX3_digest_X3_momentOf : GoodIn wsX3_digest (wsV RX3 114 RX3 yX3_momentOf wsX3_momentOf) := goodIn_app (goodIn_of _ (by decide +kernel)) ggX3_digest_X3_momentOf
theorem dX3_digest_0 : decode cX3_digest 0 = .ok (.aload_n 0, 1) := by decide +kernel
theorem dX3_digest_1 : decode cX3_digest 1 = .ok (.iconst 0, 1) := by decide +kernel
theorem dX3_digest_2 : decode cX3_digest 2 = .ok (.putfield 33, 3) := by decide +kernel
theorem dX3_digest_5 : decode cX3_digest 5 = .ok (.ldc2_w 161, 3) := by decide +kernel
theorem dX3_digest_8 : decode cX3_digest 8 = .ok (.aload_n 0, 1) := by decide +kernel
theorem dX3_digest_9 : decode cX3_digest 9 = .ok (.getfield 54, 3) := by decide +kernel
theorem dX3_digest_12 : decode cX3_digest 12 = .ok (.i2l, 1) := by decide +kernel
theorem dX3_digest_13 : decode cX3_digest 13 = .ok (.ladd, 1) := by decide +kernel
theorem dX3_digest_14 : decode cX3_digest 14 = .ok (.ldc2_w 163, 3) := by decide +kernel
theorem dX3_digest_17 : decode cX3_digest 17 = .ok (.lmul, 1) := by decide +kernel
theorem dX3_digest_18 : decode cX3_digest 18 = .ok (.aload_n 0, 1) := by decide +kernel
theorem dX3_digest_19 : decode cX3_digest 19 = .ok (.getfield 36, 3) := by decide +kernel
theorem dX3_digest_22 : decode cX3_digest 22 = .ok (.i2l, 1) := by decide +kernel
theorem dX3_digest_23 : decode cX3_digest 23 = .ok (.ladd, 1) := by decide +kernel
theorem dX3_digest_24 : decode cX3_digest 24 = .ok (.lstore_n 1, 1) := by decide +kernel
theorem dX3_digest_25 : decode cX3_digest 25 = .ok (.iconst 0, 1) := by decide +kernel
theorem dX3_digest_26 : decode cX3_digest 26 = .ok (.istore_n 3, 1) := by decide +kernel
theorem dX3_digest_27 : decode cX3_digest 27 = .ok (.iload_n 3, 1) := by decide +kernel
theorem dX3_digest_28 : decode cX3_digest 28 = .ok (.aload_n 0, 1) := by decide +kernel
theorem dX3_digest_29 : decode cX3_digest 29 = .ok (.getfield 36, 3) := by decide +kernel
theorem dX3_digest_32 : decode cX3_digest 32 = .ok (.if_icmp .ge 56, 3) := by decide +kernel
theorem dX3_digest_35 : decode cX3_digest 35 = .ok (.iconst 0, 1) := by decide +kernel
theorem dX3_digest_36 : decode cX3_digest 36 = .ok (.istore 4, 2) := by decide +kernel
theorem dX3_digest_38 : decode cX3_digest 38 = .ok (.iload 4, 2) := by decide +kernel
theorem dX3_digest_40 : decode cX3_digest 40 = .ok (.iconst 5, 1) := by decide +kernel
theorem dX3_digest_41 : decode cX3_digest 41 = .ok (.if_icmp .ge 28, 3) := by decide +kernel
theorem dX3_digest_44 : decode cX3_digest 44 = .ok (.lload_n 1, 1) := by decide +kernel
theorem dX3_digest_45 : decode cX3_digest 45 = .ok (.ldc2_w 163, 3) := by decide +kernel
theorem dX3_digest_48 : decode cX3_digest 48 = .ok (.lmul, 1) := by decide +kernel
theorem dX3_digest_49 : decode cX3_digest 49 = .ok (.aload_n 0, 1) := by decide +kernel
theorem dX3_digest_50 : decode cX3_digest 50 = .ok (.getfield 9, 3) := by decide +kernel
theorem dX3_digest_53 : decode cX3_digest 53 = .ok (.iconst 5, 1) := by decide +kernel
theorem dX3_digest_54 : decode cX3_digest 54 = .ok (.iload_n 3, 1) := by decide +kernel
theorem dX3_digest_55 : decode cX3_digest 55 = .ok (.imul, 1) := by decide +kernel
theorem dX3_digest_56 : decode cX3_digest 56 = .ok (.iload 4, 2) := by decide +kernel
theorem dX3_digest_58 : decode cX3_digest 58 = .ok (.iadd, 1) := by decide +kernel
theorem dX3_digest_59 : decode cX3_digest 59 = .ok (.iaload, 1) := by decide +kernel
theorem dX3_digest_60 : decode cX3_digest 60 = .ok (.i2l, 1) := by decide +kernel
theorem dX3_digest_61 : decode cX3_digest 61 = .ok (.ladd, 1) := by decide +kernel
theorem dX3_digest_62 : decode cX3_digest 62 = .ok (.lstore_n 1, 1) := by decide +kernel
theorem dX3_digest_63 : decode cX3_digest 63 = .ok (.iinc 4 1, 3) := by decide +kernel
theorem dX3_digest_66 : decode cX3_digest 66 = .ok (.goto (-28), 3) := by decide +kernel
theorem dX3_digest_69 : decode cX3_digest 69 = .ok (.lload_n 1, 1) := by decide +kernel
theorem dX3_digest_70 : decode cX3_digest 70 = .ok (.ldc2_w 163, 3) := by decide +kernel
theorem dX3_digest_73 : decode cX3_digest 73 = .ok (.lmul, 1) := by decide +kernel
theorem dX3_digest_74 : decode cX3_digest 74 = .ok (.aload_n 0, 1) := by decide +kernel
theorem dX3_digest_75 : decode cX3_digest 75 = .ok (.iload_n 3, 1) := by decide +kernel
theorem dX3_digest_76 : decode cX3_digest 76 = .ok (.invokevirtual 152, 3) := by decide +kernel
theorem dX3_digest_79 : decode cX3_digest 79 = .ok (.i2l, 1) := by decide +kernel
theorem dX3_digest_80 : decode cX3_digest 80 = .ok (.ladd, 1) := by decide +kernel
theorem dX3_digest_81 : decode cX3_digest 81 = .ok (.lstore_n 1, 1) := by decide +kernel
theorem dX3_digest_82 : decode cX3_digest 82 = .ok (.iinc 3 1, 3) := by decide +kernel
theorem dX3_digest_85 : decode cX3_digest 85 = .ok (.goto (-58), 3) := by decide +kernel
theorem dX3_digest_88 : decode cX3_digest 88 = .ok (.lload_n 1, 1) := by decide +kernel
theorem dX3_digest_89 : decode cX3_digest 89 = .ok (.ldc2_w 163, 3) := by decide +kernel
theorem dX3_digest_92 : decode cX3_digest 92 = .ok (.lmul, 1) := by decide +kernel
theorem dX3_digest_93 : decode cX3_digest 93 = .ok (.aload_n 0, 1) := by decide +kernel
theorem dX3_digest_94 : decode cX3_digest 94 = .ok (.getfield 23, 3) := by decide +kernel
theorem dX3_digest_97 : decode cX3_digest 97 = .ok (.i2l, 1) := by decide +kernel
theorem dX3_digest_98 : decode cX3_digest 98 = .ok (.ladd, 1) := by decide +kernel
theorem dX3_digest_99 : decode cX3_digest 99 = .ok (.ldc2_w 163, 3) := by decide +kernel
theorem dX3_digest_102 : decode cX3_digest 102 = .ok (.lmul, 1) := by decide +kernel
theorem dX3_digest_103 : decode cX3_digest 103 = .ok (.aload_n 0, 1) := by decide +kernel
theorem dX3_digest_104 : decode cX3_digest 104 = .ok (.getfield 27, 3) := by decide +kernel
end
section
theorem dX3_digest_107 : decode cX3_digest 107 = .ok (.i2l, 1) := by decide +kernel
theorem dX3_digest_108 : decode cX3_digest 108 = .ok (.ladd, 1) := by decide +kernel
theorem dX3_digest_109 : decode cX3_digest 109 = .ok (.ldc2_w 163, 3) := by decide +kernel
theorem dX3_digest_112 : decode cX3_digest 112 = .ok (.lmul, 1) := by decide +kernel
theorem dX3_digest_113 : decode cX3_digest 113 = .ok (.aload_n 0, 1) := by decide +kernel
theorem dX3_digest_114 : decode cX3_digest 114 = .ok (.getfield 30, 3) := by decide +kernel
theorem dX3_digest_117 : decode cX3_digest 117 = .ok (.i2l, 1) := by decide +kernel
theorem dX3_digest_118 : decode cX3_digest 118 = .ok (.ladd, 1) := by decide +kernel
theorem dX3_digest_119 : decode cX3_digest 119 = .ok (.lstore_n 1, 1) := by decide +kernel
theorem dX3_digest_120 : decode cX3_digest 120 = .ok (.aload_n 0, 1) := by decide +kernel
theorem dX3_digest_121 : decode cX3_digest 121 = .ok (.getfield 19, 3) := by decide +kernel
theorem dX3_digest_124 : decode cX3_digest 124 = .ok (.astore_n 3, 1) := by decide +kernel
theorem dX3_digest_125 : decode cX3_digest 125 = .ok (.aload_n 3, 1) := by decide +kernel
theorem dX3_digest_126 : decode cX3_digest 126 = .ok (.arraylength, 1) := by decide +kernel
theorem dX3_digest_127 : decode cX3_digest 127 = .ok (.istore 4, 2) := by decide +kernel
theorem dX3_digest_129 : decode cX3_digest 129 = .ok (.iconst 0, 1) := by decide +kernel
theorem dX3_digest_130 : decode cX3_digest 130 = .ok (.istore 5, 2) := by decide +kernel
theorem dX3_digest_132 : decode cX3_digest 132 = .ok (.iload 5, 2) := by decide +kernel
theorem dX3_digest_134 : decode cX3_digest 134 = .ok (.iload 4, 2) := by decide +kernel
theorem dX3_digest_136 : decode cX3_digest 136 = .ok (.if_icmp .ge 32, 3) := by decide +kernel
theorem dX3_digest_139 : decode cX3_digest 139 = .ok (.aload_n 3, 1) := by decide +kernel
theorem dX3_digest_140 : decode cX3_digest 140 = .ok (.iload 5, 2) := by decide +kernel
theorem dX3_digest_142 : decode cX3_digest 142 = .ok (.baload, 1) := by decide +kernel
theorem dX3_digest_143 : decode cX3_digest 143 = .ok (.istore 6, 2) := by decide +kernel
theorem dX3_digest_145 : decode cX3_digest 145 = .ok (.lload_n 1, 1) := by decide +kernel
theorem dX3_digest_146 : decode cX3_digest 146 = .ok (.ldc2_w 163, 3) := by decide +kernel
theorem dX3_digest_149 : decode cX3_digest 149 = .ok (.lmul, 1) := by decide +kernel
theorem dX3_digest_150 : decode cX3_digest 150 = .ok (.iload 6, 2) := by decide +kernel
theorem dX3_digest_152 : decode cX3_digest 152 = .ok (.ifCond .eq 7, 3) := by decide +kernel
theorem dX3_digest_155 : decode cX3_digest 155 = .ok (.lconst 1, 1) := by decide +kernel
theorem dX3_digest_156 : decode cX3_digest 156 = .ok (.goto 4, 3) := by decide +kernel
theorem dX3_digest_159 : decode cX3_digest 159 = .ok (.lconst 0, 1) := by decide +kernel
theorem dX3_digest_160 : decode cX3_digest 160 = .ok (.ladd, 1) := by decide +kernel
theorem dX3_digest_161 : decode cX3_digest 161 = .ok (.lstore_n 1, 1) := by decide +kernel
theorem dX3_digest_162 : decode cX3_digest 162 = .ok (.iinc 5 1, 3) := by decide +kernel
theorem dX3_digest_165 : decode cX3_digest 165 = .ok (.goto (-33), 3) := by decide +kernel
theorem dX3_digest_168 : decode cX3_digest 168 = .ok (.lload_n 1, 1) := by decide +kernel
theorem dX3_digest_169 : decode cX3_digest 169 = .ok (.ldc2_w 163, 3) := by decide +kernel
theorem dX3_digest_172 : decode cX3_digest 172 = .ok (.lmul, 1) := by decide +kernel
theorem dX3_digest_173 : decode cX3_digest 173 = .ok (.aload_n 0, 1) := by decide +kernel
theorem dX3_digest_174 : decode cX3_digest 174 = .ok (.iconst 0, 1) := by decide +kernel
theorem dX3_digest_175 : decode cX3_digest 175 = .ok (.invokevirtual 114, 3) := by decide +kernel
theorem dX3_digest_178 : decode cX3_digest 178 = .ok (.i2l, 1) := by decide +kernel
theorem dX3_digest_179 : decode cX3_digest 179 = .ok (.ladd, 1) := by decide +kernel
theorem dX3_digest_180 : decode cX3_digest 180 = .ok (.ldc2_w 163, 3) := by decide +kernel
theorem dX3_digest_183 : decode cX3_digest 183 = .ok (.lmul, 1) := by decide +kernel
theorem dX3_digest_184 : decode cX3_digest 184 = .ok (.aload_n 0, 1) := by decide +kernel
theorem dX3_digest_185 : decode cX3_digest 185 = .ok (.iconst 1, 1) := by decide +kernel
theorem dX3_digest_186 : decode cX3_digest 186 = .ok (.invokevirtual 114, 3) := by decide +kernel
theorem dX3_digest_189 : decode cX3_digest 189 = .ok (.i2l, 1) := by decide +kernel
theorem dX3_digest_190 : decode cX3_digest 190 = .ok (.ladd, 1) := by decide +kernel
theorem dX3_digest_191 : decode cX3_digest 191 = .ok (.ldc2_w 163, 3) := by decide +kernel
theorem dX3_digest_194 : decode cX3_digest 194 = .ok (.lmul, 1) := by decide +kernel
theorem dX3_digest_195 : decode cX3_digest 195 = .ok (.aload_n 0, 1) := by decide +kernel
theorem dX3_digest_196 : decode cX3_digest 196 = .ok (.getfield 149, 3) := by decide +kernel
theorem dX3_digest_199 : decode cX3_digest 199 = .ok (.i2l, 1) := by decide +kernel
theorem dX3_digest_200 : decode cX3_digest 200 = .ok (.ladd, 1) := by decide +kernel
theorem dX3_digest_201 : decode cX3_digest 201 = .ok (.lreturn, 1) := by decide +kernel
theorem dJ9_abs_0f7a4_0 : decode cJ9_abs_0f7a4 0 = .ok (.iload_n 0, 1) := by decide +kernel
theorem dJ9_abs_0f7a4_1 : decode cJ9_abs_0f7a4 1 = .ok (.ifCond .ge 8, 3) := by decide +kernel
theorem dJ9_abs_0f7a4_4 : decode cJ9_abs_0f7a4 4 = .ok (.iload_n 0, 1) := by decide +kernel
theorem dJ9_abs_0f7a4_5 : decode cJ9_abs_0f7a4 5 = .ok (.ineg, 1) := by decide +kernel
theorem dJ9_abs_0f7a4_6 : decode cJ9_abs_0f7a4 6 = .ok (.goto 4, 3) := by decide +kernel
theorem dJ9_abs_0f7a4_9 : decode cJ9_abs_0f7a4 9 = .ok (.iload_n 0, 1) := by decide +kernel
theorem dJ9_abs_0f7a4_10 : decode cJ9_abs_0f7a4 10 = .ok (.ireturn, 1) := by decide +kernel
theorem dJ9_max_7cf53_0 : decode cJ9_max_7cf53 0 = .ok (.iload_n 0, 1) := by decide +kernel
theorem dJ9_max_7cf53_1 : decode cJ9_max_7cf53 1 = .ok (.iload_n 1, 1) := by decide +kernel
theorem dJ9_max_7cf53_2 : decode cJ9_max_7cf53 2 = .ok (.if_icmp .lt 7, 3) := by decide +kernel
theorem dJ9_max_7cf53_5 : decode cJ9_max_7cf53 5 = .ok (.iload_n 0, 1) := by decide +kernel
theorem dJ9_max_7cf53_6 : decode cJ9_max_7cf53 6 = .ok (.goto 4, 3) := by decide +kernel
theorem dJ9_max_7cf53_9 : decode cJ9_max_7cf53 9 = .ok (.iload_n 1, 1) := by decide +kernel
theorem dJ9_max_7cf53_10 : decode cJ9_max_7cf53 10 = .ok (.ireturn, 1) := by decide +kernel
theorem dJ9_min_7cf53_0 : decode cJ9_min_7cf53 0 = .ok (.iload_n 0, 1) := by decide +kernel
theorem dJ9_min_7cf53_1 : decode cJ9_min_7cf53 1 = .ok (.iload_n 1, 1) := by decide +kernel
theorem dJ9_min_7cf53_2 : decode cJ9_min_7cf53 2 = .ok (.if_icmp .gt 7, 3) := by decide +kernel
theorem dJ9_min_7cf53_5 : decode cJ9_min_7cf53 5 = .ok (.iload_n 0, 1) := by decide +kernel
theorem dJ9_min_7cf53_6 : decode cJ9_min_7cf53 6 = .ok (.goto 4, 3) := by decide +kernel
theorem dJ9_min_7cf53_9 : decode cJ9_min_7cf53 9 = .ok (.iload_n 1, 1) := by decide +kernel
theorem dJ9_min_7cf53_10 : decode cJ9_min_7cf53 10 = .ok (.ireturn, 1) := by decide +kernel
set_option maxRecDepth 20000 in
theorem ggL_addContainer_X2_addContainer : GoodIn wsL_addContainer wsX2_addContainer := goodIn_ca (goodIn_ca (goodIn_r _ [7, 8, 9, 10, 11, 12, 13, 14, 15, 16, 17, 18, 19, 6, 20, 21, 22, 23, 24, 25, 26, 27, 28, 29, 30, 31, 32, 33, 34, 35, 36, 37, 38, 39, 40, 41, 42, 43, 44, 45, 46, 47, 48, 49, 50] (by decide +kernel) (by decide +kernel)) (goodIn_sub (fun _ h => List.mem_cons_of_mem _ (List.mem_append_left _ (List.mem_append_right _ h))) (by decide +kernel))) (goodIn_sub (fun _ h => List.mem_cons_of_mem _ (List.mem_append_right _ h)) (by decide +kernel))
set_option maxRecDepth 20000 in
theorem gL_addContainer_X2_addContainer : GoodIn wsL_addContainer (wsV RL 7 RX2 yX2_addContainer wsX2_addContainer) := goodIn_app (goodIn_of _ (by decide +kernel)) ggL_addContainer_X2_addContainer
theorem dL_addContainer_0 : decode cL_addContainer 0 = .ok (.aload 5, 2) := by decide +kernel
theorem dL_addContainer_2 : decode cL_addContainer 2 = .ok (.iconst 0, 1) := by decide +kernel
theorem dL_addContainer_3 : decode cL_addContainer 3 = .ok (.aload_n 0, 1) := by decide +kernel
theorem dL_addContainer_4 : decode cL_addContainer 4 = .ok (.iload_n 1, 1) := by decide +kernel
theorem dL_addContainer_5 : decode cL_addContainer 5 = .ok (.iload_n 2, 1) := by decide +kernel
theorem dL_addContainer_6 : decode cL_addContainer 6 = .ok (.iload_n 3, 1) := by decide +kernel
theorem dL_addContainer_7 : decode cL_addContainer 7 = .ok (.iload 4, 2) := by decide +kernel
theorem dL_addContainer_9 : decode cL_addContainer 9 = .ok (.invokevirtual 7, 3) := by decide +kernel
theorem dL_addContainer_12 : decode cL_addContainer 12 = .ok (.i2l, 1) := by decide +kernel
theorem dL_addContainer_13 : decode cL_addContainer 13 = .ok (.lastore, 1) := by decide +kernel
theorem dL_addContainer_14 : decode cL_addContainer 14 = .ok (.goto 11, 3) := by decide +kernel
theorem dL_addContainer_17 : decode cL_addContainer 17 = .ok (.astore 6, 2) := by decide +kernel
theorem dL_addContainer_19 : decode cL_addContainer 19 = .ok (.iconst 1, 1) := by decide +kernel
theorem dL_addContainer_20 : decode cL_addContainer 20 = .ok (.ireturn, 1) := by decide +kernel
theorem dL_addContainer_21 : decode cL_addContainer 21 = .ok (.astore 6, 2) := by decide +kernel
theorem dL_addContainer_23 : decode cL_addContainer 23 = .ok (.iconst 2, 1) := by decide +kernel
theorem dL_addContainer_24 : decode cL_addContainer 24 = .ok (.ireturn, 1) := by decide +kernel
theorem dL_addContainer_25 : decode cL_addContainer 25 = .ok (.iconst 0, 1) := by decide +kernel
theorem dL_addContainer_26 : decode cL_addContainer 26 = .ok (.ireturn, 1) := by decide +kernel
set_option maxRecDepth 20000 in
theorem ggL_container_X2_container : GoodIn wsL_container wsX2_container := goodIn_ca (goodIn_r _ [6, 7, 8, 9, 10, 11, 5, 12, 13, 14, 15, 16, 17, 18, 19, 20, 21, 22, 23, 24, 25, 26, 27, 28, 29, 30, 31, 32, 33, 34, 35, 36, 37, 38, 39, 40, 41, 42, 43, 44, 45, 46, 47] (by decide +kernel) (by decide +kernel)) (goodIn_sub (fun _ h => List.mem_cons_of_mem _ (List.mem_append_right _ h)) (by decide +kernel))
set_option maxRecDepth 20000 in
theorem gL_container_X2_container : GoodIn wsL_container (wsV RL 17 RX2 yX2_container wsX2_container) := goodIn_app (goodIn_of _ (by decide +kernel)) ggL_container_X2_container
theorem dL_container_0 : decode cL_container 0 = .ok (.aload_n 3, 1) := by decide +kernel
theorem dL_container_1 : decode cL_container 1 = .ok (.iconst 0, 1) := by decide +kernel
theorem dL_container_2 : decode cL_container 2 = .ok (.aload_n 0, 1) := by decide +kernel
theorem dL_container_3 : decode cL_container 3 = .ok (.iload_n 1, 1) := by decide +kernel
theorem dL_container_4 : decode cL_container 4 = .ok (.iload_n 2, 1) := by decide +kernel
theorem dL_container_5 : decode cL_container 5 = .ok (.invokevirtual 17, 3) := by decide +kernel
theorem dL_container_8 : decode cL_container 8 = .ok (.i2l, 1) := by decide +kernel
theorem dL_container_9 : decode cL_container 9 = .ok (.lastore, 1) := by decide +kernel
theorem dL_container_10 : decode cL_container 10 = .ok (.goto 7, 3) := by decide +kernel
theorem dL_container_13 : decode cL_container 13 = .ok (.astore 4, 2) := by decide +kernel
theorem dL_container_15 : decode cL_container 15 = .ok (.iconst 1, 1) := by decide +kernel
theorem dL_container_16 : decode cL_container 16 = .ok (.ireturn, 1) := by decide +kernel
theorem dL_container_17 : decode cL_container 17 = .ok (.iconst 0, 1) := by decide +kernel
theorem dL_container_18 : decode cL_container 18 = .ok (.ireturn, 1) := by decide +kernel
set_option maxRecDepth 20000 in
theorem ggL_setLimits_X2_setLimits : GoodIn wsL_setLimits wsX2_setLimits := goodIn_ca (goodIn_r _ [6, 7, 8, 9, 10, 11, 12, 13, 5, 14, 15, 16, 17, 18, 19, 20, 21, 22] (by decide +kernel) (by decide +kernel)) (goodIn_sub (fun _ h => List.mem_cons_of_mem _ (List.mem_append_right _ h)) (by decide +kernel))
set_option maxRecDepth 20000 in
theorem gL_setLimits_X2_setLimits : GoodIn wsL_setLimits (wsV RL 23 RX2 yX2_setLimits wsX2_setLimits) := goodIn_app (goodIn_of _ (by decide +kernel)) ggL_setLimits_X2_setLimits
theorem dL_setLimits_0 : decode cL_setLimits 0 = .ok (.aload 4, 2) := by decide +kernel
theorem dL_setLimits_2 : decode cL_setLimits 2 = .ok (.iconst 0, 1) := by decide +kernel
theorem dL_setLimits_3 : decode cL_setLimits 3 = .ok (.aload_n 0, 1) := by decide +kernel
theorem dL_setLimits_4 : decode cL_setLimits 4 = .ok (.iload_n 1, 1) := by decide +kernel
theorem dL_setLimits_5 : decode cL_setLimits 5 = .ok (.iload_n 2, 1) := by decide +kernel
theorem dL_setLimits_6 : decode cL_setLimits 6 = .ok (.iload_n 3, 1) := by decide +kernel
theorem dL_setLimits_7 : decode cL_setLimits 7 = .ok (.invokevirtual 23, 3) := by decide +kernel
theorem dL_setLimits_10 : decode cL_setLimits 10 = .ok (.i2l, 1) := by decide +kernel
theorem dL_setLimits_11 : decode cL_setLimits 11 = .ok (.lastore, 1) := by decide +kernel
theorem dL_setLimits_12 : decode cL_setLimits 12 = .ok (.goto 7, 3) := by decide +kernel
theorem dL_setLimits_15 : decode cL_setLimits 15 = .ok (.astore 5, 2) := by decide +kernel
theorem dL_setLimits_17 : decode cL_setLimits 17 = .ok (.iconst 1, 1) := by decide +kernel
theorem dL_setLimits_18 : decode cL_setLimits 18 = .ok (.ireturn, 1) := by decide +kernel
theorem dL_setLimits_19 : decode cL_setLimits 19 = .ok (.iconst 0, 1) := by decide +kernel
theorem dL_setLimits_20 : decode cL_setLimits 20 = .ok (.ireturn, 1) := by decide +kernel
set_option maxRecDepth 20000 in
theorem ggL_setPlug_X2_setPlug : GoodIn wsL_setPlug wsX2_setPlug := goodIn_ca (goodIn_ca (goodIn_r _ [7, 8, 9, 10, 11, 12, 13, 14, 15, 6, 16, 17, 18, 19, 20, 21, 22, 23, 24, 25, 26, 27, 28, 29, 30, 31, 32, 33, 34, 35, 36, 37, 38, 39, 40, 41, 42, 43, 44, 45, 46, 47, 48] (by decide +kernel) (by decide +kernel)) (goodIn_sub (fun _ h => List.mem_cons_of_mem _ (List.mem_append_left _ (List.mem_append_right _ h))) (by decide +kernel))) (goodIn_sub (fun _ h => List.mem_cons_of_mem _ (List.mem_append_right _ h)) (by decide +kernel))
set_option maxRecDepth 20000 in
theorem gL_setPlug_X2_setPlug : GoodIn wsL_setPlug (wsV RL 27 RX2 yX2_setPlug wsX2_setPlug) := goodIn_app (goodIn_of _ (by decide +kernel)) ggL_setPlug_X2_setPlug
theorem dL_setPlug_0 : decode cL_setPlug 0 = .ok (.aload 4, 2) := by decide +kernel
theorem dL_setPlug_2 : decode cL_setPlug 2 = .ok (.iconst 0, 1) := by decide +kernel
theorem dL_setPlug_3 : decode cL_setPlug 3 = .ok (.aload_n 0, 1) := by decide +kernel
theorem dL_setPlug_4 : decode cL_setPlug 4 = .ok (.iload_n 1, 1) := by decide +kernel
theorem dL_setPlug_5 : decode cL_setPlug 5 = .ok (.iload_n 2, 1) := by decide +kernel
theorem dL_setPlug_6 : decode cL_setPlug 6 = .ok (.iload_n 3, 1) := by decide +kernel
theorem dL_setPlug_7 : decode cL_setPlug 7 = .ok (.invokevirtual 27, 3) := by decide +kernel
theorem dL_setPlug_10 : decode cL_setPlug 10 = .ok (.ifCond .eq 7, 3) := by decide +kernel
theorem dL_setPlug_13 : decode cL_setPlug 13 = .ok (.lconst 1, 1) := by decide +kernel
theorem dL_setPlug_14 : decode cL_setPlug 14 = .ok (.goto 4, 3) := by decide +kernel
theorem dL_setPlug_17 : decode cL_setPlug 17 = .ok (.lconst 0, 1) := by decide +kernel
theorem dL_setPlug_18 : decode cL_setPlug 18 = .ok (.lastore, 1) := by decide +kernel
theorem dL_setPlug_19 : decode cL_setPlug 19 = .ok (.goto 11, 3) := by decide +kernel
theorem dL_setPlug_22 : decode cL_setPlug 22 = .ok (.astore 5, 2) := by decide +kernel
theorem dL_setPlug_24 : decode cL_setPlug 24 = .ok (.iconst 1, 1) := by decide +kernel
theorem dL_setPlug_25 : decode cL_setPlug 25 = .ok (.ireturn, 1) := by decide +kernel
theorem dL_setPlug_26 : decode cL_setPlug 26 = .ok (.astore 5, 2) := by decide +kernel
theorem dL_setPlug_28 : decode cL_setPlug 28 = .ok (.iconst 2, 1) := by decide +kernel
theorem dL_setPlug_29 : decode cL_setPlug 29 = .ok (.ireturn, 1) := by decide +kernel
theorem dL_setPlug_30 : decode cL_setPlug 30 = .ok (.iconst 0, 1) := by decide +kernel
theorem dL_setPlug_31 : decode cL_setPlug 31 = .ok (.ireturn, 1) := by decide +kernel
set_option maxRecDepth 20000 in
theorem ggL_canLoad_X2_canLoad : GoodIn wsL_canLoad wsX2_canLoad := goodIn_ca (goodIn_r _ [6, 7, 8, 9, 10, 11, 5, 12, 13, 14, 15, 16, 17, 18, 19, 20, 21, 22, 23, 24, 25, 26, 27, 28, 29, 30, 31, 32, 33, 34, 35, 36, 37, 38, 39, 40, 41, 42, 43, 44, 45, 46, 47, 48, 49, 50, 51, 52, 53, 54, 55, 56, 57, 58, 59, 60, 61, 62, 63, 64, 65, 66, 67, 68, 69, 70, 71, 72, 73, 74, 75, 76, 77, 78, 79, 80, 81, 82, 83, 84, 85, 86, 87, 88, 89, 90, 91, 92, 93, 94, 95, 96] (by decide +kernel) (by decide +kernel)) (goodIn_sub (fun _ h => List.mem_cons_of_mem _ (List.mem_append_right _ h)) (by decide +kernel))
set_option maxRecDepth 20000 in
theorem gL_canLoad_X2_canLoad : GoodIn wsL_canLoad (wsV RL 31 RX2 yX2_canLoad wsX2_canLoad) := goodIn_app (goodIn_of _ (by decide +kernel)) ggL_canLoad_X2_canLoad
theorem dL_canLoad_0 : decode cL_canLoad 0 = .ok (.aload 4, 2) := by decide +kernel
theorem dL_canLoad_2 : decode cL_canLoad 2 = .ok (.iconst 0, 1) := by decide +kernel
theorem dL_canLoad_3 : decode cL_canLoad 3 = .ok (.aload_n 0, 1) := by decide +kernel
theorem dL_canLoad_4 : decode cL_canLoad 4 = .ok (.iload_n 1, 1) := by decide +kernel
theorem dL_canLoad_5 : decode cL_canLoad 5 = .ok (.iload_n 2, 1) := by decide +kernel
theorem dL_canLoad_6 : decode cL_canLoad 6 = .ok (.iload_n 3, 1) := by decide +kernel
theorem dL_canLoad_7 : decode cL_canLoad 7 = .ok (.invokevirtual 31, 3) := by decide +kernel
theorem dL_canLoad_10 : decode cL_canLoad 10 = .ok (.ifCond .eq 7, 3) := by decide +kernel
theorem dL_canLoad_13 : decode cL_canLoad 13 = .ok (.lconst 1, 1) := by decide +kernel
theorem dL_canLoad_14 : decode cL_canLoad 14 = .ok (.goto 4, 3) := by decide +kernel
theorem dL_canLoad_17 : decode cL_canLoad 17 = .ok (.lconst 0, 1) := by decide +kernel
theorem dL_canLoad_18 : decode cL_canLoad 18 = .ok (.lastore, 1) := by decide +kernel
theorem dL_canLoad_19 : decode cL_canLoad 19 = .ok (.goto 7, 3) := by decide +kernel
theorem dL_canLoad_22 : decode cL_canLoad 22 = .ok (.astore 5, 2) := by decide +kernel
theorem dL_canLoad_24 : decode cL_canLoad 24 = .ok (.iconst 1, 1) := by decide +kernel
theorem dL_canLoad_25 : decode cL_canLoad 25 = .ok (.ireturn, 1) := by decide +kernel
theorem dL_canLoad_26 : decode cL_canLoad 26 = .ok (.iconst 0, 1) := by decide +kernel
theorem dL_canLoad_27 : decode cL_canLoad 27 = .ok (.ireturn, 1) := by decide +kernel
set_option maxRecDepth 20000 in
theorem ggL_load_X2_load : GoodIn wsL_load wsX2_load := goodIn_ca (goodIn_ca (goodIn_r _ [7, 8, 9, 10, 11, 12, 13, 14, 15, 6, 16, 17, 18, 19, 20, 21, 22, 23, 24, 25, 26, 27, 28, 29, 30, 31, 32, 33, 34, 35, 36, 37, 38, 39, 40, 41, 42, 43, 44, 45, 46, 47, 48, 49, 50, 51, 52, 53, 54, 55, 56, 57, 58, 59, 60, 61, 62, 63, 64, 65, 66, 67, 68, 69, 70, 71, 72, 73, 74, 75, 76, 77, 78, 79, 80, 81, 82, 83, 84, 85, 86, 87, 88, 89, 90, 91, 92, 93, 94, 95, 96, 97, 98, 99, 100, 101, 102, 103, 104, 105, 106] (by decide +kernel) (by decide +kernel)) (goodIn_sub (fun _ h => List.mem_cons_of_mem _ (List.mem_append_left _ (List.mem_append_right _ h))) (by decide +kernel))) (goodIn_sub (fun _ h => List.mem_cons_of_mem _ (List.mem_append_right _ h)) (by decide +kernel))
set_option maxRecDepth 20000 in
theorem gL_load_X2_load : GoodIn wsL_load (wsV RL 35 RX2 yX2_load wsX2_load) := goodIn_app (goodIn_of _ (by decide +kernel)) ggL_load_X2_load
theorem dL_load_0 : decode cL_load 0 = .ok (.aload 4, 2) := by decide +kernel
theorem dL_load_2 : decode cL_load 2 = .ok (.iconst 0, 1) := by decide +kernel
theorem dL_load_3 : decode cL_load 3 = .ok (.aload_n 0, 1) := by decide +kernel
theorem dL_load_4 : decode cL_load 4 = .ok (.iload_n 1, 1) := by decide +kernel
theorem dL_load_5 : decode cL_load 5 = .ok (.iload_n 2, 1) := by decide +kernel
theorem dL_load_6 : decode cL_load 6 = .ok (.iload_n 3, 1) := by decide +kernel
theorem dL_load_7 : decode cL_load 7 = .ok (.invokevirtual 35, 3) := by decide +kernel
theorem dL_load_10 : decode cL_load 10 = .ok (.i2l, 1) := by decide +kernel
theorem dL_load_11 : decode cL_load 11 = .ok (.lastore, 1) := by decide +kernel
theorem dL_load_12 : decode cL_load 12 = .ok (.goto 11, 3) := by decide +kernel
theorem dL_load_15 : decode cL_load 15 = .ok (.astore 5, 2) := by decide +kernel
theorem dL_load_17 : decode cL_load 17 = .ok (.iconst 1, 1) := by decide +kernel
theorem dL_load_18 : decode cL_load 18 = .ok (.ireturn, 1) := by decide +kernel
theorem dL_load_19 : decode cL_load 19 = .ok (.astore 5, 2) := by decide +kernel
theorem dL_load_21 : decode cL_load 21 = .ok (.iconst 2, 1) := by decide +kernel
theorem dL_load_22 : decode cL_load 22 = .ok (.ireturn, 1) := by decide +kernel
theorem dL_load_23 : decode cL_load 23 = .ok (.iconst 0, 1) := by decide +kernel
theorem dL_load_24 : decode cL_load 24 = .ok (.ireturn, 1) := by decide +kernel
set_option maxRecDepth 20000 in
theorem ggL_lift_X2_lift : GoodIn wsL_lift wsX2_lift := goodIn_ca (goodIn_ca (goodIn_r _ [7, 8, 9, 10, 11, 12, 13, 14, 15, 16, 6, 17, 18, 19, 20, 21, 22, 23, 24, 25, 26, 27, 28, 29, 30, 31, 32, 33, 34, 35, 36, 37, 38, 39, 40, 41, 42, 43, 44, 45, 46, 47, 48, 49, 50, 51, 52, 53, 54, 55, 56, 57, 58, 59, 60, 61, 62] (by decide +kernel) (by decide +kernel)) (goodIn_sub (fun _ h => List.mem_cons_of_mem _ (List.mem_append_left _ (List.mem_append_right _ h))) (by decide +kernel))) (goodIn_sub (fun _ h => List.mem_cons_of_mem _ (List.mem_append_right _ h)) (by decide +kernel))
set_option maxRecDepth 20000 in
theorem gL_lift_X2_lift : GoodIn wsL_lift (wsV RL 38 RX2 yX2_lift wsX2_lift) := goodIn_app (goodIn_of _ (by decide +kernel)) ggL_lift_X2_lift
theorem dL_lift_0 : decode cL_lift 0 = .ok (.aload_n 3, 1) := by decide +kernel
theorem dL_lift_1 : decode cL_lift 1 = .ok (.iconst 0, 1) := by decide +kernel
theorem dL_lift_2 : decode cL_lift 2 = .ok (.aload_n 0, 1) := by decide +kernel
theorem dL_lift_3 : decode cL_lift 3 = .ok (.iload_n 1, 1) := by decide +kernel
theorem dL_lift_4 : decode cL_lift 4 = .ok (.iload_n 2, 1) := by decide +kernel
theorem dL_lift_5 : decode cL_lift 5 = .ok (.invokevirtual 38, 3) := by decide +kernel
theorem dL_lift_8 : decode cL_lift 8 = .ok (.i2l, 1) := by decide +kernel
theorem dL_lift_9 : decode cL_lift 9 = .ok (.lastore, 1) := by decide +kernel
theorem dL_lift_10 : decode cL_lift 10 = .ok (.goto 11, 3) := by decide +kernel
theorem dL_lift_13 : decode cL_lift 13 = .ok (.astore 4, 2) := by decide +kernel
theorem dL_lift_15 : decode cL_lift 15 = .ok (.iconst 1, 1) := by decide +kernel
theorem dL_lift_16 : decode cL_lift 16 = .ok (.ireturn, 1) := by decide +kernel
theorem dL_lift_17 : decode cL_lift 17 = .ok (.astore 4, 2) := by decide +kernel
theorem dL_lift_19 : decode cL_lift 19 = .ok (.iconst 2, 1) := by decide +kernel
theorem dL_lift_20 : decode cL_lift 20 = .ok (.ireturn, 1) := by decide +kernel
theorem dL_lift_21 : decode cL_lift 21 = .ok (.iconst 0, 1) := by decide +kernel
theorem dL_lift_22 : decode cL_lift 22 = .ok (.ireturn, 1) := by decide +kernel
set_option maxRecDepth 20000 in
theorem ggL_sail_X2_sail : GoodIn wsL_sail wsX2_sail := goodIn_ca (goodIn_r _ [6, 7, 8, 9, 10, 11, 12, 13, 14, 5, 15, 16, 17, 18, 19, 20, 21, 22, 23, 24, 25, 26, 27, 28, 29, 30, 31, 32, 33, 34, 35, 36, 37, 38, 39, 40, 41, 42, 43, 44, 45, 46, 47, 48, 49, 50, 51, 52, 53, 54, 55, 56, 57, 58, 59, 60, 61, 62, 63, 64, 65, 66, 67, 68, 69, 70, 71, 72, 73, 74, 75, 76, 77, 78, 79, 80, 81, 82, 83, 84, 85, 86, 87, 88, 89] (by decide +kernel) (by decide +kernel)) (goodIn_sub (fun _ h => List.mem_cons_of_mem _ (List.mem_append_right _ h)) (by decide +kernel))
set_option maxRecDepth 20000 in
theorem gL_sail_X2_sail : GoodIn wsL_sail (wsV RL 41 RX2 yX2_sail wsX2_sail) := goodIn_app (goodIn_of _ (by decide +kernel)) ggL_sail_X2_sail
theorem dL_sail_0 : decode cL_sail 0 = .ok (.aload_n 1, 1) := by decide +kernel
theorem dL_sail_1 : decode cL_sail 1 = .ok (.iconst 0, 1) := by decide +kernel
theorem dL_sail_2 : decode cL_sail 2 = .ok (.aload_n 0, 1) := by decide +kernel
theorem dL_sail_3 : decode cL_sail 3 = .ok (.invokevirtual 41, 3) := by decide +kernel
theorem dL_sail_6 : decode cL_sail 6 = .ok (.i2l, 1) := by decide +kernel
theorem dL_sail_7 : decode cL_sail 7 = .ok (.lastore, 1) := by decide +kernel
theorem dL_sail_8 : decode cL_sail 8 = .ok (.goto 6, 3) := by decide +kernel
theorem dL_sail_11 : decode cL_sail 11 = .ok (.astore_n 2, 1) := by decide +kernel
theorem dL_sail_12 : decode cL_sail 12 = .ok (.iconst 1, 1) := by decide +kernel
theorem dL_sail_13 : decode cL_sail 13 = .ok (.ireturn, 1) := by decide +kernel
theorem dL_sail_14 : decode cL_sail 14 = .ok (.iconst 0, 1) := by decide +kernel
theorem dL_sail_15 : decode cL_sail 15 = .ok (.ireturn, 1) := by decide +kernel
set_option maxRecDepth 20000 in
theorem ggL_at_X2_at : GoodIn wsL_at wsX2_at := goodIn_ca (goodIn_r _ [6, 7, 8, 9, 10, 11, 5, 12, 13, 14, 15, 16, 17, 18, 19, 20, 21, 22, 23, 24, 25, 26, 27, 28, 29, 30, 31, 32, 33, 34, 35, 36, 37, 38, 39, 40, 41, 42, 43, 44, 45, 46, 47] (by decide +kernel) (by decide +kernel)) (goodIn_sub (fun _ h => List.mem_cons_of_mem _ (List.mem_append_right _ h)) (by decide +kernel))
set_option maxRecDepth 20000 in
theorem gL_at_X2_at : GoodIn wsL_at (wsV RL 45 RX2 yX2_at wsX2_at) := goodIn_app (goodIn_of _ (by decide +kernel)) ggL_at_X2_at
theorem dL_at_0 : decode cL_at 0 = .ok (.aload 4, 2) := by decide +kernel
theorem dL_at_2 : decode cL_at 2 = .ok (.iconst 0, 1) := by decide +kernel
theorem dL_at_3 : decode cL_at 3 = .ok (.aload_n 0, 1) := by decide +kernel
theorem dL_at_4 : decode cL_at 4 = .ok (.iload_n 1, 1) := by decide +kernel
theorem dL_at_5 : decode cL_at 5 = .ok (.iload_n 2, 1) := by decide +kernel
theorem dL_at_6 : decode cL_at 6 = .ok (.iload_n 3, 1) := by decide +kernel
theorem dL_at_7 : decode cL_at 7 = .ok (.invokevirtual 45, 3) := by decide +kernel
theorem dL_at_10 : decode cL_at 10 = .ok (.i2l, 1) := by decide +kernel
theorem dL_at_11 : decode cL_at 11 = .ok (.lastore, 1) := by decide +kernel
theorem dL_at_12 : decode cL_at 12 = .ok (.goto 7, 3) := by decide +kernel
theorem dL_at_15 : decode cL_at 15 = .ok (.astore 5, 2) := by decide +kernel
theorem dL_at_17 : decode cL_at 17 = .ok (.iconst 1, 1) := by decide +kernel
theorem dL_at_18 : decode cL_at 18 = .ok (.ireturn, 1) := by decide +kernel
theorem dL_at_19 : decode cL_at 19 = .ok (.iconst 0, 1) := by decide +kernel
theorem dL_at_20 : decode cL_at 20 = .ok (.ireturn, 1) := by decide +kernel
set_option maxRecDepth 20000 in
theorem ggL_where_X2_where : GoodIn wsL_where wsX2_where := goodIn_ca (goodIn_r _ [6, 7, 8, 9, 10, 11, 5, 12, 13, 14, 15, 16, 17, 18, 19, 20, 21, 22, 23, 24, 25, 26, 27, 28, 29, 30, 31, 32, 33, 34, 35, 36, 37, 38, 39, 40, 41, 42, 43] (by decide +kernel) (by decide +kernel)) (goodIn_sub (fun _ h => List.mem_cons_of_mem _ (List.mem_append_right _ h)) (by decide +kernel))
set_option maxRecDepth 20000 in
theorem gL_where_X2_where : GoodIn wsL_where (wsV RL 48 RX2 yX2_where wsX2_where) := goodIn_app (goodIn_of _ (by decide +kernel)) ggL_where_X2_where
theorem dL_where_0 : decode cL_where 0 = .ok (.aload_n 2, 1) := by decide +kernel
theorem dL_where_1 : decode cL_where 1 = .ok (.iconst 0, 1) := by decide +kernel
theorem dL_where_2 : decode cL_where 2 = .ok (.aload_n 0, 1) := by decide +kernel
theorem dL_where_3 : decode cL_where 3 = .ok (.iload_n 1, 1) := by decide +kernel
theorem dL_where_4 : decode cL_where 4 = .ok (.invokevirtual 48, 3) := by decide +kernel
theorem dL_where_7 : decode cL_where 7 = .ok (.i2l, 1) := by decide +kernel
theorem dL_where_8 : decode cL_where 8 = .ok (.lastore, 1) := by decide +kernel
theorem dL_where_9 : decode cL_where 9 = .ok (.goto 6, 3) := by decide +kernel
theorem dL_where_12 : decode cL_where 12 = .ok (.astore_n 3, 1) := by decide +kernel
theorem dL_where_13 : decode cL_where 13 = .ok (.iconst 1, 1) := by decide +kernel
theorem dL_where_14 : decode cL_where 14 = .ok (.ireturn, 1) := by decide +kernel
theorem dL_where_15 : decode cL_where 15 = .ok (.iconst 0, 1) := by decide +kernel
theorem dL_where_16 : decode cL_where 16 = .ok (.ireturn, 1) := by decide +kernel
set_option maxRecDepth 20000 in
theorem ggL_weight_X2_weight : GoodIn wsL_weight wsX2_weight := goodIn_ca (goodIn_r _ [6, 7, 8, 9, 10, 11, 12, 5, 13, 14, 15, 16, 17, 18, 19, 20, 21, 22, 23, 24, 25, 26, 27, 28, 29, 30, 31, 32, 33, 34, 35, 36, 37, 38, 39, 40, 41] (by decide +kernel) (by decide +kernel)) (goodIn_sub (fun _ h => List.mem_cons_of_mem _ (List.mem_append_right _ h)) (by decide +kernel))
set_option maxRecDepth 20000 in
theorem gL_weight_X2_weight : GoodIn wsL_weight (wsV RL 52 RX2 yX2_weight wsX2_weight) := goodIn_app (goodIn_of _ (by decide +kernel)) ggL_weight_X2_weight
theorem dL_weight_0 : decode cL_weight 0 = .ok (.aload_n 2, 1) := by decide +kernel
theorem dL_weight_1 : decode cL_weight 1 = .ok (.iconst 0, 1) := by decide +kernel
theorem dL_weight_2 : decode cL_weight 2 = .ok (.aload_n 0, 1) := by decide +kernel
theorem dL_weight_3 : decode cL_weight 3 = .ok (.iload_n 1, 1) := by decide +kernel
theorem dL_weight_4 : decode cL_weight 4 = .ok (.invokevirtual 52, 3) := by decide +kernel
theorem dL_weight_7 : decode cL_weight 7 = .ok (.i2l, 1) := by decide +kernel
theorem dL_weight_8 : decode cL_weight 8 = .ok (.lastore, 1) := by decide +kernel
theorem dL_weight_9 : decode cL_weight 9 = .ok (.goto 6, 3) := by decide +kernel
theorem dL_weight_12 : decode cL_weight 12 = .ok (.astore_n 3, 1) := by decide +kernel
theorem dL_weight_13 : decode cL_weight 13 = .ok (.iconst 1, 1) := by decide +kernel
theorem dL_weight_14 : decode cL_weight 14 = .ok (.ireturn, 1) := by decide +kernel
theorem dL_weight_15 : decode cL_weight 15 = .ok (.iconst 0, 1) := by decide +kernel
theorem dL_weight_16 : decode cL_weight 16 = .ok (.ireturn, 1) := by decide +kernel
set_option maxRecDepth 20000 in
theorem ggL_lifts_X2_lifts : GoodIn wsL_lifts wsX2_lifts := goodIn_ca (goodIn_r _ [6, 7, 8, 9, 10, 11, 5, 12, 13, 14, 15, 16, 17, 18, 19, 20, 21, 22, 23, 24, 25, 26, 27, 28, 29, 30, 31, 32, 33, 34, 35, 36, 37, 38, 39, 40] (by decide +kernel) (by decide +kernel)) (goodIn_sub (fun _ h => List.mem_cons_of_mem _ (List.mem_append_right _ h)) (by decide +kernel))
set_option maxRecDepth 20000 in
theorem gL_lifts_X2_lifts : GoodIn wsL_lifts (wsV RL 55 RX2 yX2_lifts wsX2_lifts) := goodIn_app (goodIn_of _ (by decide +kernel)) ggL_lifts_X2_lifts
theorem dL_lifts_0 : decode cL_lifts 0 = .ok (.aload_n 2, 1) := by decide +kernel
theorem dL_lifts_1 : decode cL_lifts 1 = .ok (.iconst 0, 1) := by decide +kernel
theorem dL_lifts_2 : decode cL_lifts 2 = .ok (.aload_n 0, 1) := by decide +kernel
theorem dL_lifts_3 : decode cL_lifts 3 = .ok (.iload_n 1, 1) := by decide +kernel
theorem dL_lifts_4 : decode cL_lifts 4 = .ok (.invokevirtual 55, 3) := by decide +kernel
theorem dL_lifts_7 : decode cL_lifts 7 = .ok (.i2l, 1) := by decide +kernel
theorem dL_lifts_8 : decode cL_lifts 8 = .ok (.lastore, 1) := by decide +kernel
theorem dL_lifts_9 : decode cL_lifts 9 = .ok (.goto 6, 3) := by decide +kernel
theorem dL_lifts_12 : decode cL_lifts 12 = .ok (.astore_n 3, 1) := by decide +kernel
theorem dL_lifts_13 : decode cL_lifts 13 = .ok (.iconst 1, 1) := by decide +kernel
theorem dL_lifts_14 : decode cL_lifts 14 = .ok (.ireturn, 1) := by decide +kernel
theorem dL_lifts_15 : decode cL_lifts 15 = .ok (.iconst 0, 1) := by decide +kernel
theorem dL_lifts_16 : decode cL_lifts 16 = .ok (.ireturn, 1) := by decide +kernel
set_option maxRecDepth 20000 in
theorem ggL_choices_X2_choices : GoodIn wsL_choices wsX2_choices := goodIn_ca (goodIn_r _ [6, 7, 8, 9, 10, 11, 12, 5, 13, 14, 15, 16, 17, 18, 19, 20, 21, 22, 23, 24, 25, 26, 27, 28, 29, 30, 31, 32, 33, 34, 35, 36, 37, 38, 39, 40, 41, 42, 43, 44, 45, 46, 47, 48, 49, 50, 51, 52, 53, 54, 55, 56, 57, 58, 59, 60, 61, 62, 63, 64, 65, 66, 67, 68, 69, 70, 71, 72, 73, 74, 75, 76, 77, 78, 79, 80, 81, 82, 83, 84, 85, 86, 87, 88, 89] (by decide +kernel) (by decide +kernel)) (goodIn_sub (fun _ h => List.mem_cons_of_mem _ (List.mem_append_right _ h)) (by decide +kernel))
set_option maxRecDepth 20000 in
theorem gL_choices_X2_choices : GoodIn wsL_choices (wsV RL 58 RX2 yX2_choices wsX2_choices) := goodIn_app (goodIn_of _ (by decide +kernel)) ggL_choices_X2_choices
theorem dL_choices_0 : decode cL_choices 0 = .ok (.aload_n 2, 1) := by decide +kernel
theorem dL_choices_1 : decode cL_choices 1 = .ok (.iconst 0, 1) := by decide +kernel
theorem dL_choices_2 : decode cL_choices 2 = .ok (.aload_n 0, 1) := by decide +kernel
theorem dL_choices_3 : decode cL_choices 3 = .ok (.iload_n 1, 1) := by decide +kernel
theorem dL_choices_4 : decode cL_choices 4 = .ok (.invokevirtual 58, 3) := by decide +kernel
theorem dL_choices_7 : decode cL_choices 7 = .ok (.i2l, 1) := by decide +kernel
theorem dL_choices_8 : decode cL_choices 8 = .ok (.lastore, 1) := by decide +kernel
theorem dL_choices_9 : decode cL_choices 9 = .ok (.goto 6, 3) := by decide +kernel
theorem dL_choices_12 : decode cL_choices 12 = .ok (.astore_n 3, 1) := by decide +kernel
theorem dL_choices_13 : decode cL_choices 13 = .ok (.iconst 1, 1) := by decide +kernel
theorem dL_choices_14 : decode cL_choices 14 = .ok (.ireturn, 1) := by decide +kernel
theorem dL_choices_15 : decode cL_choices 15 = .ok (.iconst 0, 1) := by decide +kernel
theorem dL_choices_16 : decode cL_choices 16 = .ok (.ireturn, 1) := by decide +kernel
set_option maxRecDepth 20000 in
theorem ggL_law_X2_init : GoodIn wsL_law wsX2_init := goodIn_r _ [9, 10, 11, 12, 13, 14, 15, 16, 17, 18, 19, 20, 21, 22, 23, 24, 25, 26, 27, 28, 29, 30, 31, 32, 33, 34, 580, 581, 582, 583, 584, 585, 586, 587, 601, 602, 603, 604, 605] (by decide +kernel) (by decide +kernel)
set_option maxRecDepth 20000 in
theorem gL_law_X2_init : GoodIn wsL_law (wsX2_init) := ggL_law_X2_init
set_option maxRecDepth 20000 in
theorem ggL_law_X3_init : GoodIn wsL_law wsX3_init := goodIn_r _ [37, 38, 11, 12, 39, 40, 41, 42, 43, 44, 45, 46, 47, 588, 589, 590, 591, 592, 593, 594, 595, 596, 597, 598, 599, 600] (by decide +kernel) (by decide +kernel)
set_option maxRecDepth 20000 in
theorem gL_law_X3_init : GoodIn wsL_law (wsX3_init) := ggL_law_X3_init
set_option maxRecDepth 20000 in
theorem ggL_law_L_addContainer : GoodIn wsL_law wsL_addContainer := goodIn_ca (goodIn_ca (goodIn_r _ [51, 52, 53, 54, 55, 56, 2, 57, 58, 59, 60, 61, 18, 17, 14, 13, 62, 63, 64, 65, 66, 67, 68, 69, 70, 11, 12, 71, 72, 73, 74, 75, 76, 77, 78, 580, 581, 582, 583, 584, 585, 586, 587, 606, 607, 608, 609, 610, 611, 612, 613] (by decide +kernel) (by decide +kernel)) (goodIn_sub (fun _ h => List.mem_append_left _ (List.mem_append_left _ (List.mem_append_right _ h))) (by decide +kernel))) (goodIn_sub (fun _ h => List.mem_append_left _ (List.mem_append_right _ h)) (by decide +kernel))
set_option maxRecDepth 20000 in
theorem gL_law_L_addContainer : GoodIn wsL_law (va_wsS RL 65 yL_addContainer wsL_addContainer) := goodIn_app (goodIn_of _ (by decide +kernel)) ggL_law_L_addContainer
set_option maxRecDepth 20000 in
theorem ggL_law_X3_addContainer : GoodIn wsL_law wsX3_addContainer := goodIn_r _ [82, 83, 84, 85, 39, 40, 86, 87, 88, 89, 90, 91, 5, 92, 93, 94, 95, 96, 588, 589, 590, 591, 592, 593, 594, 595, 596, 597, 598, 599, 600] (by decide +kernel) (by decide +kernel)
set_option maxRecDepth 20000 in
theorem gL_law_X3_addContainer : GoodIn wsL_law (wsV RL 70 RX3 yX3_addContainer wsX3_addContainer) := goodIn_app (goodIn_of _ (by decide +kernel)) ggL_law_X3_addContainer
set_option maxRecDepth 20000 in
theorem ggL_law_X3_thrown : GoodIn wsL_law wsX3_thrown := goodIn_r _ [100, 83, 588, 589, 590, 591, 592, 593, 594, 595, 596, 597, 598, 599, 600] (by decide +kernel) (by decide +kernel)
set_option maxRecDepth 20000 in
theorem gL_law_X3_thrown : GoodIn wsL_law (wsV RL 71 RX3 yX3_thrown wsX3_thrown) := goodIn_app (goodIn_of _ (by decide +kernel)) ggL_law_X3_thrown
set_option maxRecDepth 20000 in
theorem ggL_law_L_container : GoodIn wsL_law wsL_container := goodIn_ca (goodIn_r _ [103, 104, 105, 106, 107, 2, 108, 109, 110, 111, 112, 113, 114, 14, 64, 65, 66, 115, 116, 117, 63, 118, 75, 76, 77, 78, 119, 120, 121, 122, 71, 72, 580, 581, 582, 583, 584, 585, 586, 587, 606, 607, 608, 609, 610, 611, 612, 613] (by decide +kernel) (by decide +kernel)) (goodIn_sub (fun _ h => List.mem_append_right _ h) (by decide +kernel))
set_option maxRecDepth 20000 in
theorem gL_law_L_container : GoodIn wsL_law (va_wsS RL 74 yL_container wsL_container) := goodIn_app (goodIn_of _ (by decide +kernel)) ggL_law_L_container
set_option maxRecDepth 20000 in
theorem ggL_law_X3_container : GoodIn wsL_law wsX3_container := goodIn_r _ [126, 83, 40, 127, 128, 129, 5, 130, 85, 90, 91, 92, 93, 94, 95, 96, 588, 589, 590, 591, 592, 593, 594, 595, 596, 597, 598, 599, 600] (by decide +kernel) (by decide +kernel)
set_option maxRecDepth 20000 in
theorem gL_law_X3_container : GoodIn wsL_law (wsV RL 77 RX3 yX3_container wsX3_container) := goodIn_app (goodIn_of _ (by decide +kernel)) ggL_law_X3_container
set_option maxRecDepth 20000 in
theorem ggL_law_L_setLimits : GoodIn wsL_law wsL_setLimits := goodIn_ca (goodIn_r _ [133, 52, 134, 135, 136, 2, 137, 58, 59, 19, 20, 21, 64, 65, 66, 580, 581, 582, 583, 584, 585, 586, 587] (by decide +kernel) (by decide +kernel)) (goodIn_sub (fun _ h => List.mem_append_left _ (List.mem_append_left _ (List.mem_append_right _ h))) (by decide +kernel))
set_option maxRecDepth 20000 in
theorem gL_law_L_setLimits : GoodIn wsL_law (va_wsS RL 78 yL_setLimits wsL_setLimits) := goodIn_app (goodIn_of _ (by decide +kernel)) ggL_law_L_setLimits
set_option maxRecDepth 20000 in
theorem ggL_law_X3_setLimits : GoodIn wsL_law wsX3_setLimits := goodIn_r _ [141, 83, 45, 46, 47, 90, 91, 5, 92, 93, 94, 95, 96, 588, 589, 590, 591, 592, 593, 594, 595, 596, 597, 598, 599, 600] (by decide +kernel) (by decide +kernel)
set_option maxRecDepth 20000 in
theorem gL_law_X3_setLimits : GoodIn wsL_law (wsV RL 81 RX3 yX3_setLimits wsX3_setLimits) := goodIn_app (goodIn_of _ (by decide +kernel)) ggL_law_X3_setLimits
set_option maxRecDepth 20000 in
theorem ggL_law_L_setPlug : GoodIn wsL_law wsL_setPlug := goodIn_ca (goodIn_ca (goodIn_r _ [144, 104, 53, 145, 146, 147, 2, 148, 109, 110, 60, 61, 149, 150, 151, 152, 153, 16, 64, 65, 66, 154, 155, 156, 24, 157, 30, 158, 601, 602, 603, 604, 605, 580, 581, 582, 583, 584, 585, 586, 587, 606, 607, 608, 609, 610, 611, 612, 613] (by decide +kernel) (by decide +kernel)) (goodIn_sub (fun _ h => List.mem_append_right _ h) (by decide +kernel))) (goodIn_sub (fun _ h => List.mem_append_left _ (List.mem_append_right _ h)) (by decide +kernel))
set_option maxRecDepth 20000 in
theorem gL_law_L_setPlug : GoodIn wsL_law (va_wsS RL 82 yL_setPlug wsL_setPlug) := goodIn_app (goodIn_of _ (by decide +kernel)) ggL_law_L_setPlug
set_option maxRecDepth 20000 in
theorem ggL_law_X3_setPlug : GoodIn wsL_law wsX3_setPlug := goodIn_r _ [162, 83, 85, 44, 163, 164, 5, 165, 90, 91, 92, 166, 167, 168, 169, 170, 171, 172, 41, 173, 174, 175, 176, 40, 177, 178, 179, 180, 588, 589, 590, 591, 592, 593, 594, 595, 596, 597, 598, 599, 600] (by decide +kernel) (by decide +kernel)
set_option maxRecDepth 20000 in
theorem gL_law_X3_setPlug : GoodIn wsL_law (wsV RL 85 RX3 yX3_setPlug wsX3_setPlug) := goodIn_app (goodIn_of _ (by decide +kernel)) ggL_law_X3_setPlug
set_option maxRecDepth 20000 in
theorem ggL_law_L_canLoad : GoodIn wsL_law wsL_canLoad := goodIn_ca (goodIn_r _ [183, 104, 184, 185, 186, 2, 187, 109, 110, 111, 112, 113, 114, 14, 150, 151, 152, 153, 16, 64, 65, 66, 188, 189, 190, 191, 18, 192, 193, 19, 194, 195, 196, 197, 63, 198, 76, 119, 120, 121, 122, 71, 72, 199, 200, 201, 24, 202, 30, 203, 204, 205, 206, 207, 34, 31, 208, 209, 210, 211, 212, 213, 214, 215, 216, 78, 217, 218, 219, 220, 32, 221, 222, 223, 224, 33, 580, 581, 582, 583, 584, 585, 586, 587, 601, 602, 603, 604, 605, 606, 607, 608, 609, 610, 611, 612, 613] (by decide +kernel) (by decide +kernel)) (goodIn_sub (fun _ h => List.mem_append_right _ h) (by decide +kernel))
set_option maxRecDepth 20000 in
theorem gL_law_L_canLoad : GoodIn wsL_law (va_wsS RL 86 yL_canLoad wsL_canLoad) := goodIn_app (goodIn_of _ (by decide +kernel)) ggL_law_L_canLoad
set_option maxRecDepth 20000 in
theorem ggL_law_X3_canLoad : GoodIn wsL_law wsX3_canLoad := goodIn_r _ [228, 83, 127, 128, 129, 5, 130, 85, 90, 91, 92, 163, 164, 165, 166, 167, 168, 229, 230, 231, 232, 40, 84, 45, 44, 41, 173, 174, 175, 176, 233, 234, 235, 236, 169, 170, 171, 172, 237, 238, 239, 240, 241, 242, 243, 244, 177, 178, 179, 180, 245, 246, 247, 248, 222, 223, 224, 588, 589, 590, 591, 592, 593, 594, 595, 596, 597, 598, 599, 600] (by decide +kernel) (by decide +kernel)
set_option maxRecDepth 20000 in
theorem gL_law_X3_canLoad : GoodIn wsL_law (wsV RL 88 RX3 yX3_canLoad wsX3_canLoad) := goodIn_app (goodIn_of _ (by decide +kernel)) ggL_law_X3_canLoad
set_option maxRecDepth 20000 in
theorem ggL_law_L_load : GoodIn wsL_law wsL_load := goodIn_ca (goodIn_ca (goodIn_r _ [251, 104, 53, 252, 253, 254, 2, 255, 109, 110, 60, 61, 256, 111, 112, 113, 114, 14, 150, 151, 152, 153, 16, 64, 65, 66, 188, 189, 190, 191, 18, 192, 193, 19, 194, 195, 196, 197, 63, 198, 76, 119, 120, 121, 122, 71, 72, 199, 200, 201, 24, 202, 30, 203, 204, 205, 206, 207, 34, 31, 208, 209, 210, 211, 212, 213, 214, 215, 216, 78, 217, 218, 219, 220, 32, 221, 222, 223, 224, 33, 257, 258, 259, 260, 261, 262, 606, 607, 608, 609, 610, 611, 612, 613, 580, 581, 582, 583, 584, 585, 586, 587, 601, 602, 603, 604, 605] (by decide +kernel) (by decide +kernel)) (goodIn_sub (fun _ h => List.mem_append_right _ h) (by decide +kernel))) (goodIn_sub (fun _ h => List.mem_append_left _ (List.mem_append_right _ h)) (by decide +kernel))
set_option maxRecDepth 20000 in
theorem gL_law_L_load : GoodIn wsL_law (va_wsS RL 89 yL_load wsL_load) := goodIn_app (goodIn_of _ (by decide +kernel)) ggL_law_L_load
set_option maxRecDepth 20000 in
theorem ggL_law_X3_load : GoodIn wsL_law wsX3_load := goodIn_r _ [266, 83, 42, 127, 128, 129, 5, 130, 85, 90, 91, 92, 163, 164, 165, 93, 94, 95, 96, 166, 167, 168, 229, 230, 231, 232, 40, 84, 45, 44, 41, 173, 174, 175, 176, 233, 234, 235, 236, 169, 170, 171, 172, 237, 238, 239, 240, 241, 242, 243, 244, 177, 178, 179, 180, 245, 246, 247, 248, 222, 223, 224, 267, 268, 269, 270, 588, 589, 590, 591, 592, 593, 594, 595, 596, 597, 598, 599, 600] (by decide +kernel) (by decide +kernel)
set_option maxRecDepth 20000 in
theorem gL_law_X3_load : GoodIn wsL_law (wsV RL 91 RX3 yX3_load wsX3_load) := goodIn_app (goodIn_of _ (by decide +kernel)) ggL_law_X3_load
set_option maxRecDepth 20000 in
theorem ggL_law_L_lift : GoodIn wsL_law wsL_lift := goodIn_ca (goodIn_ca (goodIn_r _ [273, 104, 53, 274, 275, 276, 2, 277, 109, 110, 60, 61, 278, 18, 150, 151, 152, 153, 16, 64, 65, 66, 279, 280, 281, 24, 282, 31, 283, 284, 285, 286, 30, 287, 288, 289, 290, 261, 291, 292, 293, 294, 606, 607, 608, 609, 610, 611, 612, 613, 580, 581, 582, 583, 584, 585, 586, 587, 601, 602, 603, 604, 605] (by decide +kernel) (by decide +kernel)) (goodIn_sub (fun _ h => List.mem_append_right _ h) (by decide +kernel))) (goodIn_sub (fun _ h => List.mem_append_left _ (List.mem_append_right _ h)) (by decide +kernel))
set_option maxRecDepth 20000 in
theorem gL_law_L_lift : GoodIn wsL_law (va_wsS RL 92 yL_lift wsL_lift) := goodIn_app (goodIn_of _ (by decide +kernel)) ggL_law_L_lift
set_option maxRecDepth 20000 in
theorem ggL_law_X3_lift : GoodIn wsL_law wsX3_lift := goodIn_r _ [298, 83, 40, 84, 163, 164, 5, 165, 90, 91, 92, 93, 94, 95, 96, 166, 167, 168, 233, 234, 235, 236, 85, 169, 170, 171, 172, 41, 173, 174, 175, 176, 299, 300, 301, 302, 42, 588, 589, 590, 591, 592, 593, 594, 595, 596, 597, 598, 599, 600] (by decide +kernel) (by decide +kernel)
set_option maxRecDepth 20000 in
theorem gL_law_X3_lift : GoodIn wsL_law (wsV RL 94 RX3 yX3_lift wsX3_lift) := goodIn_app (goodIn_of _ (by decide +kernel)) ggL_law_X3_lift
set_option maxRecDepth 20000 in
theorem ggL_law_X2_plan : GoodIn wsL_law wsX2_plan := goodIn_r _ [306, 307, 308, 309, 2, 310, 14, 311, 312, 313, 63, 314, 77, 75, 315, 316, 317, 318, 16, 188, 189, 190, 191, 18, 192, 193, 19, 194, 195, 196, 197, 198, 76, 119, 120, 121, 122, 71, 72, 199, 200, 201, 24, 202, 30, 203, 204, 205, 206, 207, 34, 31, 208, 209, 210, 211, 212, 213, 214, 215, 216, 78, 217, 218, 219, 220, 32, 221, 222, 223, 224, 33, 319, 320, 321, 322, 323, 324, 325, 326, 327, 328, 329, 330, 331, 332, 333, 334, 335, 336, 337, 338, 339, 340, 341, 257, 258, 259, 260, 261, 262, 580, 581, 582, 583, 584, 585, 586, 587, 606, 607, 608, 609, 610, 611, 612, 613, 601, 602, 603, 604, 605] (by decide +kernel) (by decide +kernel)
set_option maxRecDepth 20000 in
theorem gL_law_X2_plan : GoodIn wsL_law (wsV RL 95 RX2 yX2_plan wsX2_plan) := goodIn_app (goodIn_of _ (by decide +kernel)) ggL_law_X2_plan
set_option maxRecDepth 20000 in
theorem ggL_law_X3_plan : GoodIn wsL_law wsX3_plan := goodIn_r _ [345, 83, 346, 347, 348, 5, 349, 85, 350, 351, 352, 353, 229, 230, 231, 232, 40, 84, 45, 44, 41, 173, 174, 175, 176, 233, 234, 235, 236, 169, 170, 171, 172, 237, 238, 239, 240, 241, 242, 243, 244, 177, 178, 179, 180, 245, 246, 247, 248, 222, 223, 224, 354, 355, 356, 357, 358, 359, 360, 361, 362, 363, 364, 365, 366, 367, 368, 369, 370, 371, 372, 267, 268, 269, 270, 42, 588, 589, 590, 591, 592, 593, 594, 595, 596, 597, 598, 599, 600] (by decide +kernel) (by decide +kernel)
set_option maxRecDepth 20000 in
theorem gL_law_X3_plan : GoodIn wsL_law (wsV RL 98 RX3 yX3_plan wsX3_plan) := goodIn_app (goodIn_of _ (by decide +kernel)) ggL_law_X3_plan
set_option maxRecDepth 20000 in
theorem ggL_law_L_sail : GoodIn wsL_law wsL_sail := goodIn_ca (goodIn_r _ [375, 53, 376, 377, 378, 2, 379, 60, 61, 18, 16, 22, 380, 381, 382, 383, 324, 222, 223, 224, 20, 21, 384, 325, 326, 327, 328, 199, 200, 201, 24, 202, 30, 203, 329, 330, 331, 332, 32, 333, 334, 335, 336, 33, 385, 386, 387, 388, 14, 212, 193, 256, 389, 390, 391, 392, 341, 393, 394, 395, 396, 31, 261, 397, 398, 258, 259, 260, 262, 580, 581, 582, 583, 584, 585, 586, 587, 601, 602, 603, 604, 605, 606, 607, 608, 609, 610, 611, 612, 613] (by decide +kernel) (by decide +kernel)) (goodIn_sub (fun _ h => List.mem_append_left _ (List.mem_append_right _ h)) (by decide +kernel))
set_option maxRecDepth 20000 in
theorem gL_law_L_sail : GoodIn wsL_law (va_wsS RL 99 yL_sail wsL_sail) := goodIn_app (goodIn_of _ (by decide +kernel)) ggL_law_L_sail
set_option maxRecDepth 20000 in
theorem ggL_law_X3_sail : GoodIn wsL_law wsX3_sail := goodIn_r _ [402, 83, 84, 403, 40, 42, 404, 405, 406, 5, 407, 248, 222, 223, 224, 46, 47, 408, 409, 410, 411, 412, 413, 85, 173, 174, 175, 176, 241, 242, 243, 244, 366, 367, 368, 369, 41, 370, 371, 372, 93, 94, 95, 96, 414, 415, 416, 417, 354, 355, 356, 357, 418, 419, 420, 421, 422, 423, 424, 169, 170, 171, 172, 233, 234, 235, 236, 299, 300, 301, 302, 588, 589, 590, 591, 592, 593, 594, 595, 596, 597, 598, 599, 600] (by decide +kernel) (by decide +kernel)
set_option maxRecDepth 20000 in
theorem gL_law_X3_sail : GoodIn wsL_law (wsV RL 102 RX3 yX3_sail wsX3_sail) := goodIn_app (goodIn_of _ (by decide +kernel)) ggL_law_X3_sail
set_option maxRecDepth 20000 in
theorem ggL_law_X2_port : GoodIn wsL_law wsX2_port := goodIn_r _ [428, 18, 580, 581, 582, 583, 584, 585, 586, 587] (by decide +kernel) (by decide +kernel)
set_option maxRecDepth 20000 in
theorem gL_law_X2_port : GoodIn wsL_law (wsV RL 103 RX2 yX2_port wsX2_port) := goodIn_app (goodIn_of _ (by decide +kernel)) ggL_law_X2_port
set_option maxRecDepth 20000 in
theorem ggL_law_X3_port : GoodIn wsL_law wsX3_port := goodIn_r _ [432, 83, 84, 588, 589, 590, 591, 592, 593, 594, 595, 596, 597, 598, 599, 600] (by decide +kernel) (by decide +kernel)
set_option maxRecDepth 20000 in
theorem gL_law_X3_port : GoodIn wsL_law (wsV RL 106 RX3 yX3_port wsX3_port) := goodIn_app (goodIn_of _ (by decide +kernel)) ggL_law_X3_port
set_option maxRecDepth 20000 in
theorem ggL_law_L_at : GoodIn wsL_law wsL_at := goodIn_ca (goodIn_r _ [435, 104, 436, 437, 438, 2, 439, 109, 110, 150, 151, 152, 153, 16, 64, 65, 66, 440, 284, 285, 24, 286, 30, 291, 292, 293, 294, 580, 581, 582, 583, 584, 585, 586, 587, 601, 602, 603, 604, 605, 606, 607, 608, 609, 610, 611, 612, 613] (by decide +kernel) (by decide +kernel)) (goodIn_sub (fun _ h => List.mem_append_right _ h) (by decide +kernel))
set_option maxRecDepth 20000 in
theorem gL_law_L_at : GoodIn wsL_law (va_wsS RL 107 yL_at wsL_at) := goodIn_app (goodIn_of _ (by decide +kernel)) ggL_law_L_at
set_option maxRecDepth 20000 in
theorem ggL_law_X3_at : GoodIn wsL_law wsX3_at := goodIn_r _ [444, 83, 163, 164, 5, 165, 90, 91, 92, 166, 167, 168, 299, 300, 301, 302, 85, 42, 169, 170, 171, 172, 41, 173, 174, 175, 176, 40, 93, 94, 95, 96, 588, 589, 590, 591, 592, 593, 594, 595, 596, 597, 598, 599, 600] (by decide +kernel) (by decide +kernel)
set_option maxRecDepth 20000 in
theorem gL_law_X3_at : GoodIn wsL_law (wsV RL 109 RX3 yX3_at wsX3_at) := goodIn_app (goodIn_of _ (by decide +kernel)) ggL_law_X3_at
set_option maxRecDepth 20000 in
theorem ggL_law_L_where : GoodIn wsL_law wsL_where := goodIn_ca (goodIn_r _ [447, 104, 448, 449, 450, 2, 451, 109, 110, 111, 112, 113, 114, 14, 452, 453, 454, 63, 455, 72, 456, 457, 73, 580, 581, 582, 583, 584, 585, 586, 587, 606, 607, 608, 609, 610, 611, 612, 613, 601, 602, 603, 604, 605] (by decide +kernel) (by decide +kernel)) (goodIn_sub (fun _ h => List.mem_append_right _ h) (by decide +kernel))
set_option maxRecDepth 20000 in
theorem gL_law_L_where : GoodIn wsL_law (va_wsS RL 110 yL_where wsL_where) := goodIn_app (goodIn_of _ (by decide +kernel)) ggL_law_L_where
set_option maxRecDepth 20000 in
theorem ggL_law_X3_where : GoodIn wsL_law wsX3_where := goodIn_r _ [461, 83, 127, 128, 129, 5, 130, 85, 90, 91, 92, 462, 463, 464, 465, 41, 42, 173, 174, 175, 176, 40, 93, 94, 95, 96, 588, 589, 590, 591, 592, 593, 594, 595, 596, 597, 598, 599, 600] (by decide +kernel) (by decide +kernel)
set_option maxRecDepth 20000 in
theorem gL_law_X3_where : GoodIn wsL_law (wsV RL 113 RX3 yX3_where wsX3_where) := goodIn_app (goodIn_of _ (by decide +kernel)) ggL_law_X3_where
set_option maxRecDepth 20000 in
theorem ggL_law_X2_moment : GoodIn wsL_law wsX2_moment := goodIn_r _ [328, 16, 199, 200, 201, 24, 202, 30, 203, 329, 330, 331, 332, 32, 333, 334, 335, 336, 33, 580, 581, 582, 583, 584, 585, 586, 587, 601, 602, 603, 604, 605, 606, 607, 608, 609, 610, 611, 612, 613] (by decide +kernel) (by decide +kernel)
set_option maxRecDepth 20000 in
theorem gL_law_X2_moment : GoodIn wsL_law (wsV RL 114 RX2 yX2_moment wsX2_moment) := goodIn_app (goodIn_of _ (by decide +kernel)) ggL_law_X2_moment
set_option maxRecDepth 20000 in
theorem ggL_law_X3_moment : GoodIn wsL_law wsX3_moment := goodIn_r _ [470, 83, 366, 367, 368, 5, 369, 85, 41, 173, 174, 175, 176, 40, 241, 242, 243, 244, 370, 371, 372, 588, 589, 590, 591, 592, 593, 594, 595, 596, 597, 598, 599, 600] (by decide +kernel) (by decide +kernel)
set_option maxRecDepth 20000 in
theorem gL_law_X3_moment : GoodIn wsL_law (wsV RL 118 RX3 yX3_moment wsX3_moment) := goodIn_app (goodIn_of _ (by decide +kernel)) ggL_law_X3_moment
set_option maxRecDepth 20000 in
theorem ggL_law_X2_height : GoodIn wsL_law wsX2_height := goodIn_r _ [388, 14, 212, 193, 256, 580, 581, 582, 583, 584, 585, 586, 587, 606, 607, 608, 609, 610, 611, 612, 613] (by decide +kernel) (by decide +kernel)
set_option maxRecDepth 20000 in
theorem gL_law_X2_height : GoodIn wsL_law (wsV RL 119 RX2 yX2_height wsX2_height) := goodIn_app (goodIn_of _ (by decide +kernel)) ggL_law_X2_height
set_option maxRecDepth 20000 in
theorem ggL_law_X3_height : GoodIn wsL_law wsX3_height := goodIn_r _ [475, 83, 409, 408, 410, 411, 412, 5, 413, 85, 42, 173, 174, 175, 176, 40, 241, 242, 243, 244, 588, 589, 590, 591, 592, 593, 594, 595, 596, 597, 598, 599, 600] (by decide +kernel) (by decide +kernel)
set_option maxRecDepth 20000 in
theorem gL_law_X3_height : GoodIn wsL_law (wsV RL 123 RX3 yX3_height wsX3_height) := goodIn_app (goodIn_of _ (by decide +kernel)) ggL_law_X3_height
set_option maxRecDepth 20000 in
theorem ggL_law_X2_isSteady : GoodIn wsL_law wsX2_isSteady := goodIn_r _ [383, 324, 222, 223, 224, 20, 21, 384, 325, 326, 327, 2, 328, 16, 199, 200, 201, 24, 202, 30, 203, 329, 330, 331, 332, 32, 333, 334, 335, 336, 33, 385, 386, 387, 388, 14, 212, 193, 256, 580, 581, 582, 583, 584, 585, 586, 587, 601, 602, 603, 604, 605, 606, 607, 608, 609, 610, 611, 612, 613] (by decide +kernel) (by decide +kernel)
set_option maxRecDepth 20000 in
theorem gL_law_X2_isSteady : GoodIn wsL_law (wsV RL 124 RX2 yX2_isSteady wsX2_isSteady) := goodIn_app (goodIn_of _ (by decide +kernel)) ggL_law_X2_isSteady
set_option maxRecDepth 20000 in
theorem ggL_law_X3_isSteady : GoodIn wsL_law wsX3_isSteady := goodIn_r _ [480, 83, 404, 405, 406, 5, 407, 248, 222, 223, 224, 46, 47, 408, 409, 410, 411, 412, 413, 85, 42, 173, 174, 175, 176, 40, 241, 242, 243, 244, 366, 367, 368, 369, 41, 370, 371, 372, 588, 589, 590, 591, 592, 593, 594, 595, 596, 597, 598, 599, 600] (by decide +kernel) (by decide +kernel)
set_option maxRecDepth 20000 in
theorem gL_law_X3_isSteady : GoodIn wsL_law (wsV RL 128 RX3 yX3_isSteady wsX3_isSteady) := goodIn_app (goodIn_of _ (by decide +kernel)) ggL_law_X3_isSteady
set_option maxRecDepth 20000 in
theorem ggL_law_X2_count : GoodIn wsL_law wsX2_count := goodIn_r _ [484, 14, 18, 212, 195, 196, 197, 63, 198, 76, 119, 120, 121, 122, 71, 72, 580, 581, 582, 583, 584, 585, 586, 587, 606, 607, 608, 609, 610, 611, 612, 613] (by decide +kernel) (by decide +kernel)
set_option maxRecDepth 20000 in
theorem gL_law_X2_count : GoodIn wsL_law (wsV RL 129 RX2 yX2_count wsX2_count) := goodIn_app (goodIn_of _ (by decide +kernel)) ggL_law_X2_count
set_option maxRecDepth 20000 in
theorem ggL_law_X3_count : GoodIn wsL_law wsX3_count := goodIn_r _ [488, 83, 85, 40, 84, 173, 174, 175, 5, 176, 588, 589, 590, 591, 592, 593, 594, 595, 596, 597, 598, 599, 600] (by decide +kernel) (by decide +kernel)
set_option maxRecDepth 20000 in
theorem gL_law_X3_count : GoodIn wsL_law (wsV RL 132 RX3 yX3_count wsX3_count) := goodIn_app (goodIn_of _ (by decide +kernel)) ggL_law_X3_count
set_option maxRecDepth 20000 in
theorem ggL_law_L_weight : GoodIn wsL_law wsL_weight := goodIn_ca (goodIn_r _ [491, 104, 492, 493, 494, 2, 495, 109, 110, 16, 496, 64, 65, 66, 199, 200, 201, 24, 202, 30, 203, 580, 581, 582, 583, 584, 585, 586, 587, 601, 602, 603, 604, 605, 606, 607, 608, 609, 610, 611, 612, 613] (by decide +kernel) (by decide +kernel)) (goodIn_sub (fun _ h => List.mem_append_right _ h) (by decide +kernel))
set_option maxRecDepth 20000 in
theorem gL_law_L_weight : GoodIn wsL_law (va_wsS RL 133 yL_weight wsL_weight) := goodIn_app (goodIn_of _ (by decide +kernel)) ggL_law_L_weight
set_option maxRecDepth 20000 in
theorem ggL_law_X3_weight : GoodIn wsL_law wsX3_weight := goodIn_r _ [500, 83, 90, 91, 5, 92, 93, 94, 95, 96, 166, 167, 168, 237, 238, 239, 240, 85, 169, 170, 171, 172, 41, 173, 174, 175, 176, 40, 241, 242, 243, 244, 588, 589, 590, 591, 592, 593, 594, 595, 596, 597, 598, 599, 600] (by decide +kernel) (by decide +kernel)
set_option maxRecDepth 20000 in
theorem gL_law_X3_weight : GoodIn wsL_law (wsV RL 135 RX3 yX3_weight wsX3_weight) := goodIn_app (goodIn_of _ (by decide +kernel)) ggL_law_X3_weight
set_option maxRecDepth 20000 in
theorem ggL_law_X2_blocked : GoodIn wsL_law wsX2_blocked := goodIn_r _ [504, 14, 505, 506, 507, 63, 508, 72, 73, 77, 509, 510, 511, 24, 512, 30, 262, 341, 580, 581, 582, 583, 584, 585, 586, 587, 606, 607, 608, 609, 610, 611, 612, 613, 601, 602, 603, 604, 605] (by decide +kernel) (by decide +kernel)
set_option maxRecDepth 20000 in
theorem gL_law_X2_blocked : GoodIn wsL_law (wsV RL 136 RX2 yX2_blocked wsX2_blocked) := goodIn_app (goodIn_of _ (by decide +kernel)) ggL_law_X2_blocked
set_option maxRecDepth 20000 in
theorem ggL_law_X3_blocked : GoodIn wsL_law wsX3_blocked := goodIn_r _ [516, 83, 85, 173, 174, 175, 5, 176, 40, 517, 518, 519, 520, 41, 42, 169, 170, 171, 172, 354, 355, 356, 357, 588, 589, 590, 591, 592, 593, 594, 595, 596, 597, 598, 599, 600] (by decide +kernel) (by decide +kernel)
set_option maxRecDepth 20000 in
theorem gL_law_X3_blocked : GoodIn wsL_law (wsV RL 139 RX3 yX3_blocked wsX3_blocked) := goodIn_app (goodIn_of _ (by decide +kernel)) ggL_law_X3_blocked
set_option maxRecDepth 20000 in
theorem ggL_law_L_lifts : GoodIn wsL_law wsL_lifts := goodIn_ca (goodIn_r _ [523, 104, 524, 525, 526, 2, 527, 109, 110, 16, 64, 65, 66, 389, 390, 391, 24, 392, 30, 341, 580, 581, 582, 583, 584, 585, 586, 587, 601, 602, 603, 604, 605, 606, 607, 608, 609, 610, 611, 612, 613] (by decide +kernel) (by decide +kernel)) (goodIn_sub (fun _ h => List.mem_append_right _ h) (by decide +kernel))
set_option maxRecDepth 20000 in
theorem gL_law_L_lifts : GoodIn wsL_law (va_wsS RL 140 yL_lifts wsL_lifts) := goodIn_app (goodIn_of _ (by decide +kernel)) ggL_law_L_lifts
set_option maxRecDepth 20000 in
theorem ggL_law_X3_lifts : GoodIn wsL_law wsX3_lifts := goodIn_r _ [531, 83, 90, 91, 5, 92, 414, 415, 416, 417, 85, 42, 41, 173, 174, 175, 176, 40, 354, 355, 356, 357, 418, 419, 420, 421, 422, 423, 223, 424, 169, 170, 171, 172, 93, 94, 95, 96, 588, 589, 590, 591, 592, 593, 594, 595, 596, 597, 598, 599, 600] (by decide +kernel) (by decide +kernel)
set_option maxRecDepth 20000 in
theorem gL_law_X3_lifts : GoodIn wsL_law (wsV RL 142 RX3 yX3_lifts wsX3_lifts) := goodIn_app (goodIn_of _ (by decide +kernel)) ggL_law_X3_lifts
set_option maxRecDepth 20000 in
theorem ggL_law_X2_freePlugs : GoodIn wsL_law wsX2_freePlugs := goodIn_r _ [535, 16, 149, 192, 580, 581, 582, 583, 584, 585, 586, 587, 601, 602, 603, 604, 605] (by decide +kernel) (by decide +kernel)
set_option maxRecDepth 20000 in
theorem gL_law_X2_freePlugs : GoodIn wsL_law (wsV RL 143 RX2 yX2_freePlugs wsX2_freePlugs) := goodIn_app (goodIn_of _ (by decide +kernel)) ggL_law_X2_freePlugs
set_option maxRecDepth 20000 in
theorem ggL_law_X3_freePlugs : GoodIn wsL_law wsX3_freePlugs := goodIn_r _ [539, 83, 44, 540, 541, 223, 542, 233, 234, 235, 5, 236, 85, 169, 170, 171, 172, 41, 173, 174, 175, 176, 40, 588, 589, 590, 591, 592, 593, 594, 595, 596, 597, 598, 599, 600] (by decide +kernel) (by decide +kernel)
set_option maxRecDepth 20000 in
theorem gL_law_X3_freePlugs : GoodIn wsL_law (wsV RL 146 RX3 yX3_freePlugs wsX3_freePlugs) := goodIn_app (goodIn_of _ (by decide +kernel)) ggL_law_X3_freePlugs
set_option maxRecDepth 20000 in
theorem ggL_law_L_choices : GoodIn wsL_law wsL_choices := goodIn_ca (goodIn_r _ [545, 104, 546, 547, 548, 2, 549, 109, 110, 16, 111, 112, 113, 114, 14, 188, 189, 190, 191, 18, 192, 193, 19, 194, 195, 196, 197, 63, 198, 76, 119, 120, 121, 122, 71, 72, 199, 200, 201, 24, 202, 30, 203, 204, 205, 206, 207, 34, 31, 208, 209, 210, 211, 212, 213, 214, 215, 216, 78, 217, 218, 219, 220, 32, 221, 222, 223, 224, 33, 580, 581, 582, 583, 584, 585, 586, 587, 601, 602, 603, 604, 605, 606, 607, 608, 609, 610, 611, 612, 613] (by decide +kernel) (by decide +kernel)) (goodIn_sub (fun _ h => List.mem_append_right _ h) (by decide +kernel))
set_option maxRecDepth 20000 in
theorem gL_law_L_choices : GoodIn wsL_law (va_wsS RL 147 yL_choices wsL_choices) := goodIn_app (goodIn_of _ (by decide +kernel)) ggL_law_L_choices
set_option maxRecDepth 20000 in
theorem ggL_law_X3_choices : GoodIn wsL_law wsX3_choices := goodIn_r _ [553, 83, 127, 128, 129, 5, 130, 85, 90, 91, 92, 350, 351, 352, 353, 229, 230, 231, 232, 40, 84, 45, 44, 41, 173, 174, 175, 176, 233, 234, 235, 236, 169, 170, 171, 172, 237, 238, 239, 240, 241, 242, 243, 244, 177, 178, 179, 180, 245, 246, 247, 248, 222, 223, 224, 93, 94, 95, 96, 588, 589, 590, 591, 592, 593, 594, 595, 596, 597, 598, 599, 600] (by decide +kernel) (by decide +kernel)
set_option maxRecDepth 20000 in
theorem gL_law_X3_choices : GoodIn wsL_law (wsV RL 149 RX3 yX3_choices wsX3_choices) := goodIn_app (goodIn_of _ (by decide +kernel)) ggL_law_X3_choices
set_option maxRecDepth 20000 in
theorem ggL_law_X2_lifted : GoodIn wsL_law wsX2_lifted := goodIn_r _ [557, 22, 580, 581, 582, 583, 584, 585, 586, 587] (by decide +kernel) (by decide +kernel)
set_option maxRecDepth 20000 in
theorem gL_law_X2_lifted : GoodIn wsL_law (wsV RL 150 RX2 yX2_lifted wsX2_lifted) := goodIn_app (goodIn_of _ (by decide +kernel)) ggL_law_X2_lifted
set_option maxRecDepth 20000 in
theorem ggL_law_X3_lifted : GoodIn wsL_law wsX3_lifted := goodIn_r _ [561, 83, 403, 588, 589, 590, 591, 592, 593, 594, 595, 596, 597, 598, 599, 600] (by decide +kernel) (by decide +kernel)
set_option maxRecDepth 20000 in
theorem gL_law_X3_lifted : GoodIn wsL_law (wsV RL 153 RX3 yX3_lifted wsX3_lifted) := goodIn_app (goodIn_of _ (by decide +kernel)) ggL_law_X3_lifted
set_option maxRecDepth 20000 in
theorem ggL_law_X2_digest : GoodIn wsL_law wsX2_digest := goodIn_r _ [565, 566, 18, 17, 14, 19, 20, 21, 16, 149, 22, 567, 568, 2, 569, 570, 571, 572, 573, 115, 116, 117, 63, 118, 75, 76, 77, 78, 119, 120, 121, 122, 71, 72, 452, 453, 454, 455, 456, 457, 73, 325, 326, 327, 328, 199, 200, 201, 24, 202, 30, 203, 329, 330, 331, 332, 32, 333, 334, 335, 336, 33, 580, 581, 582, 583, 584, 585, 586, 587, 601, 602, 603, 604, 605, 606, 607, 608, 609, 610, 611, 612, 613] (by decide +kernel) (by decide +kernel)
set_option maxRecDepth 20000 in
theorem gL_law_X2_digest : GoodIn wsL_law (wsV RL 154 RX2 yX2_digest wsX2_digest) := goodIn_app (goodIn_of _ (by decide +kernel)) ggL_law_X2_digest
set_option maxRecDepth 20000 in
theorem ggL_law_X3_digest : GoodIn wsL_law wsX3_digest := goodIn_r _ [577, 83, 578, 84, 579, 85, 40, 45, 46, 47, 44, 403, 462, 463, 464, 5, 465, 41, 42, 173, 174, 175, 176, 366, 367, 368, 369, 241, 242, 243, 244, 370, 371, 372, 588, 589, 590, 591, 592, 593, 594, 595, 596, 597, 598, 599, 600] (by decide +kernel) (by decide +kernel)
set_option maxRecDepth 20000 in
theorem gL_law_X3_digest : GoodIn wsL_law (wsV RL 158 RX3 yX3_digest wsX3_digest) := goodIn_app (goodIn_of _ (by decide +kernel)) ggL_law_X3_digest
theorem dL_law_0 : decode cL_law 0 = .ok (.new 8, 3) := by decide +kernel
theorem dL_law_3 : decode cL_law 3 = .ok (.dup, 1) := by decide +kernel
theorem dL_law_4 : decode cL_law 4 = .ok (.invokespecial 61, 3) := by decide +kernel
theorem dL_law_7 : decode cL_law 7 = .ok (.astore_n 1, 1) := by decide +kernel
theorem dL_law_8 : decode cL_law 8 = .ok (.new 62, 3) := by decide +kernel
theorem dL_law_11 : decode cL_law 11 = .ok (.dup, 1) := by decide +kernel
theorem dL_law_12 : decode cL_law 12 = .ok (.invokespecial 64, 3) := by decide +kernel
theorem dL_law_15 : decode cL_law 15 = .ok (.astore_n 2, 1) := by decide +kernel
theorem dL_law_16 : decode cL_law 16 = .ok (.iconst 1, 1) := by decide +kernel
theorem dL_law_17 : decode cL_law 17 = .ok (.newarray .long, 2) := by decide +kernel
theorem dL_law_19 : decode cL_law 19 = .ok (.astore_n 3, 1) := by decide +kernel
theorem dL_law_20 : decode cL_law 20 = .ok (.iconst 0, 1) := by decide +kernel
theorem dL_law_21 : decode cL_law 21 = .ok (.istore 4, 2) := by decide +kernel
theorem dL_law_23 : decode cL_law 23 = .ok (.iload 4, 2) := by decide +kernel
theorem dL_law_25 : decode cL_law 25 = .ok (.aload_n 0, 1) := by decide +kernel
theorem dL_law_26 : decode cL_law 26 = .ok (.arraylength, 1) := by decide +kernel
theorem dL_law_27 : decode cL_law 27 = .ok (.iconst 5, 1) := by decide +kernel
theorem dL_law_28 : decode cL_law 28 = .ok (.isub, 1) := by decide +kernel
theorem dL_law_29 : decode cL_law 29 = .ok (.if_icmp .gt 1262, 3) := by decide +kernel
theorem dL_law_32 : decode cL_law 32 = .ok (.aload_n 0, 1) := by decide +kernel
theorem dL_law_33 : decode cL_law 33 = .ok (.iload 4, 2) := by decide +kernel
theorem dL_law_35 : decode cL_law 35 = .ok (.iaload, 1) := by decide +kernel
theorem dL_law_36 : decode cL_law 36 = .ok (.bipush 31, 2) := by decide +kernel
theorem dL_law_38 : decode cL_law 38 = .ok (.iand, 1) := by decide +kernel
theorem dL_law_39 : decode cL_law 39 = .ok (.tableswitch 1246 0 22 #[105, 197, 265, 345, 448, 535, 615, 683, 696, 740, 753, 833, 889, 930, 971, 984, 1025, 1081, 1094, 1150, 1163, 1219, 1232], 105) := by decide +kernel
theorem dL_law_144 : decode cL_law 144 = .ok (.aload_n 1, 1) := by decide +kernel
theorem dL_law_145 : decode cL_law 145 = .ok (.aload_n 0, 1) := by decide +kernel
theorem dL_law_146 : decode cL_law 146 = .ok (.iload 4, 2) := by decide +kernel
theorem dL_law_148 : decode cL_law 148 = .ok (.iconst 1, 1) := by decide +kernel
theorem dL_law_149 : decode cL_law 149 = .ok (.iadd, 1) := by decide +kernel
theorem dL_law_150 : decode cL_law 150 = .ok (.iaload, 1) := by decide +kernel
theorem dL_law_151 : decode cL_law 151 = .ok (.aload_n 0, 1) := by decide +kernel
theorem dL_law_152 : decode cL_law 152 = .ok (.iload 4, 2) := by decide +kernel
theorem dL_law_154 : decode cL_law 154 = .ok (.iconst 2, 1) := by decide +kernel
theorem dL_law_155 : decode cL_law 155 = .ok (.iadd, 1) := by decide +kernel
theorem dL_law_156 : decode cL_law 156 = .ok (.iaload, 1) := by decide +kernel
theorem dL_law_157 : decode cL_law 157 = .ok (.aload_n 0, 1) := by decide +kernel
theorem dL_law_158 : decode cL_law 158 = .ok (.iload 4, 2) := by decide +kernel
theorem dL_law_160 : decode cL_law 160 = .ok (.iconst 3, 1) := by decide +kernel
theorem dL_law_161 : decode cL_law 161 = .ok (.iadd, 1) := by decide +kernel
theorem dL_law_162 : decode cL_law 162 = .ok (.iaload, 1) := by decide +kernel
theorem dL_law_163 : decode cL_law 163 = .ok (.aload_n 0, 1) := by decide +kernel
theorem dL_law_164 : decode cL_law 164 = .ok (.iload 4, 2) := by decide +kernel
theorem dL_law_166 : decode cL_law 166 = .ok (.iconst 4, 1) := by decide +kernel
theorem dL_law_167 : decode cL_law 167 = .ok (.iadd, 1) := by decide +kernel
theorem dL_law_168 : decode cL_law 168 = .ok (.iaload, 1) := by decide +kernel
theorem dL_law_169 : decode cL_law 169 = .ok (.aload_n 3, 1) := by decide +kernel
theorem dL_law_170 : decode cL_law 170 = .ok (.invokestatic 65, 3) := by decide +kernel
theorem dL_law_173 : decode cL_law 173 = .ok (.istore 5, 2) := by decide +kernel
theorem dL_law_175 : decode cL_law 175 = .ok (.aload_n 2, 1) := by decide +kernel
theorem dL_law_176 : decode cL_law 176 = .ok (.aload_n 0, 1) := by decide +kernel
theorem dL_law_177 : decode cL_law 177 = .ok (.iload 4, 2) := by decide +kernel
theorem dL_law_179 : decode cL_law 179 = .ok (.iconst 1, 1) := by decide +kernel
theorem dL_law_180 : decode cL_law 180 = .ok (.iadd, 1) := by decide +kernel
theorem dL_law_181 : decode cL_law 181 = .ok (.iaload, 1) := by decide +kernel
theorem dL_law_182 : decode cL_law 182 = .ok (.aload_n 0, 1) := by decide +kernel
theorem dL_law_183 : decode cL_law 183 = .ok (.iload 4, 2) := by decide +kernel
theorem dL_law_185 : decode cL_law 185 = .ok (.iconst 2, 1) := by decide +kernel
theorem dL_law_186 : decode cL_law 186 = .ok (.iadd, 1) := by decide +kernel
theorem dL_law_187 : decode cL_law 187 = .ok (.iaload, 1) := by decide +kernel
theorem dL_law_188 : decode cL_law 188 = .ok (.aload_n 0, 1) := by decide +kernel
theorem dL_law_189 : decode cL_law 189 = .ok (.iload 4, 2) := by decide +kernel
theorem dL_law_191 : decode cL_law 191 = .ok (.iconst 3, 1) := by decide +kernel
theorem dL_law_192 : decode cL_law 192 = .ok (.iadd, 1) := by decide +kernel
theorem dL_law_193 : decode cL_law 193 = .ok (.iaload, 1) := by decide +kernel
theorem dL_law_194 : decode cL_law 194 = .ok (.aload_n 0, 1) := by decide +kernel
theorem dL_law_195 : decode cL_law 195 = .ok (.iload 4, 2) := by decide +kernel
theorem dL_law_197 : decode cL_law 197 = .ok (.iconst 4, 1) := by decide +kernel
theorem dL_law_198 : decode cL_law 198 = .ok (.iadd, 1) := by decide +kernel
theorem dL_law_199 : decode cL_law 199 = .ok (.iaload, 1) := by decide +kernel
theorem dL_law_200 : decode cL_law 200 = .ok (.invokevirtual 70, 3) := by decide +kernel
theorem dL_law_203 : decode cL_law 203 = .ok (.istore 6, 2) := by decide +kernel
theorem dL_law_205 : decode cL_law 205 = .ok (.aload_n 2, 1) := by decide +kernel
theorem dL_law_206 : decode cL_law 206 = .ok (.invokevirtual 71, 3) := by decide +kernel
theorem dL_law_209 : decode cL_law 209 = .ok (.iload 5, 2) := by decide +kernel
theorem dL_law_211 : decode cL_law 211 = .ok (.if_icmp .eq 5, 3) := by decide +kernel
theorem dL_law_214 : decode cL_law 214 = .ok (.iconst 0, 1) := by decide +kernel
theorem dL_law_215 : decode cL_law 215 = .ok (.ireturn, 1) := by decide +kernel
theorem dL_law_216 : decode cL_law 216 = .ok (.iload 5, 2) := by decide +kernel
theorem dL_law_218 : decode cL_law 218 = .ok (.ifCond .ne 15, 3) := by decide +kernel
theorem dL_law_221 : decode cL_law 221 = .ok (.aload_n 3, 1) := by decide +kernel
theorem dL_law_222 : decode cL_law 222 = .ok (.iconst 0, 1) := by decide +kernel
theorem dL_law_223 : decode cL_law 223 = .ok (.laload, 1) := by decide +kernel
theorem dL_law_224 : decode cL_law 224 = .ok (.iload 6, 2) := by decide +kernel
theorem dL_law_226 : decode cL_law 226 = .ok (.i2l, 1) := by decide +kernel
theorem dL_law_227 : decode cL_law 227 = .ok (.lcmp, 1) := by decide +kernel
theorem dL_law_228 : decode cL_law 228 = .ok (.ifCond .eq 5, 3) := by decide +kernel
theorem dL_law_231 : decode cL_law 231 = .ok (.iconst 0, 1) := by decide +kernel
theorem dL_law_232 : decode cL_law 232 = .ok (.ireturn, 1) := by decide +kernel
theorem dL_law_233 : decode cL_law 233 = .ok (.goto 1052, 3) := by decide +kernel
theorem dL_law_236 : decode cL_law 236 = .ok (.aload_n 1, 1) := by decide +kernel
theorem dL_law_237 : decode cL_law 237 = .ok (.aload_n 0, 1) := by decide +kernel
theorem dL_law_238 : decode cL_law 238 = .ok (.iload 4, 2) := by decide +kernel
theorem dL_law_240 : decode cL_law 240 = .ok (.iconst 1, 1) := by decide +kernel
theorem dL_law_241 : decode cL_law 241 = .ok (.iadd, 1) := by decide +kernel
theorem dL_law_242 : decode cL_law 242 = .ok (.iaload, 1) := by decide +kernel
theorem dL_law_243 : decode cL_law 243 = .ok (.aload_n 0, 1) := by decide +kernel
theorem dL_law_244 : decode cL_law 244 = .ok (.iload 4, 2) := by decide +kernel
theorem dL_law_246 : decode cL_law 246 = .ok (.iconst 2, 1) := by decide +kernel
theorem dL_law_247 : decode cL_law 247 = .ok (.iadd, 1) := by decide +kernel
theorem dL_law_248 : decode cL_law 248 = .ok (.iaload, 1) := by decide +kernel
theorem dL_law_249 : decode cL_law 249 = .ok (.aload_n 3, 1) := by decide +kernel
theorem dL_law_250 : decode cL_law 250 = .ok (.invokestatic 74, 3) := by decide +kernel
theorem dL_law_253 : decode cL_law 253 = .ok (.istore 5, 2) := by decide +kernel
theorem dL_law_255 : decode cL_law 255 = .ok (.aload_n 2, 1) := by decide +kernel
theorem dL_law_256 : decode cL_law 256 = .ok (.aload_n 0, 1) := by decide +kernel
theorem dL_law_257 : decode cL_law 257 = .ok (.iload 4, 2) := by decide +kernel
theorem dL_law_259 : decode cL_law 259 = .ok (.iconst 1, 1) := by decide +kernel
theorem dL_law_260 : decode cL_law 260 = .ok (.iadd, 1) := by decide +kernel
theorem dL_law_261 : decode cL_law 261 = .ok (.iaload, 1) := by decide +kernel
theorem dL_law_262 : decode cL_law 262 = .ok (.aload_n 0, 1) := by decide +kernel
theorem dL_law_263 : decode cL_law 263 = .ok (.iload 4, 2) := by decide +kernel
theorem dL_law_265 : decode cL_law 265 = .ok (.iconst 2, 1) := by decide +kernel
theorem dL_law_266 : decode cL_law 266 = .ok (.iadd, 1) := by decide +kernel
theorem dL_law_267 : decode cL_law 267 = .ok (.iaload, 1) := by decide +kernel
theorem dL_law_268 : decode cL_law 268 = .ok (.invokevirtual 77, 3) := by decide +kernel
theorem dL_law_271 : decode cL_law 271 = .ok (.istore 6, 2) := by decide +kernel
theorem dL_law_273 : decode cL_law 273 = .ok (.aload_n 2, 1) := by decide +kernel
theorem dL_law_274 : decode cL_law 274 = .ok (.invokevirtual 71, 3) := by decide +kernel
theorem dL_law_277 : decode cL_law 277 = .ok (.iload 5, 2) := by decide +kernel
theorem dL_law_279 : decode cL_law 279 = .ok (.if_icmp .eq 5, 3) := by decide +kernel
theorem dL_law_282 : decode cL_law 282 = .ok (.iconst 0, 1) := by decide +kernel
theorem dL_law_283 : decode cL_law 283 = .ok (.ireturn, 1) := by decide +kernel
theorem dL_law_284 : decode cL_law 284 = .ok (.iload 5, 2) := by decide +kernel
theorem dL_law_286 : decode cL_law 286 = .ok (.ifCond .ne 15, 3) := by decide +kernel
theorem dL_law_289 : decode cL_law 289 = .ok (.aload_n 3, 1) := by decide +kernel
theorem dL_law_290 : decode cL_law 290 = .ok (.iconst 0, 1) := by decide +kernel
theorem dL_law_291 : decode cL_law 291 = .ok (.laload, 1) := by decide +kernel
theorem dL_law_292 : decode cL_law 292 = .ok (.iload 6, 2) := by decide +kernel
theorem dL_law_294 : decode cL_law 294 = .ok (.i2l, 1) := by decide +kernel
theorem dL_law_295 : decode cL_law 295 = .ok (.lcmp, 1) := by decide +kernel
theorem dL_law_296 : decode cL_law 296 = .ok (.ifCond .eq 5, 3) := by decide +kernel
theorem dL_law_299 : decode cL_law 299 = .ok (.iconst 0, 1) := by decide +kernel
theorem dL_law_300 : decode cL_law 300 = .ok (.ireturn, 1) := by decide +kernel
theorem dL_law_301 : decode cL_law 301 = .ok (.goto 984, 3) := by decide +kernel
theorem dL_law_304 : decode cL_law 304 = .ok (.aload_n 1, 1) := by decide +kernel
theorem dL_law_305 : decode cL_law 305 = .ok (.aload_n 0, 1) := by decide +kernel
theorem dL_law_306 : decode cL_law 306 = .ok (.iload 4, 2) := by decide +kernel
theorem dL_law_308 : decode cL_law 308 = .ok (.iconst 1, 1) := by decide +kernel
theorem dL_law_309 : decode cL_law 309 = .ok (.iadd, 1) := by decide +kernel
theorem dL_law_310 : decode cL_law 310 = .ok (.iaload, 1) := by decide +kernel
theorem dL_law_311 : decode cL_law 311 = .ok (.aload_n 0, 1) := by decide +kernel
theorem dL_law_312 : decode cL_law 312 = .ok (.iload 4, 2) := by decide +kernel
theorem dL_law_314 : decode cL_law 314 = .ok (.iconst 2, 1) := by decide +kernel
theorem dL_law_315 : decode cL_law 315 = .ok (.iadd, 1) := by decide +kernel
theorem dL_law_316 : decode cL_law 316 = .ok (.iaload, 1) := by decide +kernel
theorem dL_law_317 : decode cL_law 317 = .ok (.aload_n 0, 1) := by decide +kernel
theorem dL_law_318 : decode cL_law 318 = .ok (.iload 4, 2) := by decide +kernel
theorem dL_law_320 : decode cL_law 320 = .ok (.iconst 3, 1) := by decide +kernel
theorem dL_law_321 : decode cL_law 321 = .ok (.iadd, 1) := by decide +kernel
theorem dL_law_322 : decode cL_law 322 = .ok (.iaload, 1) := by decide +kernel
theorem dL_law_323 : decode cL_law 323 = .ok (.aload_n 3, 1) := by decide +kernel
theorem dL_law_324 : decode cL_law 324 = .ok (.invokestatic 78, 3) := by decide +kernel
theorem dL_law_327 : decode cL_law 327 = .ok (.istore 5, 2) := by decide +kernel
theorem dL_law_329 : decode cL_law 329 = .ok (.aload_n 2, 1) := by decide +kernel
theorem dL_law_330 : decode cL_law 330 = .ok (.aload_n 0, 1) := by decide +kernel
theorem dL_law_331 : decode cL_law 331 = .ok (.iload 4, 2) := by decide +kernel
theorem dL_law_333 : decode cL_law 333 = .ok (.iconst 1, 1) := by decide +kernel
theorem dL_law_334 : decode cL_law 334 = .ok (.iadd, 1) := by decide +kernel
theorem dL_law_335 : decode cL_law 335 = .ok (.iaload, 1) := by decide +kernel
theorem dL_law_336 : decode cL_law 336 = .ok (.aload_n 0, 1) := by decide +kernel
theorem dL_law_337 : decode cL_law 337 = .ok (.iload 4, 2) := by decide +kernel
theorem dL_law_339 : decode cL_law 339 = .ok (.iconst 2, 1) := by decide +kernel
theorem dL_law_340 : decode cL_law 340 = .ok (.iadd, 1) := by decide +kernel
theorem dL_law_341 : decode cL_law 341 = .ok (.iaload, 1) := by decide +kernel
theorem dL_law_342 : decode cL_law 342 = .ok (.aload_n 0, 1) := by decide +kernel
theorem dL_law_343 : decode cL_law 343 = .ok (.iload 4, 2) := by decide +kernel
theorem dL_law_345 : decode cL_law 345 = .ok (.iconst 3, 1) := by decide +kernel
theorem dL_law_346 : decode cL_law 346 = .ok (.iadd, 1) := by decide +kernel
theorem dL_law_347 : decode cL_law 347 = .ok (.iaload, 1) := by decide +kernel
theorem dL_law_348 : decode cL_law 348 = .ok (.invokevirtual 81, 3) := by decide +kernel
theorem dL_law_351 : decode cL_law 351 = .ok (.istore 6, 2) := by decide +kernel
theorem dL_law_353 : decode cL_law 353 = .ok (.aload_n 2, 1) := by decide +kernel
theorem dL_law_354 : decode cL_law 354 = .ok (.invokevirtual 71, 3) := by decide +kernel
theorem dL_law_357 : decode cL_law 357 = .ok (.iload 5, 2) := by decide +kernel
theorem dL_law_359 : decode cL_law 359 = .ok (.if_icmp .eq 5, 3) := by decide +kernel
theorem dL_law_362 : decode cL_law 362 = .ok (.iconst 0, 1) := by decide +kernel
theorem dL_law_363 : decode cL_law 363 = .ok (.ireturn, 1) := by decide +kernel
theorem dL_law_364 : decode cL_law 364 = .ok (.iload 5, 2) := by decide +kernel
theorem dL_law_366 : decode cL_law 366 = .ok (.ifCond .ne 15, 3) := by decide +kernel
theorem dL_law_369 : decode cL_law 369 = .ok (.aload_n 3, 1) := by decide +kernel
theorem dL_law_370 : decode cL_law 370 = .ok (.iconst 0, 1) := by decide +kernel
theorem dL_law_371 : decode cL_law 371 = .ok (.laload, 1) := by decide +kernel
theorem dL_law_372 : decode cL_law 372 = .ok (.iload 6, 2) := by decide +kernel
theorem dL_law_374 : decode cL_law 374 = .ok (.i2l, 1) := by decide +kernel
theorem dL_law_375 : decode cL_law 375 = .ok (.lcmp, 1) := by decide +kernel
theorem dL_law_376 : decode cL_law 376 = .ok (.ifCond .eq 5, 3) := by decide +kernel
theorem dL_law_379 : decode cL_law 379 = .ok (.iconst 0, 1) := by decide +kernel
theorem dL_law_380 : decode cL_law 380 = .ok (.ireturn, 1) := by decide +kernel
theorem dL_law_381 : decode cL_law 381 = .ok (.goto 904, 3) := by decide +kernel
theorem dL_law_384 : decode cL_law 384 = .ok (.aload_n 1, 1) := by decide +kernel
theorem dL_law_385 : decode cL_law 385 = .ok (.aload_n 0, 1) := by decide +kernel
theorem dL_law_386 : decode cL_law 386 = .ok (.iload 4, 2) := by decide +kernel
theorem dL_law_388 : decode cL_law 388 = .ok (.iconst 1, 1) := by decide +kernel
theorem dL_law_389 : decode cL_law 389 = .ok (.iadd, 1) := by decide +kernel
theorem dL_law_390 : decode cL_law 390 = .ok (.iaload, 1) := by decide +kernel
theorem dL_law_391 : decode cL_law 391 = .ok (.aload_n 0, 1) := by decide +kernel
theorem dL_law_392 : decode cL_law 392 = .ok (.iload 4, 2) := by decide +kernel
theorem dL_law_394 : decode cL_law 394 = .ok (.iconst 2, 1) := by decide +kernel
theorem dL_law_395 : decode cL_law 395 = .ok (.iadd, 1) := by decide +kernel
theorem dL_law_396 : decode cL_law 396 = .ok (.iaload, 1) := by decide +kernel
theorem dL_law_397 : decode cL_law 397 = .ok (.aload_n 0, 1) := by decide +kernel
theorem dL_law_398 : decode cL_law 398 = .ok (.iload 4, 2) := by decide +kernel
theorem dL_law_400 : decode cL_law 400 = .ok (.iconst 3, 1) := by decide +kernel
theorem dL_law_401 : decode cL_law 401 = .ok (.iadd, 1) := by decide +kernel
theorem dL_law_402 : decode cL_law 402 = .ok (.iaload, 1) := by decide +kernel
theorem dL_law_403 : decode cL_law 403 = .ok (.ifCond .eq 7, 3) := by decide +kernel
theorem dL_law_406 : decode cL_law 406 = .ok (.iconst 1, 1) := by decide +kernel
theorem dL_law_407 : decode cL_law 407 = .ok (.goto 4, 3) := by decide +kernel
theorem dL_law_410 : decode cL_law 410 = .ok (.iconst 0, 1) := by decide +kernel
theorem dL_law_411 : decode cL_law 411 = .ok (.aload_n 3, 1) := by decide +kernel
theorem dL_law_412 : decode cL_law 412 = .ok (.invokestatic 82, 3) := by decide +kernel
theorem dL_law_415 : decode cL_law 415 = .ok (.istore 5, 2) := by decide +kernel
theorem dL_law_417 : decode cL_law 417 = .ok (.aload_n 2, 1) := by decide +kernel
theorem dL_law_418 : decode cL_law 418 = .ok (.aload_n 0, 1) := by decide +kernel
theorem dL_law_419 : decode cL_law 419 = .ok (.iload 4, 2) := by decide +kernel
theorem dL_law_421 : decode cL_law 421 = .ok (.iconst 1, 1) := by decide +kernel
theorem dL_law_422 : decode cL_law 422 = .ok (.iadd, 1) := by decide +kernel
theorem dL_law_423 : decode cL_law 423 = .ok (.iaload, 1) := by decide +kernel
theorem dL_law_424 : decode cL_law 424 = .ok (.aload_n 0, 1) := by decide +kernel
theorem dL_law_425 : decode cL_law 425 = .ok (.iload 4, 2) := by decide +kernel
theorem dL_law_427 : decode cL_law 427 = .ok (.iconst 2, 1) := by decide +kernel
theorem dL_law_428 : decode cL_law 428 = .ok (.iadd, 1) := by decide +kernel
theorem dL_law_429 : decode cL_law 429 = .ok (.iaload, 1) := by decide +kernel
theorem dL_law_430 : decode cL_law 430 = .ok (.aload_n 0, 1) := by decide +kernel
theorem dL_law_431 : decode cL_law 431 = .ok (.iload 4, 2) := by decide +kernel
theorem dL_law_433 : decode cL_law 433 = .ok (.iconst 3, 1) := by decide +kernel
theorem dL_law_434 : decode cL_law 434 = .ok (.iadd, 1) := by decide +kernel
theorem dL_law_435 : decode cL_law 435 = .ok (.iaload, 1) := by decide +kernel
theorem dL_law_436 : decode cL_law 436 = .ok (.ifCond .eq 7, 3) := by decide +kernel
theorem dL_law_439 : decode cL_law 439 = .ok (.iconst 1, 1) := by decide +kernel
theorem dL_law_440 : decode cL_law 440 = .ok (.goto 4, 3) := by decide +kernel
theorem dL_law_443 : decode cL_law 443 = .ok (.iconst 0, 1) := by decide +kernel
theorem dL_law_444 : decode cL_law 444 = .ok (.invokevirtual 85, 3) := by decide +kernel
theorem dL_law_447 : decode cL_law 447 = .ok (.istore 6, 2) := by decide +kernel
theorem dL_law_449 : decode cL_law 449 = .ok (.aload_n 2, 1) := by decide +kernel
theorem dL_law_450 : decode cL_law 450 = .ok (.invokevirtual 71, 3) := by decide +kernel
theorem dL_law_453 : decode cL_law 453 = .ok (.iload 5, 2) := by decide +kernel
theorem dL_law_455 : decode cL_law 455 = .ok (.if_icmp .eq 5, 3) := by decide +kernel
theorem dL_law_458 : decode cL_law 458 = .ok (.iconst 0, 1) := by decide +kernel
theorem dL_law_459 : decode cL_law 459 = .ok (.ireturn, 1) := by decide +kernel
theorem dL_law_460 : decode cL_law 460 = .ok (.iload 5, 2) := by decide +kernel
theorem dL_law_462 : decode cL_law 462 = .ok (.ifCond .ne 22, 3) := by decide +kernel
theorem dL_law_465 : decode cL_law 465 = .ok (.aload_n 3, 1) := by decide +kernel
theorem dL_law_466 : decode cL_law 466 = .ok (.iconst 0, 1) := by decide +kernel
theorem dL_law_467 : decode cL_law 467 = .ok (.laload, 1) := by decide +kernel
theorem dL_law_468 : decode cL_law 468 = .ok (.iload 6, 2) := by decide +kernel
theorem dL_law_470 : decode cL_law 470 = .ok (.ifCond .eq 7, 3) := by decide +kernel
theorem dL_law_473 : decode cL_law 473 = .ok (.lconst 1, 1) := by decide +kernel
theorem dL_law_474 : decode cL_law 474 = .ok (.goto 4, 3) := by decide +kernel
theorem dL_law_477 : decode cL_law 477 = .ok (.lconst 0, 1) := by decide +kernel
theorem dL_law_478 : decode cL_law 478 = .ok (.lcmp, 1) := by decide +kernel
theorem dL_law_479 : decode cL_law 479 = .ok (.ifCond .eq 5, 3) := by decide +kernel
theorem dL_law_482 : decode cL_law 482 = .ok (.iconst 0, 1) := by decide +kernel
theorem dL_law_483 : decode cL_law 483 = .ok (.ireturn, 1) := by decide +kernel
theorem dL_law_484 : decode cL_law 484 = .ok (.goto 801, 3) := by decide +kernel
theorem dL_law_487 : decode cL_law 487 = .ok (.aload_n 1, 1) := by decide +kernel
theorem dL_law_488 : decode cL_law 488 = .ok (.aload_n 0, 1) := by decide +kernel
theorem dL_law_489 : decode cL_law 489 = .ok (.iload 4, 2) := by decide +kernel
theorem dL_law_491 : decode cL_law 491 = .ok (.iconst 1, 1) := by decide +kernel
theorem dL_law_492 : decode cL_law 492 = .ok (.iadd, 1) := by decide +kernel
theorem dL_law_493 : decode cL_law 493 = .ok (.iaload, 1) := by decide +kernel
theorem dL_law_494 : decode cL_law 494 = .ok (.aload_n 0, 1) := by decide +kernel
theorem dL_law_495 : decode cL_law 495 = .ok (.iload 4, 2) := by decide +kernel
theorem dL_law_497 : decode cL_law 497 = .ok (.iconst 2, 1) := by decide +kernel
theorem dL_law_498 : decode cL_law 498 = .ok (.iadd, 1) := by decide +kernel
theorem dL_law_499 : decode cL_law 499 = .ok (.iaload, 1) := by decide +kernel
theorem dL_law_500 : decode cL_law 500 = .ok (.aload_n 0, 1) := by decide +kernel
theorem dL_law_501 : decode cL_law 501 = .ok (.iload 4, 2) := by decide +kernel
theorem dL_law_503 : decode cL_law 503 = .ok (.iconst 3, 1) := by decide +kernel
theorem dL_law_504 : decode cL_law 504 = .ok (.iadd, 1) := by decide +kernel
theorem dL_law_505 : decode cL_law 505 = .ok (.iaload, 1) := by decide +kernel
theorem dL_law_506 : decode cL_law 506 = .ok (.aload_n 3, 1) := by decide +kernel
theorem dL_law_507 : decode cL_law 507 = .ok (.invokestatic 86, 3) := by decide +kernel
theorem dL_law_510 : decode cL_law 510 = .ok (.istore 5, 2) := by decide +kernel
theorem dL_law_512 : decode cL_law 512 = .ok (.aload_n 2, 1) := by decide +kernel
theorem dL_law_513 : decode cL_law 513 = .ok (.aload_n 0, 1) := by decide +kernel
theorem dL_law_514 : decode cL_law 514 = .ok (.iload 4, 2) := by decide +kernel
theorem dL_law_516 : decode cL_law 516 = .ok (.iconst 1, 1) := by decide +kernel
theorem dL_law_517 : decode cL_law 517 = .ok (.iadd, 1) := by decide +kernel
theorem dL_law_518 : decode cL_law 518 = .ok (.iaload, 1) := by decide +kernel
theorem dL_law_519 : decode cL_law 519 = .ok (.aload_n 0, 1) := by decide +kernel
theorem dL_law_520 : decode cL_law 520 = .ok (.iload 4, 2) := by decide +kernel
theorem dL_law_522 : decode cL_law 522 = .ok (.iconst 2, 1) := by decide +kernel
theorem dL_law_523 : decode cL_law 523 = .ok (.iadd, 1) := by decide +kernel
theorem dL_law_524 : decode cL_law 524 = .ok (.iaload, 1) := by decide +kernel
theorem dL_law_525 : decode cL_law 525 = .ok (.aload_n 0, 1) := by decide +kernel
theorem dL_law_526 : decode cL_law 526 = .ok (.iload 4, 2) := by decide +kernel
theorem dL_law_528 : decode cL_law 528 = .ok (.iconst 3, 1) := by decide +kernel
theorem dL_law_529 : decode cL_law 529 = .ok (.iadd, 1) := by decide +kernel
theorem dL_law_530 : decode cL_law 530 = .ok (.iaload, 1) := by decide +kernel
theorem dL_law_531 : decode cL_law 531 = .ok (.invokevirtual 88, 3) := by decide +kernel
theorem dL_law_534 : decode cL_law 534 = .ok (.istore 6, 2) := by decide +kernel
theorem dL_law_536 : decode cL_law 536 = .ok (.aload_n 2, 1) := by decide +kernel
theorem dL_law_537 : decode cL_law 537 = .ok (.invokevirtual 71, 3) := by decide +kernel
theorem dL_law_540 : decode cL_law 540 = .ok (.iload 5, 2) := by decide +kernel
theorem dL_law_542 : decode cL_law 542 = .ok (.if_icmp .eq 5, 3) := by decide +kernel
theorem dL_law_545 : decode cL_law 545 = .ok (.iconst 0, 1) := by decide +kernel
theorem dL_law_546 : decode cL_law 546 = .ok (.ireturn, 1) := by decide +kernel
theorem dL_law_547 : decode cL_law 547 = .ok (.iload 5, 2) := by decide +kernel
theorem dL_law_549 : decode cL_law 549 = .ok (.ifCond .ne 22, 3) := by decide +kernel
theorem dL_law_552 : decode cL_law 552 = .ok (.aload_n 3, 1) := by decide +kernel
theorem dL_law_553 : decode cL_law 553 = .ok (.iconst 0, 1) := by decide +kernel
theorem dL_law_554 : decode cL_law 554 = .ok (.laload, 1) := by decide +kernel
theorem dL_law_555 : decode cL_law 555 = .ok (.iload 6, 2) := by decide +kernel
theorem dL_law_557 : decode cL_law 557 = .ok (.ifCond .eq 7, 3) := by decide +kernel
theorem dL_law_560 : decode cL_law 560 = .ok (.lconst 1, 1) := by decide +kernel
theorem dL_law_561 : decode cL_law 561 = .ok (.goto 4, 3) := by decide +kernel
theorem dL_law_564 : decode cL_law 564 = .ok (.lconst 0, 1) := by decide +kernel
theorem dL_law_565 : decode cL_law 565 = .ok (.lcmp, 1) := by decide +kernel
theorem dL_law_566 : decode cL_law 566 = .ok (.ifCond .eq 5, 3) := by decide +kernel
theorem dL_law_569 : decode cL_law 569 = .ok (.iconst 0, 1) := by decide +kernel
theorem dL_law_570 : decode cL_law 570 = .ok (.ireturn, 1) := by decide +kernel
theorem dL_law_571 : decode cL_law 571 = .ok (.goto 714, 3) := by decide +kernel
theorem dL_law_574 : decode cL_law 574 = .ok (.aload_n 1, 1) := by decide +kernel
theorem dL_law_575 : decode cL_law 575 = .ok (.aload_n 0, 1) := by decide +kernel
theorem dL_law_576 : decode cL_law 576 = .ok (.iload 4, 2) := by decide +kernel
theorem dL_law_578 : decode cL_law 578 = .ok (.iconst 1, 1) := by decide +kernel
theorem dL_law_579 : decode cL_law 579 = .ok (.iadd, 1) := by decide +kernel
theorem dL_law_580 : decode cL_law 580 = .ok (.iaload, 1) := by decide +kernel
theorem dL_law_581 : decode cL_law 581 = .ok (.aload_n 0, 1) := by decide +kernel
theorem dL_law_582 : decode cL_law 582 = .ok (.iload 4, 2) := by decide +kernel
theorem dL_law_584 : decode cL_law 584 = .ok (.iconst 2, 1) := by decide +kernel
theorem dL_law_585 : decode cL_law 585 = .ok (.iadd, 1) := by decide +kernel
theorem dL_law_586 : decode cL_law 586 = .ok (.iaload, 1) := by decide +kernel
theorem dL_law_587 : decode cL_law 587 = .ok (.aload_n 0, 1) := by decide +kernel
theorem dL_law_588 : decode cL_law 588 = .ok (.iload 4, 2) := by decide +kernel
theorem dL_law_590 : decode cL_law 590 = .ok (.iconst 3, 1) := by decide +kernel
theorem dL_law_591 : decode cL_law 591 = .ok (.iadd, 1) := by decide +kernel
theorem dL_law_592 : decode cL_law 592 = .ok (.iaload, 1) := by decide +kernel
theorem dL_law_593 : decode cL_law 593 = .ok (.aload_n 3, 1) := by decide +kernel
theorem dL_law_594 : decode cL_law 594 = .ok (.invokestatic 89, 3) := by decide +kernel
theorem dL_law_597 : decode cL_law 597 = .ok (.istore 5, 2) := by decide +kernel
theorem dL_law_599 : decode cL_law 599 = .ok (.aload_n 2, 1) := by decide +kernel
theorem dL_law_600 : decode cL_law 600 = .ok (.aload_n 0, 1) := by decide +kernel
theorem dL_law_601 : decode cL_law 601 = .ok (.iload 4, 2) := by decide +kernel
theorem dL_law_603 : decode cL_law 603 = .ok (.iconst 1, 1) := by decide +kernel
theorem dL_law_604 : decode cL_law 604 = .ok (.iadd, 1) := by decide +kernel
theorem dL_law_605 : decode cL_law 605 = .ok (.iaload, 1) := by decide +kernel
theorem dL_law_606 : decode cL_law 606 = .ok (.aload_n 0, 1) := by decide +kernel
theorem dL_law_607 : decode cL_law 607 = .ok (.iload 4, 2) := by decide +kernel
theorem dL_law_609 : decode cL_law 609 = .ok (.iconst 2, 1) := by decide +kernel
theorem dL_law_610 : decode cL_law 610 = .ok (.iadd, 1) := by decide +kernel
theorem dL_law_611 : decode cL_law 611 = .ok (.iaload, 1) := by decide +kernel
theorem dL_law_612 : decode cL_law 612 = .ok (.aload_n 0, 1) := by decide +kernel
theorem dL_law_613 : decode cL_law 613 = .ok (.iload 4, 2) := by decide +kernel
theorem dL_law_615 : decode cL_law 615 = .ok (.iconst 3, 1) := by decide +kernel
theorem dL_law_616 : decode cL_law 616 = .ok (.iadd, 1) := by decide +kernel
theorem dL_law_617 : decode cL_law 617 = .ok (.iaload, 1) := by decide +kernel
theorem dL_law_618 : decode cL_law 618 = .ok (.invokevirtual 91, 3) := by decide +kernel
theorem dL_law_621 : decode cL_law 621 = .ok (.istore 6, 2) := by decide +kernel
theorem dL_law_623 : decode cL_law 623 = .ok (.aload_n 2, 1) := by decide +kernel
theorem dL_law_624 : decode cL_law 624 = .ok (.invokevirtual 71, 3) := by decide +kernel
theorem dL_law_627 : decode cL_law 627 = .ok (.iload 5, 2) := by decide +kernel
theorem dL_law_629 : decode cL_law 629 = .ok (.if_icmp .eq 5, 3) := by decide +kernel
theorem dL_law_632 : decode cL_law 632 = .ok (.iconst 0, 1) := by decide +kernel
theorem dL_law_633 : decode cL_law 633 = .ok (.ireturn, 1) := by decide +kernel
theorem dL_law_634 : decode cL_law 634 = .ok (.iload 5, 2) := by decide +kernel
theorem dL_law_636 : decode cL_law 636 = .ok (.ifCond .ne 15, 3) := by decide +kernel
theorem dL_law_639 : decode cL_law 639 = .ok (.aload_n 3, 1) := by decide +kernel
theorem dL_law_640 : decode cL_law 640 = .ok (.iconst 0, 1) := by decide +kernel
theorem dL_law_641 : decode cL_law 641 = .ok (.laload, 1) := by decide +kernel
theorem dL_law_642 : decode cL_law 642 = .ok (.iload 6, 2) := by decide +kernel
theorem dL_law_644 : decode cL_law 644 = .ok (.i2l, 1) := by decide +kernel
theorem dL_law_645 : decode cL_law 645 = .ok (.lcmp, 1) := by decide +kernel
theorem dL_law_646 : decode cL_law 646 = .ok (.ifCond .eq 5, 3) := by decide +kernel
theorem dL_law_649 : decode cL_law 649 = .ok (.iconst 0, 1) := by decide +kernel
theorem dL_law_650 : decode cL_law 650 = .ok (.ireturn, 1) := by decide +kernel
theorem dL_law_651 : decode cL_law 651 = .ok (.goto 634, 3) := by decide +kernel
theorem dL_law_654 : decode cL_law 654 = .ok (.aload_n 1, 1) := by decide +kernel
theorem dL_law_655 : decode cL_law 655 = .ok (.aload_n 0, 1) := by decide +kernel
theorem dL_law_656 : decode cL_law 656 = .ok (.iload 4, 2) := by decide +kernel
theorem dL_law_658 : decode cL_law 658 = .ok (.iconst 1, 1) := by decide +kernel
theorem dL_law_659 : decode cL_law 659 = .ok (.iadd, 1) := by decide +kernel
theorem dL_law_660 : decode cL_law 660 = .ok (.iaload, 1) := by decide +kernel
theorem dL_law_661 : decode cL_law 661 = .ok (.aload_n 0, 1) := by decide +kernel
theorem dL_law_662 : decode cL_law 662 = .ok (.iload 4, 2) := by decide +kernel
theorem dL_law_664 : decode cL_law 664 = .ok (.iconst 2, 1) := by decide +kernel
theorem dL_law_665 : decode cL_law 665 = .ok (.iadd, 1) := by decide +kernel
theorem dL_law_666 : decode cL_law 666 = .ok (.iaload, 1) := by decide +kernel
theorem dL_law_667 : decode cL_law 667 = .ok (.aload_n 3, 1) := by decide +kernel
theorem dL_law_668 : decode cL_law 668 = .ok (.invokestatic 92, 3) := by decide +kernel
theorem dL_law_671 : decode cL_law 671 = .ok (.istore 5, 2) := by decide +kernel
theorem dL_law_673 : decode cL_law 673 = .ok (.aload_n 2, 1) := by decide +kernel
theorem dL_law_674 : decode cL_law 674 = .ok (.aload_n 0, 1) := by decide +kernel
theorem dL_law_675 : decode cL_law 675 = .ok (.iload 4, 2) := by decide +kernel
theorem dL_law_677 : decode cL_law 677 = .ok (.iconst 1, 1) := by decide +kernel
theorem dL_law_678 : decode cL_law 678 = .ok (.iadd, 1) := by decide +kernel
theorem dL_law_679 : decode cL_law 679 = .ok (.iaload, 1) := by decide +kernel
theorem dL_law_680 : decode cL_law 680 = .ok (.aload_n 0, 1) := by decide +kernel
theorem dL_law_681 : decode cL_law 681 = .ok (.iload 4, 2) := by decide +kernel
theorem dL_law_683 : decode cL_law 683 = .ok (.iconst 2, 1) := by decide +kernel
theorem dL_law_684 : decode cL_law 684 = .ok (.iadd, 1) := by decide +kernel
theorem dL_law_685 : decode cL_law 685 = .ok (.iaload, 1) := by decide +kernel
theorem dL_law_686 : decode cL_law 686 = .ok (.invokevirtual 94, 3) := by decide +kernel
theorem dL_law_689 : decode cL_law 689 = .ok (.istore 6, 2) := by decide +kernel
theorem dL_law_691 : decode cL_law 691 = .ok (.aload_n 2, 1) := by decide +kernel
theorem dL_law_692 : decode cL_law 692 = .ok (.invokevirtual 71, 3) := by decide +kernel
theorem dL_law_695 : decode cL_law 695 = .ok (.iload 5, 2) := by decide +kernel
theorem dL_law_697 : decode cL_law 697 = .ok (.if_icmp .eq 5, 3) := by decide +kernel
theorem dL_law_700 : decode cL_law 700 = .ok (.iconst 0, 1) := by decide +kernel
theorem dL_law_701 : decode cL_law 701 = .ok (.ireturn, 1) := by decide +kernel
theorem dL_law_702 : decode cL_law 702 = .ok (.iload 5, 2) := by decide +kernel
theorem dL_law_704 : decode cL_law 704 = .ok (.ifCond .ne 15, 3) := by decide +kernel
theorem dL_law_707 : decode cL_law 707 = .ok (.aload_n 3, 1) := by decide +kernel
theorem dL_law_708 : decode cL_law 708 = .ok (.iconst 0, 1) := by decide +kernel
theorem dL_law_709 : decode cL_law 709 = .ok (.laload, 1) := by decide +kernel
theorem dL_law_710 : decode cL_law 710 = .ok (.iload 6, 2) := by decide +kernel
theorem dL_law_712 : decode cL_law 712 = .ok (.i2l, 1) := by decide +kernel
theorem dL_law_713 : decode cL_law 713 = .ok (.lcmp, 1) := by decide +kernel
theorem dL_law_714 : decode cL_law 714 = .ok (.ifCond .eq 5, 3) := by decide +kernel
theorem dL_law_717 : decode cL_law 717 = .ok (.iconst 0, 1) := by decide +kernel
theorem dL_law_718 : decode cL_law 718 = .ok (.ireturn, 1) := by decide +kernel
theorem dL_law_719 : decode cL_law 719 = .ok (.goto 566, 3) := by decide +kernel
theorem dL_law_722 : decode cL_law 722 = .ok (.aload_n 1, 1) := by decide +kernel
theorem dL_law_723 : decode cL_law 723 = .ok (.invokevirtual 95, 3) := by decide +kernel
theorem dL_law_726 : decode cL_law 726 = .ok (.aload_n 2, 1) := by decide +kernel
theorem dL_law_727 : decode cL_law 727 = .ok (.invokevirtual 98, 3) := by decide +kernel
theorem dL_law_730 : decode cL_law 730 = .ok (.if_icmp .eq 555, 3) := by decide +kernel
theorem dL_law_733 : decode cL_law 733 = .ok (.iconst 0, 1) := by decide +kernel
theorem dL_law_734 : decode cL_law 734 = .ok (.ireturn, 1) := by decide +kernel
theorem dL_law_735 : decode cL_law 735 = .ok (.aload_n 1, 1) := by decide +kernel
theorem dL_law_736 : decode cL_law 736 = .ok (.aload_n 3, 1) := by decide +kernel
theorem dL_law_737 : decode cL_law 737 = .ok (.invokestatic 99, 3) := by decide +kernel
theorem dL_law_740 : decode cL_law 740 = .ok (.istore 5, 2) := by decide +kernel
theorem dL_law_742 : decode cL_law 742 = .ok (.aload_n 2, 1) := by decide +kernel
theorem dL_law_743 : decode cL_law 743 = .ok (.invokevirtual 102, 3) := by decide +kernel
theorem dL_law_746 : decode cL_law 746 = .ok (.istore 6, 2) := by decide +kernel
theorem dL_law_748 : decode cL_law 748 = .ok (.aload_n 2, 1) := by decide +kernel
theorem dL_law_749 : decode cL_law 749 = .ok (.invokevirtual 71, 3) := by decide +kernel
theorem dL_law_752 : decode cL_law 752 = .ok (.iload 5, 2) := by decide +kernel
theorem dL_law_754 : decode cL_law 754 = .ok (.if_icmp .eq 5, 3) := by decide +kernel
theorem dL_law_757 : decode cL_law 757 = .ok (.iconst 0, 1) := by decide +kernel
theorem dL_law_758 : decode cL_law 758 = .ok (.ireturn, 1) := by decide +kernel
theorem dL_law_759 : decode cL_law 759 = .ok (.iload 5, 2) := by decide +kernel
theorem dL_law_761 : decode cL_law 761 = .ok (.ifCond .ne 15, 3) := by decide +kernel
theorem dL_law_764 : decode cL_law 764 = .ok (.aload_n 3, 1) := by decide +kernel
theorem dL_law_765 : decode cL_law 765 = .ok (.iconst 0, 1) := by decide +kernel
theorem dL_law_766 : decode cL_law 766 = .ok (.laload, 1) := by decide +kernel
theorem dL_law_767 : decode cL_law 767 = .ok (.iload 6, 2) := by decide +kernel
theorem dL_law_769 : decode cL_law 769 = .ok (.i2l, 1) := by decide +kernel
theorem dL_law_770 : decode cL_law 770 = .ok (.lcmp, 1) := by decide +kernel
theorem dL_law_771 : decode cL_law 771 = .ok (.ifCond .eq 5, 3) := by decide +kernel
theorem dL_law_774 : decode cL_law 774 = .ok (.iconst 0, 1) := by decide +kernel
theorem dL_law_775 : decode cL_law 775 = .ok (.ireturn, 1) := by decide +kernel
theorem dL_law_776 : decode cL_law 776 = .ok (.goto 509, 3) := by decide +kernel
theorem dL_law_779 : decode cL_law 779 = .ok (.aload_n 1, 1) := by decide +kernel
theorem dL_law_780 : decode cL_law 780 = .ok (.invokevirtual 103, 3) := by decide +kernel
theorem dL_law_783 : decode cL_law 783 = .ok (.aload_n 2, 1) := by decide +kernel
theorem dL_law_784 : decode cL_law 784 = .ok (.invokevirtual 106, 3) := by decide +kernel
theorem dL_law_787 : decode cL_law 787 = .ok (.if_icmp .eq 498, 3) := by decide +kernel
theorem dL_law_790 : decode cL_law 790 = .ok (.iconst 0, 1) := by decide +kernel
theorem dL_law_791 : decode cL_law 791 = .ok (.ireturn, 1) := by decide +kernel
theorem dL_law_792 : decode cL_law 792 = .ok (.aload_n 1, 1) := by decide +kernel
theorem dL_law_793 : decode cL_law 793 = .ok (.aload_n 0, 1) := by decide +kernel
theorem dL_law_794 : decode cL_law 794 = .ok (.iload 4, 2) := by decide +kernel
theorem dL_law_796 : decode cL_law 796 = .ok (.iconst 1, 1) := by decide +kernel
theorem dL_law_797 : decode cL_law 797 = .ok (.iadd, 1) := by decide +kernel
theorem dL_law_798 : decode cL_law 798 = .ok (.iaload, 1) := by decide +kernel
theorem dL_law_799 : decode cL_law 799 = .ok (.aload_n 0, 1) := by decide +kernel
theorem dL_law_800 : decode cL_law 800 = .ok (.iload 4, 2) := by decide +kernel
theorem dL_law_802 : decode cL_law 802 = .ok (.iconst 2, 1) := by decide +kernel
theorem dL_law_803 : decode cL_law 803 = .ok (.iadd, 1) := by decide +kernel
theorem dL_law_804 : decode cL_law 804 = .ok (.iaload, 1) := by decide +kernel
theorem dL_law_805 : decode cL_law 805 = .ok (.aload_n 0, 1) := by decide +kernel
theorem dL_law_806 : decode cL_law 806 = .ok (.iload 4, 2) := by decide +kernel
theorem dL_law_808 : decode cL_law 808 = .ok (.iconst 3, 1) := by decide +kernel
theorem dL_law_809 : decode cL_law 809 = .ok (.iadd, 1) := by decide +kernel
theorem dL_law_810 : decode cL_law 810 = .ok (.iaload, 1) := by decide +kernel
theorem dL_law_811 : decode cL_law 811 = .ok (.aload_n 3, 1) := by decide +kernel
theorem dL_law_812 : decode cL_law 812 = .ok (.invokestatic 107, 3) := by decide +kernel
theorem dL_law_815 : decode cL_law 815 = .ok (.istore 5, 2) := by decide +kernel
theorem dL_law_817 : decode cL_law 817 = .ok (.aload_n 2, 1) := by decide +kernel
theorem dL_law_818 : decode cL_law 818 = .ok (.aload_n 0, 1) := by decide +kernel
theorem dL_law_819 : decode cL_law 819 = .ok (.iload 4, 2) := by decide +kernel
theorem dL_law_821 : decode cL_law 821 = .ok (.iconst 1, 1) := by decide +kernel
theorem dL_law_822 : decode cL_law 822 = .ok (.iadd, 1) := by decide +kernel
theorem dL_law_823 : decode cL_law 823 = .ok (.iaload, 1) := by decide +kernel
theorem dL_law_824 : decode cL_law 824 = .ok (.aload_n 0, 1) := by decide +kernel
theorem dL_law_825 : decode cL_law 825 = .ok (.iload 4, 2) := by decide +kernel
theorem dL_law_827 : decode cL_law 827 = .ok (.iconst 2, 1) := by decide +kernel
theorem dL_law_828 : decode cL_law 828 = .ok (.iadd, 1) := by decide +kernel
theorem dL_law_829 : decode cL_law 829 = .ok (.iaload, 1) := by decide +kernel
theorem dL_law_830 : decode cL_law 830 = .ok (.aload_n 0, 1) := by decide +kernel
theorem dL_law_831 : decode cL_law 831 = .ok (.iload 4, 2) := by decide +kernel
theorem dL_law_833 : decode cL_law 833 = .ok (.iconst 3, 1) := by decide +kernel
theorem dL_law_834 : decode cL_law 834 = .ok (.iadd, 1) := by decide +kernel
theorem dL_law_835 : decode cL_law 835 = .ok (.iaload, 1) := by decide +kernel
theorem dL_law_836 : decode cL_law 836 = .ok (.invokevirtual 109, 3) := by decide +kernel
theorem dL_law_839 : decode cL_law 839 = .ok (.istore 6, 2) := by decide +kernel
theorem dL_law_841 : decode cL_law 841 = .ok (.aload_n 2, 1) := by decide +kernel
theorem dL_law_842 : decode cL_law 842 = .ok (.invokevirtual 71, 3) := by decide +kernel
theorem dL_law_845 : decode cL_law 845 = .ok (.iload 5, 2) := by decide +kernel
theorem dL_law_847 : decode cL_law 847 = .ok (.if_icmp .eq 5, 3) := by decide +kernel
theorem dL_law_850 : decode cL_law 850 = .ok (.iconst 0, 1) := by decide +kernel
theorem dL_law_851 : decode cL_law 851 = .ok (.ireturn, 1) := by decide +kernel
theorem dL_law_852 : decode cL_law 852 = .ok (.iload 5, 2) := by decide +kernel
theorem dL_law_854 : decode cL_law 854 = .ok (.ifCond .ne 15, 3) := by decide +kernel
theorem dL_law_857 : decode cL_law 857 = .ok (.aload_n 3, 1) := by decide +kernel
theorem dL_law_858 : decode cL_law 858 = .ok (.iconst 0, 1) := by decide +kernel
theorem dL_law_859 : decode cL_law 859 = .ok (.laload, 1) := by decide +kernel
theorem dL_law_860 : decode cL_law 860 = .ok (.iload 6, 2) := by decide +kernel
theorem dL_law_862 : decode cL_law 862 = .ok (.i2l, 1) := by decide +kernel
theorem dL_law_863 : decode cL_law 863 = .ok (.lcmp, 1) := by decide +kernel
theorem dL_law_864 : decode cL_law 864 = .ok (.ifCond .eq 5, 3) := by decide +kernel
theorem dL_law_867 : decode cL_law 867 = .ok (.iconst 0, 1) := by decide +kernel
theorem dL_law_868 : decode cL_law 868 = .ok (.ireturn, 1) := by decide +kernel
theorem dL_law_869 : decode cL_law 869 = .ok (.goto 416, 3) := by decide +kernel
theorem dL_law_872 : decode cL_law 872 = .ok (.aload_n 1, 1) := by decide +kernel
theorem dL_law_873 : decode cL_law 873 = .ok (.aload_n 0, 1) := by decide +kernel
theorem dL_law_874 : decode cL_law 874 = .ok (.iload 4, 2) := by decide +kernel
theorem dL_law_876 : decode cL_law 876 = .ok (.iconst 1, 1) := by decide +kernel
theorem dL_law_877 : decode cL_law 877 = .ok (.iadd, 1) := by decide +kernel
theorem dL_law_878 : decode cL_law 878 = .ok (.iaload, 1) := by decide +kernel
theorem dL_law_879 : decode cL_law 879 = .ok (.aload_n 3, 1) := by decide +kernel
theorem dL_law_880 : decode cL_law 880 = .ok (.invokestatic 110, 3) := by decide +kernel
theorem dL_law_883 : decode cL_law 883 = .ok (.istore 5, 2) := by decide +kernel
theorem dL_law_885 : decode cL_law 885 = .ok (.aload_n 2, 1) := by decide +kernel
theorem dL_law_886 : decode cL_law 886 = .ok (.aload_n 0, 1) := by decide +kernel
theorem dL_law_887 : decode cL_law 887 = .ok (.iload 4, 2) := by decide +kernel
theorem dL_law_889 : decode cL_law 889 = .ok (.iconst 1, 1) := by decide +kernel
theorem dL_law_890 : decode cL_law 890 = .ok (.iadd, 1) := by decide +kernel
theorem dL_law_891 : decode cL_law 891 = .ok (.iaload, 1) := by decide +kernel
theorem dL_law_892 : decode cL_law 892 = .ok (.invokevirtual 113, 3) := by decide +kernel
theorem dL_law_895 : decode cL_law 895 = .ok (.istore 6, 2) := by decide +kernel
theorem dL_law_897 : decode cL_law 897 = .ok (.aload_n 2, 1) := by decide +kernel
theorem dL_law_898 : decode cL_law 898 = .ok (.invokevirtual 71, 3) := by decide +kernel
theorem dL_law_901 : decode cL_law 901 = .ok (.iload 5, 2) := by decide +kernel
theorem dL_law_903 : decode cL_law 903 = .ok (.if_icmp .eq 5, 3) := by decide +kernel
theorem dL_law_906 : decode cL_law 906 = .ok (.iconst 0, 1) := by decide +kernel
theorem dL_law_907 : decode cL_law 907 = .ok (.ireturn, 1) := by decide +kernel
theorem dL_law_908 : decode cL_law 908 = .ok (.iload 5, 2) := by decide +kernel
theorem dL_law_910 : decode cL_law 910 = .ok (.ifCond .ne 15, 3) := by decide +kernel
theorem dL_law_913 : decode cL_law 913 = .ok (.aload_n 3, 1) := by decide +kernel
theorem dL_law_914 : decode cL_law 914 = .ok (.iconst 0, 1) := by decide +kernel
theorem dL_law_915 : decode cL_law 915 = .ok (.laload, 1) := by decide +kernel
theorem dL_law_916 : decode cL_law 916 = .ok (.iload 6, 2) := by decide +kernel
theorem dL_law_918 : decode cL_law 918 = .ok (.i2l, 1) := by decide +kernel
theorem dL_law_919 : decode cL_law 919 = .ok (.lcmp, 1) := by decide +kernel
theorem dL_law_920 : decode cL_law 920 = .ok (.ifCond .eq 5, 3) := by decide +kernel
theorem dL_law_923 : decode cL_law 923 = .ok (.iconst 0, 1) := by decide +kernel
theorem dL_law_924 : decode cL_law 924 = .ok (.ireturn, 1) := by decide +kernel
theorem dL_law_925 : decode cL_law 925 = .ok (.goto 360, 3) := by decide +kernel
theorem dL_law_928 : decode cL_law 928 = .ok (.aload_n 1, 1) := by decide +kernel
theorem dL_law_929 : decode cL_law 929 = .ok (.aload_n 0, 1) := by decide +kernel
theorem dL_law_930 : decode cL_law 930 = .ok (.iload 4, 2) := by decide +kernel
theorem dL_law_932 : decode cL_law 932 = .ok (.iconst 1, 1) := by decide +kernel
theorem dL_law_933 : decode cL_law 933 = .ok (.iadd, 1) := by decide +kernel
theorem dL_law_934 : decode cL_law 934 = .ok (.iaload, 1) := by decide +kernel
theorem dL_law_935 : decode cL_law 935 = .ok (.ifCond .eq 7, 3) := by decide +kernel
theorem dL_law_938 : decode cL_law 938 = .ok (.iconst 1, 1) := by decide +kernel
theorem dL_law_939 : decode cL_law 939 = .ok (.goto 4, 3) := by decide +kernel
theorem dL_law_942 : decode cL_law 942 = .ok (.iconst 0, 1) := by decide +kernel
theorem dL_law_943 : decode cL_law 943 = .ok (.invokevirtual 114, 3) := by decide +kernel
theorem dL_law_946 : decode cL_law 946 = .ok (.aload_n 2, 1) := by decide +kernel
theorem dL_law_947 : decode cL_law 947 = .ok (.aload_n 0, 1) := by decide +kernel
theorem dL_law_948 : decode cL_law 948 = .ok (.iload 4, 2) := by decide +kernel
theorem dL_law_950 : decode cL_law 950 = .ok (.iconst 1, 1) := by decide +kernel
theorem dL_law_951 : decode cL_law 951 = .ok (.iadd, 1) := by decide +kernel
theorem dL_law_952 : decode cL_law 952 = .ok (.iaload, 1) := by decide +kernel
theorem dL_law_953 : decode cL_law 953 = .ok (.ifCond .eq 7, 3) := by decide +kernel
theorem dL_law_956 : decode cL_law 956 = .ok (.iconst 1, 1) := by decide +kernel
theorem dL_law_957 : decode cL_law 957 = .ok (.goto 4, 3) := by decide +kernel
theorem dL_law_960 : decode cL_law 960 = .ok (.iconst 0, 1) := by decide +kernel
theorem dL_law_961 : decode cL_law 961 = .ok (.invokevirtual 118, 3) := by decide +kernel
theorem dL_law_964 : decode cL_law 964 = .ok (.if_icmp .eq 321, 3) := by decide +kernel
theorem dL_law_967 : decode cL_law 967 = .ok (.iconst 0, 1) := by decide +kernel
theorem dL_law_968 : decode cL_law 968 = .ok (.ireturn, 1) := by decide +kernel
theorem dL_law_969 : decode cL_law 969 = .ok (.aload_n 1, 1) := by decide +kernel
theorem dL_law_970 : decode cL_law 970 = .ok (.invokevirtual 119, 3) := by decide +kernel
theorem dL_law_973 : decode cL_law 973 = .ok (.dstore 5, 2) := by decide +kernel
theorem dL_law_975 : decode cL_law 975 = .ok (.aload_n 2, 1) := by decide +kernel
theorem dL_law_976 : decode cL_law 976 = .ok (.invokevirtual 123, 3) := by decide +kernel
theorem dL_law_979 : decode cL_law 979 = .ok (.dstore 7, 2) := by decide +kernel
theorem dL_law_981 : decode cL_law 981 = .ok (.dload 5, 2) := by decide +kernel
theorem dL_law_983 : decode cL_law 983 = .ok (.dload 7, 2) := by decide +kernel
theorem dL_law_985 : decode cL_law 985 = .ok (.dcmp .l, 1) := by decide +kernel
theorem dL_law_986 : decode cL_law 986 = .ok (.ifCond .eq 21, 3) := by decide +kernel
theorem dL_law_989 : decode cL_law 989 = .ok (.dload 5, 2) := by decide +kernel
theorem dL_law_991 : decode cL_law 991 = .ok (.dload 5, 2) := by decide +kernel
theorem dL_law_993 : decode cL_law 993 = .ok (.dcmp .l, 1) := by decide +kernel
theorem dL_law_994 : decode cL_law 994 = .ok (.ifCond .eq 11, 3) := by decide +kernel
theorem dL_law_997 : decode cL_law 997 = .ok (.dload 7, 2) := by decide +kernel
theorem dL_law_999 : decode cL_law 999 = .ok (.dload 7, 2) := by decide +kernel
theorem dL_law_1001 : decode cL_law 1001 = .ok (.dcmp .l, 1) := by decide +kernel
theorem dL_law_1002 : decode cL_law 1002 = .ok (.ifCond .ne 5, 3) := by decide +kernel
theorem dL_law_1005 : decode cL_law 1005 = .ok (.iconst 0, 1) := by decide +kernel
theorem dL_law_1006 : decode cL_law 1006 = .ok (.ireturn, 1) := by decide +kernel
theorem dL_law_1007 : decode cL_law 1007 = .ok (.goto 278, 3) := by decide +kernel
theorem dL_law_1010 : decode cL_law 1010 = .ok (.aload_n 1, 1) := by decide +kernel
theorem dL_law_1011 : decode cL_law 1011 = .ok (.invokevirtual 124, 3) := by decide +kernel
theorem dL_law_1014 : decode cL_law 1014 = .ok (.aload_n 2, 1) := by decide +kernel
theorem dL_law_1015 : decode cL_law 1015 = .ok (.invokevirtual 128, 3) := by decide +kernel
theorem dL_law_1018 : decode cL_law 1018 = .ok (.if_icmp .eq 267, 3) := by decide +kernel
theorem dL_law_1021 : decode cL_law 1021 = .ok (.iconst 0, 1) := by decide +kernel
theorem dL_law_1022 : decode cL_law 1022 = .ok (.ireturn, 1) := by decide +kernel
theorem dL_law_1023 : decode cL_law 1023 = .ok (.aload_n 1, 1) := by decide +kernel
theorem dL_law_1024 : decode cL_law 1024 = .ok (.aload_n 0, 1) := by decide +kernel
theorem dL_law_1025 : decode cL_law 1025 = .ok (.iload 4, 2) := by decide +kernel
theorem dL_law_1027 : decode cL_law 1027 = .ok (.iconst 1, 1) := by decide +kernel
theorem dL_law_1028 : decode cL_law 1028 = .ok (.iadd, 1) := by decide +kernel
theorem dL_law_1029 : decode cL_law 1029 = .ok (.iaload, 1) := by decide +kernel
theorem dL_law_1030 : decode cL_law 1030 = .ok (.ifCond .eq 7, 3) := by decide +kernel
theorem dL_law_1033 : decode cL_law 1033 = .ok (.iconst 1, 1) := by decide +kernel
theorem dL_law_1034 : decode cL_law 1034 = .ok (.goto 4, 3) := by decide +kernel
theorem dL_law_1037 : decode cL_law 1037 = .ok (.iconst 0, 1) := by decide +kernel
theorem dL_law_1038 : decode cL_law 1038 = .ok (.invokevirtual 129, 3) := by decide +kernel
theorem dL_law_1041 : decode cL_law 1041 = .ok (.aload_n 2, 1) := by decide +kernel
theorem dL_law_1042 : decode cL_law 1042 = .ok (.aload_n 0, 1) := by decide +kernel
theorem dL_law_1043 : decode cL_law 1043 = .ok (.iload 4, 2) := by decide +kernel
theorem dL_law_1045 : decode cL_law 1045 = .ok (.iconst 1, 1) := by decide +kernel
theorem dL_law_1046 : decode cL_law 1046 = .ok (.iadd, 1) := by decide +kernel
theorem dL_law_1047 : decode cL_law 1047 = .ok (.iaload, 1) := by decide +kernel
theorem dL_law_1048 : decode cL_law 1048 = .ok (.ifCond .eq 7, 3) := by decide +kernel
theorem dL_law_1051 : decode cL_law 1051 = .ok (.iconst 1, 1) := by decide +kernel
theorem dL_law_1052 : decode cL_law 1052 = .ok (.goto 4, 3) := by decide +kernel
theorem dL_law_1055 : decode cL_law 1055 = .ok (.iconst 0, 1) := by decide +kernel
theorem dL_law_1056 : decode cL_law 1056 = .ok (.invokevirtual 132, 3) := by decide +kernel
theorem dL_law_1059 : decode cL_law 1059 = .ok (.if_icmp .eq 226, 3) := by decide +kernel
theorem dL_law_1062 : decode cL_law 1062 = .ok (.iconst 0, 1) := by decide +kernel
theorem dL_law_1063 : decode cL_law 1063 = .ok (.ireturn, 1) := by decide +kernel
theorem dL_law_1064 : decode cL_law 1064 = .ok (.aload_n 1, 1) := by decide +kernel
theorem dL_law_1065 : decode cL_law 1065 = .ok (.aload_n 0, 1) := by decide +kernel
theorem dL_law_1066 : decode cL_law 1066 = .ok (.iload 4, 2) := by decide +kernel
theorem dL_law_1068 : decode cL_law 1068 = .ok (.iconst 1, 1) := by decide +kernel
theorem dL_law_1069 : decode cL_law 1069 = .ok (.iadd, 1) := by decide +kernel
theorem dL_law_1070 : decode cL_law 1070 = .ok (.iaload, 1) := by decide +kernel
theorem dL_law_1071 : decode cL_law 1071 = .ok (.aload_n 3, 1) := by decide +kernel
theorem dL_law_1072 : decode cL_law 1072 = .ok (.invokestatic 133, 3) := by decide +kernel
theorem dL_law_1075 : decode cL_law 1075 = .ok (.istore 5, 2) := by decide +kernel
theorem dL_law_1077 : decode cL_law 1077 = .ok (.aload_n 2, 1) := by decide +kernel
theorem dL_law_1078 : decode cL_law 1078 = .ok (.aload_n 0, 1) := by decide +kernel
theorem dL_law_1079 : decode cL_law 1079 = .ok (.iload 4, 2) := by decide +kernel
theorem dL_law_1081 : decode cL_law 1081 = .ok (.iconst 1, 1) := by decide +kernel
theorem dL_law_1082 : decode cL_law 1082 = .ok (.iadd, 1) := by decide +kernel
theorem dL_law_1083 : decode cL_law 1083 = .ok (.iaload, 1) := by decide +kernel
theorem dL_law_1084 : decode cL_law 1084 = .ok (.invokevirtual 135, 3) := by decide +kernel
theorem dL_law_1087 : decode cL_law 1087 = .ok (.istore 6, 2) := by decide +kernel
theorem dL_law_1089 : decode cL_law 1089 = .ok (.aload_n 2, 1) := by decide +kernel
theorem dL_law_1090 : decode cL_law 1090 = .ok (.invokevirtual 71, 3) := by decide +kernel
theorem dL_law_1093 : decode cL_law 1093 = .ok (.iload 5, 2) := by decide +kernel
theorem dL_law_1095 : decode cL_law 1095 = .ok (.if_icmp .eq 5, 3) := by decide +kernel
theorem dL_law_1098 : decode cL_law 1098 = .ok (.iconst 0, 1) := by decide +kernel
theorem dL_law_1099 : decode cL_law 1099 = .ok (.ireturn, 1) := by decide +kernel
theorem dL_law_1100 : decode cL_law 1100 = .ok (.iload 5, 2) := by decide +kernel
theorem dL_law_1102 : decode cL_law 1102 = .ok (.ifCond .ne 15, 3) := by decide +kernel
theorem dL_law_1105 : decode cL_law 1105 = .ok (.aload_n 3, 1) := by decide +kernel
theorem dL_law_1106 : decode cL_law 1106 = .ok (.iconst 0, 1) := by decide +kernel
theorem dL_law_1107 : decode cL_law 1107 = .ok (.laload, 1) := by decide +kernel
theorem dL_law_1108 : decode cL_law 1108 = .ok (.iload 6, 2) := by decide +kernel
theorem dL_law_1110 : decode cL_law 1110 = .ok (.i2l, 1) := by decide +kernel
theorem dL_law_1111 : decode cL_law 1111 = .ok (.lcmp, 1) := by decide +kernel
theorem dL_law_1112 : decode cL_law 1112 = .ok (.ifCond .eq 5, 3) := by decide +kernel
theorem dL_law_1115 : decode cL_law 1115 = .ok (.iconst 0, 1) := by decide +kernel
theorem dL_law_1116 : decode cL_law 1116 = .ok (.ireturn, 1) := by decide +kernel
theorem dL_law_1117 : decode cL_law 1117 = .ok (.goto 168, 3) := by decide +kernel
theorem dL_law_1120 : decode cL_law 1120 = .ok (.aload_n 1, 1) := by decide +kernel
theorem dL_law_1121 : decode cL_law 1121 = .ok (.invokevirtual 136, 3) := by decide +kernel
theorem dL_law_1124 : decode cL_law 1124 = .ok (.aload_n 2, 1) := by decide +kernel
theorem dL_law_1125 : decode cL_law 1125 = .ok (.invokevirtual 139, 3) := by decide +kernel
theorem dL_law_1128 : decode cL_law 1128 = .ok (.if_icmp .eq 157, 3) := by decide +kernel
theorem dL_law_1131 : decode cL_law 1131 = .ok (.iconst 0, 1) := by decide +kernel
theorem dL_law_1132 : decode cL_law 1132 = .ok (.ireturn, 1) := by decide +kernel
theorem dL_law_1133 : decode cL_law 1133 = .ok (.aload_n 1, 1) := by decide +kernel
theorem dL_law_1134 : decode cL_law 1134 = .ok (.aload_n 0, 1) := by decide +kernel
theorem dL_law_1135 : decode cL_law 1135 = .ok (.iload 4, 2) := by decide +kernel
theorem dL_law_1137 : decode cL_law 1137 = .ok (.iconst 1, 1) := by decide +kernel
theorem dL_law_1138 : decode cL_law 1138 = .ok (.iadd, 1) := by decide +kernel
theorem dL_law_1139 : decode cL_law 1139 = .ok (.iaload, 1) := by decide +kernel
theorem dL_law_1140 : decode cL_law 1140 = .ok (.aload_n 3, 1) := by decide +kernel
theorem dL_law_1141 : decode cL_law 1141 = .ok (.invokestatic 140, 3) := by decide +kernel
theorem dL_law_1144 : decode cL_law 1144 = .ok (.istore 5, 2) := by decide +kernel
theorem dL_law_1146 : decode cL_law 1146 = .ok (.aload_n 2, 1) := by decide +kernel
theorem dL_law_1147 : decode cL_law 1147 = .ok (.aload_n 0, 1) := by decide +kernel
theorem dL_law_1148 : decode cL_law 1148 = .ok (.iload 4, 2) := by decide +kernel
theorem dL_law_1150 : decode cL_law 1150 = .ok (.iconst 1, 1) := by decide +kernel
theorem dL_law_1151 : decode cL_law 1151 = .ok (.iadd, 1) := by decide +kernel
theorem dL_law_1152 : decode cL_law 1152 = .ok (.iaload, 1) := by decide +kernel
theorem dL_law_1153 : decode cL_law 1153 = .ok (.invokevirtual 142, 3) := by decide +kernel
theorem dL_law_1156 : decode cL_law 1156 = .ok (.istore 6, 2) := by decide +kernel
theorem dL_law_1158 : decode cL_law 1158 = .ok (.aload_n 2, 1) := by decide +kernel
theorem dL_law_1159 : decode cL_law 1159 = .ok (.invokevirtual 71, 3) := by decide +kernel
theorem dL_law_1162 : decode cL_law 1162 = .ok (.iload 5, 2) := by decide +kernel
theorem dL_law_1164 : decode cL_law 1164 = .ok (.if_icmp .eq 5, 3) := by decide +kernel
theorem dL_law_1167 : decode cL_law 1167 = .ok (.iconst 0, 1) := by decide +kernel
theorem dL_law_1168 : decode cL_law 1168 = .ok (.ireturn, 1) := by decide +kernel
theorem dL_law_1169 : decode cL_law 1169 = .ok (.iload 5, 2) := by decide +kernel
theorem dL_law_1171 : decode cL_law 1171 = .ok (.ifCond .ne 15, 3) := by decide +kernel
theorem dL_law_1174 : decode cL_law 1174 = .ok (.aload_n 3, 1) := by decide +kernel
theorem dL_law_1175 : decode cL_law 1175 = .ok (.iconst 0, 1) := by decide +kernel
theorem dL_law_1176 : decode cL_law 1176 = .ok (.laload, 1) := by decide +kernel
theorem dL_law_1177 : decode cL_law 1177 = .ok (.iload 6, 2) := by decide +kernel
theorem dL_law_1179 : decode cL_law 1179 = .ok (.i2l, 1) := by decide +kernel
theorem dL_law_1180 : decode cL_law 1180 = .ok (.lcmp, 1) := by decide +kernel
theorem dL_law_1181 : decode cL_law 1181 = .ok (.ifCond .eq 5, 3) := by decide +kernel
theorem dL_law_1184 : decode cL_law 1184 = .ok (.iconst 0, 1) := by decide +kernel
theorem dL_law_1185 : decode cL_law 1185 = .ok (.ireturn, 1) := by decide +kernel
theorem dL_law_1186 : decode cL_law 1186 = .ok (.goto 99, 3) := by decide +kernel
theorem dL_law_1189 : decode cL_law 1189 = .ok (.aload_n 1, 1) := by decide +kernel
theorem dL_law_1190 : decode cL_law 1190 = .ok (.invokevirtual 143, 3) := by decide +kernel
theorem dL_law_1193 : decode cL_law 1193 = .ok (.aload_n 2, 1) := by decide +kernel
theorem dL_law_1194 : decode cL_law 1194 = .ok (.invokevirtual 146, 3) := by decide +kernel
theorem dL_law_1197 : decode cL_law 1197 = .ok (.if_icmp .eq 88, 3) := by decide +kernel
theorem dL_law_1200 : decode cL_law 1200 = .ok (.iconst 0, 1) := by decide +kernel
theorem dL_law_1201 : decode cL_law 1201 = .ok (.ireturn, 1) := by decide +kernel
theorem dL_law_1202 : decode cL_law 1202 = .ok (.aload_n 1, 1) := by decide +kernel
theorem dL_law_1203 : decode cL_law 1203 = .ok (.aload_n 0, 1) := by decide +kernel
theorem dL_law_1204 : decode cL_law 1204 = .ok (.iload 4, 2) := by decide +kernel
theorem dL_law_1206 : decode cL_law 1206 = .ok (.iconst 1, 1) := by decide +kernel
theorem dL_law_1207 : decode cL_law 1207 = .ok (.iadd, 1) := by decide +kernel
theorem dL_law_1208 : decode cL_law 1208 = .ok (.iaload, 1) := by decide +kernel
theorem dL_law_1209 : decode cL_law 1209 = .ok (.aload_n 3, 1) := by decide +kernel
theorem dL_law_1210 : decode cL_law 1210 = .ok (.invokestatic 147, 3) := by decide +kernel
theorem dL_law_1213 : decode cL_law 1213 = .ok (.istore 5, 2) := by decide +kernel
theorem dL_law_1215 : decode cL_law 1215 = .ok (.aload_n 2, 1) := by decide +kernel
theorem dL_law_1216 : decode cL_law 1216 = .ok (.aload_n 0, 1) := by decide +kernel
theorem dL_law_1217 : decode cL_law 1217 = .ok (.iload 4, 2) := by decide +kernel
theorem dL_law_1219 : decode cL_law 1219 = .ok (.iconst 1, 1) := by decide +kernel
theorem dL_law_1220 : decode cL_law 1220 = .ok (.iadd, 1) := by decide +kernel
theorem dL_law_1221 : decode cL_law 1221 = .ok (.iaload, 1) := by decide +kernel
theorem dL_law_1222 : decode cL_law 1222 = .ok (.invokevirtual 149, 3) := by decide +kernel
theorem dL_law_1225 : decode cL_law 1225 = .ok (.istore 6, 2) := by decide +kernel
theorem dL_law_1227 : decode cL_law 1227 = .ok (.aload_n 2, 1) := by decide +kernel
theorem dL_law_1228 : decode cL_law 1228 = .ok (.invokevirtual 71, 3) := by decide +kernel
theorem dL_law_1231 : decode cL_law 1231 = .ok (.iload 5, 2) := by decide +kernel
theorem dL_law_1233 : decode cL_law 1233 = .ok (.if_icmp .eq 5, 3) := by decide +kernel
theorem dL_law_1236 : decode cL_law 1236 = .ok (.iconst 0, 1) := by decide +kernel
theorem dL_law_1237 : decode cL_law 1237 = .ok (.ireturn, 1) := by decide +kernel
theorem dL_law_1238 : decode cL_law 1238 = .ok (.iload 5, 2) := by decide +kernel
theorem dL_law_1240 : decode cL_law 1240 = .ok (.ifCond .ne 15, 3) := by decide +kernel
theorem dL_law_1243 : decode cL_law 1243 = .ok (.aload_n 3, 1) := by decide +kernel
theorem dL_law_1244 : decode cL_law 1244 = .ok (.iconst 0, 1) := by decide +kernel
theorem dL_law_1245 : decode cL_law 1245 = .ok (.laload, 1) := by decide +kernel
theorem dL_law_1246 : decode cL_law 1246 = .ok (.iload 6, 2) := by decide +kernel
theorem dL_law_1248 : decode cL_law 1248 = .ok (.i2l, 1) := by decide +kernel
theorem dL_law_1249 : decode cL_law 1249 = .ok (.lcmp, 1) := by decide +kernel
theorem dL_law_1250 : decode cL_law 1250 = .ok (.ifCond .eq 5, 3) := by decide +kernel
theorem dL_law_1253 : decode cL_law 1253 = .ok (.iconst 0, 1) := by decide +kernel
theorem dL_law_1254 : decode cL_law 1254 = .ok (.ireturn, 1) := by decide +kernel
theorem dL_law_1255 : decode cL_law 1255 = .ok (.goto 30, 3) := by decide +kernel
theorem dL_law_1258 : decode cL_law 1258 = .ok (.aload_n 1, 1) := by decide +kernel
theorem dL_law_1259 : decode cL_law 1259 = .ok (.invokevirtual 150, 3) := by decide +kernel
theorem dL_law_1262 : decode cL_law 1262 = .ok (.aload_n 2, 1) := by decide +kernel
theorem dL_law_1263 : decode cL_law 1263 = .ok (.invokevirtual 153, 3) := by decide +kernel
theorem dL_law_1266 : decode cL_law 1266 = .ok (.if_icmp .eq 19, 3) := by decide +kernel
theorem dL_law_1269 : decode cL_law 1269 = .ok (.iconst 0, 1) := by decide +kernel
theorem dL_law_1270 : decode cL_law 1270 = .ok (.ireturn, 1) := by decide +kernel
theorem dL_law_1271 : decode cL_law 1271 = .ok (.aload_n 1, 1) := by decide +kernel
theorem dL_law_1272 : decode cL_law 1272 = .ok (.invokevirtual 154, 3) := by decide +kernel
theorem dL_law_1275 : decode cL_law 1275 = .ok (.aload_n 2, 1) := by decide +kernel
theorem dL_law_1276 : decode cL_law 1276 = .ok (.invokevirtual 158, 3) := by decide +kernel
theorem dL_law_1279 : decode cL_law 1279 = .ok (.lcmp, 1) := by decide +kernel
theorem dL_law_1280 : decode cL_law 1280 = .ok (.ifCond .eq 5, 3) := by decide +kernel
theorem dL_law_1283 : decode cL_law 1283 = .ok (.iconst 0, 1) := by decide +kernel
theorem dL_law_1284 : decode cL_law 1284 = .ok (.ireturn, 1) := by decide +kernel
theorem dL_law_1285 : decode cL_law 1285 = .ok (.iinc 4 5, 3) := by decide +kernel
theorem dL_law_1288 : decode cL_law 1288 = .ok (.goto (-1265), 3) := by decide +kernel
theorem dL_law_1291 : decode cL_law 1291 = .ok (.iconst 1, 1) := by decide +kernel
theorem dL_law_1292 : decode cL_law 1292 = .ok (.ireturn, 1) := by decide +kernel
abbrev vwCl : List vw_C := [(RX0, TX0, 8), (RX1, TX1, 5), (RX2, TX2, 8), (RX3, TX3, 13)]
end
section
/-! ===== function worlds: the heap by names (kind, index); an address for each name ===== -/
abbrev fw_W : Type := Nat → Nat → Option va_E
abbrev fw_Ad : Type := Nat → Nat → Nat
def fw_up (w : fw_W) (a i : Nat) (x : va_E) : fw_W := fun b j => if b = a ∧ j = i then some x else w b j
abbrev fw_A (z : Nat) : Nat → Prop := fun q => z ≤ q
/-- the heap holds the cells of w at their addresses, from z on, each at its own -/
def fw_P (D : va_G) (cl : List vw_C) (z : Nat) (ad : fw_Ad) (w : fw_W) (H : Heap) : Prop :=
  (∀ a i x, w a i = some x → va_at D cl (ad a i, x) H ∧ z ≤ ad a i) ∧ ∀ a i x b j y, w a i = some x → w b j = some y → ad a i = ad b j → a = b ∧ i = j
def fw_Pre (D : va_G) (cl : List vw_C) (tys : List (ClassId × FieldType)) (z : Nat) (ad : fw_Ad) (w : fw_W) : State → Prop := fun U => fw_P D cl z ad w U.heap ∧ va_K D cl tys U
theorem fw_up_same (w : fw_W) (a i : Nat) (x : va_E) : fw_up w a i x a i = some x := by simp [fw_up]
theorem fw_up_ne {w : fw_W} {a i b j : Nat} {x : va_E} (h : ¬ (b = a ∧ j = i)) : fw_up w a i x b j = w b j := by simp only [fw_up, if_neg h]
theorem fw_up_k {w : fw_W} {a i b j : Nat} {x : va_E} (h : b ≠ a) : fw_up w a i x b j = w b j := fw_up_ne (fun q => h q.1)
theorem fw_up_i {w : fw_W} {a i b j : Nat} {x : va_E} (h : j ≠ i) : fw_up w a i x b j = w b j := fw_up_ne (fun q => h q.2)
theorem fw_one {D : va_G} {cl : List vw_C} {z : Nat} {ad : fw_Ad} {w : fw_W} {H : Heap} (h : fw_P D cl z ad w H) {a i : Nat} {x : va_E} (he : w a i = some x) : va_P D cl [(ad a i, x)] H := by
  intro k q hk
  have hk0 : k < 1 := (List.getElem?_eq_some_iff.mp hk).1
  have : k = 0 := by omega
  subst this
  cases hk
  exact (h.1 a i x he).1
theorem fw_list {D : va_G} {cl : List vw_C} {z : Nat} {ad : fw_Ad} {w : fw_W} {H : Heap} (h : fw_P D cl z ad w H) : ∃ ws : va_W, va_P D cl ws H ∧ va_D (fw_A z) ws ∧ ∀ a i x, w a i = some x → ∃ k : Nat, ws[k]? = some (ad a i, x) := by
  let P : Nat → va_E → Prop := fun q x => ∃ a i, w a i = some x ∧ ad a i = q
  have hfun : ∀ q x y, P q x → P q y → x = y := by
    rintro q x y ⟨a, i, h1, h2⟩ ⟨b, j, h3, h4⟩
    obtain ⟨rfl, rfl⟩ := h.2 a i x b j y h1 h3 (h2.trans h4.symm)
    exact Option.some.inj (h1.symm.trans h3)
  let g : Nat → Option (Nat × va_E) := fun q => (Classical.propDecidable (∃ x, P q x)).casesOn (fun _ => none) (fun hx => some (q, Classical.choose hx))
  have g1 : ∀ q y, g q = some y → y.1 = q ∧ P q y.2 := by
    intro q y hy
    dsimp only [g] at hy
    generalize Classical.propDecidable (∃ x, P q x) = dd at hy
    cases dd with
    | isFalse _ => cases hy
    | isTrue hx => cases hy; exact ⟨rfl, Classical.choose_spec hx⟩
  have g2 : ∀ q x, P q x → g q = some (q, x) := by
    intro q x hx
    dsimp only [g]
    generalize Classical.propDecidable (∃ x, P q x) = dd
    cases dd with
    | isFalse hn => exact absurd ⟨x, hx⟩ hn
    | isTrue hx' => exact congrArg (fun t => some (q, t)) (hfun q _ _ (Classical.choose_spec hx') hx)
  have hm : ∀ y, y ∈ (List.range H.size).filterMap g ↔ ∃ q, q < H.size ∧ g q = some y := by
    intro y
    simp only [List.mem_filterMap, List.mem_range]
  have hpw : ((List.range H.size).filterMap g).Pairwise (fun x y => x.1 ≠ y.1) := by
    refine List.Pairwise.filterMap (R := fun x y => x < y) g ?_ List.pairwise_lt_range
    intro q1 q2 hq y1 h1 y2 h2 hh
    have e1 := (g1 q1 y1 h1).1
    have e2 := (g1 q2 y2 h2).1
    omega
  refine ⟨(List.range H.size).filterMap g, ?_, ⟨?_, ?_⟩, ?_⟩
  · intro k q hk
    obtain ⟨q', -, hq⟩ := (hm q).mp (List.mem_of_getElem? hk)
    obtain ⟨e1, a, i, h1, h2⟩ := g1 q' q hq
    have := (h.1 a i q.2 h1).1
    rw [h2, ← e1] at this
    exact this
  · intro i j x y hi hj hxy
    obtain ⟨hi1, hi2⟩ := List.getElem?_eq_some_iff.mp hi
    obtain ⟨hj1, hj2⟩ := List.getElem?_eq_some_iff.mp hj
    rcases Nat.lt_trichotomy i j with hlt | heq | hgt
    · have := (List.pairwise_iff_getElem.mp hpw) i j hi1 hj1 hlt
      rw [hi2, hj2] at this
      exact absurd hxy this
    · exact heq
    · have := (List.pairwise_iff_getElem.mp hpw) j i hj1 hi1 hgt
      rw [hi2, hj2] at this
      exact absurd hxy.symm this
  · intro k q hk
    obtain ⟨q', -, hq⟩ := (hm q).mp (List.mem_of_getElem? hk)
    obtain ⟨e1, a, i, h1, h2⟩ := g1 q' q hq
    have := (h.1 a i q.2 h1).2
    show z ≤ q.1
    rw [e1, ← h2]
    exact this
  · intro a i x hx
    have hlt := (h.1 a i x hx).1.lt
    exact List.getElem?_of_mem ((hm _).mpr ⟨ad a i, hlt, g2 _ _ ⟨a, i, hx, rfl⟩⟩)
/-- a cell written: from the list back to the names -/
theorem fw_back {D : va_G} {cl : List vw_C} {z : Nat} {ad : fw_Ad} {w : fw_W} {H H1 : Heap} (h : fw_P D cl z ad w H) {ws : va_W} (hf : ∀ a i x, w a i = some x → ∃ k : Nat, ws[k]? = some (ad a i, x)) {a i q0 : Nat} {x0 x1 : va_E} (he : w a i = some x0) (hq0 : ws[q0]? = some (ad a i, x0)) (h1 : va_P D cl (ws.set q0 (ad a i, x1)) H1) : fw_P D cl z ad (fw_up w a i x1) H1 := by
  have hl : q0 < ws.length := (List.getElem?_eq_some_iff.mp hq0).1
  refine ⟨fun b j y hy => ?_, fun b j y b' j' y' hy hy' heq => ?_⟩
  · by_cases hbj : b = a ∧ j = i
    · obtain ⟨rfl, rfl⟩ := hbj
      rw [fw_up_same] at hy
      cases hy
      exact ⟨h1 q0 _ (List.getElem?_set_self hl), (h.1 _ _ _ he).2⟩
    · rw [fw_up_ne hbj] at hy
      obtain ⟨k, hk⟩ := hf _ _ _ hy
      have hne : k ≠ q0 := by
        rintro rfl
        rw [hq0] at hk
        exact hbj ((h.2 _ _ _ _ _ _ he hy (congrArg Prod.fst (Option.some.inj hk))).imp Eq.symm Eq.symm)
      exact ⟨h1 k _ (by rw [List.getElem?_set_ne (Ne.symm hne)]; exact hk), (h.1 _ _ _ hy).2⟩
  · have live : ∀ b j y, fw_up w a i x1 b j = some y → ∃ y', w b j = some y' := by
      intro b j y hy
      by_cases hbj : b = a ∧ j = i
      · obtain ⟨rfl, rfl⟩ := hbj
        exact ⟨_, he⟩
      · rw [fw_up_ne hbj] at hy
        exact ⟨_, hy⟩
    obtain ⟨u, hu⟩ := live _ _ _ hy
    obtain ⟨u', hu'⟩ := live _ _ _ hy'
    exact h.2 _ _ _ _ _ _ hu hu' heq
/-- a cell made: it gets a name that is free -/
theorem fw_born {D : va_G} {cl : List vw_C} {z : Nat} {ad : fw_Ad} {w : fw_W} {H H1 : Heap} (h : fw_P D cl z ad w H) {ws : va_W} (hf : ∀ a i x, w a i = some x → ∃ k : Nat, ws[k]? = some (ad a i, x)) {a i q : Nat} {x : va_E} (hfree : w a i = none) (h1 : va_P D cl (ws ++ [(q, x)]) H1) (hD : va_D (fw_A z) (ws ++ [(q, x)])) {ad' : fw_Ad} (hq : ad' a i = q) (hs : ∀ b j, ¬ (b = a ∧ j = i) → ad' b j = ad b j) : fw_P D cl z ad' (fw_up w a i x) H1 := by
  have hlast : (ws ++ [(q, x)])[ws.length]? = some (q, x) := by simp
  have old : ∀ b j y, w b j = some y → ¬ (b = a ∧ j = i) ∧ (∃ k : Nat, k < ws.length ∧ (ws ++ [(q, x)])[k]? = some (ad b j, y)) := by
    intro b j y hy
    refine ⟨fun hbj => ?_, ?_⟩
    · obtain ⟨rfl, rfl⟩ := hbj
      rw [hfree] at hy
      cases hy
    · obtain ⟨k, hk⟩ := hf _ _ _ hy
      have hl := (List.getElem?_eq_some_iff.mp hk).1
      exact ⟨k, hl, by rw [List.getElem?_append_left hl]; exact hk⟩
  have new : ∀ b j y, w b j = some y → ad b j ≠ q := by
    intro b j y hy hh
    obtain ⟨-, k, hk, hk2⟩ := old b j y hy
    have := hD.1 k ws.length _ _ hk2 hlast hh
    omega
  refine ⟨fun b j y hy => ?_, fun b j y b' j' y' hy hy' heq => ?_⟩
  · by_cases hbj : b = a ∧ j = i
    · obtain ⟨rfl, rfl⟩ := hbj
      rw [fw_up_same] at hy
      cases hy
      rw [hq]
      exact ⟨h1 _ _ hlast, hD.2 _ _ hlast⟩
    · rw [fw_up_ne hbj] at hy
      rw [hs b j hbj]
      obtain ⟨-, k, hk, hk2⟩ := old b j y hy
      exact ⟨h1 k _ hk2, (h.1 _ _ _ hy).2⟩
  · by_cases hbj : b = a ∧ j = i <;> by_cases hbj' : b' = a ∧ j' = i
    · exact ⟨hbj.1.trans hbj'.1.symm, hbj.2.trans hbj'.2.symm⟩
    · rw [fw_up_ne hbj'] at hy'
      rw [hs b' j' hbj', hbj.1, hbj.2, hq] at heq
      exact absurd heq.symm (new _ _ _ hy')
    · rw [fw_up_ne hbj] at hy
      rw [hs b j hbj, hbj'.1, hbj'.2, hq] at heq
      exact absurd heq (new _ _ _ hy)
    · rw [fw_up_ne hbj] at hy
      rw [fw_up_ne hbj'] at hy'
      rw [hs b j hbj, hs b' j' hbj'] at heq
      exact h.2 _ _ _ _ _ _ hy hy' heq
/-- fewer cells, the same ones -/
theorem fw_less {D : va_G} {cl : List vw_C} {z : Nat} {ad ad' : fw_Ad} {w w' : fw_W} {H : Heap} (h : fw_P D cl z ad w H) (hw : ∀ a i x, w' a i = some x → w a i = some x) (ha : ∀ a i x, w' a i = some x → ad' a i = ad a i) : fw_P D cl z ad' w' H := by
  refine ⟨fun a i x hx => ?_, fun a i x b j y hx hy heq => ?_⟩
  · rw [ha _ _ _ hx]
    exact h.1 _ _ _ (hw _ _ _ hx)
  · rw [ha _ _ _ hx, ha _ _ _ hy] at heq
    exact h.2 _ _ _ _ _ _ (hw _ _ _ hx) (hw _ _ _ hy) heq
theorem fw_eq {D : va_G} {cl : List vw_C} {z : Nat} {ad : fw_Ad} {w w' : fw_W} {H : Heap} (h : fw_P D cl z ad w H) (hw : ∀ a i, w' a i = w a i) : fw_P D cl z ad w' H := fw_less h (fun a i x hx => by rw [← hw]; exact hx) (fun _ _ _ _ => rfl)
theorem fw_pre_blind {D : va_G} {cl : List vw_C} {tys : List (ClassId × FieldType)} {z : Nat} {ad : fw_Ad} {w : fw_W} {av : List Value} : FrameBlind (va_Pc av (fw_Pre D cl tys z ad w)) := fun a U g mk q => by
  obtain ⟨q0, q1, q2⟩ := q
  exact ⟨q0, q1, va_K.moved (u := U) (U := U.calling g mk a) (Vm.Alike.refl U.vm) q2⟩
section FWR
variable {p : Program} {l : Launch} {e : Env} {R : Room} {s : State} {m : MethodId} {args : Array Value} {below : List Frame} {meth : Method} {c : Code} {H : Heap} {locs : List Loc} {cells slots : Nat} {Q : State → Prop}
variable {cc : ByteArray} {pc : Nat} {ls : Array Slot} {rest : List Value} {D : va_G} {cl : List vw_C} {tys : List (ClassId × FieldType)} {H0 : Heap} {z : Nat} {ad : fw_Ad} {w : fw_W} {a i : Nat}
/-! reads -/
theorem fw_get (hexec : p.tables.exec = Jvm.exec) (hb : c.code = cc) {own ref C : String} {T : u_T} {N ci index : Nat} {Ts : List Cond} (hts : ∀ w ∈ Ts, w.before args s = true) (hin : ∀ w ∈ u_ws C T N, w ∈ Ts) (hown : s.vm.findClass own = some m.cls) (hK : va_K D cl tys s) (hP : fw_P D cl z ad w H) {fs : List Value} (he : w a i = some (.inr (ci, fs))) (hc : cl[ci]? = some (C, T, N)) (k : Nat) (hk : k < N) (hlink : (Cond.fieldLink own index ref (T k).2.1 (T k).2.2.1).before args s = true) (hsame : ∀ x, s.fieldFound? (T k).1 (T k).2.1 (T k).2.2.1 = some x → s.fieldFound? ref (T k).2.1 (T k).2.2.1 = some x) {v : Value} (hv : fs[k]? = some v) (hdg : decode cc pc = .ok (.getfield index, 3))
    (kk : W p l e R s m args below meth c H locs cells slots Q (F0 m (pc + 3) ls (v :: rest))) : W p l e R s m args below meth c H locs cells slots Q (F0 m pc ls (.ref (ad a i) :: rest)) :=
  va_get hexec hb hts hin hown hK (fw_one hP he) 0 rfl hc k hk hlink hsame hv hdg kk
theorem fw_iald (hexec : p.tables.exec = Jvm.exec) (hb : c.code = cc) (hK : va_K D cl tys s) (hP : fw_P D cl z ad w H) {cA : ClassId} {n : Nat} {f : Nat → Int32} (he : w a i = some (.inl (cA, n, .inl f))) (t0 : Nat) (ht : tys[t0]? = some (cA, .int)) {j : Int32} (hin : vp_in j n) (hdg : decode cc pc = .ok (.iaload, 1))
    (kk : W p l e R s m args below meth c H locs cells slots Q (F0 m (pc + 1) ls (.int (f j.toNatClampNeg) :: rest))) : W p l e R s m args below meth c H locs cells slots Q (F0 m pc ls (.int j :: .ref (ad a i) :: rest)) :=
  va_iald hexec hb hK (fw_one hP he) 0 t0 rfl ht hin hdg kk
theorem fw_zald (hexec : p.tables.exec = Jvm.exec) (hb : c.code = cc) (hK : va_K D cl tys s) (hP : fw_P D cl z ad w H) {cA : ClassId} {n : Nat} {f : Nat → Int32} (he : w a i = some (.inl (cA, n, .inl f))) (t0 : Nat) (ht : tys[t0]? = some (cA, .boolean)) {j : Int32} (hin : vp_in j n) (hdg : decode cc pc = .ok (.baload, 1))
    (kk : W p l e R s m args below meth c H locs cells slots Q (F0 m (pc + 1) ls (.int (f j.toNatClampNeg) :: rest))) : W p l e R s m args below meth c H locs cells slots Q (F0 m pc ls (.int j :: .ref (ad a i) :: rest)) :=
  va_zald hexec hb hK (fw_one hP he) 0 t0 rfl ht hin hdg kk
theorem fw_lald (hexec : p.tables.exec = Jvm.exec) (hb : c.code = cc) (hK : va_K D cl tys s) (hP : fw_P D cl z ad w H) {cA : ClassId} {n : Nat} {f : Nat → Int64} (he : w a i = some (.inl (cA, n, .inr (.inl f)))) (t0 : Nat) (ht : tys[t0]? = some (cA, .long)) {j : Int32} (hin : vp_in j n) (hdg : decode cc pc = .ok (.laload, 1))
    (kk : W p l e R s m args below meth c H locs cells slots Q (F0 m (pc + 1) ls (.long (f j.toNatClampNeg) :: rest))) : W p l e R s m args below meth c H locs cells slots Q (F0 m pc ls (.int j :: .ref (ad a i) :: rest)) :=
  va_lald hexec hb hK (fw_one hP he) 0 t0 rfl ht hin hdg kk
theorem fw_aldq (hexec : p.tables.exec = Jvm.exec) (hb : c.code = cc) (hK : va_K D cl tys s) (hP : fw_P D cl z ad w H) {cA : ClassId} {C : String} {n : Nat} {f : Nat → Option Nat} (he : w a i = some (.inl (cA, n, .inr (.inr (.inr (.inr f)))))) (t0 : Nat) (ht : tys[t0]? = some (cA, .object C)) {j : Int32} (hin : vp_in j n) (hdg : decode cc pc = .ok (.aaload, 1))
    (kk : W p l e R s m args below meth c H locs cells slots Q (F0 m (pc + 1) ls (va_rf (f j.toNatClampNeg) :: rest))) : W p l e R s m args below meth c H locs cells slots Q (F0 m pc ls (.int j :: .ref (ad a i) :: rest)) :=
  va_aldq hexec hb hK (fw_one hP he) 0 t0 rfl ht hin hdg kk
theorem fw_alen (hexec : p.tables.exec = Jvm.exec) (hb : c.code = cc) (hK : va_K D cl tys s) (hP : fw_P D cl z ad w H) {cA : ClassId} {x : vp_A} (he : w a i = some (.inl (cA, x))) (t0 : Nat) {ty : FieldType} (ht : tys[t0]? = some (cA, ty)) {v : Int32} (hv : Int32.ofNat x.1 = v) (hdg : decode cc pc = .ok (.arraylength, 1))
    (kk : W p l e R s m args below meth c H locs cells slots Q (F0 m (pc + 1) ls (.int v :: rest))) : W p l e R s m args below meth c H locs cells slots Q (F0 m pc ls (.ref (ad a i) :: rest)) :=
  va_alen hexec hb hK (fw_one hP he) 0 t0 rfl ht hv hdg kk
/-! writes -/
theorem fw_put (hexec : p.tables.exec = Jvm.exec) (hb : c.code = cc) {own ref C : String} {T : u_T} {N ci index : Nat} {Ts : List Cond} (hts : ∀ w ∈ Ts, w.before args s = true) (hin : ∀ w ∈ u_ws C T N, w ∈ Ts) (ty0 : Nat → FieldType) (hty : ∀ k, k < N → parseFieldDescriptor (T k).2.2.1 = some (ty0 k)) (hnm : ∀ a, a < N → ∀ b, b < N → a ≠ b → (T a).2.1 ≠ (T b).2.1) (hown : s.vm.findClass own = some m.cls) (hK : va_K D cl tys s) (hP : fw_P D cl z ad w H) (hS0 : va_S (fw_A z) H0 H locs) {fs : List Value} (he : w a i = some (.inr (ci, fs))) (hc : cl[ci]? = some (C, T, N)) (k : Nat) (hk : k < N) (hlink : (Cond.fieldLink own index ref (T k).2.1 (T k).2.2.1).before args s = true) (hsame : ∀ x, s.fieldFound? (T k).1 (T k).2.1 (T k).2.2.1 = some x → s.fieldFound? ref (T k).2.1 (T k).2.2.1 = some x) (hfin : (T k).2.2.2 = false) {ty : FieldType} {v : Value} (hd : parseFieldDescriptor (T k).2.2.1 = some ty) (hn : narrow ty v = v) (hfit : Jvm.fits ty v = true) (hl : k < fs.length)
    (hdg : decode cc pc = .ok (.putfield index, 3)) (kk : ∀ (H1 : Heap) (locs1 : List Loc), fw_P D cl z ad (fw_up w a i (.inr (ci, fs.set k v))) H1 → va_S (fw_A z) H0 H1 locs1 → W p l e R s m args below meth c H1 locs1 cells slots Q (F0 m (pc + 3) ls rest)) : W p l e R s m args below meth c H locs cells slots Q (F0 m pc ls (v :: .ref (ad a i) :: rest)) := by
  obtain ⟨ws, hP', hD, hf⟩ := fw_list hP
  obtain ⟨q0, hq0⟩ := hf _ _ _ he
  exact va_put hexec hb hts hin ty0 hty hnm hown hK hP' hD hS0 q0 hq0 hc k hk hlink hsame hfin hd hn hfit hl hdg (fun H1 l1 h1 h2 h3 => kk H1 l1 (fw_back hP hf he hq0 h1) h3)
theorem fw_putF (hexec : p.tables.exec = Jvm.exec) (hb : c.code = cc) {own ref C : String} {T : u_T} {N ci index : Nat} {Ts : List Cond} (hts : ∀ w ∈ Ts, w.before args s = true) (hin : ∀ w ∈ u_ws C T N, w ∈ Ts) (ty0 : Nat → FieldType) (hty : ∀ k, k < N → parseFieldDescriptor (T k).2.2.1 = some (ty0 k)) (hnm : ∀ a, a < N → ∀ b, b < N → a ≠ b → (T a).2.1 ≠ (T b).2.1) (hown : s.vm.findClass own = some m.cls) (hK : va_K D cl tys s) (hP : fw_P D cl z ad w H) (hS0 : va_S (fw_A z) H0 H locs) {fs : List Value} (he : w a i = some (.inr (ci, fs))) (hc : cl[ci]? = some (C, T, N)) (k : Nat) (hk : k < N) (hlink : (Cond.fieldLink own index ref (T k).2.1 (T k).2.2.1).before args s = true) (hsame : ∀ x, s.fieldFound? (T k).1 (T k).2.1 (T k).2.2.1 = some x → s.fieldFound? ref (T k).2.1 (T k).2.2.1 = some x) (hfin : (T k).2.2.2 = true) (hin2 : meth.name = "<init>") (hdecl : (T k).1 = own) {ty : FieldType} {v : Value} (hd : parseFieldDescriptor (T k).2.2.1 = some ty) (hn : narrow ty v = v) (hfit : Jvm.fits ty v = true) (hl : k < fs.length)
    (hdg : decode cc pc = .ok (.putfield index, 3)) (kk : ∀ (H1 : Heap) (locs1 : List Loc), fw_P D cl z ad (fw_up w a i (.inr (ci, fs.set k v))) H1 → va_S (fw_A z) H0 H1 locs1 → W p l e R s m args below meth c H1 locs1 cells slots Q (F0 m (pc + 3) ls rest)) : W p l e R s m args below meth c H locs cells slots Q (F0 m pc ls (v :: .ref (ad a i) :: rest)) := by
  obtain ⟨ws, hP', hD, hf⟩ := fw_list hP
  obtain ⟨q0, hq0⟩ := hf _ _ _ he
  exact va_putF hexec hb hts hin ty0 hty hnm hown hK hP' hD hS0 q0 hq0 hc k hk hlink hsame hfin hin2 hdecl hd hn hfit hl hdg (fun H1 l1 h1 h2 h3 => kk H1 l1 (fw_back hP hf he hq0 h1) h3)
theorem fw_iast (hexec : p.tables.exec = Jvm.exec) (hb : c.code = cc) (hK : va_K D cl tys s) (hP : fw_P D cl z ad w H) (hS : va_S (fw_A z) H0 H locs) {cA : ClassId} {n : Nat} {f : Nat → Int32} (he : w a i = some (.inl (cA, n, .inl f))) (t0 : Nat) (ht : tys[t0]? = some (cA, .int)) {j : Int32} {x : Int32} (hin : vp_in j n) (hdg : decode cc pc = .ok (.iastore, 1))
    (kk : ∀ (H1 : Heap) (locs1 : List Loc), fw_P D cl z ad (fw_up w a i (.inl (cA, n, .inl (upd f j.toNatClampNeg x)))) H1 → va_S (fw_A z) H0 H1 locs1 → W p l e R s m args below meth c H1 locs1 cells slots Q (F0 m (pc + 1) ls rest)) : W p l e R s m args below meth c H locs cells slots Q (F0 m pc ls (.int x :: .int j :: .ref (ad a i) :: rest)) := by
  obtain ⟨ws, hP', hD, hf⟩ := fw_list hP
  obtain ⟨q0, hq0⟩ := hf _ _ _ he
  exact va_iast hexec hb hK hP' hD hS q0 t0 hq0 ht hin hdg (fun H1 l1 h1 h2 h3 => kk H1 l1 (fw_back hP hf he hq0 h1) h3)
theorem fw_zast (hexec : p.tables.exec = Jvm.exec) (hb : c.code = cc) (hK : va_K D cl tys s) (hP : fw_P D cl z ad w H) (hS : va_S (fw_A z) H0 H locs) {cA : ClassId} {n : Nat} {f : Nat → Int32} (he : w a i = some (.inl (cA, n, .inl f))) (t0 : Nat) (ht : tys[t0]? = some (cA, .boolean)) {j : Int32} {x : Int32} (hin : vp_in j n) (hdg : decode cc pc = .ok (.bastore, 1))
    (kk : ∀ (H1 : Heap) (locs1 : List Loc), fw_P D cl z ad (fw_up w a i (.inl (cA, n, .inl (upd f j.toNatClampNeg (vp_nar .boolean x))))) H1 → va_S (fw_A z) H0 H1 locs1 → W p l e R s m args below meth c H1 locs1 cells slots Q (F0 m (pc + 1) ls rest)) : W p l e R s m args below meth c H locs cells slots Q (F0 m pc ls (.int x :: .int j :: .ref (ad a i) :: rest)) := by
  obtain ⟨ws, hP', hD, hf⟩ := fw_list hP
  obtain ⟨q0, hq0⟩ := hf _ _ _ he
  exact va_zast hexec hb hK hP' hD hS q0 t0 hq0 ht hin hdg (fun H1 l1 h1 h2 h3 => kk H1 l1 (fw_back hP hf he hq0 h1) h3)
theorem fw_last (hexec : p.tables.exec = Jvm.exec) (hb : c.code = cc) (hK : va_K D cl tys s) (hP : fw_P D cl z ad w H) (hS : va_S (fw_A z) H0 H locs) {cA : ClassId} {n : Nat} {f : Nat → Int64} (he : w a i = some (.inl (cA, n, .inr (.inl f)))) (t0 : Nat) (ht : tys[t0]? = some (cA, .long)) {j : Int32} {x : Int64} (hin : vp_in j n) (hdg : decode cc pc = .ok (.lastore, 1))
    (kk : ∀ (H1 : Heap) (locs1 : List Loc), fw_P D cl z ad (fw_up w a i (.inl (cA, n, .inr (.inl (vp_updL f j.toNatClampNeg x))))) H1 → va_S (fw_A z) H0 H1 locs1 → W p l e R s m args below meth c H1 locs1 cells slots Q (F0 m (pc + 1) ls rest)) : W p l e R s m args below meth c H locs cells slots Q (F0 m pc ls (.long x :: .int j :: .ref (ad a i) :: rest)) := by
  obtain ⟨ws, hP', hD, hf⟩ := fw_list hP
  obtain ⟨q0, hq0⟩ := hf _ _ _ he
  exact va_last hexec hb hK hP' hD hS q0 t0 hq0 ht hin hdg (fun H1 l1 h1 h2 h3 => kk H1 l1 (fw_back hP hf he hq0 h1) h3)
theorem fw_two {ws : va_W} {w : fw_W} {ad : fw_Ad} (hf : ∀ a i x, w a i = some x → ∃ k : Nat, ws[k]? = some (ad a i, x)) {a i : Nat} {x : va_E} (he : w a i = some x) : ∃ k : Nat, ws[k]? = some (ad a i, x) := hf _ _ _ he
theorem fw_astq (hexec : p.tables.exec = Jvm.exec) (hb : c.code = cc) (hK : va_K D cl tys s) (hP : fw_P D cl z ad w H) (hS : va_S (fw_A z) H0 H locs) {ci : Nat} {cA : ClassId} {r : vw_C} {n b k : Nat} {vs : List Value} {f : Nat → Option Nat} (he : w a i = some (.inl (cA, n, .inr (.inr (.inr (.inr f)))))) (t0 : Nat) (ht : tys[t0]? = some (cA, .object r.1)) (hv : w b k = some (.inr (ci, vs))) (hc : cl[ci]? = some r) {j : Int32} (hin : vp_in j n) (hdg : decode cc pc = .ok (.aastore, 1))
    (kk : ∀ (H1 : Heap) (locs1 : List Loc), fw_P D cl z ad (fw_up w a i (.inl (cA, n, .inr (.inr (.inr (.inr (va_up f j.toNatClampNeg (some (ad b k))))))))) H1 → va_S (fw_A z) H0 H1 locs1 → W p l e R s m args below meth c H1 locs1 cells slots Q (F0 m (pc + 1) ls rest)) : W p l e R s m args below meth c H locs cells slots Q (F0 m pc ls (.ref (ad b k) :: .int j :: .ref (ad a i) :: rest)) := by
  obtain ⟨ws, hP', hD, hf⟩ := fw_list hP
  obtain ⟨q0, hq0⟩ := hf _ _ _ he
  obtain ⟨q1, hq1⟩ := hf _ _ _ hv
  exact va_astq hexec hb hK hP' hD hS q0 t0 q1 ci hq0 ht hq1 hc hin hdg (fun H1 l1 h1 h2 h3 => kk H1 l1 (fw_back hP hf he hq0 h1) h3)
theorem fw_astqN (hexec : p.tables.exec = Jvm.exec) (hb : c.code = cc) (hK : va_K D cl tys s) (hP : fw_P D cl z ad w H) (hS : va_S (fw_A z) H0 H locs) {cA : ClassId} {C : String} {n : Nat} {f : Nat → Option Nat} (he : w a i = some (.inl (cA, n, .inr (.inr (.inr (.inr f)))))) (t0 : Nat) (ht : tys[t0]? = some (cA, .object C)) {j : Int32} (hin : vp_in j n) (hdg : decode cc pc = .ok (.aastore, 1))
    (kk : ∀ (H1 : Heap) (locs1 : List Loc), fw_P D cl z ad (fw_up w a i (.inl (cA, n, .inr (.inr (.inr (.inr (va_up f j.toNatClampNeg none))))))) H1 → va_S (fw_A z) H0 H1 locs1 → W p l e R s m args below meth c H1 locs1 cells slots Q (F0 m (pc + 1) ls rest)) : W p l e R s m args below meth c H locs cells slots Q (F0 m pc ls (.null :: .int j :: .ref (ad a i) :: rest)) := by
  obtain ⟨ws, hP', hD, hf⟩ := fw_list hP
  obtain ⟨q0, hq0⟩ := hf _ _ _ he
  exact va_astqN hexec hb hK hP' hD hS q0 t0 hq0 ht hin hdg (fun H1 l1 h1 h2 h3 => kk H1 l1 (fw_back hP hf he hq0 h1) h3)
end FWR
/-! posts, ends, calls -/
abbrev fw_Qi (D : va_G) (cl : List vw_C) (z : Nat) (ad : fw_Ad) (post : Int32 → fw_W → Prop) : Array Value → State → Outcome → State → Prop := va_Qi (S := fw_W) post (fun w' t => fw_P D cl z ad w' t.heap) (fw_A z)
abbrev fw_Ql (D : va_G) (cl : List vw_C) (z : Nat) (ad : fw_Ad) (post : Int64 → fw_W → Prop) : Array Value → State → Outcome → State → Prop := va_Ql (S := fw_W) post (fun w' t => fw_P D cl z ad w' t.heap) (fw_A z)
abbrev fw_Qd (D : va_G) (cl : List vw_C) (z : Nat) (ad : fw_Ad) (post : UInt64 → fw_W → Prop) : Array Value → State → Outcome → State → Prop := va_Qd (S := fw_W) post (fun w' t => fw_P D cl z ad w' t.heap) (fw_A z)
abbrev fw_Qv (D : va_G) (cl : List vw_C) (z : Nat) (ad : fw_Ad) (post : fw_W → Prop) : Array Value → State → Outcome → State → Prop := va_Qv (S := fw_W) post (fun w' t => fw_P D cl z ad w' t.heap) (fw_A z)
abbrev fw_Qq (D : va_G) (cl : List vw_C) (z : Nat) (ad : fw_Ad) (post : Option Nat → fw_W → Prop) : Array Value → State → Outcome → State → Prop := va_Qq (S := fw_W) post (fun w' t => fw_P D cl z ad w' t.heap) (fw_A z)
section FWC
variable {p : Program} {l : Launch} {e : Env} {R : Room} {s : State} {m : MethodId} {args : Array Value} {below : List Frame} {meth : Method} {c : Code} {H : Heap} {locs : List Loc} {cells slots : Nat} {Q : State → Prop}
variable {cc : ByteArray} {pc : Nat} {ls : Array Slot} {rest As stk : List Value} {D : va_G} {cl : List vw_C} {tys : List (ClassId × FieldType)} {H0 : Heap} {z : Nat} {ad : fw_Ad} {w : fw_W} {b k : Nat}
variable {y : MethodName} {bytes : ByteArray} {maxL nL mc ms n index ci N : Nat} {ret : Option FieldType} {ws : List Cond} {rm : Room} {Ts : List Cond} {own C : String} {T : u_T} {fs : List Value}
theorem fw_cVi {post : Int32 → fw_W → Prop} (S : CallFix p m c cc nL s args Ts own) (hM : Met l y ws rm (va_Pc (.ref (ad b k) :: As) (fw_Pre D cl tys z ad w)) (fw_Qi D cl z ad post) mc ms (fw_A z)) (cw : CallW R s args own C index y bytes maxL ret ws rm mc ms n) (hrc : w b k = some (.inr (ci, fs))) (hc : cl[ci]? = some (C, T, N)) (hn : As.length = n) (hsize : ls.size = nL) (hW : (rest.map fun v => v.category).sum ≤ 8) (hdg : decode cc pc = .ok (.invokevirtual index, 3)) (hf : cells + mc ≤ R.cells ∧ slots + ms ≤ R.slots) (hK : va_K D cl tys s) (hP : fw_P D cl z ad w H) (hS : va_S (fw_A z) H0 H locs) (hstk : stk = As.reverse ++ .ref (ad b k) :: rest)
    (kk : ∀ (r : Int32) (w' : fw_W) (H1 : Heap) (locs1 : List Loc), post r w' → fw_P D cl z ad w' H1 → va_S (fw_A z) H0 H1 locs1 → W p l e R s m args below meth c H1 locs1 (cells + mc) (slots + ms) Q (F0 m (pc + 3) ls (.int r :: rest))) : W p l e R s m args below meth c H locs cells slots Q (F0 m pc ls stk) := by
  subst hstk
  exact va_calli (va_runV (As := As) (rest := rest) S hM cw ⟨fw_pre_blind, va_recv hK (fw_one hP hrc) hc (q0 := 0) rfl, fun U hU hW => ⟨rfl, by rw [hU]; exact hP, va_K.moved hW.alike hK⟩⟩ rfl hn hsize rfl (lv_room hW) hdg hf) hS (fun q _ h => h) (fun q h => h) (fun r u t H1 locs1 ht hvm hp hB hz hk hS1 => kk r u H1 locs1 hp (by rw [← ht]; exact hB) hS1)
theorem fw_cSi {post : Int32 → fw_W → Prop} (S : CallFix p m c cc nL s args Ts own) (hM : Met l y ws rm (va_Pc As (fw_Pre D cl tys z ad w)) (fw_Qi D cl z ad post) mc ms (fw_A z)) (cw : CallB R s args own index y bytes maxL ret ws rm mc ms n ∧ (Cond.static y).before args s = true) (hn : As.length = n) (hsize : ls.size = nL) (hW : (rest.map fun v => v.category).sum ≤ 8) (hdg : decode cc pc = .ok (.invokestatic index, 3)) (hf : cells + mc ≤ R.cells ∧ slots + ms ≤ R.slots) (hK : va_K D cl tys s) (hP : fw_P D cl z ad w H) (hS : va_S (fw_A z) H0 H locs) (hstk : stk = As.reverse ++ rest)
    (kk : ∀ (r : Int32) (w' : fw_W) (H1 : Heap) (locs1 : List Loc), post r w' → fw_P D cl z ad w' H1 → va_S (fw_A z) H0 H1 locs1 → W p l e R s m args below meth c H1 locs1 (cells + mc) (slots + ms) Q (F0 m (pc + 3) ls (.int r :: rest))) : W p l e R s m args below meth c H locs cells slots Q (F0 m pc ls stk) := by
  subst hstk
  exact va_calli (va_runS (As := As) (rest := rest) S hM cw ⟨fw_pre_blind, fun U hU hW => ⟨rfl, by rw [hU]; exact hP, va_K.moved hW.alike hK⟩⟩ rfl hn hsize rfl (lv_room hW) hdg hf) hS (fun q _ h => h) (fun q h => h) (fun r u t H1 locs1 ht hvm hp hB hz hk hS1 => kk r u H1 locs1 hp (by rw [← ht]; exact hB) hS1)
theorem fw_cVl {post : Int64 → fw_W → Prop} (S : CallFix p m c cc nL s args Ts own) (hM : Met l y ws rm (va_Pc (.ref (ad b k) :: As) (fw_Pre D cl tys z ad w)) (fw_Ql D cl z ad post) mc ms (fw_A z)) (cw : CallW R s args own C index y bytes maxL ret ws rm mc ms n) (hrc : w b k = some (.inr (ci, fs))) (hc : cl[ci]? = some (C, T, N)) (hn : As.length = n) (hsize : ls.size = nL) (hW : (rest.map fun v => v.category).sum ≤ 8) (hdg : decode cc pc = .ok (.invokevirtual index, 3)) (hf : cells + mc ≤ R.cells ∧ slots + ms ≤ R.slots) (hK : va_K D cl tys s) (hP : fw_P D cl z ad w H) (hS : va_S (fw_A z) H0 H locs) (hstk : stk = As.reverse ++ .ref (ad b k) :: rest)
    (kk : ∀ (r : Int64) (w' : fw_W) (H1 : Heap) (locs1 : List Loc), post r w' → fw_P D cl z ad w' H1 → va_S (fw_A z) H0 H1 locs1 → W p l e R s m args below meth c H1 locs1 (cells + mc) (slots + ms) Q (F0 m (pc + 3) ls (.long r :: rest))) : W p l e R s m args below meth c H locs cells slots Q (F0 m pc ls stk) := by
  subst hstk
  exact va_calll (va_runV (As := As) (rest := rest) S hM cw ⟨fw_pre_blind, va_recv hK (fw_one hP hrc) hc (q0 := 0) rfl, fun U hU hW => ⟨rfl, by rw [hU]; exact hP, va_K.moved hW.alike hK⟩⟩ rfl hn hsize rfl (lv_room hW) hdg hf) hS (fun q _ h => h) (fun q h => h) (fun r u t H1 locs1 ht hvm hp hB hz hk hS1 => kk r u H1 locs1 hp (by rw [← ht]; exact hB) hS1)
theorem fw_cSl {post : Int64 → fw_W → Prop} (S : CallFix p m c cc nL s args Ts own) (hM : Met l y ws rm (va_Pc As (fw_Pre D cl tys z ad w)) (fw_Ql D cl z ad post) mc ms (fw_A z)) (cw : CallB R s args own index y bytes maxL ret ws rm mc ms n ∧ (Cond.static y).before args s = true) (hn : As.length = n) (hsize : ls.size = nL) (hW : (rest.map fun v => v.category).sum ≤ 8) (hdg : decode cc pc = .ok (.invokestatic index, 3)) (hf : cells + mc ≤ R.cells ∧ slots + ms ≤ R.slots) (hK : va_K D cl tys s) (hP : fw_P D cl z ad w H) (hS : va_S (fw_A z) H0 H locs) (hstk : stk = As.reverse ++ rest)
    (kk : ∀ (r : Int64) (w' : fw_W) (H1 : Heap) (locs1 : List Loc), post r w' → fw_P D cl z ad w' H1 → va_S (fw_A z) H0 H1 locs1 → W p l e R s m args below meth c H1 locs1 (cells + mc) (slots + ms) Q (F0 m (pc + 3) ls (.long r :: rest))) : W p l e R s m args below meth c H locs cells slots Q (F0 m pc ls stk) := by
  subst hstk
  exact va_calll (va_runS (As := As) (rest := rest) S hM cw ⟨fw_pre_blind, fun U hU hW => ⟨rfl, by rw [hU]; exact hP, va_K.moved hW.alike hK⟩⟩ rfl hn hsize rfl (lv_room hW) hdg hf) hS (fun q _ h => h) (fun q h => h) (fun r u t H1 locs1 ht hvm hp hB hz hk hS1 => kk r u H1 locs1 hp (by rw [← ht]; exact hB) hS1)
theorem fw_cVd {post : UInt64 → fw_W → Prop} (S : CallFix p m c cc nL s args Ts own) (hM : Met l y ws rm (va_Pc (.ref (ad b k) :: As) (fw_Pre D cl tys z ad w)) (fw_Qd D cl z ad post) mc ms (fw_A z)) (cw : CallW R s args own C index y bytes maxL ret ws rm mc ms n) (hrc : w b k = some (.inr (ci, fs))) (hc : cl[ci]? = some (C, T, N)) (hn : As.length = n) (hsize : ls.size = nL) (hW : (rest.map fun v => v.category).sum ≤ 8) (hdg : decode cc pc = .ok (.invokevirtual index, 3)) (hf : cells + mc ≤ R.cells ∧ slots + ms ≤ R.slots) (hK : va_K D cl tys s) (hP : fw_P D cl z ad w H) (hS : va_S (fw_A z) H0 H locs) (hstk : stk = As.reverse ++ .ref (ad b k) :: rest)
    (kk : ∀ (r : UInt64) (w' : fw_W) (H1 : Heap) (locs1 : List Loc), post r w' → fw_P D cl z ad w' H1 → va_S (fw_A z) H0 H1 locs1 → W p l e R s m args below meth c H1 locs1 (cells + mc) (slots + ms) Q (F0 m (pc + 3) ls (.double r :: rest))) : W p l e R s m args below meth c H locs cells slots Q (F0 m pc ls stk) := by
  subst hstk
  exact va_calld (va_runV (As := As) (rest := rest) S hM cw ⟨fw_pre_blind, va_recv hK (fw_one hP hrc) hc (q0 := 0) rfl, fun U hU hW => ⟨rfl, by rw [hU]; exact hP, va_K.moved hW.alike hK⟩⟩ rfl hn hsize rfl (lv_room hW) hdg hf) hS (fun q _ h => h) (fun q h => h) (fun r u t H1 locs1 ht hvm hp hB hz hk hS1 => kk r u H1 locs1 hp (by rw [← ht]; exact hB) hS1)
theorem fw_cSd {post : UInt64 → fw_W → Prop} (S : CallFix p m c cc nL s args Ts own) (hM : Met l y ws rm (va_Pc As (fw_Pre D cl tys z ad w)) (fw_Qd D cl z ad post) mc ms (fw_A z)) (cw : CallB R s args own index y bytes maxL ret ws rm mc ms n ∧ (Cond.static y).before args s = true) (hn : As.length = n) (hsize : ls.size = nL) (hW : (rest.map fun v => v.category).sum ≤ 8) (hdg : decode cc pc = .ok (.invokestatic index, 3)) (hf : cells + mc ≤ R.cells ∧ slots + ms ≤ R.slots) (hK : va_K D cl tys s) (hP : fw_P D cl z ad w H) (hS : va_S (fw_A z) H0 H locs) (hstk : stk = As.reverse ++ rest)
    (kk : ∀ (r : UInt64) (w' : fw_W) (H1 : Heap) (locs1 : List Loc), post r w' → fw_P D cl z ad w' H1 → va_S (fw_A z) H0 H1 locs1 → W p l e R s m args below meth c H1 locs1 (cells + mc) (slots + ms) Q (F0 m (pc + 3) ls (.double r :: rest))) : W p l e R s m args below meth c H locs cells slots Q (F0 m pc ls stk) := by
  subst hstk
  exact va_calld (va_runS (As := As) (rest := rest) S hM cw ⟨fw_pre_blind, fun U hU hW => ⟨rfl, by rw [hU]; exact hP, va_K.moved hW.alike hK⟩⟩ rfl hn hsize rfl (lv_room hW) hdg hf) hS (fun q _ h => h) (fun q h => h) (fun r u t H1 locs1 ht hvm hp hB hz hk hS1 => kk r u H1 locs1 hp (by rw [← ht]; exact hB) hS1)
theorem fw_cVq {post : Option Nat → fw_W → Prop} (S : CallFix p m c cc nL s args Ts own) (hM : Met l y ws rm (va_Pc (.ref (ad b k) :: As) (fw_Pre D cl tys z ad w)) (fw_Qq D cl z ad post) mc ms (fw_A z)) (cw : CallW R s args own C index y bytes maxL ret ws rm mc ms n) (hrc : w b k = some (.inr (ci, fs))) (hc : cl[ci]? = some (C, T, N)) (hn : As.length = n) (hsize : ls.size = nL) (hW : (rest.map fun v => v.category).sum ≤ 8) (hdg : decode cc pc = .ok (.invokevirtual index, 3)) (hf : cells + mc ≤ R.cells ∧ slots + ms ≤ R.slots) (hK : va_K D cl tys s) (hP : fw_P D cl z ad w H) (hS : va_S (fw_A z) H0 H locs) (hstk : stk = As.reverse ++ .ref (ad b k) :: rest)
    (kk : ∀ (r : Option Nat) (w' : fw_W) (H1 : Heap) (locs1 : List Loc), post r w' → fw_P D cl z ad w' H1 → va_S (fw_A z) H0 H1 locs1 → W p l e R s m args below meth c H1 locs1 (cells + mc) (slots + ms) Q (F0 m (pc + 3) ls (va_rf r :: rest))) : W p l e R s m args below meth c H locs cells slots Q (F0 m pc ls stk) := by
  subst hstk
  exact va_callq (va_runV (As := As) (rest := rest) S hM cw ⟨fw_pre_blind, va_recv hK (fw_one hP hrc) hc (q0 := 0) rfl, fun U hU hW => ⟨rfl, by rw [hU]; exact hP, va_K.moved hW.alike hK⟩⟩ rfl hn hsize rfl (lv_room hW) hdg hf) hS (fun q _ h => h) (fun q h => h) (fun r u t H1 locs1 ht hvm hp hB hz hk hS1 => kk r u H1 locs1 hp (by rw [← ht]; exact hB) hS1)
theorem fw_cSq {post : Option Nat → fw_W → Prop} (S : CallFix p m c cc nL s args Ts own) (hM : Met l y ws rm (va_Pc As (fw_Pre D cl tys z ad w)) (fw_Qq D cl z ad post) mc ms (fw_A z)) (cw : CallB R s args own index y bytes maxL ret ws rm mc ms n ∧ (Cond.static y).before args s = true) (hn : As.length = n) (hsize : ls.size = nL) (hW : (rest.map fun v => v.category).sum ≤ 8) (hdg : decode cc pc = .ok (.invokestatic index, 3)) (hf : cells + mc ≤ R.cells ∧ slots + ms ≤ R.slots) (hK : va_K D cl tys s) (hP : fw_P D cl z ad w H) (hS : va_S (fw_A z) H0 H locs) (hstk : stk = As.reverse ++ rest)
    (kk : ∀ (r : Option Nat) (w' : fw_W) (H1 : Heap) (locs1 : List Loc), post r w' → fw_P D cl z ad w' H1 → va_S (fw_A z) H0 H1 locs1 → W p l e R s m args below meth c H1 locs1 (cells + mc) (slots + ms) Q (F0 m (pc + 3) ls (va_rf r :: rest))) : W p l e R s m args below meth c H locs cells slots Q (F0 m pc ls stk) := by
  subst hstk
  exact va_callq (va_runS (As := As) (rest := rest) S hM cw ⟨fw_pre_blind, fun U hU hW => ⟨rfl, by rw [hU]; exact hP, va_K.moved hW.alike hK⟩⟩ rfl hn hsize rfl (lv_room hW) hdg hf) hS (fun q _ h => h) (fun q h => h) (fun r u t H1 locs1 ht hvm hp hB hz hk hS1 => kk r u H1 locs1 hp (by rw [← ht]; exact hB) hS1)
theorem fw_cVv {post : fw_W → Prop} (S : CallFix p m c cc nL s args Ts own) (hM : Met l y ws rm (va_Pc (.ref (ad b k) :: As) (fw_Pre D cl tys z ad w)) (fw_Qv D cl z ad post) mc ms (fw_A z)) (cw : CallW R s args own C index y bytes maxL ret ws rm mc ms n) (hrc : w b k = some (.inr (ci, fs))) (hc : cl[ci]? = some (C, T, N)) (hn : As.length = n) (hsize : ls.size = nL) (hW : (rest.map fun v => v.category).sum ≤ 8) (hdg : decode cc pc = .ok (.invokevirtual index, 3)) (hf : cells + mc ≤ R.cells ∧ slots + ms ≤ R.slots) (hK : va_K D cl tys s) (hP : fw_P D cl z ad w H) (hS : va_S (fw_A z) H0 H locs) (hstk : stk = As.reverse ++ .ref (ad b k) :: rest)
    (kk : ∀ (w' : fw_W) (H1 : Heap) (locs1 : List Loc), post w' → fw_P D cl z ad w' H1 → va_S (fw_A z) H0 H1 locs1 → W p l e R s m args below meth c H1 locs1 (cells + mc) (slots + ms) Q (F0 m (pc + 3) ls (rest))) : W p l e R s m args below meth c H locs cells slots Q (F0 m pc ls stk) := by
  subst hstk
  exact va_callv (va_runV (As := As) (rest := rest) S hM cw ⟨fw_pre_blind, va_recv hK (fw_one hP hrc) hc (q0 := 0) rfl, fun U hU hW => ⟨rfl, by rw [hU]; exact hP, va_K.moved hW.alike hK⟩⟩ rfl hn hsize rfl (lv_room hW) hdg hf) hS (fun q _ h => h) (fun q h => h) (fun u t H1 locs1 ht hvm hp hB hz hk hS1 => kk u H1 locs1 hp (by rw [← ht]; exact hB) hS1)
theorem fw_cSv {post : fw_W → Prop} (S : CallFix p m c cc nL s args Ts own) (hM : Met l y ws rm (va_Pc As (fw_Pre D cl tys z ad w)) (fw_Qv D cl z ad post) mc ms (fw_A z)) (cw : CallB R s args own index y bytes maxL ret ws rm mc ms n ∧ (Cond.static y).before args s = true) (hn : As.length = n) (hsize : ls.size = nL) (hW : (rest.map fun v => v.category).sum ≤ 8) (hdg : decode cc pc = .ok (.invokestatic index, 3)) (hf : cells + mc ≤ R.cells ∧ slots + ms ≤ R.slots) (hK : va_K D cl tys s) (hP : fw_P D cl z ad w H) (hS : va_S (fw_A z) H0 H locs) (hstk : stk = As.reverse ++ rest)
    (kk : ∀ (w' : fw_W) (H1 : Heap) (locs1 : List Loc), post w' → fw_P D cl z ad w' H1 → va_S (fw_A z) H0 H1 locs1 → W p l e R s m args below meth c H1 locs1 (cells + mc) (slots + ms) Q (F0 m (pc + 3) ls (rest))) : W p l e R s m args below meth c H locs cells slots Q (F0 m pc ls stk) := by
  subst hstk
  exact va_callv (va_runS (As := As) (rest := rest) S hM cw ⟨fw_pre_blind, fun U hU hW => ⟨rfl, by rw [hU]; exact hP, va_K.moved hW.alike hK⟩⟩ rfl hn hsize rfl (lv_room hW) hdg hf) hS (fun q _ h => h) (fun q h => h) (fun u t H1 locs1 ht hvm hp hB hz hk hS1 => kk u H1 locs1 hp (by rw [← ht]; exact hB) hS1)
theorem fw_cIv {post : fw_W → Prop} (S : CallFix p m c cc nL s args Ts own) {a : Nat} (hM : Met l y ws rm (va_Pc (.ref a :: As) (fw_Pre D cl tys z ad w)) (fw_Qv D cl z ad post) mc ms (fw_A z)) (cw : CallB R s args own index y bytes maxL none ws rm mc ms n ∧ y.name = "<init>" ∧ (Cond.instanceMethod y).before args s = true) (hn : As.length = n) (hsize : ls.size = nL) (hW : (rest.map fun v => v.category).sum ≤ 8) (hdg : decode cc pc = .ok (.invokespecial index, 3)) (hf : cells + mc ≤ R.cells ∧ slots + ms ≤ R.slots) (hK : va_K D cl tys s) (hP : fw_P D cl z ad w H) (hS : va_S (fw_A z) H0 H locs) (hstk : stk = As.reverse ++ .ref a :: rest)
    (kk : ∀ (w' : fw_W) (H1 : Heap) (locs1 : List Loc), post w' → fw_P D cl z ad w' H1 → va_S (fw_A z) H0 H1 locs1 → W p l e R s m args below meth c H1 locs1 (cells + mc) (slots + ms) Q (F0 m (pc + 3) ls (rest))) : W p l e R s m args below meth c H locs cells slots Q (F0 m pc ls stk) := by
  subst hstk
  exact va_callv (va_runI (As := As) (rest := rest) S hM cw ⟨fw_pre_blind, fun U hU hW => ⟨rfl, by rw [hU]; exact hP, va_K.moved hW.alike hK⟩⟩ rfl hn hsize rfl (lv_room hW) hdg hf) hS (fun q _ h => h) (fun q h => h) (fun u t H1 locs1 ht hvm hp hB hz hk hS1 => kk u H1 locs1 hp (by rw [← ht]; exact hB) hS1)
theorem fw_iret {post : Int32 → fw_W → Prop} {v : Int32} (hexec : p.tables.exec = Jvm.exec) (hb : c.code = cc) (hr : meth.sig.returnType = some .int) (hlocks : meth.locks = false) (hdg : decode cc pc = .ok (.ireturn, 1)) (hP : fw_P D cl z ad w H) (hS : va_S (fw_A z) s.heap H locs) (hp : post v w) : W p l e R s m args below meth c H locs cells slots (MQ below (fw_Qi D cl z ad post) args s cells slots (fw_A z)) (F0 m pc ls [.int v]) :=
  W.iret (v := v) hexec hb hr (fun t ht hW => ⟨⟨v, w, rfl, hp, by show fw_P D cl z ad w t.heap; rw [ht]; exact hP⟩, hS.F ht⟩) hS.2.2 hdg hlocks
theorem fw_zret {post : Int32 → fw_W → Prop} {v : Int32} (hexec : p.tables.exec = Jvm.exec) (hb : c.code = cc) (hr : meth.sig.returnType = some .boolean) (hlocks : meth.locks = false) (hdg : decode cc pc = .ok (.ireturn, 1)) (hP : fw_P D cl z ad w H) (hS : va_S (fw_A z) s.heap H locs) (hn : narrow .boolean (.int v) = .int v) (hp : post v w) : W p l e R s m args below meth c H locs cells slots (MQ below (fw_Qi D cl z ad post) args s cells slots (fw_A z)) (F0 m pc ls [.int v]) :=
  W.zret (v := v) hexec hb hr hn (fun t ht hW => ⟨⟨v, w, rfl, hp, by show fw_P D cl z ad w t.heap; rw [ht]; exact hP⟩, hS.F ht⟩) hS.2.2 hdg hlocks
theorem fw_rret {post : Option Nat → fw_W → Prop} {a : Nat} {rt : FieldType} (hexec : p.tables.exec = Jvm.exec) (hb : c.code = cc) (hr : meth.sig.returnType = some rt) (hrt : (∃ n, rt = .object n) ∨ ∃ t, rt = .array t) (hlocks : meth.locks = false) (hdg : decode cc pc = .ok (.areturn, 1)) (hP : fw_P D cl z ad w H) (hS : va_S (fw_A z) s.heap H locs) (hp : post (some a) w) : W p l e R s m args below meth c H locs cells slots (MQ below (fw_Qq D cl z ad post) args s cells slots (fw_A z)) (F0 m pc ls [.ref a]) :=
  W.aret (v := .ref a) hexec hb hr hrt (Or.inr ⟨a, rfl⟩) (fun t ht hW => ⟨⟨some a, w, rfl, hp, by show fw_P D cl z ad w t.heap; rw [ht]; exact hP⟩, hS.F ht⟩) hS.2.2 hdg hlocks
theorem fw_nret {post : Option Nat → fw_W → Prop} {rt : FieldType} (hexec : p.tables.exec = Jvm.exec) (hb : c.code = cc) (hr : meth.sig.returnType = some rt) (hrt : (∃ n, rt = .object n) ∨ ∃ t, rt = .array t) (hlocks : meth.locks = false) (hdg : decode cc pc = .ok (.areturn, 1)) (hP : fw_P D cl z ad w H) (hS : va_S (fw_A z) s.heap H locs) (hp : post none w) : W p l e R s m args below meth c H locs cells slots (MQ below (fw_Qq D cl z ad post) args s cells slots (fw_A z)) (F0 m pc ls [.null]) :=
  W.aret (v := .null) hexec hb hr hrt (Or.inl rfl) (fun t ht hW => ⟨⟨none, w, rfl, hp, by show fw_P D cl z ad w t.heap; rw [ht]; exact hP⟩, hS.F ht⟩) hS.2.2 hdg hlocks
theorem fw_lret {post : Int64 → fw_W → Prop} {v : Int64} (hexec : p.tables.exec = Jvm.exec) (hb : c.code = cc) (hr : meth.sig.returnType = some .long) (hlocks : meth.locks = false) (hdg : decode cc pc = .ok (.lreturn, 1)) (hP : fw_P D cl z ad w H) (hS : va_S (fw_A z) s.heap H locs) (hp : post v w) : W p l e R s m args below meth c H locs cells slots (MQ below (fw_Ql D cl z ad post) args s cells slots (fw_A z)) (F0 m pc ls [.long v]) :=
  W.lret (v := v) hexec hb hr (fun t ht hW => ⟨⟨v, w, rfl, hp, by show fw_P D cl z ad w t.heap; rw [ht]; exact hP⟩, hS.F ht⟩) hS.2.2 hdg hlocks
theorem fw_dret {post : UInt64 → fw_W → Prop} {v : UInt64} (hexec : p.tables.exec = Jvm.exec) (hb : c.code = cc) (hr : meth.sig.returnType = some .double) (hlocks : meth.locks = false) (hdg : decode cc pc = .ok (.dreturn, 1)) (hP : fw_P D cl z ad w H) (hS : va_S (fw_A z) s.heap H locs) (hp : post v w) : W p l e R s m args below meth c H locs cells slots (MQ below (fw_Qd D cl z ad post) args s cells slots (fw_A z)) (F0 m pc ls [.double v]) :=
  W.dret (v := v) hexec hb hr (fun t ht hW => ⟨⟨v, w, rfl, hp, by show fw_P D cl z ad w t.heap; rw [ht]; exact hP⟩, hS.F ht⟩) hS.2.2 hdg hlocks
theorem fw_vret {post : fw_W → Prop} (hexec : p.tables.exec = Jvm.exec) (hb : c.code = cc) (hr : meth.sig.returnType = none) (hlocks : meth.locks = false) (hdg : decode cc pc = .ok (.return_, 1)) (hP : fw_P D cl z ad w H) (hS : va_S (fw_A z) s.heap H locs) (hp : post w) : W p l e R s m args below meth c H locs cells slots (MQ below (fw_Qv D cl z ad post) args s cells slots (fw_A z)) (F0 m pc ls []) :=
  W.vret hexec hb hr (fun t ht hW => ⟨⟨w, rfl, hp, by show fw_P D cl z ad w t.heap; rw [ht]; exact hP⟩, hS.F ht⟩) hS.2.2 hdg hlocks
end FWC
end
section
/-! ===== ints as images of whole numbers ===== -/
def iI (a : Int) : Int32 := Int32.ofInt a
def bI (b : Bool) : Int := if b = true then 1 else 0
theorem bI_t : bI true = 1 := rfl
theorem bI_f : bI false = 0 := rfl
theorem iI_toInt {a : Int} (h1 : -2147483648 ≤ a) (h2 : a ≤ 2147483647) : (iI a).toInt = a := Int32.toInt_ofInt_of_le (by omega) (by omega)
theorem iI_of (x : Int32) : x = iI x.toInt := (Int32.ofInt_toInt x).symm
theorem iI_ex (x : Int32) : ∃ a : Int, x = iI a ∧ -2147483648 ≤ a ∧ a ≤ 2147483647 := ⟨x.toInt, iI_of x, by have := Int32.le_toInt x; omega, by have := Int32.toInt_lt x; omega⟩
theorem iI_add (a b : Int) : iI a + iI b = iI (a + b) := by
  refine Int32.toInt_inj.mp ?_
  rw [Int32.toInt_add]; simp only [iI, Int32.toInt_ofInt, Int32.size]
  exact Int.add_bmod .. |>.symm
theorem iI_sub (a b : Int) : iI a - iI b = iI (a - b) := by
  refine Int32.toInt_inj.mp ?_
  rw [Int32.toInt_sub]; simp only [iI, Int32.toInt_ofInt, Int32.size]
  exact Int.sub_bmod .. |>.symm
theorem iI_mul (a b : Int) : iI a * iI b = iI (a * b) := by
  refine Int32.toInt_inj.mp ?_
  rw [Int32.toInt_mul]; simp only [iI, Int32.toInt_ofInt, Int32.size]
  exact Int.mul_bmod .. |>.symm
theorem iI_inc (a n : Int) : iI a + Int32.ofInt n = iI (a + n) := iI_add a n
theorem iI_le {a b : Int} (ha : -2147483648 ≤ a ∧ a ≤ 2147483647) (hb : -2147483648 ≤ b ∧ b ≤ 2147483647) : iI a ≤ iI b ↔ a ≤ b := by
  rw [Int32.le_iff_toInt_le, iI_toInt ha.1 ha.2, iI_toInt hb.1 hb.2]
theorem iI_lt {a b : Int} (ha : -2147483648 ≤ a ∧ a ≤ 2147483647) (hb : -2147483648 ≤ b ∧ b ≤ 2147483647) : iI a < iI b ↔ a < b := by
  rw [Int32.lt_iff_toInt_lt, iI_toInt ha.1 ha.2, iI_toInt hb.1 hb.2]
theorem iI_eq {a b : Int} (ha : -2147483648 ≤ a ∧ a ≤ 2147483647) (hb : -2147483648 ≤ b ∧ b ≤ 2147483647) : iI a = iI b ↔ a = b := by
  rw [← Int32.toInt_inj, iI_toInt ha.1 ha.2, iI_toInt hb.1 hb.2]
theorem iI_zero : (0 : Int32) = iI 0 := rfl
theorem iI_idx {k : Nat} (h : k < 2147483648) : (iI (k : Int)).toNatClampNeg = k := by
  have : (iI (k : Int)).toInt = k := iI_toInt (by omega) (by omega)
  show (iI (k : Int)).toInt.toNat = k
  rw [this]; rfl
theorem iI_in {k n : Nat} (h : k < n) (hn : n < 2147483648) : vp_in (iI (k : Int)) n := by
  intro q
  rw [iI_idx (by omega), iI_zero, iI_lt ⟨by omega, by omega⟩ ⟨by omega, by omega⟩] at q
  omega
theorem iI_nI (k : Nat) : iI (k : Int) = nI k := Int32.ofInt_eq_ofNat
theorem iI_div {a b : Nat} (ha : a ≤ 2147483647) (hb : b ≤ 2147483647) : iI (a : Int) / iI (b : Int) = iI ((a / b : Nat) : Int) := by
  rw [iI_nI, iI_nI, iI_nI]
  exact (Int32.ofNat_div (by omega) (by omega)).symm
theorem iI_rem {a b : Nat} (ha : a ≤ 2147483647) (hb : b ≤ 2147483647) : iI (a : Int) - iI (a : Int) / iI (b : Int) * iI (b : Int) = iI ((a % b : Nat) : Int) := by
  rw [iI_div ha hb, iI_mul, iI_sub]
  have h := Nat.div_add_mod a b
  have h2 : (a : Int) = b * (a / b : Nat) + (a % b : Nat) := by exact_mod_cast h.symm
  have h3 : (a : Int) - ((a / b : Nat) : Int) * b = ((a % b : Nat) : Int) := by
    rw [Int.mul_comm]; omega
  rw [h3]
theorem iI_bool (b : Bool) : iI (bI b) = if b = true then 1 else 0 := by cases b <;> rfl
theorem iI_narrow (b : Bool) : narrow .boolean (.int (iI (bI b))) = .int (iI (bI b)) := by cases b <;> rfl
theorem iI_fitsb (b : Bool) : Jvm.fits .boolean (.int (iI (bI b))) = true := by cases b <;> rfl
theorem iI_nar (b : Bool) : vp_nar .boolean (iI (bI b)) = iI (bI b) := by cases b <;> rfl
theorem bI_le (b : Bool) : 0 ≤ bI b ∧ bI b ≤ 1 := by cases b <;> decide
section FWI
variable {p : Program} {l : Launch} {e : Env} {R : Room} {s : State} {m : MethodId} {args : Array Value} {below : List Frame} {meth : Method} {c : Code} {H : Heap} {locs : List Loc} {cells slots : Nat} {Q : State → Prop}
variable {cc : ByteArray} {pc : Nat} {ls : Array Slot} {rest : List Value}
theorem lv_conv {nL : Nat} {l1 l2 : List (Nat × Value)} (h : lv_has ls nL l1) (e : l1 = l2) : lv_has ls nL l2 := e ▸ h
theorem fw_top {v v' : Value} (h : v = v') (k : W p l e R s m args below meth c H locs cells slots Q (F0 m pc ls (v' :: rest))) : W p l e R s m args below meth c H locs cells slots Q (F0 m pc ls (v :: rest)) := by rw [h]; exact k
theorem fw_topI {a b : Int} (h : a = b) (k : W p l e R s m args below meth c H locs cells slots Q (F0 m pc ls (.int (iI b) :: rest))) : W p l e R s m args below meth c H locs cells slots Q (F0 m pc ls (.int (iI a) :: rest)) := by rw [h]; exact k
theorem fw_topP {x : Int32} {b : Int} (h : x = iI b) (k : W p l e R s m args below meth c H locs cells slots Q (F0 m pc ls (.int (iI b) :: rest))) : W p l e R s m args below meth c H locs cells slots Q (F0 m pc ls (.int x :: rest)) := by rw [h]; exact k
theorem fw_iadd (hexec : p.tables.exec = Jvm.exec) (hb : c.code = cc) {a b : Int} (hdg : decode cc pc = .ok (.iadd, 1)) (k : W p l e R s m args below meth c H locs cells slots Q (F0 m (pc + 1) ls (.int (iI (a + b)) :: rest))) : W p l e R s m args below meth c H locs cells slots Q (F0 m pc ls (.int (iI b) :: .int (iI a) :: rest)) := lv_iadd hexec hb hdg (by rw [iI_add]; exact k)
theorem fw_isub (hexec : p.tables.exec = Jvm.exec) (hb : c.code = cc) {a b : Int} (hdg : decode cc pc = .ok (.isub, 1)) (k : W p l e R s m args below meth c H locs cells slots Q (F0 m (pc + 1) ls (.int (iI (a - b)) :: rest))) : W p l e R s m args below meth c H locs cells slots Q (F0 m pc ls (.int (iI b) :: .int (iI a) :: rest)) := lv_isub hexec hb hdg (by rw [iI_sub]; exact k)
theorem fw_imul (hexec : p.tables.exec = Jvm.exec) (hb : c.code = cc) {a b : Int} (hdg : decode cc pc = .ok (.imul, 1)) (k : W p l e R s m args below meth c H locs cells slots Q (F0 m (pc + 1) ls (.int (iI (a * b)) :: rest))) : W p l e R s m args below meth c H locs cells slots Q (F0 m pc ls (.int (iI b) :: .int (iI a) :: rest)) := lv_imul hexec hb hdg (by rw [iI_mul]; exact k)
theorem fw_iaddN (hexec : p.tables.exec = Jvm.exec) (hb : c.code = cc) {a b : Nat} (hdg : decode cc pc = .ok (.iadd, 1)) (k : W p l e R s m args below meth c H locs cells slots Q (F0 m (pc + 1) ls (.int (iI ((a + b : Nat) : Int)) :: rest))) : W p l e R s m args below meth c H locs cells slots Q (F0 m pc ls (.int (iI (b : Int)) :: .int (iI (a : Int)) :: rest)) := lv_iadd hexec hb hdg (by rw [iI_add, ← Int.natCast_add]; exact k)
theorem fw_imulN (hexec : p.tables.exec = Jvm.exec) (hb : c.code = cc) {a b : Nat} (hdg : decode cc pc = .ok (.imul, 1)) (k : W p l e R s m args below meth c H locs cells slots Q (F0 m (pc + 1) ls (.int (iI ((a * b : Nat) : Int)) :: rest))) : W p l e R s m args below meth c H locs cells slots Q (F0 m pc ls (.int (iI (b : Int)) :: .int (iI (a : Int)) :: rest)) := lv_imul hexec hb hdg (by rw [iI_mul, ← Int.natCast_mul]; exact k)
theorem fw_idivN (hexec : p.tables.exec = Jvm.exec) (hb : c.code = cc) {a b : Nat} (hdg : decode cc pc = .ok (.idiv, 1)) (ha : a ≤ 2147483647) (hb0 : 0 < b) (hb1 : b ≤ 2147483647) (k : W p l e R s m args below meth c H locs cells slots Q (F0 m (pc + 1) ls (.int (iI ((a / b : Nat) : Int)) :: rest))) : W p l e R s m args below meth c H locs cells slots Q (F0 m pc ls (.int (iI (b : Int)) :: .int (iI (a : Int)) :: rest)) := lv_idiv hexec hb hdg (by rw [iI_zero, iI_eq ⟨by omega, by omega⟩ ⟨by omega, by omega⟩]; omega) (by rw [iI_div ha hb1]; exact k)
theorem fw_iremN (hexec : p.tables.exec = Jvm.exec) (hb : c.code = cc) {a b : Nat} (hdg : decode cc pc = .ok (.irem, 1)) (ha : a ≤ 2147483647) (hb0 : 0 < b) (hb1 : b ≤ 2147483647) (k : W p l e R s m args below meth c H locs cells slots Q (F0 m (pc + 1) ls (.int (iI ((a % b : Nat) : Int)) :: rest))) : W p l e R s m args below meth c H locs cells slots Q (F0 m pc ls (.int (iI (b : Int)) :: .int (iI (a : Int)) :: rest)) := lv_irem hexec hb hdg (by rw [iI_zero, iI_eq ⟨by omega, by omega⟩ ⟨by omega, by omega⟩]; omega) (by rw [iI_rem ha hb1]; exact k)
theorem fw_ineg (hexec : p.tables.exec = Jvm.exec) (hb : c.code = cc) {a : Int} (hdg : decode cc pc = .ok (.ineg, 1)) (k : W p l e R s m args below meth c H locs cells slots Q (F0 m (pc + 1) ls (.int (iI (-a)) :: rest))) : W p l e R s m args below meth c H locs cells slots Q (F0 m pc ls (.int (iI a) :: rest)) := lv_ineg hexec hb hdg (by rw [show -(iI a) = iI (-a) from by rw [show (-a : Int) = 0 - a from by omega, ← iI_sub, ← iI_zero]; simp]; exact k)
theorem fw_icmp_lt (hexec : p.tables.exec = Jvm.exec) (hb : c.code = cc) {x y : Int} {off : Int} {tgt : Nat} (hdg : decode cc pc = .ok (.if_icmp .lt off, 3)) (ht : (pc : Int) + off = (tgt : Int)) (hx : -2147483648 ≤ x ∧ x ≤ 2147483647) (hy : -2147483648 ≤ y ∧ y ≤ 2147483647)
    (kt : x < y → W p l e R s m args below meth c H locs cells slots Q (F0 m tgt ls rest)) (kf : y ≤ x → W p l e R s m args below meth c H locs cells slots Q (F0 m (pc + 3) ls rest)) : W p l e R s m args below meth c H locs cells slots Q (F0 m pc ls (.int (iI y) :: .int (iI x) :: rest)) :=
  lv_icmp_lt hexec hb hdg ht (fun q => kt (by simp only [ge_iff_le, gt_iff_lt, iI_le hx hy, iI_le hy hx, iI_lt hx hy, iI_lt hy hx, iI_eq hx hy] at q; omega)) (fun q => kf (by simp only [ge_iff_le, gt_iff_lt, iI_le hx hy, iI_le hy hx, iI_lt hx hy, iI_lt hy hx, iI_eq hx hy] at q; omega))
theorem fw_if_lt (hexec : p.tables.exec = Jvm.exec) (hb : c.code = cc) {x : Int} {off : Int} {tgt : Nat} (hdg : decode cc pc = .ok (.ifCond .lt off, 3)) (ht : (pc : Int) + off = (tgt : Int)) (hx : -2147483648 ≤ x ∧ x ≤ 2147483647)
    (kt : x < 0 → W p l e R s m args below meth c H locs cells slots Q (F0 m tgt ls rest)) (kf : 0 ≤ x → W p l e R s m args below meth c H locs cells slots Q (F0 m (pc + 3) ls rest)) : W p l e R s m args below meth c H locs cells slots Q (F0 m pc ls (.int (iI x) :: rest)) := by
  have hy : -2147483648 ≤ (0 : Int) ∧ (0 : Int) ≤ 2147483647 := by omega
  exact lv_if_lt hexec hb hdg ht (fun q => kt (by simp only [iI_zero, ge_iff_le, gt_iff_lt, iI_le hx hy, iI_le hy hx, iI_lt hx hy, iI_lt hy hx, iI_eq hx hy] at q; omega)) (fun q => kf (by simp only [iI_zero, ge_iff_le, gt_iff_lt, iI_le hx hy, iI_le hy hx, iI_lt hx hy, iI_lt hy hx, iI_eq hx hy] at q; omega))
theorem fw_icmp_le (hexec : p.tables.exec = Jvm.exec) (hb : c.code = cc) {x y : Int} {off : Int} {tgt : Nat} (hdg : decode cc pc = .ok (.if_icmp .le off, 3)) (ht : (pc : Int) + off = (tgt : Int)) (hx : -2147483648 ≤ x ∧ x ≤ 2147483647) (hy : -2147483648 ≤ y ∧ y ≤ 2147483647)
    (kt : x ≤ y → W p l e R s m args below meth c H locs cells slots Q (F0 m tgt ls rest)) (kf : y < x → W p l e R s m args below meth c H locs cells slots Q (F0 m (pc + 3) ls rest)) : W p l e R s m args below meth c H locs cells slots Q (F0 m pc ls (.int (iI y) :: .int (iI x) :: rest)) :=
  lv_icmp_le hexec hb hdg ht (fun q => kt (by simp only [ge_iff_le, gt_iff_lt, iI_le hx hy, iI_le hy hx, iI_lt hx hy, iI_lt hy hx, iI_eq hx hy] at q; omega)) (fun q => kf (by simp only [ge_iff_le, gt_iff_lt, iI_le hx hy, iI_le hy hx, iI_lt hx hy, iI_lt hy hx, iI_eq hx hy] at q; omega))
theorem fw_if_le (hexec : p.tables.exec = Jvm.exec) (hb : c.code = cc) {x : Int} {off : Int} {tgt : Nat} (hdg : decode cc pc = .ok (.ifCond .le off, 3)) (ht : (pc : Int) + off = (tgt : Int)) (hx : -2147483648 ≤ x ∧ x ≤ 2147483647)
    (kt : x ≤ 0 → W p l e R s m args below meth c H locs cells slots Q (F0 m tgt ls rest)) (kf : 0 < x → W p l e R s m args below meth c H locs cells slots Q (F0 m (pc + 3) ls rest)) : W p l e R s m args below meth c H locs cells slots Q (F0 m pc ls (.int (iI x) :: rest)) := by
  have hy : -2147483648 ≤ (0 : Int) ∧ (0 : Int) ≤ 2147483647 := by omega
  exact lv_if_le hexec hb hdg ht (fun q => kt (by simp only [iI_zero, ge_iff_le, gt_iff_lt, iI_le hx hy, iI_le hy hx, iI_lt hx hy, iI_lt hy hx, iI_eq hx hy] at q; omega)) (fun q => kf (by simp only [iI_zero, ge_iff_le, gt_iff_lt, iI_le hx hy, iI_le hy hx, iI_lt hx hy, iI_lt hy hx, iI_eq hx hy] at q; omega))
theorem fw_icmp_gt (hexec : p.tables.exec = Jvm.exec) (hb : c.code = cc) {x y : Int} {off : Int} {tgt : Nat} (hdg : decode cc pc = .ok (.if_icmp .gt off, 3)) (ht : (pc : Int) + off = (tgt : Int)) (hx : -2147483648 ≤ x ∧ x ≤ 2147483647) (hy : -2147483648 ≤ y ∧ y ≤ 2147483647)
    (kt : y < x → W p l e R s m args below meth c H locs cells slots Q (F0 m tgt ls rest)) (kf : x ≤ y → W p l e R s m args below meth c H locs cells slots Q (F0 m (pc + 3) ls rest)) : W p l e R s m args below meth c H locs cells slots Q (F0 m pc ls (.int (iI y) :: .int (iI x) :: rest)) :=
  lv_icmp_gt hexec hb hdg ht (fun q => kt (by simp only [ge_iff_le, gt_iff_lt, iI_le hx hy, iI_le hy hx, iI_lt hx hy, iI_lt hy hx, iI_eq hx hy] at q; omega)) (fun q => kf (by simp only [ge_iff_le, gt_iff_lt, iI_le hx hy, iI_le hy hx, iI_lt hx hy, iI_lt hy hx, iI_eq hx hy] at q; omega))
theorem fw_if_gt (hexec : p.tables.exec = Jvm.exec) (hb : c.code = cc) {x : Int} {off : Int} {tgt : Nat} (hdg : decode cc pc = .ok (.ifCond .gt off, 3)) (ht : (pc : Int) + off = (tgt : Int)) (hx : -2147483648 ≤ x ∧ x ≤ 2147483647)
    (kt : 0 < x → W p l e R s m args below meth c H locs cells slots Q (F0 m tgt ls rest)) (kf : x ≤ 0 → W p l e R s m args below meth c H locs cells slots Q (F0 m (pc + 3) ls rest)) : W p l e R s m args below meth c H locs cells slots Q (F0 m pc ls (.int (iI x) :: rest)) := by
  have hy : -2147483648 ≤ (0 : Int) ∧ (0 : Int) ≤ 2147483647 := by omega
  exact lv_if_gt hexec hb hdg ht (fun q => kt (by simp only [iI_zero, ge_iff_le, gt_iff_lt, iI_le hx hy, iI_le hy hx, iI_lt hx hy, iI_lt hy hx, iI_eq hx hy] at q; omega)) (fun q => kf (by simp only [iI_zero, ge_iff_le, gt_iff_lt, iI_le hx hy, iI_le hy hx, iI_lt hx hy, iI_lt hy hx, iI_eq hx hy] at q; omega))
theorem fw_icmp_ge (hexec : p.tables.exec = Jvm.exec) (hb : c.code = cc) {x y : Int} {off : Int} {tgt : Nat} (hdg : decode cc pc = .ok (.if_icmp .ge off, 3)) (ht : (pc : Int) + off = (tgt : Int)) (hx : -2147483648 ≤ x ∧ x ≤ 2147483647) (hy : -2147483648 ≤ y ∧ y ≤ 2147483647)
    (kt : y ≤ x → W p l e R s m args below meth c H locs cells slots Q (F0 m tgt ls rest)) (kf : x < y → W p l e R s m args below meth c H locs cells slots Q (F0 m (pc + 3) ls rest)) : W p l e R s m args below meth c H locs cells slots Q (F0 m pc ls (.int (iI y) :: .int (iI x) :: rest)) :=
  lv_icmp_ge hexec hb hdg ht (fun q => kt (by simp only [ge_iff_le, gt_iff_lt, iI_le hx hy, iI_le hy hx, iI_lt hx hy, iI_lt hy hx, iI_eq hx hy] at q; omega)) (fun q => kf (by simp only [ge_iff_le, gt_iff_lt, iI_le hx hy, iI_le hy hx, iI_lt hx hy, iI_lt hy hx, iI_eq hx hy] at q; omega))
theorem fw_if_ge (hexec : p.tables.exec = Jvm.exec) (hb : c.code = cc) {x : Int} {off : Int} {tgt : Nat} (hdg : decode cc pc = .ok (.ifCond .ge off, 3)) (ht : (pc : Int) + off = (tgt : Int)) (hx : -2147483648 ≤ x ∧ x ≤ 2147483647)
    (kt : 0 ≤ x → W p l e R s m args below meth c H locs cells slots Q (F0 m tgt ls rest)) (kf : x < 0 → W p l e R s m args below meth c H locs cells slots Q (F0 m (pc + 3) ls rest)) : W p l e R s m args below meth c H locs cells slots Q (F0 m pc ls (.int (iI x) :: rest)) := by
  have hy : -2147483648 ≤ (0 : Int) ∧ (0 : Int) ≤ 2147483647 := by omega
  exact lv_if_ge hexec hb hdg ht (fun q => kt (by simp only [iI_zero, ge_iff_le, gt_iff_lt, iI_le hx hy, iI_le hy hx, iI_lt hx hy, iI_lt hy hx, iI_eq hx hy] at q; omega)) (fun q => kf (by simp only [iI_zero, ge_iff_le, gt_iff_lt, iI_le hx hy, iI_le hy hx, iI_lt hx hy, iI_lt hy hx, iI_eq hx hy] at q; omega))
theorem fw_icmp_eq (hexec : p.tables.exec = Jvm.exec) (hb : c.code = cc) {x y : Int} {off : Int} {tgt : Nat} (hdg : decode cc pc = .ok (.if_icmp .eq off, 3)) (ht : (pc : Int) + off = (tgt : Int)) (hx : -2147483648 ≤ x ∧ x ≤ 2147483647) (hy : -2147483648 ≤ y ∧ y ≤ 2147483647)
    (kt : x = y → W p l e R s m args below meth c H locs cells slots Q (F0 m tgt ls rest)) (kf : ¬ x = y → W p l e R s m args below meth c H locs cells slots Q (F0 m (pc + 3) ls rest)) : W p l e R s m args below meth c H locs cells slots Q (F0 m pc ls (.int (iI y) :: .int (iI x) :: rest)) :=
  lv_icmp_eq hexec hb hdg ht (fun q => kt (by simp only [ge_iff_le, gt_iff_lt, iI_le hx hy, iI_le hy hx, iI_lt hx hy, iI_lt hy hx, iI_eq hx hy] at q; omega)) (fun q => kf (by simp only [ge_iff_le, gt_iff_lt, iI_le hx hy, iI_le hy hx, iI_lt hx hy, iI_lt hy hx, iI_eq hx hy] at q; omega))
theorem fw_if_eq (hexec : p.tables.exec = Jvm.exec) (hb : c.code = cc) {x : Int} {off : Int} {tgt : Nat} (hdg : decode cc pc = .ok (.ifCond .eq off, 3)) (ht : (pc : Int) + off = (tgt : Int)) (hx : -2147483648 ≤ x ∧ x ≤ 2147483647)
    (kt : x = 0 → W p l e R s m args below meth c H locs cells slots Q (F0 m tgt ls rest)) (kf : ¬ x = 0 → W p l e R s m args below meth c H locs cells slots Q (F0 m (pc + 3) ls rest)) : W p l e R s m args below meth c H locs cells slots Q (F0 m pc ls (.int (iI x) :: rest)) := by
  have hy : -2147483648 ≤ (0 : Int) ∧ (0 : Int) ≤ 2147483647 := by omega
  exact lv_if_eq hexec hb hdg ht (fun q => kt (by simp only [iI_zero, ge_iff_le, gt_iff_lt, iI_le hx hy, iI_le hy hx, iI_lt hx hy, iI_lt hy hx, iI_eq hx hy] at q; omega)) (fun q => kf (by simp only [iI_zero, ge_iff_le, gt_iff_lt, iI_le hx hy, iI_le hy hx, iI_lt hx hy, iI_lt hy hx, iI_eq hx hy] at q; omega))
theorem fw_icmp_ne (hexec : p.tables.exec = Jvm.exec) (hb : c.code = cc) {x y : Int} {off : Int} {tgt : Nat} (hdg : decode cc pc = .ok (.if_icmp .ne off, 3)) (ht : (pc : Int) + off = (tgt : Int)) (hx : -2147483648 ≤ x ∧ x ≤ 2147483647) (hy : -2147483648 ≤ y ∧ y ≤ 2147483647)
    (kt : ¬ x = y → W p l e R s m args below meth c H locs cells slots Q (F0 m tgt ls rest)) (kf : x = y → W p l e R s m args below meth c H locs cells slots Q (F0 m (pc + 3) ls rest)) : W p l e R s m args below meth c H locs cells slots Q (F0 m pc ls (.int (iI y) :: .int (iI x) :: rest)) :=
  lv_icmp_ne hexec hb hdg ht (fun q => kt (by simp only [ge_iff_le, gt_iff_lt, iI_le hx hy, iI_le hy hx, iI_lt hx hy, iI_lt hy hx, iI_eq hx hy] at q; omega)) (fun q => kf (by simp only [ge_iff_le, gt_iff_lt, iI_le hx hy, iI_le hy hx, iI_lt hx hy, iI_lt hy hx, iI_eq hx hy] at q; omega))
theorem fw_if_ne (hexec : p.tables.exec = Jvm.exec) (hb : c.code = cc) {x : Int} {off : Int} {tgt : Nat} (hdg : decode cc pc = .ok (.ifCond .ne off, 3)) (ht : (pc : Int) + off = (tgt : Int)) (hx : -2147483648 ≤ x ∧ x ≤ 2147483647)
    (kt : ¬ x = 0 → W p l e R s m args below meth c H locs cells slots Q (F0 m tgt ls rest)) (kf : x = 0 → W p l e R s m args below meth c H locs cells slots Q (F0 m (pc + 3) ls rest)) : W p l e R s m args below meth c H locs cells slots Q (F0 m pc ls (.int (iI x) :: rest)) := by
  have hy : -2147483648 ≤ (0 : Int) ∧ (0 : Int) ≤ 2147483647 := by omega
  exact lv_if_ne hexec hb hdg ht (fun q => kt (by simp only [iI_zero, ge_iff_le, gt_iff_lt, iI_le hx hy, iI_le hy hx, iI_lt hx hy, iI_lt hy hx, iI_eq hx hy] at q; omega)) (fun q => kf (by simp only [iI_zero, ge_iff_le, gt_iff_lt, iI_le hx hy, iI_le hy hx, iI_lt hx hy, iI_lt hy hx, iI_eq hx hy] at q; omega))
theorem fw_if_eqB (hexec : p.tables.exec = Jvm.exec) (hb : c.code = cc) {x : Bool} {off : Int} {tgt : Nat} (hdg : decode cc pc = .ok (.ifCond .eq off, 3)) (ht : (pc : Int) + off = (tgt : Int))
    (kt : x = false → W p l e R s m args below meth c H locs cells slots Q (F0 m tgt ls rest)) (kf : x = true → W p l e R s m args below meth c H locs cells slots Q (F0 m (pc + 3) ls rest)) : W p l e R s m args below meth c H locs cells slots Q (F0 m pc ls (.int (iI (bI x)) :: rest)) :=
  fw_if_eq hexec hb hdg ht (by cases x <;> decide) (fun q => kt (by cases x <;> simp_all [bI])) (fun q => kf (by cases x <;> simp_all [bI]))
theorem fw_if_neB (hexec : p.tables.exec = Jvm.exec) (hb : c.code = cc) {x : Bool} {off : Int} {tgt : Nat} (hdg : decode cc pc = .ok (.ifCond .ne off, 3)) (ht : (pc : Int) + off = (tgt : Int))
    (kt : x = true → W p l e R s m args below meth c H locs cells slots Q (F0 m tgt ls rest)) (kf : x = false → W p l e R s m args below meth c H locs cells slots Q (F0 m (pc + 3) ls rest)) : W p l e R s m args below meth c H locs cells slots Q (F0 m pc ls (.int (iI (bI x)) :: rest)) :=
  fw_if_ne hexec hb hdg ht (by cases x <;> decide) (fun q => kt (by cases x <;> simp_all [bI])) (fun q => kf (by cases x <;> simp_all [bI]))
theorem fw_iinc (hexec : p.tables.exec = Jvm.exec) (hb : c.code = cc) {i nL k : Nat} {n x : Int} {lv lv' : List (Nat × Value)} (hdg : decode cc pc = .ok (.iinc i n, 3)) (h : lv_has ls nL lv) (hk : lv[k]? = some (i, .int (iI x))) (hn : i < nL) (hl : (i, Value.int (iI (x + n))) :: lv.filter (fun q => !(q.1 == i) && !(q.1 + 1 == i && q.2.category == 2)) = lv') (kk : ∀ ls' : Array Slot, lv_has ls' nL lv' → W p l e R s m args below meth c H locs cells slots Q (F0 m (pc + 3) ls' rest)) : W p l e R s m args below meth c H locs cells slots Q (F0 m pc ls rest) := lv_iinc hexec hb hdg h hk (iI_inc x n) hn hl kk
theorem fw_iincN (hexec : p.tables.exec = Jvm.exec) (hb : c.code = cc) {i nL k : Nat} {x : Nat} {lv lv' : List (Nat × Value)} (hdg : decode cc pc = .ok (.iinc i 1, 3)) (h : lv_has ls nL lv) (hk : lv[k]? = some (i, .int (iI (x : Int)))) (hn : i < nL) (hl : (i, Value.int (iI ((x + 1 : Nat) : Int))) :: lv.filter (fun q => !(q.1 == i) && !(q.1 + 1 == i && q.2.category == 2)) = lv') (kk : ∀ ls' : Array Slot, lv_has ls' nL lv' → W p l e R s m args below meth c H locs cells slots Q (F0 m (pc + 3) ls' rest)) : W p l e R s m args below meth c H locs cells slots Q (F0 m pc ls rest) := fw_iinc hexec hb hdg h hk hn hl kk
theorem fw_ialdN {D : va_G} {cl : List vw_C} {tys : List (ClassId × FieldType)} {z : Nat} {ad : fw_Ad} {w : fw_W} {a i : Nat} (hexec : p.tables.exec = Jvm.exec) (hb : c.code = cc) (hK : va_K D cl tys s) (hP : fw_P D cl z ad w H) {cA : ClassId} {n : Nat} {f : Nat → Int32} (he : w a i = some (.inl (cA, n, .inl f))) (t0 : Nat) (ht : tys[t0]? = some (cA, .int)) {j : Nat} (hj : j < n) (hn : n < 2147483648) (hdg : decode cc pc = .ok (.iaload, 1)) (kk : W p l e R s m args below meth c H locs cells slots Q (F0 m (pc + 1) ls (.int (f j) :: rest))) : W p l e R s m args below meth c H locs cells slots Q (F0 m pc ls (.int (iI (j : Int)) :: .ref (ad a i) :: rest)) :=
  fw_iald hexec hb hK hP he t0 ht (iI_in hj hn) hdg (by rw [iI_idx (by omega)]; exact kk)
theorem fw_zaldN {D : va_G} {cl : List vw_C} {tys : List (ClassId × FieldType)} {z : Nat} {ad : fw_Ad} {w : fw_W} {a i : Nat} (hexec : p.tables.exec = Jvm.exec) (hb : c.code = cc) (hK : va_K D cl tys s) (hP : fw_P D cl z ad w H) {cA : ClassId} {n : Nat} {f : Nat → Int32} (he : w a i = some (.inl (cA, n, .inl f))) (t0 : Nat) (ht : tys[t0]? = some (cA, .boolean)) {j : Nat} (hj : j < n) (hn : n < 2147483648) (hdg : decode cc pc = .ok (.baload, 1)) (kk : W p l e R s m args below meth c H locs cells slots Q (F0 m (pc + 1) ls (.int (f j) :: rest))) : W p l e R s m args below meth c H locs cells slots Q (F0 m pc ls (.int (iI (j : Int)) :: .ref (ad a i) :: rest)) :=
  fw_zald hexec hb hK hP he t0 ht (iI_in hj hn) hdg (by rw [iI_idx (by omega)]; exact kk)
theorem fw_aldN {D : va_G} {cl : List vw_C} {tys : List (ClassId × FieldType)} {z : Nat} {ad : fw_Ad} {w : fw_W} {a i : Nat} (hexec : p.tables.exec = Jvm.exec) (hb : c.code = cc) (hK : va_K D cl tys s) (hP : fw_P D cl z ad w H) {cA : ClassId} {C : String} {n : Nat} {f : Nat → Option Nat} (he : w a i = some (.inl (cA, n, .inr (.inr (.inr (.inr f)))))) (t0 : Nat) (ht : tys[t0]? = some (cA, .object C)) {j : Nat} (hj : j < n) (hn : n < 2147483648) (hdg : decode cc pc = .ok (.aaload, 1)) (kk : W p l e R s m args below meth c H locs cells slots Q (F0 m (pc + 1) ls (va_rf (f j) :: rest))) : W p l e R s m args below meth c H locs cells slots Q (F0 m pc ls (.int (iI (j : Int)) :: .ref (ad a i) :: rest)) :=
  fw_aldq hexec hb hK hP he t0 ht (iI_in hj hn) hdg (by rw [iI_idx (by omega)]; exact kk)
theorem fw_iastN {D : va_G} {cl : List vw_C} {tys : List (ClassId × FieldType)} {H0 : Heap} {z : Nat} {ad : fw_Ad} {w : fw_W} {a i : Nat} (hexec : p.tables.exec = Jvm.exec) (hb : c.code = cc) (hK : va_K D cl tys s) (hP : fw_P D cl z ad w H) (hS : va_S (fw_A z) H0 H locs) {cA : ClassId} {n : Nat} {f : Nat → Int32} (he : w a i = some (.inl (cA, n, .inl f))) (t0 : Nat) (ht : tys[t0]? = some (cA, .int)) {j : Nat} {x : Int32} (hj : j < n) (hn : n < 2147483648) (hdg : decode cc pc = .ok (.iastore, 1))
    (kk : ∀ (H1 : Heap) (locs1 : List Loc), fw_P D cl z ad (fw_up w a i (.inl (cA, n, .inl (upd f j x)))) H1 → va_S (fw_A z) H0 H1 locs1 → W p l e R s m args below meth c H1 locs1 cells slots Q (F0 m (pc + 1) ls rest)) : W p l e R s m args below meth c H locs cells slots Q (F0 m pc ls (.int x :: .int (iI (j : Int)) :: .ref (ad a i) :: rest)) :=
  fw_iast hexec hb hK hP hS he t0 ht (iI_in hj hn) hdg (by rw [iI_idx (by omega)]; exact kk)
theorem fw_zastN {D : va_G} {cl : List vw_C} {tys : List (ClassId × FieldType)} {H0 : Heap} {z : Nat} {ad : fw_Ad} {w : fw_W} {a i : Nat} (hexec : p.tables.exec = Jvm.exec) (hb : c.code = cc) (hK : va_K D cl tys s) (hP : fw_P D cl z ad w H) (hS : va_S (fw_A z) H0 H locs) {cA : ClassId} {n : Nat} {f : Nat → Int32} (he : w a i = some (.inl (cA, n, .inl f))) (t0 : Nat) (ht : tys[t0]? = some (cA, .boolean)) {j : Nat} {x : Int32} (hx : vp_nar .boolean x = x) (hj : j < n) (hn : n < 2147483648) (hdg : decode cc pc = .ok (.bastore, 1))
    (kk : ∀ (H1 : Heap) (locs1 : List Loc), fw_P D cl z ad (fw_up w a i (.inl (cA, n, .inl (upd f j x)))) H1 → va_S (fw_A z) H0 H1 locs1 → W p l e R s m args below meth c H1 locs1 cells slots Q (F0 m (pc + 1) ls rest)) : W p l e R s m args below meth c H locs cells slots Q (F0 m pc ls (.int x :: .int (iI (j : Int)) :: .ref (ad a i) :: rest)) :=
  fw_zast hexec hb hK hP hS he t0 ht (iI_in hj hn) hdg (by rw [iI_idx (by omega), hx]; exact kk)
theorem fw_astN {D : va_G} {cl : List vw_C} {tys : List (ClassId × FieldType)} {H0 : Heap} {z : Nat} {ad : fw_Ad} {w : fw_W} {a i : Nat} (hexec : p.tables.exec = Jvm.exec) (hb : c.code = cc) (hK : va_K D cl tys s) (hP : fw_P D cl z ad w H) (hS : va_S (fw_A z) H0 H locs) {ci : Nat} {cA : ClassId} {r : vw_C} {n b k : Nat} {vs : List Value} {f : Nat → Option Nat} (he : w a i = some (.inl (cA, n, .inr (.inr (.inr (.inr f)))))) (t0 : Nat) (ht : tys[t0]? = some (cA, .object r.1)) (hv : w b k = some (.inr (ci, vs))) (hc : cl[ci]? = some r) {j : Nat} (hj : j < n) (hn : n < 2147483648) (hdg : decode cc pc = .ok (.aastore, 1))
    (kk : ∀ (H1 : Heap) (locs1 : List Loc), fw_P D cl z ad (fw_up w a i (.inl (cA, n, .inr (.inr (.inr (.inr (va_up f j (some (ad b k))))))))) H1 → va_S (fw_A z) H0 H1 locs1 → W p l e R s m args below meth c H1 locs1 cells slots Q (F0 m (pc + 1) ls rest)) : W p l e R s m args below meth c H locs cells slots Q (F0 m pc ls (.ref (ad b k) :: .int (iI (j : Int)) :: .ref (ad a i) :: rest)) :=
  fw_astq hexec hb hK hP hS he t0 ht hv hc (iI_in hj hn) hdg (by rw [iI_idx (by omega)]; exact kk)
theorem fw_astNN {D : va_G} {cl : List vw_C} {tys : List (ClassId × FieldType)} {H0 : Heap} {z : Nat} {ad : fw_Ad} {w : fw_W} {a i : Nat} (hexec : p.tables.exec = Jvm.exec) (hb : c.code = cc) (hK : va_K D cl tys s) (hP : fw_P D cl z ad w H) (hS : va_S (fw_A z) H0 H locs) {cA : ClassId} {C : String} {n : Nat} {f : Nat → Option Nat} (he : w a i = some (.inl (cA, n, .inr (.inr (.inr (.inr f)))))) (t0 : Nat) (ht : tys[t0]? = some (cA, .object C)) {j : Nat} (hj : j < n) (hn : n < 2147483648) (hdg : decode cc pc = .ok (.aastore, 1))
    (kk : ∀ (H1 : Heap) (locs1 : List Loc), fw_P D cl z ad (fw_up w a i (.inl (cA, n, .inr (.inr (.inr (.inr (va_up f j none))))))) H1 → va_S (fw_A z) H0 H1 locs1 → W p l e R s m args below meth c H1 locs1 cells slots Q (F0 m (pc + 1) ls rest)) : W p l e R s m args below meth c H locs cells slots Q (F0 m pc ls (.null :: .int (iI (j : Int)) :: .ref (ad a i) :: rest)) :=
  fw_astqN hexec hb hK hP hS he t0 ht (iI_in hj hn) hdg (by rw [iI_idx (by omega)]; exact kk)
end FWI
theorem bI_b (b : Bool) : -2147483648 ≤ bI b ∧ bI b ≤ 2147483647 := by cases b <;> decide
theorem iI_abs {a : Int} (h : -2147483648 < a ∧ a ≤ 2147483647) : (if (0 : Int32) ≤ iI a then iI a else 0 - iI a) = iI ((Int.natAbs a : Nat) : Int) := by
  rw [iI_zero]
  by_cases h0 : 0 ≤ a
  · rw [if_pos ((iI_le ⟨by omega, by omega⟩ ⟨by omega, by omega⟩).mpr h0), show ((Int.natAbs a : Nat) : Int) = a from by omega]
  · rw [if_neg (fun q => h0 ((iI_le ⟨by omega, by omega⟩ ⟨by omega, by omega⟩).mp q)), iI_sub, show ((Int.natAbs a : Nat) : Int) = 0 - a from by omega]
theorem fw_abs {p : Program} {l : Launch} {e : Env} {R : Room} {s : State} {m : MethodId} {args : Array Value} {below : List Frame} {meth : Method} {c : Code} {H : Heap} {locs : List Loc} {cells slots : Nat} {Q : State → Prop} {cc : ByteArray} {pc : Nat} {ls : Array Slot} {rest : List Value} (hexec : p.tables.exec = Jvm.exec) (hb : c.code = cc) (hml : c.maxLocals = ls.size) {own : String} {index : Nat} (hown : s.vm.findClass own = some m.cls) (hlink : (Cond.methodLink own index Lib.Math.abs.name).before args s = true) (hstat : (Cond.static Lib.Math.abs.name).before args s = true) (hini : (Cond.initialized "java/lang/Math").before args s = true) (hcode : (Cond.code Lib.Math.abs.name Lib.Math.abs.code 1 (some .int)).before args s = true)
    (hframes : 1 ≤ R.frames) (hlocals : (rest.map fun v => v.category).sum + 13 ≤ R.locals) (hc : cells ≤ R.cells) (hs : slots ≤ R.slots) {x : Int} (hx : -2147483648 < x ∧ x ≤ 2147483647) (hdg : decode cc pc = .ok (.invokestatic index, 3))
    (kk : W p l e R s m args below meth c H locs cells slots Q (F0 m (pc + 3) ls (.int (iI ((Int.natAbs x : Nat) : Int)) :: rest))) : W p l e R s m args below meth c H locs cells slots Q (F0 m pc ls (.int (iI x) :: rest)) :=
  va_mabs hexec hb hml hown hlink hstat hini hcode hframes hlocals hc hs hdg (by rw [iI_abs hx]; exact kk)
noncomputable def cB (P : Prop) : Bool := @decide P (Classical.propDecidable P)
theorem cB_t {P : Prop} : cB P = true ↔ P := @decide_eq_true_iff P (Classical.propDecidable P)
theorem cB_f {P : Prop} : cB P = false ↔ ¬ P := @decide_eq_false_iff_not P (Classical.propDecidable P)
theorem bI_ct {P : Prop} (h : P) : ((1 : Nat) : Int) = bI (cB P) := by rw [cB_t.mpr h]; rfl
theorem bI_cf {P : Prop} (h : ¬ P) : ((0 : Nat) : Int) = bI (cB P) := by rw [cB_f.mpr h]; rfl
theorem cB_congr {P P' : Prop} (h : P ↔ P') : cB P = cB P' := by
  rw [show P = P' from propext h]
theorem bI_dt {P : Prop} [Decidable P] (h : P) : ((1 : Nat) : Int) = bI (decide P) := by rw [decide_eq_true h]; rfl
theorem bI_df {P : Prop} [Decidable P] (h : ¬ P) : ((0 : Nat) : Int) = bI (decide P) := by rw [decide_eq_false h]; rfl
end
section
/-! ===== the state of a plan, in numbers: sigma 0..4 weight, from, to, kind, state of a container; 5 its stack, 6 its tier; 7 a stack's plug; 8: 0 how many, 1 2 3 the limits, 4 the port, 5 lifted ===== -/
abbrev St : Type := Nat → Nat → Nat
def up (σ : St) (a i v : Nat) : St := fun b j => if b = a ∧ j = i then v else σ b j
theorem up_same (σ : St) (a i v : Nat) : up σ a i v a i = v := by simp [up]
theorem up_ne {σ : St} {a i v b j : Nat} (h : ¬ (b = a ∧ j = i)) : up σ a i v b j = σ b j := by simp only [up, if_neg h]
def sumN (f : Nat → Nat) : Nat → Nat
  | 0 => 0
  | n + 1 => sumN f n + f n
def sumI (f : Nat → Int) : Nat → Int
  | 0 => 0
  | n + 1 => sumI f n + f n
theorem sumN_le {f : Nat → Nat} {b : Nat} (h : ∀ i, f i ≤ b) : ∀ n, sumN f n ≤ n * b
  | 0 => by simp [sumN]
  | n + 1 => by
    have := sumN_le h n
    have := h n
    rw [sumN, Nat.succ_mul]
    omega
def isOn (σ : St) (c k : Nat) : Bool := decide (σ 4 c = 1 ∧ σ 5 c = k)
def high (σ : St) (k : Nat) : Nat := sumN (fun c => if isOn σ c k = true then 1 else 0) (σ 8 0)
def wOf (σ : St) (k : Nat) : Nat := sumN (fun c => if isOn σ c k = true then σ 0 c else 0) (σ 8 0)
def isAt (σ : St) (k j c : Nat) : Bool := decide (isOn σ c k = true ∧ σ 6 c = j)
def occ (σ : St) (k j : Nat) : Option Nat := (List.range (σ 8 0)).find? (isAt σ k j)
def Inv (σ : St) : Prop :=
  (σ 8 0 ≤ 40 ∧ (1 ≤ σ 8 1 ∧ σ 8 1 ≤ 120) ∧ σ 8 2 ≤ 1000 ∧ σ 8 3 ≤ 1000 ∧ σ 8 4 ≤ 5 ∧ σ 8 5 ≤ 40 * σ 8 4) ∧
  (∀ c, σ 0 c ≤ 30 ∧ σ 1 c ≤ 4 ∧ σ 2 c ≤ 5 ∧ σ 3 c ≤ 4 ∧ σ 4 c ≤ 2 ∧ σ 5 c < 30 ∧ σ 6 c < 4) ∧
  (∀ c, c < σ 8 0 → 1 ≤ σ 0 c ∧ σ 1 c < σ 2 c) ∧ (∀ k, σ 7 k ≤ 1) ∧
  (∀ c d, c < σ 8 0 → d < σ 8 0 → σ 4 c = 1 → σ 4 d = 1 → σ 5 c = σ 5 d → σ 6 c = σ 6 d → c = d) ∧
  (∀ c j, c < σ 8 0 → σ 4 c = 1 → j < σ 6 c → ∃ d, d < σ 8 0 ∧ σ 4 d = 1 ∧ σ 5 d = σ 5 c ∧ σ 6 d = j)
theorem Inv.n {σ : St} (h : Inv σ) : σ 8 0 ≤ 40 := h.1.1
theorem Inv.lim {σ : St} (h : Inv σ) : (1 ≤ σ 8 1 ∧ σ 8 1 ≤ 120) ∧ σ 8 2 ≤ 1000 ∧ σ 8 3 ≤ 1000 ∧ σ 8 4 ≤ 5 ∧ σ 8 5 ≤ 200 := ⟨h.1.2.1, h.1.2.2.1, h.1.2.2.2.1, h.1.2.2.2.2.1, by have := h.1.2.2.2.2; omega⟩
theorem Inv.c {σ : St} (h : Inv σ) (c : Nat) : σ 0 c ≤ 30 ∧ σ 1 c ≤ 4 ∧ σ 2 c ≤ 5 ∧ σ 3 c ≤ 4 ∧ σ 4 c ≤ 2 ∧ σ 5 c < 30 ∧ σ 6 c < 4 := h.2.1 c
theorem Inv.pos {σ : St} (h : Inv σ) {c : Nat} (hc : c < σ 8 0) : 1 ≤ σ 0 c ∧ σ 1 c < σ 2 c := h.2.2.1 c hc
theorem Inv.pl {σ : St} (h : Inv σ) (k : Nat) : σ 7 k ≤ 1 := h.2.2.2.1 k
theorem isOn_t {σ : St} {c k : Nat} : isOn σ c k = true ↔ σ 4 c = 1 ∧ σ 5 c = k := by simp [isOn]
theorem isOn_f {σ : St} {c k : Nat} : isOn σ c k = false ↔ ¬ (σ 4 c = 1 ∧ σ 5 c = k) := by simp [isOn]
theorem isAt_t {σ : St} {k j c : Nat} : isAt σ k j c = true ↔ σ 4 c = 1 ∧ σ 5 c = k ∧ σ 6 c = j := by simp [isAt, isOn, and_assoc]
theorem occ_some {σ : St} {k j c : Nat} (h : occ σ k j = some c) : c < σ 8 0 ∧ σ 4 c = 1 ∧ σ 5 c = k ∧ σ 6 c = j := by
  have h1 := List.find?_some h
  have h2 := List.mem_of_find?_eq_some h
  exact ⟨List.mem_range.mp h2, isAt_t.mp h1⟩
theorem occ_none {σ : St} {k j : Nat} (h : occ σ k j = none) {c : Nat} (hc : c < σ 8 0) (h1 : σ 4 c = 1) (h2 : σ 5 c = k) : ¬ σ 6 c = j := by
  intro h3
  have := List.find?_eq_none.mp h c (List.mem_range.mpr hc)
  exact this (isAt_t.mpr ⟨h1, h2, h3⟩)
theorem occ_of {σ : St} (hI : Inv σ) {c : Nat} (hc : c < σ 8 0) (h1 : σ 4 c = 1) : occ σ (σ 5 c) (σ 6 c) = some c := by
  cases h : occ σ (σ 5 c) (σ 6 c) with
  | none => exact absurd rfl (occ_none h hc h1 rfl)
  | some d =>
    obtain ⟨a1, a2, a3, a4⟩ := occ_some h
    rw [hI.2.2.2.2.1 d c a1 hc a2 h1 a3 a4]
/-! ===== the cells ===== -/
abbrev fw_T (cA : Nat → ClassId) : List (ClassId × FieldType) := [(cA 0, .int), (cA 1, .boolean), (cA 2, .object RX0), (cA 3, .object RX1), (cA 4, .long)]
def cPlan (ad : fw_Ad) (σ : St) : va_E := .inr (2, [.ref (ad 1 0), .ref (ad 2 0), .int (iI (σ 8 0 : Nat)), .int (iI (σ 8 4 : Nat)), .int (iI (σ 8 1 : Nat)), .int (iI (σ 8 2 : Nat)), .int (iI (σ 8 3 : Nat)), .int (iI (σ 8 5 : Nat))])
def cBoxes (cA : Nat → ClassId) (ad : fw_Ad) (σ : St) : va_E := .inl (cA 2, 40, .inr (.inr (.inr (.inr (fun j => if j < σ 8 0 then some (ad 5 j) else none)))))
def cStacks (cA : Nat → ClassId) (ad : fw_Ad) : va_E := .inl (cA 3, 30, .inr (.inr (.inr (.inr (fun j => some (ad 3 j))))))
def cStack (ad : fw_Ad) (σ : St) (k : Nat) : va_E := .inr (1, [.int (iI ((k / 5 : Nat) : Int)), .int (iI ((k % 5 : Nat) : Int)), .ref (ad 4 k), .int (iI (high σ k : Nat)), .int (iI (σ 7 k : Nat))])
def cArr (cA : Nat → ClassId) (ad : fw_Ad) (σ : St) (k : Nat) : va_E := .inl (cA 2, 4, .inr (.inr (.inr (.inr (fun j => (occ σ k j).map (ad 5))))))
def cBox (ad : fw_Ad) (σ : St) (c : Nat) : va_E := .inr (0, [.int (iI (c : Nat)), .int (iI (σ 0 c : Nat)), .int (iI (σ 1 c : Nat)), .int (iI (σ 2 c : Nat)), .int (iI (σ 3 c : Nat)), .int (iI (bI (decide (σ 4 c = 2)))), va_rf (if σ 4 c = 1 then some (ad 3 (σ 5 c)) else none), .int (iI (σ 6 c : Nat))])
def WC (cA : Nat → ClassId) (ad : fw_Ad) (σ : St) (μ : fw_W) : fw_W := fun b j =>
  match b with
  | 0 => if j = 0 then some (cPlan ad σ) else none
  | 1 => if j = 0 then some (cBoxes cA ad σ) else none
  | 2 => if j = 0 then some (cStacks cA ad) else none
  | 3 => if j < 30 then some (cStack ad σ j) else none
  | 4 => if j < 30 then some (cArr cA ad σ j) else none
  | 5 => if j < σ 8 0 then some (cBox ad σ j) else none
  | _ => μ b j
theorem WC_0 {cA : Nat → ClassId} {ad : fw_Ad} {σ : St} {μ : fw_W} : WC cA ad σ μ 0 0 = some (cPlan ad σ) := rfl
theorem WC_1 {cA : Nat → ClassId} {ad : fw_Ad} {σ : St} {μ : fw_W} : WC cA ad σ μ 1 0 = some (cBoxes cA ad σ) := rfl
theorem WC_2 {cA : Nat → ClassId} {ad : fw_Ad} {σ : St} {μ : fw_W} : WC cA ad σ μ 2 0 = some (cStacks cA ad) := rfl
theorem WC_3 {cA : Nat → ClassId} {ad : fw_Ad} {σ : St} {μ : fw_W} {k : Nat} (h : k < 30) : WC cA ad σ μ 3 k = some (cStack ad σ k) := if_pos h
theorem WC_4 {cA : Nat → ClassId} {ad : fw_Ad} {σ : St} {μ : fw_W} {k : Nat} (h : k < 30) : WC cA ad σ μ 4 k = some (cArr cA ad σ k) := if_pos h
theorem WC_5 {cA : Nat → ClassId} {ad : fw_Ad} {σ : St} {μ : fw_W} {k : Nat} (h : k < σ 8 0) : WC cA ad σ μ 5 k = some (cBox ad σ k) := if_pos h
def cMod (ad : fw_Ad) (σ : St) (th u a : Int) : va_E := .inr (3, [.int (iI th), .int (iI (σ 8 0 : Nat)), .ref (ad 11 0), .ref (ad 12 0), .ref (ad 13 0), .ref (ad 14 0), .int (iI (σ 8 1 : Nat)), .int (iI (σ 8 2 : Nat)), .int (iI (σ 8 3 : Nat)), .int (iI (σ 8 4 : Nat)), .int (iI (σ 8 5 : Nat)), .int (iI u), .int (iI a)])
def cTab (cA : Nat → ClassId) (σ : St) : va_E := .inl (cA 0, 200, .inl (fun j => iI ((σ (j % 5) (j / 5) : Nat) : Int)))
def cRow (cA : Nat → ClassId) (σ : St) (k : Nat) : va_E := .inl (cA 0, 40, .inl (fun j => iI ((σ k j : Nat) : Int)))
def cPlugs (cA : Nat → ClassId) (σ : St) : va_E := .inl (cA 1, 30, .inl (fun j => iI ((σ 7 j : Nat) : Int)))
def WM (cA : Nat → ClassId) (ad : fw_Ad) (σ : St) (th u a : Int) (μ : fw_W) : fw_W := fun b j =>
  match b with
  | 10 => if j = 0 then some (cMod ad σ th u a) else none
  | 11 => if j = 0 then some (cTab cA σ) else none
  | 12 => if j = 0 then some (cRow cA σ 5) else none
  | 13 => if j = 0 then some (cRow cA σ 6) else none
  | 14 => if j = 0 then some (cPlugs cA σ) else none
  | _ => μ b j
theorem WM_10 {cA : Nat → ClassId} {ad : fw_Ad} {σ : St} {th u a : Int} {μ : fw_W} : WM cA ad σ th u a μ 10 0 = some (cMod ad σ th u a) := rfl
theorem WM_11 {cA : Nat → ClassId} {ad : fw_Ad} {σ : St} {th u a : Int} {μ : fw_W} : WM cA ad σ th u a μ 11 0 = some (cTab cA σ) := rfl
theorem WM_12 {cA : Nat → ClassId} {ad : fw_Ad} {σ : St} {th u a : Int} {μ : fw_W} : WM cA ad σ th u a μ 12 0 = some (cRow cA σ 5) := rfl
theorem WM_13 {cA : Nat → ClassId} {ad : fw_Ad} {σ : St} {th u a : Int} {μ : fw_W} : WM cA ad σ th u a μ 13 0 = some (cRow cA σ 6) := rfl
theorem WM_14 {cA : Nat → ClassId} {ad : fw_Ad} {σ : St} {th u a : Int} {μ : fw_W} : WM cA ad σ th u a μ 14 0 = some (cPlugs cA σ) := rfl
end
section
/-! ===== sums ===== -/
theorem sumN_congr {f g : Nat → Nat} : ∀ {n : Nat}, (∀ i, i < n → f i = g i) → sumN f n = sumN g n
  | 0, _ => rfl
  | n + 1, h => by rw [sumN, sumN, sumN_congr (fun i hi => h i (by omega)), h n (by omega)]
theorem sumN_zero {f : Nat → Nat} : ∀ {n : Nat}, (∀ i, i < n → f i = 0) → sumN f n = 0
  | 0, _ => rfl
  | n + 1, h => by rw [sumN, sumN_zero (fun i hi => h i (by omega)), h n (by omega)]
theorem sumN_one {f : Nat → Nat} {a : Nat} : ∀ {n : Nat}, a < n → (∀ i, i < n → i ≠ a → f i = 0) → sumN f n = f a
  | 0, h, _ => by omega
  | n + 1, h, h2 => by
    rw [sumN]
    by_cases e : a = n
    · rw [sumN_zero (fun i hi => h2 i (by omega) (by omega)), e]; omega
    · rw [sumN_one (by omega) (fun i hi => h2 i (by omega)), h2 n (by omega) (by omega)]; rfl
theorem sumN_add {f g : Nat → Nat} : ∀ {n : Nat}, sumN (fun i => f i + g i) n = sumN f n + sumN g n
  | 0 => rfl
  | n + 1 => by rw [sumN, sumN, sumN, sumN_add]; omega
theorem sumN_swap {f : Nat → Nat → Nat} {m : Nat} : ∀ {n : Nat}, sumN (fun i => sumN (fun j => f i j) m) n = sumN (fun j => sumN (fun i => f i j) n) m
  | 0 => by rw [sumN]; exact (sumN_zero (fun _ _ => rfl)).symm
  | n + 1 => by
    rw [sumN, sumN_swap]
    show _ = sumN (fun j => sumN (fun i => f i j) n + f n j) m
    rw [sumN_add]
theorem sumN_mono {f g : Nat → Nat} : ∀ {n : Nat}, (∀ i, i < n → f i ≤ g i) → sumN f n ≤ sumN g n
  | 0, _ => Nat.le_refl _
  | n + 1, h => by
    rw [sumN, sumN]
    have := sumN_mono (n := n) (fun i hi => h i (by omega))
    have := h n (by omega)
    omega
theorem sumI_congr {f g : Nat → Int} : ∀ {n : Nat}, (∀ i, i < n → f i = g i) → sumI f n = sumI g n
  | 0, _ => rfl
  | n + 1, h => by rw [sumI, sumI, sumI_congr (fun i hi => h i (by omega)), h n (by omega)]
theorem sumI_zero {f : Nat → Int} : ∀ {n : Nat}, (∀ i, i < n → f i = 0) → sumI f n = 0
  | 0, _ => rfl
  | n + 1, h => by rw [sumI, sumI_zero (fun i hi => h i (by omega)), h n (by omega)]; rfl
theorem sumI_one {f : Nat → Int} {a : Nat} : ∀ {n : Nat}, a < n → (∀ i, i < n → i ≠ a → f i = 0) → sumI f n = f a
  | 0, h, _ => by omega
  | n + 1, h, h2 => by
    rw [sumI]
    by_cases e : a = n
    · rw [sumI_zero (fun i hi => h2 i (by omega) (by omega)), e]; omega
    · rw [sumI_one (by omega) (fun i hi => h2 i (by omega)), h2 n (by omega) (by omega)]; omega
theorem sumI_add {f g : Nat → Int} : ∀ {n : Nat}, sumI (fun i => f i + g i) n = sumI f n + sumI g n
  | 0 => rfl
  | n + 1 => by rw [sumI, sumI, sumI, sumI_add]; omega
theorem sumI_swap {f : Nat → Nat → Int} {m : Nat} : ∀ {n : Nat}, sumI (fun i => sumI (fun j => f i j) m) n = sumI (fun j => sumI (fun i => f i j) n) m
  | 0 => by rw [sumI]; exact (sumI_zero (fun _ _ => rfl)).symm
  | n + 1 => by
    rw [sumI, sumI_swap]
    show _ = sumI (fun j => sumI (fun i => f i j) n + f n j) m
    rw [sumI_add]
theorem sumI_mul {f : Nat → Int} {a : Int} : ∀ {n : Nat}, sumI f n * a = sumI (fun i => f i * a) n
  | 0 => by rw [sumI, sumI]; omega
  | n + 1 => by rw [sumI, sumI, Int.add_mul, sumI_mul]
theorem sumI_N {f : Nat → Nat} : ∀ {n : Nat}, ((sumN f n : Nat) : Int) = sumI (fun i => ((f i : Nat) : Int)) n
  | 0 => rfl
  | n + 1 => by rw [sumN, sumI, ← sumI_N]; omega
theorem sumI_abs {f : Nat → Int} {b : Nat} (h : ∀ i, -(b : Int) ≤ f i ∧ f i ≤ b) : ∀ n : Nat, -((n * b : Nat) : Int) ≤ sumI f n ∧ sumI f n ≤ ((n * b : Nat) : Int)
  | 0 => by simp [sumI]
  | n + 1 => by
    have h1 := sumI_abs h n
    have h2 := h n
    rw [sumI, Nat.succ_mul]
    omega
def ocN (σ : St) (k : Nat) (g : Nat → Nat) (j : Nat) : Nat := match occ σ k j with
  | some c => g c
  | none => 0
theorem ocN_s {σ : St} {k j c : Nat} {g : Nat → Nat} (h : occ σ k j = some c) : ocN σ k g j = g c := by rw [ocN, h]
theorem ocN_n {σ : St} {k j : Nat} {g : Nat → Nat} (h : occ σ k j = none) : ocN σ k g j = 0 := by rw [ocN, h]
theorem ocN_le {σ : St} {k j b : Nat} {g : Nat → Nat} (h : ∀ c, g c ≤ b) : ocN σ k g j ≤ b := by
  cases e : occ σ k j with
  | none => rw [ocN_n e]; omega
  | some c => rw [ocN_s e]; exact h c
/-- what stands in a stack, container by container, and tier by tier -/
theorem sum_occ {σ : St} (hI : Inv σ) (k : Nat) (g : Nat → Nat) : sumN (fun c => if isOn σ c k = true then g c else 0) (σ 8 0) = sumN (ocN σ k g) 4 := by
  have h1 : ∀ c, c < σ 8 0 → (if isOn σ c k = true then g c else 0) = sumN (fun j => if occ σ k j = some c then g c else 0) 4 := by
    intro c hc
    by_cases h : isOn σ c k = true
    · rw [if_pos h]
      obtain ⟨a1, a2⟩ := isOn_t.mp h
      have h4 := (hI.c c).2.2.2.2.2.2
      have ho := occ_of hI hc a1
      rw [a2] at ho
      rw [sumN_one (a := σ 6 c) h4 (fun j hj hne => if_neg (fun q => hne (occ_some q).2.2.2.symm)), if_pos ho]
    · rw [if_neg h]
      exact (sumN_zero (fun j hj => if_neg (fun q => h (isOn_t.mpr ⟨(occ_some q).2.1, (occ_some q).2.2.1⟩)))).symm
  rw [sumN_congr h1, sumN_swap]
  refine sumN_congr (fun j hj => ?_)
  cases h : occ σ k j with
  | none => rw [ocN_n h]; exact sumN_zero (fun c hc => if_neg (fun q => by cases q))
  | some c =>
    have hc := (occ_some h).1
    rw [ocN_s h]
    rw [sumN_one hc (fun i hi hne => if_neg (fun q => hne (Option.some.inj q).symm)), if_pos rfl]
theorem high_le {σ : St} (hI : Inv σ) (k : Nat) : high σ k ≤ 4 := by
  rw [high, sum_occ hI k (fun _ => 1)]
  have := sumN_le (f := ocN σ k (fun _ => 1)) (b := 1) (fun j => ocN_le (fun _ => Nat.le_refl 1)) 4
  omega
theorem wOf_le {σ : St} (hI : Inv σ) (k : Nat) : wOf σ k ≤ 120 := by
  rw [wOf, sum_occ hI k (fun c => σ 0 c)]
  have := sumN_le (f := ocN σ k (fun c => σ 0 c)) (b := 30) (fun j => ocN_le (fun c => (hI.c c).1)) 4
  omega
/-! tiers are filled from below -/
theorem high_full {σ : St} (hI : Inv σ) (k : Nat) {j : Nat} (hj : j < 4) : (∃ c, occ σ k j = some c) ↔ j < high σ k := by
  have e : high σ k = sumN (ocN σ k (fun _ => 1)) 4 := sum_occ hI k (fun _ => 1)
  have down : ∀ j j', j' < j → (∃ c, occ σ k j = some c) → ∃ c, occ σ k j' = some c := by
    rintro j j' hlt ⟨c, hc⟩
    obtain ⟨a1, a2, a3, a4⟩ := occ_some hc
    obtain ⟨d, b1, b2, b3, b4⟩ := hI.2.2.2.2.2 c j' a1 a2 (by omega)
    have := occ_of hI b1 b2
    rw [b3, a3, b4] at this
    exact ⟨d, this⟩
  have v : ∀ j, (∃ c, occ σ k j = some c) ∧ ocN σ k (fun _ => 1) j = 1 ∨ (¬ ∃ c, occ σ k j = some c) ∧ ocN σ k (fun _ => 1) j = 0 := by
    intro j
    cases h : occ σ k j with
    | none => right; exact ⟨by (rintro ⟨c, q⟩; cases q), ocN_n h⟩
    | some c => left; exact ⟨⟨c, rfl⟩, ocN_s h⟩
  have e2 : sumN (ocN σ k (fun _ => 1)) 4 = ocN σ k (fun _ => 1) 0 + ocN σ k (fun _ => 1) 1 + ocN σ k (fun _ => 1) 2 + ocN σ k (fun _ => 1) 3 := by simp [sumN]
  rw [e, e2]
  have d1 := down 1 0 (by omega)
  have d2 := down 2 1 (by omega)
  have d3 := down 3 2 (by omega)
  rcases v 0 with ⟨a0, b0⟩ | ⟨a0, b0⟩ <;> rcases v 1 with ⟨a1, b1⟩ | ⟨a1, b1⟩ <;> rcases v 2 with ⟨a2, b2⟩ | ⟨a2, b2⟩ <;> rcases v 3 with ⟨a3, b3⟩ | ⟨a3, b3⟩ <;>
    first
    | exact absurd (d1 a1) a0
    | exact absurd (d2 a2) a1
    | exact absurd (d3 a3) a2
    | (rw [b0, b1, b2, b3]
       rcases (show j = 0 ∨ j = 1 ∨ j = 2 ∨ j = 3 by omega) with rfl | rfl | rfl | rfl <;> simp [*])
/-! ===== further words for what is told ===== -/
def occI (σ : St) (k : Nat) (t : Int) : Option Nat := if 0 ≤ t ∧ t < 4 then occ σ k t.toNat else none
def dist (a b : Nat) : Nat := Int.natAbs ((a : Int) - (b : Int))
def apart (a b : Nat) : Prop := 2 ≤ dist (a / 5) (b / 5) ∨ (dist (a / 5) (b / 5) = 1 ∧ 2 ≤ dist (a % 5) (b % 5))
def reef (σ : St) (k : Nat) : Prop := ∃ c, c < σ 8 0 ∧ σ 4 c = 1 ∧ σ 5 c = k ∧ σ 3 c = 1
def later (σ : St) (k t p : Nat) : Prop := ∃ c, c < σ 8 0 ∧ σ 4 c = 1 ∧ σ 5 c = k ∧ t < σ 6 c ∧ p < σ 2 c
def earlier (σ : St) (k t : Nat) : Nat := sumN (fun c => if isOn σ c k = true then (if σ 2 c < t then 1 else 0) else 0) (σ 8 0)
/-- one for the port stands below c in its stack, and c is for another port -/
def lifC (σ : St) (p c : Nat) : Prop := ¬ σ 2 c = p ∧ ∃ d, d < σ 8 0 ∧ σ 4 d = 1 ∧ σ 5 d = σ 5 c ∧ σ 2 d = p ∧ σ 6 d < σ 6 c
noncomputable def lifS (σ : St) (k p : Nat) : Nat := sumN (fun c => if isOn σ c k = true then (if cB (lifC σ p c) = true then 1 else 0) else 0) (σ 8 0)
theorem earlier_occ {σ : St} (hI : Inv σ) (k t : Nat) : earlier σ k t = sumN (ocN σ k (fun c => if σ 2 c < t then 1 else 0)) 4 := sum_occ hI k (fun c => if σ 2 c < t then 1 else 0)
theorem lifS_occ {σ : St} (hI : Inv σ) (k p : Nat) : lifS σ k p = sumN (ocN σ k (fun c => if cB (lifC σ p c) = true then 1 else 0)) 4 := sum_occ hI k (fun c => if cB (lifC σ p c) = true then 1 else 0)
theorem wOf_occ {σ : St} (hI : Inv σ) (k : Nat) : wOf σ k = sumN (ocN σ k (fun c => σ 0 c)) 4 := sum_occ hI k (fun c => σ 0 c)
theorem earlier_le {σ : St} (hI : Inv σ) (k t : Nat) : earlier σ k t ≤ 4 := by
  rw [earlier_occ hI]
  have := sumN_le (f := ocN σ k (fun c => if σ 2 c < t then 1 else 0)) (b := 1) (fun j => ocN_le (fun c => by split <;> omega)) 4
  omega
theorem lifS_le {σ : St} (hI : Inv σ) (k p : Nat) : lifS σ k p ≤ 4 := by
  rw [lifS_occ hI]
  have := sumN_le (f := ocN σ k (fun c => if cB (lifC σ p c) = true then 1 else 0)) (b := 1) (fun j => ocN_le (fun c => by split <;> omega)) 4
  omega
/-- a fact about each container of a stack, tier by tier -/
theorem al_n {σ : St} {k i : Nat} {P : Nat → Prop} (h : ∀ j, j < i → ∀ c, occ σ k j = some c → P c) (hn : occ σ k i = none) : ∀ j, j < i + 1 → ∀ c, occ σ k j = some c → P c := by
  intro j hj c hc
  by_cases e : j = i
  · subst e; rw [hn] at hc; cases hc
  · exact h j (by omega) c hc
theorem al_s {σ : St} {k i b : Nat} {P : Nat → Prop} (h : ∀ j, j < i → ∀ c, occ σ k j = some c → P c) (hs : occ σ k i = some b) (hb : P b) : ∀ j, j < i + 1 → ∀ c, occ σ k j = some c → P c := by
  intro j hj c hc
  by_cases e : j = i
  · subst e; rw [hs] at hc; cases hc; exact hb
  · exact h j (by omega) c hc
theorem al_all {σ : St} (hI : Inv σ) {k : Nat} {P : Nat → Prop} (h : ∀ j, j < 4 → ∀ c, occ σ k j = some c → P c) {c : Nat} (hc : c < σ 8 0) (h1 : σ 4 c = 1) (h2 : σ 5 c = k) : P c := by
  have ho := occ_of hI hc h1
  rw [h2] at ho
  exact h (σ 6 c) (hI.c c).2.2.2.2.2.2 c ho
/-- one for the port among the tiers below -/
def flg (σ : St) (k p i : Nat) : Prop := ∃ j, j < i ∧ ∃ c, occ σ k j = some c ∧ σ 2 c = p
theorem flg_0 {σ : St} {k p : Nat} : cB (flg σ k p 0) = false := cB_f.mpr (by rintro ⟨j, hj, -⟩; omega)
theorem flg_t {σ : St} {k p i c : Nat} (h : occ σ k i = some c) (h2 : σ 2 c = p) : cB (flg σ k p (i + 1)) = true := cB_t.mpr ⟨i, by omega, c, h, h2⟩
theorem flg_n {σ : St} {k p i : Nat} (h : ∀ c, occ σ k i = some c → ¬ σ 2 c = p) : cB (flg σ k p (i + 1)) = cB (flg σ k p i) := cB_congr ⟨by
  rintro ⟨j, hj, c, h1, h2⟩
  by_cases e : j = i
  · subst e; exact absurd h2 (h c h1)
  · exact ⟨j, by omega, c, h1, h2⟩, by
  rintro ⟨j, hj, c, h1, h2⟩
  exact ⟨j, by omega, c, h1, h2⟩⟩
theorem lif_flg {σ : St} (hI : Inv σ) {k p i c : Nat} (h : occ σ k i = some c) (h2 : ¬ σ 2 c = p) : lifC σ p c ↔ flg σ k p i := by
  obtain ⟨a1, a2, a3, a4⟩ := occ_some h
  constructor
  · rintro ⟨-, d, b1, b2, b3, b4, b5⟩
    have ho := occ_of hI b1 b2
    rw [b3, a3] at ho
    exact ⟨σ 6 d, by omega, d, ho, b4⟩
  · rintro ⟨j, hj, d, b1, b2⟩
    obtain ⟨c1, c2, c3, c4⟩ := occ_some b1
    exact ⟨h2, d, c1, c2, by rw [c3, a3], b2, by omega⟩
def plc (σ : St) (c : Nat) : Int := if σ 4 c = 1 then ((100 * (σ 5 c / 5) + 10 * (σ 5 c % 5) + σ 6 c : Nat) : Int) else -1
theorem plc_le {σ : St} (hI : Inv σ) (c : Nat) : -1 ≤ plc σ c ∧ plc σ c ≤ 600 := by
  have := hI.c c
  unfold plc
  split <;> omega
end
section
/-! ===== words for the plan's own methods ===== -/
theorem sum_cut {g : Nat → Nat} {n : Nat} : ∀ {m : Nat}, n ≤ m → sumN (fun i => if i < n then g i else 0) m = sumN g n
  | 0, h => by rw [show n = 0 by omega]; rfl
  | m + 1, h => by
    by_cases e : n = m + 1
    · subst e; exact sumN_congr (fun i hi => if_pos hi)
    · rw [sumN, sum_cut (by omega), if_neg (by omega)]; rfl
theorem sumI_cut {g : Nat → Int} {n : Nat} : ∀ {m : Nat}, n ≤ m → sumI (fun i => if i < n then g i else 0) m = sumI g n
  | 0, h => by rw [show n = 0 by omega]; rfl
  | m + 1, h => by
    by_cases e : n = m + 1
    · subst e; exact sumI_congr (fun i hi => if_pos hi)
    · rw [sumI, sumI_cut (by omega), if_neg (by omega)]; omega
def boxAt (σ : St) (x : Int) : Option Nat := if 0 ≤ x ∧ x < ((σ 8 0 : Nat) : Int) then some x.toNat else none
def stkAt (b r : Int) : Option Nat := if (0 ≤ b ∧ b ≤ 5) ∧ 0 ≤ r ∧ r ≤ 4 then some (5 * b.toNat + r.toNat) else none
def optI (o : Option Nat) : Int := match o with
  | some c => ((c : Nat) : Int)
  | none => -1
def optN (o : Option Nat) (f : Nat → Nat) : Nat := match o with
  | some c => f c
  | none => 0
def arm (b : Bool) (k : Nat) : Int := if b = true then ((2 * (k / 5) : Nat) : Int) - ((5 : Nat) : Int) else ((k % 5 : Nat) : Int) - ((2 : Nat) : Int)
def mom (σ : St) (b : Bool) : Int := sumI (fun c => if σ 4 c = 1 then ((σ 0 c : Nat) : Int) * arm b (σ 5 c) else 0) (σ 8 0)
def clash (σ : St) (c s o : Nat) : Prop := σ 4 o = 1 ∧ 2 ≤ σ 3 o ∧ ¬ σ 3 o = σ 3 c ∧ ¬ apart (σ 5 o) s
def lonely (σ : St) (c s : Nat) : Prop := 2 ≤ σ 3 c → ∀ o, o < σ 8 0 → ¬ clash σ c s o
def allowed (σ : St) (c s : Nat) : Prop := σ 4 c = 0 ∧ σ 1 c = σ 8 4 ∧ high σ s < 4 ∧ wOf σ s + σ 0 c ≤ σ 8 1 ∧ (σ 3 c = 1 → σ 7 s = 1 ∧ high σ s < 2) ∧ lonely σ c s
def fitsSome (σ : St) (c : Nat) : Prop := ∃ s, s < 30 ∧ allowed σ c s
noncomputable def choices (σ : St) (c : Nat) : Nat := sumN (fun s => if cB (allowed σ c s) = true then 1 else 0) 30
def pref (σ : St) (c b : Nat) : Prop := σ 2 b < σ 2 c ∨ σ 2 c = σ 2 b ∧ σ 0 b < σ 0 c
noncomputable def bestB (σ : St) : Nat → Option Nat
  | 0 => none
  | i + 1 => if cB (fitsSome σ i ∧ ∀ b, bestB σ i = some b → pref σ i b) = true then some i else bestB σ i
def nearL (σ : St) (t : Bool) (c s : Nat) : Nat := Int.natAbs (mom σ t + ((σ 0 c : Nat) : Int) * arm t s)
def better (σ : St) (c s o : Nat) : Prop := earlier σ s (σ 2 c) < earlier σ o (σ 2 c) ∨ earlier σ s (σ 2 c) = earlier σ o (σ 2 c) ∧ (nearL σ false c s < nearL σ false c o ∨ nearL σ false c s = nearL σ false c o ∧ nearL σ true c s < nearL σ true c o)
noncomputable def bestS (σ : St) (c : Nat) : Nat → Option Nat
  | 0 => none
  | i + 1 => if cB (allowed σ c i ∧ ∀ b, bestS σ c i = some b → better σ c i b) = true then some i else bestS σ c i
theorem bestB_lt {σ : St} : ∀ {i b : Nat}, bestB σ i = some b → b < i
  | 0, b, h => by cases h
  | i + 1, b, h => by
    rw [bestB] at h
    split at h
    · cases h; omega
    · have := bestB_lt h; omega
theorem bestB_fits {σ : St} : ∀ {i b : Nat}, bestB σ i = some b → fitsSome σ b
  | 0, b, h => by cases h
  | i + 1, b, h => by
    rw [bestB] at h
    split at h
    · rename_i q; cases h; exact (cB_t.mp q).1
    · exact bestB_fits h
theorem bestS_lt {σ : St} {c : Nat} : ∀ {i b : Nat}, bestS σ c i = some b → b < i
  | 0, b, h => by cases h
  | i + 1, b, h => by
    rw [bestS] at h
    split at h
    · cases h; omega
    · have := bestS_lt h; omega
theorem bestS_ok {σ : St} {c : Nat} : ∀ {i b : Nat}, bestS σ c i = some b → allowed σ c b
  | 0, b, h => by cases h
  | i + 1, b, h => by
    rw [bestS] at h
    split at h
    · rename_i q; cases h; exact (cB_t.mp q).1
    · exact bestS_ok h
theorem bestS_some {σ : St} {c : Nat} : ∀ {i s : Nat}, s < i → allowed σ c s → ∃ b, bestS σ c i = some b
  | 0, s, h, _ => by omega
  | i + 1, s, h, ha => by
    rw [bestS]
    split
    · exact ⟨i, rfl⟩
    · rename_i q
      by_cases e : s = i
      · subst e
        cases hb : bestS σ c s with
        | some b => exact ⟨b, rfl⟩
        | none => exact absurd (cB_t.mpr ⟨ha, fun b q => by rw [hb] at q; cases q⟩) q
      · exact bestS_some (by omega) ha
theorem arm_le (b : Bool) {k : Nat} (hk : k < 30) : -5 ≤ arm b k ∧ arm b k ≤ 5 := by
  unfold arm; split <;> omega
theorem mul_le {w : Nat} {a : Int} (hw : w ≤ 30) (ha : -5 ≤ a ∧ a ≤ 5) : -150 ≤ ((w : Nat) : Int) * a ∧ ((w : Nat) : Int) * a ≤ 150 := by
  have h1 : ((w : Nat) : Int) * a ≤ (w : Int) * 5 := Int.mul_le_mul_of_nonneg_left ha.2 (by omega)
  have h2 : (w : Int) * (-5) ≤ ((w : Nat) : Int) * a := Int.mul_le_mul_of_nonneg_left ha.1 (by omega)
  omega
theorem mom_le {σ : St} (hI : Inv σ) (b : Bool) : -6000 ≤ mom σ b ∧ mom σ b ≤ 6000 := by
  have h := sumI_abs (f := fun c => if σ 4 c = 1 then ((σ 0 c : Nat) : Int) * arm b (σ 5 c) else 0) (b := 150) (fun c => by
    have hc := hI.c c
    split
    · exact mul_le hc.1 (arm_le b hc.2.2.2.2.2.1)
    · omega) (σ 8 0)
  have hn := hI.n
  have : ((σ 8 0 * 150 : Nat) : Int) ≤ 6000 := by omega
  unfold mom
  omega
/-- the moment, stack by stack -/
theorem mom_stk {σ : St} (hI : Inv σ) (b : Bool) : sumI (fun k => ((wOf σ k : Nat) : Int) * arm b k) 30 = mom σ b := by
  have h1 : ∀ k, k < 30 → ((wOf σ k : Nat) : Int) * arm b k = sumI (fun c => if isOn σ c k = true then ((σ 0 c : Nat) : Int) * arm b k else 0) (σ 8 0) := by
    intro k _
    rw [wOf, sumI_N, sumI_mul]
    refine sumI_congr (fun c _ => ?_)
    split
    · rfl
    · simp
  rw [sumI_congr h1, sumI_swap, mom]
  refine sumI_congr (fun c hc => ?_)
  have h5 := (hI.c c).2.2.2.2.2.1
  by_cases h : σ 4 c = 1
  · rw [if_pos h, sumI_one h5 (fun k hk hne => if_neg (fun q => hne (isOn_t.mp q).2.symm)), if_pos (isOn_t.mpr ⟨h, rfl⟩)]
  · rw [if_neg h]
    exact sumI_zero (fun k _ => if_neg (fun q => h (isOn_t.mp q).1))
theorem apart_symm {a b : Nat} : apart a b ↔ apart b a := by
  unfold apart dist; constructor <;> omega
def blk (σ : St) (c : Nat) : Prop := σ 4 c = 1 ∧ later σ (σ 5 c) (σ 6 c) (σ 2 c)
noncomputable def blkN (σ : St) : Nat := sumN (fun c => if cB (blk σ c) = true then 1 else 0) (σ 8 0)
def cntP (σ : St) (b : Bool) (c : Nat) : Prop := (b = true → σ 4 c = 0 ∧ σ 1 c = σ 8 4) ∧ (b = false → σ 4 c = 1)
noncomputable def cnt (σ : St) (b : Bool) : Nat := sumN (fun c => if cB (cntP σ b c) = true then 1 else 0) (σ 8 0)
def frP (σ : St) (k : Nat) : Nat := if σ 7 k = 0 then 0 else 2 - high σ k
def frPl (σ : St) : Nat := sumN (frP σ) 30
def mx (d x : Int64) : Int64 := d * 31 + x
def iL (a : Int) : Int64 := (iI a).toInt64
def dQ (σ : St) (d : Int64) (c : Nat) : Nat → Int64
  | 0 => d
  | q + 1 => mx (dQ σ d c q) (iL ((σ q c : Nat) : Int))
def dBx (σ : St) (d : Int64) (c : Nat) : Int64 := mx (dQ σ d c 5) (iL (plc σ c))
def dAll (σ : St) (d : Int64) : Nat → Int64
  | 0 => d
  | c + 1 => dBx σ (dAll σ d c) c
def pL (x : Nat) : Int64 := if x = 0 then 0 else 1
def dPl (σ : St) (d : Int64) : Nat → Int64
  | 0 => d
  | k + 1 => mx (dPl σ d k) (pL (σ 7 k))
def dig0 (σ : St) : Int64 := dAll σ (mx (mx 283 (iL ((σ 8 4 : Nat) : Int))) (iL ((σ 8 0 : Nat) : Int))) (σ 8 0)
def dig1 (σ : St) : Int64 := dPl σ (mx (mx (mx (dig0 σ) (iL ((σ 8 1 : Nat) : Int))) (iL ((σ 8 2 : Nat) : Int))) (iL ((σ 8 3 : Nat) : Int))) 30
def dig (σ : St) : Int64 := mx (mx (mx (dig1 σ) (iL (mom σ false))) (iL (mom σ true))) (iL ((σ 8 5 : Nat) : Int))
theorem nearL_le {σ : St} (hI : Inv σ) (t : Bool) (c : Nat) {s : Nat} (hs : s < 30) : nearL σ t c s ≤ 7000 := by
  have h1 := mul_le (hI.c c).1 (arm_le t hs)
  have h2 := mom_le hI t
  unfold nearL
  omega
theorem bestS_take {σ : St} {c i : Nat} (h : allowed σ c i) (h2 : ∀ b, bestS σ c i = some b → better σ c i b) : bestS σ c (i + 1) = some i := by
  show (if cB (allowed σ c i ∧ ∀ b, bestS σ c i = some b → better σ c i b) = true then some i else bestS σ c i) = some i
  exact if_pos (cB_t.mpr ⟨h, h2⟩)
theorem bestS_no {σ : St} {c i : Nat} {o : Option Nat} (e : bestS σ c i = o) (h : ¬ allowed σ c i) : bestS σ c (i + 1) = o := by
  show (if cB (allowed σ c i ∧ ∀ b, bestS σ c i = some b → better σ c i b) = true then some i else bestS σ c i) = o
  rw [if_neg (fun q => h (cB_t.mp q).1)]
  exact e
theorem bestS_nb {σ : St} {c i b : Nat} (e : bestS σ c i = some b) (h : ¬ better σ c i b) : bestS σ c (i + 1) = some b := by
  show (if cB (allowed σ c i ∧ ∀ b, bestS σ c i = some b → better σ c i b) = true then some i else bestS σ c i) = some b
  rw [if_neg (fun q => h ((cB_t.mp q).2 b e))]
  exact e
end
section
/-! ===== the height: a quotient of two whole numbers against 5 ===== -/
def wS (σ : St) : Nat := sumN (fun c => if σ 4 c = 1 then σ 0 c else 0) (σ 8 0)
def hS (σ : St) : Nat := sumN (fun c => if σ 4 c = 1 then σ 0 c * (2 * σ 6 c + 1) else 0) (σ 8 0)
def hgt (σ : St) : UInt64 := if wS σ = 0 then FP.dconst0 else FP.ddiv (FP.i2d (iI ((hS σ : Nat) : Int))) (FP.i2d (iI ((wS σ : Nat) : Int)))
theorem wS_le {σ : St} (hI : Inv σ) : wS σ ≤ 1200 := by
  have := sumN_le (f := fun c => if σ 4 c = 1 then σ 0 c else 0) (b := 30) (fun c => by
    have := (hI.c c).1
    show (if σ 4 c = 1 then σ 0 c else 0) ≤ 30
    split <;> omega) (σ 8 0)
  have hn := hI.n
  unfold wS
  omega
theorem hS_le {σ : St} (hI : Inv σ) : hS σ ≤ 8400 := by
  have := sumN_le (f := fun c => if σ 4 c = 1 then σ 0 c * (2 * σ 6 c + 1) else 0) (b := 210) (fun c => by
    have h1 := (hI.c c).1
    have h2 := (hI.c c).2.2.2.2.2.2
    show (if σ 4 c = 1 then σ 0 c * (2 * σ 6 c + 1) else 0) ≤ 210
    split
    · exact Nat.le_trans (Nat.mul_le_mul h1 (show 2 * σ 6 c + 1 ≤ 7 by omega)) (by decide)
    · omega) (σ 8 0)
  have hn := hI.n
  unfold hS
  omega
def fpN : Nat := 2 ^ 1074
def fpM : Nat := 2 ^ 1024
theorem fpN_pos : 0 < fpN := Nat.two_pow_pos 1074
theorem fpNM : fpN = fpM * 2 ^ 50 := Nat.pow_add 2 1024 50
theorem fp_q : (0 - FP.Core.b64.qmin).toNat = 1074 := by rw [FP.Core.qmin_b64]; rfl
end
