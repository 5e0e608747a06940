theorem oU_W {cA : Nat → ClassId} {ad : fw_Ad} {σ : St} {th u a : Int} {f : Nat → Int64} {x : Int64} : oU cA (WM cA ad σ th u a (oW cA f)) f x = WM cA ad σ th u a (oW cA (vp_updL f 0 x)) := by
  funext b j
  unfold oU
  by_cases h : b = 15 ∧ j = 0
  · obtain ⟨rfl, rfl⟩ := h
    rw [fw_up_same]
    exact (oW_15 cA _).symm
  · rw [fw_up_ne h]
    by_cases h2 : 10 ≤ b ∧ b ≤ 14
    · rcases (by omega : b = 10 ∨ b = 11 ∨ b = 12 ∨ b = 13 ∨ b = 14) with rfl | rfl | rfl | rfl | rfl <;> rfl
    · have e : ∀ ν' : fw_W, WM cA ad σ th u a ν' b j = ν' b j := by
        intro ν'
        unfold WM
        split <;> first | omega | rfl
      rw [e, e]
      unfold oW
      rw [if_neg h, if_neg h]
section LOUT
variable {p : Program} {l : Launch} {e : Env} {R : Room} {s : State} {m : MethodId} {args : Array Value} {below : List Frame} {meth : Method} {c : Code} {H : Heap} {locs : List Loc} {cells slots : Nat} {Q : State → Prop}
variable {cc : ByteArray} {pc : Nat} {ls : Array Slot} {rest : List Value} {D : va_G} {cl : List vw_C} {tys : List (ClassId × FieldType)} {z : Nat} {ad : fw_Ad} {w : fw_W}
/-- out[0], just written -/
theorem lw_ld0 (hexec : p.tables.exec = Jvm.exec) (hb : c.code = cc) (hK : va_K D cl tys s) (hP : fw_P D cl z ad w H) {cA : ClassId} {f : Nat → Int64} {x : Int64} (he : w 15 0 = some (.inl (cA, 1, .inr (.inl (vp_updL f 0 x))))) (t0 : Nat) (ht : tys[t0]? = some (cA, .long)) (hdg : decode cc pc = .ok (.laload, 1))
    (kk : W p l e R s m args below meth c H locs cells slots Q (F0 m (pc + 1) ls (.long x :: rest))) : W p l e R s m args below meth c H locs cells slots Q (F0 m pc ls (.int (iI ((0 : Nat) : Int)) :: .ref (ad 15 0) :: rest)) := by
  refine fw_lald hexec hb hK hP he t0 ht (iI_in (by decide) (by decide)) hdg ?_
  rw [iI_idx (by decide), show vp_updL f 0 x 0 = x from if_pos rfl]
  exact kk
end LOUT
theorem lg_cmp_self (x : Int64) : lg_cmp x x = iI 0 := by
  unfold lg_cmp
  simp
  try rfl
