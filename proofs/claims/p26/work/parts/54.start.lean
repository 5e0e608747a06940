/-! ===== what holds when the law begins ===== -/
section START
variable {s : State} {args : Array Value}
theorem st_arr {ty : FieldType} (h : (Cond.arrayClass ty).before args s = true) : ∃ c : ClassId, ArrOfT s c ty ∧ s.vm.findClass ("[" ++ ty.toString) = some c := by
  obtain ⟨c, k, comp, h1, h2, h3⟩ := Cond.arrayClass_spec h
  exact ⟨c, fun n z9 => ⟨fun k h => (by cases h), k, h2, comp, h3⟩, h1⟩
theorem st_obj {C : String} (h : (Cond.arrayOver (.object C)).before args s = true) : ∃ c : ClassId, ArrOfT s c (.object C) ∧ va_RA s c (.object C) := by
  obtain ⟨comp, c, k, hC, -, hk, hkind, hname⟩ := Cond.arrayOver_spec h
  exact ⟨c, fun n z9 => ⟨fun k h => (by cases h), k, hk, comp, hkind⟩, k, comp, hk, hkind, hC, hname⟩
theorem st_K (hts : ∀ w ∈ lw_tbl, w.before args s = true) : ∃ (D : va_G) (cA : Nat → ClassId), va_K D vwCl (fw_T cA) s := by
  obtain ⟨c0, i0, k0⟩ := u_known (C := RX0) (T := TX0) (N := 8) (n := 8) hts inX0 (hts (.instantiable RX0 8) (by decide +kernel))
  obtain ⟨c1, i1, k1⟩ := u_known (C := RX1) (T := TX1) (N := 5) (n := 5) hts inX1 (hts (.instantiable RX1 5) (by decide +kernel))
  obtain ⟨c2, i2, k2⟩ := u_known (C := RX2) (T := TX2) (N := 8) (n := 8) hts inX2 (hts (.instantiable RX2 8) (by decide +kernel))
  obtain ⟨a0, e0, f0⟩ := st_arr (hts (.arrayClass .int) (by decide +kernel))
  obtain ⟨a2, e2, f2⟩ := st_obj (hts (.arrayOver (.object RX0)) (by decide +kernel))
  obtain ⟨a3, e3, f3⟩ := st_obj (hts (.arrayOver (.object RX1)) (by decide +kernel))
  refine ⟨(fun c => match c with | 0 => c0 | 1 => c1 | _ => c2, fun c => match c with | 0 => i0 | 1 => i1 | _ => i2), (fun c => match c with | 0 => a0 | 2 => a2 | _ => a3), fun c q hq => ?_, fun k q hq => ?_⟩
  · match c, hq with
    | 0, hq => cases hq; exact k0
    | 1, hq => cases hq; exact k1
    | 2, hq => cases hq; exact k2
    | _ + 3, hq => cases hq
  · match k, hq with
    | 0, hq => cases hq; exact ⟨e0, f0⟩
    | 1, hq => cases hq; exact ⟨e0, f0⟩
    | 2, hq => cases hq; exact ⟨e2, f2⟩
    | 3, hq => cases hq; exact ⟨e3, f3⟩
    | _ + 4, hq => cases hq
theorem st_AO (hts : ∀ w ∈ lw_tbl, w.before args s = true) : va_AO RX0 s ∧ va_AO RX1 s := ⟨va_AO.of (hts (.arrayOver (.object RX0)) (by decide +kernel)), va_AO.of (hts (.arrayOver (.object RX1)) (by decide +kernel))⟩
theorem st_str {i : Nat} {tx : String} (h1 : (Cond.stringRef RX2 i tx).before args s = true) (h2 : (Cond.exactly (.string RX2 i) "java/lang/String").before args s = true) : ∃ a, vk_R RX2 i tx a s := by
  obtain ⟨a, c, cell, k, hev, -⟩ := Cond.exactly_spec h2
  exact ⟨a, vk_R.of h1 hev⟩
theorem st_E (hts : ∀ w ∈ lw_tbl, w.before args s = true) (hg : (Jvm.Cond.and given_1 narrow_1).before args s = true) : ∃ sa : Nat → Nat, tx_E s.heap.size sa s s.heap := by
  have hs := flat_of_before _ hg
  have h1 : ∀ q ∈ tx_s, ∃ a, vk_R RX2 q.1 q.2 a s := by
    simp only [tx_s, List.forall_mem_cons]
    exact ⟨st_str (hts (.stringRef RX2 49 "no container is like this") (by decide +kernel)) (hs (.exactly (.string RX2 49) "java/lang/String") (by decide +kernel)), st_str (hts (.stringRef RX2 56 "the ship has left this port") (by decide +kernel)) (hs (.exactly (.string RX2 56) "java/lang/String") (by decide +kernel)), st_str (hts (.stringRef RX2 59 "there are 40 containers") (by decide +kernel)) (hs (.exactly (.string RX2 59) "java/lang/String") (by decide +kernel)), st_str (hts (.stringRef RX2 70 "no such container or question") (by decide +kernel)) (hs (.exactly (.string RX2 70) "java/lang/String") (by decide +kernel)), st_str (hts (.stringRef RX2 77 "no such limit") (by decide +kernel)) (hs (.exactly (.string RX2 77) "java/lang/String") (by decide +kernel)), st_str (hts (.stringRef RX2 95 "no such container, bay or row") (by decide +kernel)) (hs (.exactly (.string RX2 95) "java/lang/String") (by decide +kernel)), st_str (hts (.stringRef RX2 101 "it cannot be loaded there") (by decide +kernel)) (hs (.exactly (.string RX2 101) "java/lang/String") (by decide +kernel)), st_str (hts (.stringRef RX2 136 "the ship cannot sail") (by decide +kernel)) (hs (.exactly (.string RX2 136) "java/lang/String") (by decide +kernel)), st_str (hts (.stringRef RX2 145 "no such bay, row or tier") (by decide +kernel)) (hs (.exactly (.string RX2 145) "java/lang/String") (by decide +kernel)), st_str (hts (.stringRef RX2 150 "no such container") (by decide +kernel)) (hs (.exactly (.string RX2 150) "java/lang/String") (by decide +kernel)), st_str (hts (.stringRef RX2 199 "no such port") (by decide +kernel)) (hs (.exactly (.string RX2 199) "java/lang/String") (by decide +kernel)), fun _ h => nomatch h⟩
  have hd : ∀ q ∈ tx_s, ∀ q' ∈ tx_s, q.1 = q'.1 → q = q' := by decide
  have h2 : ∀ i, ∃ a, ∀ q ∈ tx_s, q.1 = i → vk_R RX2 q.1 q.2 a s := by
    intro i
    by_cases h : ∃ q ∈ tx_s, q.1 = i
    · obtain ⟨q, hq, hi⟩ := h
      obtain ⟨a, ha⟩ := h1 q hq
      exact ⟨a, fun q' hq' hi' => by rw [← hd q hq q' hq' (hi.trans hi'.symm)]; exact ha⟩
    · exact ⟨0, fun q hq hi => absurd ⟨q, hq, hi⟩ h⟩
  refine ⟨fun i => Classical.choose (h2 i), ?_, fun q hq => Classical.choose_spec (h2 q.1) q hq rfl, ?_, ?_, trivial⟩
  · have hw : ∀ w ∈ tx_w, w ∈ lw_tbl := by decide +kernel
    exact fun w hw9 => va_any ((by decide : ∀ w ∈ tx_w, w.onTables = true) w hw9) (hts w (hw w hw9))
  · exact vx_Zqof (hts _ (by decide +kernel)) (hts (.initialized Bundle.tN) (by decide +kernel)) (hs _ (by decide +kernel)) (fun a ha h => by have : s.heap.size ≤ a := h; omega)
  · exact vx_Zqof (hts _ (by decide +kernel)) (hts (.initialized Bundle.tN) (by decide +kernel)) (hs _ (by decide +kernel)) (fun a ha h => by have : s.heap.size ≤ a := h; omega)
theorem Inv_0 : Inv σ0 := by
  have h6 : ∀ c, σ0 6 c = 0 := fun _ => rfl
  have h4 : ∀ c, σ0 4 c = 0 := fun _ => rfl
  have h8 : σ0 8 0 = 0 := rfl
  refine ⟨⟨by decide, by decide, by decide, by decide, by decide, by decide⟩, fun c => ?_, fun c hc => ?_, fun k => ?_, fun c d hc _ => ?_, fun c j hc => ?_, fun c _ => h6 c⟩
  · exact ⟨Nat.zero_le _, Nat.zero_le _, Nat.zero_le _, Nat.zero_le _, Nat.zero_le _, (by decide : (0 : Nat) < 30), (by decide : (0 : Nat) < 4)⟩
  · rw [h8] at hc; omega
  · show (if 10 ≤ k ∧ k < 20 then 1 else 0) ≤ 1
    split <;> omega
  · rw [h8] at hc; omega
  · rw [h8] at hc; omega
end START
