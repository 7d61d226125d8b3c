/-! WHAT THE STATEMENT GIVES OF THE START, AS THE ABSTRACT RUN WANTS IT -/
theorem lx_kn {s : State} {args : Array Value} (hts : ∀ w ∈ lw_tbl, w.before args s = true) : ∀ i : Nat, ∃ z : ClassId × (Nat → Nat), ∀ q, xq_cl[i]? = some q → u_Kn s q.1 q.2.1 q.2.2 z.1 z.2 := by
  have hg : ∀ w ∈ lw_gd, w.before args s = true := fun w hw => hts w (List.mem_filter.mp hw).1
  intro i
  by_cases hi : i < 11
  · rcases (show i = 0 ∨ i = 1 ∨ i = 2 ∨ i = 3 ∨ i = 4 ∨ i = 5 ∨ i = 6 ∨ i = 7 ∨ i = 8 ∨ i = 9 ∨ i = 10 by omega) with rfl | rfl | rfl | rfl | rfl | rfl | rfl | rfl | rfl | rfl | rfl
    · obtain ⟨cC, iS, h⟩ := u_known hg xq_cok0.1 (hts (.instantiable RX0 5) (by decide +kernel)); exact ⟨(cC, iS), fun q hq => by cases hq; exact h⟩
    · obtain ⟨cC, iS, h⟩ := u_known hg xq_cok1.1 (hts (.instantiable RX1 4) (by decide +kernel)); exact ⟨(cC, iS), fun q hq => by cases hq; exact h⟩
    · obtain ⟨cC, iS, h⟩ := u_known hg xq_cok2.1 (hts (.instantiable RX2 4) (by decide +kernel)); exact ⟨(cC, iS), fun q hq => by cases hq; exact h⟩
    · obtain ⟨cC, iS, h⟩ := u_known hg xq_cok3.1 (hts (.instantiable RX3 8) (by decide +kernel)); exact ⟨(cC, iS), fun q hq => by cases hq; exact h⟩
    · obtain ⟨cC, iS, h⟩ := u_known hg xq_cok4.1 (hts (.instantiable RX4 7) (by decide +kernel)); exact ⟨(cC, iS), fun q hq => by cases hq; exact h⟩
    · obtain ⟨cC, iS, h⟩ := u_known hg xq_cok5.1 (hts (.instantiable RX5 4) (by decide +kernel)); exact ⟨(cC, iS), fun q hq => by cases hq; exact h⟩
    · obtain ⟨cC, iS, h⟩ := u_known hg xq_cok6.1 (hts (.instantiable RX6 8) (by decide +kernel)); exact ⟨(cC, iS), fun q hq => by cases hq; exact h⟩
    · obtain ⟨cC, iS, h⟩ := u_known hg xq_cok7.1 (hts (.instantiable RX7 6) (by decide +kernel)); exact ⟨(cC, iS), fun q hq => by cases hq; exact h⟩
    · obtain ⟨cC, iS, h⟩ := u_known hg xq_cok8.1 (hts (.instantiable RX8 6) (by decide +kernel)); exact ⟨(cC, iS), fun q hq => by cases hq; exact h⟩
    · obtain ⟨cC, iS, h⟩ := u_known hg xq_cok9.1 (hts (.instantiable RX9 8) (by decide +kernel)); exact ⟨(cC, iS), fun q hq => by cases hq; exact h⟩
    · obtain ⟨cC, iS, h⟩ := u_known hg xq_cok10.1 (hts (.instantiable RX10 31) (by decide +kernel)); exact ⟨(cC, iS), fun q hq => by cases hq; exact h⟩
  · obtain ⟨cC, iS, h⟩ := u_known hg xq_cok0.1 (hts (.instantiable RX0 5) (by decide +kernel))
    refine ⟨(cC, iS), fun q hq => ?_⟩
    rw [List.getElem?_eq_none (by show 11 ≤ i; omega)] at hq
    cases hq
theorem lx_arr {s : State} {args : Array Value} {ty : FieldType} (h : (Jvm.Cond.arrayClass ty).before args s = true) (hR : ∀ cA, s.vm.findClass ("[" ++ ty.toString) = some cA → va_RA s cA ty) : ∃ cA, ArrOfT s cA ty ∧ va_RA s cA ty := by
  obtain ⟨cA, kA, comp, h1, h2, h3⟩ := Cond.arrayClass_spec h
  exact ⟨cA, fun n z => ⟨fun k h => (by cases h), kA, h2, comp, h3⟩, hR cA h1⟩
theorem lx_K {s : State} {args : Array Value} (hts : ∀ w ∈ lw_tbl, w.before args s = true) : ∃ (D : va_G) (dA : Nat → ClassId), va_K D xq_cl [(dA 0, .int), (dA 1, .boolean)] s := by
  obtain ⟨z, hz⟩ := Classical.axiomOfChoice (lx_kn hts)
  obtain ⟨c0, h0, g0⟩ := lx_arr (ty := .int) (hts _ (by decide +kernel)) (fun cA h => h)
  obtain ⟨c1, h1, g1⟩ := lx_arr (ty := .boolean) (hts _ (by decide +kernel)) (fun cA h => h)
  refine ⟨(fun i => (z i).1, fun i => (z i).2), fun t => if t = 0 then c0 else c1, fun c q hq => hz c q hq, fun k q hk => ?_⟩
  rcases k with _ | _ | k
  · cases hk; exact ⟨h0, g0⟩
  · cases hk; exact ⟨h1, g1⟩
  · simp at hk
