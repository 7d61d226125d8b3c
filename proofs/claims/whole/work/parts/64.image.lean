/-! WHAT NOBODY WRITES, AT THE START -/
def lx_tm (i : Nat) : Jvm.Term := match i with
  | 0 => .string "PutBack$Reader" 83
  | 1 => .string "PutBack$Reader" 84
  | 2 => .string "PutBack$Reader" 85
  | 3 => .string "PutBack$Reader" 87
  | 4 => .string "PutBackModel" 131
  | 5 => .string "PutBackModel" 137
  | 6 => .string "PutBackModel" 139
  | 7 => .string "PutBackModel" 144
  | 8 => .string "PutBack$Reader" 98
  | _ => .string "PutBack$Reader" 104
abbrev lx_fl : List Jvm.Cond := flatC (Jvm.Cond.and given_1 narrow_1)
theorem lx_hex : ∀ i, i < 10 → Jvm.Cond.exactly (lx_tm i) "java/lang/String" ∈ lx_fl := by decide +kernel
theorem lx_hco : ∀ i, i < 10 → Jvm.Cond.eq (.field (lx_tm i) "java/lang/String" "coder" "B") (.int 0) ∈ lx_fl := by decide +kernel
theorem lx_har : ∀ i, i < 10 → Jvm.Cond.arrayOf (.field (lx_tm i) "java/lang/String" "value" "[B") .byte ∈ lx_fl := by decide +kernel
theorem lx_hle : ∀ i, i < 10 → Jvm.Cond.eq (.length (.field (lx_tm i) "java/lang/String" "value" "[B")) (.int (Int32.ofNat (xq_lnl.getD i 0))) ∈ lx_fl := by decide +kernel
theorem lx_hel : ∀ i, i < 10 → ∀ j, j < xq_lnl.getD i 0 → Jvm.Cond.eq (.elem (.field (lx_tm i) "java/lang/String" "value" "[B") (.int (Int32.ofNat j))) (.int ((xq_byl.getD i []).getD j 0)) ∈ lx_fl := by decide +kernel
theorem lx_hne : ∀ i, i < 10 → ∀ j, j < 10 → i ≠ j → Jvm.Cond.not (Jvm.Cond.eq (lx_tm i) (lx_tm j)) ∈ lx_fl ∨ Jvm.Cond.not (Jvm.Cond.eq (lx_tm j) (lx_tm i)) ∈ lx_fl := by decide +kernel
theorem lx_above : ∀ j, j < 7 → Jvm.Cond.eq (.elem (.static "PutBack" "ABOVE" "[I") (.int (Int32.ofNat j))) (.int (Int32.ofInt ((xq_con 1001).getD j 0))) ∈ lx_fl := by decide +kernel
theorem lx_bodies : ∀ j, j < 21 → Jvm.Cond.eq (.elem (.static "PutBack" "BODIES" "[I") (.int (Int32.ofNat j))) (.int (Int32.ofInt ((xq_con 1002).getD j 0))) ∈ lx_fl := by decide +kernel
/-- where what nobody writes lies -/
def lx_aI (b tA tB sf : Nat) (adK adV : Nat → Nat) (o : Nat) : Nat := if o = 999 then b else if o = 1001 then tA else if o = 1002 then tB else if o = 1003 then sf else if o < 1200 then adK (o - 1100) else adV (o - 1200)
theorem lx_aK {b tA tB sf : Nat} {adK adV : Nat → Nat} {i : Nat} (h : i < 10) : lx_aI b tA tB sf adK adV (1100 + i) = adK i := by
  unfold lx_aI
  rw [if_neg (by omega), if_neg (by omega), if_neg (by omega), if_neg (by omega), if_pos (by omega), show 1100 + i - 1100 = i by omega]
theorem lx_aV {b tA tB sf : Nat} {adK adV : Nat → Nat} {i : Nat} (h : i < 10) : lx_aI b tA tB sf adK adV (1200 + i) = adV i := by
  unfold lx_aI
  rw [if_neg (by omega), if_neg (by omega), if_neg (by omega), if_neg (by omega), if_neg (by omega), show 1200 + i - 1200 = i by omega]
/-- the script, its length ahead -/
def lx_xs (L : Nat) (xs : Nat → Int32) (j : Int) : Int := if j = -1 then L else (xs j.toNat).toInt
theorem lx_xs_rg {L : Nat} {xs : Nat → Int32} (hL : L ≤ 2560) (j : Int) : -2147483648 ≤ lx_xs L xs j ∧ lx_xs L xs j ≤ 2147483647 := by
  unfold lx_xs
  split
  · omega
  · exact xi_rg _
theorem lx_txt : ∀ j : Fin 12, ∀ i : Fin 10, (match xq_sof[j.val]?, xq_stx[i.val]? with
  | some (own, idx, tx), some tx' => (!decide (tx = tx')) || (decide (Jvm.Cond.stringRef own idx tx ∈ lw_tbl) && (decide (lx_tm i.val = .string own idx) || decide (Jvm.Cond.eq (lx_tm i.val) (.string own idx) ∈ lx_fl)))
  | _, _ => true) = true := by decide +kernel
set_option maxHeartbeats 1000000 in
theorem lx_Im {s : State} {b L : Nat} {xs : Nat → Int32} (hL : L ≤ 2560) (hts : ∀ w ∈ lw_tbl, w.before #[Value.ref b] s = true) (hX : va_X b L xs s s.heap) (hgv : (Jvm.Cond.and given_1 narrow_1).before #[Value.ref b] s = true) : ∃ aI : Nat → Nat, aI 999 = b ∧ xq_Im s.heap.size aI (lx_xs L xs) s := by
  have hs : ∀ w ∈ lx_fl, w.before #[Value.ref b] s = true := flat_of_before _ hgv
  have hA : ∀ a : Nat, a < s.heap.size → ¬ (fun q : Nat => s.heap.size ≤ q) a := fun a h => Nat.not_le.mpr h
  obtain ⟨adK, adV, hS, hE⟩ := vk_Sof (N := 10) (tm := lx_tm) (len := xq_lnl) (byt := xq_byl) (A := fun q : Nat => s.heap.size ≤ q) (args := #[Value.ref b]) (s := s) (by decide) (fun i hi => hs _ (lx_hex i hi)) (fun i hi => hs _ (lx_hco i hi)) (fun i hi => hs _ (lx_har i hi)) (fun i hi => hs _ (lx_hle i hi)) (fun i hi j hj => hs _ (lx_hel i hi j hj)) (fun i j hi hj h => (lx_hne i hi j hj h).imp (fun z => hs _ z) (fun z => hs _ z)) hA
  obtain ⟨tA, eA, hTA⟩ := va_Tof (tm := .static "PutBack" "ABOVE" "[I") (ty := .int) (N := 7) (f := fun j => .int (Int32.ofInt ((xq_con 1001).getD j 0))) (A := fun q : Nat => s.heap.size ≤ q) (args := #[Value.ref b]) (s := s) (by decide) (hs _ (by decide +kernel)) (va_eqt (hs _ (by decide +kernel))) (fun j hj => va_eqt (hs _ (lx_above j hj))) hA
  obtain ⟨tB, eB, hTB⟩ := va_Tof (tm := .static "PutBack" "BODIES" "[I") (ty := .int) (N := 21) (f := fun j => .int (Int32.ofInt ((xq_con 1002).getD j 0))) (A := fun q : Nat => s.heap.size ≤ q) (args := #[Value.ref b]) (s := s) (by decide) (hs _ (by decide +kernel)) (va_eqt (hs _ (by decide +kernel))) (fun j hj => va_eqt (hs _ (lx_bodies j hj))) hA
  have hZA := va_Zof (hts (.laysStatic "PutBack" "ABOVE" "[I") (by decide +kernel)) (hts (.initialized "PutBack") (by decide +kernel)) eA hA
  have hZB := va_Zof (hts (.laysStatic "PutBack" "BODIES" "[I") (by decide +kernel)) (hts (.initialized "PutBack") (by decide +kernel)) eB hA
  have hZC := va_Zof (v := .int 1) (hts (.laysStatic "java/lang/String" "COMPACT_STRINGS" "Z") (by decide +kernel)) (hts (.initialized "java/lang/String") (by decide +kernel)) (va_eqt (hs (.eq (.static "java/lang/String" "COMPACT_STRINGS" "Z") (.int 1)) (by decide +kernel))) hA
  have hZS : ∃ v : Value, v.isRef = true ∧ va_Z "jdk/internal/util/Preconditions" "SIOOBE_FORMATTER" "Ljava/util/function/BiFunction;" v (fun q : Nat => s.heap.size ≤ q) s s.heap := by
    obtain ⟨v, ev, hv⟩ := Cond.isRef_spec (hs (.isRef (.static "jdk/internal/util/Preconditions" "SIOOBE_FORMATTER" "Ljava/util/function/BiFunction;")) (by decide +kernel))
    exact ⟨v, hv, va_Zof (hts (.laysStatic "jdk/internal/util/Preconditions" "SIOOBE_FORMATTER" "Ljava/util/function/BiFunction;") (by decide +kernel)) (hts (.initialized "jdk/internal/util/Preconditions") (by decide +kernel)) ev hA⟩
  refine ⟨lx_aI b tA tB 0 adK adV, rfl, ⟨fun i hi => ?_, fun i j hi hj e => ?_⟩, fun j own idx tx i e1 e2 => ?_, ⟨hZA, hTA⟩, ⟨hZB, hTB⟩, hZC, hZS, ⟨L, rfl, by omega, ?_⟩, fun w hw => ?_⟩
  · dsimp only
    rw [lx_aK hi, lx_aV hi]
    exact hS.1 i hi
  · dsimp only at e
    rw [lx_aK hi, lx_aK hj] at e
    exact hS.2 i j hi hj e
  · have hj : j < 12 := (List.getElem?_eq_some_iff.mp e1).1
    have hi : i < 10 := (List.getElem?_eq_some_iff.mp e2).1
    have q := lx_txt ⟨j, hj⟩ ⟨i, hi⟩
    dsimp only at q
    rw [e1, e2] at q
    simp only [decide_true, Bool.not_true, Bool.false_or, Bool.and_eq_true, Bool.or_eq_true, decide_eq_true_eq] at q
    obtain ⟨q1, q2⟩ := q
    refine vk_R.of (A := #[Value.ref b]) (hts _ q1) ?_
    rw [lx_aK hi]
    rcases q2 with q2 | q2
    · rw [← q2]; exact hE i hi
    · exact va_eqR (hs _ q2) (hE i hi)
  · obtain ⟨scr, h1, h2, h3, h4, h5⟩ := hX
    refine ⟨scr, h1, h2, h3, by omega, by rw [h4], fun j hj => ?_, hA b (Array.getElem?_eq_some_iff.mp h1).1⟩
    rw [h5 j hj]
    have e : lx_xs L xs (j : Int) = (xs j).toInt := by
      unfold lx_xs
      rw [if_neg (by omega), Int.toNat_natCast]
    dsimp only
    rw [e, Int32.ofInt_toInt]
  · have hn := (List.mem_filter.mp hw).2
    have hh := hts w (List.mem_filter.mp hw).1
    cases w <;> first | exact va_Nw.of rfl hh | exact absurd hn Bool.false_ne_true
