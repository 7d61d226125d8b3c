theorem xq_szA : ∀ o : Fin 80, (match xq_cls o.val with | .inr (_, n) => Nat.beq (xq_szl.getD o.val 0) n | .inl ci => Nat.beq (xq_szl.getD o.val 0) (xq_nfl.getD ci 0)) = true := by decide +kernel
theorem xq_sz_a {o t n : Nat} (ho : o < 80) (h : xq_cls o = .inr (t, n)) : xq_szl.getD o 0 = n := by
  have := xq_szA ⟨o, ho⟩
  dsimp only at this
  rw [h] at this
  simpa [Nat.beq_eq] using this
theorem xq_sz_c {o ci : Nat} (ho : o < 80) (h : xq_cls o = .inl ci) : xq_szl.getD o 0 = xq_nfl.getD ci 0 := by
  have := xq_szA ⟨o, ho⟩
  dsimp only at this
  rw [h] at this
  simpa [Nat.beq_eq] using this
theorem xq_sw_spec {K : Nat → Prop} {d : Nat} {x : Int} : ∀ (ts : List Nat) (vs : List Int), ts.length = vs.length → xq_sw K d x ts vs → (∃ (i : Nat) (t : Nat) (v : Int), ts[i]? = some t ∧ vs[i]? = some v ∧ x = v ∧ K t ∧ ∀ j, j < i → vs[j]? ≠ some x) ∨ (K d ∧ ∀ v ∈ vs, x ≠ v)
  | [], [], _, h => Or.inr ⟨h, fun v hv => by cases hv⟩
  | t :: ts, v :: vs, hl, h => by
    by_cases hx : x = v
    · exact Or.inl ⟨0, t, v, rfl, rfl, hx, h.1 hx, fun j hj => by omega⟩
    · rcases xq_sw_spec ts vs (by simpa using hl) (h.2 hx) with ⟨i, t', v', h1, h2, h3, h4, h5⟩ | ⟨h1, h2⟩
      · refine Or.inl ⟨i + 1, t', v', h1, h2, h3, h4, fun j hj => ?_⟩
        rcases j with _ | j
        · intro z
          exact hx (Option.some.inj z).symm
        · exact h5 j (by omega)
      · refine Or.inr ⟨h1, fun w hw => ?_⟩
        rcases List.mem_cons.mp hw with rfl | hw
        · exact hx
        · exact h2 w hw
theorem xq_off_none {d k : Int} : ∀ (l : List (Int × Int)), (∀ q ∈ l, k ≠ q.1) → Op.lookupswitch.offset l d k = d
  | [], _ => rfl
  | (a, o) :: l, h => by
    rw [Op.lookupswitch.offset_cons, if_neg (fun z => h (a, o) List.mem_cons_self z.symm)]
    exact xq_off_none l (fun q hq => h q (List.mem_cons_of_mem _ hq))
theorem xq_off_some {d k : Int} : ∀ (l : List (Int × Int)) (i : Nat) (q : Int × Int), l[i]? = some q → q.1 = k → (∀ j, j < i → (l.map (fun q => q.1))[j]? ≠ some k) → Op.lookupswitch.offset l d k = q.2
  | [], i, q, h, _, _ => by simp at h
  | (a, o) :: l, 0, q, h, hk, _ => by
    cases h
    rw [Op.lookupswitch.offset_cons, if_pos hk]
  | (a, o) :: l, i + 1, q, h, hk, hj => by
    rw [Op.lookupswitch.offset_cons, if_neg (fun z => hj 0 (by omega) (by rw [← z]; rfl))]
    exact xq_off_some l i q h hk (fun j hj' => hj (j + 1) (by omega))
section XQ2
variable {p : Program} {l : Launch} {e : Env} {R : Room} {s : State} {m : MethodId} {args : Array Value} {below : List Frame} {meth : Method} {c : Code} {B : Nat} {D : va_G} {dA : Nat → ClassId} {aI : Nat → Nat} {xs : Int → Int} {own : String} {ini : Bool} {rt : Option FieldType} {rows : List (List xq_Row)} {nx0 nxE LV : Nat} {Qf : State → Prop}
variable {K' : xq_KT} {pc : Nat} {L : xq_L} {S : List xq_V} {nx : Nat} {h : xq_H} {rpc len nxt : Nat} {ax : List Nat} {vs : List Int}
set_option maxHeartbeats 1000000 in
theorem xq_s_new {Cq : Nat → List xq_V → Nat → xq_H → (Option xq_V → xq_H → Prop) → Prop} {Qx : Option xq_V → xq_H → Prop} {k : Nat} (Cx : xq_Cx p R s m args meth c B D dA aI xs own ini rt rows nx0 nxE LV) (hle : ∀ pc L S nx h, K' pc L S nx h → xq_KW p l e R s m args below meth c B D dA aI xs rows nx0 Qf pc L S nx h)
    (hrow : xq_at rows pc = some (.new k, (rpc, len, nxt), ax, vs)) (hex : xq_exec Cq nxE Qx K' (some (.new k, (rpc, len, nxt), ax, vs)) L S nx h) : xq_KW p l e R s m args below meth c B D dA aI xs rows nx0 Qf pc L S nx h := by
  obtain ⟨hx, hown, hts, hKK, hIm, hok, hB, hRm, hini, hnE, hLV⟩ := Cx
  obtain ⟨ho, hpc⟩ := xq_row hok hrow
  simp only [xq_okb, xq_tm, xq_ts, xq_el, Bool.and_eq_true, Bool.or_eq_true, Bool.false_eq_true, false_or, decide_eq_true_eq, Nat.beq_eq] at ho
  intro H locs ls hR hS hl hr hn
  dsimp only at hpc
  rw [hpc]
  rcases ax with _ | ⟨ci, _ | ⟨w1, _ | ⟨w2, _ | ⟨w3, _ | ⟨a5, ax⟩⟩⟩⟩⟩ <;> try exact False.elim hex
  obtain ⟨⟨⟨hd, hlen⟩, hnx⟩, hz⟩ := ho
  subst hlen
  unfold xq_exec at hex
  dsimp only at hex
  split at hex
  · rename_i ci' hcls
    split at hex
    · rename_i hb
      rw [Bool.and_eq_true, Nat.beq_eq, Nat.blt_eq] at hb
      obtain ⟨rfl, hnE2⟩ := hb
      dsimp only at hz
      split at hz
      · rename_i C T N hcl
        rw [Bool.and_eq_true, Bool.and_eq_true] at hz
        obtain ⟨⟨hw1, hw2⟩, hw3⟩ := hz
        obtain ⟨ty, hin, hty, hnm, hnf, hkd⟩ := xq_cls_ok hcl
        dsimp only at hin hty hnm hnf hkd
        have hci : ci < 11 := (List.getElem?_eq_some_iff.mp hcl).1
        have h80 : nx < 80 := xq_cls_lt hcls (fun z => by cases z; omega)
        have hN : xq_szl.getD nx 0 = N := (xq_sz_c h80 hcls).trans hnf
        have m1 := xq_szs_le (show nx0 ≤ nx by omega)
        have m2 := xq_szs_le (show nx + 1 ≤ nxE by omega)
        have m3 : xq_szs (nx + 1) = xq_szs nx + N := by rw [← hN]; rfl
        have hszs : xq_szs nx - xq_szs nx0 + N = xq_szs (nx + 1) - xq_szs nx0 := by omega
        have hce : xq_ce B dA (xq_z h nx) nx = .inr (ci, xq_fs B (xq_z h nx) nx ci) := by unfold xq_ce; rw [hcls]
        refine va_new (T := T) (N := N) (C := C) (ci := ci) (fs := xq_fs B (xq_z h nx) nx ci) hx rfl hts hin ty hty hown (hts _ (xq_wd_in hw1)) (hts _ (xq_wd_in hw2)) (hts _ (xq_wd_in hw3)) hKK hR.1 (xq_ws_D B dA nx h) hS (fun q hq => Nat.le_trans hB.1 hq) hcl ?_ (by omega) (by omega) hd (fun q H1 hP1 hD1 hS1 => ?_)
        · intro j hj
          have e0 : xq_z h nx nx j = 0 := by simp [xq_z]
          show defaultValue (ty j) = (xq_fs B (xq_z h nx) nx ci).getD j .null
          unfold xq_fs
          rw [hnf, List.getD_eq_getElem?_getD, List.getElem?_map, List.getElem?_range hj]
          show defaultValue (ty j) = xq_fv B (xq_z h nx) nx ci j
          unfold xq_fv
          rw [e0]
          rcases hkd j hj with z | z | z
          · rw [z.1, z.2]; rfl
          · rw [z.1, z.2]; rfl
          · have e1 : defaultValue (ty j) = .null := by
              have hi := z.2
              cases hq : ty j with
              | object _ => rfl
              | array _ => rfl
              | _ => rw [hq] at hi; cases hi
            rw [e1]
            rcases z.1 with z | z <;> rw [z] <;> rfl
        intro T hT X
        have hup := X.same.2.2.1
        rw [show (T.setVm s.vm).heap.size = T.heap.size from rfl, hT] at hup
        have hqP := (hP1 (xq_ws B dA nx h).length _ (by rw [List.getElem?_append_right (Nat.le_refl _), Nat.sub_self]; rfl)).lt
        dsimp only at hqP
        have hqB : B ≤ q := hD1.2 (xq_ws B dA nx h).length _ (by rw [List.getElem?_append_right (Nat.le_refl _), Nat.sub_self]; rfl)
        have hs0 := hB.2 (by omega)
        have hq : q = B + nx := by
          rcases Nat.lt_or_ge q (B + nx) with z | z
          · exfalso
            have hol : q - B < (xq_ws B dA nx h).length := (List.getElem?_eq_some_iff.mp (xq_ws_at B dA h (o := q - B) (nx := nx) (by omega) (by omega))).1
            have e1 : (xq_ws B dA nx h ++ [(q, .inr (ci, xq_fs B (xq_z h nx) nx ci))])[q - B]? = some (B + (q - B), xq_ce B dA h (q - B)) := by
              rw [List.getElem?_append_left hol, xq_ws_at B dA h (by omega) (by omega)]
            have e2 : (xq_ws B dA nx h ++ [(q, .inr (ci, xq_fs B (xq_z h nx) nx ci))])[(xq_ws B dA nx h).length]? = some (q, .inr (ci, xq_fs B (xq_z h nx) nx ci)) := by
              rw [List.getElem?_append_right (Nat.le_refl _), Nat.sub_self]; rfl
            have := hD1.1 _ _ _ _ e1 e2 (by show B + (q - B) = q; omega)
            omega
          · omega
        subst hq
        refine (?_ : W p l e R s m args below meth c H1 locs (nx - nx0 + 1) (xq_szs nx - xq_szs nx0 + N) Qf _) T hT X
        rw [show nx - nx0 + 1 = nx + 1 - nx0 by omega, hszs]

        rw [xq_ws_push h80 hce] at hP1
        refine xq_fin hle hex ⟨hP1, ?_, xq_rgh_z hR.2.2.1 _, fun z => by omega, by omega⟩ hS1 hl (xq_rv_c trivial hr) (by omega) hnx ?_
        · show xq_z h nx 999 = xs
          rw [← hR.2.1]
          funext j
          simp [xq_z]
          omega
        · show Value.ref (xq_ad B aI nx) :: _ = _
          rw [xq_ad, if_pos (by omega)]
      · exact absurd hz (by decide)
    · exact hex.elim
  · exact hex.elim

set_option maxHeartbeats 1000000 in
theorem xq_s_newarray {Cq : Nat → List xq_V → Nat → xq_H → (Option xq_V → xq_H → Prop) → Prop} {Qx : Option xq_V → xq_H → Prop} {k : ArrayType} (Cx : xq_Cx p R s m args meth c B D dA aI xs own ini rt rows nx0 nxE LV) (hle : ∀ pc L S nx h, K' pc L S nx h → xq_KW p l e R s m args below meth c B D dA aI xs rows nx0 Qf pc L S nx h)
    (hrow : xq_at rows pc = some (.newarray k, (rpc, len, nxt), ax, vs)) (hex : xq_exec Cq nxE Qx K' (some (.newarray k, (rpc, len, nxt), ax, vs)) L S nx h) : xq_KW p l e R s m args below meth c B D dA aI xs rows nx0 Qf pc L S nx h := by
  obtain ⟨hx, hown, hts, hKK, hIm, hok, hB, hRm, hini, hnE, hLV⟩ := Cx
  obtain ⟨ho, hpc⟩ := xq_row hok hrow
  simp only [xq_okb, xq_tm, xq_ts, xq_el, Bool.and_eq_true, Bool.or_eq_true, Bool.false_eq_true, false_or, decide_eq_true_eq, Nat.beq_eq] at ho
  intro H locs ls hR hS hl hr hn
  dsimp only at hpc
  rw [hpc]
  rcases ax with _ | ⟨t, _ | ⟨a5, ax⟩⟩ <;> try exact False.elim hex
  rcases S with _ | ⟨(a | a | a), S'⟩ <;> try exact False.elim hex
  obtain ⟨⟨⟨hd, hlen⟩, hnx⟩, hz⟩ := ho
  subst hlen
  unfold xq_exec at hex
  dsimp only at hex
  split at hex
  · rename_i t' n' hcls
    split at hex
    · rename_i hb
      rw [Bool.and_eq_true, Nat.beq_eq, Nat.blt_eq] at hb
      obtain ⟨rfl, hnE2⟩ := hb
      obtain ⟨rfl, hex⟩ := hex
      have h80 : nx < 80 := xq_cls_lt hcls (fun z => by cases z)
      have hn2 := xq_clsn h80 hcls
      have hN : xq_szl.getD nx 0 = n' := xq_sz_a h80 hcls
      have m1 := xq_szs_le (show nx0 ≤ nx by omega)
      have m2 := xq_szs_le (show nx + 1 ≤ nxE by omega)
      have m3 : xq_szs (nx + 1) = xq_szs nx + n' := by rw [← hN]; rfl
      have hszs : xq_szs nx - xq_szs nx0 + n' = xq_szs (nx + 1) - xq_szs nx0 := by omega
      have hce : xq_ce B dA (xq_z h nx) nx = .inl (dA t, n', .inl (fun j => Int32.ofInt (xq_z h nx nx (j : Int)))) := by unfold xq_ce; rw [hcls]
      have hce0 : (fun j : Nat => Int32.ofInt (xq_z h nx nx (j : Int))) = fun _ => 0 := by
        funext j
        simp [xq_z]
      rw [hce0] at hce
      have hkt : ∃ ty, newarray.typeOf k = ty ∧ (Jvm.Cond.arrayClass (newarray.typeOf k)).before args s = true ∧ defaultValue ty = .int 0 ∧ componentBytes ty ≤ 8 ∧ (∀ cA : ClassId, va_RA s cA ty → cA = dA t) := by
        rcases (show t = 0 ∨ t = 1 by omega) with rfl | rfl
        · have hk : k = .int := of_decide_eq_true hz
          subst hk
          refine ⟨.int, rfl, hts _ (by decide +kernel), rfl, by decide, fun cA hcA => ?_⟩
          have h2 := (hKK.2 0 _ rfl).2
          exact Option.some.inj (Eq.trans (Eq.symm hcA) h2)
        · have hk : k = .boolean := of_decide_eq_true hz
          subst hk
          refine ⟨.boolean, rfl, hts _ (by decide +kernel), rfl, by decide, fun cA hcA => ?_⟩
          have h2 := (hKK.2 1 _ rfl).2
          exact Option.some.inj (Eq.trans (Eq.symm hcA) h2)
      obtain ⟨ty, hty, hac, hdv, hcb, huq⟩ := hkt
      refine va_newa (N' := n') (a0 := (n', .inl (fun _ => 0))) hx rfl hac hty hKK hR.1 (xq_ws_D B dA nx h) hS (fun q hq => Nat.le_trans hB.1 hq) (fun cA => ?_) ?_ ?_ ?_ (by omega) (by omega) hd (fun q cA H1 hK1 hP1 hD1 hS1 => ?_)
      · rw [hdv]; rfl
      · rw [Int32.lt_iff_toInt_lt, xi_of (by omega)]
        show ¬ ((n' : Int) < 0)
        omega
      · rw [xi_cl (by omega)]; rfl
      · calc n' * componentBytes ty ≤ 1000 * 8 := Nat.mul_le_mul (by omega) hcb
          _ ≤ 536870912 := by decide
      have hcA : cA = dA t := huq cA (hK1.2 2 _ rfl).2
      subst hcA
      intro T hT X
      have hup := X.same.2.2.1
      rw [show (T.setVm s.vm).heap.size = T.heap.size from rfl, hT] at hup
      have hqP := (hP1 (xq_ws B dA nx h).length _ (by rw [List.getElem?_append_right (Nat.le_refl _), Nat.sub_self]; rfl)).lt
      dsimp only at hqP
      have hqB : B ≤ q := hD1.2 (xq_ws B dA nx h).length _ (by rw [List.getElem?_append_right (Nat.le_refl _), Nat.sub_self]; rfl)
      have hs0 := hB.2 (by omega)
      have hq : q = B + nx := by
        rcases Nat.lt_or_ge q (B + nx) with z | z
        · exfalso
          have hol : q - B < (xq_ws B dA nx h).length := (List.getElem?_eq_some_iff.mp (xq_ws_at B dA h (o := q - B) (nx := nx) (by omega) (by omega))).1
          have e1 : (xq_ws B dA nx h ++ [(q, .inl (dA t, n', .inl (fun _ => 0)))])[q - B]? = some (B + (q - B), xq_ce B dA h (q - B)) := by
            rw [List.getElem?_append_left hol, xq_ws_at B dA h (by omega) (by omega)]
          have e2 : (xq_ws B dA nx h ++ [(q, .inl (dA t, n', .inl (fun _ => 0)))])[(xq_ws B dA nx h).length]? = some (q, .inl (dA t, n', .inl (fun _ => 0))) := by
            rw [List.getElem?_append_right (Nat.le_refl _), Nat.sub_self]; rfl
          have := hD1.1 _ _ _ _ e1 e2 (by show B + (q - B) = q; omega)
          omega
        · omega
      subst hq
      refine (?_ : W p l e R s m args below meth c H1 locs (nx - nx0 + 1) (xq_szs nx - xq_szs nx0 + n') Qf _) T hT X
      rw [show nx - nx0 + 1 = nx + 1 - nx0 by omega, hszs]

      rw [xq_ws_push h80 hce] at hP1
      refine xq_fin hle hex ⟨hP1, ?_, xq_rgh_z hR.2.2.1 _, fun z => by omega, by omega⟩ hS1 hl (xq_rv_c trivial (xq_rv_t hr)) (by omega) hnx ?_
      · show xq_z h nx 999 = xs
        rw [← hR.2.1]
        funext j
        simp [xq_z]
        omega
      · show Value.ref (xq_ad B aI nx) :: _ = _
        rw [xq_ad, if_pos (by omega)]
    · exact hex.elim
  · exact hex.elim

set_option maxHeartbeats 1000000 in
theorem xq_s_tableswitch {Cq : Nat → List xq_V → Nat → xq_H → (Option xq_V → xq_H → Prop) → Prop} {Qx : Option xq_V → xq_H → Prop} {dflt lo hi : Int} {offs : Array Int} (Cx : xq_Cx p R s m args meth c B D dA aI xs own ini rt rows nx0 nxE LV) (hle : ∀ pc L S nx h, K' pc L S nx h → xq_KW p l e R s m args below meth c B D dA aI xs rows nx0 Qf pc L S nx h)
    (hrow : xq_at rows pc = some (.tableswitch dflt lo hi offs, (rpc, len, nxt), ax, vs)) (hex : xq_exec Cq nxE Qx K' (some (.tableswitch dflt lo hi offs, (rpc, len, nxt), ax, vs)) L S nx h) : xq_KW p l e R s m args below meth c B D dA aI xs rows nx0 Qf pc L S nx h := by
  obtain ⟨hx, hown, hts, hKK, hIm, hok, hB, hRm, hini, hnE, hLV⟩ := Cx
  obtain ⟨ho, hpc⟩ := xq_row hok hrow
  simp only [xq_okb, xq_tm, xq_ts, xq_el, Bool.and_eq_true, Bool.or_eq_true, Bool.false_eq_true, false_or, decide_eq_true_eq, Nat.beq_eq] at ho
  intro H locs ls hR hS hl hr hn
  dsimp only at hpc
  rw [hpc]
  rcases ax with _ | ⟨d, ts⟩ <;> try exact False.elim hex
  rcases S with _ | ⟨(a | a | a), S'⟩ <;> try exact False.elim hex
  have ha : -2147483648 ≤ a ∧ a ≤ 2147483647 := xq_rv_h hr
  have hr' := xq_rv_t hr
  obtain ⟨⟨⟨hd, -⟩, -⟩, hz⟩ := ho
  obtain ⟨z1, z2, z3, z4⟩ := of_decide_eq_true hz
  replace hex : xq_sw (fun t => K' t L S' nx h) d a ts vs := hex
  have hlen : ts.length = vs.length := by
    have e1 := congrArg List.length z2
    have e2 := congrArg List.length z3
    simp at e1 e2
    omega
  rcases xq_sw_spec ts vs hlen hex with ⟨i, t, v, h1, h2, h3, h4, h5⟩ | ⟨h1, h2⟩
  · subst h3
    have hi : i < offs.size := by
      have := (List.getElem?_eq_some_iff.mp h2).1
      rw [z3] at this
      simpa using this
    rw [z3, List.getElem?_map, List.getElem?_range hi] at h2
    have hv : lo + (i : Int) = a := Option.some.inj h2
    have h6 := congrArg (fun l => l[i]?) z2
    rw [List.getElem?_map, h1, List.getElem?_map, Array.getElem?_toList, Array.getElem?_eq_getElem hi] at h6
    have h7 : (xq_rp rows t : Int) = (rpc : Int) + offs[i] := Option.some.inj h6
    refine lv_tableIn (off := offs[i]) (tgt := xq_rp rows t) hx rfl hd ?_ ?_ ?_ h7.symm ?_
    · rw [xi_of ha]; omega
    · rw [xi_of ha]; omega
    · rw [xi_of ha, show (a - lo).toNat = i by omega, Array.getElem?_eq_getElem hi]
    · exact xq_fin hle h4 hR hS hl hr' hn rfl rfl
  · refine lv_tableOut (tgt := xq_rp rows d) hx rfl hd ?_ z1 ?_
    · rw [xi_of ha]
      rcases Int.lt_or_le a lo with q | q
      · exact Or.inl q
      · rcases Int.lt_or_le hi a with q2 | q2
        · exact Or.inr q2
        · exfalso
          have hj : (a - lo).toNat < offs.size := by omega
          refine h2 a ?_ rfl
          rw [z3]
          exact List.mem_map.mpr ⟨(a - lo).toNat, List.mem_range.mpr hj, by omega⟩
    · exact xq_fin hle h1 hR hS hl hr' hn rfl rfl

set_option maxHeartbeats 1000000 in
theorem xq_s_lookupswitch {Cq : Nat → List xq_V → Nat → xq_H → (Option xq_V → xq_H → Prop) → Prop} {Qx : Option xq_V → xq_H → Prop} {dflt : Int} {ps : Array (Int × Int)} (Cx : xq_Cx p R s m args meth c B D dA aI xs own ini rt rows nx0 nxE LV) (hle : ∀ pc L S nx h, K' pc L S nx h → xq_KW p l e R s m args below meth c B D dA aI xs rows nx0 Qf pc L S nx h)
    (hrow : xq_at rows pc = some (.lookupswitch dflt ps, (rpc, len, nxt), ax, vs)) (hex : xq_exec Cq nxE Qx K' (some (.lookupswitch dflt ps, (rpc, len, nxt), ax, vs)) L S nx h) : xq_KW p l e R s m args below meth c B D dA aI xs rows nx0 Qf pc L S nx h := by
  obtain ⟨hx, hown, hts, hKK, hIm, hok, hB, hRm, hini, hnE, hLV⟩ := Cx
  obtain ⟨ho, hpc⟩ := xq_row hok hrow
  simp only [xq_okb, xq_tm, xq_ts, xq_el, Bool.and_eq_true, Bool.or_eq_true, Bool.false_eq_true, false_or, decide_eq_true_eq, Nat.beq_eq] at ho
  intro H locs ls hR hS hl hr hn
  dsimp only at hpc
  rw [hpc]
  rcases ax with _ | ⟨d, ts⟩ <;> try exact False.elim hex
  rcases S with _ | ⟨(a | a | a), S'⟩ <;> try exact False.elim hex
  have ha : -2147483648 ≤ a ∧ a ≤ 2147483647 := xq_rv_h hr
  have hr' := xq_rv_t hr
  obtain ⟨⟨⟨hd, -⟩, -⟩, hz⟩ := ho
  obtain ⟨z1, z2, z3, z4⟩ := of_decide_eq_true hz
  replace hex : xq_sw (fun t => K' t L S' nx h) d a ts vs := hex
  have hlen : ts.length = vs.length := by
    have e1 := congrArg List.length z2
    have e2 := congrArg List.length z3
    simp at e1 e2
    omega
  rcases xq_sw_spec ts vs hlen hex with ⟨i, t, v, h1, h2, h3, h4, h5⟩ | ⟨h1, h2⟩
  · subst h3
    rw [z3, List.getElem?_map] at h2
    obtain ⟨q, hq1, hq2⟩ := Option.map_eq_some_iff.mp h2
    have h6 := congrArg (fun l => l[i]?) z2
    rw [List.getElem?_map, h1, List.getElem?_map, hq1] at h6
    have h7 : (xq_rp rows t : Int) = (rpc : Int) + q.2 := Option.some.inj h6
    refine lv_lookup (off := q.2) (tgt := xq_rp rows t) hx rfl hd z4 ?_ h7.symm ?_
    · rw [xi_of ha]
      exact xq_off_some _ i q hq1 hq2 (fun j hj => by rw [← z3]; exact h5 j hj)
    · exact xq_fin hle h4 hR hS hl hr' hn rfl rfl
  · refine lv_lookup (off := dflt) (tgt := xq_rp rows d) hx rfl hd z4 ?_ z1 ?_
    · rw [xi_of ha]
      refine xq_off_none _ (fun q hq => ?_)
      refine h2 q.1 ?_
      rw [z3]
      exact List.mem_map.mpr ⟨q, hq, rfl⟩
    · exact xq_fin hle h1 hR hS hl hr' hn rfl rfl
end XQ2
