theorem xq_size {p : Program} {l : Launch} {e : Env} {R : Room} {s : State} {m : MethodId} {args : Array Value} {below : List Frame} {meth : Method} {c : Code} {T : State} {locs : List Loc} {slots B nx nx0 : Nat} {D : va_G} {dA : Nat → ClassId} {xs : Int → Int} {h : xq_H} (X : Stand p l e R s m args below meth c T locs (nx - nx0) slots) (hR : xq_Rep B D dA xs nx h T.heap) (hB : B ≤ s.heap.size ∧ (nx0 < 80 → s.heap.size = B + nx0)) (hn : nx0 ≤ nx) : B ≤ T.heap.size ∧ (nx < 80 → T.heap.size = B + nx) := by
  have h1 := X.same.2.1
  have h2 := X.same.2.2.1
  rw [show (T.setVm s.vm).heap.size = T.heap.size from rfl] at h1 h2
  refine ⟨by omega, fun h80 => ?_⟩
  have h3 := hB.2 (by omega)
  rcases Nat.eq_or_lt_of_le hn with q | q
  · omega
  · have h4 := (hR.1 (nx - 1) _ (xq_ws_at B dA h (o := nx - 1) (by omega) (by omega))).lt
    dsimp only at h4
    omega
/-- behind a call -/
theorem xq_back {p : Program} {l : Launch} {e : Env} {R : Room} {s : State} {m : MethodId} {args : Array Value} {below : List Frame} {meth : Method} {c : Code} {B : Nat} {D : va_G} {dA : Nat → ClassId} {aI : Nat → Nat} {xs : Int → Int} {rows : List (List xq_Row)} {nx0 : Nat} {Qf : State → Prop} {K' : xq_KT} {L : xq_L} {S' : List xq_V} {nx : Nat} {h : xq_H} {rpc nxt bc : Nat}
    (hle : ∀ pc L S nx h, K' pc L S nx h → xq_KW p l e R s m args below meth c B D dA aI xs rows nx0 Qf pc L S nx h) {H : Heap} {locs : List Loc} {ls : Array Slot} {st0 : List Value} {a : Array Value}
    (hrun : va_Run p l e R s m args below meth c H locs (nx - nx0) (xq_szs nx - xq_szs nx0) bc (xq_szs (nx + bc) - xq_szs nx) (F0 m rpc ls st0) (S'.map (xq_cv B aI)) (xq_Qc B D dA aI xs (nx + bc) (fun v h' => match v with | none => K' nxt L S' (nx + bc) h' | some w => K' nxt L (w :: S') (nx + bc) h') a) (fun q => B ≤ q))
    (hR : xq_Rep B D dA xs nx h H) (hS : va_S (fun q => B ≤ q) s.heap H locs) (hl : xq_lv B aI ls c.maxLocals L) (hr : ∀ v ∈ S', xq_rv v) (hn : nx0 ≤ nx) (hnx : xq_rp rows nxt = rpc + 3) : W p l e R s m args below meth c H locs (nx - nx0) (xq_szs nx - xq_szs nx0) Qf (F0 m rpc ls st0) := by
  intro T hT X
  obtain ⟨v, st₀, t, T', L1, h0, X', hL, e1, e2, ⟨⟨w, h', hv, hrv, hq, hRep⟩, hz, hk⟩, st⟩ := hrun T hT X
  rw [h0] at hz hk
  have hv2 : v = w.map (xq_cv B aI) := by injection hv
  subst hv2
  have m1 := xq_szs_le hn
  have m2 := xq_szs_le (show nx ≤ nx + bc by omega)
  rw [show nx - nx0 + bc = nx + bc - nx0 by omega, show xq_szs nx - xq_szs nx0 + (xq_szs (nx + bc) - xq_szs nx) = xq_szs (nx + bc) - xq_szs nx0 by omega] at X'
  have hS' : va_S (fun q => B ≤ q) s.heap T'.heap (locs ++ L1) := ⟨Nat.le_trans hS.1 (by rw [e1]; exact hz), fun q h1 h2 => by rw [e1, hk q (Nat.lt_of_lt_of_le h1 hS.1) h2]; exact hS.2.1 q h1 h2, fun q hq => by
    rcases List.mem_append.mp hq with h | h
    · exact hS.2.2 q h
    · exact hL q h⟩
  rw [← e1] at hRep
  cases w with
  | none =>
    have k := hle _ _ _ _ _ hq T'.heap (locs ++ L1) ls hRep hS' hl hr (by omega)
    rw [hnx] at k
    obtain ⟨t2, a1, b1⟩ := k T' rfl X'
    exact ⟨t2, st t2 a1, b1⟩
  | some w =>
    have k := hle _ _ _ _ _ hq T'.heap (locs ++ L1) ls hRep hS' hl (xq_rv_c (hrv w rfl) hr) (by omega)
    rw [hnx] at k
    obtain ⟨t2, a1, b1⟩ := k T' rfl X'
    exact ⟨t2, st t2 a1, b1⟩
theorem xq_sg_eq (y : Nat) : xq_sg y = ((xq_sg y).1, (xq_sg y).2.1, (xq_sg y).2.2.1, (xq_sg y).2.2.2.1, (xq_sg y).2.2.2.2) := rfl
theorem xq_cn {R : Room} {s : State} {args : Array Value} {own host : String} {index maxL mc ms : Nat} {y : MethodName} {bytes : ByteArray} {ret : Option FieldType} {Ts ws : List Jvm.Cond} {rm : Room} (n : Nat) (ht : ∀ w ∈ Ts, w.before args s = true) (hG : GoodIn Ts (Jvm.Cond.code y bytes maxL ret :: ws)) (hrc : rm.cells = mc) (hrs : rm.slots = ms) (hl : (Jvm.Cond.methodLinkNest own index y host).before args s = true) (hini : (Jvm.Cond.initialized y.cls).before args s = true)
    (hd : y.cls ≠ "java/lang/invoke/MethodHandle" ∧ y.cls ≠ "java/lang/invoke/VarHandle" ∧ (parseMethodDescriptor y.desc).map (fun d => d.parameters.length) = some n) (hR : rm.frames + 1 ≤ R.frames ∧ 8 + (maxL + 11) + rm.locals ≤ R.locals) : va_CN R s args own index y host bytes maxL ret (Jvm.Cond.code y bytes maxL ret :: ws) rm mc ms n := by
  refine ⟨⟨hrc, hrs, hR.1, hR.2, pay_in ht hG, List.mem_cons_self⟩, ht _ (hG _ List.mem_cons_self).1, hini, ⟨hd.1, hd.2.1⟩, fun sig h => ?_, hl⟩
  have h2 := hd.2.2
  rw [h] at h2
  exact (Option.some.inj h2).symm
section XQ3
variable {p : Program} {l : Launch} {e : Env} {R : Room} {s : State} {m : MethodId} {args : Array Value} {below : List Frame} {meth : Method} {c : Code} {B : Nat} {D : va_G} {dA : Nat → ClassId} {aI : Nat → Nat} {xs : Int → Int} {own : String} {ini : Bool} {rt : Option FieldType} {rows : List (List xq_Row)} {nx0 nxE LV : Nat} {Qf : State → Prop}
variable {K' : xq_KT} {pc : Nat} {L : xq_L} {S : List xq_V} {nx : Nat} {h : xq_H} {rpc len nxt : Nat} {ax : List Nat} {vs : List Int}
set_option maxHeartbeats 1000000 in
theorem xq_s_invokevirtual {Qx : Option xq_V → xq_H → Prop} {k : Nat} (Cx : xq_Cx p R s m args meth c B D dA aI xs own ini rt rows nx0 nxE LV) (hle : ∀ pc L S nx h, K' pc L S nx h → xq_KW p l e R s m args below meth c B D dA aI xs rows nx0 Qf pc L S nx h)
    (hrow : xq_at rows pc = some (.invokevirtual k, (rpc, len, nxt), ax, vs)) (hex : xq_exec (xq_C LV) nxE Qx K' (some (.invokevirtual k, (rpc, len, nxt), ax, vs)) L S nx h) : xq_KW p l e R s m args below meth c B D dA aI xs rows nx0 Qf pc L S nx h := by
  obtain ⟨hx, hown, hts, hKK, hIm, hok, hB, hRm, hini, hnE, hLV⟩ := Cx
  obtain ⟨ho, hpc⟩ := xq_row hok hrow
  simp only [xq_okb, xq_tm, xq_ts, xq_el, Bool.and_eq_true, Bool.or_eq_true, Bool.false_eq_true, false_or, decide_eq_true_eq, Nat.beq_eq] at ho
  intro H locs ls hR hS hl hr hn
  dsimp only at hpc
  rw [hpc]
  rcases ax with _ | ⟨y, _ | ⟨n, _ | ⟨bc, _ | ⟨rci, _ | ⟨kd, _ | ⟨wi, _ | ⟨w2, _ | ⟨w3, _ | ⟨w4, _ | ⟨w5, _ | ⟨a11, ax⟩⟩⟩⟩⟩⟩⟩⟩⟩⟩⟩ <;> try (exact absurd ho.2.1 Bool.false_ne_true)
  obtain ⟨⟨⟨hd, hlen⟩, hnx⟩, hz, hz0⟩ := ho
  subst hlen
  have hk0 : kd = 0 := by
    rcases kd with _ | kd
    · rfl
    · exact absurd hz0 Bool.false_ne_true
  subst hk0
  replace hz : xq_okc own k true [y, n, bc, rci, 0, wi, w2, w3, w4, w5] = true := hz
  unfold xq_okc at hz
  dsimp only at hz
  rw [if_pos rfl] at hz
  simp only [Bool.and_eq_true, decide_eq_true_eq, Nat.beq_eq, Nat.ble_eq] at hz
  obtain ⟨⟨⟨⟨⟨⟨hbc, hml⟩, hy1, hy2, hnp⟩, hcode⟩, hini2⟩, hins⟩, ⟨hlk, hsel⟩, hrc⟩ := hz
  have hml2 : (xq_sg y).2.2.1 ≤ 45 := hml
  unfold xq_exec at hex
  dsimp only at hex
  split at hex
  · rename_i o as S' hpop
    split at hex
    · rename_i hb
      rw [Bool.and_eq_true, Bool.and_eq_true] at hb
      obtain ⟨⟨hrec, hcat⟩, hbud⟩ := hb
      rw [Nat.ble_eq] at hcat hbud
      obtain ⟨ws, hw1, hw2, hw3⟩ := xq_pop_spec _ _ _ _ _ hpop
      rw [List.append_nil] at hw3
      subst hw3
      obtain ⟨lev, hlev, hM⟩ := hex
      have hM := hM l B D dA aI xs
      rw [← hbc] at hM
      subst hw2
      have hras : ∀ v ∈ xR o :: as, xq_rv v := fun v hv => hr v (List.mem_append_left _ (List.mem_reverse.mpr hv))
      have hrS : ∀ v ∈ S', xq_rv v := fun v hv => hr v (List.mem_append_right _ hv)
      have m2 := xq_szs_le (show nx + bc ≤ nxE by omega)
      have m1 := xq_szs_le hn
      have m3 := xq_szs_le (show nx ≤ nx + bc by omega)
      have hreci : ∃ cellB : Cell, H[xq_ad B aI o]? = some cellB ∧ cellB.vm.isStatics = false ∧ s.vm.findClass (xq_sg y).1.cls = some cellB.cls := by
        split at hrec
        · rw [Bool.and_eq_true, Nat.ble_eq, Nat.ble_eq] at hrec
          obtain ⟨i, rfl⟩ : ∃ i, o = 1100 + i := ⟨o - 1100, by omega⟩
          have hrc : (xq_sg y).1.cls = "java/lang/String" := of_decide_eq_true hrc
          have e9 : xq_ad B aI (1100 + i) = aI (1100 + i) := by rw [xq_ad, if_neg (by omega)]
          rw [hrc, e9]
          exact vk_recv (adK := fun i => aI (1100 + i)) (adV := fun i => aI (1200 + i)) (i := i) hIm.1 (by omega) hS
        · rename_i h99
          split at hrec
          · rename_i ci hcls
            rw [Bool.and_eq_true, Nat.beq_eq, Nat.blt_eq] at hrec
            obtain ⟨rfl, hoN⟩ := hrec
            have hrc2 : (xq_cl[ci]?).map (fun q => q.1) = some (xq_sg y).1.cls := by
              split at hrc
              · exact absurd rfl h99
              · exact of_decide_eq_true hrc
            obtain ⟨q, hcl, hq⟩ := Option.map_eq_some_iff.mp hrc2
            have hci : ci < 11 := (List.getElem?_eq_some_iff.mp hcl).1
            have ho80 : o < 80 := xq_cls_lt hcls (fun z => by cases z; omega)
            have ha := xq_ws_at B dA h hoN ho80
            have hce : xq_ce B dA h o = .inr (ci, xq_fs B h o ci) := by unfold xq_ce; rw [hcls]
            rw [hce] at ha
            rw [← hq, xq_ad, if_pos (by omega)]
            exact va_recv hKK hR.1 hcl ha
          · exact absurd hrec (by decide)
      rw [List.map_append, List.map_reverse, List.map_cons]
      intro T hT X
      have hsz := xq_size X (by rw [hT]; exact hR) hB hn
      rw [hT] at hsz
      refine xq_back (bc := bc) (a := ((xR o :: as).map (xq_cv B aI)).toArray) hle ?_ hR hS hl hrS hn hnx T hT X
      refine va_runV (y := (xq_sg y).1) (C := (xq_sg y).1.cls) (own := own) (index := k) (n := n) (b := xq_ad B aI o) (As := as.map (xq_cv B aI)) (Ts := lw_gd) (rm := xq_rm lev nx bc) (bytes := (xq_sg y).2.1) (maxL := (xq_sg y).2.2.1) (ret := (xq_sg y).2.2.2.1) ⟨hx, rfl, rfl, hown, hts⟩ hM
        (cwV n hts (xq_goodIn (fun w hw => ?_)) rfl rfl rfl ⟨rfl, hy1, hy2, hnp⟩ ⟨?_, ?_⟩) ⟨xq_blind, hreci, fun U hU hW => ⟨rfl, xq_Im_go hIm hW hU hS, va_K.moved hW.alike hKK, by rw [hU]; exact hR, hras, by rw [hU]; exact hsz⟩⟩ rfl ?_ hl.1 ?_ (lv_room (by rw [xq_cat_spec]; exact hcat)) hd ⟨?_, ?_⟩
      · rcases List.mem_append.mp hw with hw | hw
        · simp only [List.mem_cons, List.not_mem_nil, or_false] at hw
          rcases hw with rfl | rfl | rfl | rfl
          · exact xq_wd_in hlk
          · exact xq_wd_in hins
          · exact xq_wd_in hsel
          · exact xq_wd_in hini2
        · rcases List.mem_cons.mp hw with rfl | hw
          · exact xq_wd_in hcode
          · exact hw
      · show lev + 1 ≤ R.frames
        omega
      · show 8 + ((xq_sg y).2.2.1 + 11) + 64 * lev ≤ R.locals
        omega
      · rw [List.length_map]
        simp at hw1
        exact hw1
      · show _ = (as.map (xq_cv B aI)).reverse ++ Value.ref (xq_ad B aI o) :: _
        rw [List.reverse_cons, List.append_assoc]
        rfl
      · omega
      · omega
    · exact hex.elim
  · exact hex.elim

set_option maxHeartbeats 1000000 in
theorem xq_s_invokestatic {Qx : Option xq_V → xq_H → Prop} {k : Nat} (Cx : xq_Cx p R s m args meth c B D dA aI xs own ini rt rows nx0 nxE LV) (hle : ∀ pc L S nx h, K' pc L S nx h → xq_KW p l e R s m args below meth c B D dA aI xs rows nx0 Qf pc L S nx h)
    (hrow : xq_at rows pc = some (.invokestatic k, (rpc, len, nxt), ax, vs)) (hex : xq_exec (xq_C LV) nxE Qx K' (some (.invokestatic k, (rpc, len, nxt), ax, vs)) L S nx h) : xq_KW p l e R s m args below meth c B D dA aI xs rows nx0 Qf pc L S nx h := by
  obtain ⟨hx, hown, hts, hKK, hIm, hok, hB, hRm, hini, hnE, hLV⟩ := Cx
  obtain ⟨ho, hpc⟩ := xq_row hok hrow
  simp only [xq_okb, xq_tm, xq_ts, xq_el, Bool.and_eq_true, Bool.or_eq_true, Bool.false_eq_true, false_or, decide_eq_true_eq, Nat.beq_eq] at ho
  intro H locs ls hR hS hl hr hn
  dsimp only at hpc
  rw [hpc]
  rcases ax with _ | ⟨y, _ | ⟨n, _ | ⟨bc, _ | ⟨rci, _ | ⟨kd, _ | ⟨wi, _ | ⟨w2, _ | ⟨w3, _ | ⟨w4, _ | ⟨w5, _ | ⟨a11, ax⟩⟩⟩⟩⟩⟩⟩⟩⟩⟩⟩ <;> try (exact absurd ho.2.1 Bool.false_ne_true)
  obtain ⟨⟨⟨hd, hlen⟩, hnx⟩, hz, hz0⟩ := ho
  subst hlen
  replace hz : xq_okc own k false [y, n, bc, rci, kd, wi, w2, w3, w4, w5] = true := hz
  unfold xq_okc at hz
  dsimp only at hz
  rw [if_neg (by decide)] at hz
  simp only [Bool.and_eq_true, decide_eq_true_eq, Nat.beq_eq, Nat.ble_eq] at hz
  obtain ⟨⟨⟨⟨⟨⟨hbc, hml⟩, hy1, hy2, hnp⟩, hcode⟩, hini2⟩, hins⟩, hlk⟩ := hz
  have hml2 : (xq_sg y).2.2.1 ≤ 45 := hml
  unfold xq_exec at hex
  dsimp only at hex
  split at hex
  · rename_i as S' hpop
    split at hex
    · rename_i hb
      rw [Bool.and_eq_true] at hb
      obtain ⟨hcat, hbud⟩ := hb
      rw [Nat.ble_eq] at hcat hbud
      obtain ⟨ws, hw1, hw2, hw3⟩ := xq_pop_spec _ _ _ _ _ hpop
      rw [List.append_nil] at hw3
      subst hw3
      obtain ⟨lev, hlev, hM⟩ := hex
      have hM := hM l B D dA aI xs
      rw [← hbc] at hM
      subst hw2
      have hras : ∀ v ∈ as, xq_rv v := fun v hv => hr v (List.mem_append_left _ (List.mem_reverse.mpr hv))
      have hrS : ∀ v ∈ S', xq_rv v := fun v hv => hr v (List.mem_append_right _ hv)
      have m2 := xq_szs_le (show nx + bc ≤ nxE by omega)
      have m1 := xq_szs_le hn
      have m3 := xq_szs_le (show nx ≤ nx + bc by omega)
      rw [List.map_append, List.map_reverse]
      intro T hT X
      have hsz := xq_size X (by rw [hT]; exact hR) hB hn
      rw [hT] at hsz
      have hgood : GoodIn lw_gd (Jvm.Cond.code (xq_sg y).1 (xq_sg y).2.1 (xq_sg y).2.2.1 (xq_sg y).2.2.2.1 :: lw_gd) := xq_goodIn (fun w hw => by
        rcases List.mem_cons.mp hw with rfl | hw
        · exact xq_wd_in hcode
        · exact hw)
      have hrA : (xq_rm lev nx bc).frames + 1 ≤ R.frames ∧ 8 + ((xq_sg y).2.2.1 + 11) + (xq_rm lev nx bc).locals ≤ R.locals := by
        refine ⟨?_, ?_⟩
        · show lev + 1 ≤ R.frames
          omega
        · show 8 + ((xq_sg y).2.2.1 + 11) + 64 * lev ≤ R.locals
          omega
      have hPS : PreS s H (va_Pc (as.map (xq_cv B aI)) (xq_Pc B D dA aI xs as nx h)) (as.map (xq_cv B aI)) := ⟨xq_blind, fun U hU hW => ⟨rfl, xq_Im_go hIm hW hU hS, va_K.moved hW.alike hKK, by rw [hU]; exact hR, hras, by rw [hU]; exact hsz⟩⟩
      have hna : (as.map (xq_cv B aI)).length = n := by rw [List.length_map]; exact hw1
      refine xq_back (bc := bc) (a := (as.map (xq_cv B aI)).toArray) hle ?_ hR hS hl hrS hn hnx T hT X
      rcases kd with _ | _ | _ | kd
      · exact absurd hz0 Bool.false_ne_true
      · refine va_runS (y := (xq_sg y).1) (own := own) (index := k) (n := n) (As := as.map (xq_cv B aI)) (Ts := lw_gd) (rm := xq_rm lev nx bc) (bytes := (xq_sg y).2.1) (maxL := (xq_sg y).2.2.1) (ret := (xq_sg y).2.2.2.1) ⟨hx, rfl, rfl, hown, hts⟩ hM
          ⟨callB_of n hts hgood rfl rfl rfl (hts _ (xq_wd_in hini2)) (hts _ (xq_wd_in hlk)) ⟨hy1, hy2, hnp⟩ hrA, hts _ (xq_wd_in hins)⟩ hPS rfl hna hl.1 rfl (lv_room (by rw [xq_cat_spec]; exact hcat)) hd ⟨by omega, by omega⟩
      · refine va_runSN (host := "PutBack") (y := (xq_sg y).1) (own := own) (index := k) (n := n) (As := as.map (xq_cv B aI)) (Ts := lw_gd) (rm := xq_rm lev nx bc) (bytes := (xq_sg y).2.1) (maxL := (xq_sg y).2.2.1) (ret := (xq_sg y).2.2.2.1) ⟨hx, rfl, rfl, hown, hts⟩ hM
          ⟨xq_cn n hts hgood rfl rfl (va_Nw.use rfl (hIm.2.2.2.2.2.2.2 _ (xq_wn_in hlk))) (hts _ (xq_wd_in hini2)) ⟨hy1, hy2, hnp⟩ hrA, hts _ (xq_wd_in hins), trivial⟩ hPS rfl hna hl.1 rfl (lv_room (by rw [xq_cat_spec]; exact hcat)) hd ⟨by omega, by omega⟩
      · exact absurd hz0 Bool.false_ne_true
    · exact hex.elim
  · exact hex.elim

set_option maxHeartbeats 1000000 in
theorem xq_s_invokespecial {Qx : Option xq_V → xq_H → Prop} {k : Nat} (Cx : xq_Cx p R s m args meth c B D dA aI xs own ini rt rows nx0 nxE LV) (hle : ∀ pc L S nx h, K' pc L S nx h → xq_KW p l e R s m args below meth c B D dA aI xs rows nx0 Qf pc L S nx h)
    (hrow : xq_at rows pc = some (.invokespecial k, (rpc, len, nxt), ax, vs)) (hex : xq_exec (xq_C LV) nxE Qx K' (some (.invokespecial k, (rpc, len, nxt), ax, vs)) L S nx h) : xq_KW p l e R s m args below meth c B D dA aI xs rows nx0 Qf pc L S nx h := by
  obtain ⟨hx, hown, hts, hKK, hIm, hok, hB, hRm, hini, hnE, hLV⟩ := Cx
  obtain ⟨ho, hpc⟩ := xq_row hok hrow
  simp only [xq_okb, xq_tm, xq_ts, xq_el, Bool.and_eq_true, Bool.or_eq_true, Bool.false_eq_true, false_or, decide_eq_true_eq, Nat.beq_eq] at ho
  intro H locs ls hR hS hl hr hn
  dsimp only at hpc
  rw [hpc]
  obtain ⟨⟨⟨hd, hlen⟩, hnx⟩, hz⟩ := ho
  subst hlen
  split at hz
  · rcases S with _ | ⟨(o | o | o), S'⟩ <;> try exact False.elim hex
    replace hex : (match Nat.ble (xq_cat S') 8 with | true => K' nxt L S' nx h | false => False) := hex
    split at hex
    · rename_i hcat
      rw [Nat.ble_eq] at hcat
      refine W.objInit hx rfl hown (hts _ (xq_wd_in hz)) (hts _ (by decide +kernel)) (hts _ (by decide +kernel)) rfl hl.1 rfl hd (by omega) ?_ ?_
      · show 2 * 0 + _ + 12 ≤ R.locals
        rw [xq_cat_spec]
        omega
      · exact xq_fin hle hex hR hS hl (xq_rv_t hr) hn hnx rfl
    · exact hex.elim
  · rename_i y n bc rci wi w2 w3 w4 w5
    unfold xq_okc at hz
    dsimp only at hz
    rw [if_pos rfl] at hz
    simp only [Bool.and_eq_true, decide_eq_true_eq, Nat.beq_eq, Nat.ble_eq] at hz
    obtain ⟨⟨⟨⟨⟨⟨hbc, hml⟩, hy1, hy2, hnp⟩, hcode⟩, hini2⟩, hins⟩, hlk⟩ := hz
    have hml2 : (xq_sg y).2.2.1 ≤ 45 := hml
    unfold xq_exec at hex
    dsimp only at hex
    split at hex
    · rename_i o as S' hpop
      split at hex
      · rename_i hb
        rw [Bool.and_eq_true] at hb
        obtain ⟨hcat, hbud⟩ := hb
        rw [Nat.ble_eq] at hcat hbud
        obtain ⟨ws, hw1, hw2, hw3⟩ := xq_pop_spec _ _ _ _ _ hpop
        rw [List.append_nil] at hw3
        subst hw3
        obtain ⟨lev, hlev, hM⟩ := hex
        have hM := hM l B D dA aI xs
        rw [← hbc] at hM
        subst hw2
        have hras : ∀ v ∈ xR o :: as, xq_rv v := fun v hv => hr v (List.mem_append_left _ (List.mem_reverse.mpr hv))
        have hrS : ∀ v ∈ S', xq_rv v := fun v hv => hr v (List.mem_append_right _ hv)
        have m2 := xq_szs_le (show nx + bc ≤ nxE by omega)
        have m1 := xq_szs_le hn
        have m3 := xq_szs_le (show nx ≤ nx + bc by omega)
        rw [List.map_append, List.map_reverse, List.map_cons]
        intro T hT X
        have hsz := xq_size X (by rw [hT]; exact hR) hB hn
        rw [hT] at hsz
        have hrA : (xq_rm lev nx bc).frames + 1 ≤ R.frames ∧ 8 + ((xq_sg y).2.2.1 + 11) + (xq_rm lev nx bc).locals ≤ R.locals := by
          refine ⟨?_, ?_⟩
          · show lev + 1 ≤ R.frames
            omega
          · show 8 + ((xq_sg y).2.2.1 + 11) + 64 * lev ≤ R.locals
            omega
        have hPS : PreS s H (va_Pc ((xR o :: as).map (xq_cv B aI)) (xq_Pc B D dA aI xs (xR o :: as) nx h)) (.ref (xq_ad B aI o) :: as.map (xq_cv B aI)) := ⟨xq_blind, fun U hU hW => ⟨rfl, xq_Im_go hIm hW hU hS, va_K.moved hW.alike hKK, by rw [hU]; exact hR, hras, by rw [hU]; exact hsz⟩⟩
        have hna : (as.map (xq_cv B aI)).length = n := by rw [List.length_map]; simp at hw1; exact hw1
        have hst : ((xq_cv B aI (xR o) :: as.map (xq_cv B aI)).reverse ++ S'.map (xq_cv B aI)) = (as.map (xq_cv B aI)).reverse ++ Value.ref (xq_ad B aI o) :: S'.map (xq_cv B aI) := by
          rw [List.reverse_cons, List.append_assoc]
          rfl
        refine xq_back (bc := bc) (a := ((xR o :: as).map (xq_cv B aI)).toArray) hle ?_ hR hS hl hrS hn hnx T hT X
        obtain ⟨hlk, hnm⟩ := hlk
        obtain ⟨hnm, hret⟩ := hnm
        replace hret : (xq_sg y).2.2.2.1 = none := hret
        rw [hret] at hcode hM
        have hgood : GoodIn lw_gd (Jvm.Cond.code (xq_sg y).1 (xq_sg y).2.1 (xq_sg y).2.2.1 none :: lw_gd) := xq_goodIn (fun w hw => by
          rcases List.mem_cons.mp hw with rfl | hw
          · exact xq_wd_in hcode
          · exact hw)
        exact va_runIN (host := "PutBack") (y := (xq_sg y).1) (own := own) (index := k) (n := n) (b := xq_ad B aI o) (As := as.map (xq_cv B aI)) (Ts := lw_gd) (rm := xq_rm lev nx bc) (bytes := (xq_sg y).2.1) (maxL := (xq_sg y).2.2.1) ⟨hx, rfl, rfl, hown, hts⟩ hM
          ⟨xq_cn n hts hgood rfl rfl (va_Nw.use rfl (hIm.2.2.2.2.2.2.2 _ (xq_wn_in hlk))) (hts _ (xq_wd_in hini2)) ⟨hy1, hy2, hnp⟩ hrA, hnm, hts _ (xq_wd_in hins)⟩ hPS rfl hna hl.1 hst (lv_room (by rw [xq_cat_spec]; exact hcat)) hd ⟨by omega, by omega⟩
      · exact hex.elim
    · exact hex.elim
  · rename_i y n bc rci wi w2 w3 w4 w5
    unfold xq_okc at hz
    dsimp only at hz
    rw [if_pos rfl] at hz
    simp only [Bool.and_eq_true, decide_eq_true_eq, Nat.beq_eq, Nat.ble_eq] at hz
    obtain ⟨⟨⟨⟨⟨⟨hbc, hml⟩, hy1, hy2, hnp⟩, hcode⟩, hini2⟩, hins⟩, hlk⟩ := hz
    have hml2 : (xq_sg y).2.2.1 ≤ 45 := hml
    unfold xq_exec at hex
    dsimp only at hex
    split at hex
    · rename_i o as S' hpop
      split at hex
      · rename_i hb
        rw [Bool.and_eq_true] at hb
        obtain ⟨hcat, hbud⟩ := hb
        rw [Nat.ble_eq] at hcat hbud
        obtain ⟨ws, hw1, hw2, hw3⟩ := xq_pop_spec _ _ _ _ _ hpop
        rw [List.append_nil] at hw3
        subst hw3
        obtain ⟨lev, hlev, hM⟩ := hex
        have hM := hM l B D dA aI xs
        rw [← hbc] at hM
        subst hw2
        have hras : ∀ v ∈ xR o :: as, xq_rv v := fun v hv => hr v (List.mem_append_left _ (List.mem_reverse.mpr hv))
        have hrS : ∀ v ∈ S', xq_rv v := fun v hv => hr v (List.mem_append_right _ hv)
        have m2 := xq_szs_le (show nx + bc ≤ nxE by omega)
        have m1 := xq_szs_le hn
        have m3 := xq_szs_le (show nx ≤ nx + bc by omega)
        rw [List.map_append, List.map_reverse, List.map_cons]
        intro T hT X
        have hsz := xq_size X (by rw [hT]; exact hR) hB hn
        rw [hT] at hsz
        have hrA : (xq_rm lev nx bc).frames + 1 ≤ R.frames ∧ 8 + ((xq_sg y).2.2.1 + 11) + (xq_rm lev nx bc).locals ≤ R.locals := by
          refine ⟨?_, ?_⟩
          · show lev + 1 ≤ R.frames
            omega
          · show 8 + ((xq_sg y).2.2.1 + 11) + 64 * lev ≤ R.locals
            omega
        have hPS : PreS s H (va_Pc ((xR o :: as).map (xq_cv B aI)) (xq_Pc B D dA aI xs (xR o :: as) nx h)) (.ref (xq_ad B aI o) :: as.map (xq_cv B aI)) := ⟨xq_blind, fun U hU hW => ⟨rfl, xq_Im_go hIm hW hU hS, va_K.moved hW.alike hKK, by rw [hU]; exact hR, hras, by rw [hU]; exact hsz⟩⟩
        have hna : (as.map (xq_cv B aI)).length = n := by rw [List.length_map]; simp at hw1; exact hw1
        have hst : ((xq_cv B aI (xR o) :: as.map (xq_cv B aI)).reverse ++ S'.map (xq_cv B aI)) = (as.map (xq_cv B aI)).reverse ++ Value.ref (xq_ad B aI o) :: S'.map (xq_cv B aI) := by
          rw [List.reverse_cons, List.append_assoc]
          rfl
        refine xq_back (bc := bc) (a := ((xR o :: as).map (xq_cv B aI)).toArray) hle ?_ hR hS hl hrS hn hnx T hT X
        obtain ⟨hlk, hnm⟩ := hlk
        obtain ⟨hnm, hret⟩ := hnm
        replace hret : (xq_sg y).2.2.2.1 = none := hret
        rw [hret] at hcode hM
        have hgood : GoodIn lw_gd (Jvm.Cond.code (xq_sg y).1 (xq_sg y).2.1 (xq_sg y).2.2.1 none :: lw_gd) := xq_goodIn (fun w hw => by
          rcases List.mem_cons.mp hw with rfl | hw
          · exact xq_wd_in hcode
          · exact hw)
        exact va_runI (y := (xq_sg y).1) (own := own) (index := k) (n := n) (b := xq_ad B aI o) (As := as.map (xq_cv B aI)) (Ts := lw_gd) (rm := xq_rm lev nx bc) (bytes := (xq_sg y).2.1) (maxL := (xq_sg y).2.2.1) ⟨hx, rfl, rfl, hown, hts⟩ hM
          ⟨callB_of n hts hgood rfl rfl rfl (hts _ (xq_wd_in hini2)) (hts _ (xq_wd_in hlk)) ⟨hy1, hy2, hnp⟩ hrA, hnm, hts _ (xq_wd_in hins)⟩ hPS rfl hna hl.1 hst (lv_room (by rw [xq_cat_spec]; exact hcat)) hd ⟨by omega, by omega⟩
      · exact hex.elim
    · exact hex.elim
  · exact absurd hz Bool.false_ne_true
end XQ3
