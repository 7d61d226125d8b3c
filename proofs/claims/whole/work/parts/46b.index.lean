/-! String.checkIndex: what it hands on may be null; so it has a walk of its own -/
set_option maxHeartbeats 1000000 in
/-- a contract by an abstract run, of a method whose values are not all numbers of ours -/
theorem xq_enterV {lev y : Nat} {as : List xq_V} {vl : List Value} {nx : Nat} {h : xq_H} {Q : Option xq_V → xq_H → Prop} {rows : List (List xq_Row)} {own : String} {L0 : xq_L} (hok : xq_okM (xq_sg y).2.1 own false (xq_sg y).2.2.2.1 rows = true) (hno : xq_no3 rows = true) (hown : (xq_sg y).1.cls = own) (hpl : plainFor (xq_sg y).1 = true) (h0 : xq_rp rows 0 = 0) (hlev : 1 ≤ lev) (hnx : nx + (xq_sg y).2.2.2.2 ≤ 81) {l : Launch} {B : Nat} {D : va_G} {dA : Nat → ClassId} {aI : Nat → Nat} {xs : Int → Int}
    (hlv : (∀ v ∈ as, xq_rv v) → xq_lv B aI ((lg_sl vl ++ List.replicate ((xq_sg y).2.2.1 - (lg_sl vl).length) Slot.unset).toArray) (xq_sg y).2.2.1 L0)
    (body : ∀ K : xq_KT, xq_sound (xq_C lev) rows (nx + (xq_sg y).2.2.2.2) Q K → K 0 L0 [] nx h) : Met l (xq_sg y).1 (Jvm.Cond.code (xq_sg y).1 (xq_sg y).2.1 (xq_sg y).2.2.1 (xq_sg y).2.2.2.1 :: lw_gd) (xq_rm lev nx (xq_sg y).2.2.2.2) (va_Pc vl (xq_Pc B D dA aI xs as nx h)) (xq_Qc B D dA aI xs (nx + (xq_sg y).2.2.2.2) Q) (xq_sg y).2.2.2.2 (xq_szs (nx + (xq_sg y).2.2.2.2) - xq_szs nx) (fun q => B ≤ q) := by
  refine xq_ofW (cc := (xq_sg y).2.1) (maxL := (xq_sg y).2.2.1) (ret := (xq_sg y).2.2.2.1) hpl rfl ?_
  intro p e s m args below meth c s₁ Bd hml hv
  obtain ⟨rfl, hIm, hK, hRep, hrv, hB1, hB2⟩ := hv
  have hts0 := atoms_spec (ws := Jvm.Cond.code (xq_sg y).1 (xq_sg y).2.1 (xq_sg y).2.2.1 (xq_sg y).2.2.2.1 :: lw_gd) Bd.pre
  have hcls : s.vm.findClass own = some m.cls := by rw [← hown]; exact findClass_of_methodNamed Bd.named
  have hlocks := Bd.notSynchronized
  have hrt := Bd.returns
  have hb := Bd.bytes
  have m1 := xq_szs_le (show nx ≤ nx + (xq_sg y).2.2.2.2 by omega)
  have Cx : xq_Cx p (headSpec (Jvm.Cond.code (xq_sg y).1 (xq_sg y).2.1 (xq_sg y).2.2.1 (xq_sg y).2.2.2.1 :: lw_gd) (xq_rm lev nx (xq_sg y).2.2.2.2)).room s m vl.toArray meth c B D dA aI xs own false (xq_sg y).2.2.2.1 rows nx (nx + (xq_sg y).2.2.2.2) lev := by
    refine ⟨Bd.exec, hcls, fun w hw => hts0 w (List.mem_cons_of_mem _ hw), hK, hIm, by rw [hb]; exact hok, ⟨hB1, hB2⟩, ⟨?_, Nat.le_refl _, Nat.le_refl _, Nat.le_refl _⟩, (by nofun), hnx, hlev⟩
    show nx + (xq_sg y).2.2.2.2 - nx ≤ (xq_sg y).2.2.2.2
    omega
  have key := body _ (xq_sim (l := l) (e := e) (below := below) (Qf := MQ below (xq_Qc B D dA aI xs (nx + (xq_sg y).2.2.2.2) Q) vl.toArray s (nx + (xq_sg y).2.2.2.2 - nx) (xq_szs (nx + (xq_sg y).2.2.2.2) - xq_szs nx) (fun q => B ≤ q)) Cx hno
    (fun k v h H locs ls pc hd hk hi hR hS hv => by
      obtain ⟨ty, e1, e2, hq⟩ := xq_narrow hk hi hv
      exact W.zret Bd.exec rfl (hrt.trans e1) e2 (fun t ht hw => ⟨⟨some (xI v), h, rfl, fun w hw => by cases hw; exact hv, hq, by rw [ht]; exact hR⟩, hS.F ht⟩) hS.2.2 hd)
    (fun v h H locs ls pc hd hk hq hR hS hv => W.lret Bd.exec rfl (hrt.trans hk) (fun t ht hw => ⟨⟨some (xJ v), h, rfl, fun w hw => by cases hw; exact hv, hq, by rw [ht]; exact hR⟩, hS.F ht⟩) hS.2.2 hd)
    (fun o h H locs ls pc hd hk hq hR hS => by
      obtain ⟨rt0, e1, e2⟩ := hk
      exact W.aret Bd.exec rfl (hrt.trans e1) e2 (Or.inr ⟨_, rfl⟩) (fun t ht hw => ⟨⟨some (xR o), h, rfl, fun w hw => by cases hw; exact trivial, hq, by rw [ht]; exact hR⟩, hS.F ht⟩) hS.2.2 hd)
    (fun h H locs ls pc hd hk hq hR hS => W.vret Bd.exec rfl (hrt.trans hk) (fun t ht hw => ⟨⟨none, h, rfl, (by nofun), hq, by rw [ht]; exact hR⟩, hS.F ht⟩) hS.2.2 hd))
  rw [lg_entry_eq]
  have hlv := hlv hrv
  have k2 := key s.heap [] _ hRep va_S.rf (by rw [hml]; exact hlv) (by nofun) (Nat.le_refl _)
  rw [h0, Nat.sub_self, Nat.sub_self, show nx + (xq_sg y).2.2.2.2 - nx = (xq_sg y).2.2.2.2 by omega] at k2
  exact k2
theorem xq_e15 : xq_sg 15 = (⟨"jdk/internal/util/Preconditions", "checkIndex", "(IILjava/util/function/BiFunction;)I"⟩, prog_19_method_11_code, 3, (Option.some Jvm.ClassFile.FieldType.int), 0) := rfl
theorem c_JP_checkIndex {lev : Nat} {h : xq_H} {Q : Option xq_V → xq_H → Prop} {a b : Int} {v : Value} {l : Launch} {B : Nat} {D : va_G} {dA : Nat → ClassId} {aI : Nat → Nat} {xs : Int → Int} (hl : 1 ≤ lev) (hv : v.isRef = true) (hab : 0 ≤ a ∧ a < b) (hQ : Q (some (xI a)) h) : Met l (xq_sg 15).1 (Jvm.Cond.code (xq_sg 15).1 (xq_sg 15).2.1 (xq_sg 15).2.2.1 (xq_sg 15).2.2.2.1 :: lw_gd) (xq_rm lev 81 (xq_sg 15).2.2.2.2) (va_Pc [.int (Int32.ofInt a), .int (Int32.ofInt b), v] (xq_Pc B D dA aI xs [xI a, xI b] 81 h)) (xq_Qc B D dA aI xs (81 + (xq_sg 15).2.2.2.2) Q) (xq_sg 15).2.2.2.2 (xq_szs (81 + (xq_sg 15).2.2.2.2) - xq_szs 81) (fun q => B ≤ q) := by
  refine xq_enterV (y := 15) (rows := rw_JP_checkIndex) (own := "jdk/internal/util/Preconditions") (L0 := [some (xI a), some (xI b), none]) (by rw [xq_e15]; exact ok_JP_checkIndex) (by decide +kernel) rfl (by decide +kernel) rfl hl (by decide) (fun hr => ?_) (fun K hK => ?_)
  · have e : (lg_sl [.int (Int32.ofInt a), .int (Int32.ofInt b), v] ++ List.replicate ((xq_sg 15).2.2.1 - (lg_sl [.int (Int32.ofInt a), .int (Int32.ofInt b), v]).length) Slot.unset).toArray = #[.val (.int (Int32.ofInt a)), .val (.int (Int32.ofInt b)), .val v] := by
      cases v <;> first | rfl | exact absurd hv (by simp [Value.isRef])
    have hw := (lv_entry [.int (Int32.ofInt a), .int (Int32.ofInt b), v] (n := (xq_sg 15).2.2.1) (by cases v <;> first | exact Nat.le_of_ble_eq_true rfl | exact absurd hv (by simp [Value.isRef]))).2.1
    rw [e] at hw ⊢
    refine ⟨rfl, hw, rfl, fun i w hi => ?_⟩
    rcases i with _ | _ | _ | i
    · cases hi; exact ⟨rfl, hr _ (by simp)⟩
    · cases hi; exact ⟨rfl, hr _ (by simp)⟩
    · cases hi
    · cases hi
  · refine xq_go hK [] 60 ?_
    refine And.intro (fun c => absurd c (by omega)) (fun _ => ?_)
    refine And.intro (fun c => ?_) (fun c => ?_)
    all_goals first | exact hQ | exact absurd c (by omega)
theorem xq_blindV {B : Nat} {D : va_G} {dA : Nat → ClassId} {aI : Nat → Nat} {xs : Int → Int} {as : List xq_V} {vl : List Value} {nx : Nat} {h : xq_H} : FrameBlind (va_Pc vl (xq_Pc B D dA aI xs as nx h)) := by
  intro a U g mk hq
  obtain ⟨h1, h2, h3, h4, h5⟩ := hq
  exact ⟨h1, xq_Im_same (s := U) rfl rfl h2, va_K.moved (u := U) (U := U.calling g mk a) (Vm.Alike.refl U.vm) h3, h4, h5⟩
theorem xq_wlk : Jvm.Cond.fieldLink "java/lang/String" 1053 "jdk/internal/util/Preconditions" "SIOOBE_FORMATTER" "Ljava/util/function/BiFunction;" ∈ lw_gd ∧ Jvm.Cond.code (xq_sg y_JP_checkIndex).1 (xq_sg y_JP_checkIndex).2.1 (xq_sg y_JP_checkIndex).2.2.1 (xq_sg y_JP_checkIndex).2.2.2.1 ∈ lw_gd ∧ Jvm.Cond.initialized (xq_sg y_JP_checkIndex).1.cls ∈ lw_gd ∧ Jvm.Cond.methodLink "java/lang/String" 1059 (xq_sg y_JP_checkIndex).1 ∈ lw_gd ∧ Jvm.Cond.static (xq_sg y_JP_checkIndex).1 ∈ lw_gd := by
  refine ⟨by decide +kernel, by decide +kernel, by decide +kernel, by decide +kernel, by decide +kernel⟩
theorem xq_dJS : decode (xq_sg y_JS_checkIndex).2.1 0 = .ok (.iload_n 0, 1) ∧ decode (xq_sg y_JS_checkIndex).2.1 1 = .ok (.iload_n 1, 1) ∧ decode (xq_sg y_JS_checkIndex).2.1 2 = .ok (.getstatic 1053, 3) ∧ decode (xq_sg y_JS_checkIndex).2.1 5 = .ok (.invokestatic 1059, 3) ∧ decode (xq_sg y_JS_checkIndex).2.1 8 = .ok (.pop, 1) ∧ decode (xq_sg y_JS_checkIndex).2.1 9 = .ok (.return_, 1) := by
  refine ⟨by decide +kernel, by decide +kernel, by decide +kernel, by decide +kernel, by decide +kernel, by decide +kernel⟩
set_option maxHeartbeats 2000000 in
theorem c_JS_checkIndex {lev : Nat} {h : xq_H} {Q : Option xq_V → xq_H → Prop} {a b : Int} (hl : 2 ≤ lev) (hab : 0 ≤ a ∧ a < b) (hQ : Q none h) : xq_met lev y_JS_checkIndex [xI a, xI b] 81 h Q := by
  intro l B D dA aI xs
  refine xq_ofW (cc := (xq_sg y_JS_checkIndex).2.1) (maxL := (xq_sg y_JS_checkIndex).2.2.1) (ret := (xq_sg y_JS_checkIndex).2.2.2.1) (by decide +kernel) rfl ?_
  intro p e s m args below meth c s₁ Bd hml hv
  obtain ⟨rfl, hIm, hK, hRep, hrv, hB1, hB2⟩ := hv
  have hts0 := atoms_spec (ws := Jvm.Cond.code (xq_sg y_JS_checkIndex).1 (xq_sg y_JS_checkIndex).2.1 (xq_sg y_JS_checkIndex).2.2.1 (xq_sg y_JS_checkIndex).2.2.2.1 :: lw_gd) Bd.pre
  have hts := fun w (hw : w ∈ lw_gd) => hts0 w (List.mem_cons_of_mem _ hw)
  have hown : s.vm.findClass "java/lang/String" = some m.cls := findClass_of_methodNamed Bd.named
  have hlocks := Bd.notSynchronized
  have hrt := Bd.returns
  have hb := Bd.bytes
  have hx := Bd.exec
  obtain ⟨d0, d1, d2, d5, d8, d9⟩ := xq_dJS
  rw [← hb] at d0 d1 d2 d5 d8 d9
  obtain ⟨w1, w2, w3, w4, w5⟩ := xq_wlk
  have hlv := xq_lv_ent B aI [xI a, xI b] (xq_sg y_JS_checkIndex).2.2.1 (Nat.le_of_ble_eq_true rfl) hrv
  rw [lg_entry_eq]
  generalize (lg_sl (List.map (xq_cv B aI) [xI a, xI b]) ++ List.replicate ((xq_sg y_JS_checkIndex).2.2.1 - (lg_sl (List.map (xq_cv B aI) [xI a, xI b])).length) Slot.unset).toArray = ls at hlv ⊢
  have hl0 := (hlv.2.2.2 0 (xI a) rfl).1
  have hl1 := (hlv.2.2.2 1 (xI b) rfl).1
  have hz8 : xq_szs (81 + (xq_sg y_JS_checkIndex).2.2.2.2) - xq_szs 81 = 0 := Nat.sub_self _
  have hz15 : xq_szs (81 + (xq_sg y_JP_checkIndex).2.2.2.2) - xq_szs 81 = 0 := Nat.sub_self _
  rw [hz8]
  refine lv_iload_n hx rfl d0 rfl hl0 ?_
  refine lv_iload_n hx rfl d1 rfl hl1 ?_
  obtain ⟨v, hvr, hz⟩ := hIm.2.2.2.2.2.1
  refine va_gets hx rfl hz va_S.rf hown (hts _ w1) (fun _ z => z) d2 ?_
  intro T hT X
  have hcat : v.category = 1 := by cases v <;> first | rfl | exact absurd hvr (by simp [Value.isRef])
  have hgood : GoodIn lw_gd (Jvm.Cond.code (xq_sg y_JP_checkIndex).1 (xq_sg y_JP_checkIndex).2.1 (xq_sg y_JP_checkIndex).2.2.1 (xq_sg y_JP_checkIndex).2.2.2.1 :: lw_gd) := xq_goodIn (fun w hw => by
    rcases List.mem_cons.mp hw with rfl | hw
    · exact w2
    · exact hw)
  have hM := c_JP_checkIndex (lev := lev - 1) (h := h) (Q := fun w h' => w = some (xI a) ∧ h' = h) (l := l) (B := B) (D := D) (dA := dA) (aI := aI) (xs := xs) (by omega) hvr hab ⟨rfl, rfl⟩
  have hrun := va_runS (p := p) (l := l) (e := e) (R := (headSpec (Jvm.Cond.code (xq_sg y_JS_checkIndex).1 (xq_sg y_JS_checkIndex).2.1 (xq_sg y_JS_checkIndex).2.2.1 (xq_sg y_JS_checkIndex).2.2.2.1 :: lw_gd) (xq_rm lev 81 (xq_sg y_JS_checkIndex).2.2.2.2)).room) (s := s) (m := m) (args := (List.map (xq_cv B aI) [xI a, xI b]).toArray) (below := below) (meth := meth) (c := c) (H := s.heap) (locs := []) (cells := 0) (slots := 0) (g := F0 m 5 ls [v, .int (Int32.ofInt b), .int (Int32.ofInt a)]) (rest := []) (y := (xq_sg y_JP_checkIndex).1) (own := "java/lang/String") (index := 1059) (n := 3) (As := [.int (Int32.ofInt a), .int (Int32.ofInt b), v]) (Ts := lw_gd) (rm := xq_rm (lev - 1) 81 (xq_sg y_JP_checkIndex).2.2.2.2) (bytes := (xq_sg y_JP_checkIndex).2.1) (maxL := (xq_sg y_JP_checkIndex).2.2.1) (ret := (xq_sg y_JP_checkIndex).2.2.2.1) ⟨hx, rfl, rfl, hown, hts⟩ hM
    ⟨callB_of 3 hts hgood rfl rfl rfl (hts _ w3) (hts _ w4) ⟨by decide, by decide, by decide +kernel⟩ ⟨by show lev - 1 + 1 ≤ lev; omega, by show 8 + (3 + 11) + 64 * (lev - 1) ≤ 64 * lev; omega⟩, hts _ w5⟩ ⟨xq_blindV, fun U hU hW => ⟨rfl, xq_Im_go hIm hW hU va_S.rf, va_K.moved hW.alike hK, by rw [hU]; exact hRep, hrv, by rw [hU]; exact ⟨hB1, hB2⟩⟩⟩ rfl rfl (hlv.1.trans hml.symm) rfl (lv_room (by decide)) d5 ⟨Nat.zero_le _, by rw [hz15]; exact Nat.zero_le _⟩
  obtain ⟨v', st₀, t, T', L1, h0, X', hL, e1, e2, ⟨⟨w, h', hv', hrw, ⟨rfl, rfl⟩, hRep'⟩, hs', hk'⟩, st⟩ := hrun T hT X
  have hv2 : v' = some (.int (Int32.ofInt a)) := by injection hv'
  subst hv2
  rw [hz15] at X'
  rw [h0] at hs' hk'
  have hS' : va_S (fun q => B ≤ q) s.heap T'.heap ([] ++ L1) := ⟨by rw [e1]; exact hs', fun q h1 h2 => by rw [e1]; exact hk' q h1 h2, fun q hq => by
    rcases List.mem_append.mp hq with h | h
    · exact absurd h (by simp)
    · exact hL q h⟩
  have hW : W p l e (headSpec (Jvm.Cond.code (xq_sg y_JS_checkIndex).1 (xq_sg y_JS_checkIndex).2.1 (xq_sg y_JS_checkIndex).2.2.1 (xq_sg y_JS_checkIndex).2.2.2.1 :: lw_gd) (xq_rm lev 81 (xq_sg y_JS_checkIndex).2.2.2.2)).room s m (List.map (xq_cv B aI) [xI a, xI b]).toArray below meth c T'.heap ([] ++ L1) 0 0 (MQ below (xq_Qc B D dA aI xs (81 + (xq_sg y_JS_checkIndex).2.2.2.2) Q) (List.map (xq_cv B aI) [xI a, xI b]).toArray s 0 0 (fun q => B ≤ q)) (F0 m 8 ls [.int (Int32.ofInt a)]) := by
    refine lv_pop hx rfl d8 rfl ?_
    exact W.vret hx rfl hrt (fun t ht hw => ⟨⟨none, h', rfl, (by nofun), hQ, by rw [ht, e1]; exact hRep'⟩, hS'.F ht⟩) hS'.2.2 d9
  obtain ⟨t2, a1, b1⟩ := hW T' rfl X'
  exact ⟨t2, st t2 a1, b1⟩
