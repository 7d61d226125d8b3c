/-! String.checkIndex: what it hands on may be null; so it has a walk of its own -/
set_option maxHeartbeats 1000000 in
/-- a contract by an abstract run, of a method whose values are not all numbers of ours -/
theorem xq_enterV {lev y : Nat} {as : List xq_V} {vl : List Value} {nx : Nat} {h : xq_H} {Q : Option xq_V → xq_H → Prop} {rows : List (List xq_Row)} {own : String} {L0 : xq_L} (hok : xq_okM (xq_sg y).2.1 own false (xq_sg y).2.2.2.1 rows = true) (hno : xq_no3 rows = true) (hown : (xq_sg y).1.cls = own) (hpl : plainFor (xq_sg y).1 = true) (h0 : xq_rp rows 0 = 0) (hlev : 1 ≤ lev) (hnx : nx + (xq_sg y).2.2.2.2 ≤ 81) {l : Launch} {B : Nat} {D : va_G} {dA : Nat → ClassId} {aI : Nat → Nat} {xs : Int → Int}
    (hlv : (∀ v ∈ as, xq_rv v) → xq_lv B aI ((lg_sl vl ++ List.replicate ((xq_sg y).2.2.1 - (lg_sl vl).length) Slot.unset).toArray) (xq_sg y).2.2.1 L0)
    (body : ∀ K : xq_KT, xq_sound (xq_C lev) rows (nx + (xq_sg y).2.2.2.2) Q K → K 0 L0 [] nx h) : Met l (xq_sg y).1 (Jvm.Cond.code (xq_sg y).1 (xq_sg y).2.1 (xq_sg y).2.2.1 (xq_sg y).2.2.2.1 :: lw_gd) (xq_rm lev nx (xq_sg y).2.2.2.2) (va_Pc vl (xq_Pc B D dA aI xs as nx h)) (xq_Qc B D dA aI xs (nx + (xq_sg y).2.2.2.2) Q) (xq_sg y).2.2.2.2 (xq_szs (nx + (xq_sg y).2.2.2.2) - xq_szs nx) (fun q => B ≤ q) := by
  refine xq_ofW (cc := (xq_sg y).2.1) (maxL := (xq_sg y).2.2.1) (ret := (xq_sg y).2.2.2.1) hpl rfl ?_
  intro p e s m args below meth c s₁ Bd hml hv
  obtain ⟨rfl, hIm, hK, hRep, hrv, hB1, hB2⟩ := hv
  have hts0 := atoms_spec (ws := Jvm.Cond.code (xq_sg y).1 (xq_sg y).2.1 (xq_sg y).2.2.1 (xq_sg y).2.2.2.1 :: lw_gd) Bd.pre
  have hcls : s.vm.findClass own = some m.cls := by rw [← hown]; exact findClass_of_methodNamed Bd.named
  have hlocks := Bd.notSynchronized
  have hrt := Bd.returns
  have hb := Bd.bytes
  have m1 := xq_szs_le (show nx ≤ nx + (xq_sg y).2.2.2.2 by omega)
  have Cx : xq_Cx p (headSpec (Jvm.Cond.code (xq_sg y).1 (xq_sg y).2.1 (xq_sg y).2.2.1 (xq_sg y).2.2.2.1 :: lw_gd) (xq_rm lev nx (xq_sg y).2.2.2.2)).room s m vl.toArray meth c B D dA aI xs own false (xq_sg y).2.2.2.1 rows nx (nx + (xq_sg y).2.2.2.2) lev := by
    refine ⟨Bd.exec, hcls, fun w hw => hts0 w (List.mem_cons_of_mem _ hw), hK, hIm, by rw [hb]; exact hok, ⟨hB1, hB2⟩, ⟨?_, Nat.le_refl _, Nat.le_refl _, Nat.le_refl _⟩, (by nofun), hnx, hlev⟩
    show nx + (xq_sg y).2.2.2.2 - nx ≤ (xq_sg y).2.2.2.2
    omega
  have key := body _ (xq_sim (l := l) (e := e) (below := below) (Qf := MQ below (xq_Qc B D dA aI xs (nx + (xq_sg y).2.2.2.2) Q) vl.toArray s (nx + (xq_sg y).2.2.2.2 - nx) (xq_szs (nx + (xq_sg y).2.2.2.2) - xq_szs nx) (fun q => B ≤ q)) Cx hno
    (fun k v h H locs ls pc hd hk hi hR hS hv => by
      obtain ⟨ty, e1, e2, hq⟩ := xq_narrow hk hi hv
      exact W.zret Bd.exec rfl (hrt.trans e1) e2 (fun t ht hw => ⟨⟨some (xI v), h, rfl, fun w hw => by cases hw; exact hv, hq, by rw [ht]; exact hR⟩, hS.F ht⟩) hS.2.2 hd)
    (fun v h H locs ls pc hd hk hq hR hS hv => W.lret Bd.exec rfl (hrt.trans hk) (fun t ht hw => ⟨⟨some (xJ v), h, rfl, fun w hw => by cases hw; exact hv, hq, by rw [ht]; exact hR⟩, hS.F ht⟩) hS.2.2 hd)
    (fun o h H locs ls pc hd hk hq hR hS => by
      obtain ⟨rt0, e1, e2⟩ := hk
      exact W.aret Bd.exec rfl (hrt.trans e1) e2 (Or.inr ⟨_, rfl⟩) (fun t ht hw => ⟨⟨some (xR o), h, rfl, fun w hw => by cases hw; exact trivial, hq, by rw [ht]; exact hR⟩, hS.F ht⟩) hS.2.2 hd)
    (fun h H locs ls pc hd hk hq hR hS => W.vret Bd.exec rfl (hrt.trans hk) (fun t ht hw => ⟨⟨none, h, rfl, (by nofun), hq, by rw [ht]; exact hR⟩, hS.F ht⟩) hS.2.2 hd))
  rw [lg_entry_eq]
  have hlv := hlv hrv
  have k2 := key s.heap [] _ hRep va_S.rf (by rw [hml]; exact hlv) (by nofun) (Nat.le_refl _)
  rw [h0, Nat.sub_self, Nat.sub_self, show nx + (xq_sg y).2.2.2.2 - nx = (xq_sg y).2.2.2.2 by omega] at k2
  exact k2
theorem c_JP_checkIndex {lev : Nat} {h : xq_H} {Q : Option xq_V → xq_H → Prop} {a b : Int} {v : Value} {l : Launch} {B : Nat} {D : va_G} {dA : Nat → ClassId} {aI : Nat → Nat} {xs : Int → Int} (hl : 1 ≤ lev) (hv : v.isRef = true) (hab : 0 ≤ a ∧ a < b) (hQ : Q (some (xI a)) h) : Met l (xq_sg 15).1 (Jvm.Cond.code (xq_sg 15).1 (xq_sg 15).2.1 (xq_sg 15).2.2.1 (xq_sg 15).2.2.2.1 :: lw_gd) (xq_rm lev 81 (xq_sg 15).2.2.2.2) (va_Pc [.int (Int32.ofInt a), .int (Int32.ofInt b), v] (xq_Pc B D dA aI xs [xI a, xI b] 81 h)) (xq_Qc B D dA aI xs (81 + (xq_sg 15).2.2.2.2) Q) (xq_sg 15).2.2.2.2 (xq_szs (81 + (xq_sg 15).2.2.2.2) - xq_szs 81) (fun q => B ≤ q) := by
  refine xq_enterV (rows := rw_JP_checkIndex) (own := "jdk/internal/util/Preconditions") (L0 := [some (xI a), some (xI b), none]) ok_JP_checkIndex (by decide +kernel) rfl (by decide +kernel) rfl hl (by decide) (fun hr => ?_) (fun K hK => ?_)
  · have e : (lg_sl [.int (Int32.ofInt a), .int (Int32.ofInt b), v] ++ List.replicate ((xq_sg 15).2.2.1 - (lg_sl [.int (Int32.ofInt a), .int (Int32.ofInt b), v]).length) Slot.unset).toArray = #[.val (.int (Int32.ofInt a)), .val (.int (Int32.ofInt b)), .val v] := by
      cases v <;> first | rfl | exact absurd hv (by simp [Value.isRef])
    have hw := (lv_entry [.int (Int32.ofInt a), .int (Int32.ofInt b), v] (n := (xq_sg 15).2.2.1) (by cases v <;> first | exact Nat.le_of_ble_eq_true rfl | exact absurd hv (by simp [Value.isRef]))).2.1
    rw [e] at hw ⊢
    refine ⟨rfl, hw, rfl, fun i w hi => ?_⟩
    rcases i with _ | _ | _ | i
    · cases hi; exact ⟨rfl, hr _ (by simp)⟩
    · cases hi; exact ⟨rfl, hr _ (by simp)⟩
    · cases hi
    · cases hi
  · refine xq_go hK [] 60 ?_
    refine And.intro (fun c => absurd c (by omega)) (fun _ => ?_)
    refine And.intro (fun c => ?_) (fun c => ?_)
    all_goals first | exact hQ | exact absurd c (by omega)
