/-! CALLS THAT ASK, without a maker -/
noncomputable def sp_listed (m : Int → Int) (i what : Int) : Int := xf_if (0 ≤ i ∧ i < m 11) (if what = 0 then m (18 + i) else if what = 1 then m (2 + i) else if what = 2 then m (26 + i) else -1) (-1)
theorem q_X_listed {lev : Nat} {h : xq_H} {Q : Option xq_V → xq_H → Prop} {m : Int → Int} {P : List xf_Cl} {i wh : Int} {T : Int} (hl : 3 ≤ lev) (I : xr_ok h m P T) (hQ : ∀ h', xr_ck h h' → Q (some (xI (sp_listed m i wh))) h') : xq_met lev y_X_listed [xR 0, xI i, xI wh] 81 h Q := by
  refine en_X_listed (by omega) (fun K hK => ?_)
  have V1 := I.vm.1
  have els := I.now.bs.ls
  have q := hQ h xs_rf
  unfold sp_listed at q
  refine xq_go hK [] 60 ?_
  refine ⟨lev - 1, by omega, c_W_has (by omega) (fun c => ?_) (fun c => ?_)⟩
  · rw [els] at c
    rw [xf_if_t c] at q
    refine And.intro (fun _ => ?_) (fun z => absurd z (by decide))
    refine And.intro (fun e => ?_) (fun e => And.intro (fun e2 => ?_) (fun e2 => And.intro (fun e3 => ?_) (fun e3 => ?_)))
    · refine And.intro (by omega) ?_
      rw [I.now.bs.wd i c.1 c.2]
      rw [if_pos e] at q
      exact q
    · refine And.intro (by omega) ?_
      rw [I.now.wt i c.1 c.2]
      rw [if_neg e, if_pos e2] at q
      exact q
    · refine And.intro (by omega) ?_
      rw [I.now.bs.nx i c.1 c.2]
      rw [if_neg e, if_neg e2, if_pos e3] at q
      exact q
    · rw [if_neg e, if_neg e2, if_neg e3] at q
      exact q
  · rw [els] at c
    rw [xf_if_f c] at q
    refine And.intro (fun z => absurd rfl z) (fun _ => ?_)
    exact q
theorem q_M_listed {lev : Nat} {h : xq_H} {Q : Option xq_V → xq_H → Prop} {i wh : Int} (hl : 3 ≤ lev) (hV : xf_VM (h 65)) (hQ : ∀ h', xr_rk h h' → Q (some (xI (sp_listed (h 65) i wh))) h') : xq_met lev y_M_listed [xR 64, xI i, xI wh] 81 h Q := by
  refine en_M_listed (by omega) (fun K hK => ?_)
  have V1 := hV.1
  have q := hQ h xr_rk_rf
  unfold sp_listed at q
  refine xq_go hK [] 60 ?_
  refine ⟨lev - 1, by omega, c_M_isListed (by omega) V1 (fun c => ?_) (fun c => ?_)⟩
  · rw [xf_if_t c] at q
    refine And.intro (fun _ => ?_) (fun z => absurd z (by decide))
    refine And.intro (fun e => ?_) (fun e => ?_)
    · refine And.intro (fun e2 => ?_) (fun e2 => ?_)
      · refine And.intro (fun e3 => ?_) (fun e3 => ?_)
        · rw [if_neg e, if_neg e2, if_neg e3] at q
          exact q
        · refine And.intro (by omega) ?_
          refine And.intro (by omega) ?_
          rw [if_neg e, if_neg e2, if_pos e3] at q
          exact q
      · refine And.intro (by omega) ?_
        refine And.intro (by omega) ?_
        rw [if_neg e, if_pos e2] at q
        exact q
    · refine And.intro (by omega) ?_
      refine And.intro (by omega) ?_
      rw [if_pos e] at q
      exact q
  · rw [xf_if_f c] at q
    refine And.intro (fun z => absurd rfl z) (fun _ => ?_)
    exact q
noncomputable def sp_of (m : Int → Int) (i what : Int) : Int := xf_if (0 ≤ i ∧ i < m 10) (if what = 0 then m (34 + i) else if what = 1 then m (39 + i) else -1) (-1)
theorem q_X_of {lev : Nat} {h : xq_H} {Q : Option xq_V → xq_H → Prop} {m : Int → Int} {P : List xf_Cl} {i wh : Int} {T : Int} (hl : 3 ≤ lev) (I : xr_ok h m P T) (hQ : ∀ h', xr_ck h h' → Q (some (xI (sp_of m i wh))) h') : xq_met lev y_X_of [xR 0, xI i, xI wh] 81 h Q := by
  refine en_X_of (by omega) (fun K hK => ?_)
  have V3 := I.vm.2.2.1
  have ecs := I.now.bs.cs
  have q := hQ h xs_rf
  unfold sp_of at q
  refine xq_go hK [] 60 ?_
  refine ⟨lev - 1, by omega, c_C_has (by omega) (fun c => ?_) (fun c => ?_)⟩
  · rw [ecs] at c
    rw [xf_if_t c] at q
    refine And.intro (fun _ => ?_) (fun z => absurd z (by decide))
    refine And.intro (fun e => ?_) (fun e => And.intro (fun e2 => ?_) (fun e2 => ?_))
    · refine And.intro (by omega) ?_
      rw [I.now.bs.kd i c.1 c.2]
      rw [if_pos e] at q
      exact q
    · refine And.intro (by omega) ?_
      rw [I.now.bs.vs i c.1 c.2]
      rw [if_neg e, if_pos e2] at q
      exact q
    · rw [if_neg e, if_neg e2] at q
      exact q
  · rw [ecs] at c
    rw [xf_if_f c] at q
    refine And.intro (fun z => absurd rfl z) (fun _ => ?_)
    exact q
theorem q_M_of {lev : Nat} {h : xq_H} {Q : Option xq_V → xq_H → Prop} {i wh : Int} (hl : 3 ≤ lev) (hV : xf_VM (h 65)) (hQ : ∀ h', xr_rk h h' → Q (some (xI (sp_of (h 65) i wh))) h') : xq_met lev y_M_of [xR 64, xI i, xI wh] 81 h Q := by
  refine en_M_of (by omega) (fun K hK => ?_)
  have V3 := hV.2.2.1
  have q := hQ h xr_rk_rf
  unfold sp_of at q
  refine xq_go hK [] 60 ?_
  refine ⟨lev - 1, by omega, c_M_isMender (by omega) V3 (fun c => ?_) (fun c => ?_)⟩
  · rw [xf_if_t c] at q
    refine And.intro (fun _ => ?_) (fun z => absurd z (by decide))
    refine And.intro (fun e => ?_) (fun e => ?_)
    · refine And.intro (fun e2 => ?_) (fun e2 => ?_)
      · rw [if_neg e, if_neg e2] at q
        exact q
      · refine And.intro (by omega) ?_
        refine And.intro (by omega) ?_
        rw [if_neg e, if_pos e2] at q
        exact q
    · refine And.intro (by omega) ?_
      refine And.intro (by omega) ?_
      rw [if_pos e] at q
      exact q
  · rw [xf_if_f c] at q
    refine And.intro (fun z => absurd rfl z) (fun _ => ?_)
    exact q
/-! told -/
noncomputable def sp_told (m : Int → Int) (wh : Int) : Int :=
  if wh = 0 then m 1 else if wh = 1 then xf_lim m else if wh = 2 then xf_stp m else if wh = 3 then m 16 else
  if 0 ≤ wh - 10 ∧ wh - 10 < m 13 then m (64 + (wh - 10)) else if 0 ≤ wh - 40 ∧ wh - 40 < m 13 then m (84 + (wh - 40)) else if 0 ≤ wh - 70 ∧ wh - 70 < m 16 then m (104 + (wh - 70)) else -1
theorem xf_wr_at {x k n : Int} (hx : -2147483648 ≤ x ∧ x ≤ 2147483647) (hk : 0 ≤ k ∧ k ≤ 100) (hn : 0 ≤ n ∧ n ≤ 100) : (0 ≤ xq_wr (x - k) ∧ xq_wr (x - k) < n ↔ 0 ≤ x - k ∧ x - k < n) ∧ (0 ≤ x - k → xq_wr (x - k) = x - k) := by
  unfold xq_wr
  constructor
  · constructor
    · intro h
      omega
    · intro h
      omega
  · intro h
    omega
theorem q_X_told {lev : Nat} {h : xq_H} {Q : Option xq_V → xq_H → Prop} {m : Int → Int} {P : List xf_Cl} {wh : Int} {T : Int} (hl : 3 ≤ lev) (I : xr_ok h m P T) (hwh : -2147483648 ≤ wh ∧ wh ≤ 2147483647) (hQ : ∀ h', xr_ck h h' → Q (some (xI (sp_told m wh))) h') : xq_met lev y_X_told [xR 0, xI wh] 81 h Q := by
  refine en_X_told (by omega) (fun K hK => ?_)
  have V5 := I.vm.2.2.2.2.1
  have n1 := I.vn.st
  have ets := I.now.ts
  have ety := I.now.ty
  have eli := I.now.bs.li
  have est := I.now.bs.st
  have ell := I.now.bs.ll
  have q := hQ h xs_rf
  unfold sp_told at q
  have a1 := xf_wr_at (k := 10) hwh (by omega) (n := m 13) (by omega)
  have a2 := xf_wr_at (k := 40) hwh (by omega) (n := m 13) (by omega)
  have a3 := xf_wr_at (k := 70) hwh (by omega) (n := m 16) (by omega)
  refine xq_go hK [] 60 ?_
  refine And.intro (fun e => ?_) (fun e => And.intro (fun e2 => ?_) (fun e2 => And.intro (fun e3 => ?_) (fun e3 => And.intro (fun e4 => ?_) (fun e4 => ?_))))
  · rw [if_pos e, ← ety] at q
    exact q
  · rw [if_neg e, if_pos e2, ← eli] at q
    exact q
  · rw [if_neg e, if_neg e2, if_pos e3, ← est] at q
    exact q
  · rw [if_neg e, if_neg e2, if_neg e3, if_pos e4, ← ell] at q
    exact q
  rw [if_neg e, if_neg e2, if_neg e3, if_neg e4] at q
  refine ⟨lev - 1, by omega, c_X_isAt (by omega) (fun c => ?_) (fun c => ?_)⟩
  · rw [ets] at c
    have c2 := a1.1.1 c
    refine And.intro (fun z => absurd z (by decide)) (fun _ => ?_)
    refine And.intro (by omega) ?_
    rw [a1.2 c2.1, I.now.sd _ c2.1 c2.2]
    rw [if_pos c2] at q
    exact q
  rw [ets] at c
  rw [if_neg (fun z => c (a1.1.2 z))] at q
  refine And.intro (fun _ => ?_) (fun z => absurd rfl z)
  refine ⟨lev - 1, by omega, c_X_isAt (by omega) (fun c => ?_) (fun c => ?_)⟩
  · rw [ets] at c
    have c2 := a2.1.1 c
    refine And.intro (fun z => absurd z (by decide)) (fun _ => ?_)
    refine And.intro (by omega) ?_
    rw [a2.2 c2.1, I.now.fi _ c2.1 c2.2]
    rw [if_pos c2] at q
    exact q
  rw [ets] at c
  rw [if_neg (fun z => c (a2.1.2 z))] at q
  refine And.intro (fun _ => ?_) (fun z => absurd rfl z)
  refine ⟨lev - 1, by omega, c_X_isAt (by omega) (fun c => ?_) (fun c => ?_)⟩
  · rw [ell] at c
    have c2 := a3.1.1 c
    refine And.intro (fun z => absurd z (by decide)) (fun _ => ?_)
    refine And.intro (by omega) ?_
    rw [a3.2 c2.1, I.now.bs.lf _ c2.1 c2.2]
    rw [if_pos c2] at q
    exact q
  rw [ell] at c
  rw [if_neg (fun z => c (a3.1.2 z))] at q
  refine And.intro (fun _ => ?_) (fun z => absurd rfl z)
  exact q
theorem xf_wr_at2 {x k n : Int} (hx : -2147483648 ≤ x ∧ x ≤ 2147483647) (hk : 0 ≤ k ∧ k ≤ 100) (hn : 0 ≤ n ∧ n ≤ 100) : (0 ≤ xq_wr (x - k) ∧ xq_wr (x - k) ≤ xq_wr (n - 1) ↔ 0 ≤ x - k ∧ x - k < n) := by
  unfold xq_wr
  constructor <;> intro h <;> omega
set_option maxHeartbeats 1000000 in
theorem q_M_told {lev : Nat} {h : xq_H} {Q : Option xq_V → xq_H → Prop} {wh : Int} (hl : 3 ≤ lev) (hV : xf_VM (h 65)) (hN : xf_VN (h 65)) (hwh : -2147483648 ≤ wh ∧ wh ≤ 2147483647) (hQ : ∀ h', xr_rk h h' → Q (some (xI (sp_told (h 65) wh))) h') : xq_met lev y_M_told [xR 64, xI wh] 81 h Q := by
  refine en_M_told (by omega) (fun K hK => ?_)
  have V5 := hV.2.2.2.2.1
  have V7 := hV.2.2.2.2.2.2.1
  have n1 := hN.st
  have q := hQ h xr_rk_rf
  unfold sp_told at q
  have a1 := xf_wr_at2 (k := 10) hwh (by omega) (n := h 65 13) (by omega)
  have a2 := xf_wr_at2 (k := 40) hwh (by omega) (n := h 65 13) (by omega)
  have a3 := xf_wr_at2 (k := 70) hwh (by omega) (n := h 65 16) (by omega)
  refine xq_go hK [] 60 ?_
  refine And.intro (by omega) ?_
  refine ⟨lev - 1, by omega, c_M_in (by omega) (fun c => ?_) (fun c => ?_)⟩
  · have c2 := a1.1 c
    refine And.intro (fun z => absurd z (by decide)) (fun _ => ?_)
    refine And.intro (by omega) ?_
    have e : xq_wr (64 + wh - 10) = 64 + (wh - 10) := by unfold xq_wr; omega
    rw [if_neg (by omega), if_neg (by omega), if_neg (by omega), if_neg (by omega), if_pos c2, ← e] at q
    refine And.intro (by omega) ?_
    exact q
  refine And.intro (fun _ => ?_) (fun z => absurd rfl z)
  refine And.intro (by omega) ?_
  refine ⟨lev - 1, by omega, c_M_in (by omega) (fun c2 => ?_) (fun c2 => ?_)⟩
  · have c3 := a2.1 c2
    refine And.intro (fun z => absurd z (by decide)) (fun _ => ?_)
    refine And.intro (by omega) ?_
    have e : xq_wr (84 + wh - 40) = 84 + (wh - 40) := by unfold xq_wr; omega
    rw [if_neg (by omega), if_neg (by omega), if_neg (by omega), if_neg (by omega), if_neg (fun z => c (a1.2 z)), if_pos c3, ← e] at q
    refine And.intro (by omega) ?_
    exact q
  refine And.intro (fun _ => ?_) (fun z => absurd rfl z)
  refine And.intro (by omega) ?_
  refine ⟨lev - 1, by omega, c_M_in (by omega) (fun c3 => ?_) (fun c3 => ?_)⟩
  · have c4 := a3.1 c3
    refine And.intro (fun z => absurd z (by decide)) (fun _ => ?_)
    refine And.intro (by omega) ?_
    have e : xq_wr (104 + wh - 70) = 104 + (wh - 70) := by unfold xq_wr; omega
    rw [if_neg (by omega), if_neg (by omega), if_neg (by omega), if_neg (by omega), if_neg (fun z => c (a1.2 z)), if_neg (fun z => c2 (a2.2 z)), if_pos c4, ← e] at q
    refine And.intro (by omega) ?_
    exact q
  refine And.intro (fun _ => ?_) (fun z => absurd rfl z)
  refine And.intro (fun e => ?_) (fun e => And.intro (fun e2 => ?_) (fun e2 => And.intro (fun e3 => ?_) (fun e3 => And.intro (fun e4 => ?_) (fun e4 => ?_))))
  · refine And.intro (by omega) ?_
    rw [if_pos e] at q
    exact q
  · rw [if_neg e, if_pos e2] at q
    unfold xf_lim at q
    refine ⟨lev - 1, by omega, c_M_tellsOf (by omega) (by omega) V7 (fun z => ?_) (fun z => ?_)⟩
    · rw [if_pos z] at q
      exact q
    · rw [if_neg (by omega)] at q
      exact q
  · rw [if_neg e, if_neg e2, if_pos e3] at q
    unfold xf_stp at q
    refine ⟨lev - 1, by omega, c_M_tellsOf (by omega) (by omega) V7 (fun z => ?_) (fun z => ?_)⟩
    · rw [if_pos z] at q
      exact q
    · rw [if_neg (by omega)] at q
      exact q
  · refine And.intro (by omega) ?_
    rw [if_neg e, if_neg e2, if_neg e3, if_pos e4] at q
    exact q
  · rw [if_neg e, if_neg e2, if_neg e3, if_neg e4, if_neg (fun z => c (a1.2 z)), if_neg (fun z => c2 (a2.2 z)), if_neg (fun z => c3 (a3.2 z))] at q
    exact q
