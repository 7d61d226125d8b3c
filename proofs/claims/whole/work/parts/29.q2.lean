/-! kinds, counts, the trace -/
def xf_un (kd k : Int) : Prop := k = 0 ∨ k = kd ∨ (0 < k ∧ k < 4 ∧ kd = k + 3)
theorem c_X_isUnder {lev : Nat} {h : xq_H} {Q : Option xq_V → xq_H → Prop} {kd k : Int} (hl : 1 ≤ lev) (hk : 0 ≤ kd ∧ kd ≤ 6) (ha : 0 ≤ k ∧ k ≤ 6) (h1 : xf_un kd k → Q (some (xI 1)) h) (h0 : ¬ xf_un kd k → Q (some (xI 0)) h) : xq_met lev y_X_isUnder [xI kd, xI k] 81 h Q := by
  refine en_X_isUnder (by omega) (fun K hK => ?_)
  unfold xf_un at h1 h0
  have loop : ∀ (r : Nat) (at0 nI : Int), (r = 0 ∧ at0 = -1 ∨ r = 1 ∧ at0 = 0 ∨ r = 2 ∧ 1 ≤ at0 ∧ at0 ≤ 3 ∨ r = 3 ∧ 4 ≤ at0 ∧ at0 ≤ 6) → 0 ≤ nI → nI + r ≤ 6 → (0 ≤ at0 ∧ (k = 0 ∨ k = at0 ∨ (0 < k ∧ k < 4 ∧ at0 = k + 3)) → Q (some (xI 1)) h) → (¬ (0 ≤ at0 ∧ (k = 0 ∨ k = at0 ∨ (0 < k ∧ k < 4 ∧ at0 = k + 3))) → Q (some (xI 0)) h) → K 4 [some (xI kd), some (xI k), some (xI at0), some (xI nI)] [] 81 h := by
    intro r
    induction r with
    | zero =>
      intro at0 nI hr hn0 hn q1 q0
      refine xq_go hK [4] 60 ?_
      refine And.intro (fun c => absurd c (by omega)) (fun _ => ?_)
      refine And.intro (fun c => ?_) (fun c => absurd c (by omega))
      exact And.intro (Or.inl rfl) (q0 (by omega))
    | succ r ih =>
      intro at0 nI hr hn0 hn q1 q0
      refine xq_go hK [4] 60 ?_
      refine And.intro (fun c => absurd c (by omega)) (fun _ => ?_)
      refine And.intro (fun c => absurd c (by omega)) (fun _ => ?_)
      refine And.intro (fun c => absurd c (by omega)) (fun _ => ?_)
      refine And.intro (fun c => ?_) (fun c => ?_)
      · refine And.intro (by show 0 ≤ at0 ∧ at0 < 7; omega) ?_
        refine And.intro (by omega) ?_
        rcases (show at0 = 0 ∨ at0 = 1 ∨ at0 = 2 ∨ at0 = 3 ∨ at0 = 4 ∨ at0 = 5 ∨ at0 = 6 by omega) with rfl | rfl | rfl | rfl | rfl | rfl | rfl
        · exact ih (-1) _ (by omega) (by omega) (by omega) (fun z => q1 (by omega)) (fun z => q0 (by omega))
        · exact ih 0 _ (by omega) (by omega) (by omega) (fun z => q1 (by omega)) (fun z => q0 (by omega))
        · exact ih 0 _ (by omega) (by omega) (by omega) (fun z => q1 (by omega)) (fun z => q0 (by omega))
        · exact ih 0 _ (by omega) (by omega) (by omega) (fun z => q1 (by omega)) (fun z => q0 (by omega))
        · exact ih 1 _ (by omega) (by omega) (by omega) (fun z => q1 (by omega)) (fun z => q0 (by omega))
        · exact ih 2 _ (by omega) (by omega) (by omega) (fun z => q1 (by omega)) (fun z => q0 (by omega))
        · exact ih 3 _ (by omega) (by omega) (by omega) (fun z => q1 (by omega)) (fun z => q0 (by omega))
      · exact And.intro (Or.inr rfl) (q1 (by omega))
  refine xq_go hK [4] 60 ?_
  refine loop (if kd = 0 then 1 else if kd ≤ 3 then 2 else 3) _ _ ?_ (by omega) ?_ (fun z => h1 (by omega)) (fun z => h0 (by omega))
  · split
    · omega
    · split <;> omega
  · split
    · omega
    · split <;> omega
theorem c_M_isUnder {lev : Nat} {h : xq_H} {Q : Option xq_V → xq_H → Prop} {kd k : Int} (hl : 1 ≤ lev) (hk : 0 ≤ kd ∧ kd ≤ 6) (ha : 0 ≤ k ∧ k ≤ 6) (h1 : xf_un kd k → Q (some (xI 1)) h) (h0 : ¬ xf_un kd k → Q (some (xI 0)) h) : xq_met lev y_M_isUnder [xI kd, xI k] 81 h Q := by
  refine en_M_isUnder (by omega) (fun K hK => ?_)
  unfold xf_un at h1 h0
  refine xq_go hK [] 60 ?_
  repeat' (first | (refine And.intro ?_ ?_) | (intro _))
  all_goals first | omega | exact h1 (by omega) | exact h0 (by omega)
noncomputable def sp_as (m : Int → Int) (i k : Int) : Int := xf_if ((0 ≤ i ∧ i < m 10) ∧ 0 ≤ k ∧ k ≤ 6) (xf_if (xf_un (m (34 + i)) k) (m (39 + i)) (-6)) (-1)
theorem q_X_as {lev : Nat} {h : xq_H} {Q : Option xq_V → xq_H → Prop} {m : Int → Int} {P : List xf_Cl} {i k : Int} {T : Int} (hl : 3 ≤ lev) (I : xr_ok h m P T) (hQ : ∀ h', xr_ck h h' → Q (some (xI (sp_as m i k))) h') : xq_met lev y_X_as [xR 0, xI i, xI k] 81 h Q := by
  refine en_X_as (by omega) (fun K hK => ?_)
  have V3 := I.vm.2.2.1
  have ecs := I.now.bs.cs
  have q := hQ h xs_rf
  unfold sp_as at q
  refine xq_go hK [] 60 ?_
  refine ⟨lev - 1, by omega, c_C_has (by omega) (fun c => ?_) (fun c => ?_)⟩
  · rw [ecs] at c
    refine And.intro (fun z => absurd z (by decide)) (fun _ => ?_)
    refine And.intro (fun c2 => ?_) (fun c2 => ?_)
    · rw [xf_if_f (fun z => by omega)] at q
      exact q
    refine And.intro (fun c3 => ?_) (fun c3 => ?_)
    · rw [xf_if_t ⟨c, by omega, by omega⟩] at q
      have w := I.vm.2.2.2.1 i c.1 c.2
      refine And.intro (by omega) ?_
      rw [I.now.bs.kd i c.1 c.2]
      refine ⟨lev - 1, by omega, c_X_isUnder (by omega) w.1 (by omega) (fun z => ?_) (fun z => ?_)⟩
      · rw [xf_if_t z] at q
        refine And.intro (fun z => absurd z (by decide)) (fun _ => ?_)
        refine And.intro (by omega) ?_
        rw [I.now.bs.vs i c.1 c.2]
        exact q
      · rw [xf_if_f z] at q
        refine And.intro (fun _ => ?_) (fun z => absurd rfl z)
        exact q
    · rw [xf_if_f (fun z => by omega)] at q
      exact q
  · rw [ecs] at c
    rw [xf_if_f (fun z => c z.1)] at q
    refine And.intro (fun _ => ?_) (fun z => absurd rfl z)
    exact q
theorem q_M_as {lev : Nat} {h : xq_H} {Q : Option xq_V → xq_H → Prop} {i k : Int} (hl : 3 ≤ lev) (hV : xf_VM (h 65)) (hQ : ∀ h', xr_rk h h' → Q (some (xI (sp_as (h 65) i k))) h') : xq_met lev y_M_as [xR 64, xI i, xI k] 81 h Q := by
  refine en_M_as (by omega) (fun K hK => ?_)
  have V3 := hV.2.2.1
  have q := hQ h xr_rk_rf
  unfold sp_as at q
  refine xq_go hK [] 60 ?_
  refine ⟨lev - 1, by omega, c_M_isMender (by omega) V3 (fun c => ?_) (fun c => ?_)⟩
  · refine And.intro (fun z => absurd z (by decide)) (fun _ => ?_)
    refine ⟨lev - 1, by omega, c_M_in (by omega) (fun c2 => ?_) (fun c2 => ?_)⟩
    · refine And.intro (fun _ => ?_) (fun z => absurd z (by decide))
      rw [xf_if_t ⟨c, c2⟩] at q
      have w := hV.2.2.2.1 i c.1 c.2
      refine And.intro (by omega) ?_
      refine And.intro (by omega) ?_
      refine ⟨lev - 1, by omega, c_M_isUnder (by omega) w.1 c2 (fun z => ?_) (fun z => ?_)⟩
      · rw [xf_if_t z] at q
        refine And.intro (fun z => absurd z (by decide)) (fun _ => ?_)
        refine And.intro (by omega) ?_
        refine And.intro (by omega) ?_
        exact q
      · rw [xf_if_f z] at q
        refine And.intro (fun _ => ?_) (fun z => absurd rfl z)
        exact q
    · rw [xf_if_f (fun z => c2 z.2)] at q
      refine And.intro (fun z => absurd rfl z) (fun _ => ?_)
      exact q
  · rw [xf_if_f (fun z => c z.1)] at q
    refine And.intro (fun _ => ?_) (fun z => absurd rfl z)
    exact q
/-- the counts; r: how many bodies ran -/
noncomputable def sp_count (m : Int → Int) (r wh : Int) : Int := if wh = 6 then r else if 0 ≤ wh ∧ wh ≤ 5 then m (10 + wh) else -1
theorem q_X_count {lev : Nat} {h : xq_H} {Q : Option xq_V → xq_H → Prop} {m : Int → Int} {P : List xf_Cl} {wh : Int} {T : Int} (hl : 3 ≤ lev) (I : xr_ok h m P T) (hQ : ∀ h', xr_ck h h' → Q (some (xI (sp_count m (h 60 1) wh))) h') : xq_met lev y_X_count [xR 0, xI wh] 81 h Q := by
  refine en_X_count (by omega) (fun K hK => ?_)
  have q := hQ h xs_rf
  unfold sp_count at q
  refine xq_go hK [] 60 ?_
  refine And.intro (fun e => ?_) (fun e => And.intro (fun e2 => ?_) (fun e2 => And.intro (fun e3 => ?_) (fun e3 => And.intro (fun e4 => ?_) (fun e4 => And.intro (fun e5 => ?_) (fun e5 => And.intro (fun e6 => ?_) (fun e6 => And.intro (fun e7 => ?_) (fun e7 => ?_)))))))
  · rw [if_neg (by omega), if_pos (by omega), e, show m (10 + 0) = m 10 from rfl, ← I.now.bs.cs] at q
    exact q
  · rw [if_neg (by omega), if_pos (by omega), e2, show m (10 + 1) = m 11 from rfl, ← I.now.bs.ls] at q
    exact q
  · rw [if_neg (by omega), if_pos (by omega), e3, show m (10 + 2) = m 12 from rfl, ← I.now.pn] at q
    exact q
  · rw [if_neg (by omega), if_pos (by omega), e4, show m (10 + 3) = m 13 from rfl, ← I.now.ts] at q
    exact q
  · rw [if_neg (by omega), if_pos (by omega), e5, show m (10 + 4) = m 14 from rfl, ← I.now.bk] at q
    exact q
  · rw [if_neg (by omega), if_pos (by omega), e6, show m (10 + 5) = m 15 from rfl, ← I.now.ta] at q
    exact q
  · rw [if_pos e7] at q
    exact q
  · rw [if_neg e7, if_neg (by omega)] at q
    exact q
theorem q_M_count {lev : Nat} {h : xq_H} {Q : Option xq_V → xq_H → Prop} {wh : Int} (hl : 3 ≤ lev) (hQ : ∀ h', xr_rk h h' → Q (some (xI (sp_count (h 65) (h 64 27) wh))) h') : xq_met lev y_M_count [xR 64, xI wh] 81 h Q := by
  refine en_M_count (by omega) (fun K hK => ?_)
  have q := hQ h xr_rk_rf
  unfold sp_count at q
  refine xq_go hK [] 60 ?_
  refine And.intro (fun e => ?_) (fun e => ?_)
  · refine ⟨lev - 1, by omega, c_M_in (by omega) (fun c2 => ?_) (fun c2 => ?_)⟩
    · refine And.intro (fun z => absurd z (by decide)) (fun _ => ?_)
      refine And.intro (by omega) ?_
      refine And.intro (by omega) ?_
      rw [if_neg e, if_pos c2] at q
      exact q
    · refine And.intro (fun _ => ?_) (fun z => absurd rfl z)
      rw [if_neg e, if_neg c2] at q
      exact q
  · rw [if_pos e] at q
    exact q
/-- the trace: r bodies ran, f their row -/
noncomputable def sp_trace (r : Int) (f : Int → Int) (i : Int) : Int := if 0 ≤ i ∧ i < min r 20 then f i else -1
theorem q_X_trace {lev : Nat} {h : xq_H} {Q : Option xq_V → xq_H → Prop} {i : Int} (hl : 3 ≤ lev) (hQ : ∀ h', xr_ck h h' → Q (some (xI (sp_trace (h 60 1) (h 61) i))) h') : xq_met lev y_X_trace [xR 0, xI i] 81 h Q := by
  refine en_X_trace (by omega) (fun K hK => ?_)
  have q := hQ h xs_rf
  unfold sp_trace at q
  refine xq_go hK [] 60 ?_
  refine ⟨lev - 1, by omega, c_JM_min (by omega) ?_⟩
  refine ⟨lev - 1, by omega, c_X_isAt (by omega) (fun c2 => ?_) (fun c2 => ?_)⟩
  · refine And.intro (fun z => absurd z (by decide)) (fun _ => ?_)
    refine And.intro (by omega) ?_
    rw [if_pos c2] at q
    exact q
  · refine And.intro (fun _ => ?_) (fun z => absurd rfl z)
    rw [if_neg c2] at q
    exact q
theorem q_M_trace {lev : Nat} {h : xq_H} {Q : Option xq_V → xq_H → Prop} {i : Int} (hl : 3 ≤ lev) (hr : 0 ≤ h 64 27 ∧ h 64 27 ≤ 1000) (hQ : ∀ h', xr_rk h h' → Q (some (xI (sp_trace (h 64 27) (h 79) i))) h') : xq_met lev y_M_trace [xR 64, xI i] 81 h Q := by
  refine en_M_trace (by omega) (fun K hK => ?_)
  have q := hQ h xr_rk_rf
  unfold sp_trace at q
  have tail : ∀ r : Int, r = min (h 64 27) 20 → K 10 [some (xR 64), some (xI i)] [xI r, xI 0, xI i] 81 h := by
    intro r er
    refine xq_go hK [] 60 ?_
    refine And.intro (by omega) ?_
    refine ⟨lev - 1, by omega, c_M_in (by omega) (fun c2 => ?_) (fun c2 => ?_)⟩
    · refine And.intro (fun z => absurd z (by decide)) (fun _ => ?_)
      refine And.intro (by omega) ?_
      rw [if_pos (by omega)] at q
      exact q
    · refine And.intro (fun _ => ?_) (fun z => absurd rfl z)
      rw [if_neg (by omega)] at q
      exact q
  refine xq_go hK [10] 60 ?_
  refine And.intro (fun c => tail _ (by omega)) (fun c => tail _ (by omega))
