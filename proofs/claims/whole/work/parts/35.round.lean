/-! WHERE IT GOES ROUND -/
noncomputable def xf_pth (m : Int → Int) (P : List xf_Cl) (md w : Int) : Nat → Int
  | 0 => w
  | n + 1 => xf_made m P md (xf_pth m P md w n)
theorem xf_pth_wd {m : Int → Int} {P : List xf_Cl} {md w : Int} (hV : xf_VM m) (hw : xf_wd w) : ∀ n, xf_wd (xf_pth m P md w n)
  | 0 => hw
  | n + 1 => xf_made_wd hV (xf_pth_wd hV hw n)
/-- the first place ahead of n with the same word, or -1 -/
noncomputable def xf_rk (m : Int → Int) (P : List xf_Cl) (md w : Int) (n : Nat) : Int := xf_ix (fun k => xf_pth m P md w k.toNat) (xf_pth m P md w n) n
noncomputable def xf_rd (m : Int → Int) (P : List xf_Cl) (md w wh d : Int) : Nat → Nat → Int
  | 0, _ => d
  | f + 1, n => if xf_rk m P md w n = -1 then xf_rd m P md w wh d f (n + 1) else if wh = 0 then n else n - xf_rk m P md w n
theorem xf_pig : ∀ (k : Nat) (f : Nat → Nat), (∀ i, i ≤ k → f i < k) → ∃ i j, i < j ∧ j ≤ k ∧ f i = f j
  | 0, f, h => absurd (h 0 (Nat.le_refl _)) (by omega)
  | k + 1, f, h => by
    by_cases c : ∃ i, i ≤ k ∧ f i = f (k + 1)
    · obtain ⟨i, h1, h2⟩ := c
      exact ⟨i, k + 1, by omega, Nat.le_refl _, h2⟩
    · have hv := h (k + 1) (Nat.le_refl _)
      obtain ⟨i, j, h1, h2, h3⟩ := xf_pig k (fun i => if f i = k then f (k + 1) else f i) (fun i hi => by
        have h4 := h i (by omega)
        split
        · have : f i ≠ f (k + 1) := fun z => c ⟨i, hi, z⟩
          omega
        · omega)
      refine ⟨i, j, h1, by omega, ?_⟩
      split at h3
      · split at h3
        · omega
        · exact absurd ⟨j, h2, h3.symm⟩ c
      · split at h3
        · exact absurd ⟨i, by omega, h3⟩ c
        · exact h3
theorem xf_made_or {m : Int → Int} {P : List xf_Cl} {md w : Int} (hV : xf_VM m) : xf_made m P md w = w ∨ 0 ≤ xf_num m (xf_made m P md w) := by
  have V1 := hV.1
  have hb := xf_mn_bd (xf_pr m P md w) (10 * xf_lim m) (m 11).toNat
  have key : ∀ j : Int, 0 ≤ j → j < m 11 → 0 ≤ xf_num m (m (18 + j)) := by
    intro j h0 h1
    have b := xf_num_bd V1.1 (m (18 + j))
    by_cases c : xf_num m (m (18 + j)) = -1
    · have := xf_ix_no c j.toNat (by omega)
      rw [show ((j.toNat : Nat) : Int) = j by omega] at this
      exact absurd rfl this
    · omega
  unfold xf_made
  split
  · exact Or.inl rfl
  · split
    · exact Or.inl rfl
    · exact Or.inr (key _ (by omega) (by omega))
theorem xf_num_inj {m : Int → Int} {a b : Int} (ha : 0 ≤ xf_num m a) (h : xf_num m a = xf_num m b) : a = b := by
  have e1 := xf_ix_at (f := fun k => m (18 + k)) (w := a) (n := (m 11).toNat) (fun z => by unfold xf_num at ha; omega)
  have e2 := xf_ix_at (f := fun k => m (18 + k)) (w := b) (n := (m 11).toNat) (fun z => by unfold xf_num at ha h; omega)
  have h2 : xf_ix (fun k => m (18 + k)) a (m 11).toNat = xf_ix (fun k => m (18 + k)) b (m 11).toNat := h
  rw [h2] at e1
  exact e1.symm.trans e2
theorem xf_rk_ne {m : Int → Int} {P : List xf_Cl} {md w : Int} {n k : Nat} (hk : k < n) (h : xf_rk m P md w n = -1) : xf_pth m P md w k ≠ xf_pth m P md w n := by
  have := xf_ix_no h k hk
  rw [show ((k : Nat) : Int).toNat = k by omega] at this
  exact this
/-- the ninth at the latest -/
theorem xf_rk_9 {m : Int → Int} {P : List xf_Cl} {md w : Int} (hV : xf_VM m) : ∃ n, 1 ≤ n ∧ n ≤ 9 ∧ xf_rk m P md w n ≠ -1 := by
  have V1 := hV.1
  refine Classical.byContradiction (fun hno => ?_)
  have all : ∀ n, 1 ≤ n → n ≤ 9 → xf_rk m P md w n = -1 := fun n h1 h2 => Classical.byContradiction (fun z => hno ⟨n, h1, h2, z⟩)
  have hnum : ∀ n, n ≤ 8 → 0 ≤ xf_num m (xf_pth m P md w (n + 1)) := by
    intro n hn
    rcases xf_made_or (P := P) (md := md) (w := xf_pth m P md w n) hV with h | h
    · exact absurd h.symm (xf_rk_ne (show n < n + 1 by omega) (all (n + 1) (by omega) (by omega)))
    · exact h
  obtain ⟨i, j, h1, h2, h3⟩ := xf_pig 8 (fun n => (xf_num m (xf_pth m P md w (n + 1))).toNat) (fun i hi => by
    have a := hnum i hi
    have b := xf_num_bd V1.1 (xf_pth m P md w (i + 1))
    omega)
  have a := hnum i (by omega)
  have b := hnum j h2
  exact xf_rk_ne (show i + 1 < j + 1 by omega) (all (j + 1) (by omega) (by omega)) (xf_num_inj a (by omega))
theorem xf_rd_eq {m : Int → Int} {P : List xf_Cl} {md w wh d d' : Int} : ∀ (f f' s n : Nat), s ≤ n → n < s + f → n < s + f' → xf_rk m P md w n ≠ -1 → xf_rd m P md w wh d f s = xf_rd m P md w wh d' f' s
  | 0, _, s, n, h1, h2, _, _ => by omega
  | _ + 1, 0, s, n, h1, _, h3, _ => by omega
  | f + 1, f' + 1, s, n, h1, h2, h3, hn => by
    rw [xf_rd, xf_rd]
    by_cases c : xf_rk m P md w s = -1
    · have : s ≠ n := fun z => hn (by rw [← z]; exact c)
      rw [if_pos c, if_pos c]
      exact xf_rd_eq f f' (s + 1) n (by omega) (by omega) (by omega) hn
    · rw [if_neg c, if_neg c]
noncomputable def sp_round (m : Int → Int) (P : List xf_Cl) (md w wh : Int) : Int := xf_if ((0 ≤ md ∧ md < m 10) ∧ 0 ≤ wh ∧ wh ≤ 1) (xf_if (xf_wd w) (xf_rd m P md w wh (-1) 9 1) (-2)) (-1)
set_option maxHeartbeats 1000000 in
theorem q_X_round {lev : Nat} {h : xq_H} {Q : Option xq_V → xq_H → Prop} {m : Int → Int} {P : List xf_Cl} {md w wh : Int} {T : Int} (hl : 9 ≤ lev) (I : xr_ok h m P T) (hQ : ∀ h', xr_ck h h' → Q (some (xI (sp_round m P md w wh))) h') : xq_met lev y_X_round [xR 0, xI md, xI w, xI wh] 81 h Q := by
  refine en_X_round (by omega) (fun K hK => ?_)
  have V1 := I.vm.1
  have ecs := I.now.bs.cs
  unfold sp_round at hQ
  have bad : ¬ ((0 ≤ md ∧ md < m 10) ∧ 0 ≤ wh ∧ wh ≤ 1) → Q (some (xI (-1))) h := by
    intro c
    rw [xf_if_f c] at hQ
    exact hQ h xs_rf
  refine xq_go hK [28] 60 ?_
  refine ⟨lev - 1, by omega, c_C_has (by omega) (fun c => ?_) (fun c => ?_)⟩
  · rw [ecs] at c
    refine And.intro (fun z => absurd z (by decide)) (fun _ => ?_)
    refine And.intro (fun c2 => bad (fun z => by omega)) (fun c2 => And.intro (fun c3 => ?_) (fun c3 => bad (fun z => by omega)))
    rw [xf_if_t ⟨c, by omega, by omega⟩] at hQ
    refine ⟨lev - 1, by omega, c_X_isWord (by omega) (fun c4 => ?_) (fun c4 => ?_)⟩
    · refine And.intro (fun _ => ?_) (fun z => absurd z (by decide))
      rw [xf_if_t c4] at hQ
      have W := xf_pth_wd (P := P) (md := md) I.vm c4
      refine ⟨lev - 1, by omega, c_K_settle (by omega) I.vm I.now I.vn (fun h1 hs1 C1 => ?_)⟩
      refine And.intro (by omega) ?_
      have loop : ∀ (d n : Nat) (nI : Int) (x5 : Option xq_V) (h2 : xq_H), n + d = 10 → 1 ≤ n → nI = n → (x5 = none ∨ ∃ z, x5 = some (xI z)) → xr_ck h h2 → xr_crs h2 m → (∀ k : Int, 0 ≤ k → k < n → h2 63 k = xf_pth m P md w k.toNat) → (∀ h', xr_ck h h' → Q (some (xI (xf_rd m P md w wh (-1) d n))) h') → K 28 [some (xR 0), some (xI md), some (xI w), some (xI wh), some (xI nI), x5] [] 81 h2 := by
        intro d
        induction d with
        | zero =>
          intro n nI x5 h2 hd hn1 en _ hk C2 hp q
          refine xq_go hK [28] 60 ?_
          refine And.intro (fun _ => q h2 hk) (fun c => absurd c (by omega))
        | succ d ih =>
          intro n nI x5 h2 hd hn1 en hx5 hk C2 hp q
          subst en
          rw [xf_rd] at q
          obtain ⟨p, rfl⟩ : ∃ p, n = p + 1 := ⟨n - 1, by omega⟩
          have e63 := hp (((p + 1 : Nat) : Int) - 1) (by omega) (by omega)
          rw [show (((p + 1 : Nat) : Int) - 1).toNat = p by omega] at e63
          -- the words ahead
          have inner : ∀ (d2 k : Nat) (kI : Int) (h3 : xq_H), k + d2 = p + 1 → kI = k → xr_ck h h3 → xr_crs h3 m → (∀ k : Int, 0 ≤ k → k < ((p + 2 : Nat) : Int) → h3 63 k = xf_pth m P md w k.toNat) → (∀ j : Nat, j < k → xf_pth m P md w j ≠ xf_pth m P md w (p + 1)) → K 49 [some (xR 0), some (xI md), some (xI w), some (xI wh), some (xI ((p + 1 : Nat) : Int)), some (xI kI)] [] 81 h3 := by
            intro d2
            induction d2 with
            | zero =>
              intro k kI h3 hd2 ek hk3 C3 hp3 hno
              have e : xf_rk m P md w (p + 1) = -1 := xf_ix_none (fun j hj => by
                rw [show ((j : Nat) : Int).toNat = j by omega]
                exact hno j (by omega))
              rw [if_pos e] at q
              refine xq_go hK [28, 49] 60 ?_
              refine And.intro (fun _ => ?_) (fun c => absurd c (by omega))
              refine And.intro (by omega) ?_
              exact ih (p + 2) _ _ h3 (by omega) (by omega) (by omega) (Or.inr ⟨_, rfl⟩) hk3 C3 hp3 q
            | succ d2 ih2 =>
              intro k kI h3 hd2 ek hk3 C3 hp3 hno
              subst ek
              have r1 := hp3 k (by omega) (by omega)
              have r2 := hp3 ((p + 1 : Nat) : Int) (by omega) (by omega)
              rw [show ((k : Nat) : Int).toNat = k by omega] at r1
              rw [show (((p + 1 : Nat) : Int)).toNat = p + 1 by omega] at r2
              refine xq_go hK [28, 49] 60 ?_
              refine And.intro (fun c => absurd c (by omega)) (fun _ => ?_)
              refine And.intro (by omega) ?_
              refine And.intro (by omega) ?_
              rw [r1, r2]
              refine And.intro (fun c5 => ?_) (fun c5 => ?_)
              · refine And.intro (by omega) ?_
                refine ih2 (k + 1) _ h3 (by omega) (by omega) hk3 C3 hp3 (fun j hj => ?_)
                by_cases hjk : j = k
                · rw [hjk]; exact c5
                · exact hno j (by omega)
              · have e : xf_rk m P md w (p + 1) = k := xf_ix_hit (i := k) (by omega) (fun j hj => by
                  rw [show ((j : Nat) : Int).toNat = j by omega]
                  exact hno j (by omega)) (by
                  rw [show ((k : Nat) : Int).toNat = k by omega]
                  exact c5)
                rw [if_neg (by omega), e] at q
                refine And.intro (fun c6 => ?_) (fun c6 => ?_)
                · refine And.intro (by omega) ?_
                  rw [if_neg c6] at q
                  exact q h3 hk3
                · rw [if_pos c6] at q
                  exact q h3 hk3
          have B2 := xr_base_fr hk (by decide) I.now.bs
          have e0 : xf_pth m P md w (p + 1) = xf_made m P md (xf_pth m P md w p) := rfl
          have go : K 33 [some (xR 0), some (xI md), some (xI w), some (xI wh), some (xI ((p + 1 : Nat) : Int)), x5] [] 81 h2 := by
            rcases hx5 with rfl | ⟨z5, rfl⟩
            all_goals
              refine xq_go hK [28, 49] 60 ?_
              refine And.intro (by omega) ?_
              refine And.intro (by omega) ?_
              rw [e63]
              refine ⟨lev - 1, by omega, c_K_madeOf (by omega) I.vm B2 C2 (W p) c (fun h3 hk3 => ?_)⟩
              refine And.intro (by omega) ?_
              refine inner (p + 1) 0 _ _ (by omega) rfl (xs_u (xr_ck_tr hk (xr_ck_kp hk3)) (by decide) _ _) (xr_crs_fr (xq_u_o (by decide)) (by rw [xq_u_o (by decide)]) (by rw [xq_u_o (by decide)]) (xr_kp_C hk3 C2)) (fun k h0 h1 => ?_) (fun j hj => by omega)
              rw [xu_rd]
              by_cases hkp : k = ((p + 1 : Nat) : Int)
              · rw [if_pos hkp, hkp, show (((p + 1 : Nat) : Int)).toNat = p + 1 by omega]
                exact e0.symm
              · rw [if_neg hkp, hk3.1 63 (by decide)]
                exact hp k h0 (by omega)
          refine xq_go hK [28, 33] 60 ?_
          refine And.intro (fun c => absurd c (by omega)) (fun _ => go)
      refine loop 9 1 _ _ _ (by omega) (by omega) rfl (Or.inl rfl) (xs_u (xr_ck_set hs1) (by decide) _ _) (xr_crs_fr (xq_u_o (by decide)) (by rw [xq_u_o (by decide)]) (by rw [xq_u_o (by decide)]) C1) (fun k h0 h1 => ?_) hQ
      obtain rfl : k = 0 := by omega
      rw [xu_eq]
      rfl
    · refine And.intro (fun z => absurd rfl z) (fun _ => ?_)
      rw [xf_if_f c4] at hQ
      exact hQ h xs_rf
  · rw [ecs] at c
    exact And.intro (fun _ => bad (fun z => c z.1)) (fun z => absurd rfl z)
set_option maxHeartbeats 1000000 in
theorem q_M_round {lev : Nat} {h : xq_H} {Q : Option xq_V → xq_H → Prop} {P : List xf_Cl} {md w wh : Int} (hl : 9 ≤ lev) (hV : xf_VM (h 65)) (hP : xf_ph (h 65) P) (hQ : ∀ h', xr_rk h h' → Q (some (xI (sp_round (h 65) P md w wh))) h') : xq_met lev y_M_round [xR 64, xI md, xI w, xI wh] 81 h Q := by
  refine en_M_round (by omega) (fun K hK => ?_)
  have V3 := hV.2.2.1
  obtain ⟨n9, hn1, hn2, hn3⟩ := xf_rk_9 (P := P) (md := md) (w := w) hV
  unfold sp_round at hQ
  rw [xf_rd_eq (d' := -5) 9 11 1 n9 hn1 (by omega) (by omega) hn3] at hQ
  have bad : ¬ ((0 ≤ md ∧ md < h 65 10) ∧ 0 ≤ wh ∧ wh ≤ 1) → Q (some (xI (-1))) h := by
    intro c
    rw [xf_if_f c] at hQ
    exact hQ h xr_rk_rf
  refine xq_go hK [23] 60 ?_
  refine ⟨lev - 1, by omega, c_M_isMender (by omega) V3 (fun c => ?_) (fun c => ?_)⟩
  · refine And.intro (fun z => absurd z (by decide)) (fun _ => ?_)
    refine ⟨lev - 1, by omega, c_M_in (by omega) (fun c3 => ?_) (fun c3 => ?_)⟩
    · refine And.intro (fun _ => ?_) (fun z => absurd z (by decide))
      rw [xf_if_t ⟨c, c3⟩] at hQ
      refine ⟨lev - 1, by omega, c_M_isWord (by omega) (fun c4 => ?_) (fun c4 => ?_)⟩
      · refine And.intro (fun _ => ?_) (fun z => absurd z (by decide))
        rw [xf_if_t c4] at hQ
        have W := xf_pth_wd (P := P) (md := md) hV c4
        refine And.intro (by omega) ?_
        have loop : ∀ (d n : Nat) (nI : Int) (x5 : Option xq_V) (h2 : xq_H), n + d = 12 → 1 ≤ n → nI = n → (x5 = none ∨ ∃ z, x5 = some (xI z)) → xr_rk h h2 → (∀ k : Int, 0 ≤ k → k < n → h2 77 k = xf_pth (h 65) P md w k.toNat) → (∀ h', xr_rk h h' → Q (some (xI (xf_rd (h 65) P md w wh (-5) d n))) h') → K 23 [some (xR 64), some (xI md), some (xI w), some (xI wh), some (xI nI), x5] [] 81 h2 := by
          intro d
          induction d with
          | zero =>
            intro n nI x5 h2 hd hn1 en _ hk hp q
            refine xq_go hK [23] 60 ?_
            refine And.intro (fun _ => q h2 hk) (fun c => absurd c (by omega))
          | succ d ih =>
            intro n nI x5 h2 hd hn1 en hx5 hk hp q
            subst en
            rw [xf_rd] at q
            obtain ⟨p, rfl⟩ : ∃ p, n = p + 1 := ⟨n - 1, by omega⟩
            have e63 := hp (((p + 1 : Nat) : Int) - 1) (by omega) (by omega)
            rw [show (((p + 1 : Nat) : Int) - 1).toNat = p by omega] at e63
            have e65 := xr_rk_65 hk
            have inner : ∀ (d2 k : Nat) (kI : Int) (h3 : xq_H), k + d2 = p + 1 → kI = k → xr_rk h h3 → (∀ k : Int, 0 ≤ k → k < ((p + 2 : Nat) : Int) → h3 77 k = xf_pth (h 65) P md w k.toNat) → (∀ j : Nat, j < k → xf_pth (h 65) P md w j ≠ xf_pth (h 65) P md w (p + 1)) → K 41 [some (xR 64), some (xI md), some (xI w), some (xI wh), some (xI ((p + 1 : Nat) : Int)), some (xI kI)] [] 81 h3 := by
              intro d2
              induction d2 with
              | zero =>
                intro k kI h3 hd2 ek hk3 hp3 hno
                have e : xf_rk (h 65) P md w (p + 1) = -1 := xf_ix_none (fun j hj => by
                  rw [show ((j : Nat) : Int).toNat = j by omega]
                  exact hno j (by omega))
                rw [if_pos e] at q
                refine xq_go hK [23, 41] 60 ?_
                refine And.intro (fun _ => ?_) (fun c => absurd c (by omega))
                refine And.intro (by omega) ?_
                exact ih (p + 2) _ _ h3 (by omega) (by omega) (by omega) (Or.inr ⟨_, rfl⟩) hk3 hp3 q
              | succ d2 ih2 =>
                intro k kI h3 hd2 ek hk3 hp3 hno
                subst ek
                have r1 := hp3 k (by omega) (by omega)
                have r2 := hp3 ((p + 1 : Nat) : Int) (by omega) (by omega)
                rw [show ((k : Nat) : Int).toNat = k by omega] at r1
                rw [show (((p + 1 : Nat) : Int)).toNat = p + 1 by omega] at r2
                refine xq_go hK [23, 41] 60 ?_
                refine And.intro (fun c => absurd c (by omega)) (fun _ => ?_)
                refine And.intro (by omega) ?_
                refine And.intro (by omega) ?_
                rw [r1, r2]
                refine And.intro (fun c5 => ?_) (fun c5 => ?_)
                · refine And.intro (by omega) ?_
                  refine ih2 (k + 1) _ h3 (by omega) (by omega) hk3 hp3 (fun j hj => ?_)
                  by_cases hjk : j = k
                  · rw [hjk]; exact c5
                  · exact hno j (by omega)
                · have e : xf_rk (h 65) P md w (p + 1) = k := xf_ix_hit (i := k) (by omega) (fun j hj => by
                    rw [show ((j : Nat) : Int).toNat = j by omega]
                    exact hno j (by omega)) (by
                    rw [show ((k : Nat) : Int).toNat = k by omega]
                    exact c5)
                  rw [if_neg (by omega), e] at q
                  refine And.intro (fun c6 => ?_) (fun c6 => ?_)
                  · refine And.intro (by omega) ?_
                    rw [if_neg c6] at q
                    exact q h3 hk3
                  · rw [if_pos c6] at q
                    exact q h3 hk3
            have e0 : xf_pth (h 65) P md w (p + 1) = xf_made (h 65) P md (xf_pth (h 65) P md w p) := rfl
            have go : K 26 [some (xR 64), some (xI md), some (xI w), some (xI wh), some (xI ((p + 1 : Nat) : Int)), x5] [] 81 h2 := by
              rcases hx5 with rfl | ⟨z5, rfl⟩
              all_goals
                refine xq_go hK [23, 41] 60 ?_
                refine And.intro (by omega) ?_
                refine And.intro (by omega) ?_
                rw [e63]
                refine ⟨lev - 1, by omega, c_M_makesOf (P := P) (by omega) (by rw [e65]; exact hV) (by rw [e65]; exact c) (W p) (by rw [e65]; exact hP) (fun h3 hs3 => ?_)⟩
                rw [e65]
                have hk3 := xr_rk_tr hk (xr_rk_s hs3 (by decide))
                refine And.intro (by omega) ?_
                refine inner (p + 1) 0 _ _ (by omega) rfl (xr_rk_u hk3 (by decide) _ _) (fun k h0 h1 => ?_) (fun j hj => by omega)
                rw [xu_rd]
                by_cases hkp : k = ((p + 1 : Nat) : Int)
                · rw [if_pos hkp, hkp, show (((p + 1 : Nat) : Int)).toNat = p + 1 by omega]
                  exact e0.symm
                · rw [if_neg hkp, hs3 77 (by decide)]
                  exact hp k h0 (by omega)
            refine xq_go hK [23, 26] 60 ?_
            refine And.intro (fun c => absurd c (by omega)) (fun _ => go)
        refine loop 11 1 _ _ _ (by omega) (by omega) rfl (Or.inl rfl) (xr_rk_u xr_rk_rf (by decide) _ _) (fun k h0 h1 => ?_) hQ
        obtain rfl : k = 0 := by omega
        rw [xu_eq]
        rfl
      · refine And.intro (fun z => absurd rfl z) (fun _ => ?_)
        rw [xf_if_f c4] at hQ
        exact hQ h xr_rk_rf
    · exact And.intro (fun z => absurd rfl z) (fun _ => bad (fun z => c3 z.2))
  · exact And.intro (fun _ => bad (fun z => c z.1)) (fun z => absurd rfl z)
