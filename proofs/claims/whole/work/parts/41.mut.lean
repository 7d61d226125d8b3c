/-! CALLS THAT CHANGE (genmut.py) -/
noncomputable def xf_ip (p : Prop) (a b : Int × (Int → Int)) : Int × (Int → Int) := @ite _ p (Classical.propDecidable _) a b
theorem xf_ip_t {p : Prop} {a b : Int × (Int → Int)} (h : p) : xf_ip p a b = a := by unfold xf_ip; rw [if_pos h]
theorem xf_ip_f {p : Prop} {a b : Int × (Int → Int)} (h : ¬ p) : xf_ip p a b = b := by unfold xf_ip; rw [if_neg h]
noncomputable def r_feed (m : Int → Int) (s : Int) : Int × (Int → Int) := xf_ip (0 ≤ s ∧ s ≤ 127) (xf_ip (m 15 = 100) (-4, m) (m 15 + 1, xf_up (xf_up m (134 + m 15) s) 15 (m 15 + 1))) (-2, m)
theorem q_X_feed {lev : Nat} {h : xq_H} {Q : Option xq_V → xq_H → Prop} {m : Int → Int} {P : List xf_Cl} {s : Int} {T : Int} (hl : 9 ≤ lev) (I : xr_ok h m P T) (hQ : ∀ h', xr_cm h h' → xr_ok h' (r_feed m s).2 P T → Q (some (xI (r_feed m s).1)) h') : xq_met lev y_X_feed [xR 0, xI s] 81 h Q := by
  refine en_X_feed (by omega) (fun K hK => ?_)
  obtain ⟨gL, gW, gC, gF, gT, gP, gB, gA⟩ := xr_ok_g I
  obtain ⟨a1, a2, a3⟩ := gA
  unfold r_feed at hQ
  have bad : ¬ (0 ≤ s ∧ s ≤ 127) → Q (some (xI (-2))) h := fun z => by
    rw [xf_ip_f z] at hQ
    exact hQ h xs_rf I
  refine xq_go hK [] 60 ?_
  refine And.intro (fun c => bad (by omega)) (fun c => And.intro (fun c2 => ?_) (fun c2 => bad (by omega)))
  rw [xf_ip_t (show 0 ≤ s ∧ s ≤ 127 by omega)] at hQ
  refine And.intro (fun c3 => absurd c3 (by omega)) (fun c3 => And.intro (fun c4 => ?_) (fun c4 => ?_))
  · rw [xf_ip_f (show ¬ m 15 = 100 by omega), ← a1] at hQ
    obtain ⟨m', hm⟩ : ∃ m', m' = xf_up (xf_up m (134 + h 2 6) s) 15 (h 2 6 + 1) := ⟨_, rfl⟩
    have q : ∀ h', xr_cm h h' → xr_ok h' m' P T → Q (some (xI (h 2 6 + 1))) h' := by rw [hm]; exact hQ
    have ev : ∀ k : Int, ¬ (k = 15 ∨ k = 134 + h 2 6) → m' k = m k := fun k z => by rw [hm, xf_up_n (by omega), xf_up_n (by omega)]
    have e15 : m' 15 = h 2 6 + 1 := by rw [hm, xf_up_e]
    have eT : m' (134 + h 2 6) = s := by rw [hm, xf_up_n (by omega), xf_up_e]
    have r26 : xq_u h 25 (h 2 6) s 2 6 = h 2 6 := rfl
    refine And.intro (by omega) ?_
    refine And.intro (by omega) ?_
    refine q _ (xs_u (xs_u xs_rf (by decide) _ _) (by decide) _ _) (xr_ok_mk ?_ ?_ ?_ ?_ ?_ ?_ ?_ ?_)
    · exact xg_L_cg (h := h) (m := m) rfl rfl rfl rfl rfl (fun k hk => ev k (by omega)) gL
    · exact xg_W_cg (h := h) (m := m) gL.2.1.2 rfl (fun k hk => ev k (by omega)) gW
    · exact xg_C_cg (h := h) (m := m) rfl rfl rfl rfl (fun k hk => ev k (by omega)) gC
    · exact xg_F_cg (h := h) (m := m) rfl rfl (fun k hk => ev k (by omega)) gF
    · exact xg_T_cg (h := h) (m := m) rfl rfl rfl rfl (fun k hk => ev k (by omega)) gT
    · exact xg_P_cg (h := h) (m := m) rfl rfl rfl rfl rfl (fun k hk => ev k (by omega)) gP
    · exact xg_B_cg (h := h) (m := m) rfl rfl rfl rfl (fun k hk => ev k (by omega)) (by rw [ev 10 (by omega)]; exact Int.le_refl _) gB
    · refine ⟨e15.symm, by omega, fun i x y => ?_⟩
      rw [e15] at y
      rw [xq_u_o (by decide), xu_rd]
      by_cases e : i = h 2 6
      · rw [if_pos e, e, eT]
        exact ⟨rfl, by omega, by omega⟩
      · rw [if_neg e, ev _ (by omega)]
        exact a3 i x (by omega)
  · rw [xf_ip_t (show m 15 = 100 by omega)] at hQ
    exact hQ h xs_rf I
theorem q_M_feed {lev : Nat} {h : xq_H} {Q : Option xq_V → xq_H → Prop} {s : Int} (hl : 9 ≤ lev) (hV : xf_VM (h 65)) (hN : xf_VN (h 65)) (hQ : ∀ h', xr_r5 h h' → h' 65 = (r_feed (h 65) s).2 → Q (some (xI (r_feed (h 65) s).1)) h') : xq_met lev y_M_feed [xR 64, xI s] 81 h Q := by
  refine en_M_feed (by omega) (fun K hK => ?_)
  have K0 := xr_r5_k (xr_rk_rf (h := h))
  have a2 := hN.ta
  unfold r_feed at hQ
  refine xq_go hK [] 60 ?_
  refine ⟨lev - 1, by omega, c_M_in (by omega) (fun c => ?_) (fun c => ?_)⟩
  · rw [xf_ip_t c] at hQ
    refine And.intro (fun _ => ?_) (fun z => absurd z (by decide))
    refine And.intro (by omega) ?_
    refine And.intro (fun c2 => ?_) (fun c2 => ?_)
    · rw [xf_ip_f c2] at hQ
      refine And.intro (by omega) ?_
      refine And.intro (by omega) ?_
      refine And.intro (by omega) ?_
      have e15 : xq_u h 65 (134 + h 65 15) s 65 15 = h 65 15 := xu_ne (by omega)
      refine And.intro (by omega) ?_
      refine And.intro (by omega) ?_
      refine And.intro (by omega) ?_
      refine And.intro (by omega) ?_
      have q := hQ _ (xr_r5_u (xr_r5_u K0 (134 + h 65 15) s) 15 (h 65 15 + 1)) (by rw [xq_u_up, xq_u_up])
      rw [xu_eq, e15]
      exact q
    · rw [xf_ip_t c2] at hQ
      exact hQ h K0 rfl
  · rw [xf_ip_f c] at hQ
    refine And.intro (fun z => absurd rfl z) (fun _ => ?_)
    exact hQ h K0 rfl
noncomputable def r_weigh (m : Int → Int) (i n : Int) : Int × (Int → Int) := xf_ip (0 ≤ i ∧ i < m 11) (xf_ip (0 ≤ n ∧ n ≤ 99) (m (2 + i), xf_up m (2 + i) n) (-2, m)) (-1, m)
theorem q_X_weigh {lev : Nat} {h : xq_H} {Q : Option xq_V → xq_H → Prop} {m : Int → Int} {P : List xf_Cl} {i n : Int} {T : Int} (hl : 9 ≤ lev) (I : xr_ok h m P T) (hQ : ∀ h', xr_cm h h' → xr_ok h' (r_weigh m i n).2 P T → Q (some (xI (r_weigh m i n).1)) h') : xq_met lev y_X_weigh [xR 0, xI i, xI n] 81 h Q := by
  refine en_X_weigh (by omega) (fun K hK => ?_)
  obtain ⟨gL, gW, gC, gF, gT, gP, gB, gA⟩ := xr_ok_g I
  obtain ⟨l1, l2, _⟩ := gL
  obtain ⟨gL, _⟩ := xr_ok_g I
  unfold r_weigh at hQ
  refine xq_go hK [] 60 ?_
  refine ⟨lev - 1, by omega, c_W_has (by omega) (fun c => ?_) (fun c => ?_)⟩
  · rw [l1] at c
    rw [xf_ip_t c] at hQ
    have bad : ¬ (0 ≤ n ∧ n ≤ 99) → Q (some (xI (-2))) h := fun z => by
      rw [xf_ip_f z] at hQ
      exact hQ h xs_rf I
    refine And.intro (fun _ => ?_) (fun z => absurd z (by decide))
    refine And.intro (fun c2 => bad (by omega)) (fun c2 => And.intro (fun c3 => ?_) (fun c3 => bad (by omega)))
    rw [xf_ip_t (show 0 ≤ n ∧ n ≤ 99 by omega), ← (gW i c.1 c.2).1] at hQ
    obtain ⟨m', hm⟩ : ∃ m', m' = xf_up m (2 + i) n := ⟨_, rfl⟩
    have q : ∀ h', xr_cm h h' → xr_ok h' m' P T → Q (some (xI (h 5 i))) h' := by rw [hm]; exact hQ
    have ev : ∀ k : Int, ¬ (k = 2 + i) → m' k = m k := fun k z => by rw [hm, xf_up_n (by omega)]
    have e2 : m' (2 + i) = n := by rw [hm, xf_up_e]
    refine And.intro (by omega) ?_
    refine And.intro (by omega) ?_
    refine q _ (xs_u xs_rf (by decide) _ _) (xr_ok_mk ?_ ?_ ?_ ?_ ?_ ?_ ?_ ?_)
    · exact xg_L_cg (h := h) (m := m) rfl rfl rfl rfl rfl (fun k hk => ev k (by omega)) gL
    · intro k x y
      rw [ev 11 (by omega)] at y
      rw [xu_rd]
      by_cases e : k = i
      · rw [if_pos e, e, e2]
        exact ⟨rfl, by omega, by omega⟩
      · rw [if_neg e, ev _ (by omega)]
        exact gW k x y
    · exact xg_C_cg (h := h) (m := m) rfl rfl rfl rfl (fun k hk => ev k (by omega)) gC
    · exact xg_F_cg (h := h) (m := m) rfl rfl (fun k hk => ev k (by omega)) gF
    · exact xg_T_cg (h := h) (m := m) rfl rfl rfl rfl (fun k hk => ev k (by omega)) gT
    · exact xg_P_cg (h := h) (m := m) rfl rfl rfl rfl rfl (fun k hk => ev k (by omega)) gP
    · exact xg_B_cg (h := h) (m := m) rfl rfl rfl rfl (fun k hk => ev k (by omega)) (by rw [ev 10 (by omega)]; exact Int.le_refl _) gB
    · exact xg_A_cg (h := h) (m := m) rfl rfl (fun k hk => ev k (by omega)) gA
  · rw [l1] at c
    rw [xf_ip_f c] at hQ
    refine And.intro (fun z => absurd rfl z) (fun _ => ?_)
    exact hQ h xs_rf I
theorem q_M_weigh {lev : Nat} {h : xq_H} {Q : Option xq_V → xq_H → Prop} {i n : Int} (hl : 9 ≤ lev) (hV : xf_VM (h 65)) (hN : xf_VN (h 65)) (hQ : ∀ h', xr_r5 h h' → h' 65 = (r_weigh (h 65) i n).2 → Q (some (xI (r_weigh (h 65) i n).1)) h') : xq_met lev y_M_weigh [xR 64, xI i, xI n] 81 h Q := by
  refine en_M_weigh (by omega) (fun K hK => ?_)
  have K0 := xr_r5_k (xr_rk_rf (h := h))
  have V1 := hV.1
  unfold r_weigh at hQ
  refine xq_go hK [] 60 ?_
  refine ⟨lev - 1, by omega, c_M_isListed (by omega) V1 (fun c => ?_) (fun c => ?_)⟩
  · rw [xf_ip_t c] at hQ
    refine And.intro (fun _ => ?_) (fun z => absurd z (by decide))
    refine ⟨lev - 1, by omega, c_M_in (by omega) (fun c2 => ?_) (fun c2 => ?_)⟩
    · rw [xf_ip_t c2] at hQ
      refine And.intro (fun _ => ?_) (fun z => absurd z (by decide))
      refine And.intro (by omega) ?_
      refine And.intro (by omega) ?_
      refine And.intro (by omega) ?_
      refine And.intro (by omega) ?_
      exact hQ _ (xr_r5_u K0 (2 + i) n) (by rw [xq_u_up])
    · rw [xf_ip_f c2] at hQ
      refine And.intro (fun z => absurd rfl z) (fun _ => ?_)
      exact hQ h K0 rfl
  · rw [xf_ip_f c] at hQ
    refine And.intro (fun z => absurd rfl z) (fun _ => ?_)
    exact hQ h K0 rfl
theorem xb_bh8 : ∀ x : Nat, x < 256 → ∀ k : Nat, k < 8 → ((xq_and x (xq_shl 1 k) = 0 ↔ xq_and (xq_shr x k) 1 = 0) ∧ (xq_and (xq_shr x k) 1 = 0 ∨ xq_and (xq_shr x k) 1 = 1)) := by decide +kernel
theorem xb_bn8 : ∀ n : Nat, n ≤ 8 → ∀ x : Nat, x < 2 ^ n → ∀ k : Nat, k < n → (0 ≤ xq_or x (xq_shl 1 k) ∧ xq_or x (xq_shl 1 k) < 2 ^ n) ∧ (0 ≤ xq_and x (xq_xor (xq_shl 1 k) (-1)) ∧ xq_and x (xq_xor (xq_shl 1 k) (-1)) < 2 ^ n) := by decide +kernel
noncomputable def xf_bh (was next b : Int) : Int := if b = 0 then xq_and was (xq_xor (xq_shl 1 next) (-1)) else xq_or was (xq_shl 1 next)
theorem xf_bh_bd {was next b : Int} {n : Nat} (hn : n ≤ 8) (hw : 0 ≤ was ∧ was < xf_p2 n) (hk : 0 ≤ next ∧ next < n) : (0 ≤ xf_bh was next b ∧ xf_bh was next b ≤ 255) ∧ xf_bh was next b < xf_p2 n := by
  obtain ⟨a, rfl⟩ := Int.eq_ofNat_of_zero_le hw.1
  obtain ⟨k, rfl⟩ := Int.eq_ofNat_of_zero_le hk.1
  have p := xf_p2_n hn
  have c := xf_p2_c hn
  have z := xb_bn8 n hn a (by omega) k (by omega)
  have e : ((2 : Int) ^ n) = xf_p2 n := by rw [p]; rfl
  rw [e] at z
  unfold xf_bh
  split <;> omega
noncomputable def r_behind (m : Int → Int) (i next b : Int) : Int × (Int → Int) := xf_ip ((0 ≤ i ∧ i < m 11) ∧ 0 ≤ next ∧ next < m 11) (xq_and (xq_shr (m (26 + i)) next) 1, xf_up m (26 + i) (xf_bh (m (26 + i)) next b)) (-1, m)
theorem q_X_behind {lev : Nat} {h : xq_H} {Q : Option xq_V → xq_H → Prop} {m : Int → Int} {P : List xf_Cl} {i next b : Int} {T : Int} (hl : 9 ≤ lev) (I : xr_ok h m P T) (hQ : ∀ h', xr_cm h h' → xr_ok h' (r_behind m i next b).2 P T → Q (some (xI (r_behind m i next b).1)) h') : xq_met lev y_X_behind [xR 0, xI i, xI next, xI b] 81 h Q := by
  refine en_X_behind (by omega) (fun K hK => ?_)
  obtain ⟨gL, gW, gC, gF, gT, gP, gB, gA⟩ := xr_ok_g I
  obtain ⟨l1, l2, l3, l4, l5⟩ := gL
  unfold r_behind at hQ
  have bad : ¬ ((0 ≤ i ∧ i < m 11) ∧ 0 ≤ next ∧ next < m 11) → Q (some (xI (-1))) h := fun z => by
    rw [xf_ip_f z] at hQ
    exact hQ h xs_rf I
  refine xq_go hK [41] 60 ?_
  refine ⟨lev - 1, by omega, c_W_has (by omega) (fun c => ?_) (fun c => ?_)⟩
  · rw [l1] at c
    refine And.intro (fun z => absurd z (by decide)) (fun _ => ?_)
    refine ⟨lev - 1, by omega, c_W_has (by omega) (fun c2 => ?_) (fun c2 => ?_)⟩
    · rw [l1] at c2
      rw [xf_ip_t ⟨c, c2⟩] at hQ
      refine And.intro (fun _ => ?_) (fun z => absurd z (by decide))
      have li := l3 i c.1 c.2
      obtain ⟨w, hw⟩ : ∃ w, w = m (26 + i) := ⟨_, rfl⟩
      have ew : h 6 i = w := by rw [hw]; exact li.2.1
      rw [← hw] at hQ li
      obtain ⟨a, ha⟩ := Int.eq_ofNat_of_zero_le li.2.2.2.2.1.1
      obtain ⟨k8, hk8⟩ := Int.eq_ofNat_of_zero_le c2.1
      have z8 := xb_bh8 a (by omega) k8 (by omega)
      rw [← ha, ← hk8] at z8
      have hbd := xf_bh_bd (was := w) (next := next) (b := b) (n := (m 11).toNat) (by omega) ⟨li.2.2.2.2.1.1, li.2.2.2.2.2⟩ (by omega)
      obtain ⟨m', hm⟩ : ∃ m', m' = xf_up m (26 + i) (xf_bh w next b) := ⟨_, rfl⟩
      have q : ∀ h', xr_cm h h' → xr_ok h' m' P T → Q (some (xI (xq_and (xq_shr w next) 1))) h' := by rw [hm]; exact hQ
      have ev : ∀ k : Int, ¬ (k = 26 + i) → m' k = m k := fun k z => by rw [hm, xf_up_n (by omega)]
      have e2 : m' (26 + i) = xf_bh w next b := by rw [hm, xf_up_e]
      have fin : ∀ v : Int, v = xf_bh w next b → xr_ok (xq_u h 6 i v) m' P T := by
        intro v hv
        refine xr_ok_mk ?_ ?_ ?_ ?_ ?_ ?_ ?_ ?_
        · refine ⟨by rw [ev 11 (by omega)]; exact l1, by rw [ev 11 (by omega)]; exact l2, fun k x y => ?_, fun k x y => ?_, fun k j x y z => ?_⟩
          · rw [ev 11 (by omega)] at y ⊢
            have lk := l3 k x y
            rw [ev (18 + k) (by omega)]
            refine ⟨lk.1, ?_, lk.2.2.1, lk.2.2.2.1, ?_⟩
            · rw [xu_rd]
              by_cases e : k = i
              · rw [if_pos e, e, e2, hv]
              · rw [if_neg e, ev _ (by omega)]
                exact lk.2.1
            · by_cases e : k = i
              · rw [e, e2]
                exact hbd
              · rw [ev _ (by omega)]
                exact lk.2.2.2.2
          · rw [ev 11 (by omega)] at y
            rw [ev (18 + k) (by omega)]
            exact l4 k x y
          · rw [ev 11 (by omega)] at z
            rw [ev (18 + k) (by omega), ev (18 + j) (by omega)]
            exact l5 k j x y z
        · exact xg_W_cg (h := h) (m := m) l2.2 rfl (fun k hk => ev k (by omega)) gW
        · exact xg_C_cg (h := h) (m := m) rfl rfl rfl rfl (fun k hk => ev k (by omega)) gC
        · exact xg_F_cg (h := h) (m := m) rfl rfl (fun k hk => ev k (by omega)) gF
        · exact xg_T_cg (h := h) (m := m) rfl rfl rfl rfl (fun k hk => ev k (by omega)) gT
        · exact xg_P_cg (h := h) (m := m) rfl rfl rfl rfl rfl (fun k hk => ev k (by omega)) gP
        · exact xg_B_cg (h := h) (m := m) rfl rfl rfl rfl (fun k hk => ev k (by omega)) (by rw [ev 10 (by omega)]; exact Int.le_refl _) gB
        · exact xg_A_cg (h := h) (m := m) rfl rfl (fun k hk => ev k (by omega)) gA
      have tail : ∀ v : Int, v = xf_bh w next b → K 41 [some (xR 0), some (xI i), some (xI next), some (xI b), some (xI w), some (xI (xq_shl 1 next))] [xI v, xI i, xR 6] 81 h := by
        intro v hv
        refine xq_go hK [] 60 ?_
        refine And.intro (by omega) ?_
        refine And.intro (fun c3 => ?_) (fun c3 => ?_)
        · have q2 := q _ (xs_u xs_rf (by decide) i v) (fin v hv)
          rw [z8.1.1 c3] at q2
          exact q2
        · have q2 := q _ (xs_u xs_rf (by decide) i v) (fin v hv)
          rw [z8.2.resolve_left (fun y => c3 (z8.1.2 y))] at q2
          exact q2
      refine And.intro (by omega) ?_
      rw [ew]
      refine And.intro (fun c3 => tail _ ?_) (fun c3 => tail _ ?_)
      · unfold xf_bh
        rw [if_pos c3]
      · unfold xf_bh
        rw [if_neg c3]
    · rw [l1] at c2
      exact And.intro (fun z => absurd rfl z) (fun _ => bad (fun z => c2 z.2))
  · rw [l1] at c
    exact And.intro (fun _ => bad (fun z => c z.1)) (fun z => absurd rfl z)
theorem q_M_behind {lev : Nat} {h : xq_H} {Q : Option xq_V → xq_H → Prop} {i next b : Int} (hl : 9 ≤ lev) (hV : xf_VM (h 65)) (hN : xf_VN (h 65)) (hQ : ∀ h', xr_r5 h h' → h' 65 = (r_behind (h 65) i next b).2 → Q (some (xI (r_behind (h 65) i next b).1)) h') : xq_met lev y_M_behind [xR 64, xI i, xI next, xI b] 81 h Q := by
  refine en_M_behind (by omega) (fun K hK => ?_)
  have K0 := xr_r5_k (xr_rk_rf (h := h))
  have V1 := hV.1
  unfold r_behind at hQ
  have bad : ¬ ((0 ≤ i ∧ i < h 65 11) ∧ 0 ≤ next ∧ next < h 65 11) → Q (some (xI (-1))) h := fun z => by
    rw [xf_ip_f z] at hQ
    exact hQ h K0 rfl
  refine xq_go hK [51] 60 ?_
  refine ⟨lev - 1, by omega, c_M_isListed (by omega) V1 (fun c => ?_) (fun c => ?_)⟩
  · refine And.intro (fun z => absurd z (by decide)) (fun _ => ?_)
    refine ⟨lev - 1, by omega, c_M_isListed (by omega) V1 (fun c2 => ?_) (fun c2 => ?_)⟩
    · rw [xf_ip_t ⟨c, c2⟩] at hQ
      refine And.intro (fun _ => ?_) (fun z => absurd z (by decide))
      refine And.intro (by omega) ?_
      refine And.intro (by omega) ?_
      refine And.intro (by omega) ?_
      have tail : ∀ v : Int, v = xf_bh (h 65 (26 + i)) next b → K 51 [some (xR 64), some (xI i), some (xI next), some (xI b), some (xI (xq_and (xq_shr (h 65 (26 + i)) next) 1))] [xI v, xI (26 + i), xR 65] 81 h := by
        intro v hv
        refine xq_go hK [] 60 ?_
        refine And.intro (by omega) ?_
        exact hQ _ (xr_r5_u K0 (26 + i) v) (by rw [xq_u_up, hv])
      refine And.intro (fun c3 => ?_) (fun c3 => ?_)
      · refine And.intro (by omega) ?_
        refine And.intro (by omega) ?_
        refine tail _ ?_
        unfold xf_bh
        rw [if_pos c3]
      · refine And.intro (by omega) ?_
        refine And.intro (by omega) ?_
        refine tail _ ?_
        unfold xf_bh
        rw [if_neg c3]
    · exact And.intro (fun z => absurd rfl z) (fun _ => bad (fun z => c2 z.2))
  · exact And.intro (fun _ => bad (fun z => c z.1)) (fun z => absurd rfl z)
noncomputable def r_send (m : Int → Int) : Int × (Int → Int) := (m 13, xf_up (xf_up m 13 0) 0 0)
theorem q_X_send {lev : Nat} {h : xq_H} {Q : Option xq_V → xq_H → Prop} {m : Int → Int} {P : List xf_Cl} {T : Int} (hl : 9 ≤ lev) (I : xr_ok h m P T) (hQ : ∀ h', xr_cm h h' → xr_ok h' (r_send m).2 P T → Q (some (xI (r_send m).1)) h') : xq_met lev y_X_send [xR 0] 81 h Q := by
  refine en_X_send (by omega) (fun K hK => ?_)
  obtain ⟨gL, gW, gC, gF, gT, gP, gB, gA⟩ := xr_ok_g I
  obtain ⟨t1, t2, t3, t4, t5, t6, t7⟩ := gT
  unfold r_send at hQ
  rw [← t2] at hQ
  obtain ⟨m', hm⟩ : ∃ m', m' = xf_up (xf_up m 13 0) 0 0 := ⟨_, rfl⟩
  have q : ∀ h', xr_cm h h' → xr_ok h' m' P T → Q (some (xI (h 13 3))) h' := by rw [hm]; exact hQ
  have ev : ∀ k : Int, ¬ (k = 13 ∨ k = 0) → m' k = m k := fun k z => by rw [hm, xf_up_n (by omega), xf_up_n (by omega)]
  have e0 : m' 0 = 0 := by rw [hm, xf_up_e]
  have e13 : m' 13 = 0 := by rw [hm, xf_up_n (by omega), xf_up_e]
  refine xq_go hK [] 60 ?_
  refine q _ (xs_u xs_rf (by decide) _ _) (xr_ok_mk ?_ ?_ ?_ ?_ ?_ ?_ ?_ ?_)
  · exact xg_L_cg (h := h) (m := m) rfl rfl rfl rfl rfl (fun k hk => ev k (by omega)) gL
  · exact xg_W_cg (h := h) (m := m) gL.2.1.2 rfl (fun k hk => ev k (by omega)) gW
  · exact xg_C_cg (h := h) (m := m) rfl rfl rfl rfl (fun k hk => ev k (by omega)) gC
  · exact xg_F_cg (h := h) (m := m) rfl rfl (fun k hk => ev k (by omega)) gF
  · refine ⟨by rw [ev 1 (by omega)]; exact t1, by rw [e13]; rfl, by rw [ev 1 (by omega)]; exact t3, by rw [ev 1 (by omega)]; exact t4, by omega, fun i x y => by omega, by rw [e0, if_pos e13]⟩
  · exact xg_P_cg (h := h) (m := m) rfl rfl rfl rfl rfl (fun k hk => ev k (by omega)) gP
  · exact xg_B_cg (h := h) (m := m) rfl rfl rfl rfl (fun k hk => ev k (by omega)) (by rw [ev 10 (by omega)]; exact Int.le_refl _) gB
  · exact xg_A_cg (h := h) (m := m) rfl rfl (fun k hk => ev k (by omega)) gA
theorem q_M_send {lev : Nat} {h : xq_H} {Q : Option xq_V → xq_H → Prop} (hl : 9 ≤ lev) (hV : xf_VM (h 65)) (hN : xf_VN (h 65)) (hQ : ∀ h', xr_r5 h h' → h' 65 = (r_send (h 65)).2 → Q (some (xI (r_send (h 65)).1)) h') : xq_met lev y_M_send [xR 64] 81 h Q := by
  refine en_M_send (by omega) (fun K hK => ?_)
  have K0 := xr_r5_k (xr_rk_rf (h := h))
  unfold r_send at hQ
  refine xq_go hK [] 60 ?_
  refine And.intro (by omega) ?_
  refine And.intro (by omega) ?_
  refine And.intro (by omega) ?_
  exact hQ _ (xr_r5_u (xr_r5_u K0 13 0) 0 0) (by rw [xq_u_up, xq_u_up])
noncomputable def r_row (m : Int → Int) (md k n : Int) : Int × (Int → Int) := xf_ip ((0 ≤ md ∧ md < m 10) ∧ 0 ≤ k ∧ k ≤ 3) (xf_ip (0 ≤ n ∧ n ≤ 9) (xf_ip (m (34 + md) = 6) (m (44 + 4 * md + k), xf_up m (44 + 4 * md + k) n) (-3, m)) (-2, m)) (-1, m)
theorem q_X_row {lev : Nat} {h : xq_H} {Q : Option xq_V → xq_H → Prop} {m : Int → Int} {P : List xf_Cl} {md k n : Int} {T : Int} (hl : 9 ≤ lev) (I : xr_ok h m P T) (hQ : ∀ h', xr_cm h h' → xr_ok h' (r_row m md k n).2 P T → Q (some (xI (r_row m md k n).1)) h') : xq_met lev y_X_row [xR 0, xI md, xI k, xI n] 81 h Q := by
  refine en_X_row (by omega) (fun K hK => ?_)
  obtain ⟨gL, gW, gC, gF, gT, gP, gB, gA⟩ := xr_ok_g I
  obtain ⟨c1, c2, c3⟩ := gC
  unfold r_row at hQ
  have bad : ¬ ((0 ≤ md ∧ md < m 10) ∧ 0 ≤ k ∧ k ≤ 3) → Q (some (xI (-1))) h := fun z => by
    rw [xf_ip_f z] at hQ
    exact hQ h xs_rf I
  refine xq_go hK [] 60 ?_
  refine ⟨lev - 1, by omega, c_C_has (by omega) (fun c => ?_) (fun c => ?_)⟩
  · rw [c1] at c
    have cm := c3 md c.1 c.2
    refine And.intro (fun z => absurd z (by decide)) (fun _ => ?_)
    refine And.intro (fun d1 => bad (by omega)) (fun d1 => And.intro (fun d2 => ?_) (fun d2 => bad (by omega)))
    rw [xf_ip_t ⟨c, by omega, by omega⟩] at hQ
    have bad2 : ¬ (0 ≤ n ∧ n ≤ 9) → Q (some (xI (-2))) h := fun z => by
      rw [xf_ip_f z] at hQ
      exact hQ h xs_rf I
    refine And.intro (fun d3 => bad2 (by omega)) (fun d3 => And.intro (fun d4 => ?_) (fun d4 => bad2 (by omega)))
    rw [xf_ip_t (show 0 ≤ n ∧ n ≤ 9 by omega)] at hQ
    refine And.intro (by omega) ?_
    rw [cm.1]
    refine And.intro (fun d5 => ?_) (fun d5 => ?_)
    · rw [xf_ip_t d5, ← (cm.2.2.2.2 k (by omega) (by omega)).1] at hQ
      obtain ⟨m', hm⟩ : ∃ m', m' = xf_up m (44 + 4 * md + k) n := ⟨_, rfl⟩
      have q : ∀ h', xr_cm h h' → xr_ok h' m' P T → Q (some (xI (h 12 (md * 4 + k)))) h' := by rw [hm]; exact hQ
      have ev : ∀ j : Int, ¬ (j = 44 + 4 * md + k) → m' j = m j := fun j z => by rw [hm, xf_up_n (by omega)]
      have e2 : m' (44 + 4 * md + k) = n := by rw [hm, xf_up_e]
      refine And.intro (by omega) ?_
      refine And.intro (by omega) ?_
      refine And.intro (by omega) ?_
      refine And.intro (by omega) ?_
      refine q _ (xs_u xs_rf (by decide) _ _) (xr_ok_mk ?_ ?_ ?_ ?_ ?_ ?_ ?_ ?_)
      · exact xg_L_cg (h := h) (m := m) rfl rfl rfl rfl rfl (fun k hk => ev k (by omega)) gL
      · exact xg_W_cg (h := h) (m := m) gL.2.1.2 rfl (fun k hk => ev k (by omega)) gW
      · refine ⟨by rw [ev 10 (by omega)]; exact c1, by rw [ev 10 (by omega)]; exact c2, fun i x y => ?_⟩
        rw [ev 10 (by omega)] at y
        have ci := c3 i x y
        rw [ev (34 + i) (by omega), ev (39 + i) (by omega)]
        refine ⟨ci.1, ci.2.1, ci.2.2.1, ci.2.2.2.1, fun j z w => ?_⟩
        rw [xu_rd]
        by_cases e : i * 4 + j = md * 4 + k
        · rw [if_pos e, show 44 + 4 * i + j = 44 + 4 * md + k by omega, e2]
          exact ⟨rfl, by omega, by omega⟩
        · rw [if_neg e, ev _ (by omega)]
          exact ci.2.2.2.2 j z w
      · exact xg_F_cg (h := h) (m := m) rfl rfl (fun k hk => ev k (by omega)) gF
      · exact xg_T_cg (h := h) (m := m) rfl rfl rfl rfl (fun k hk => ev k (by omega)) gT
      · exact xg_P_cg (h := h) (m := m) rfl rfl rfl rfl rfl (fun k hk => ev k (by omega)) gP
      · exact xg_B_cg (h := h) (m := m) rfl rfl rfl rfl (fun k hk => ev k (by omega)) (by rw [ev 10 (by omega)]; exact Int.le_refl _) gB
      · exact xg_A_cg (h := h) (m := m) rfl rfl (fun k hk => ev k (by omega)) gA
    · rw [xf_ip_f d5] at hQ
      exact hQ h xs_rf I
  · rw [c1] at c
    exact And.intro (fun _ => bad (fun z => c z.1)) (fun z => absurd rfl z)
theorem q_M_row {lev : Nat} {h : xq_H} {Q : Option xq_V → xq_H → Prop} {md k n : Int} (hl : 9 ≤ lev) (hV : xf_VM (h 65)) (hN : xf_VN (h 65)) (hQ : ∀ h', xr_r5 h h' → h' 65 = (r_row (h 65) md k n).2 → Q (some (xI (r_row (h 65) md k n).1)) h') : xq_met lev y_M_row [xR 64, xI md, xI k, xI n] 81 h Q := by
  refine en_M_row (by omega) (fun K hK => ?_)
  have K0 := xr_r5_k (xr_rk_rf (h := h))
  have V3 := hV.2.2.1
  unfold r_row at hQ
  have bad : ¬ ((0 ≤ md ∧ md < h 65 10) ∧ 0 ≤ k ∧ k ≤ 3) → Q (some (xI (-1))) h := fun z => by
    rw [xf_ip_f z] at hQ
    exact hQ h K0 rfl
  refine xq_go hK [] 60 ?_
  refine ⟨lev - 1, by omega, c_M_isMender (by omega) V3 (fun c => ?_) (fun c => ?_)⟩
  · refine And.intro (fun z => absurd z (by decide)) (fun _ => ?_)
    refine ⟨lev - 1, by omega, c_M_in (by omega) (fun d1 => ?_) (fun d1 => ?_)⟩
    · refine And.intro (fun _ => ?_) (fun z => absurd z (by decide))
      rw [xf_ip_t ⟨c, d1⟩] at hQ
      refine ⟨lev - 1, by omega, c_M_in (by omega) (fun d2 => ?_) (fun d2 => ?_)⟩
      · refine And.intro (fun _ => ?_) (fun z => absurd z (by decide))
        rw [xf_ip_t d2] at hQ
        refine And.intro (by omega) ?_
        refine And.intro (by omega) ?_
        refine And.intro (fun d3 => ?_) (fun d3 => ?_)
        · rw [xf_ip_t d3] at hQ
          refine And.intro (by omega) ?_
          refine And.intro (by omega) ?_
          refine And.intro (by omega) ?_
          refine And.intro (by omega) ?_
          refine And.intro (by omega) ?_
          refine And.intro (by omega) ?_
          refine And.intro (by omega) ?_
          refine And.intro (by omega) ?_
          exact hQ _ (xr_r5_u K0 (44 + 4 * md + k) n) (by rw [xq_u_up])
        · rw [xf_ip_f d3] at hQ
          exact hQ h K0 rfl
      · refine And.intro (fun z => absurd rfl z) (fun _ => ?_)
        rw [xf_ip_f d2] at hQ
        exact hQ h K0 rfl
    · exact And.intro (fun z => absurd rfl z) (fun _ => bad (fun z => d1 z.2))
  · exact And.intro (fun _ => bad (fun z => c z.1)) (fun z => absurd rfl z)
