/-! CALLS THAT CHANGE, more of them (genmut2.py) -/
theorem c_W_add {lev : Nat} {h : xq_H} {Q : Option xq_V → xq_H → Prop} {w wt : Int} (hl : 3 ≤ lev) (hs : 0 ≤ h 3 5 ∧ h 3 5 ≤ 8) (hw : xf_wd w)
    (h0 : h 3 5 = 8 → Q (some (xI 0)) h)
    (h1 : h 3 5 < 8 → ∀ h', xs_eq [3, 4, 5, 6, 7, 8] h h' → h' 3 5 = h 3 5 + 1 → (∀ k : Int, h' 4 k = if k = h 3 5 then w else h 4 k) → (∀ k : Int, h' 5 k = if k = h 3 5 then wt else h 5 k) → (∀ k : Int, h' 6 k = if k = h 3 5 then 0 else h 6 k) → (∀ k : Int, h' 7 k = if k = h 3 5 then xf_sz w else h 7 k) →
      (∀ k : Nat, (k : Int) < xf_sz w → h' 8 (h 3 5 * 5 + k) = xf_lt w (xf_sz w).toNat k) → (∀ k : Int, k < h 3 5 * 5 → h' 8 k = h 8 k) → Q (some (xI 1)) h') : xq_met lev y_W_add [xR 3, xI w, xI wt] 81 h Q := by
  refine en_W_add (by omega) (fun K hK => ?_)
  have bw := xf_szb hw
  have w1 := hw.1
  have w2 := hw.2.1
  obtain ⟨n, hn⟩ : ∃ n, n = h 3 5 := ⟨_, rfl⟩
  obtain ⟨g, hg⟩ : ∃ g : Nat, xf_sz w = g := ⟨(xf_sz w).toNat, by omega⟩
  have loop : ∀ (j : Nat) (kI r : Int) (h' : xq_H), j ≤ g → kI = (j : Int) - 1 → r = xf_cut w (g - j) → n < 8 → xs_eq [4, 5, 6, 7, 8] h h' → (∀ k : Int, h' 4 k = if k = n then w else h 4 k) → (∀ k : Int, h' 5 k = if k = n then wt else h 5 k) → (∀ k : Int, h' 6 k = if k = n then 0 else h 6 k) → (∀ k : Int, h' 7 k = if k = n then xf_sz w else h 7 k) →
      (∀ k : Nat, j ≤ k → k < g → h' 8 (n * 5 + k) = xf_lt w g k) → (∀ k : Int, k < n * 5 → h' 8 k = h 8 k) → K 44 [some (xR 3), some (xI w), some (xI wt), some (xI r), some (xI kI)] [] 81 h' := by
    intro j
    induction j with
    | zero =>
      intro kI r h' hj ek er h8 hs4 a4 a5 a6 a7 a8 b8
      have e3 : h' 3 5 = n := by rw [hs4 3 (by decide)]; exact hn.symm
      refine xq_go hK [44] 60 ?_
      refine And.intro (fun _ => ?_) (fun c => absurd c (by omega))
      refine And.intro (by omega) ?_
      rw [e3]
      rw [← hn] at h1
      refine And.intro (Or.inr rfl) (h1 h8 _ (xs_u (xs_tr xs_rf hs4 (X := []) (by decide) (by decide)) (by decide) _ _) (by rw [xu_eq]) (fun k => ?_) (fun k => ?_) (fun k => ?_) (fun k => ?_) (fun k hk => ?_) (fun k hk => ?_))
      · rw [xq_u_o (by decide)]; exact a4 k
      · rw [xq_u_o (by decide)]; exact a5 k
      · rw [xq_u_o (by decide)]; exact a6 k
      · rw [xq_u_o (by decide)]; exact a7 k
      · rw [xq_u_o (by decide), hg, show ((g : Nat) : Int).toNat = g by omega]
        exact a8 k (by omega) (by omega)
      · rw [xq_u_o (by decide)]; exact b8 k hk
    | succ j ih =>
      intro kI r h' hj ek er h8 hs4 a4 a5 a6 a7 a8 b8
      have e3 : h' 3 5 = n := by rw [hs4 3 (by decide)]; exact hn.symm
      have hr := xf_cut_nn (show 0 ≤ w by omega) (g - (j + 1))
      refine xq_go hK [44] 60 ?_
      refine And.intro (fun c => absurd c (by omega)) (fun _ => ?_)
      refine And.intro (fun c => absurd c (by omega)) (fun _ => ?_)
      refine And.intro (by omega) ?_
      refine And.intro (by omega) ?_
      refine And.intro (by omega) ?_
      refine And.intro (by omega) ?_
      refine And.intro (by omega) ?_
      refine And.intro (by omega) ?_
      refine ih _ _ _ (by omega) (by omega) ?_ h8 (xs_u hs4 (by decide) _ _) (fun k => ?_) (fun k => ?_) (fun k => ?_) (fun k => ?_) (fun k z1 z2 => ?_) (fun k hk => ?_)
      · rw [er, show g - j = g - (j + 1) + 1 by omega]; rfl
      · rw [xq_u_o (by decide)]; exact a4 k
      · rw [xq_u_o (by decide)]; exact a5 k
      · rw [xq_u_o (by decide)]; exact a6 k
      · rw [xq_u_o (by decide)]; exact a7 k
      · rw [xu_rd, e3]
        by_cases hkj : k = j
        · rw [if_pos (by omega), er, xf_lt, show g - 1 - k = g - (j + 1) by omega]
        · rw [if_neg (by omega)]
          exact a8 k (by omega) z2
      · rw [xu_rd, e3, if_neg (by omega)]
        exact b8 k hk
  refine xq_go hK [34, 44] 60 ?_
  refine And.intro (fun c => absurd c (by omega)) (fun _ => ?_)
  refine And.intro (fun c => ?_) (fun c => ?_)
  · refine And.intro (by omega) ?_
    have e1 : xq_u h 4 (h 3 5) w 3 5 = h 3 5 := rfl
    refine And.intro (by omega) ?_
    have e2 : xq_u (xq_u h 4 (h 3 5) w) 5 (xq_u h 4 (h 3 5) w 3 5) wt 3 5 = h 3 5 := rfl
    refine And.intro (by omega) ?_
    refine ⟨lev - 1, by omega, c_X_lettersOf (by omega) (fun _ => ?_) (fun z => absurd hw z)⟩
    have e4 : xq_u (xq_u (xq_u h 4 (h 3 5) w) 5 (xq_u h 4 (h 3 5) w 3 5) wt) 6 (xq_u (xq_u h 4 (h 3 5) w) 5 (xq_u h 4 (h 3 5) w 3 5) wt 3 5) 0 3 5 = h 3 5 := rfl
    refine And.intro (by omega) ?_
    obtain ⟨h7, hh7⟩ : ∃ h7, h7 = xq_u (xq_u (xq_u (xq_u h 4 (h 3 5) w) 5 (h 3 5) wt) 6 (h 3 5) 0) 7 (h 3 5) (xf_sz w) := ⟨_, rfl⟩
    have e5 : h7 3 5 = h 3 5 := by rw [hh7]; rfl
    have e7 : h7 7 (h7 3 5) = xf_sz w := by rw [e5, hh7, xu_eq]
    have go : K 34 [some (xR 3), some (xI w), some (xI wt), none, none] [] 81 h7 := by
      refine xq_go hK [44] 60 ?_
      refine And.intro (by omega) ?_
      rw [e7]
      refine And.intro (by omega) ?_
      rw [← hn] at hh7
      refine loop g _ _ _ (Nat.le_refl _) (by omega) (by rw [Nat.sub_self]; rfl) (by omega) ?_ (fun k => ?_) (fun k => ?_) (fun k => ?_) (fun k => ?_) (fun k z1 z2 => by omega) (fun k hk => ?_)
      · rw [hh7]
        exact xs_u (xs_u (xs_u (xs_u xs_rf (by decide) _ _) (by decide) _ _) (by decide) _ _) (by decide) _ _
      · rw [hh7, xq_u_o (by decide), xq_u_o (by decide), xq_u_o (by decide), xu_rd]
      · rw [hh7, xq_u_o (by decide), xq_u_o (by decide), xu_rd, xq_u_o (by decide)]
      · rw [hh7, xq_u_o (by decide), xu_rd, xq_u_o (by decide), xq_u_o (by decide)]
      · rw [hh7, xu_rd, xq_u_o (by decide), xq_u_o (by decide), xq_u_o (by decide)]
      · rw [hh7]; rfl
    rw [hh7] at go
    exact go
  · exact And.intro (Or.inl rfl) (h0 (by omega))
noncomputable def xf_wdr (m : Int → Int) (w wt : Int) : Int → Int := xf_up (xf_up (xf_up (xf_up m (18 + m 11) w) (2 + m 11) wt) (26 + m 11) 0) 11 (m 11 + 1)
noncomputable def r_word (m : Int → Int) (w wt : Int) : Int × (Int → Int) := xf_ip (xf_wd w ∧ 0 ≤ wt ∧ wt ≤ 99) (xf_ip (xf_num m w = -1) (xf_ip (m 11 = 8) (-4, m) (m 11, xf_wdr m w wt)) (-3, m)) (-2, m)
theorem q_X_word {lev : Nat} {h : xq_H} {Q : Option xq_V → xq_H → Prop} {m : Int → Int} {P : List xf_Cl} {w wt : Int} {T : Int} (hl : 9 ≤ lev) (I : xr_ok h m P T) (hQ : ∀ h', xr_cm h h' → xr_ok h' (r_word m w wt).2 P T → Q (some (xI (r_word m w wt).1)) h') : xq_met lev y_X_word [xR 0, xI w, xI wt] 81 h Q := by
  refine en_X_word (by omega) (fun K hK => ?_)
  obtain ⟨gL, gW, gC, gF, gT, gP, gB, gA⟩ := xr_ok_g I
  obtain ⟨l1, l2, l3, l4, l5⟩ := gL
  have gL := (xr_ok_g I).1
  have V := I.vm
  unfold r_word at hQ
  have bad : ¬ (xf_wd w ∧ 0 ≤ wt ∧ wt ≤ 99) → Q (some (xI (-2))) h := fun z => by
    rw [xf_ip_f z] at hQ
    exact hQ h xs_rf I
  refine xq_go hK [] 60 ?_
  refine ⟨lev - 1, by omega, c_X_isWord (by omega) (fun c => ?_) (fun c => ?_)⟩
  · refine And.intro (fun z => absurd z (by decide)) (fun _ => ?_)
    refine And.intro (fun c2 => bad (by omega)) (fun c2 => And.intro (fun c3 => ?_) (fun c3 => bad (by omega)))
    rw [xf_ip_t ⟨c, by omega, by omega⟩] at hQ
    refine ⟨lev - 1, by omega, c_W_numberOf (by omega) (by omega) ?_⟩
    rw [xr_num V I.now.bs]
    have hnb := xf_num_bd l2.1 w
    refine And.intro (fun c4 => ?_) (fun c4 => ?_)
    · rw [xf_ip_t (show xf_num m w = -1 by omega)] at hQ
      have hno := xf_ix_no (show xf_ix (fun k => m (18 + k)) w (m 11).toNat = -1 from (show xf_num m w = -1 by omega))
      refine ⟨lev - 1, by omega, c_W_add (by omega) (by omega) c (fun c5 => ?_) (fun c5 h' E3 b3 b4 b5 b6 b7 b8 d8 => ?_)⟩
      · rw [xf_ip_t (show m 11 = 8 by omega)] at hQ
        refine And.intro (fun _ => ?_) (fun z => absurd rfl z)
        exact hQ h xs_rf I
      · rw [xf_ip_f (show ¬ m 11 = 8 by omega)] at hQ
        rw [l1] at b3 b4 b5 b6 b7 b8 d8 c5
        obtain ⟨n, hn⟩ : ∃ n, n = m 11 := ⟨_, rfl⟩
        obtain ⟨m', hm⟩ : ∃ m', m' = xf_wdr m w wt := ⟨_, rfl⟩
        have q : ∀ h', xr_cm h h' → xr_ok h' m' P T → Q (some (xI (m 11))) h' := by rw [hm]; exact hQ
        unfold xf_wdr at hm
        have ev : ∀ k : Int, ¬ (k = 11 ∨ k = 18 + m 11 ∨ k = 2 + m 11 ∨ k = 26 + m 11) → m' k = m k := fun k z => by rw [hm, xf_up_n (by omega), xf_up_n (by omega), xf_up_n (by omega), xf_up_n (by omega)]
        have e11 : m' 11 = m 11 + 1 := by rw [hm, xf_up_e]
        have e18 : m' (18 + m 11) = w := by rw [hm, xf_up_n (by omega), xf_up_n (by omega), xf_up_n (by omega), xf_up_e]
        have e2 : m' (2 + m 11) = wt := by rw [hm, xf_up_n (by omega), xf_up_n (by omega), xf_up_e]
        have e26 : m' (26 + m 11) = 0 := by rw [hm, xf_up_n (by omega), xf_up_e]
        have E := E3
        have p2 : xf_p2 (m 11 + 1).toNat = 2 * xf_p2 (m 11).toNat := by
          rw [show (m 11 + 1).toNat = (m 11).toNat + 1 by omega]
          rfl
        have p2c := xf_p2_c (n := (m 11).toNat) (by omega)
        refine And.intro (fun z => absurd z (by decide)) (fun _ => ?_)
        refine And.intro (by omega) ?_
        rw [b3, show m 11 + 1 - 1 = m 11 by omega]
        refine q h' (xr_cm_s E3 (by decide)) (xr_ok_mk ?_ ?_ ?_ ?_ ?_ ?_ ?_ ?_)
        · refine ⟨by rw [e11]; exact b3, by omega, fun i x y => ?_, fun i x y k hk => ?_, fun i j x y z => ?_⟩
          · rw [e11] at y ⊢
            rw [b4, b6, b7, p2]
            by_cases e : i = m 11
            · rw [if_pos e, if_pos e, if_pos e, e, e18, e26]
              exact ⟨rfl, rfl, rfl, c, by omega, by omega⟩
            · rw [if_neg e, if_neg e, if_neg e, ev (18 + i) (by omega), ev (26 + i) (by omega)]
              have z := l3 i x (by omega)
              exact ⟨z.1, z.2.1, z.2.2.1, z.2.2.2.1, z.2.2.2.2.1, by omega⟩
          · rw [e11] at y
            by_cases e : i = m 11
            · rw [e, e18] at hk ⊢
              exact b8 k hk
            · rw [ev (18 + i) (by omega)] at hk ⊢
              have z := l3 i x (by omega)
              have zb := xf_szb z.2.2.2.1
              rw [d8 _ (by omega)]
              exact l4 i x (by omega) k hk
          · rw [e11] at z
            rw [ev (18 + i) (by omega)]
            by_cases e : j = m 11
            · rw [e, e18]
              have := hno i.toNat (by omega)
              rw [show ((i.toNat : Nat) : Int) = i by omega] at this
              exact this
            · rw [ev (18 + j) (by omega)]
              exact l5 i j x y (by omega)
        · intro i x y
          rw [e11] at y
          rw [b5]
          by_cases e : i = m 11
          · rw [if_pos e, e, e2]
            exact ⟨rfl, by omega, by omega⟩
          · rw [if_neg e, ev _ (by omega)]
            exact gW i x (by omega)
        · exact xg_C_cg (h := h) (m := m) (congrFun (E 9 (by decide)) 3) (E 10 (by decide)) (E 11 (by decide)) (E 12 (by decide)) (fun k hk => ev k (by omega)) gC
        · exact xg_F_cg (h := h) (m := m) (congrFun (E 13 (by decide)) 5) (E 16 (by decide)) (fun k hk => ev k (by omega)) gF
        · exact xg_T_cg (h := h) (m := m) (congrFun (E 13 (by decide)) 4) (congrFun (E 13 (by decide)) 3) (E 14 (by decide)) (E 15 (by decide)) (fun k hk => ev k (by omega)) gT
        · exact xg_P_cg (h := h) (m := m) (E 17 (by decide)) (E 18 (by decide)) (E 19 (by decide)) (E 20 (by decide)) (congrFun (E 2 (by decide)) 7) (fun k hk => ev k (by omega)) gP
        · exact xg_B_cg (h := h) (m := m) (congrFun (E 21 (by decide)) 3) (E 22 (by decide)) (E 23 (by decide)) (E 24 (by decide)) (fun k hk => ev k (by omega)) (by rw [ev 10 (by omega)]; exact Int.le_refl _) gB
        · exact xg_A_cg (h := h) (m := m) (congrFun (E 2 (by decide)) 6) (E 25 (by decide)) (fun k hk => ev k (by omega)) gA
    · rw [xf_ip_f (show ¬ xf_num m w = -1 by omega)] at hQ
      exact hQ h xs_rf I
  · exact And.intro (fun _ => bad (fun z => c z.1)) (fun z => absurd rfl z)
theorem xb_cl8 : ∀ n : Nat, n < 8 → ∀ x : Nat, x < 2 ^ n → xq_and x (xq_xor (xq_shl 1 n) (-1)) = x := by decide +kernel
theorem q_M_word {lev : Nat} {h : xq_H} {Q : Option xq_V → xq_H → Prop} {w wt : Int} (hl : 9 ≤ lev) (hV : xf_VM (h 65)) (hN : xf_VN (h 65)) (hQ : ∀ h', xr_r5 h h' → h' 65 = (r_word (h 65) w wt).2 → Q (some (xI (r_word (h 65) w wt).1)) h') : xq_met lev y_M_word [xR 64, xI w, xI wt] 81 h Q := by
  refine en_M_word (by omega) (fun K hK => ?_)
  have K0 := xr_r5_k (xr_rk_rf (h := h))
  have V1 := hV.1
  have nx := hN.nx
  unfold r_word at hQ
  have bad : ¬ (xf_wd w ∧ 0 ≤ wt ∧ wt ≤ 99) → Q (some (xI (-2))) h := fun z => by
    rw [xf_ip_f z] at hQ
    exact hQ h K0 rfl
  refine xq_go hK [53] 60 ?_
  refine ⟨lev - 1, by omega, c_M_isWord (by omega) (fun c => ?_) (fun c => ?_)⟩
  · refine And.intro (fun z => absurd z (by decide)) (fun _ => ?_)
    refine ⟨lev - 1, by omega, c_M_in (by omega) (fun c2 => ?_) (fun c2 => ?_)⟩
    · refine And.intro (fun _ => ?_) (fun z => absurd z (by decide))
      rw [xf_ip_t ⟨c, c2⟩] at hQ
      refine ⟨lev - 1, by omega, c_M_indexOf (by omega) V1 ?_⟩
      refine And.intro (fun c4 => ?_) (fun c4 => ?_)
      · rw [xf_ip_t c4] at hQ
        refine And.intro (by omega) ?_
        refine And.intro (fun c5 => ?_) (fun c5 => ?_)
        · rw [xf_ip_f c5] at hQ
          refine And.intro (by omega) ?_
          refine And.intro (by omega) ?_
          refine And.intro (by omega) ?_
          refine And.intro (by omega) ?_
          refine And.intro (by omega) ?_
          refine And.intro (by omega) ?_
          refine And.intro (by omega) ?_
          obtain ⟨m3, hm3⟩ : ∃ m3, m3 = xf_up (xf_up (xf_up (h 65) (18 + h 65 11) w) (2 + h 65 11) wt) (26 + h 65 11) 0 := ⟨_, rfl⟩
          have e11 : m3 11 = h 65 11 := by rw [hm3, xf_up_n (by omega), xf_up_n (by omega), xf_up_n (by omega)]
          have loop : ∀ (d j : Nat) (jI : Int) (h2 : xq_H), (j : Int) + d = h 65 11 → jI = j → xr_r5 h h2 → h2 65 = m3 → K 53 [some (xR 64), some (xI w), some (xI wt), some (xI (h 65 11)), some (xI jI)] [] 81 h2 := by
            intro d
            induction d with
            | zero =>
              intro j jI h2 hd ej hk e65
              refine xq_go hK [53] 60 ?_
              refine And.intro (fun _ => ?_) (fun z => absurd z (by omega))
              refine And.intro (by omega) ?_
              refine And.intro (by rw [e65]; omega) ?_
              rw [e65, e11]
              refine And.intro (by omega) ?_
              exact hQ _ (xr_r5_u hk 11 (h 65 11 + 1)) (by rw [xq_u_up, e65, hm3]; rfl)
            | succ d ih =>
              intro j jI h2 hd ej hk e65
              subst ej
              have ej26 : m3 (26 + j) = h 65 (26 + j) := by rw [hm3, xf_up_n (by omega), xf_up_n (by omega), xf_up_n (by omega)]
              have b1 := (hV.2.1 j (by omega) (by omega)).2.2
              have b2 := nx j (by omega) (by omega)
              obtain ⟨a, ha⟩ := Int.eq_ofNat_of_zero_le b1.1
              have p := xf_p2_n (n := (h 65 11).toNat) (by omega)
              have cl := xb_cl8 (h 65 11).toNat (by omega) a (by omega)
              rw [show (((h 65 11).toNat : Nat) : Int) = h 65 11 by omega] at cl
              refine xq_go hK [53] 60 ?_
              refine And.intro (fun z => absurd z (by omega)) (fun _ => ?_)
              refine And.intro (by omega) ?_
              refine And.intro (by omega) ?_
              refine And.intro (by omega) ?_
              refine And.intro (by omega) ?_
              refine ih (j + 1) _ _ (by omega) (by omega) (xr_r5_u hk _ _) ?_
              rw [xq_u_up, e65, ej26, ha, cl]
              funext k
              unfold xf_up
              split
              · rename_i e
                rw [e, ej26, ha]
              · rfl
          exact loop (h 65 11).toNat 0 _ _ (by omega) rfl (xr_r5_u (xr_r5_u (xr_r5_u K0 _ _) _ _) _ _) (by rw [hm3, xq_u_up, xq_u_up, xq_u_up])
        · rw [xf_ip_t c5] at hQ
          exact hQ h K0 rfl
      · rw [xf_ip_f c4] at hQ
        exact hQ h K0 rfl
    · exact And.intro (fun z => absurd rfl z) (fun _ => bad (fun z => c2 z.2))
  · exact And.intro (fun _ => bad (fun z => c z.1)) (fun z => absurd rfl z)
noncomputable def xf_mdr (m : Int → Int) (kd v : Int) : Int → Int := fun k => if k = 10 then m 10 + 1 else if k = 34 + m 10 then kd else if k = 39 + m 10 then v else if 44 + 4 * m 10 ≤ k ∧ k < 48 + 4 * m 10 then 0 else m k
noncomputable def r_mender (m : Int → Int) (kd v : Int) : Int × (Int → Int) := xf_ip (0 ≤ kd ∧ kd ≤ 6) (xf_ip (0 ≤ v ∧ v ≤ 9) (xf_ip (m 10 = 5) (-4, m) (m 10, xf_mdr m kd v)) (-2, m)) (-1, m)
theorem c_C_add {lev : Nat} {h : xq_H} {Q : Option xq_V → xq_H → Prop} {kd v : Int} (hl : 1 ≤ lev) (hs : 0 ≤ h 9 3 ∧ h 9 3 ≤ 5)
    (h0 : h 9 3 = 5 → Q (some (xI 0)) h)
    (h1 : h 9 3 < 5 → ∀ h', xs_eq [9, 10, 11, 12] h h' → h' 9 3 = h 9 3 + 1 → (∀ k : Int, h' 10 k = if k = h 9 3 then kd else h 10 k) → (∀ k : Int, h' 11 k = if k = h 9 3 then v else h 11 k) → (∀ k : Int, h' 12 k = if h 9 3 * 4 ≤ k ∧ k < h 9 3 * 4 + 4 then 0 else h 12 k) → Q (some (xI 1)) h') : xq_met lev y_C_add [xR 9, xI kd, xI v] 81 h Q := by
  refine en_C_add (by omega) (fun K hK => ?_)
  obtain ⟨n, hn⟩ : ∃ n, n = h 9 3 := ⟨_, rfl⟩
  have loop : ∀ (d k : Nat) (kI : Int) (h' : xq_H), k + d = 4 → kI = k → n < 5 → xs_eq [10, 11, 12] h h' → (∀ k : Int, h' 10 k = if k = n then kd else h 10 k) → (∀ k : Int, h' 11 k = if k = n then v else h 11 k) → (∀ j : Int, h' 12 j = if n * 4 ≤ j ∧ j < n * 4 + k then 0 else h 12 j) → K 23 [some (xR 9), some (xI kd), some (xI v), some (xI kI)] [] 81 h' := by
    intro d
    induction d with
    | zero =>
      intro k kI h' hd ek h5 hs3 a10 a11 a12
      have e9 : h' 9 3 = n := by rw [hs3 9 (by decide)]; exact hn.symm
      refine xq_go hK [23] 60 ?_
      refine And.intro (fun _ => ?_) (fun c => absurd c (by omega))
      refine And.intro (by omega) ?_
      rw [e9]
      rw [← hn] at h1
      refine And.intro (Or.inr rfl) (h1 h5 _ (xs_u (xs_tr xs_rf hs3 (X := []) (by decide) (by decide)) (by decide) _ _) (by rw [xu_eq]) (fun k => ?_) (fun k => ?_) (fun j => ?_))
      · rw [xq_u_o (by decide)]; exact a10 k
      · rw [xq_u_o (by decide)]; exact a11 k
      · rw [xq_u_o (by decide), a12 j, show (k : Int) = 4 by omega]
    | succ d ih =>
      intro k kI h' hd ek h5 hs3 a10 a11 a12
      have e9 : h' 9 3 = n := by rw [hs3 9 (by decide)]; exact hn.symm
      refine xq_go hK [23] 60 ?_
      refine And.intro (fun c => absurd c (by omega)) (fun _ => ?_)
      refine And.intro (by omega) ?_
      refine And.intro (by omega) ?_
      refine And.intro (by omega) ?_
      refine And.intro (by omega) ?_
      refine ih (k + 1) _ _ (by omega) (by omega) h5 (xs_u hs3 (by decide) _ _) (fun k => ?_) (fun k => ?_) (fun j => ?_)
      · rw [xq_u_o (by decide)]; exact a10 k
      · rw [xq_u_o (by decide)]; exact a11 k
      · rw [xu_rd, e9, a12 j]
        by_cases e : j = n * 4 + kI
        · rw [if_pos e, if_pos (by omega)]
        · rw [if_neg e]
          by_cases e2 : n * 4 ≤ j ∧ j < n * 4 + k
          · rw [if_pos e2, if_pos (by omega)]
          · rw [if_neg e2, if_neg (by omega)]
  refine xq_go hK [23] 60 ?_
  refine And.intro (fun c => absurd c (by omega)) (fun _ => ?_)
  refine And.intro (fun c => ?_) (fun c => ?_)
  · refine And.intro (by omega) ?_
    have e1 : xq_u h 10 (h 9 3) kd 9 3 = h 9 3 := rfl
    refine And.intro (by omega) ?_
    refine loop 4 0 _ _ (by omega) rfl (by omega) (xs_u (xs_u xs_rf (by decide) _ _) (by decide) _ _) (fun k => ?_) (fun k => ?_) (fun j => ?_)
    · rw [xq_u_o (by decide), xu_rd, hn]
    · rw [xu_rd, hn]
      rfl
    · rw [if_neg (by omega)]
      rfl
  · exact And.intro (Or.inl rfl) (h0 (by omega))
theorem q_X_mender {lev : Nat} {h : xq_H} {Q : Option xq_V → xq_H → Prop} {m : Int → Int} {P : List xf_Cl} {kd v : Int} {T : Int} (hl : 9 ≤ lev) (I : xr_ok h m P T) (hQ : ∀ h', xr_cm h h' → xr_ok h' (r_mender m kd v).2 P T → Q (some (xI (r_mender m kd v).1)) h') : xq_met lev y_X_mender [xR 0, xI kd, xI v] 81 h Q := by
  refine en_X_mender (by omega) (fun K hK => ?_)
  obtain ⟨gL, gW, gC, gF, gT, gP, gB, gA⟩ := xr_ok_g I
  obtain ⟨c1, c2, c3⟩ := gC
  have gC := (xr_ok_g I).2.2.1
  unfold r_mender at hQ
  have bad : ¬ (0 ≤ kd ∧ kd ≤ 6) → Q (some (xI (-1))) h := fun z => by
    rw [xf_ip_f z] at hQ
    exact hQ h xs_rf I
  refine xq_go hK [] 60 ?_
  refine And.intro (fun c => bad (by omega)) (fun c => And.intro (fun d => ?_) (fun d => bad (by omega)))
  rw [xf_ip_t (show 0 ≤ kd ∧ kd ≤ 6 by omega)] at hQ
  have bad2 : ¬ (0 ≤ v ∧ v ≤ 9) → Q (some (xI (-2))) h := fun z => by
    rw [xf_ip_f z] at hQ
    exact hQ h xs_rf I
  refine And.intro (fun d2 => bad2 (by omega)) (fun d2 => And.intro (fun d3 => ?_) (fun d3 => bad2 (by omega)))
  rw [xf_ip_t (show 0 ≤ v ∧ v ≤ 9 by omega)] at hQ
  refine ⟨lev - 1, by omega, c_C_add (by omega) (by omega) (fun c5 => ?_) (fun c5 h' E3 b9 b10 b11 b12 => ?_)⟩
  · rw [xf_ip_t (show m 10 = 5 by omega)] at hQ
    refine And.intro (fun _ => ?_) (fun z => absurd rfl z)
    exact hQ h xs_rf I
  · rw [xf_ip_f (show ¬ m 10 = 5 by omega)] at hQ
    rw [c1] at b9 b10 b11 b12 c5
    obtain ⟨m', hm⟩ : ∃ m', m' = xf_mdr m kd v := ⟨_, rfl⟩
    have q : ∀ h', xr_cm h h' → xr_ok h' m' P T → Q (some (xI (m 10))) h' := by rw [hm]; exact hQ
    unfold xf_mdr at hm
    have ev : ∀ k : Int, ¬ (k = 10 ∨ k = 34 + m 10 ∨ k = 39 + m 10 ∨ 44 + 4 * m 10 ≤ k ∧ k < 48 + 4 * m 10) → m' k = m k := fun k z => by
      rw [hm]
      show (if _ then _ else _) = _
      rw [if_neg (by omega), if_neg (by omega), if_neg (by omega), if_neg (by omega)]
    have e10 : m' 10 = m 10 + 1 := by rw [hm]; rfl
    have e34 : m' (34 + m 10) = kd := by
      rw [hm]
      show (if _ then _ else _) = _
      rw [if_neg (by omega), if_pos rfl]
    have e39 : m' (39 + m 10) = v := by
      rw [hm]
      show (if _ then _ else _) = _
      rw [if_neg (by omega), if_neg (by omega), if_pos rfl]
    have e44 : ∀ k : Int, 0 ≤ k → k < 4 → m' (44 + 4 * m 10 + k) = 0 := fun k z w => by
      rw [hm]
      show (if _ then _ else _) = _
      rw [if_neg (by omega), if_neg (by omega), if_neg (by omega), if_pos (by omega)]
    have E := E3
    refine And.intro (fun z => absurd z (by decide)) (fun _ => ?_)
    refine And.intro (by omega) ?_
    rw [b9, show m 10 + 1 - 1 = m 10 by omega]
    refine q h' (xr_cm_s E3 (by decide)) (xr_ok_mk ?_ ?_ ?_ ?_ ?_ ?_ ?_ ?_)
    · exact xg_L_cg (h := h) (m := m) (congrFun (E 3 (by decide)) 5) (E 4 (by decide)) (E 6 (by decide)) (E 7 (by decide)) (E 8 (by decide)) (fun k hk => ev k (by omega)) gL
    · exact xg_W_cg (h := h) (m := m) gL.2.1.2 (E 5 (by decide)) (fun k hk => ev k (by omega)) gW
    · refine ⟨by rw [e10]; exact b9, by omega, fun i x y => ?_⟩
      rw [e10] at y
      rw [b10, b11]
      by_cases e : i = m 10
      · rw [if_pos e, if_pos e, e, e34, e39]
        refine ⟨rfl, rfl, by omega, by omega, fun k z w => ?_⟩
        rw [b12, if_pos (by omega), e44 k z w]
        exact ⟨rfl, by omega, by omega⟩
      · rw [if_neg e, if_neg e, ev (34 + i) (by omega), ev (39 + i) (by omega)]
        have z := c3 i x (by omega)
        refine ⟨z.1, z.2.1, z.2.2.1, z.2.2.2.1, fun k z1 w => ?_⟩
        rw [b12, if_neg (by omega), ev _ (by omega)]
        exact z.2.2.2.2 k z1 w
    · exact xg_F_cg (h := h) (m := m) (congrFun (E 13 (by decide)) 5) (E 16 (by decide)) (fun k hk => ev k (by omega)) gF
    · exact xg_T_cg (h := h) (m := m) (congrFun (E 13 (by decide)) 4) (congrFun (E 13 (by decide)) 3) (E 14 (by decide)) (E 15 (by decide)) (fun k hk => ev k (by omega)) gT
    · exact xg_P_cg (h := h) (m := m) (E 17 (by decide)) (E 18 (by decide)) (E 19 (by decide)) (E 20 (by decide)) (congrFun (E 2 (by decide)) 7) (fun k hk => ev k (by omega)) gP
    · exact xg_B_cg (h := h) (m := m) (congrFun (E 21 (by decide)) 3) (E 22 (by decide)) (E 23 (by decide)) (E 24 (by decide)) (fun k hk => ev k (by omega)) (by omega) gB
    · exact xg_A_cg (h := h) (m := m) (congrFun (E 2 (by decide)) 6) (E 25 (by decide)) (fun k hk => ev k (by omega)) gA
theorem q_M_mender {lev : Nat} {h : xq_H} {Q : Option xq_V → xq_H → Prop} {kd v : Int} (hl : 9 ≤ lev) (hV : xf_VM (h 65)) (hN : xf_VN (h 65)) (hQ : ∀ h', xr_r5 h h' → h' 65 = (r_mender (h 65) kd v).2 → Q (some (xI (r_mender (h 65) kd v).1)) h') : xq_met lev y_M_mender [xR 64, xI kd, xI v] 81 h Q := by
  refine en_M_mender (by omega) (fun K hK => ?_)
  have K0 := xr_r5_k (xr_rk_rf (h := h))
  have V3 := hV.2.2.1
  unfold r_mender at hQ
  refine xq_go hK [43] 60 ?_
  refine ⟨lev - 1, by omega, c_M_in (by omega) (fun c => ?_) (fun c => ?_)⟩
  · rw [xf_ip_t c] at hQ
    refine And.intro (fun _ => ?_) (fun z => absurd z (by decide))
    refine ⟨lev - 1, by omega, c_M_in (by omega) (fun c2 => ?_) (fun c2 => ?_)⟩
    · rw [xf_ip_t c2] at hQ
      refine And.intro (fun _ => ?_) (fun z => absurd z (by decide))
      refine And.intro (by omega) ?_
      refine And.intro (fun c5 => ?_) (fun c5 => ?_)
      · rw [xf_ip_f c5] at hQ
        refine And.intro (by omega) ?_
        refine And.intro (by omega) ?_
        refine And.intro (by omega) ?_
        refine And.intro (by omega) ?_
        refine And.intro (by omega) ?_
        obtain ⟨n, hn⟩ : ∃ n, n = h 65 10 := ⟨_, rfl⟩
        have loop : ∀ (d j : Nat) (jI : Int) (h2 : xq_H), j + d = 4 → jI = j → xr_r5 h h2 → (∀ k : Int, h2 65 k = if k = 34 + n then kd else if k = 39 + n then v else if 44 + 4 * n ≤ k ∧ k < 44 + 4 * n + j then 0 else h 65 k) → K 43 [some (xR 64), some (xI kd), some (xI v), some (xI n), some (xI jI)] [] 81 h2 := by
          intro d
          induction d with
          | zero =>
            intro j jI h2 hd ej hk e65
            have e10 : h2 65 10 = n := by rw [e65, if_neg (by omega), if_neg (by omega), if_neg (by omega)]; exact hn.symm
            refine xq_go hK [43] 60 ?_
            refine And.intro (fun _ => ?_) (fun z => absurd z (by omega))
            refine And.intro (by omega) ?_
            refine And.intro (by omega) ?_
            refine And.intro (by omega) ?_
            rw [e10]
            rw [← hn] at hQ
            refine hQ _ (xr_r5_u hk 10 (n + 1)) (funext (fun k => ?_))
            rw [xu_rd, e65]
            show _ = (if _ then _ else _)
            rw [← hn]
            by_cases e : k = 10
            · rw [if_pos e, if_pos e]
            · rw [if_neg e, if_neg e, show 48 + 4 * n = 44 + 4 * n + j by omega]
          | succ d ih =>
            intro j jI h2 hd ej hk e65
            refine xq_go hK [43] 60 ?_
            refine And.intro (fun z => absurd z (by omega)) (fun _ => ?_)
            refine And.intro (by omega) ?_
            refine And.intro (by omega) ?_
            refine And.intro (by omega) ?_
            refine And.intro (by omega) ?_
            refine And.intro (by omega) ?_
            refine ih (j + 1) _ _ (by omega) (by omega) (xr_r5_u hk _ _) (fun k => ?_)
            rw [xu_rd, e65]
            by_cases e : k = 44 + 4 * n + jI
            · rw [if_pos e, if_neg (by omega), if_neg (by omega), if_pos (by omega)]
            · rw [if_neg e]
              by_cases e1 : k = 34 + n
              · rw [if_pos e1, if_pos e1]
              · rw [if_neg e1, if_neg e1]
                by_cases e2 : k = 39 + n
                · rw [if_pos e2, if_pos e2]
                · rw [if_neg e2, if_neg e2]
                  by_cases e3 : 44 + 4 * n ≤ k ∧ k < 44 + 4 * n + j
                  · rw [if_pos e3, if_pos (by omega)]
                  · rw [if_neg e3, if_neg (by omega)]
        rw [← hn]
        refine loop 4 0 _ _ (by omega) rfl (xr_r5_u (xr_r5_u K0 _ _) _ _) (fun k => ?_)
        rw [xu_rd, xu_rd]
        by_cases e1 : k = 34 + n
        · rw [if_neg (by omega), if_pos e1, if_pos e1]
        · rw [if_neg e1]
          by_cases e2 : k = 39 + n
          · rw [if_pos e2, if_neg e1, if_pos e2]
          · rw [if_neg e2, if_neg e1, if_neg e2, if_neg (by omega)]
      · rw [xf_ip_t c5] at hQ
        exact hQ h K0 rfl
    · rw [xf_ip_f c2] at hQ
      refine And.intro (fun z => absurd rfl z) (fun _ => ?_)
      exact hQ h K0 rfl
  · rw [xf_ip_f c] at hQ
    refine And.intro (fun z => absurd rfl z) (fun _ => ?_)
    exact hQ h K0 rfl
