/-! FEWEST TOUCHES, NEVER, ROOM, SAVED -/
def xf_tch (v way : Int) : Int × Int × Int := if way = 0 ∨ xf_sz v + 2 < xf_sz way + 1 then (xf_sz v + 2, v, 1) else (xf_sz way + 1, way, 0)
theorem xf_wv_wd {m : Int → Int} {P : List xf_Cl} {md v : Int} (hv : xf_wd v) : xf_wv m P md v = 0 ∨ xf_wd (xf_wv m P md v) := by
  unfold xf_wv
  split
  · rename_i h
    obtain ⟨k, h1, _, h3, _⟩ := xf_wa_at 584 (Nat.le_refl _) h
    rw [h3]
    exact Or.inr (xf_shw_wd h1)
  · split
    · exact Or.inr hv
    · exact Or.inl rfl
noncomputable def sp_touches (m : Int → Int) (P : List xf_Cl) (md w wh : Int) : Int := xf_if ((0 ≤ md ∧ md < m 10) ∧ 0 ≤ wh ∧ wh ≤ 2) (xf_if (xf_wd w) (if wh = 0 then (xf_tch w (xf_wv m P md w)).1 else if wh = 1 then (xf_tch w (xf_wv m P md w)).2.1 else (xf_tch w (xf_wv m P md w)).2.2) (-2)) (-1)
theorem q_X_touches {lev : Nat} {h : xq_H} {Q : Option xq_V → xq_H → Prop} {m : Int → Int} {P : List xf_Cl} {md w wh : Int} {T : Int} (hl : 9 ≤ lev) (I : xr_ok h m P T) (hQ : ∀ h', xr_ck h h' → Q (some (xI (sp_touches m P md w wh))) h') : xq_met lev y_X_touches [xR 0, xI md, xI w, xI wh] 81 h Q := by
  refine en_X_touches (by omega) (fun K hK => ?_)
  have ecs := I.now.bs.cs
  unfold sp_touches at hQ
  have bad : ¬ ((0 ≤ md ∧ md < m 10) ∧ 0 ≤ wh ∧ wh ≤ 2) → Q (some (xI (-1))) h := by
    intro c
    rw [xf_if_f c] at hQ
    exact hQ h xs_rf
  refine xq_go hK [42] 60 ?_
  refine ⟨lev - 1, by omega, c_C_has (by omega) (fun c => ?_) (fun c => ?_)⟩
  · rw [ecs] at c
    refine And.intro (fun z => absurd z (by decide)) (fun _ => ?_)
    refine And.intro (fun c2 => bad (fun z => by omega)) (fun c2 => And.intro (fun c3 => ?_) (fun c3 => bad (fun z => by omega)))
    rw [xf_if_t ⟨c, by omega, by omega⟩] at hQ
    refine ⟨lev - 1, by omega, c_X_isWord (by omega) (fun c4 => ?_) (fun c4 => ?_)⟩
    · refine And.intro (fun _ => ?_) (fun z => absurd z (by decide))
      rw [xf_if_t c4] at hQ
      have bw := xf_szb c4
      refine ⟨lev - 1, by omega, c_K_settle (by omega) I.vm I.now I.vn (fun h1 hs1 C1 => ?_)⟩
      refine ⟨lev - 1, by omega, c_X_wayTo (by omega) I.vm (xr_base_fr hs1 (by decide) I.now.bs) C1 c4 c (fun h2 hk2 => ?_)⟩
      have q := hQ h2 (xr_ck_tr (xr_ck_set hs1) (xr_ck_kp hk2))
      have hwd := xf_wv_wd (m := m) (P := P) (md := md) c4
      generalize xf_wv m P md w = way at q hwd ⊢
      have tail : ∀ bI : Int, (bI = 1 ∧ (way = 0 ∨ xf_sz w + 2 < xf_sz way + 1) ∨ bI = 0 ∧ ¬ (way = 0 ∨ xf_sz w + 2 < xf_sz way + 1)) → K 42 [some (xR 0), some (xI md), some (xI w), some (xI wh), some (xI way), some (xI (xf_sz w + 2)), none] [xI bI] 81 h2 := by
        intro bI hb
        unfold xf_tch at q
        rcases hb with ⟨rfl, hb⟩ | ⟨rfl, hb⟩
        · rw [if_pos hb] at q
          refine xq_go hK [] 60 ?_
          refine And.intro (fun e => ?_) (fun e => And.intro (fun e2 => ?_) (fun e2 => ?_))
          · rw [if_pos e] at q
            exact And.intro (fun z => absurd z (by decide)) (fun _ => q)
          · rw [if_neg e, if_pos e2] at q
            exact And.intro (fun z => absurd z (by decide)) (fun _ => q)
          · rw [if_neg e, if_neg e2] at q
            exact And.intro (fun z => absurd z (by decide)) (fun _ => q)
        · rw [if_neg hb] at q
          have hww : xf_wd way := hwd.resolve_left (fun z => hb (Or.inl z))
          have bww := xf_szb hww
          refine xq_go hK [] 60 ?_
          refine And.intro (fun e => ?_) (fun e => And.intro (fun e2 => ?_) (fun e2 => ?_))
          · rw [if_pos e] at q
            refine And.intro (fun _ => ?_) (fun z => absurd rfl z)
            refine ⟨lev - 1, by omega, c_X_lettersOf (by omega) (fun _ => ?_) (fun z => absurd hww z)⟩
            exact And.intro (by omega) q
          · rw [if_neg e, if_pos e2] at q
            exact And.intro (fun _ => q) (fun z => absurd rfl z)
          · rw [if_neg e, if_neg e2] at q
            exact And.intro (fun _ => q) (fun z => absurd rfl z)
      refine ⟨lev - 1, by omega, c_X_lettersOf (by omega) (fun _ => ?_) (fun z => absurd c4 z)⟩
      refine And.intro (by omega) ?_
      refine And.intro (fun c5 => tail 1 (Or.inl ⟨rfl, Or.inl c5⟩)) (fun c5 => ?_)
      have hww : xf_wd way := hwd.resolve_left c5
      have bww := xf_szb hww
      refine ⟨lev - 1, by omega, c_X_lettersOf (by omega) (fun _ => ?_) (fun z => absurd hww z)⟩
      refine And.intro (by omega) ?_
      refine And.intro (fun c6 => tail 0 (Or.inr ⟨rfl, by omega⟩)) (fun c6 => tail 1 (Or.inl ⟨rfl, by omega⟩))
    · refine And.intro (fun z => absurd rfl z) (fun _ => ?_)
      rw [xf_if_f c4] at hQ
      exact hQ h xs_rf
  · rw [ecs] at c
    exact And.intro (fun _ => bad (fun z => c z.1)) (fun z => absurd rfl z)
set_option maxHeartbeats 2000000 in
theorem c_M_looksForTouches {lev : Nat} {h : xq_H} {Q : Option xq_V → xq_H → Prop} {P : List xf_Cl} {md v : Int} (hl : 8 ≤ lev) (hV : xf_VM (h 65)) (hP : xf_ph (h 65) P) (hmd : 0 ≤ md ∧ md < h 65 10) (hv : xf_wd v)
    (ha : ∀ k : Nat, k < 584 → h 75 k = xf_shw k ∧ h 76 k = xf_sm (h 65) P md k)
    (hQ : ∀ h', xr_rk h h' → h' 75 = h 75 → h' 76 = h 76 → h' 64 19 = (xf_tch v (xf_wv (h 65) P md v)).1 → h' 64 20 = (xf_tch v (xf_wv (h 65) P md v)).2.1 → h' 64 21 = (xf_tch v (xf_wv (h 65) P md v)).2.2 → Q none h') : xq_met lev y_M_looksForTouches [xR 64, xI md, xI v] 81 h Q := by
  refine en_M_looksForTouches (by omega) (fun K hK => ?_)
  have bv := xf_szb hv
  have v1 := hv.1
  have v2 := hv.2.1
  obtain ⟨p, hp⟩ : ∃ p : Nat → Prop, p = fun k => xf_sm (h 65) P md k = v := ⟨_, rfl⟩
  have ewv : xf_wv (h 65) P md v = if xf_wa p 584 ≠ 0 then xf_wa p 584 else if xf_made (h 65) P md v = v then v else 0 := by rw [hp]; rfl
  -- the end: whether it is quicker to take it back
  have fin : ∀ (M W : Int) (h3 : xq_H), xr_rk h h3 → h3 75 = h 75 → h3 76 = h 76 → h3 64 19 = M → h3 64 20 = W → 0 ≤ M ∧ M ≤ 2000000 → xf_tch v (xf_wv (h 65) P md v) = (if xf_sz v + 2 < M then (xf_sz v + 2, v, 1) else (M, W, 0)) → K 67 [some (xR 64), some (xI md), some (xI v), some (xI (xf_sz v))] [] 81 h3 := by
    intro M W h3 hk e75 e76 e19 e20 hM et
    rw [et] at hQ
    refine xq_go hK [] 60 ?_
    refine And.intro (by omega) ?_
    refine And.intro (fun c => ?_) (fun c => ?_)
    · rw [if_neg (by omega)] at hQ
      refine And.intro (Or.inl rfl) ?_
      refine And.intro (fun _ => ?_) (fun z => absurd rfl z)
      refine And.intro (fun _ => ?_) (fun z => absurd rfl z)
      refine hQ _ (xr_rk_f (xr_rk_f (xr_rk_f hk (by decide) _) (by decide) _) (by decide) _) ?_ ?_ ?_ ?_ ?_
      · rw [xq_u_o (by decide), xq_u_o (by decide), xq_u_o (by decide)]; exact e75
      · rw [xq_u_o (by decide), xq_u_o (by decide), xq_u_o (by decide)]; exact e76
      · rw [xu_eq, xu_ne (by decide), xu_ne (by decide)]
        exact e19
      · rw [xu_ne (by decide), xu_eq, xu_ne (by decide)]
        exact e20
      · rw [xu_ne (by decide), xu_ne (by decide), xu_eq]
    · rw [if_pos (by omega)] at hQ
      refine And.intro (Or.inr rfl) ?_
      refine And.intro (fun z => absurd z (by rw [xu_eq]; decide)) (fun _ => ?_)
      refine And.intro (fun z => absurd z (by rw [xu_ne (by decide), xu_eq]; decide)) (fun _ => ?_)
      refine And.intro (by omega) ?_
      refine hQ _ (xr_rk_f (xr_rk_f (xr_rk_f hk (by decide) _) (by decide) _) (by decide) _) ?_ ?_ ?_ ?_ ?_
      · rw [xq_u_o (by decide), xq_u_o (by decide), xq_u_o (by decide)]; exact e75
      · rw [xq_u_o (by decide), xq_u_o (by decide), xq_u_o (by decide)]; exact e76
      · rw [xu_eq]
      · rw [xu_ne (by decide), xu_eq]
      · rw [xu_ne (by decide), xu_ne (by decide), xu_eq]
  have loop : ∀ (d k : Nat) (kI : Int) (h2 : xq_H), k + d = 584 → kI = k → xr_rk h h2 → h2 75 = h 75 → h2 76 = h 76 → h2 64 20 = xf_wa p k → h2 64 19 = (if xf_wa p k = 0 then 1000000 else xf_sz (xf_wa p k) + 1) → K 8 [some (xR 64), some (xI md), some (xI v), some (xI kI)] [] 81 h2 := by
    intro d
    induction d with
    | zero =>
      intro k kI h2 hd ek hk e75 e76 e20 e19
      obtain rfl : k = 584 := by omega
      have e65 := xr_rk_65 hk
      refine xq_go hK [8, 67] 60 ?_
      refine And.intro (fun _ => ?_) (fun c => absurd c (by omega))
      refine ⟨lev - 1, by omega, c_M_size (by omega) (by omega) ?_⟩
      refine And.intro (by omega) ?_
      by_cases ca : xf_wa p 584 = 0
      · rw [if_pos ca] at e19
        rw [if_neg (fun z => z ca)] at ewv
        refine And.intro (fun c => absurd c (by omega)) (fun _ => ?_)
        refine ⟨lev - 1, by omega, c_M_makesOf (P := P) (by omega) (by rw [e65]; exact hV) (by rw [e65]; exact hmd) hv (by rw [e65]; exact hP) (fun h3 hs3 => ?_)⟩
        have hk3 := xr_rk_tr hk (xr_rk_s hs3 (by decide))
        rw [e65]
        refine And.intro (fun c => ?_) (fun c => ?_)
        · rw [if_neg c] at ewv
          refine fin 1000000 0 h3 hk3 (by rw [hs3 75 (by decide)]; exact e75) (by rw [hs3 76 (by decide)]; exact e76) (by rw [hs3 64 (by decide)]; exact e19) (by rw [hs3 64 (by decide), e20]; exact ca) (by omega) ?_
          rw [ewv, if_pos (by omega)]
          unfold xf_tch
          rw [if_pos (Or.inl rfl)]
        · rw [if_pos c] at ewv
          refine And.intro (by omega) ?_
          refine fin (xf_sz v + 1) v _ (xr_rk_f (xr_rk_f hk3 (by decide) _) (by decide) _) (by rw [xq_u_o (by decide), xq_u_o (by decide), hs3 75 (by decide)]; exact e75) (by rw [xq_u_o (by decide), xq_u_o (by decide), hs3 76 (by decide)]; exact e76) (by rw [xu_ne (by decide), xu_eq]) (by rw [xu_eq]) (by omega) ?_
          rw [ewv, if_neg (by omega)]
          unfold xf_tch
          rw [if_neg (by omega)]
      · rw [if_neg ca] at e19
        rw [if_pos ca] at ewv
        obtain ⟨j, j1, j2, j3, j4⟩ := xf_wa_at 584 (Nat.le_refl _) ca
        have hwd := xf_shw_wd j1
        have bj := xf_szb hwd
        rw [← j3] at bj
        have end3 : ∀ h3 : xq_H, xr_rk h h3 → h3 75 = h 75 → h3 76 = h 76 → h3 64 19 = h2 64 19 → h3 64 20 = h2 64 20 → K 67 [some (xR 64), some (xI md), some (xI v), some (xI (xf_sz v))] [] 81 h3 := by
          intro h3 hk3 a1 a2 a3 a4
          refine fin (xf_sz (xf_wa p 584) + 1) (xf_wa p 584) h3 hk3 a1 a2 (a3.trans e19) (a4.trans e20) (by omega) ?_
          rw [ewv]
          unfold xf_tch
          by_cases cb : xf_sz v + 2 < xf_sz (xf_wa p 584) + 1
          · rw [if_pos cb, if_pos (Or.inr cb)]
          · rw [if_neg cb, if_neg (fun z => z.elim ca cb)]
        refine And.intro (fun c => end3 h2 hk e75 e76 rfl rfl) (fun c => ?_)
        refine ⟨lev - 1, by omega, c_M_makesOf (P := P) (by omega) (by rw [e65]; exact hV) (by rw [e65]; exact hmd) hv (by rw [e65]; exact hP) (fun h3 hs3 => ?_)⟩
        have hk3 := xr_rk_tr hk (xr_rk_s hs3 (by decide))
        rw [e65]
        refine And.intro (fun c2 => ?_) (fun c2 => ?_)
        · exact end3 h3 hk3 (by rw [hs3 75 (by decide)]; exact e75) (by rw [hs3 76 (by decide)]; exact e76) (by rw [hs3 64 (by decide)]) (by rw [hs3 64 (by decide)])
        · -- its own word would have been found among the short ones
          exfalso
          have hsz := (xf_shw_ok j j1).2.2
          rw [← j3] at hsz
          have h3s : xf_sz (xf_wa p 584) ≤ 3 := by
            rw [hsz]
            split
            · decide
            · split <;> decide
          have hszv := xf_szc v (by omega)
          obtain ⟨u, hu⟩ : ∃ u : Nat, v = u := ⟨v.toNat, by omega⟩
          have hui := (xf_isw_t (w := u) (by omega)).2 (by rw [← hu]; exact hv)
          obtain ⟨i1, i2⟩ := xf_shi_ok u (by omega) hui
          have hpi : p (xf_shi u) := by
            rw [hp]
            show xf_made (h 65) P md (xf_shw (xf_shi u)) = v
            rw [i1, ← hu]
            exact c2
          by_cases hlt : xf_shi u < j
          · exact j4 _ hlt hpi
          · have := xf_shw_sz (show j ≤ xf_shi u by omega) i2
            rw [i1, ← hu, ← j3] at this
            omega
    | succ d ih =>
      intro k kI h2 hd ek hk e75 e76 e20 e19
      subst ek
      have r76 : h2 76 k = xf_sm (h 65) P md k := by rw [e76]; exact (ha k (by omega)).2
      have r75 : h2 75 k = xf_shw k := by rw [e75]; exact (ha k (by omega)).1
      have okk := xf_shw_ok k (by omega)
      have hwd := xf_shw_wd (n := k) (by omega)
      have bk := xf_szb hwd
      have next : ∀ h3 : xq_H, xr_rk h h3 → h3 75 = h 75 → h3 76 = h 76 → h3 64 20 = xf_wa p (k + 1) → h3 64 19 = (if xf_wa p (k + 1) = 0 then 1000000 else xf_sz (xf_wa p (k + 1)) + 1) → K 42 [some (xR 64), some (xI md), some (xI v), some (xI k)] [] 81 h3 := by
        intro h3 a1 a2 a3 a4 a5
        refine xq_go hK [8] 60 ?_
        refine And.intro (by omega) ?_
        exact ih (k + 1) _ h3 (by omega) (by omega) a1 a2 a3 a4 a5
      refine xq_go hK [8, 42] 60 ?_
      refine And.intro (fun c => absurd c (by omega)) (fun _ => ?_)
      refine And.intro (by omega) ?_
      rw [r76]
      refine And.intro (fun c => ?_) (fun c => ?_)
      · have np : ¬ p k := by rw [hp]; exact c
        have e1 : xf_wa p (k + 1) = xf_wa p k := by
          by_cases c0 : xf_wa p k = 0
          · rw [xf_wa_s.2.1 c0 np, c0]
          · exact xf_wa_s.2.2 c0
        exact next h2 hk e75 e76 (by rw [e1]; exact e20) (by rw [e1]; exact e19)
      · have hpk : p k := by rw [hp]; exact c
        refine And.intro (by omega) ?_
        rw [r75]
        refine ⟨lev - 1, by omega, c_M_size (by omega) (by omega) ?_⟩
        refine And.intro (by omega) ?_
        by_cases c0 : xf_wa p k = 0
        · have e1 := xf_wa_s.1 c0 hpk
          rw [if_pos c0] at e19
          refine And.intro (fun c2 => absurd c2 (by omega)) (fun _ => ?_)
          refine And.intro (by omega) ?_
          rw [r75]
          refine ⟨lev - 1, by omega, c_M_size (by omega) (by omega) ?_⟩
          refine And.intro (by omega) ?_
          have r75u : ∀ z, xq_u h2 64 19 z 75 k = xf_shw k := fun z => by rw [xq_u_o (by decide)]; exact r75
          refine And.intro (by omega) ?_
          refine next _ (xr_rk_f (xr_rk_f hk (by decide) _) (by decide) _) (by rw [xq_u_o (by decide), xq_u_o (by decide)]; exact e75) (by rw [xq_u_o (by decide), xq_u_o (by decide)]; exact e76) ?_ ?_
          · rw [xu_eq, r75u, e1]
          · rw [xu_ne (by decide), xu_eq, e1, if_neg (by omega)]
        · have e1 := xf_wa_s.2.2 c0
          rw [if_neg c0] at e19
          obtain ⟨j, j1, j2, j3, j4⟩ := xf_wa_at k (by omega) c0
          have hle := xf_shw_sz (show j ≤ k by omega) (by omega)
          rw [← j3] at hle
          refine And.intro (fun c2 => ?_) (fun c2 => absurd c2 (by omega))
          exact next h2 hk e75 e76 (by rw [e1]; exact e20) (by rw [e1, if_neg c0]; exact e19)
  refine xq_go hK [8] 60 ?_
  exact loop 584 0 _ _ (by omega) rfl (xr_rk_f (xr_rk_f xr_rk_rf (by decide) _) (by decide) _) (by rw [xq_u_o (by decide), xq_u_o (by decide)]) (by rw [xq_u_o (by decide), xq_u_o (by decide)]) rfl rfl
theorem q_M_touches {lev : Nat} {h : xq_H} {Q : Option xq_V → xq_H → Prop} {P : List xf_Cl} {md w wh : Int} (hl : 9 ≤ lev) (hV : xf_VM (h 65)) (hP : xf_ph (h 65) P) (hQ : ∀ h', xr_rk h h' → Q (some (xI (sp_touches (h 65) P md w wh))) h') : xq_met lev y_M_touches [xR 64, xI md, xI w, xI wh] 81 h Q := by
  refine en_M_touches (by omega) (fun K hK => ?_)
  have V3 := hV.2.2.1
  unfold sp_touches at hQ
  have bad : ¬ ((0 ≤ md ∧ md < h 65 10) ∧ 0 ≤ wh ∧ wh ≤ 2) → Q (some (xI (-1))) h := by
    intro c
    rw [xf_if_f c] at hQ
    exact hQ h xr_rk_rf
  refine xq_go hK [] 60 ?_
  refine ⟨lev - 1, by omega, c_M_isMender (by omega) V3 (fun c => ?_) (fun c => ?_)⟩
  · refine And.intro (fun z => absurd z (by decide)) (fun _ => ?_)
    refine ⟨lev - 1, by omega, c_M_in (by omega) (fun c3 => ?_) (fun c3 => ?_)⟩
    · refine And.intro (fun _ => ?_) (fun z => absurd z (by decide))
      rw [xf_if_t ⟨c, c3⟩] at hQ
      refine ⟨lev - 1, by omega, c_M_isWord (by omega) (fun c4 => ?_) (fun c4 => ?_)⟩
      · refine And.intro (fun _ => ?_) (fun z => absurd z (by decide))
        rw [xf_if_t c4] at hQ
        refine ⟨lev - 1, by omega, c_M_looksForShort (P := P) (by omega) hV hP c (fun h1 hk1 ha => ?_)⟩
        have e65 := xr_rk_65 hk1
        refine ⟨lev - 1, by omega, c_M_looksForTouches (P := P) (by omega) (by rw [e65]; exact hV) (by rw [e65]; exact hP) (by rw [e65]; exact c) c4 (by rw [e65]; exact ha) (fun h2 hk2 _ _ e19 e20 e21 => ?_)⟩
        rw [e65] at e19 e20 e21
        have q := hQ h2 (xr_rk_tr hk1 hk2)
        refine And.intro (fun e => ?_) (fun e => ?_)
        · rw [if_neg e] at q
          refine And.intro (fun e2 => ?_) (fun e2 => ?_)
          · rw [if_neg e2, ← e21] at q
            have b21 : h2 64 21 = 0 ∨ h2 64 21 = 1 := by
              rw [e21]
              unfold xf_tch
              split
              · exact Or.inr rfl
              · exact Or.inl rfl
            refine And.intro (fun e3 => ?_) (fun e3 => ?_)
            · rw [e3] at q
              exact q
            · rw [show h2 64 21 = 1 by omega] at q
              exact q
          · rw [if_pos e2, ← e20] at q
            exact q
        · rw [if_pos e, ← e19] at q
          exact q
      · refine And.intro (fun z => absurd rfl z) (fun _ => ?_)
        rw [xf_if_f c4] at hQ
        exact hQ h xr_rk_rf
    · exact And.intro (fun z => absurd rfl z) (fun _ => bad (fun z => c3 z.2))
  · exact And.intro (fun _ => bad (fun z => c z.1)) (fun z => absurd rfl z)
noncomputable def sp_room (m : Int → Int) (P : List xf_Cl) (md : Int) : Int := xf_if (0 ≤ md ∧ md < m 10) (xf_rm m P md 584) (-1)
theorem q_X_room {lev : Nat} {h : xq_H} {Q : Option xq_V → xq_H → Prop} {m : Int → Int} {P : List xf_Cl} {md : Int} {T : Int} (hl : 9 ≤ lev) (I : xr_ok h m P T) (hQ : ∀ h', xr_ck h h' → Q (some (xI (sp_room m P md))) h') : xq_met lev y_X_room [xR 0, xI md] 81 h Q := by
  refine en_X_room (by omega) (fun K hK => ?_)
  have ecs := I.now.bs.cs
  unfold sp_room at hQ
  refine xq_go hK [] 60 ?_
  refine ⟨lev - 1, by omega, c_C_has (by omega) (fun c => ?_) (fun c => ?_)⟩
  · rw [ecs] at c
    rw [xf_if_t c] at hQ
    refine And.intro (fun _ => ?_) (fun z => absurd z (by decide))
    refine ⟨lev - 1, by omega, c_K_settle (by omega) I.vm I.now I.vn (fun h1 hs1 C1 => ?_)⟩
    refine ⟨lev - 1, by omega, c_X_shortWays (by omega) I.vm (xr_base_fr hs1 (by decide) I.now.bs) C1 c (fun h2 hk2 _ _ => ?_)⟩
    exact hQ h2 (xr_ck_tr (xr_ck_set hs1) (xs_tr xs_rf hk2 (X := []) (by decide) (by decide)))
  · rw [ecs] at c
    rw [xf_if_f c] at hQ
    exact And.intro (fun z => absurd rfl z) (fun _ => hQ h xs_rf)
theorem q_M_room {lev : Nat} {h : xq_H} {Q : Option xq_V → xq_H → Prop} {P : List xf_Cl} {md : Int} (hl : 9 ≤ lev) (hV : xf_VM (h 65)) (hP : xf_ph (h 65) P) (hQ : ∀ h', xr_rk h h' → Q (some (xI (sp_room (h 65) P md))) h') : xq_met lev y_M_room [xR 64, xI md] 81 h Q := by
  refine en_M_room (by omega) (fun K hK => ?_)
  have V1 := hV.1
  have V3 := hV.2.2.1
  unfold sp_room at hQ
  refine xq_go hK [13] 60 ?_
  refine ⟨lev - 1, by omega, c_M_isMender (by omega) V3 (fun c => ?_) (fun c => ?_)⟩
  · rw [xf_if_t c] at hQ
    refine And.intro (fun _ => ?_) (fun z => absurd z (by decide))
    refine ⟨lev - 1, by omega, c_M_looksForShort (P := P) (by omega) hV hP c (fun h1 hk1 ha => ?_)⟩
    have e65 := xr_rk_65 hk1
    have loop : ∀ (d k : Nat) (f kI : Int), k + d = 584 → kI = k → f = xf_rm (h 65) P md k → K 13 [some (xR 64), some (xI md), some (xI f), some (xI kI)] [] 81 h1 := by
      intro d
      induction d with
      | zero =>
        intro k f kI hd ek ef
        obtain rfl : k = 584 := by omega
        refine xq_go hK [13] 60 ?_
        refine And.intro (fun _ => ?_) (fun c => absurd c (by omega))
        rw [ef]
        exact hQ h1 hk1
      | succ d ih =>
        intro k f kI hd ek ef
        subst ek
        have hb := xf_rm_bd (h 65) P md k
        have e1 : xf_rm (h 65) P md (k + 1) = f + if xf_num (h 65) (xf_sm (h 65) P md k) = -1 then 0 else 1 := by rw [xf_rm, ← ef]
        refine xq_go hK [13] 60 ?_
        refine And.intro (fun c => absurd c (by omega)) (fun _ => ?_)
        refine And.intro (by omega) ?_
        rw [(ha k (by omega)).2]
        refine ⟨lev - 1, by omega, c_M_indexOf (by omega) (by rw [e65]; exact V1) ?_⟩
        rw [e65]
        refine And.intro (fun c2 => ?_) (fun c2 => ?_)
        · rw [if_neg c2] at e1
          refine And.intro (by omega) ?_
          refine And.intro (by omega) ?_
          exact ih (k + 1) _ _ (by omega) (by omega) e1.symm
        · rw [if_pos c2] at e1
          refine And.intro (by omega) ?_
          refine And.intro (by omega) ?_
          exact ih (k + 1) _ _ (by omega) (by omega) e1.symm
    exact loop 584 0 _ _ (by omega) rfl rfl
  · rw [xf_if_f c] at hQ
    exact And.intro (fun z => absurd rfl z) (fun _ => hQ h xr_rk_rf)
