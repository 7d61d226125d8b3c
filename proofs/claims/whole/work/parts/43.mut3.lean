/-! type, back, book, twins (genmut3.py) -/
theorem c_T_add {lev : Nat} {h : xq_H} {Q : Option xq_V → xq_H → Prop} {v w : Int} (hl : 1 ≤ lev) (hs : 0 ≤ h 13 3 ∧ h 13 3 < 20)
    (h1 : ∀ h', xs_eq [13, 14, 15] h h' → h' 13 3 = h 13 3 + 1 → h' 13 4 = h 13 4 → h' 13 5 = h 13 5 → (∀ k : Int, h' 14 k = if k = h 13 3 then v else h 14 k) → (∀ k : Int, h' 15 k = if k = h 13 3 then w else h 15 k) → Q none h') : xq_met lev y_T_add [xR 13, xI v, xI w] 81 h Q := by
  refine en_T_add (by omega) (fun K hK => ?_)
  refine xq_go hK [] 60 ?_
  refine And.intro (fun c => absurd c (by omega)) (fun _ => ?_)
  refine And.intro (fun c => absurd c (by omega)) (fun _ => ?_)
  refine And.intro (by omega) ?_
  have e1 : xq_u h 14 (h 13 3) v 13 3 = h 13 3 := rfl
  refine And.intro (by omega) ?_
  have e2 : xq_u (xq_u h 14 (h 13 3) v) 15 (xq_u h 14 (h 13 3) v 13 3) w 13 3 = h 13 3 := rfl
  refine And.intro (by omega) ?_
  refine h1 _ (xs_u (xs_u (xs_u xs_rf (by decide) _ _) (by decide) _ _) (by decide) _ _) (by rw [xu_eq]; rfl) rfl rfl (fun k => ?_) (fun k => ?_)
  · rw [xq_u_o (by decide), xq_u_o (by decide), xu_rd]
  · rw [xq_u_o (by decide), xu_rd]
    rfl
noncomputable def xf_tyr (m : Int → Int) (P : List xf_Cl) (md w : Int) : Int → Int := xf_up (xf_up (xf_up (xf_ty m P md w) (64 + m 13) (xf_made m P md w)) (84 + m 13) w) 13 (m 13 + 1)
noncomputable def r_type (m : Int → Int) (P : List xf_Cl) (md w : Int) : Int × (Int → Int) := xf_ip (0 ≤ md ∧ md < m 10) (xf_ip (xf_wd w) (xf_ip (m 13 = 20) (-4, m) (xf_made m P md w, xf_tyr m P md w)) (-2, m)) (-1, m)
set_option maxHeartbeats 1000000 in
theorem q_X_type {lev : Nat} {h : xq_H} {Q : Option xq_V → xq_H → Prop} {m : Int → Int} {P : List xf_Cl} {md w : Int} {T : Int} (hl : 9 ≤ lev) (I : xr_ok h m P T) (hT : T ≤ 990000) (hQ : ∀ h', xr_cm h h' → xr_ok h' (r_type m P md w).2 P (T + 1) → Q (some (xI (r_type m P md w).1)) h') : xq_met lev y_X_type [xR 0, xI md, xI w] 81 h Q := by
  refine en_X_type (by omega) (fun K hK => ?_)
  obtain ⟨gL, gW, gC, gF, gT, gP, gB, gA⟩ := xr_ok_g I
  obtain ⟨t1, t2, t3, t4, t5, t6, t7⟩ := gT
  have IT := xr_ok_T (T' := T + 1) I (by omega)
  have V1 := I.vm.1
  have ecs := I.now.bs.cs
  unfold r_type at hQ
  refine xq_go hK [] 60 ?_
  refine ⟨lev - 1, by omega, c_C_has (by omega) (fun c => ?_) (fun c => ?_)⟩
  · rw [ecs] at c
    rw [xf_ip_t c] at hQ
    refine And.intro (fun _ => ?_) (fun z => absurd z (by decide))
    refine ⟨lev - 1, by omega, c_X_isWord (by omega) (fun c2 => ?_) (fun c2 => ?_)⟩
    · rw [xf_ip_t c2] at hQ
      refine And.intro (fun _ => ?_) (fun z => absurd z (by decide))
      refine And.intro (fun c3 => ?_) (fun c3 => ?_)
      · rw [xf_ip_f (show ¬ m 13 = 20 by omega)] at hQ
        refine ⟨lev - 1, by omega, c_K_settle (by omega) I.vm I.now I.vn (fun h1 hs1 C1 => ?_)⟩
        refine ⟨lev - 1, by omega, c_K_typeOnce (by omega) I.vm (xr_base_fr hs1 (by decide) I.now.bs) C1 c2 c (fun h2 hs2 B2 C2 => ?_)⟩
        refine ⟨lev - 1, by omega, c_cp_26_5 (by omega) (fun h3 hs3 hall => ?_)⟩
        have e12 : h3 1 2 = m 1 + 1 := by rw [hs3 1 (by decide), C2.ty]; rfl
        obtain ⟨h4, hh4⟩ : ∃ h4, h4 = xq_u h3 13 4 (h3 1 2) := ⟨_, rfl⟩
        have hs4 : xs_eq [1, 5, 13, 26, 27, 28, 29] h h4 := by
          rw [hh4]
          exact xs_u (xs_tr (xs_tr hs1 hs2 (Z := [1, 5, 13, 26, 27, 28, 29]) (by decide) (by decide)) hs3 (fun _ z => z) (by decide)) (by decide) _ _
        have r13 : ∀ k : Int, k ≠ 4 → h4 13 k = h 13 k := fun k hk => by
          rw [hh4, xu_ne hk, hs3 13 (by decide), hs2 13 (by decide), hs1 13 (by decide)]
        have r134 : h4 13 4 = m 1 + 1 := by rw [hh4, xu_eq]; exact e12
        have r133 : h4 13 3 = m 13 := (r13 3 (by decide)).trans t2
        have hwd := xf_made_wd (P := P) (md := md) I.vm c2
        have TH := xf_ty_hi (P := P) (md := md) (w := w) I.vm
        have TV := xf_ty_VM (P := P) (w := w) I.vm c (by omega)
        obtain ⟨v, hv⟩ : ∃ v, v = xf_made m P md w := ⟨_, rfl⟩
        refine ⟨lev - 1, by omega, c_T_add (by omega) (by rw [← hh4]; omega) (fun h5 hs5 b3 b4 b5 b14 b15 => ?_)⟩
        rw [← hh4] at hs5 b3 b4 b5 b14 b15
        rw [r133] at b3 b14 b15
        rw [r134] at b4
        rw [r13 5 (by decide)] at b5
        have E : xs_eq [1, 5, 13, 14, 15, 26, 27, 28, 29] h h5 := xs_tr hs4 hs5 (by decide) (by decide)
        obtain ⟨m', hm⟩ : ∃ m', m' = xf_tyr m P md w := ⟨_, rfl⟩
        have q : ∀ h', xr_cm h h' → xr_ok h' m' P (T + 1) → Q (some (xI (xf_made m P md w))) h' := by rw [hm]; exact hQ
        unfold xf_tyr at hm
        have et : ∀ k : Int, ¬ (k = 13 ∨ k = 64 + m 13 ∨ k = 84 + m 13) → m' k = xf_ty m P md w k := fun k z => by rw [hm, xf_up_n (by omega), xf_up_n (by omega), xf_up_n (by omega)]
        have ev : ∀ k : Int, ¬ (k < 10 ∨ k = 13 ∨ k = 64 + m 13 ∨ k = 84 + m 13) → m' k = m k := fun k z => by rw [et k (by omega), TH k (by omega)]
        have e13 : m' 13 = m 13 + 1 := by rw [hm, xf_up_e]
        have e84 : m' (84 + m 13) = w := by rw [hm, xf_up_n (by omega), xf_up_e]
        have e64 : m' (64 + m 13) = xf_made m P md w := by rw [hm, xf_up_n (by omega), xf_up_n (by omega), xf_up_e]
        have e0 : m' 0 = xf_made m P md w := by rw [et 0 (by omega)]; rfl
        have e1 : m' 1 = m 1 + 1 := by rw [et 1 (by omega)]; rfl
        refine q h5 (xr_cm_s E (by decide)) (xr_ok_mk ?_ ?_ ?_ ?_ ?_ ?_ ?_ ?_)
        · exact xg_L_cg (h := h) (m := m) (congrFun (E 3 (by decide)) 5) (E 4 (by decide)) (E 6 (by decide)) (E 7 (by decide)) (E 8 (by decide)) (fun k hk => ev k (by omega)) gL
        · intro i x y
          rw [ev 11 (by omega)] at y
          have z := (TV.2.1 i x (by rw [TH 11 (by omega)]; exact y)).2.1
          rw [et (2 + i) (by omega), hs5 5 (by decide), hh4, xq_u_o (by decide), hall i x (by omega), C2.wt i x (by rw [TH 11 (by omega)]; exact y)]
          exact ⟨rfl, z⟩
        · exact xg_C_cg (h := h) (m := m) (congrFun (E 9 (by decide)) 3) (E 10 (by decide)) (E 11 (by decide)) (E 12 (by decide)) (fun k hk => ev k (by omega)) gC
        · exact xg_F_cg (h := h) (m := m) b5 (E 16 (by decide)) (fun k hk => ev k (by omega)) gF
        · refine ⟨by rw [b4, e1], by rw [b3, e13], by omega, by omega, by omega, fun i x y => ?_, ?_⟩
          · rw [e13] at y
            rw [b14, b15]
            by_cases e : i = m 13
            · rw [if_pos e, if_pos e, e, e64, e84]
              exact ⟨rfl, rfl, hwd, c2⟩
            · rw [if_neg e, if_neg e, ev (64 + i) (by omega), ev (84 + i) (by omega), hs4 14 (by decide), hs4 15 (by decide)]
              exact t6 i x (by omega)
          · rw [e0, e13, if_neg (by omega), show 63 + (m 13 + 1) = 64 + m 13 by omega, e64]
        · exact xg_P_cg (h := h) (m := m) (E 17 (by decide)) (E 18 (by decide)) (E 19 (by decide)) (E 20 (by decide)) (congrFun (E 2 (by decide)) 7) (fun k hk => ev k (by omega)) gP
        · exact xg_B_cg (h := h) (m := m) (congrFun (E 21 (by decide)) 3) (E 22 (by decide)) (E 23 (by decide)) (E 24 (by decide)) (fun k hk => ev k (by omega)) (by rw [ev 10 (by omega)]; exact Int.le_refl _) gB
        · exact xg_A_cg (h := h) (m := m) (congrFun (E 2 (by decide)) 6) (E 25 (by decide)) (fun k hk => ev k (by omega)) gA
      · rw [xf_ip_t (show m 13 = 20 by omega)] at hQ
        exact hQ h xs_rf IT
    · rw [xf_ip_f c2] at hQ
      refine And.intro (fun z => absurd rfl z) (fun _ => ?_)
      exact hQ h xs_rf IT
  · rw [ecs] at c
    rw [xf_ip_f c] at hQ
    refine And.intro (fun z => absurd rfl z) (fun _ => ?_)
    exact hQ h xs_rf IT
set_option maxHeartbeats 1000000 in
theorem q_M_type {lev : Nat} {h : xq_H} {Q : Option xq_V → xq_H → Prop} {P : List xf_Cl} {md w : Int} (hl : 9 ≤ lev) (hV : xf_VM (h 65)) (hN : xf_VN (h 65)) (hP : xf_ph (h 65) P) (hQ : ∀ h', xr_r5 h h' → h' 65 = (r_type (h 65) P md w).2 → Q (some (xI (r_type (h 65) P md w).1)) h') : xq_met lev y_M_type [xR 64, xI md, xI w] 81 h Q := by
  refine en_M_type (by omega) (fun K hK => ?_)
  have K0 := xr_r5_k (xr_rk_rf (h := h))
  have V3 := hV.2.2.1
  have n1 := hN.st
  unfold r_type at hQ
  refine xq_go hK [] 60 ?_
  refine ⟨lev - 1, by omega, c_M_isMender (by omega) V3 (fun c => ?_) (fun c => ?_)⟩
  · rw [xf_ip_t c] at hQ
    refine And.intro (fun _ => ?_) (fun z => absurd z (by decide))
    refine ⟨lev - 1, by omega, c_M_isWord (by omega) (fun c2 => ?_) (fun c2 => ?_)⟩
    · rw [xf_ip_t c2] at hQ
      refine And.intro (fun _ => ?_) (fun z => absurd z (by decide))
      refine And.intro (by omega) ?_
      refine And.intro (fun c3 => ?_) (fun c3 => ?_)
      · rw [xf_ip_f c3] at hQ
        have TH := xf_ty_hi (P := P) (md := md) (w := w) hV
        refine ⟨lev - 1, by omega, c_M_types (P := P) (by omega) hV hP c2 c (fun h1 hs1 e65 => ?_)⟩
        have e13 : h1 65 13 = h 65 13 := by rw [e65, TH 13 (by omega)]
        have hk1 : xr_r5 h h1 := xr_r5_s hs1 (by decide)
        refine And.intro (by omega) ?_
        rw [e13]
        refine And.intro (by omega) ?_
        refine And.intro (by omega) ?_
        have f1 : xq_u h1 65 (64 + h 65 13) (xf_made (h 65) P md w) 65 13 = h 65 13 := by rw [xu_ne (by omega)]; exact e13
        refine And.intro (by omega) ?_
        rw [f1]
        refine And.intro (by omega) ?_
        refine And.intro (by omega) ?_
        have f2 : xq_u (xq_u h1 65 (64 + h 65 13) (xf_made (h 65) P md w)) 65 (84 + h 65 13) w 65 13 = h 65 13 := by rw [xu_ne (by omega)]; exact f1
        refine And.intro (by omega) ?_
        refine And.intro (by omega) ?_
        refine And.intro (by omega) ?_
        rw [f2]
        exact hQ _ (xr_r5_u (xr_r5_u (xr_r5_u hk1 _ _) _ _) _ _) (by rw [xq_u_up, xq_u_up, xq_u_up, e65]; rfl)
      · rw [xf_ip_t c3] at hQ
        exact hQ h K0 rfl
    · rw [xf_ip_f c2] at hQ
      refine And.intro (fun z => absurd rfl z) (fun _ => ?_)
      exact hQ h K0 rfl
  · rw [xf_ip_f c] at hQ
    refine And.intro (fun z => absurd rfl z) (fun _ => ?_)
    exact hQ h K0 rfl
noncomputable def xf_bk0 (m : Int → Int) : Int → Int := xf_up (xf_up m (64 + (m 13 - 1)) (m (84 + (m 13 - 1)))) 0 (m (84 + (m 13 - 1)))
noncomputable def xf_bkr (m : Int → Int) : Int → Int := @ite _ (xf_lft m (m (84 + (m 13 - 1))) ∨ ¬ m 16 < 6) (Classical.propDecidable _) (xf_bk0 m) (xf_up (xf_up (xf_bk0 m) (104 + m 16) (m (84 + (m 13 - 1)))) 16 (m 16 + 1))
noncomputable def r_back (m : Int → Int) : Int × (Int → Int) := xf_ip (m 13 = 0) (-3, m) (m (84 + (m 13 - 1)), xf_bkr m)
theorem xf_bkr_0 {m : Int → Int} (hN : xf_VN m) : xf_bkr m 0 = m (84 + (m 13 - 1)) ∧ ∀ k : Int, ¬ (k = 0 ∨ k = 64 + (m 13 - 1) ∨ k = 104 + m 16 ∨ k = 16) → xf_bkr m k = m k := by
  have n1 := hN.st
  constructor
  · unfold xf_bkr xf_bk0
    split
    · rw [xf_up_e]
    · by_cases e : (0 : Int) = 104 + m 16
      · rw [xf_up_n (by omega), e, xf_up_e]
      · rw [xf_up_n (by omega), xf_up_n e, xf_up_e]
  · intro k hk
    unfold xf_bkr xf_bk0
    split
    · rw [xf_up_n (by omega), xf_up_n (by omega)]
    · rw [xf_up_n (by omega), xf_up_n (by omega), xf_up_n (by omega), xf_up_n (by omega)]
set_option maxHeartbeats 1000000 in
theorem c_T_takeBack {lev : Nat} {h : xq_H} {Q : Option xq_V → xq_H → Prop} {m : Int → Int} {P : List xf_Cl} {T : Int} (hl : 3 ≤ lev) (I : xr_ok h m P T)
    (h0 : m 13 = 0 → Q (some (xI 0)) h) (h1 : m 13 ≠ 0 → ∀ h', xr_cm h h' → xr_ok h' (xf_bkr m) P T → Q (some (xI 1)) h') : xq_met lev y_T_takeBack [xR 13] 81 h Q := by
  refine en_T_takeBack (by omega) (fun K hK => ?_)
  obtain ⟨gL, gW, gC, gF, gT, gP, gB, gA⟩ := xr_ok_g I
  obtain ⟨t1, t2, t3, t4, t5, t6, t7⟩ := gT
  obtain ⟨f1, f2, f3⟩ := gF
  refine xq_go hK [48] 60 ?_
  refine And.intro (fun c => And.intro (Or.inl rfl) (h0 (by omega))) (fun c => ?_)
  refine And.intro (fun _ => ?_) (fun c2 => absurd c2 (by omega))
  have tt := t6 (m 13 - 1) (by omega) (by omega)
  obtain ⟨w, hw⟩ : ∃ w, w = m (84 + (m 13 - 1)) := ⟨_, rfl⟩
  refine And.intro (by omega) ?_
  refine And.intro (by omega) ?_
  rw [t2, tt.2.1, ← hw]
  rw [← hw] at tt
  refine And.intro (by omega) ?_
  refine And.intro (by omega) ?_
  obtain ⟨m', hm⟩ : ∃ m', m' = xf_bkr m := ⟨_, rfl⟩
  have q := h1 (by omega)
  rw [← hm] at q
  unfold xf_bkr xf_bk0 at hm
  rw [← hw] at hm
  have T1 : ∀ (h' : xq_H), h' 13 4 = h 13 4 → h' 13 3 = h 13 3 → (∀ k : Int, h' 14 k = if k = m 13 - 1 then w else h 14 k) → h' 15 = h 15 → (∀ k : Int, ¬ (k = 0 ∨ k = 64 + (m 13 - 1) ∨ k = 104 + m 16 ∨ k = 16) → m' k = m k) → m' 0 = w → m' (64 + (m 13 - 1)) = w → xg_T h' m' T := by
    intro h' a4 a3 a14 a15 ev e0 e64
    refine ⟨by rw [a4, ev 1 (by omega)]; exact t1, by rw [a3, ev 13 (by omega)]; exact t2, by rw [ev 1 (by omega)]; exact t3, by rw [ev 1 (by omega)]; exact t4, by rw [ev 13 (by omega)]; exact t5, fun i x y => ?_, ?_⟩
    · rw [ev 13 (by omega)] at y
      rw [a14, a15, ev (84 + i) (by omega)]
      by_cases e : i = m 13 - 1
      · rw [if_pos e, e, e64]
        exact ⟨rfl, (t6 _ (by omega) (by omega)).2.1, tt.2.2.2, (t6 _ (by omega) (by omega)).2.2.2⟩
      · rw [if_neg e, ev (64 + i) (by omega)]
        exact t6 i x y
    · rw [e0, ev 13 (by omega), if_neg (by omega), show 63 + m 13 = 64 + (m 13 - 1) by omega, e64]
  have tail : ∀ (h' : xq_H), xr_cm h h' → xr_ok h' m' P T → K 48 [some (xR 13), some (xI w)] [] 81 h' := by
    intro h' hc ho
    refine xq_go hK [] 60 ?_
    exact And.intro (Or.inr rfl) (q h' hc ho)
  have keep : (xf_lft m w ∨ ¬ m 16 < 6) → xr_ok (xq_u h 14 (h 13 3 - 1) w) m' P T := by
    intro hno
    rw [if_pos hno] at hm
    have ev : ∀ k : Int, ¬ (k = 0 ∨ k = 64 + (m 13 - 1)) → m' k = m k := fun k z => by rw [hm, xf_up_n (by omega), xf_up_n (by omega)]
    have e0 : m' 0 = w := by rw [hm, xf_up_e]
    have e64 : m' (64 + (m 13 - 1)) = w := by rw [hm, xf_up_n (by omega), xf_up_e]
    refine xr_ok_mk ?_ ?_ ?_ ?_ ?_ ?_ ?_ ?_
    · exact xg_L_cg (h := h) (m := m) rfl rfl rfl rfl rfl (fun k hk => ev k (by omega)) gL
    · exact xg_W_cg (h := h) (m := m) gL.2.1.2 rfl (fun k hk => ev k (by omega)) gW
    · exact xg_C_cg (h := h) (m := m) rfl rfl rfl rfl (fun k hk => ev k (by omega)) gC
    · exact xg_F_cg (h := h) (m := m) rfl rfl (fun k hk => ev k (by omega)) ⟨f1, f2, f3⟩
    · exact T1 _ rfl rfl (fun k => by rw [xu_rd, t2]) rfl (fun k hk => ev k (by omega)) e0 e64
    · exact xg_P_cg (h := h) (m := m) rfl rfl rfl rfl rfl (fun k hk => ev k (by omega)) gP
    · exact xg_B_cg (h := h) (m := m) rfl rfl rfl rfl (fun k hk => ev k (by omega)) (by rw [ev 10 (by omega)]; exact Int.le_refl _) gB
    · exact xg_A_cg (h := h) (m := m) rfl rfl (fun k hk => ev k (by omega)) gA
  have elft : (∃ k : Nat, (k : Int) < xq_u h 14 (h 13 3 - 1) w 13 5 ∧ xq_u h 14 (h 13 3 - 1) w 16 k = w) ↔ xf_lft m w := xr_lft (h := h) I.now.bs
  have r5 : xq_u h 14 (h 13 3 - 1) w 13 5 = h 13 5 := rfl
  refine ⟨lev - 1, by omega, c_T_isLeft (by omega) (by omega) (fun c2 => ?_) (fun c2 => ?_)⟩
  · refine And.intro (fun _ => tail _ (xs_u xs_rf (by decide) _ _) (keep (Or.inl (elft.1 c2)))) (fun z => absurd z (by decide))
  · rw [elft] at c2
    refine And.intro (fun z => absurd rfl z) (fun _ => ?_)
    refine And.intro (fun c3 => absurd c3 (by omega)) (fun _ => ?_)
    refine And.intro (fun c4 => tail _ (xs_u xs_rf (by decide) _ _) (keep (Or.inr (by omega)))) (fun c4 => ?_)
    rw [if_neg (fun z => z.elim c2 (by omega))] at hm
    have ev : ∀ k : Int, ¬ (k = 0 ∨ k = 64 + (m 13 - 1) ∨ k = 104 + m 16 ∨ k = 16) → m' k = m k := fun k z => by rw [hm, xf_up_n (by omega), xf_up_n (by omega), xf_up_n (by omega), xf_up_n (by omega)]
    have e0 : m' 0 = w := by rw [hm, xf_up_n (by omega), xf_up_n (by omega), xf_up_e]
    have e64 : m' (64 + (m 13 - 1)) = w := by rw [hm, xf_up_n (by omega), xf_up_n (by omega), xf_up_n (by omega), xf_up_e]
    have e16 : m' 16 = m 16 + 1 := by rw [hm, xf_up_e]
    have e104 : m' (104 + m 16) = w := by rw [hm, xf_up_n (by omega), xf_up_e]
    refine And.intro (by omega) ?_
    have r6 : ∀ a b, xq_u (xq_u h 14 (h 13 3 - 1) w) 16 a b 13 5 = h 13 5 := fun _ _ => rfl
    refine And.intro (by rw [r6]; omega) ?_
    rw [r6, r5]
    refine tail _ (xs_u (xs_u (xs_u xs_rf (by decide) _ _) (by decide) _ _) (by decide) _ _) (xr_ok_mk ?_ ?_ ?_ ?_ ?_ ?_ ?_ ?_)
    · exact xg_L_cg (h := h) (m := m) rfl rfl rfl rfl rfl (fun k hk => ev k (by omega)) gL
    · exact xg_W_cg (h := h) (m := m) gL.2.1.2 rfl (fun k hk => ev k (by omega)) gW
    · exact xg_C_cg (h := h) (m := m) rfl rfl rfl rfl (fun k hk => ev k (by omega)) gC
    · refine ⟨by rw [xu_eq, e16, f1], by omega, fun i x y => ?_⟩
      rw [e16] at y
      rw [xq_u_o (by decide), xu_rd, f1]
      by_cases e : i = m 16
      · rw [if_pos e, e, e104]
        exact ⟨rfl, tt.2.2.2⟩
      · rw [if_neg e, ev _ (by omega)]
        exact f3 i x (by omega)
    · exact T1 _ rfl rfl (fun k => by rw [xq_u_o (by decide), xq_u_o (by decide), xu_rd, t2]) rfl ev e0 e64
    · exact xg_P_cg (h := h) (m := m) rfl rfl rfl rfl rfl (fun k hk => ev k (by omega)) gP
    · exact xg_B_cg (h := h) (m := m) rfl rfl rfl rfl (fun k hk => ev k (by omega)) (by rw [ev 10 (by omega)]; exact Int.le_refl _) gB
    · exact xg_A_cg (h := h) (m := m) rfl rfl (fun k hk => ev k (by omega)) gA
theorem q_X_back {lev : Nat} {h : xq_H} {Q : Option xq_V → xq_H → Prop} {m : Int → Int} {P : List xf_Cl} {T : Int} (hl : 9 ≤ lev) (I : xr_ok h m P T) (hQ : ∀ h', xr_cm h h' → xr_ok h' (r_back m).2 P T → Q (some (xI (r_back m).1)) h') : xq_met lev y_X_back [xR 0] 81 h Q := by
  refine en_X_back (by omega) (fun K hK => ?_)
  obtain ⟨gL, gW, gC, gF, gT, gP, gB, gA⟩ := xr_ok_g I
  unfold r_back at hQ
  have n1 := I.vn.st
  refine xq_go hK [] 60 ?_
  refine ⟨lev - 1, by omega, c_T_takeBack (by omega) I (fun c => ?_) (fun c h' hc ho => ?_)⟩
  · rw [xf_ip_t c] at hQ
    refine And.intro (fun _ => ?_) (fun z => absurd rfl z)
    exact hQ h xs_rf I
  · rw [xf_ip_f c] at hQ
    refine And.intro (fun z => absurd z (by decide)) (fun _ => ?_)
    refine ⟨lev - 1, by omega, c_T_last (by omega) ho.now ho.vn ?_⟩
    rw [(xf_bkr_0 I.vn).1]
    exact hQ h' hc ho
theorem q_M_back {lev : Nat} {h : xq_H} {Q : Option xq_V → xq_H → Prop} (hl : 9 ≤ lev) (hV : xf_VM (h 65)) (hN : xf_VN (h 65)) (hQ : ∀ h', xr_r5 h h' → h' 65 = (r_back (h 65)).2 → Q (some (xI (r_back (h 65)).1)) h') : xq_met lev y_M_back [xR 64] 81 h Q := by
  refine en_M_back (by omega) (fun K hK => ?_)
  have K0 := xr_r5_k (xr_rk_rf (h := h))
  have n1 := hN.st
  have V5 := hV.2.2.2.2.1
  unfold r_back at hQ
  refine xq_go hK [61] 60 ?_
  refine And.intro (by omega) ?_
  refine And.intro (fun c => ?_) (fun c => ?_)
  · rw [xf_ip_f c] at hQ
    obtain ⟨w, hw⟩ : ∃ w, w = h 65 (84 + (h 65 13 - 1)) := ⟨_, rfl⟩
    unfold xf_bkr at hQ
    rw [← hw] at hQ
    refine And.intro (by omega) ?_
    refine And.intro (by omega) ?_
    refine And.intro (by omega) ?_
    refine And.intro (by omega) ?_
    rw [← hw]
    refine And.intro (by omega) ?_
    refine And.intro (by omega) ?_
    refine And.intro (by omega) ?_
    obtain ⟨h2, hh2⟩ : ∃ h2, h2 = xq_u (xq_u h 65 (64 + (h 65 13 - 1)) w) 65 0 w := ⟨_, rfl⟩
    have e65 : h2 65 = xf_bk0 (h 65) := by
      rw [hh2, xq_u_up, xq_u_up, hw]
      rfl
    rw [← hh2]
    have hk2 : xr_r5 h h2 := by
      rw [hh2]
      exact xr_r5_u (xr_r5_u K0 _ _) _ _
    have e16 : h2 65 16 = h 65 16 := by
      rw [e65]
      unfold xf_bk0
      rw [xf_up_n (by omega), xf_up_n (by omega)]
    have elft : xf_lft (h2 65) w ↔ xf_lft (h 65) w := by
      unfold xf_lft
      rw [e16]
      have e104 : ∀ k : Nat, h2 65 (104 + k) = h 65 (104 + k) := fun k => by
        rw [e65]
        unfold xf_bk0
        rw [xf_up_n (by omega), xf_up_n (by omega)]
      constructor
      · rintro ⟨k, k1, k2⟩
        exact ⟨k, k1, by rw [← e104]; exact k2⟩
      · rintro ⟨k, k1, k2⟩
        exact ⟨k, k1, by rw [e104]; exact k2⟩
    have tail : ∀ h' : xq_H, xr_r5 h h' → h' 65 = (@ite _ (xf_lft (h 65) w ∨ ¬ h 65 16 < 6) (Classical.propDecidable _) (xf_bk0 (h 65)) (xf_up (xf_up (xf_bk0 (h 65)) (104 + h 65 16) w) 16 (h 65 16 + 1))) → K 61 [some (xR 64), some (xI (h 65 13 - 1)), some (xI w)] [] 81 h' := by
      intro h' hk e
      refine xq_go hK [] 60 ?_
      exact hQ h' hk e
    refine ⟨lev - 1, by omega, c_M_isLeft (by omega) (by omega) (fun c2 => ?_) (fun c2 => ?_)⟩
    · rw [elft] at c2
      refine And.intro (fun _ => tail h2 hk2 (by rw [if_pos (Or.inl c2)]; exact e65)) (fun z => absurd z (by decide))
    · rw [elft] at c2
      refine And.intro (fun z => absurd rfl z) (fun _ => ?_)
      refine And.intro (by omega) ?_
      rw [e16]
      refine And.intro (fun c3 => tail h2 hk2 (by rw [if_pos (Or.inr c3)]; exact e65)) (fun c3 => ?_)
      refine And.intro (by omega) ?_
      rw [e16]
      refine And.intro (by omega) ?_
      refine And.intro (by omega) ?_
      have f16 : xq_u h2 65 (104 + h 65 16) w 65 16 = h 65 16 := by rw [xu_ne (by omega)]; exact e16
      refine And.intro (by omega) ?_
      refine And.intro (by omega) ?_
      refine And.intro (by omega) ?_
      rw [f16]
      refine tail _ (xr_r5_u (xr_r5_u hk2 _ _) _ _) ?_
      rw [if_neg (fun z => z.elim c2 (by omega)), xq_u_up, xq_u_up, e65]
  · rw [xf_ip_t c] at hQ
    exact hQ h K0 rfl
noncomputable def xf_bor (m : Int → Int) (md w a : Int) : Int → Int := xf_up (xf_up (xf_up (xf_up m (110 + m 14) md) (118 + m 14) w) (126 + m 14) a) 14 (m 14 + 1)
noncomputable def r_book (m : Int → Int) (md w a : Int) : Int × (Int → Int) := xf_ip (md = -1) (0, xf_up m 14 0) (xf_ip (0 ≤ md ∧ md < m 10) (xf_ip (xf_wd w ∧ xf_wd a) (xf_ip (m 14 = 8) (-4, m) (m 14 + 1, xf_bor m md w a)) (-2, m)) (-1, m))
theorem c_B_add {lev : Nat} {h : xq_H} {Q : Option xq_V → xq_H → Prop} {md w a : Int} (hl : 1 ≤ lev) (hs : 0 ≤ h 21 3 ∧ h 21 3 ≤ 8)
    (h0 : h 21 3 = 8 → Q (some (xI 0)) h)
    (h1 : h 21 3 < 8 → ∀ h', xs_eq [21, 22, 23, 24] h h' → h' 21 3 = h 21 3 + 1 → (∀ k : Int, h' 22 k = if k = h 21 3 then md else h 22 k) → (∀ k : Int, h' 23 k = if k = h 21 3 then w else h 23 k) → (∀ k : Int, h' 24 k = if k = h 21 3 then a else h 24 k) → Q (some (xI 1)) h') : xq_met lev y_B_add [xR 21, xI md, xI w, xI a] 81 h Q := by
  refine en_B_add (by omega) (fun K hK => ?_)
  refine xq_go hK [] 60 ?_
  refine And.intro (fun c => absurd c (by omega)) (fun _ => ?_)
  refine And.intro (fun c => ?_) (fun c => ?_)
  · have e1 : xq_u h 22 (h 21 3) md 21 3 = h 21 3 := rfl
    have e2 : xq_u (xq_u h 22 (h 21 3) md) 23 (xq_u h 22 (h 21 3) md 21 3) w 21 3 = h 21 3 := rfl
    have e3 : xq_u (xq_u (xq_u h 22 (h 21 3) md) 23 (xq_u h 22 (h 21 3) md 21 3) w) 24 (xq_u (xq_u h 22 (h 21 3) md) 23 (xq_u h 22 (h 21 3) md 21 3) w 21 3) a 21 3 = h 21 3 := rfl
    refine And.intro (by omega) ?_
    refine And.intro (by omega) ?_
    refine And.intro (by omega) ?_
    refine And.intro (by omega) ?_
    refine And.intro (Or.inr rfl) (h1 c _ (xs_u (xs_u (xs_u (xs_u xs_rf (by decide) _ _) (by decide) _ _) (by decide) _ _) (by decide) _ _) (by rw [xu_eq, e3]) (fun k => ?_) (fun k => ?_) (fun k => ?_))
    · rw [xq_u_o (by decide), xq_u_o (by decide), xq_u_o (by decide), xu_rd]
    · rw [xq_u_o (by decide), xq_u_o (by decide), xu_rd, xq_u_o (by decide)]
      rfl
    · rw [xq_u_o (by decide), xu_rd, xq_u_o (by decide), xq_u_o (by decide)]
      rfl
  · exact And.intro (Or.inl rfl) (h0 (by omega))
theorem q_X_book {lev : Nat} {h : xq_H} {Q : Option xq_V → xq_H → Prop} {m : Int → Int} {P : List xf_Cl} {md w a : Int} {T : Int} (hl : 9 ≤ lev) (I : xr_ok h m P T) (hQ : ∀ h', xr_cm h h' → xr_ok h' (r_book m md w a).2 P T → Q (some (xI (r_book m md w a).1)) h') : xq_met lev y_X_book [xR 0, xI md, xI w, xI a] 81 h Q := by
  refine en_X_book (by omega) (fun K hK => ?_)
  obtain ⟨gL, gW, gC, gF, gT, gP, gB, gA⟩ := xr_ok_g I
  obtain ⟨b1, b2, b3⟩ := gB
  have gB := (xr_ok_g I).2.2.2.2.2.2.1
  have ecs := I.now.bs.cs
  unfold r_book at hQ
  refine xq_go hK [] 60 ?_
  refine And.intro (fun c0 => ?_) (fun c0 => ?_)
  · rw [xf_ip_f c0] at hQ
    refine ⟨lev - 1, by omega, c_C_has (by omega) (fun c => ?_) (fun c => ?_)⟩
    · rw [ecs] at c
      rw [xf_ip_t c] at hQ
      have bad : ¬ (xf_wd w ∧ xf_wd a) → Q (some (xI (-2))) h := fun z => by
        rw [xf_ip_f z] at hQ
        exact hQ h xs_rf I
      refine And.intro (fun _ => ?_) (fun z => absurd z (by decide))
      refine ⟨lev - 1, by omega, c_X_isWord (by omega) (fun c2 => ?_) (fun c2 => ?_)⟩
      · refine And.intro (fun z => absurd z (by decide)) (fun _ => ?_)
        refine ⟨lev - 1, by omega, c_X_isWord (by omega) (fun c3 => ?_) (fun c3 => ?_)⟩
        · refine And.intro (fun _ => ?_) (fun z => absurd z (by decide))
          rw [xf_ip_t ⟨c2, c3⟩] at hQ
          refine ⟨lev - 1, by omega, c_B_add (by omega) (by omega) (fun c5 => ?_) (fun c5 h' E3 d21 d22 d23 d24 => ?_)⟩
          · rw [xf_ip_t (show m 14 = 8 by omega)] at hQ
            refine And.intro (fun _ => ?_) (fun z => absurd rfl z)
            exact hQ h xs_rf I
          · rw [xf_ip_f (show ¬ m 14 = 8 by omega)] at hQ
            rw [b1] at d21 d22 d23 d24 c5
            obtain ⟨m', hm⟩ : ∃ m', m' = xf_bor m md w a := ⟨_, rfl⟩
            have q : ∀ h', xr_cm h h' → xr_ok h' m' P T → Q (some (xI (m 14 + 1))) h' := by rw [hm]; exact hQ
            unfold xf_bor at hm
            have ev : ∀ k : Int, ¬ (k = 14 ∨ k = 110 + m 14 ∨ k = 118 + m 14 ∨ k = 126 + m 14) → m' k = m k := fun k z => by rw [hm, xf_up_n (by omega), xf_up_n (by omega), xf_up_n (by omega), xf_up_n (by omega)]
            have e14 : m' 14 = m 14 + 1 := by rw [hm, xf_up_e]
            have e1 : m' (110 + m 14) = md := by rw [hm, xf_up_n (by omega), xf_up_n (by omega), xf_up_n (by omega), xf_up_e]
            have e2 : m' (118 + m 14) = w := by rw [hm, xf_up_n (by omega), xf_up_n (by omega), xf_up_e]
            have e3 : m' (126 + m 14) = a := by rw [hm, xf_up_n (by omega), xf_up_e]
            have E := E3
            refine And.intro (fun z => absurd z (by decide)) (fun _ => ?_)
            rw [← d21] at q
            refine q h' (xr_cm_s E3 (by decide)) (xr_ok_mk ?_ ?_ ?_ ?_ ?_ ?_ ?_ ?_)
            · exact xg_L_cg (h := h) (m := m) (congrFun (E 3 (by decide)) 5) (E 4 (by decide)) (E 6 (by decide)) (E 7 (by decide)) (E 8 (by decide)) (fun k hk => ev k (by omega)) gL
            · exact xg_W_cg (h := h) (m := m) gL.2.1.2 (E 5 (by decide)) (fun k hk => ev k (by omega)) gW
            · exact xg_C_cg (h := h) (m := m) (congrFun (E 9 (by decide)) 3) (E 10 (by decide)) (E 11 (by decide)) (E 12 (by decide)) (fun k hk => ev k (by omega)) gC
            · exact xg_F_cg (h := h) (m := m) (congrFun (E 13 (by decide)) 5) (E 16 (by decide)) (fun k hk => ev k (by omega)) gF
            · exact xg_T_cg (h := h) (m := m) (congrFun (E 13 (by decide)) 4) (congrFun (E 13 (by decide)) 3) (E 14 (by decide)) (E 15 (by decide)) (fun k hk => ev k (by omega)) gT
            · exact xg_P_cg (h := h) (m := m) (E 17 (by decide)) (E 18 (by decide)) (E 19 (by decide)) (E 20 (by decide)) (congrFun (E 2 (by decide)) 7) (fun k hk => ev k (by omega)) gP
            · refine ⟨by rw [e14]; exact d21, by omega, fun i x y => ?_⟩
              rw [e14] at y
              rw [d22, d23, d24, ev 10 (by omega)]
              by_cases e : i = m 14
              · rw [if_pos e, if_pos e, if_pos e, e, e1, e2, e3]
                exact ⟨rfl, rfl, rfl, c, c2, c3⟩
              · rw [if_neg e, if_neg e, if_neg e, ev (110 + i) (by omega), ev (118 + i) (by omega), ev (126 + i) (by omega)]
                exact b3 i x (by omega)
            · exact xg_A_cg (h := h) (m := m) (congrFun (E 2 (by decide)) 6) (E 25 (by decide)) (fun k hk => ev k (by omega)) gA
        · refine And.intro (fun z => absurd rfl z) (fun _ => bad (fun z => c3 z.2))
      · refine And.intro (fun _ => bad (fun z => c2 z.1)) (fun z => absurd rfl z)
    · rw [ecs] at c
      rw [xf_ip_f c] at hQ
      refine And.intro (fun z => absurd rfl z) (fun _ => ?_)
      exact hQ h xs_rf I
  · rw [xf_ip_t c0] at hQ
    obtain ⟨m', hm⟩ : ∃ m', m' = xf_up m 14 0 := ⟨_, rfl⟩
    have q : ∀ h', xr_cm h h' → xr_ok h' m' P T → Q (some (xI (0))) h' := by rw [hm]; exact hQ
    have ev : ∀ k : Int, ¬ (k = 14) → m' k = m k := fun k z => by rw [hm, xf_up_n (by omega)]
    have e14 : m' 14 = 0 := by rw [hm, xf_up_e]
    refine q _ (xs_u xs_rf (by decide) _ _) (xr_ok_mk ?_ ?_ ?_ ?_ ?_ ?_ ?_ ?_)
    · exact xg_L_cg (h := h) (m := m) rfl rfl rfl rfl rfl (fun k hk => ev k (by omega)) gL
    · exact xg_W_cg (h := h) (m := m) gL.2.1.2 rfl (fun k hk => ev k (by omega)) gW
    · exact xg_C_cg (h := h) (m := m) rfl rfl rfl rfl (fun k hk => ev k (by omega)) gC
    · exact xg_F_cg (h := h) (m := m) rfl rfl (fun k hk => ev k (by omega)) gF
    · exact xg_T_cg (h := h) (m := m) rfl rfl rfl rfl (fun k hk => ev k (by omega)) gT
    · exact xg_P_cg (h := h) (m := m) rfl rfl rfl rfl rfl (fun k hk => ev k (by omega)) gP
    · refine ⟨by rw [e14]; rfl, by omega, fun i x y => by omega⟩
    · exact xg_A_cg (h := h) (m := m) rfl rfl (fun k hk => ev k (by omega)) gA
theorem q_M_book {lev : Nat} {h : xq_H} {Q : Option xq_V → xq_H → Prop} {md w a : Int} (hl : 9 ≤ lev) (hV : xf_VM (h 65)) (hN : xf_VN (h 65)) (hQ : ∀ h', xr_r5 h h' → h' 65 = (r_book (h 65) md w a).2 → Q (some (xI (r_book (h 65) md w a).1)) h') : xq_met lev y_M_book [xR 64, xI md, xI w, xI a] 81 h Q := by
  refine en_M_book (by omega) (fun K hK => ?_)
  have K0 := xr_r5_k (xr_rk_rf (h := h))
  have V3 := hV.2.2.1
  have n1 := hN.bk
  unfold r_book at hQ
  refine xq_go hK [] 100 ?_
  refine And.intro (fun c0 => ?_) (fun c0 => ?_)
  · rw [xf_ip_f c0] at hQ
    refine ⟨lev - 1, by omega, c_M_isMender (by omega) V3 (fun c => ?_) (fun c => ?_)⟩
    · rw [xf_ip_t c] at hQ
      have bad : ¬ (xf_wd w ∧ xf_wd a) → Q (some (xI (-2))) h := fun z => by
        rw [xf_ip_f z] at hQ
        exact hQ h K0 rfl
      refine And.intro (fun _ => ?_) (fun z => absurd z (by decide))
      refine ⟨lev - 1, by omega, c_M_isWord (by omega) (fun c2 => ?_) (fun c2 => ?_)⟩
      · refine And.intro (fun z => absurd z (by decide)) (fun _ => ?_)
        refine ⟨lev - 1, by omega, c_M_isWord (by omega) (fun c3 => ?_) (fun c3 => ?_)⟩
        · refine And.intro (fun _ => ?_) (fun z => absurd z (by decide))
          rw [xf_ip_t ⟨c2, c3⟩] at hQ
          refine And.intro (by omega) ?_
          refine And.intro (fun c5 => ?_) (fun c5 => ?_)
          · rw [xf_ip_f c5] at hQ
            unfold xf_bor at hQ
            have g1 : ∀ b : Int, xq_u h 65 (110 + h 65 14) b 65 14 = h 65 14 := fun b => xu_ne (by omega)
            have g2 : ∀ b c : Int, xq_u (xq_u h 65 (110 + h 65 14) b) 65 (118 + h 65 14) c 65 14 = h 65 14 := fun b c => by rw [xu_ne (by omega), g1]
            have g3 : ∀ b c d : Int, xq_u (xq_u (xq_u h 65 (110 + h 65 14) b) 65 (118 + h 65 14) c) 65 (126 + h 65 14) d 65 14 = h 65 14 := fun b c d => by rw [xu_ne (by omega), g2]
            refine And.intro (by omega) ?_
            refine And.intro (by omega) ?_
            refine And.intro (by omega) ?_
            refine And.intro (by omega) ?_
            rw [g1]
            refine And.intro (by omega) ?_
            refine And.intro (by omega) ?_
            refine And.intro (by omega) ?_
            rw [g2]
            refine And.intro (by omega) ?_
            refine And.intro (by omega) ?_
            refine And.intro (by omega) ?_
            rw [g3]
            refine And.intro (by omega) ?_
            refine And.intro (by omega) ?_
            refine And.intro (by omega) ?_
            rw [xu_eq]
            exact hQ _ (xr_r5_u (xr_r5_u (xr_r5_u (xr_r5_u K0 _ _) _ _) _ _) _ _) (by rw [xq_u_up, xq_u_up, xq_u_up, xq_u_up])
          · rw [xf_ip_t c5] at hQ
            exact hQ h K0 rfl
        · refine And.intro (fun z => absurd rfl z) (fun _ => bad (fun z => c3 z.2))
      · refine And.intro (fun _ => bad (fun z => c2 z.1)) (fun z => absurd rfl z)
    · rw [xf_ip_f c] at hQ
      refine And.intro (fun z => absurd rfl z) (fun _ => ?_)
      exact hQ h K0 rfl
  · rw [xf_ip_t c0] at hQ
    refine And.intro (by omega) ?_
    exact hQ _ (xr_r5_u K0 14 0) (by rw [xq_u_up])
/-! the two of the list that are nearest -/
noncomputable def xf_tf (m : Int → Int) (i j : Nat) : Int := xf_far (xf_stp m) (xf_stp m) (m (18 + i)) (m (18 + j))
noncomputable def xf_t2 (m : Int → Int) (i : Nat) : Nat → Nat → Int × Int → Int × Int
  | 0, _, a => a
  | f + 1, j, a => xf_t2 m i f (j + 1) (if xf_tf m i j < a.1 then (xf_tf m i j, 10 * (i : Int) + j) else a)
noncomputable def xf_t1 (m : Int → Int) (n : Nat) : Nat → Nat → Int × Int → Int × Int
  | 0, _, a => a
  | f + 1, i, a => xf_t1 m n f (i + 1) (xf_t2 m i (n - (i + 1)) (i + 1) a)
noncomputable def sp_twins (m : Int → Int) : Int := (xf_t1 m (m 11).toNat (m 11).toNat 0 (1000000, -5)).2
def xf_ta (a : Int × Int) : Prop := a.2 = -5 ∧ a.1 = 1000000 ∨ 0 ≤ a.2 ∧ 0 ≤ a.1 ∧ a.1 ≤ 990
theorem xf_tf_bd {m : Int → Int} (hV : xf_VM m) {i j : Nat} (hi : (i : Int) < m 11) (hj : (j : Int) < m 11) : 0 ≤ xf_tf m i j ∧ xf_tf m i j ≤ 990 :=
  xf_far_bd (hV.2.1 i (by omega) hi).1 (hV.2.1 j (by omega) hj).1 hV.2.2.2.2.2.2.2.1 hV.2.2.2.2.2.2.2.1
set_option maxHeartbeats 1000000 in
theorem q_X_twins {lev : Nat} {h : xq_H} {Q : Option xq_V → xq_H → Prop} {m : Int → Int} {P : List xf_Cl} {T : Int} (hl : 9 ≤ lev) (I : xr_ok h m P T) (hQ : ∀ h', xr_ck h h' → Q (some (xI (sp_twins m))) h') : xq_met lev y_X_twins [xR 0] 81 h Q := by
  refine en_X_twins (by omega) (fun K hK => ?_)
  have V1 := I.vm.1
  unfold sp_twins at hQ
  obtain ⟨n, hn⟩ : ∃ n : Nat, m 11 = n := ⟨(m 11).toNat, by omega⟩
  rw [hn, Int.toNat_natCast] at hQ
  have loop : ∀ (d i : Nat) (a : Int × Int) (l iI : Int) (x4 x5 : Option xq_V) (h2 : xq_H), i + d = n → iI = i → xf_ta a → (0 ≤ a.2 → l = a.1) → (x4 = none ∨ ∃ z, x4 = some (xI z)) → (x5 = none ∨ ∃ z, x5 = some (xI z)) → xr_kp h h2 → (∀ h', xr_ck h h' → Q (some (xI (xf_t1 m n d i a).2)) h') → K 6 [some (xR 0), some (xI a.2), some (xI l), some (xI iI), x4, x5] [] 81 h2 := by
    intro d
    induction d with
    | zero =>
      intro i a l iI x4 x5 h2 hd ei ha hla _ _ hk q
      have els := (xr_kp_B hk I.now.bs).ls
      refine xq_go hK [6] 60 ?_
      refine And.intro (fun _ => q h2 (xr_ck_kp hk)) (fun c => absurd c (by omega))
    | succ d ih =>
      intro i a l iI x4 x5 h2 hd ei ha hla hx4 hx5 hk q
      subst ei
      rw [xf_t1] at q
      have inner : ∀ (d2 j : Nat) (a : Int × Int) (l jI : Int) (x5 : Option xq_V) (h3 : xq_H), j + d2 = n → jI = j → i < j → xf_ta a → (0 ≤ a.2 → l = a.1) → (x5 = none ∨ ∃ z, x5 = some (xI z)) → xr_kp h h3 → (∀ h', xr_ck h h' → Q (some (xI (xf_t1 m n d (i + 1) (xf_t2 m i d2 j a)).2)) h') → K 16 [some (xR 0), some (xI a.2), some (xI l), some (xI i), some (xI jI), x5] [] 81 h3 := by
        intro d2
        induction d2 with
        | zero =>
          intro j a l jI x5 h3 hd2 ej hij ha hla hx5 hk3 q
          have els := (xr_kp_B hk3 I.now.bs).ls
          refine xq_go hK [6, 16] 60 ?_
          refine And.intro (fun _ => ?_) (fun c => absurd c (by omega))
          refine And.intro (by omega) ?_
          exact ih (i + 1) a _ _ _ _ h3 (by omega) (by omega) ha hla (Or.inr ⟨_, rfl⟩) hx5 hk3 q
        | succ d2 ih2 =>
          intro j a l jI x5 h3 hd2 ej hij ha hla hx5 hk3 q
          subst ej
          rw [xf_t2] at q
          have B3 := xr_kp_B hk3 I.now.bs
          have els := B3.ls
          have fb := xf_tf_bd I.vm (i := i) (j := j) (by omega) (by omega)
          have ef : xf_far (xf_stp m) (xf_stp m) (m (18 + (i : Int))) (m (18 + (j : Int))) = xf_tf m i j := rfl
          rcases hx5 with rfl | ⟨z5, rfl⟩
          all_goals
            refine xq_go hK [6, 16, 39, 47] 60 ?_
            refine And.intro (fun c => absurd c (by omega)) (fun _ => ?_)
            refine And.intro (by omega) ?_
            rw [B3.wd i (by omega) (by omega)]
            refine ⟨lev - 1, by omega, c_K_plainFar (by omega) I.vm B3 (I.vm.2.1 i (by omega) (by omega)).1 (by omega) (fun h4 hk4 => ?_)⟩
            rw [ef]
            have hk34 := xr_kp_tr hk3 hk4
            have take : xf_tf m i j < a.1 → K 39 [some (xR 0), some (xI a.2), some (xI l), some (xI i), some (xI j), some (xI (xf_tf m i j))] [] 81 h4 := by
              intro c
              rw [if_pos c] at q
              refine xq_go hK [6, 16] 60 ?_
              refine And.intro (by omega) ?_
              refine And.intro (by omega) ?_
              refine And.intro (by omega) ?_
              exact ih2 (j + 1) (xf_tf m i j, 10 * (i : Int) + j) _ _ _ h4 (by omega) (by omega) (by omega) (Or.inr ⟨by dsimp only; omega, by dsimp only; omega, by dsimp only; omega⟩) (fun _ => rfl) (Or.inr ⟨_, rfl⟩) hk34 q
            have skip : ¬ xf_tf m i j < a.1 → K 47 [some (xR 0), some (xI a.2), some (xI l), some (xI i), some (xI j), some (xI (xf_tf m i j))] [] 81 h4 := by
              intro c
              rw [if_neg c] at q
              refine xq_go hK [6, 16] 60 ?_
              refine And.intro (by omega) ?_
              exact ih2 (j + 1) a _ _ _ h4 (by omega) (by omega) (by omega) ha hla (Or.inr ⟨_, rfl⟩) hk34 q
            unfold xf_ta at ha
            refine And.intro (fun c => take (by omega)) (fun c => ?_)
            have el := hla (by omega)
            refine And.intro (fun c2 => skip (by omega)) (fun c2 => take (by omega))
      have els := (xr_kp_B hk I.now.bs).ls
      rcases hx4 with rfl | ⟨z4, rfl⟩
      all_goals
        refine xq_go hK [6, 16] 60 ?_
        refine And.intro (fun c => absurd c (by omega)) (fun _ => ?_)
        refine And.intro (by omega) ?_
        exact inner (n - (i + 1)) (i + 1) a _ _ _ h2 (by omega) (by omega) (by omega) ha hla hx5 hk q
  refine xq_go hK [6] 60 ?_
  exact loop n 0 (1000000, -5) _ _ _ _ h (by omega) rfl (Or.inl ⟨rfl, rfl⟩) (fun z => absurd z (by decide)) (Or.inl rfl) (Or.inl rfl) xr_kp_rf hQ
set_option maxHeartbeats 1000000 in
theorem q_M_twins {lev : Nat} {h : xq_H} {Q : Option xq_V → xq_H → Prop} (hl : 9 ≤ lev) (hV : xf_VM (h 65)) (hQ : ∀ h', xr_rk h h' → Q (some (xI (sp_twins (h 65)))) h') : xq_met lev y_M_twins [xR 64] 81 h Q := by
  refine en_M_twins (by omega) (fun K hK => ?_)
  have V1 := hV.1
  have V7 := hV.2.2.2.2.2.2.1
  have V8 := hV.2.2.2.2.2.2.2.1
  unfold sp_twins at hQ
  obtain ⟨n, hn⟩ : ∃ n : Nat, h 65 11 = n := ⟨(h 65 11).toNat, by omega⟩
  rw [hn, Int.toNat_natCast] at hQ
  have loop : ∀ (d i : Nat) (a : Int × Int) (iI : Int) (x4 x5 : Option xq_V) (h2 : xq_H), i + d = n → iI = i → xf_ta a → (x4 = none ∨ ∃ z, x4 = some (xI z)) → (x5 = none ∨ ∃ z, x5 = some (xI z)) → xr_rk h h2 → (∀ h', xr_rk h h' → Q (some (xI (xf_t1 (h 65) n d i a).2)) h') → K 6 [some (xR 64), some (xI a.2), some (xI a.1), some (xI iI), x4, x5] [] 81 h2 := by
    intro d
    induction d with
    | zero =>
      intro i a iI x4 x5 h2 hd ei ha _ _ hk q
      have e65 := xr_rk_65 hk
      refine xq_go hK [6] 60 ?_
      refine And.intro (by omega) ?_
      rw [e65]
      refine And.intro (fun _ => q h2 hk) (fun c => absurd c (by omega))
    | succ d ih =>
      intro i a iI x4 x5 h2 hd ei ha hx4 hx5 hk q
      subst ei
      rw [xf_t1] at q
      have inner : ∀ (d2 j : Nat) (a : Int × Int) (jI : Int) (x5 : Option xq_V) (h3 : xq_H), j + d2 = n → jI = j → i < j → xf_ta a → (x5 = none ∨ ∃ z, x5 = some (xI z)) → xr_rk h h3 → (∀ h', xr_rk h h' → Q (some (xI (xf_t1 (h 65) n d (i + 1) (xf_t2 (h 65) i d2 j a)).2)) h') → K 16 [some (xR 64), some (xI a.2), some (xI a.1), some (xI i), some (xI jI), x5] [] 81 h3 := by
        intro d2
        induction d2 with
        | zero =>
          intro j a jI x5 h3 hd2 ej hij ha hx5 hk3 q
          have e65 := xr_rk_65 hk3
          refine xq_go hK [6, 16] 60 ?_
          refine And.intro (by omega) ?_
          rw [e65]
          refine And.intro (fun _ => ?_) (fun c => absurd c (by omega))
          refine And.intro (by omega) ?_
          exact ih (i + 1) a _ _ _ h3 (by omega) (by omega) ha (Or.inr ⟨_, rfl⟩) hx5 hk3 q
        | succ d2 ih2 =>
          intro j a jI x5 h3 hd2 ej hij ha hx5 hk3 q
          subst ej
          rw [xf_t2] at q
          have e65 := xr_rk_65 hk3
          have fb := xf_tf_bd hV (i := i) (j := j) (by omega) (by omega)
          have ef : xf_far (xf_stp (h 65)) (if (0 : Int) = 1 then min 4 (xf_stp (h 65)) else xf_stp (h 65)) (h 65 (18 + (i : Int))) (h 65 (18 + (j : Int))) = xf_tf (h 65) i j := by rw [if_neg (by decide)]; rfl
          rcases hx5 with rfl | ⟨z5, rfl⟩
          all_goals
            refine xq_go hK [6, 16] 60 ?_
            refine And.intro (by omega) ?_
            rw [e65]
            refine And.intro (fun c => absurd c (by omega)) (fun _ => ?_)
            refine And.intro (by omega) ?_
            refine And.intro (by omega) ?_
            refine And.intro (by omega) ?_
            refine And.intro (by omega) ?_
            rw [e65]
            refine ⟨lev - 1, by omega, c_M_changes (by omega) (hV.2.1 i (by omega) (by omega)).1 (hV.2.1 j (by omega) (by omega)).1 (Or.inl rfl) (by rw [e65]; exact V7) (by rw [e65]; exact V8) (fun h4 hs4 => ?_)⟩
            rw [e65, ef]
            have hk4 := xr_rk_tr hk3 (xr_rk_s hs4 (by decide))
            refine And.intro (fun c => ?_) (fun c => ?_)
            · rw [if_neg c] at q
              refine And.intro (fun _ => ?_) (fun c2 => absurd c2 c)
              refine And.intro (by omega) ?_
              exact ih2 (j + 1) a _ _ h4 (by omega) (by omega) (by omega) ha (Or.inr ⟨_, rfl⟩) hk4 q
            · rw [if_pos c] at q
              refine And.intro (by omega) ?_
              refine And.intro (by omega) ?_
              refine And.intro (fun c2 => absurd c c2) (fun _ => ?_)
              refine And.intro (by omega) ?_
              exact ih2 (j + 1) (xf_tf (h 65) i j, 10 * (i : Int) + j) _ _ h4 (by omega) (by omega) (by omega) (Or.inr ⟨by dsimp only; omega, by dsimp only; omega, by dsimp only; omega⟩) (Or.inr ⟨_, rfl⟩) hk4 q
      have e65 := xr_rk_65 hk
      rcases hx4 with rfl | ⟨z4, rfl⟩
      all_goals
        refine xq_go hK [6, 16] 60 ?_
        refine And.intro (by omega) ?_
        rw [e65]
        refine And.intro (fun c => absurd c (by omega)) (fun _ => ?_)
        refine And.intro (by omega) ?_
        exact inner (n - (i + 1)) (i + 1) a _ _ h2 (by omega) (by omega) (by omega) ha hx5 hk q
  refine xq_go hK [6] 60 ?_
  exact loop n 0 (1000000, -5) _ _ _ h (by omega) rfl (Or.inl ⟨rfl, rfl⟩) (Or.inl rfl) (Or.inl rfl) xr_rk_rf hQ
