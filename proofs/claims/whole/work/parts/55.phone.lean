/-! telephone() -/
def xt_m (m m' : Int → Int) : Prop := (∀ k : Int, ¬ (k = 12 ∨ k = 15 ∨ k = 17 ∨ k = 234 + m 12 ∨ k = 239 + m 12 ∨ k = 244 + m 12 ∨ 249 + 140 * m 12 ≤ k ∧ k < 389 + 140 * m 12) → m' k = m k) ∧ m' 15 = 0
theorem xt_fail {h h' : xq_H} {m m' : Int → Int} {P : List xf_Cl} {T : Int} (I : xr_ok h m P T) (E : xs_eq [2, 54, 55, 56, 57, 58] h h') (e7 : h' 2 7 = h 2 7) (e6 : h' 2 6 = 0) (c : m 12 < 5) (x : xt_m m m') (x12 : m' 12 = m 12) (x17 : m' 17 = m 17) : xr_ok h' m' P T := by
  obtain ⟨gL, gW, gC, gF, gT, gP, gB, gA⟩ := xr_ok_g I
  obtain ⟨p1, p2, p3, p4, p5, p6, p7, p8, p9, p10, p11, p12, p13, p14⟩ := gP
  have ev := x.1
  have elim : xf_lim m' = xf_lim m := by
    unfold xf_lim
    rw [x17]
    split
    · rfl
    · rw [ev (234 + m 17) (by omega)]
  have estp : xf_stp m' = xf_stp m := by
    unfold xf_stp
    rw [x17]
    split
    · rfl
    · rw [ev (239 + m 17) (by omega)]
  refine xr_ok_mk ?_ ?_ ?_ ?_ ?_ ?_ ?_ ?_
  · exact xg_L_cg (h := h) (m := m) (congrFun (E 3 (by decide)) 5) (E 4 (by decide)) (E 6 (by decide)) (E 7 (by decide)) (E 8 (by decide)) (fun k hk => ev k (by omega)) gL
  · exact xg_W_cg (h := h) (m := m) gL.2.1.2 (E 5 (by decide)) (fun k hk => ev k (by omega)) gW
  · exact xg_C_cg (h := h) (m := m) (congrFun (E 9 (by decide)) 3) (E 10 (by decide)) (E 11 (by decide)) (E 12 (by decide)) (fun k hk => ev k (by omega)) gC
  · exact xg_F_cg (h := h) (m := m) (congrFun (E 13 (by decide)) 5) (E 16 (by decide)) (fun k hk => ev k (by omega)) gF
  · exact xg_T_cg (h := h) (m := m) (congrFun (E 13 (by decide)) 4) (congrFun (E 13 (by decide)) 3) (E 14 (by decide)) (E 15 (by decide)) (fun k hk => ev k (by omega)) gT
  · refine ⟨by rw [E 17 (by decide), elim]; exact p1, by rw [E 17 (by decide), estp]; exact p2, by rw [E 17 (by decide)]; exact p3, p4, p5, p6, xf_cls_congr (E 18 (by decide)) (E 19 (by decide)) (E 20 (by decide)) _ _ _ p7, by rw [e7, x12]; exact p8, by rw [x17]; exact p9, by rw [estp]; exact p10, by rw [elim]; exact p11, by rw [x12]; exact p12, by rw [x17, x12]; exact p13, ?_⟩
    obtain ⟨q1, q2, q3, q4, q5⟩ := p14
    refine ⟨q1, q2, q3, fun z => q4 (by rw [← x17]; exact z), fun z => ?_⟩
    rw [x17] at z ⊢
    rw [ev (244 + m 17) (by omega)]
    exact ⟨(q5 z).1, xf_at_cp _ _ (fun k y w => ev k (by omega)) (q5 z).2⟩
  · exact xg_B_cg (h := h) (m := m) (congrFun (E 21 (by decide)) 3) (E 22 (by decide)) (E 23 (by decide)) (E 24 (by decide)) (fun k hk => ev k (by omega)) (by rw [ev 10 (by omega)]; exact Int.le_refl _) gB
  · exact ⟨by rw [e6, x.2], by rw [x.2]; decide, fun i y z => by rw [x.2] at z; omega⟩
theorem xt_good {h h' : xq_H} {m m' : Int → Int} {P : List xf_Cl} {T : Int} {A : xp_A} (I : xr_ok h m P T) (E : xs_eq [2, 17, 18, 19, 20, 54, 55, 56, 57, 58] h h') (e7 : h' 2 7 = m 12 + 1) (e6 : h' 2 6 = 0) (c : m 12 < 5) (x : xt_m m m') (x12 : m' 12 = m 12 + 1) (x17 : m' 17 = m 12) (r : xp_rph m' (m 12) A) (ok : xp_okA A (m 15) 10)
    (d0 : h' 17 0 = A.1) (d1 : h' 17 1 = A.2.1) (d4 : h' 17 4 = A.2.2.length) (dc : xf_cls h' 0 0 A.2.2) : xr_ok h' m' A.2.2 T := by
  obtain ⟨gL, gW, gC, gF, gT, gP, gB, gA⟩ := xr_ok_g I
  obtain ⟨p1, p2, p3, p4, p5, p6, p7, p8, p9, p10, p11, p12, p13, p14⟩ := gP
  obtain ⟨r1, r2, r3, r4⟩ := r
  obtain ⟨k1, k2, k3, k4, k5⟩ := ok
  have lf := xf_len_flat A.2.2
  have ev := x.1
  have hN := gA.2.1
  have elim : xf_lim m' = A.1 := by
    unfold xf_lim
    rw [x17, if_neg (by omega)]
    exact r1
  have estp : xf_stp m' = A.2.1 := by
    unfold xf_stp
    rw [x17, if_neg (by omega)]
    exact r2
  refine xr_ok_mk ?_ ?_ ?_ ?_ ?_ ?_ ?_ ?_
  · exact xg_L_cg (h := h) (m := m) (congrFun (E 3 (by decide)) 5) (E 4 (by decide)) (E 6 (by decide)) (E 7 (by decide)) (E 8 (by decide)) (fun k hk => ev k (by omega)) gL
  · exact xg_W_cg (h := h) (m := m) gL.2.1.2 (E 5 (by decide)) (fun k hk => ev k (by omega)) gW
  · exact xg_C_cg (h := h) (m := m) (congrFun (E 9 (by decide)) 3) (E 10 (by decide)) (E 11 (by decide)) (E 12 (by decide)) (fun k hk => ev k (by omega)) gC
  · exact xg_F_cg (h := h) (m := m) (congrFun (E 13 (by decide)) 5) (E 16 (by decide)) (fun k hk => ev k (by omega)) gF
  · exact xg_T_cg (h := h) (m := m) (congrFun (E 13 (by decide)) 4) (congrFun (E 13 (by decide)) 3) (E 14 (by decide)) (E 15 (by decide)) (fun k hk => ev k (by omega)) gT
  · refine ⟨by rw [d0, elim], by rw [d1, estp], d4, by omega, k3, k5, dc, by rw [e7, x12], by omega, by rw [estp]; exact k2, by rw [elim]; exact k1, by omega, by omega, ?_⟩
    refine ⟨k3, k5, by omega, fun z => absurd z (by omega), fun _ => ?_⟩
    rw [x17]
    exact ⟨r3, r4⟩
  · exact xg_B_cg (h := h) (m := m) (congrFun (E 21 (by decide)) 3) (E 22 (by decide)) (E 23 (by decide)) (E 24 (by decide)) (fun k hk => ev k (by omega)) (by rw [ev 10 (by omega)]; exact Int.le_refl _) gB
  · exact ⟨by rw [e6, x.2], by rw [x.2]; decide, fun i y z => by rw [x.2] at z; omega⟩
theorem q_X_telephone {lev : Nat} {h : xq_H} {Q : Option xq_V → xq_H → Prop} {m : Int → Int} {P : List xf_Cl} {T q : Int} {o : Option xp_A} (hl : 62 ≤ lev) (I : xr_ok h m P T) (S : xp_T (fun i => m (134 + i)) (m 15) q o)
    (h5 : m 12 = 5 → Q (some (xI (-4))) h)
    (h0 : m 12 < 5 → o = none → ∀ h', xr_cm h h' → (∀ m', xt_m m m' → m' 12 = m 12 → m' 17 = m 17 → xr_ok h' m' P T) → Q (some (xI (-10 - q))) h')
    (h1 : m 12 < 5 → ∀ A, o = some A → ∀ h', xr_cm h h' → (∀ m', xt_m m m' → m' 12 = m 12 + 1 → m' 17 = m 12 → xp_rph m' (m 12) A → xr_ok h' m' A.2.2 T) → Q (some (xI (m 12))) h') : xq_met lev y_X_telephone [xR 0] 81 h Q := by
  refine en_X_telephone (by omega) (fun K hK => ?_)
  obtain ⟨gL, gW, gC, gF, gT, gP, gB, gA⟩ := xr_ok_g I
  have e27 := I.now.pn
  have e26 := I.now.ta
  have n12 := I.vn.pn
  have hN := I.vn.ta
  obtain ⟨S1, S2, S3, S4⟩ := S
  refine xq_go hK [] 60 ?_
  refine And.intro (fun c => ?_) (fun c => h5 (by omega))
  have c5 : m 12 < 5 := by omega
  have S3' := S3 (lev - 1) h
  rw [← e26] at S3'
  refine ⟨lev - 1, by omega, S3' _ (by omega) (fun i x y => I.now.tp i x (by omega)) (fun A hA h' s' hc => ?_) (fun ho h' s' => ?_)⟩
  · refine And.intro (fun _ => ?_) (fun z => absurd (by decide) z)
    have ok := S2 A hA
    have hg : xs_eq [2, 54, 55, 56, 57, 58] h (xq_u h' 2 6 0) := xs_u (xs_tr xs_rf s' (X := []) (by decide) (by decide)) (by decide) _ _
    refine ⟨lev - 1, by omega, c_P_copy_17_55 (by omega) (fun h2 s2 f0 f1 f18 f19 f4 f20 f6 => ?_)⟩
    have r7 : h2 2 7 = m 12 := by rw [s2 2 (by decide), xu_ne (by decide), s' 2 (by decide)]; exact e27
    have r6 : h2 2 6 = 0 := by rw [s2 2 (by decide), xu_eq]
    refine And.intro (by omega) ?_
    have q2 := h1 c5 A hA (xq_u h2 2 7 (h2 2 7 + 1)) (xr_cm_s (xs_u (xs_tr hg s2 (Z := [2, 17, 18, 19, 20, 54, 55, 56, 57, 58]) (by decide) (by decide)) (by decide) _ _) (by decide)) (fun m' x x12 x17 r => ?_)
    · refine And.intro (by rw [xu_eq]; omega) ?_
      rw [xu_eq, r7, show m 12 + 1 - 1 = m 12 by omega]
      rw [r7] at q2
      exact q2
    · obtain ⟨b0, b1, b4, b6, bc⟩ := hc
      have lf := xf_len_flat A.2.2
      have k4 := ok.2.2.2.1
      have k5 := ok.2.2.2.2
      refine xt_good I (xs_u (xs_tr hg s2 (by decide) (by decide)) (by decide) _ _) (by rw [xu_eq, r7]) (by rw [xu_ne (by decide)]; exact r6) c5 x x12 x17 r ok ?_ ?_ ?_ ?_
      · rw [xq_u_o (by decide), f0, xq_u_o (by decide)]; exact b0
      · rw [xq_u_o (by decide), f1, xq_u_o (by decide)]; exact b1
      · rw [xq_u_o (by decide), f4, xq_u_o (by decide)]; exact b4
      · refine xf_cls_congr (xq_u_o (by decide)) (xq_u_o (by decide)) (xq_u_o (by decide)) _ _ _ ?_
        exact xf_cls_cp (a := h2) (b := xp_v h') (fun k x y => by rw [f18 k x y]; exact congrFun (xq_u_o (by decide)) k) (fun k x y => by rw [f19 k x y]; exact congrFun (xq_u_o (by decide)) k) (fun k x y => by rw [f20 k x y]; exact congrFun (xq_u_o (by decide)) k) A.2.2 0 0 (Int.le_refl _) (Int.le_refl _) (by omega) (by omega) bc
  · have hg : xs_eq [2, 54, 55, 56, 57, 58] h (xq_u h' 2 6 0) := xs_u (xs_tr xs_rf s' (X := []) (by decide) (by decide)) (by decide) _ _
    refine And.intro (fun z => absurd z (by omega)) (fun _ => ?_)
    refine And.intro (by omega) ?_
    exact h0 c5 ho _ (xr_cm_s hg (by decide)) (fun m' x x12 x17 => xt_fail I hg (by rw [xu_ne (by decide), s' 2 (by decide)]) xu_eq c5 x x12 x17)
theorem q_M_telephone {lev : Nat} {h : xq_H} {Q : Option xq_V → xq_H → Prop} {q : Int} {o : Option xp_A} (hl : 62 ≤ lev) (hN : xf_VN (h 65)) (S : xp_T (fun i => h 65 (134 + i)) (h 65 15) q o)
    (h5 : h 65 12 = 5 → Q (some (xI (-4))) h)
    (h0 : h 65 12 < 5 → o = none → ∀ h', xs_eq [64, 65] h h' → h' 64 4 = h 64 4 → h' 64 27 = h 64 27 → xt_m (h 65) (h' 65) → h' 65 12 = h 65 12 → h' 65 17 = h 65 17 → Q (some (xI (-10 - q))) h')
    (h1 : h 65 12 < 5 → ∀ A, o = some A → ∀ h', xs_eq [64, 65] h h' → h' 64 4 = h 64 4 → h' 64 27 = h 64 27 → xt_m (h 65) (h' 65) → h' 65 12 = h 65 12 + 1 → h' 65 17 = h 65 12 → xp_rph (h' 65) (h 65 12) A → Q (some (xI (h 65 12))) h') : xq_met lev y_M_telephone [xR 64] 81 h Q := by
  refine en_M_telephone (by omega) (fun K hK => ?_)
  have n12 := hN.pn
  have n15 := hN.ta
  obtain ⟨S1, S2, S3, S4⟩ := S
  obtain ⟨a, ha⟩ : ∃ a, a = h 65 12 := ⟨_, rfl⟩
  obtain ⟨N, hNN⟩ : ∃ N, N = h 65 15 := ⟨_, rfl⟩
  have go : h 65 12 < 5 → K 14 [some (xR 64), none] [] 81 (xq_u h 64 5 a) := by
    intro c5
    obtain ⟨g1, hg1⟩ : ∃ g1, g1 = xq_u (xq_u h 64 5 a) 64 7 N := ⟨_, rfl⟩
    have at20 : K 20 [some (xR 64), none] [] 81 g1 := by
      obtain ⟨g2, hg2⟩ : ∃ g2, g2 = xq_u (xq_u (xq_u (xq_u g1 65 15 0) 65 (234 + a) 12) 65 (239 + a) 10) 65 (244 + a) 0 := ⟨_, rfl⟩
      have s1 : xs_eq [64] h g1 := by rw [hg1]; exact xs_u (xs_u xs_rf (by decide) _ _) (by decide) _ _
      have f5 : g1 64 5 = a := by rw [hg1, xu_ne (by decide), xu_eq]
      have f7 : g1 64 7 = N := by rw [hg1, xu_eq]
      have fk : ∀ k : Int, k ≠ 5 → k ≠ 7 → g1 64 k = h 64 k := fun k k1 k2 => by rw [hg1, xu_ne k2, xu_ne k1]
      have f65 : g1 65 = h 65 := s1 65 (by decide)
      have at49 : K 49 [some (xR 64), none] [] 81 g2 := by
        obtain ⟨g3, hg3⟩ : ∃ g3, g3 = xq_u (xq_u (xq_u g2 64 6 0) 64 8 0) 64 9 0 := ⟨_, rfl⟩
        have r2 : ∀ k : Int, g2 65 k = if k = 244 + a then 0 else if k = 239 + a then 10 else if k = 234 + a then 12 else if k = 15 then 0 else h 65 k := fun k => by
          rw [hg2, xu_rd, xu_rd, xu_rd, xu_rd, f65]
        have s3 : xs_eq [64, 65] h g3 := by
          rw [hg3, hg2]
          exact xs_u (xs_u (xs_u (xs_u (xs_u (xs_u (xs_u (xs_tr xs_rf s1 (X := []) (by decide) (by decide)) (by decide) _ _) (by decide) _ _) (by decide) _ _) (by decide) _ _) (by decide) _ _) (by decide) _ _) (by decide) _ _
        have e365 : g3 65 = g2 65 := by rw [hg3, xq_u_o (by decide), xq_u_o (by decide), xq_u_o (by decide)]
        have e264 : g2 64 = g1 64 := by rw [hg2, xq_u_o (by decide), xq_u_o (by decide), xq_u_o (by decide), xq_u_o (by decide)]
        have k3 : ∀ k : Int, k ≠ 6 → k ≠ 8 → k ≠ 9 → g3 64 k = g1 64 k := fun k z1 z2 z3 => by rw [hg3, xu_ne z3, xu_ne z2, xu_ne z1, e264]
        have c5' : g3 64 5 = a := (k3 5 (by decide) (by decide) (by decide)).trans f5
        have C : xp_rC g3 (fun i => h 65 (134 + i)) N 0 (12, 10, []) := by
          refine ⟨⟨(k3 7 (by decide) (by decide) (by decide)).trans f7, fun i x y => ?_⟩, by rw [hg3, xu_ne (by decide), xu_ne (by decide), xu_eq], by rw [hg3, xu_eq], by rw [hg3, xu_ne (by decide), xu_eq], by omega, ?_, ?_, ?_, trivial⟩
          · rw [e365, r2, if_neg (by omega), if_neg (by omega), if_neg (by omega), if_neg (by omega)]
          · rw [c5', e365, r2, if_neg (by omega), if_neg (by omega), if_pos rfl]
          · rw [c5', e365, r2, if_neg (by omega), if_pos rfl]
          · rw [c5', e365, r2, if_pos rfl]
            rfl
        have fin : ∀ h' : xq_H, xp_r2 g3 h' → xs_eq [64, 65] h h' ∧ h' 64 4 = h 64 4 ∧ h' 64 27 = h 64 27 ∧ h' 64 5 = a ∧ h' 64 7 = N ∧ (∀ k : Int, ¬ (k = 234 + a ∨ k = 239 + a ∨ k = 244 + a ∨ 249 + 140 * a ≤ k ∧ k < 389 + 140 * a) → h' 65 k = if k = 15 then 0 else h 65 k) := by
          intro h' s'
          refine ⟨xs_tr s3 s'.1 (fun _ z => z) (fun _ z => z), ?_, ?_, ?_, ?_, fun k hk => ?_⟩
          · exact (s'.2.1 4 (by decide) (by decide) (by decide)).trans ((k3 4 (by decide) (by decide) (by decide)).trans (fk 4 (by decide) (by decide)))
          · exact (s'.2.1 27 (by decide) (by decide) (by decide)).trans ((k3 27 (by decide) (by decide) (by decide)).trans (fk 27 (by decide) (by decide)))
          · exact (s'.2.1 5 (by decide) (by decide) (by decide)).trans c5'
          · exact (s'.2.1 7 (by decide) (by decide) (by decide)).trans ((k3 7 (by decide) (by decide) (by decide)).trans f7)
          · rw [s'.2.2.1 k (by rw [c5']; exact hk), e365, r2, if_neg (by omega), if_neg (by omega), if_neg (by omega)]
        have at60 : K 60 [some (xR 64), some (xI 1)] [] 81 g3 := by
          rw [hNN] at C
          refine S4 lev g3 Q K hK (by omega) C (fun A hA h' n' s' e6 e8 hA' => ?_) (fun ho h' n' s' e6 e8 => ?_)
          · obtain ⟨b1, b2, b3, b5, b7, b65⟩ := fin h' s'
            rw [c5'] at hA'
            have v12 : h' 65 12 = a := by rw [b65 12 (by omega), if_neg (by decide), ha]
            refine xq_go hK [] 60 ?_
            refine And.intro (fun z => absurd e8 z) (fun _ => ?_)
            refine And.intro (fun _ => ?_) (fun z => absurd (by rw [e6, b7, hNN]) z)
            refine And.intro (by omega) ?_
            refine And.intro (by omega) ?_
            refine And.intro (by omega) ?_
            have b5u : xq_u h' 65 12 (h' 65 12 + 1) 64 5 = a := b5
            refine And.intro (by omega) ?_
            have q2 := h1 c5 A hA (xq_u (xq_u h' 65 12 (h' 65 12 + 1)) 65 17 (xq_u h' 65 12 (h' 65 12 + 1) 64 5)) (xs_u (xs_u b1 (by decide) _ _) (by decide) _ _) b2 b3 ⟨fun k hk => ?_, ?_⟩ ?_ ?_ ?_
            · rw [show h 65 12 = xq_u (xq_u h' 65 12 (h' 65 12 + 1)) 65 17 (xq_u h' 65 12 (h' 65 12 + 1) 64 5) 64 5 from ha.symm.trans b5.symm] at q2
              exact q2
            · rw [xu_ne (by omega), xu_ne (by omega), b65 k (by omega), if_neg (by omega)]
            · rw [xu_ne (by decide), xu_ne (by decide), b65 15 (by omega), if_pos rfl]
            · rw [xu_ne (by decide), xu_eq, v12, ha]
            · rw [xu_eq, b5u, ha]
            · obtain ⟨t1, t2, t3, t4⟩ := hA'
              rw [← ha]
              refine ⟨?_, ?_, ?_, xf_at_congr _ _ (fun k hk => ?_) t4⟩
              · rw [xu_ne (by omega), xu_ne (by omega)]; exact t1
              · rw [xu_ne (by omega), xu_ne (by omega)]; exact t2
              · rw [xu_ne (by omega), xu_ne (by omega)]; exact t3
              · rw [xu_ne (by omega), xu_ne (by omega)]
          · obtain ⟨b1, b2, b3, b5, b7, b65⟩ := fin h' s'
            have q2 := h0 c5 ho h' b1 b2 b3 ⟨fun k hk => by rw [b65 k (by omega), if_neg (by omega)], by rw [b65 15 (by omega), if_pos rfl]⟩ (by rw [b65 12 (by omega), if_neg (by decide)]) (by rw [b65 17 (by omega), if_neg (by decide)])
            rw [← e6] at q2
            have ret : K 90 [some (xR 64), some (xI n')] [] 81 h' := by
              refine xq_go hK [] 60 ?_
              exact And.intro (by omega) q2
            refine xq_go hK [90] 60 ?_
            refine And.intro (fun _ => ret) (fun z => ?_)
            refine And.intro (fun y => ?_) (fun _ => ret)
            have := e8.resolve_left (by omega)
            exact absurd (e6.symm.trans (y.trans (b7.trans hNN))) this.2
        refine xq_go hK [60] 60 ?_
        refine And.intro (Or.inl rfl) ?_
        rw [hg3] at at60
        exact at60
      refine xq_go hK [49] 60 ?_
      have w5 : ∀ b c, xq_u g1 65 b c 64 5 = a := fun b c => f5
      have w5b : ∀ b c d e, xq_u (xq_u g1 65 b c) 65 d e 64 5 = a := fun b c d e => f5
      have w5c : ∀ b c d e x y, xq_u (xq_u (xq_u g1 65 b c) 65 d e) 65 x y 64 5 = a := fun b c d e x y => f5
      refine And.intro (by omega) ?_
      refine And.intro (by rw [w5]; omega) ?_
      rw [w5]
      refine And.intro (by omega) ?_
      refine And.intro (by rw [w5b]; omega) ?_
      rw [w5b]
      refine And.intro (by omega) ?_
      refine And.intro (by rw [w5c]; omega) ?_
      rw [w5c]
      refine And.intro (by omega) ?_
      rw [hg2] at at49
      exact at49
    refine xq_go hK [20] 60 ?_
    refine And.intro (by decide) ?_
    have w15 : xq_u h 64 5 a 65 15 = N := hNN.symm
    rw [w15]
    rw [hg1] at at20
    exact at20
  refine xq_go hK [14] 60 ?_
  refine And.intro (by decide) ?_
  refine And.intro (fun c => ?_) (fun c => h5 c)
  refine And.intro (by decide) ?_
  have gg := go (by omega)
  rw [ha] at gg
  exact gg
