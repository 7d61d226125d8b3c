/-! WHAT WAS MEANT, SLIPS, ODDS -/
noncomputable def xf_wy (m : Int → Int) (P : List xf_Cl) (md i a : Int) : Int := xf_so m P md (m (18 + i)) a + if xf_made m P md (m (18 + i)) = a then 1 else 0
theorem xf_so_bd {m : Int → Int} {P : List xf_Cl} {md w a : Int} (hw : xf_wd w) : 0 ≤ xf_so m P md w a ∧ xf_so m P md w a ≤ 40 := by
  have b := xf_szb hw
  have := xf_sl_bd (fun p L => xf_made m P md (xf_slot w p L) = a) w (xf_sz w).toNat
  unfold xf_so
  omega
theorem xf_wy_bd {m : Int → Int} {P : List xf_Cl} {md i a : Int} (hw : xf_wd (m (18 + i))) : 0 ≤ xf_wy m P md i a ∧ xf_wy m P md i a ≤ 41 := by
  have := xf_so_bd (m := m) (P := P) (md := md) (a := a) hw
  unfold xf_wy
  split <;> omega
theorem c_X_waysFrom {lev : Nat} {h : xq_H} {Q : Option xq_V → xq_H → Prop} {m : Int → Int} {P : List xf_Cl} {md i a : Int} (hl : 7 ≤ lev) (hV : xf_VM m) (B : xr_base h m P) (C : xr_crs h m) (hmd : 0 ≤ md ∧ md < m 10) (hi : 0 ≤ i ∧ i < m 11)
    (hQ : ∀ h', xr_kp h h' → Q (some (xI (xf_wy m P md i a))) h') : xq_met lev y_X_waysFrom [xR 0, xI md, xI i, xI a] 81 h Q := by
  refine en_X_waysFrom (by omega) (fun K hK => ?_)
  have V1 := hV.1
  have hw := (hV.2.1 i hi.1 hi.2).1
  have hsb := xf_so_bd (m := m) (P := P) (md := md) (a := a) hw
  have tail : ∀ (s : Int) (h1 : xq_H), s = (if xf_made m P md (m (18 + i)) = a then 1 else 0) → 0 ≤ s ∧ s ≤ 1 → xr_kp h h1 → K 17 [some (xR 0), some (xI md), some (xI i), some (xI a), some (xI (m (18 + i))), none] [xI s] 81 h1 := by
    intro s h1 es hs hk
    refine xq_go hK [] 60 ?_
    refine ⟨lev - 1, by omega, c_K_slipsInto (by omega) hV (xr_kp_B hk B) (xr_kp_C hk C) hw hmd (fun h2 hk2 => ?_)⟩
    refine And.intro (by omega) ?_
    have q := hQ h2 (xr_kp_tr hk hk2)
    unfold xf_wy at q
    rw [← es, Int.add_comm] at q
    exact q
  refine xq_go hK [17] 60 ?_
  refine And.intro (by omega) ?_
  rw [B.wd i hi.1 hi.2]
  refine ⟨lev - 1, by omega, c_K_madeOf (by omega) hV B C hw hmd (fun h1 hk1 => ?_)⟩
  refine And.intro (fun c => tail 0 h1 (by rw [if_neg c]) (by omega) hk1) (fun c => tail 1 h1 (by rw [if_pos c]) (by omega) hk1)
noncomputable def sp_meant (m : Int → Int) (P : List xf_Cl) (md w : Int) : Int := xf_if (0 ≤ md ∧ md < m 10) (xf_if (xf_wd w) (xf_bs (fun i => 0 < xf_wy m P md i w) (m 11).toNat) (-2)) (-1)
theorem q_X_meant {lev : Nat} {h : xq_H} {Q : Option xq_V → xq_H → Prop} {m : Int → Int} {P : List xf_Cl} {md w : Int} {T : Int} (hl : 9 ≤ lev) (I : xr_ok h m P T) (hQ : ∀ h', xr_ck h h' → Q (some (xI (sp_meant m P md w))) h') : xq_met lev y_X_meant [xR 0, xI md, xI w] 81 h Q := by
  refine en_X_meant (by omega) (fun K hK => ?_)
  have V1 := I.vm.1
  unfold sp_meant at hQ
  refine xq_go hK [16] 60 ?_
  refine ⟨lev - 1, by omega, c_X_refusalOf (by omega) I.now.bs (fun c => ?_) (fun c c2 => ?_) (fun c c2 => ?_)⟩
  · rw [xf_if_f c] at hQ
    refine And.intro (fun z => absurd z (by decide)) (fun _ => ?_)
    exact hQ h xs_rf
  · rw [xf_if_t c, xf_if_f c2] at hQ
    refine And.intro (fun z => absurd z (by decide)) (fun _ => ?_)
    exact hQ h xs_rf
  · rw [xf_if_t c, xf_if_t c2] at hQ
    refine And.intro (fun _ => ?_) (fun z => absurd rfl z)
    refine ⟨lev - 1, by omega, c_K_settle (by omega) I.vm I.now I.vn (fun h1 hs1 C1 => ?_)⟩
    have B1 := xr_base_fr hs1 (by decide) I.now.bs
    have loop : ∀ (d i : Nat) (x iI : Int) (h2 : xq_H), (i : Int) + d = m 11 → iI = i → x = xf_bs (fun i => 0 < xf_wy m P md i w) i → xr_kp h1 h2 → K 16 [some (xR 0), some (xI md), some (xI w), some (xI 0), some (xI x), some (xI iI)] [] 81 h2 := by
      intro d
      induction d with
      | zero =>
        intro i x iI h2 hd ei ex hk
        have els := (xr_kp_B hk B1).ls
        refine xq_go hK [16] 60 ?_
        refine And.intro (fun _ => ?_) (fun c => absurd c (by omega))
        have q := hQ h2 (xr_ck_tr (xr_ck_set hs1) (xr_ck_kp hk))
        rw [show (m 11).toNat = i by omega, ← ex] at q
        exact q
      | succ d ih =>
        intro i x iI h2 hd ei ex hk
        subst ei
        have B2 := xr_kp_B hk B1
        have C2 := xr_kp_C hk C1
        have els := B2.ls
        have s := xf_bs_s (n := i) (by omega) ex
        refine xq_go hK [16] 60 ?_
        refine And.intro (fun c => absurd c (by omega)) (fun _ => ?_)
        refine ⟨lev - 1, by omega, c_X_waysFrom (by omega) I.vm B2 C2 c (by omega) (fun h3 hk3 => ?_)⟩
        refine And.intro (fun c3 => ?_) (fun c3 => ?_)
        · refine And.intro (by omega) ?_
          exact ih (i + 1) _ _ h3 (by omega) (by omega) (s.2 c3).1 (xr_kp_tr hk hk3)
        · refine And.intro (by omega) ?_
          exact ih (i + 1) _ _ h3 (by omega) (by omega) (s.1 (by omega)) (xr_kp_tr hk hk3)
    exact loop (m 11).toNat 0 _ _ h1 (by omega) rfl rfl xr_kp_rf
theorem q_M_meant {lev : Nat} {h : xq_H} {Q : Option xq_V → xq_H → Prop} {P : List xf_Cl} {md w : Int} (hl : 9 ≤ lev) (hV : xf_VM (h 65)) (hP : xf_ph (h 65) P) (hQ : ∀ h', xr_rk h h' → Q (some (xI (sp_meant (h 65) P md w))) h') : xq_met lev y_M_meant [xR 64, xI md, xI w] 81 h Q := by
  refine en_M_meant (by omega) (fun K hK => ?_)
  have V1 := hV.1
  have V3 := hV.2.2.1
  unfold sp_meant at hQ
  refine xq_go hK [15] 60 ?_
  refine ⟨lev - 1, by omega, c_M_isMender (by omega) V3 (fun c => ?_) (fun c => ?_)⟩
  · rw [xf_if_t c] at hQ
    refine And.intro (fun _ => ?_) (fun z => absurd z (by decide))
    refine ⟨lev - 1, by omega, c_M_isWord (by omega) (fun c2 => ?_) (fun c2 => ?_)⟩
    · rw [xf_if_t c2] at hQ
      refine And.intro (fun _ => ?_) (fun z => absurd z (by decide))
      have loop : ∀ (d i : Nat) (x iI : Int) (h2 : xq_H), (i : Int) + d = h 65 11 → iI = i → x = xf_bs (fun i => 0 < xf_wy (h 65) P md i w) i → xr_rk h h2 → K 15 [some (xR 64), some (xI md), some (xI w), some (xI x), some (xI iI)] [] 81 h2 := by
        intro d
        induction d with
        | zero =>
          intro i x iI h2 hd ei ex hk
          have e65 := xr_rk_65 hk
          refine xq_go hK [15] 60 ?_
          refine And.intro (by omega) ?_
          rw [e65]
          refine And.intro (fun _ => ?_) (fun c => absurd c (by omega))
          have q := hQ h2 hk
          rw [show (h 65 11).toNat = i by omega, ← ex] at q
          exact q
        | succ d ih =>
          intro i x iI h2 hd ei ex hk
          subst ei
          have e65 := xr_rk_65 hk
          have s := xf_bs_s (n := i) (by omega) ex
          refine xq_go hK [15] 60 ?_
          refine And.intro (by omega) ?_
          rw [e65]
          refine And.intro (fun c => absurd c (by omega)) (fun _ => ?_)
          refine ⟨lev - 1, by omega, c_M_waysOf (P := P) (by omega) (by rw [e65]; exact hV) (by rw [e65]; exact hP) (by rw [e65]; omega) (by rw [e65]; exact c) (fun h3 hk3 => ?_)⟩
          rw [e65]
          have ewy : xf_so (h 65) P md (h 65 (18 + (i : Int))) w + (if xf_made (h 65) P md (h 65 (18 + (i : Int))) = w then 1 else 0) = xf_wy (h 65) P md i w := rfl
          rw [ewy]
          refine And.intro (fun c3 => ?_) (fun c3 => ?_)
          · refine And.intro (by omega) ?_
            exact ih (i + 1) _ _ h3 (by omega) (by omega) (s.2 c3).2 (xr_rk_tr hk hk3)
          · refine And.intro (by omega) ?_
            exact ih (i + 1) _ _ h3 (by omega) (by omega) (s.1 (by omega)) (xr_rk_tr hk hk3)
      exact loop (h 65 11).toNat 0 _ _ h (by omega) rfl rfl xr_rk_rf
    · rw [xf_if_f c2] at hQ
      refine And.intro (fun z => absurd rfl z) (fun _ => ?_)
      exact hQ h xr_rk_rf
  · rw [xf_if_f c] at hQ
    refine And.intro (fun z => absurd rfl z) (fun _ => ?_)
    exact hQ h xr_rk_rf
/-- the most of f below n that is over 0, and its number -/
def xf_mx (f : Nat → Int) : Nat → Int × Int
  | 0 => (0, -5)
  | n + 1 => if (xf_mx f n).1 < f n then (f n, (n : Int)) else xf_mx f n
noncomputable def xf_lk (m : Int → Int) (P : List xf_Cl) (md w : Int) (i : Nat) : Int := (m (2 + i) + 1) * xf_wy m P md i w
theorem xf_lk_bd {m : Int → Int} {P : List xf_Cl} {md w : Int} {i : Nat} (hV : xf_VM m) (hi : (i : Int) < m 11) : 0 ≤ xf_lk m P md w i ∧ xf_lk m P md w i ≤ 4100 := by
  have a := hV.2.1 i (by omega) hi
  have b := xf_wy_bd (P := P) (md := md) (a := w) a.1
  unfold xf_lk
  generalize xf_wy m P md i w = y at b
  generalize m (2 + (i : Int)) = x at a
  refine ⟨Int.mul_nonneg (by omega) b.1, ?_⟩
  have h1 := Int.mul_le_mul_of_nonneg_right (show x + 1 ≤ 100 by omega) b.1
  omega
noncomputable def sp_likeliest (m : Int → Int) (P : List xf_Cl) (md w : Int) : Int := xf_if (0 ≤ md ∧ md < m 10) (xf_if (xf_wd w) (xf_mx (xf_lk m P md w) (m 11).toNat).2 (-2)) (-1)
theorem q_X_likeliest {lev : Nat} {h : xq_H} {Q : Option xq_V → xq_H → Prop} {m : Int → Int} {P : List xf_Cl} {md w : Int} {T : Int} (hl : 9 ≤ lev) (I : xr_ok h m P T) (hQ : ∀ h', xr_ck h h' → Q (some (xI (sp_likeliest m P md w))) h') : xq_met lev y_X_likeliest [xR 0, xI md, xI w] 81 h Q := by
  refine en_X_likeliest (by omega) (fun K hK => ?_)
  have V1 := I.vm.1
  unfold sp_likeliest at hQ
  refine xq_go hK [18] 60 ?_
  refine ⟨lev - 1, by omega, c_X_refusalOf (by omega) I.now.bs (fun c => ?_) (fun c c2 => ?_) (fun c c2 => ?_)⟩
  · rw [xf_if_f c] at hQ
    refine And.intro (fun z => absurd z (by decide)) (fun _ => ?_)
    exact hQ h xs_rf
  · rw [xf_if_t c, xf_if_f c2] at hQ
    refine And.intro (fun z => absurd z (by decide)) (fun _ => ?_)
    exact hQ h xs_rf
  · rw [xf_if_t c, xf_if_t c2] at hQ
    refine And.intro (fun _ => ?_) (fun z => absurd rfl z)
    refine ⟨lev - 1, by omega, c_K_settle (by omega) I.vm I.now I.vn (fun h1 hs1 C1 => ?_)⟩
    have N1 := xr_now_fr hs1 (by decide) I.now
    have loop : ∀ (d i : Nat) (b x iI : Int) (x7 : Option xq_V) (h2 : xq_H), (i : Int) + d = m 11 → iI = i → b = (xf_mx (xf_lk m P md w) i).2 → x = (xf_mx (xf_lk m P md w) i).1 → (x7 = none ∨ ∃ z, x7 = some (xI z)) → xr_kp h1 h2 → K 18 [some (xR 0), some (xI md), some (xI w), some (xI 0), some (xI b), some (xI x), some (xI iI), x7] [] 81 h2 := by
      intro d
      induction d with
      | zero =>
        intro i b x iI x7 h2 hd ei eb ex _ hk
        have els := (xr_now_fr hk.1 (by decide) N1).bs.ls
        refine xq_go hK [18] 60 ?_
        refine And.intro (fun _ => ?_) (fun c => absurd c (by omega))
        have q := hQ h2 (xr_ck_tr (xr_ck_set hs1) (xr_ck_kp hk))
        rw [show (m 11).toNat = i by omega, ← eb] at q
        exact q
      | succ d ih =>
        intro i b x iI x7 h2 hd ei eb ex hx7 hk
        subst ei
        have N2 := xr_now_fr hk.1 (by decide) N1
        have C2 := xr_kp_C hk C1
        have els := N2.bs.ls
        have wi := I.vm.2.1 i (by omega) (by omega)
        have hyb := xf_wy_bd (P := P) (md := md) (a := w) wi.1
        have hlb := xf_lk_bd (P := P) (md := md) (w := w) I.vm (i := i) (by omega)
        have s : xf_mx (xf_lk m P md w) (i + 1) = if x < xf_lk m P md w i then (xf_lk m P md w i, (i : Int)) else xf_mx (xf_lk m P md w) i := by rw [xf_mx, ← ex]
        have elk : (m (2 + (i : Int)) + 1) * xf_wy m P md i w = xf_lk m P md w i := rfl
        have ewi := N2.wt i (by omega) (by omega)
        rcases hx7 with rfl | ⟨z7, rfl⟩
        all_goals
          refine xq_go hK [18] 60 ?_
          refine And.intro (fun c => absurd c (by omega)) (fun _ => ?_)
          refine And.intro (by omega) ?_
          refine And.intro (by omega) ?_
          rw [ewi]
          refine ⟨lev - 1, by omega, c_X_waysFrom (by omega) I.vm N2.bs C2 c (by omega) (fun h3 hk3 => ?_)⟩
          refine And.intro (by omega) ?_
          rw [elk]
          refine And.intro (fun c3 => ?_) (fun c3 => ?_)
          · refine And.intro (by omega) ?_
            rw [if_neg (by omega)] at s
            exact ih (i + 1) _ _ _ _ h3 (by omega) (by omega) (by rw [s]; exact eb) (by rw [s]; exact ex) (Or.inr ⟨_, rfl⟩) (xr_kp_tr hk hk3)
          · refine And.intro (by omega) ?_
            rw [if_pos (by omega)] at s
            exact ih (i + 1) _ _ _ _ h3 (by omega) (by omega) (by rw [s]) (by rw [s]) (Or.inr ⟨_, rfl⟩) (xr_kp_tr hk hk3)
    exact loop (m 11).toNat 0 _ _ _ _ h1 (by omega) rfl rfl rfl (Or.inl rfl) xr_kp_rf
theorem q_M_likeliest {lev : Nat} {h : xq_H} {Q : Option xq_V → xq_H → Prop} {P : List xf_Cl} {md w : Int} (hl : 9 ≤ lev) (hV : xf_VM (h 65)) (hP : xf_ph (h 65) P) (hQ : ∀ h', xr_rk h h' → Q (some (xI (sp_likeliest (h 65) P md w))) h') : xq_met lev y_M_likeliest [xR 64, xI md, xI w] 81 h Q := by
  refine en_M_likeliest (by omega) (fun K hK => ?_)
  have V1 := hV.1
  have V3 := hV.2.2.1
  unfold sp_likeliest at hQ
  refine xq_go hK [17] 60 ?_
  refine ⟨lev - 1, by omega, c_M_isMender (by omega) V3 (fun c => ?_) (fun c => ?_)⟩
  · rw [xf_if_t c] at hQ
    refine And.intro (fun _ => ?_) (fun z => absurd z (by decide))
    refine ⟨lev - 1, by omega, c_M_isWord (by omega) (fun c2 => ?_) (fun c2 => ?_)⟩
    · rw [xf_if_t c2] at hQ
      refine And.intro (fun _ => ?_) (fun z => absurd z (by decide))
      have loop : ∀ (d i : Nat) (b x iI : Int) (x6 : Option xq_V) (h2 : xq_H), (i : Int) + d = h 65 11 → iI = i → b = (xf_mx (xf_lk (h 65) P md w) i).2 → x = (xf_mx (xf_lk (h 65) P md w) i).1 → (x6 = none ∨ ∃ z, x6 = some (xI z)) → xr_rk h h2 → K 17 [some (xR 64), some (xI md), some (xI w), some (xI b), some (xI x), some (xI iI), x6] [] 81 h2 := by
        intro d
        induction d with
        | zero =>
          intro i b x iI x6 h2 hd ei eb ex _ hk
          have e65 := xr_rk_65 hk
          refine xq_go hK [17] 60 ?_
          refine And.intro (by omega) ?_
          rw [e65]
          refine And.intro (fun _ => ?_) (fun c => absurd c (by omega))
          have q := hQ h2 hk
          rw [show (h 65 11).toNat = i by omega, ← eb] at q
          exact q
        | succ d ih =>
          intro i b x iI x6 h2 hd ei eb ex hx6 hk
          subst ei
          have e65 := xr_rk_65 hk
          have wi := hV.2.1 i (by omega) (by omega)
          have hyb := xf_wy_bd (P := P) (md := md) (a := w) wi.1
          have hlb := xf_lk_bd (P := P) (md := md) (w := w) hV (i := i) (by omega)
          have s : xf_mx (xf_lk (h 65) P md w) (i + 1) = if x < xf_lk (h 65) P md w i then (xf_lk (h 65) P md w i, (i : Int)) else xf_mx (xf_lk (h 65) P md w) i := by rw [xf_mx, ← ex]
          have elk : (h 65 (2 + (i : Int)) + 1) * xf_wy (h 65) P md i w = xf_lk (h 65) P md w i := rfl
          have ewy : xf_so (h 65) P md (h 65 (18 + (i : Int))) w + (if xf_made (h 65) P md (h 65 (18 + (i : Int))) = w then 1 else 0) = xf_wy (h 65) P md i w := rfl
          rcases hx6 with rfl | ⟨z6, rfl⟩
          all_goals
            refine xq_go hK [17] 60 ?_
            refine And.intro (by omega) ?_
            rw [e65]
            refine And.intro (fun c => absurd c (by omega)) (fun _ => ?_)
            refine And.intro (by omega) ?_
            refine And.intro (by omega) ?_
            rw [e65]
            refine And.intro (by omega) ?_
            refine ⟨lev - 1, by omega, c_M_waysOf (P := P) (by omega) (by rw [e65]; exact hV) (by rw [e65]; exact hP) (by rw [e65]; omega) (by rw [e65]; exact c) (fun h3 hk3 => ?_)⟩
            rw [e65, ewy]
            refine And.intro (by omega) ?_
            rw [elk]
            refine And.intro (fun c3 => ?_) (fun c3 => ?_)
            · rw [if_neg (by omega)] at s
              refine And.intro (fun c4 => ?_) (fun c4 => absurd c4 (by omega))
              refine And.intro (by omega) ?_
              exact ih (i + 1) _ _ _ _ h3 (by omega) (by omega) (by rw [s]; exact eb) (by rw [s]; exact ex) (Or.inr ⟨_, rfl⟩) (xr_rk_tr hk hk3)
            · rw [if_pos (by omega)] at s
              refine And.intro (fun c4 => absurd c4 (by omega)) (fun c4 => ?_)
              refine And.intro (by omega) ?_
              exact ih (i + 1) _ _ _ _ h3 (by omega) (by omega) (by rw [s]) (by rw [s]) (Or.inr ⟨_, rfl⟩) (xr_rk_tr hk hk3)
      exact loop (h 65 11).toNat 0 _ _ _ _ h (by omega) rfl rfl rfl (Or.inl rfl) xr_rk_rf
    · rw [xf_if_f c2] at hQ
      refine And.intro (fun z => absurd rfl z) (fun _ => ?_)
      exact hQ h xr_rk_rf
  · rw [xf_if_f c] at hQ
    refine And.intro (fun z => absurd rfl z) (fun _ => ?_)
    exact hQ h xr_rk_rf
