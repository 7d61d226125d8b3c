/-! WHAT IT MAKES: makes, cost, stays, who, looked -/
theorem c_X_refusalOf {lev : Nat} {h : xq_H} {Q : Option xq_V → xq_H → Prop} {m : Int → Int} {P : List xf_Cl} {md w : Int} (hl : 3 ≤ lev) (B : xr_base h m P)
    (h1 : ¬ (0 ≤ md ∧ md < m 10) → Q (some (xI (-1))) h) (h2 : (0 ≤ md ∧ md < m 10) → ¬ xf_wd w → Q (some (xI (-2))) h) (h3 : (0 ≤ md ∧ md < m 10) → xf_wd w → Q (some (xI 0)) h) : xq_met lev y_X_refusalOf [xR 0, xI md, xI w] 81 h Q := by
  refine en_X_refusalOf (by omega) (fun K hK => ?_)
  have ecs := B.cs
  refine xq_go hK [] 60 ?_
  refine ⟨lev - 1, by omega, c_C_has (by omega) (fun c => ?_) (fun c => ?_)⟩
  · rw [ecs] at c
    refine And.intro (fun _ => ?_) (fun z => absurd z (by decide))
    refine ⟨lev - 1, by omega, c_X_isWord (by omega) (fun c2 => ?_) (fun c2 => ?_)⟩
    · exact And.intro (fun z => absurd z (by decide)) (fun _ => h3 c c2)
    · exact And.intro (fun _ => h2 c c2) (fun z => absurd rfl z)
  · rw [ecs] at c
    exact And.intro (fun z => absurd rfl z) (fun _ => h1 c)
noncomputable def sp_makes (m : Int → Int) (P : List xf_Cl) (md w : Int) : Int := xf_if (0 ≤ md ∧ md < m 10) (xf_if (xf_wd w) (xf_made m P md w) (-2)) (-1)
theorem xr_ck_set {h h' : xq_H} (a : xs_eq [1, 26] h h') : xr_ck h h' := xs_tr xs_rf a (X := []) (by decide) (by decide)
theorem q_X_makes {lev : Nat} {h : xq_H} {Q : Option xq_V → xq_H → Prop} {m : Int → Int} {P : List xf_Cl} {md w : Int} {T : Int} (hl : 8 ≤ lev) (I : xr_ok h m P T) (hQ : ∀ h', xr_ck h h' → Q (some (xI (sp_makes m P md w))) h') : xq_met lev y_X_makes [xR 0, xI md, xI w] 81 h Q := by
  refine en_X_makes (by omega) (fun K hK => ?_)
  unfold sp_makes at hQ
  refine xq_go hK [] 60 ?_
  refine ⟨lev - 1, by omega, c_X_refusalOf (by omega) I.now.bs (fun c => ?_) (fun c c2 => ?_) (fun c c2 => ?_)⟩
  · rw [xf_if_f c] at hQ
    refine And.intro (fun z => absurd z (by decide)) (fun _ => ?_)
    exact hQ h xs_rf
  · rw [xf_if_t c, xf_if_f c2] at hQ
    refine And.intro (fun z => absurd z (by decide)) (fun _ => ?_)
    exact hQ h xs_rf
  · rw [xf_if_t c, xf_if_t c2] at hQ
    refine And.intro (fun _ => ?_) (fun z => absurd rfl z)
    refine ⟨lev - 1, by omega, c_K_settle (by omega) I.vm I.now I.vn (fun h1 hs1 C1 => ?_)⟩
    refine ⟨lev - 1, by omega, c_K_madeOf (by omega) I.vm (xr_base_fr hs1 (by decide) I.now.bs) C1 c2 c (fun h2 hk2 => ?_)⟩
    exact hQ h2 (xr_ck_tr (xr_ck_set hs1) (xr_ck_kp hk2))
theorem q_M_makes {lev : Nat} {h : xq_H} {Q : Option xq_V → xq_H → Prop} {P : List xf_Cl} {md w : Int} (hl : 8 ≤ lev) (hV : xf_VM (h 65)) (hP : xf_ph (h 65) P) (hQ : ∀ h', xr_rk h h' → Q (some (xI (sp_makes (h 65) P md w))) h') : xq_met lev y_M_makes [xR 64, xI md, xI w] 81 h Q := by
  refine en_M_makes (by omega) (fun K hK => ?_)
  have V3 := hV.2.2.1
  unfold sp_makes at hQ
  refine xq_go hK [] 60 ?_
  refine ⟨lev - 1, by omega, c_M_isMender (by omega) V3 (fun c => ?_) (fun c => ?_)⟩
  · rw [xf_if_t c] at hQ
    refine And.intro (fun _ => ?_) (fun z => absurd z (by decide))
    refine ⟨lev - 1, by omega, c_M_isWord (by omega) (fun c2 => ?_) (fun c2 => ?_)⟩
    · rw [xf_if_t c2] at hQ
      refine And.intro (fun z => absurd z (by decide)) (fun _ => ?_)
      refine ⟨lev - 1, by omega, c_M_makesOf (P := P) (by omega) hV c c2 hP (fun h1 hs1 => ?_)⟩
      exact hQ h1 (xr_rk_s hs1 (by decide))
    · rw [xf_if_f c2] at hQ
      refine And.intro (fun _ => ?_) (fun z => absurd rfl z)
      exact hQ h xr_rk_rf
  · rw [xf_if_f c] at hQ
    refine And.intro (fun z => absurd rfl z) (fun _ => ?_)
    exact hQ h xr_rk_rf
noncomputable def sp_cost (m : Int → Int) (P : List xf_Cl) (md w i wh : Int) : Int :=
  xf_if (((0 ≤ md ∧ md < m 10) ∧ 0 ≤ i ∧ i < m 11) ∧ 0 ≤ wh ∧ wh ≤ 1) (xf_if (xf_wd w) (if wh = 0 then xf_co m md w i (xf_sum (xf_fact m md (xf_sz w) i) P) else 10 * xf_co m md w i (xf_sum (xf_fact m md (xf_sz w) i) P) - m (2 + i)) (-10002)) (-10001)
theorem q_X_cost {lev : Nat} {h : xq_H} {Q : Option xq_V → xq_H → Prop} {m : Int → Int} {P : List xf_Cl} {md w i wh : Int} {T : Int} (hl : 8 ≤ lev) (I : xr_ok h m P T) (hQ : ∀ h', xr_ck h h' → Q (some (xI (sp_cost m P md w i wh))) h') : xq_met lev y_X_cost [xR 0, xI md, xI w, xI i, xI wh] 81 h Q := by
  refine en_X_cost (by omega) (fun K hK => ?_)
  have els := I.now.bs.ls
  have ecs := I.now.bs.cs
  unfold sp_cost at hQ
  have bad : ¬ (((0 ≤ md ∧ md < m 10) ∧ 0 ≤ i ∧ i < m 11) ∧ 0 ≤ wh ∧ wh ≤ 1) → Q (some (xI (-10001))) h := by
    intro c
    rw [xf_if_f c] at hQ
    exact hQ h xs_rf
  refine xq_go hK [] 60 ?_
  refine ⟨lev - 1, by omega, c_C_has (by omega) (fun c => ?_) (fun c => ?_)⟩
  · rw [ecs] at c
    refine And.intro (fun z => absurd z (by decide)) (fun _ => ?_)
    refine ⟨lev - 1, by omega, c_W_has (by omega) (fun c2 => ?_) (fun c2 => ?_)⟩
    · rw [els] at c2
      refine And.intro (fun z => absurd z (by decide)) (fun _ => ?_)
      refine And.intro (fun c3 => bad (fun z => by omega)) (fun c3 => And.intro (fun c4 => ?_) (fun c4 => bad (fun z => by omega)))
      rw [xf_if_t ⟨⟨c, c2⟩, by omega, by omega⟩] at hQ
      refine ⟨lev - 1, by omega, c_X_isWord (by omega) (fun c5 => ?_) (fun c5 => ?_)⟩
      · rw [xf_if_t c5] at hQ
        refine And.intro (fun _ => ?_) (fun z => absurd z (by decide))
        refine ⟨lev - 1, by omega, c_K_settle (by omega) I.vm I.now I.vn (fun h1 hs1 C1 => ?_)⟩
        refine And.intro (fun c6 => ?_) (fun c6 => ?_)
        · rw [if_neg c6] at hQ
          refine ⟨lev - 1, by omega, c_K_priceOf (by omega) I.vm (xr_base_fr hs1 (by decide) I.now.bs) C1 c5 c c2 (fun h2 hk2 => ?_)⟩
          exact hQ h2 (xr_ck_tr (xr_ck_set hs1) (xr_ck_kp hk2))
        · rw [if_pos c6] at hQ
          refine ⟨lev - 1, by omega, c_K_costOf (by omega) I.vm (xr_base_fr hs1 (by decide) I.now.bs) C1 c5 c c2 (fun h2 hk2 => ?_)⟩
          exact hQ h2 (xr_ck_tr (xr_ck_set hs1) (xr_ck_kp hk2))
      · rw [xf_if_f c5] at hQ
        refine And.intro (fun z => absurd rfl z) (fun _ => ?_)
        exact hQ h xs_rf
    · rw [els] at c2
      exact And.intro (fun _ => bad (fun z => c2 z.1.2)) (fun z => absurd rfl z)
  · rw [ecs] at c
    exact And.intro (fun _ => bad (fun z => c z.1.1)) (fun z => absurd rfl z)
theorem q_M_cost {lev : Nat} {h : xq_H} {Q : Option xq_V → xq_H → Prop} {P : List xf_Cl} {md w i wh : Int} (hl : 8 ≤ lev) (hV : xf_VM (h 65)) (hP : xf_ph (h 65) P) (hQ : ∀ h', xr_rk h h' → Q (some (xI (sp_cost (h 65) P md w i wh))) h') : xq_met lev y_M_cost [xR 64, xI md, xI w, xI i, xI wh] 81 h Q := by
  refine en_M_cost (by omega) (fun K hK => ?_)
  have V1 := hV.1
  have V3 := hV.2.2.1
  unfold sp_cost at hQ
  have bad : ¬ (((0 ≤ md ∧ md < h 65 10) ∧ 0 ≤ i ∧ i < h 65 11) ∧ 0 ≤ wh ∧ wh ≤ 1) → Q (some (xI (-10001))) h := by
    intro c
    rw [xf_if_f c] at hQ
    exact hQ h xr_rk_rf
  refine xq_go hK [] 60 ?_
  refine ⟨lev - 1, by omega, c_M_isMender (by omega) V3 (fun c => ?_) (fun c => ?_)⟩
  · refine And.intro (fun z => absurd z (by decide)) (fun _ => ?_)
    refine ⟨lev - 1, by omega, c_M_isListed (by omega) V1 (fun c2 => ?_) (fun c2 => ?_)⟩
    · refine And.intro (fun z => absurd z (by decide)) (fun _ => ?_)
      refine ⟨lev - 1, by omega, c_M_in (by omega) (fun c3 => ?_) (fun c3 => ?_)⟩
      · refine And.intro (fun _ => ?_) (fun z => absurd z (by decide))
        rw [xf_if_t ⟨⟨c, c2⟩, c3⟩] at hQ
        refine ⟨lev - 1, by omega, c_M_isWord (by omega) (fun c5 => ?_) (fun c5 => ?_)⟩
        · rw [xf_if_t c5] at hQ
          refine And.intro (fun _ => ?_) (fun z => absurd z (by decide))
          have bw := xf_szb c5
          have w1 := c5.1
          have w2 := c5.2.1
          have wi := (hV.2.1 i c2.1 c2.2).2.1
          have hxb := xf_sum_b (m := h 65) ⟨hP.1, hP.2.1⟩ (xf_fact (h 65) md (xf_sz w) i)
          have hcb := xf_co_bd hV c c5 c2 hxb
          refine ⟨lev - 1, by omega, c_M_size (by omega) (by omega) ?_⟩
          refine ⟨lev - 1, by omega, c_M_looksFor (P := P) (by omega) hV c (by omega) hP (fun h1 hs1 hex => ?_)⟩
          have e65 : h1 65 = h 65 := hs1 65 (by decide)
          have eex : h1 74 i = xf_sum (xf_fact (h 65) md (xf_sz w) i) P := by
            have := hex i.toNat (by omega)
            rw [show ((i.toNat : Nat) : Int) = i by omega] at this
            exact this
          refine ⟨lev - 1, by omega, c_M_costOf (by omega) c5 (by rw [e65]; exact hV) (by rw [e65]; exact c) (by rw [e65]; exact c2) (by rw [eex]; exact hxb) (fun h2 hs2 => ?_)⟩
          rw [e65, eex]
          have e652 : h2 65 = h 65 := (hs2 65 (by decide)).trans e65
          have q := hQ h2 (xr_rk_tr (xr_rk_s hs1 (by decide)) (xr_rk_s hs2 (by decide)))
          refine And.intro (fun c6 => ?_) (fun c6 => ?_)
          · rw [if_neg c6] at q
            refine And.intro (by omega) ?_
            refine And.intro (by omega) ?_
            refine And.intro (by omega) ?_
            rw [e652]
            refine And.intro (by omega) ?_
            exact q
          · rw [if_pos c6] at q
            exact q
        · rw [xf_if_f c5] at hQ
          refine And.intro (fun z => absurd rfl z) (fun _ => ?_)
          exact hQ h xr_rk_rf
      · exact And.intro (fun z => absurd rfl z) (fun _ => bad (fun z => c3 z.2))
    · exact And.intro (fun _ => bad (fun z => c2 z.1.2)) (fun z => absurd rfl z)
  · exact And.intro (fun _ => bad (fun z => c z.1.1)) (fun z => absurd rfl z)
/-! sets of numbers as bits -/
noncomputable def xf_bs (p : Nat → Prop) : Nat → Int
  | 0 => 0
  | n + 1 => xf_bs p n + xf_if (p n) (xf_p2 n) 0
theorem xf_bs_bd (p : Nat → Prop) : ∀ n : Nat, 0 ≤ xf_bs p n ∧ xf_bs p n < xf_p2 n
  | 0 => ⟨Int.le_refl _, by show (0 : Int) < 1; omega⟩
  | n + 1 => by
    have := xf_bs_bd p n
    rw [xf_bs, xf_p2]
    by_cases c : p n
    · rw [xf_if_t c]; omega
    · rw [xf_if_f c]; omega
theorem xf_bs_congr {p q : Nat → Prop} : ∀ (n : Nat), (∀ k, k < n → (p k ↔ q k)) → xf_bs p n = xf_bs q n
  | 0, _ => rfl
  | n + 1, h => by rw [xf_bs, xf_bs, xf_bs_congr n (fun k hk => h k (by omega)), xf_if_c (h n (by omega))]
theorem xf_p2_c {n : Nat} (hn : n ≤ 8) : (n = 0 ∧ xf_p2 n = 1) ∨ (n = 1 ∧ xf_p2 n = 2) ∨ (n = 2 ∧ xf_p2 n = 4) ∨ (n = 3 ∧ xf_p2 n = 8) ∨ (n = 4 ∧ xf_p2 n = 16) ∨ (n = 5 ∧ xf_p2 n = 32) ∨ (n = 6 ∧ xf_p2 n = 64) ∨ (n = 7 ∧ xf_p2 n = 128) ∨ (n = 8 ∧ xf_p2 n = 256) := by
  rcases (show n = 0 ∨ n = 1 ∨ n = 2 ∨ n = 3 ∨ n = 4 ∨ n = 5 ∨ n = 6 ∨ n = 7 ∨ n = 8 by omega) with rfl | rfl | rfl | rfl | rfl | rfl | rfl | rfl | rfl <;> decide
theorem xb_set8 : ∀ n : Nat, n < 8 → ∀ x : Nat, x < 2 ^ n → xq_or x (xq_shl 1 n) = x + 2 ^ n := by decide +kernel
theorem xb_set {x : Int} {n : Nat} (hn : n < 8) (hx : 0 ≤ x ∧ x < xf_p2 n) : xq_or x (xq_shl 1 n) = x + xf_p2 n := by
  obtain ⟨a, rfl⟩ := Int.eq_ofNat_of_zero_le hx.1
  have e : xf_p2 n = ((2 ^ n : Nat) : Int) := by
    rcases xf_p2_c (n := n) (by omega) with ⟨rfl, h⟩ | ⟨rfl, h⟩ | ⟨rfl, h⟩ | ⟨rfl, h⟩ | ⟨rfl, h⟩ | ⟨rfl, h⟩ | ⟨rfl, h⟩ | ⟨rfl, h⟩ | ⟨rfl, h⟩ <;> rw [h] <;> rfl
  have := xb_set8 n hn a (by omega)
  rw [e, this]
  rfl
/-- a bit more -/
theorem xf_bs_s {p : Nat → Prop} {n : Nat} {x : Int} (hn : n < 8) (hx : x = xf_bs p n) : (p n → xq_or x (xq_shl 1 n) = xf_bs p (n + 1)) ∧ (¬ p n → x = xf_bs p (n + 1) ∧ xq_or x 0 = xf_bs p (n + 1)) := by
  have b := xf_bs_bd p n
  have c := xf_p2_c (n := n) (by omega)
  constructor
  · intro h
    rw [hx, xb_set hn b, xf_bs, xf_if_t h]
  · intro h
    rw [xb_or0 (by omega), xf_bs, xf_if_f h]
    omega
noncomputable def sp_stays (m : Int → Int) (P : List xf_Cl) (md : Int) : Int := xf_if (0 ≤ md ∧ md < m 10) (xf_bs (fun i => xf_made m P md (m (18 + i)) = m (18 + i)) (m 11).toNat) (-1)
theorem c_X_staysOne {lev : Nat} {h : xq_H} {Q : Option xq_V → xq_H → Prop} {m : Int → Int} {P : List xf_Cl} {md i : Int} (hl : 6 ≤ lev) (hV : xf_VM m) (B : xr_base h m P) (C : xr_crs h m) (hmd : 0 ≤ md ∧ md < m 10) (hi : 0 ≤ i ∧ i < m 11)
    (h1 : ∀ h', xr_kp h h' → xf_made m P md (m (18 + i)) = m (18 + i) → Q (some (xI 1)) h') (h0 : ∀ h', xr_kp h h' → ¬ xf_made m P md (m (18 + i)) = m (18 + i) → Q (some (xI 0)) h') : xq_met lev y_X_staysOne [xR 0, xI md, xI i] 81 h Q := by
  refine en_X_staysOne (by omega) (fun K hK => ?_)
  have V1 := hV.1
  refine xq_go hK [] 60 ?_
  refine And.intro (by omega) ?_
  rw [B.wd i hi.1 hi.2]
  refine ⟨lev - 1, by omega, c_K_madeOf (by omega) hV B C (hV.2.1 i hi.1 hi.2).1 hmd (fun h' hk => ?_)⟩
  refine And.intro (fun c => ?_) (fun c => ?_)
  · exact And.intro (Or.inl rfl) (h0 h' hk c)
  · exact And.intro (Or.inr rfl) (h1 h' hk c)
theorem q_X_stays {lev : Nat} {h : xq_H} {Q : Option xq_V → xq_H → Prop} {m : Int → Int} {P : List xf_Cl} {md : Int} {T : Int} (hl : 8 ≤ lev) (I : xr_ok h m P T) (hQ : ∀ h', xr_ck h h' → Q (some (xI (sp_stays m P md))) h') : xq_met lev y_X_stays [xR 0, xI md] 81 h Q := by
  refine en_X_stays (by omega) (fun K hK => ?_)
  have V1 := I.vm.1
  have ecs := I.now.bs.cs
  unfold sp_stays at hQ
  refine xq_go hK [15] 60 ?_
  refine ⟨lev - 1, by omega, c_C_has (by omega) (fun c => ?_) (fun c => ?_)⟩
  · rw [ecs] at c
    rw [xf_if_t c] at hQ
    refine And.intro (fun _ => ?_) (fun z => absurd z (by decide))
    refine ⟨lev - 1, by omega, c_K_settle (by omega) I.vm I.now I.vn (fun h1 hs1 C1 => ?_)⟩
    have B1 := xr_base_fr hs1 (by decide) I.now.bs
    have loop : ∀ (d i : Nat) (x iI : Int) (h2 : xq_H), (i : Int) + d = m 11 → iI = i → x = xf_bs (fun i => xf_made m P md (m (18 + i)) = m (18 + i)) i → xr_kp h1 h2 → K 15 [some (xR 0), some (xI md), some (xI x), some (xI iI)] [] 81 h2 := by
      intro d
      induction d with
      | zero =>
        intro i x iI h2 hd ei ex hk
        have els := (xr_kp_B hk B1).ls
        refine xq_go hK [15] 60 ?_
        refine And.intro (fun _ => ?_) (fun c => absurd c (by omega))
        have q := hQ h2 (xr_ck_tr (xr_ck_set hs1) (xr_ck_kp hk))
        rw [show (m 11).toNat = i by omega, ← ex] at q
        exact q
      | succ d ih =>
        intro i x iI h2 hd ei ex hk
        subst ei
        have B2 := xr_kp_B hk B1
        have C2 := xr_kp_C hk C1
        have els := B2.ls
        have s := xf_bs_s (n := i) (by omega) ex
        refine xq_go hK [15] 60 ?_
        refine And.intro (fun c => absurd c (by omega)) (fun _ => ?_)
        refine ⟨lev - 1, by omega, c_X_staysOne (by omega) I.vm B2 C2 c (by omega) (fun h3 hk3 c3 => ?_) (fun h3 hk3 c3 => ?_)⟩
        · refine And.intro (fun z => absurd z (by decide)) (fun _ => ?_)
          refine And.intro (by omega) ?_
          exact ih (i + 1) _ _ h3 (by omega) (by omega) (s.1 c3) (xr_kp_tr hk hk3)
        · refine And.intro (fun _ => ?_) (fun z => absurd rfl z)
          refine And.intro (by omega) ?_
          exact ih (i + 1) _ _ h3 (by omega) (by omega) (s.2 c3).1 (xr_kp_tr hk hk3)
    exact loop (m 11).toNat 0 _ _ h1 (by omega) rfl rfl xr_kp_rf
  · rw [ecs] at c
    rw [xf_if_f c] at hQ
    refine And.intro (fun z => absurd rfl z) (fun _ => ?_)
    exact hQ h xs_rf
theorem c_M_staysOf {lev : Nat} {h : xq_H} {Q : Option xq_V → xq_H → Prop} {P : List xf_Cl} {md : Int} (hl : 8 ≤ lev) (hV : xf_VM (h 65)) (hP : xf_ph (h 65) P) (hmd : 0 ≤ md ∧ md < h 65 10) (hQ : ∀ h', xr_rk h h' → Q (some (xI (xf_bs (fun i => xf_made (h 65) P md (h 65 (18 + i)) = h 65 (18 + i)) (h 65 11).toNat))) h') : xq_met lev y_M_staysOf [xR 64, xI md] 81 h Q := by
  refine en_M_staysOf (by omega) (fun K hK => ?_)
  have V1 := hV.1
  have loop : ∀ (d i : Nat) (x iI : Int) (h2 : xq_H), (i : Int) + d = h 65 11 → iI = i → x = xf_bs (fun i => xf_made (h 65) P md (h 65 (18 + i)) = h 65 (18 + i)) i → xr_rk h h2 → K 4 [some (xR 64), some (xI md), some (xI x), some (xI iI)] [] 81 h2 := by
    intro d
    induction d with
    | zero =>
      intro i x iI h2 hd ei ex hk
      have e65 := xr_rk_65 hk
      refine xq_go hK [4] 60 ?_
      refine And.intro (by omega) ?_
      rw [e65]
      refine And.intro (fun _ => ?_) (fun c => absurd c (by omega))
      have q := hQ h2 hk
      rw [show (h 65 11).toNat = i by omega, ← ex] at q
      exact q
    | succ d ih =>
      intro i x iI h2 hd ei ex hk
      subst ei
      have e65 := xr_rk_65 hk
      have s := xf_bs_s (n := i) (by omega) ex
      have wi := (hV.2.1 i (by omega) (by omega)).1
      refine xq_go hK [4] 60 ?_
      refine And.intro (by omega) ?_
      rw [e65]
      refine And.intro (fun c => absurd c (by omega)) (fun _ => ?_)
      refine And.intro (by omega) ?_
      refine And.intro (by omega) ?_
      rw [e65]
      refine ⟨lev - 1, by omega, c_M_makesOf (P := P) (by omega) (by rw [e65]; exact hV) (by rw [e65]; exact hmd) wi (by rw [e65]; exact hP) (fun h3 hs3 => ?_)⟩
      have e653 : h3 65 = h 65 := (hs3 65 (by decide)).trans e65
      have hk3 := xr_rk_tr hk (xr_rk_s hs3 (by decide))
      refine And.intro (by omega) ?_
      refine And.intro (by omega) ?_
      rw [e65, e653]
      refine And.intro (fun c3 => ?_) (fun c3 => ?_)
      · refine And.intro (by omega) ?_
        exact ih (i + 1) _ _ h3 (by omega) (by omega) (s.2 c3).2 hk3
      · refine And.intro (by omega) ?_
        exact ih (i + 1) _ _ h3 (by omega) (by omega) (s.1 c3) hk3
  refine xq_go hK [4] 60 ?_
  exact loop (h 65 11).toNat 0 _ _ h (by omega) rfl rfl xr_rk_rf
theorem q_M_stays {lev : Nat} {h : xq_H} {Q : Option xq_V → xq_H → Prop} {P : List xf_Cl} {md : Int} (hl : 9 ≤ lev) (hV : xf_VM (h 65)) (hP : xf_ph (h 65) P) (hQ : ∀ h', xr_rk h h' → Q (some (xI (sp_stays (h 65) P md))) h') : xq_met lev y_M_stays [xR 64, xI md] 81 h Q := by
  refine en_M_stays (by omega) (fun K hK => ?_)
  have V3 := hV.2.2.1
  unfold sp_stays at hQ
  refine xq_go hK [] 60 ?_
  refine ⟨lev - 1, by omega, c_M_isMender (by omega) V3 (fun c => ?_) (fun c => ?_)⟩
  · rw [xf_if_t c] at hQ
    refine And.intro (fun z => absurd z (by decide)) (fun _ => ?_)
    refine ⟨lev - 1, by omega, c_M_staysOf (P := P) (by omega) hV hP c (fun h1 hk1 => ?_)⟩
    exact hQ h1 hk1
  · rw [xf_if_f c] at hQ
    refine And.intro (fun _ => ?_) (fun z => absurd rfl z)
    exact hQ h xr_rk_rf
noncomputable def sp_who (m : Int → Int) (P : List xf_Cl) (w a : Int) : Int := xf_if (xf_wd w ∧ xf_wd a) (xf_bs (fun k => xf_made m P k w = a) (m 10).toNat) (-2)
theorem q_X_who {lev : Nat} {h : xq_H} {Q : Option xq_V → xq_H → Prop} {m : Int → Int} {P : List xf_Cl} {w a : Int} {T : Int} (hl : 8 ≤ lev) (I : xr_ok h m P T) (hQ : ∀ h', xr_ck h h' → Q (some (xI (sp_who m P w a))) h') : xq_met lev y_X_who [xR 0, xI w, xI a] 81 h Q := by
  refine en_X_who (by omega) (fun K hK => ?_)
  have V3 := I.vm.2.2.1
  unfold sp_who at hQ
  refine xq_go hK [15] 60 ?_
  refine ⟨lev - 1, by omega, c_X_isWord (by omega) (fun c => ?_) (fun c => ?_)⟩
  · refine And.intro (fun z => absurd z (by decide)) (fun _ => ?_)
    refine ⟨lev - 1, by omega, c_X_isWord (by omega) (fun c2 => ?_) (fun c2 => ?_)⟩
    · refine And.intro (fun _ => ?_) (fun z => absurd z (by decide))
      rw [xf_if_t ⟨c, c2⟩] at hQ
      refine ⟨lev - 1, by omega, c_K_settle (by omega) I.vm I.now I.vn (fun h1 hs1 C1 => ?_)⟩
      have B1 := xr_base_fr hs1 (by decide) I.now.bs
      have loop : ∀ (d i : Nat) (x iI : Int) (h2 : xq_H), (i : Int) + d = m 10 → iI = i → x = xf_bs (fun k => xf_made m P k w = a) i → xr_kp h1 h2 → K 15 [some (xR 0), some (xI w), some (xI a), some (xI x), some (xI iI)] [] 81 h2 := by
        intro d
        induction d with
        | zero =>
          intro i x iI h2 hd ei ex hk
          have ecs := (xr_kp_B hk B1).cs
          refine xq_go hK [15] 60 ?_
          refine And.intro (fun _ => ?_) (fun c => absurd c (by omega))
          have q := hQ h2 (xr_ck_tr (xr_ck_set hs1) (xr_ck_kp hk))
          rw [show (m 10).toNat = i by omega, ← ex] at q
          exact q
        | succ d ih =>
          intro i x iI h2 hd ei ex hk
          subst ei
          have B2 := xr_kp_B hk B1
          have C2 := xr_kp_C hk C1
          have ecs := B2.cs
          have s := xf_bs_s (n := i) (by omega) ex
          refine xq_go hK [15] 60 ?_
          refine And.intro (fun c => absurd c (by omega)) (fun _ => ?_)
          refine ⟨lev - 1, by omega, c_K_madeOf (by omega) I.vm B2 C2 c (by omega) (fun h3 hk3 => ?_)⟩
          refine And.intro (fun c3 => ?_) (fun c3 => ?_)
          · refine And.intro (by omega) ?_
            exact ih (i + 1) _ _ h3 (by omega) (by omega) (s.2 c3).1 (xr_kp_tr hk hk3)
          · refine And.intro (by omega) ?_
            exact ih (i + 1) _ _ h3 (by omega) (by omega) (s.1 c3) (xr_kp_tr hk hk3)
      exact loop (m 10).toNat 0 _ _ h1 (by omega) rfl rfl xr_kp_rf
    · rw [xf_if_f (fun z => c2 z.2)] at hQ
      refine And.intro (fun z => absurd rfl z) (fun _ => ?_)
      exact hQ h xs_rf
  · rw [xf_if_f (fun z => c z.1)] at hQ
    refine And.intro (fun _ => ?_) (fun z => absurd rfl z)
    exact hQ h xs_rf
theorem q_M_who {lev : Nat} {h : xq_H} {Q : Option xq_V → xq_H → Prop} {P : List xf_Cl} {w a : Int} (hl : 8 ≤ lev) (hV : xf_VM (h 65)) (hP : xf_ph (h 65) P) (hQ : ∀ h', xr_rk h h' → Q (some (xI (sp_who (h 65) P w a))) h') : xq_met lev y_M_who [xR 64, xI w, xI a] 81 h Q := by
  refine en_M_who (by omega) (fun K hK => ?_)
  have V3 := hV.2.2.1
  unfold sp_who at hQ
  refine xq_go hK [12] 60 ?_
  refine ⟨lev - 1, by omega, c_M_isWord (by omega) (fun c => ?_) (fun c => ?_)⟩
  · refine And.intro (fun z => absurd z (by decide)) (fun _ => ?_)
    refine ⟨lev - 1, by omega, c_M_isWord (by omega) (fun c2 => ?_) (fun c2 => ?_)⟩
    · refine And.intro (fun _ => ?_) (fun z => absurd z (by decide))
      rw [xf_if_t ⟨c, c2⟩] at hQ
      have loop : ∀ (d i : Nat) (x iI : Int) (h2 : xq_H), (i : Int) + d = h 65 10 → iI = i → x = xf_bs (fun k => xf_made (h 65) P k w = a) i → xr_rk h h2 → K 12 [some (xR 64), some (xI w), some (xI a), some (xI x), some (xI iI)] [] 81 h2 := by
        intro d
        induction d with
        | zero =>
          intro i x iI h2 hd ei ex hk
          have e65 := xr_rk_65 hk
          refine xq_go hK [12] 60 ?_
          refine And.intro (by omega) ?_
          rw [e65]
          refine And.intro (fun _ => ?_) (fun c => absurd c (by omega))
          have q := hQ h2 hk
          rw [show (h 65 10).toNat = i by omega, ← ex] at q
          exact q
        | succ d ih =>
          intro i x iI h2 hd ei ex hk
          subst ei
          have e65 := xr_rk_65 hk
          have s := xf_bs_s (n := i) (by omega) ex
          refine xq_go hK [12] 60 ?_
          refine And.intro (by omega) ?_
          rw [e65]
          refine And.intro (fun c => absurd c (by omega)) (fun _ => ?_)
          refine ⟨lev - 1, by omega, c_M_makesOf (P := P) (by omega) (by rw [e65]; exact hV) (by rw [e65]; omega) c (by rw [e65]; exact hP) (fun h3 hs3 => ?_)⟩
          have hk3 := xr_rk_tr hk (xr_rk_s hs3 (by decide))
          rw [e65]
          refine And.intro (fun c3 => ?_) (fun c3 => ?_)
          · refine And.intro (by omega) ?_
            exact ih (i + 1) _ _ h3 (by omega) (by omega) (s.2 c3).2 hk3
          · refine And.intro (by omega) ?_
            exact ih (i + 1) _ _ h3 (by omega) (by omega) (s.1 c3) hk3
      exact loop (h 65 10).toNat 0 _ _ h (by omega) rfl rfl xr_rk_rf
    · rw [xf_if_f (fun z => c2 z.2)] at hQ
      refine And.intro (fun z => absurd rfl z) (fun _ => ?_)
      exact hQ h xr_rk_rf
  · rw [xf_if_f (fun z => c z.1)] at hQ
    refine And.intro (fun _ => ?_) (fun z => absurd rfl z)
    exact hQ h xr_rk_rf
noncomputable def sp_looked (m : Int → Int) (P : List xf_Cl) : Int := xf_find (fun k => ¬ xf_made m P (m (110 + k)) (m (118 + k)) = m (126 + k)) (-5) (m 14).toNat 0
theorem q_X_looked {lev : Nat} {h : xq_H} {Q : Option xq_V → xq_H → Prop} {m : Int → Int} {P : List xf_Cl} {T : Int} (hl : 8 ≤ lev) (I : xr_ok h m P T) (hQ : ∀ h', xr_ck h h' → Q (some (xI (sp_looked m P))) h') : xq_met lev y_X_looked [xR 0] 81 h Q := by
  refine en_X_looked (by omega) (fun K hK => ?_)
  have n1 := I.vn.bk
  unfold sp_looked at hQ
  refine xq_go hK [9] 60 ?_
  refine ⟨lev - 1, by omega, c_K_settle (by omega) I.vm I.now I.vn (fun h1 hs1 C1 => ?_)⟩
  have N1 := xr_now_fr hs1 (by decide) I.now
  have loop : ∀ (d i : Nat) (iI : Int) (h2 : xq_H), (i : Int) + d = m 14 → iI = i → xr_kp h1 h2 → (∀ h', xr_ck h h' → Q (some (xI (xf_find (fun k => ¬ xf_made m P (m (110 + k)) (m (118 + k)) = m (126 + k)) (-5) d i))) h') → K 9 [some (xR 0), some (xR 21), some (xI iI)] [] 81 h2 := by
    intro d
    induction d with
    | zero =>
      intro i iI h2 hd ei hk q
      have ebk := (xr_now_fr hk.1 (by decide) N1).bk
      refine xq_go hK [9] 60 ?_
      refine And.intro (fun _ => ?_) (fun c => absurd c (by omega))
      exact q h2 (xr_ck_tr (xr_ck_set hs1) (xr_ck_kp hk))
    | succ d ih =>
      intro i iI h2 hd ei hk q
      subst ei
      have N2 := xr_now_fr hk.1 (by decide) N1
      have ebk := N2.bk
      have wk := I.vn.bw i (by omega) (by omega)
      rw [xf_find] at q
      refine xq_go hK [9] 60 ?_
      refine And.intro (fun c => absurd c (by omega)) (fun _ => ?_)
      refine And.intro (by omega) ?_
      refine And.intro (by omega) ?_
      rw [N2.b1 i (by omega) (by omega), N2.b2 i (by omega) (by omega)]
      refine ⟨lev - 1, by omega, c_K_madeOf (by omega) I.vm N2.bs (xr_kp_C hk C1) wk.2.1 wk.1 (fun h3 hk3 => ?_)⟩
      have N3 := xr_now_fr hk3.1 (by decide) N2
      refine And.intro (by omega) ?_
      rw [N3.b3 i (by omega) (by omega)]
      refine And.intro (fun c => ?_) (fun c => ?_)
      · rw [xf_if_f (fun z => z c)] at q
        refine And.intro (by omega) ?_
        exact ih (i + 1) _ h3 (by omega) (by omega) (xr_kp_tr hk hk3) q
      · rw [xf_if_t c] at q
        exact q h3 (xr_ck_tr (xr_ck_set hs1) (xr_ck_kp (xr_kp_tr hk hk3)))
  exact loop (m 14).toNat 0 _ h1 (by omega) rfl xr_kp_rf hQ
theorem q_M_looked {lev : Nat} {h : xq_H} {Q : Option xq_V → xq_H → Prop} {P : List xf_Cl} (hl : 8 ≤ lev) (hV : xf_VM (h 65)) (hN : xf_VN (h 65)) (hP : xf_ph (h 65) P) (hQ : ∀ h', xr_rk h h' → Q (some (xI (sp_looked (h 65) P))) h') : xq_met lev y_M_looked [xR 64] 81 h Q := by
  refine en_M_looked (by omega) (fun K hK => ?_)
  have n1 := hN.bk
  unfold sp_looked at hQ
  have loop : ∀ (d i : Nat) (iI : Int) (h2 : xq_H), (i : Int) + d = h 65 14 → iI = i → xr_rk h h2 → (∀ h', xr_rk h h' → Q (some (xI (xf_find (fun k => ¬ xf_made (h 65) P (h 65 (110 + k)) (h 65 (118 + k)) = h 65 (126 + k)) (-5) d i))) h') → K 2 [some (xR 64), some (xI iI)] [] 81 h2 := by
    intro d
    induction d with
    | zero =>
      intro i iI h2 hd ei hk q
      have e65 := xr_rk_65 hk
      refine xq_go hK [2] 60 ?_
      refine And.intro (by omega) ?_
      rw [e65]
      refine And.intro (fun _ => ?_) (fun c => absurd c (by omega))
      exact q h2 hk
    | succ d ih =>
      intro i iI h2 hd ei hk q
      subst ei
      have e65 := xr_rk_65 hk
      have wk := hN.bw i (by omega) (by omega)
      rw [xf_find] at q
      refine xq_go hK [2] 60 ?_
      refine And.intro (by omega) ?_
      rw [e65]
      refine And.intro (fun c => absurd c (by omega)) (fun _ => ?_)
      refine And.intro (by omega) ?_
      refine And.intro (by omega) ?_
      refine And.intro (by omega) ?_
      refine And.intro (by omega) ?_
      rw [e65]
      refine ⟨lev - 1, by omega, c_M_makesOf (P := P) (by omega) (by rw [e65]; exact hV) (by rw [e65]; exact wk.1) wk.2.1 (by rw [e65]; exact hP) (fun h3 hs3 => ?_)⟩
      have e653 : h3 65 = h 65 := (hs3 65 (by decide)).trans e65
      have hk3 := xr_rk_tr hk (xr_rk_s hs3 (by decide))
      refine And.intro (by omega) ?_
      refine And.intro (by omega) ?_
      rw [e65, e653]
      refine And.intro (fun c => ?_) (fun c => ?_)
      · rw [xf_if_f (fun z => z c)] at q
        refine And.intro (by omega) ?_
        exact ih (i + 1) _ h3 (by omega) (by omega) hk3 q
      · rw [xf_if_t c] at q
        exact q h3 hk3
  refine xq_go hK [2] 60 ?_
  exact loop (h 65 14).toNat 0 _ h (by omega) rfl xr_rk_rf hQ
