/-! NEVER, SAVED, TWINS -/
theorem xb_or8 : ∀ j : Nat, j < 8 → ∀ x : Nat, x < 256 → xq_or x (xq_shl 1 j) = if x / 2 ^ j % 2 = 1 then (x : Int) else x + 2 ^ j := by decide +kernel
theorem xb_not8 : ∀ n : Nat, n ≤ 8 → ∀ x : Nat, x < 2 ^ n → xq_and (xq_shl 1 n - 1) (xq_xor x (-1)) = 2 ^ n - 1 - x := by decide +kernel
theorem xb_shn : ∀ n : Nat, n ≤ 8 → 1 ≤ xq_shl 1 n ∧ xq_shl 1 n ≤ 256 := by decide +kernel
theorem xf_p2_n {n : Nat} (hn : n ≤ 8) : xf_p2 n = ((2 ^ n : Nat) : Int) := by
  rcases xf_p2_c hn with ⟨rfl, h⟩ | ⟨rfl, h⟩ | ⟨rfl, h⟩ | ⟨rfl, h⟩ | ⟨rfl, h⟩ | ⟨rfl, h⟩ | ⟨rfl, h⟩ | ⟨rfl, h⟩ | ⟨rfl, h⟩ <;> rw [h] <;> rfl
/-- one more of them -/
theorem xf_bs_add {q : Nat → Prop} {j : Nat} : ∀ n : Nat, n ≤ 8 → j < n → (q j → xf_bs (fun i => q i ∨ i = j) n = xf_bs q n) ∧ (¬ q j → xf_bs (fun i => q i ∨ i = j) n = xf_bs q n + xf_p2 j)
  | 0, _, h => absurd h (by omega)
  | n + 1, hn, hj => by
    rw [xf_bs, xf_bs]
    by_cases e : j = n
    · subst e
      have e2 : xf_bs (fun i => q i ∨ i = j) j = xf_bs q j := xf_bs_congr j (fun k hk => ⟨fun z => z.elim id (fun y => absurd y (by omega)), Or.inl⟩)
      rw [e2, xf_if_t (Or.inr rfl)]
      constructor
      · intro h
        rw [xf_if_t h]
      · intro h
        rw [xf_if_f h]
        omega
    · have ih := xf_bs_add (q := q) (j := j) n (by omega) (by omega)
      have e3 : xf_if (q n ∨ n = j) (xf_p2 n) 0 = xf_if (q n) (xf_p2 n) 0 := xf_if_c ⟨fun z => z.elim id (fun y => absurd y (fun w => e w.symm)), Or.inl⟩
      rw [e3]
      exact ⟨fun h => by rw [ih.1 h], fun h => by rw [ih.2 h]; omega⟩
theorem xf_bs_bit {q : Nat → Prop} {j : Nat} : ∀ n : Nat, n ≤ 8 → j < n → ((xf_bs q n) / xf_p2 j % 2 = 1 ↔ q j)
  | 0, _, h => absurd h (by omega)
  | n + 1, hn, hj => by
    rw [xf_bs]
    have b := xf_bs_bd q n
    by_cases e : j = n
    · subst e
      by_cases c : q j
      · rw [xf_if_t c]
        refine ⟨fun _ => c, fun _ => ?_⟩
        rcases xf_p2_c (n := j) (by omega) with ⟨_, h⟩ | ⟨_, h⟩ | ⟨_, h⟩ | ⟨_, h⟩ | ⟨_, h⟩ | ⟨_, h⟩ | ⟨_, h⟩ | ⟨_, h⟩ | ⟨_, h⟩ <;> rw [h] at b ⊢ <;> omega
      · rw [xf_if_f c]
        refine ⟨fun z => ?_, fun z => absurd z c⟩
        rcases xf_p2_c (n := j) (by omega) with ⟨_, h⟩ | ⟨_, h⟩ | ⟨_, h⟩ | ⟨_, h⟩ | ⟨_, h⟩ | ⟨_, h⟩ | ⟨_, h⟩ | ⟨_, h⟩ | ⟨_, h⟩ <;> rw [h] at b z <;> omega
    · have ih := xf_bs_bit (q := q) (j := j) n (by omega) (by omega)
      rw [← ih]
      have key : (xf_bs q n + xf_if (q n) (xf_p2 n) 0) / xf_p2 j % 2 = xf_bs q n / xf_p2 j % 2 := by
        by_cases c : q n
        · rw [xf_if_t c]
          obtain ⟨d, hd⟩ : ∃ d, n = j + 1 + d := ⟨n - (j + 1), by omega⟩
          have e2 : ∀ (a d : Nat), xf_p2 (a + d) = xf_p2 a * xf_p2 d := by
            intro a d
            induction d with
            | zero => exact (Int.mul_one _).symm
            | succ d ih =>
              show 2 * xf_p2 (a + d) = xf_p2 a * (2 * xf_p2 d)
              rw [ih, Int.mul_left_comm]
          have e3 : xf_p2 n = (2 * xf_p2 d) * xf_p2 j := by
            rw [hd, e2, show xf_p2 (j + 1) = 2 * xf_p2 j from rfl]
            rw [Int.mul_assoc, Int.mul_comm (xf_p2 j), ← Int.mul_assoc]
          have hpos : xf_p2 j ≠ 0 := by
            have := xf_p2_c (n := j) (by omega)
            omega
          rw [e3, Int.add_mul_ediv_right _ _ hpos]
          omega
        · rw [xf_if_f c, Int.add_zero]
      rw [key]
theorem xb_or_bs {q : Nat → Prop} {j n : Nat} {x jI : Int} (hn : n ≤ 8) (hj : j < n) (ej : jI = j) (hx : x = xf_bs q n) : xq_or x (xq_shl 1 jI) = xf_bs (fun i => q i ∨ i = j) n := by
  subst ej hx
  have b := xf_bs_bd q n
  have c := xf_p2_c hn
  obtain ⟨a, ha⟩ := Int.eq_ofNat_of_zero_le b.1
  have e := xb_or8 j (by omega) a (by omega)
  have bit := xf_bs_bit (q := q) (j := j) n hn hj
  have ad := xf_bs_add (q := q) (j := j) n hn hj
  have p := xf_p2_n (n := j) (by omega)
  rw [ha] at bit ⊢
  have bit2 : a / 2 ^ j % 2 = 1 ↔ q j := by
    rw [← bit, p]
    omega
  rw [e]
  by_cases cq : q j
  · rw [if_pos (bit2.2 cq), ad.1 cq, ha]
  · rw [if_neg (fun z => cq (bit2.1 z)), ad.2 cq, ha, p]
    rfl
theorem xf_bs_not (q : Nat → Prop) : ∀ n : Nat, xf_p2 n - 1 - xf_bs q n = xf_bs (fun i => ¬ q i) n
  | 0 => rfl
  | n + 1 => by
    have ih := xf_bs_not q n
    rw [xf_bs, xf_bs, xf_p2]
    by_cases c : q n
    · rw [xf_if_t c, xf_if_f (fun z => z c)]
      omega
    · rw [xf_if_f c, xf_if_t c]
      omega
noncomputable def xf_nv (m : Int → Int) (P : List xf_Cl) (md : Int) (k i : Nat) : Prop := xf_made m P md (m (18 + i)) = m (18 + i) ∨ xf_wi m P md i k ≠ 0
noncomputable def sp_never (m : Int → Int) (P : List xf_Cl) (md : Int) : Int := xf_if (0 ≤ md ∧ md < m 10) (xf_bs (fun i => ¬ xf_nv m P md 584 i) (m 11).toNat) (-1)
set_option maxHeartbeats 1000000 in
theorem q_X_never {lev : Nat} {h : xq_H} {Q : Option xq_V → xq_H → Prop} {m : Int → Int} {P : List xf_Cl} {md : Int} {T : Int} (hl : 9 ≤ lev) (I : xr_ok h m P T) (hQ : ∀ h', xr_ck h h' → Q (some (xI (sp_never m P md))) h') : xq_met lev y_X_never [xR 0, xI md] 81 h Q := by
  refine en_X_never (by omega) (fun K hK => ?_)
  have V1 := I.vm.1
  have ecs := I.now.bs.cs
  unfold sp_never at hQ
  refine xq_go hK [19] 60 ?_
  refine ⟨lev - 1, by omega, c_C_has (by omega) (fun c => ?_) (fun c => ?_)⟩
  · rw [ecs] at c
    rw [xf_if_t c] at hQ
    refine And.intro (fun _ => ?_) (fun z => absurd z (by decide))
    refine ⟨lev - 1, by omega, c_K_settle (by omega) I.vm I.now I.vn (fun h1 hs1 C1 => ?_)⟩
    have B1 := xr_base_fr hs1 (by decide) I.now.bs
    refine ⟨lev - 1, by omega, c_X_shortWays (by omega) I.vm B1 C1 c (fun h2 hk2 C2 hw => ?_)⟩
    have hk02 : xr_ck h h2 := xr_ck_tr (xr_ck_set hs1) (xs_tr xs_rf hk2 (X := []) (by decide) (by decide))
    have B2 := xr_base_fr hk2 (by decide) B1
    have loop : ∀ (d i : Nat) (x iI : Int) (h3 : xq_H), (i : Int) + d = m 11 → iI = i → x = xf_bs (fun i => ¬ xf_nv m P md 584 i) i → xr_kp h2 h3 → K 19 [some (xR 0), some (xI md), some (xI x), some (xI iI)] [] 81 h3 := by
      intro d
      induction d with
      | zero =>
        intro i x iI h3 hd ei ex hk
        have els := (xr_kp_B hk B2).ls
        refine xq_go hK [19] 60 ?_
        refine And.intro (fun _ => ?_) (fun c => absurd c (by omega))
        have q := hQ h3 (xr_ck_tr hk02 (xr_ck_kp hk))
        rw [show (m 11).toNat = i by omega, ← ex] at q
        exact q
      | succ d ih =>
        intro i x iI h3 hd ei ex hk
        subst ei
        have B3 := xr_kp_B hk B2
        have C3 := xr_kp_C hk C2
        have els := B3.ls
        have s := xf_bs_s (n := i) (by omega) ex
        have r62 : h3 62 i = xf_wi m P md i 584 := by rw [hk.1 62 (by decide)]; exact hw i (by omega) (by omega)
        refine xq_go hK [19] 60 ?_
        refine And.intro (fun c => absurd c (by omega)) (fun _ => ?_)
        refine And.intro (by omega) ?_
        rw [r62]
        refine And.intro (fun c2 => ?_) (fun c2 => ?_)
        · refine And.intro (by omega) ?_
          exact ih (i + 1) _ _ h3 (by omega) (by omega) (s.2 (fun z => z (Or.inr c2))).1 hk
        · refine ⟨lev - 1, by omega, c_X_staysOne (by omega) I.vm B3 C3 c (by omega) (fun h4 hk4 c3 => ?_) (fun h4 hk4 c3 => ?_)⟩
          · refine And.intro (fun _ => ?_) (fun z => absurd z (by decide))
            refine And.intro (by omega) ?_
            exact ih (i + 1) _ _ h4 (by omega) (by omega) (s.2 (fun z => z (Or.inl c3))).1 (xr_kp_tr hk hk4)
          · refine And.intro (fun z => absurd rfl z) (fun _ => ?_)
            refine And.intro (by omega) ?_
            exact ih (i + 1) _ _ h4 (by omega) (by omega) (s.1 (fun z => z.elim c3 (fun y => y c2))) (xr_kp_tr hk hk4)
    exact loop (m 11).toNat 0 _ _ h2 (by omega) rfl rfl xr_kp_rf
  · rw [ecs] at c
    rw [xf_if_f c] at hQ
    exact And.intro (fun z => absurd rfl z) (fun _ => hQ h xs_rf)
theorem xf_wi_s {m : Int → Int} {P : List xf_Cl} {md i : Int} {k : Nat} (hk : k < 584) : xf_wi m P md i (k + 1) ≠ 0 ↔ xf_wi m P md i k ≠ 0 ∨ xf_num m (xf_sm m P md k) = i := by
  unfold xf_wi
  constructor
  · intro h
    by_cases c : xf_wa (fun k => xf_num m (xf_sm m P md k) = i) k = 0
    · by_cases c2 : xf_num m (xf_sm m P md k) = i
      · exact Or.inr c2
      · exact absurd (xf_wa_s.2.1 c c2) h
    · exact Or.inl c
  · intro h
    rcases h with h | h
    · rw [xf_wa_s.2.2 h]
      exact h
    · exact xf_wa_ne (j := k) (by omega) h (by omega)
set_option maxHeartbeats 1000000 in
theorem q_M_never {lev : Nat} {h : xq_H} {Q : Option xq_V → xq_H → Prop} {P : List xf_Cl} {md : Int} (hl : 9 ≤ lev) (hV : xf_VM (h 65)) (hP : xf_ph (h 65) P) (hQ : ∀ h', xr_rk h h' → Q (some (xI (sp_never (h 65) P md))) h') : xq_met lev y_M_never [xR 64, xI md] 81 h Q := by
  refine en_M_never (by omega) (fun K hK => ?_)
  have V1 := hV.1
  have V3 := hV.2.2.1
  unfold sp_never at hQ
  refine xq_go hK [15] 60 ?_
  refine ⟨lev - 1, by omega, c_M_isMender (by omega) V3 (fun c => ?_) (fun c => ?_)⟩
  · rw [xf_if_t c] at hQ
    refine And.intro (fun _ => ?_) (fun z => absurd z (by decide))
    refine ⟨lev - 1, by omega, c_M_staysOf (P := P) (by omega) hV hP c (fun h0 hk0 => ?_)⟩
    have e650 := xr_rk_65 hk0
    refine ⟨lev - 1, by omega, c_M_looksForShort (P := P) (by omega) (by rw [e650]; exact hV) (by rw [e650]; exact hP) (by rw [e650]; exact c) (fun h1 hk1 ha => ?_)⟩
    rw [e650] at ha
    have e65 := (xr_rk_65 hk1).trans e650
    have loop : ∀ (d k : Nat) (x kI : Int) (x4 : Option xq_V), k + d = 584 → kI = k → x = xf_bs (xf_nv (h 65) P md k) (h 65 11).toNat → (x4 = none ∨ ∃ z, x4 = some (xI z)) → K 15 [some (xR 64), some (xI md), some (xI x), some (xI kI), x4] [] 81 h1 := by
      intro d
      induction d with
      | zero =>
        intro k x kI x4 hd ek ex _
        obtain rfl : k = 584 := by omega
        have hb := xf_bs_bd (xf_nv (h 65) P md 584) (h 65 11).toNat
        have pn := xf_p2_n (n := (h 65 11).toNat) (by omega)
        have hsn := xb_shn (h 65 11).toNat (by omega)
        obtain ⟨a, hxa⟩ := Int.eq_ofNat_of_zero_le hb.1
        have e8 := xb_not8 (h 65 11).toNat (by omega) a (by omega)
        rw [show (((h 65 11).toNat : Nat) : Int) = h 65 11 by omega] at hsn e8
        refine xq_go hK [15] 60 ?_
        refine And.intro (fun _ => ?_) (fun c => absurd c (by omega))
        refine And.intro (by omega) ?_
        rw [e65]
        refine And.intro (by omega) ?_
        have q := hQ h1 (xr_rk_tr hk0 hk1)
        rw [← xf_bs_not, hxa, pn] at q
        rw [show ((2 ^ (h 65 11).toNat : Nat) : Int) - 1 - a = xq_and (xq_shl 1 (h 65 11) - 1) (xq_xor (a : Int) (-1)) from e8.symm] at q
        rw [ex, hxa]
        exact q
      | succ d ih =>
        intro k x kI x4 hd ek ex hx4
        subst ek
        have hnb := xf_num_bd V1.1 (xf_sm (h 65) P md k)
        rcases hx4 with rfl | ⟨z4, rfl⟩
        all_goals
          refine xq_go hK [15] 60 ?_
          refine And.intro (fun c => absurd c (by omega)) (fun _ => ?_)
          refine And.intro (by omega) ?_
          rw [(ha k (by omega)).2]
          refine ⟨lev - 1, by omega, c_M_indexOf (by omega) (by rw [e65]; exact V1) ?_⟩
          rw [e65]
          refine And.intro (fun c2 => ?_) (fun c2 => ?_)
          · refine And.intro (by omega) ?_
            refine ih (k + 1) _ _ _ (by omega) (by omega) ?_ (Or.inr ⟨_, rfl⟩)
            rw [xb_or_bs (q := xf_nv (h 65) P md k) (j := (xf_num (h 65) (xf_sm (h 65) P md k)).toNat) (n := (h 65 11).toNat) (by omega) (by omega) (by omega) ex]
            refine xf_bs_congr _ (fun i hi => ?_)
            unfold xf_nv
            rw [xf_wi_s (by omega)]
            constructor
            · rintro ((z | z) | z)
              · exact Or.inl z
              · exact Or.inr (Or.inl z)
              · exact Or.inr (Or.inr (by omega))
            · rintro (z | z | z)
              · exact Or.inl (Or.inl z)
              · exact Or.inl (Or.inr z)
              · exact Or.inr (by omega)
          · refine And.intro (by omega) ?_
            refine ih (k + 1) _ _ _ (by omega) (by omega) ?_ (Or.inr ⟨_, rfl⟩)
            have hb := xf_bs_bd (xf_nv (h 65) P md k) (h 65 11).toNat
            have pc := xf_p2_c (n := (h 65 11).toNat) (by omega)
            rw [xb_or0 (by omega), ex]
            refine xf_bs_congr _ (fun i hi => ?_)
            unfold xf_nv
            rw [xf_wi_s (by omega)]
            constructor
            · rintro (z | z)
              · exact Or.inl z
              · exact Or.inr (Or.inl z)
            · rintro (z | z | z)
              · exact Or.inl z
              · exact Or.inr z
              · exact absurd z (by omega)
    refine loop 584 0 _ _ _ (by omega) rfl ?_ (Or.inl rfl)
    refine xf_bs_congr _ (fun i hi => ⟨Or.inl, fun z => z.elim id (fun y => absurd rfl y)⟩)
  · rw [xf_if_f c] at hQ
    exact And.intro (fun z => absurd rfl z) (fun _ => hQ h xr_rk_rf)
/-- what is saved for the words of the list below n -/
noncomputable def xf_sv (m : Int → Int) (P : List xf_Cl) (md : Int) : Nat → Int
  | 0 => 0
  | n + 1 => xf_sv m P md n + if xf_wi m P md n 584 = 0 then 0 else max 0 (xf_sz (m (18 + n)) - xf_sz (xf_wi m P md n 584))
noncomputable def sp_saved (m : Int → Int) (P : List xf_Cl) (md : Int) : Int := xf_if (0 ≤ md ∧ md < m 10) (xf_sv m P md (m 11).toNat) (-1)
theorem xf_sz_bd (w : Int) : 0 ≤ xf_sz w ∧ xf_sz w ≤ 5 := by
  unfold xf_sz
  repeat' split
  all_goals omega
theorem xf_sv_bd (m : Int → Int) (P : List xf_Cl) (md : Int) : ∀ n : Nat, 0 ≤ xf_sv m P md n ∧ xf_sv m P md n ≤ 5 * n
  | 0 => ⟨Int.le_refl _, by show (0 : Int) ≤ 0; omega⟩
  | n + 1 => by
    have := xf_sv_bd m P md n
    have a := xf_sz_bd (m (18 + n))
    have b := xf_sz_bd (xf_wi m P md n 584)
    rw [xf_sv]
    split <;> omega
theorem q_X_saved {lev : Nat} {h : xq_H} {Q : Option xq_V → xq_H → Prop} {m : Int → Int} {P : List xf_Cl} {md : Int} {T : Int} (hl : 9 ≤ lev) (I : xr_ok h m P T) (hQ : ∀ h', xr_ck h h' → Q (some (xI (sp_saved m P md))) h') : xq_met lev y_X_saved [xR 0, xI md] 81 h Q := by
  refine en_X_saved (by omega) (fun K hK => ?_)
  have V1 := I.vm.1
  have ecs := I.now.bs.cs
  unfold sp_saved at hQ
  refine xq_go hK [19] 60 ?_
  refine ⟨lev - 1, by omega, c_C_has (by omega) (fun c => ?_) (fun c => ?_)⟩
  · rw [ecs] at c
    rw [xf_if_t c] at hQ
    refine And.intro (fun _ => ?_) (fun z => absurd z (by decide))
    refine ⟨lev - 1, by omega, c_K_settle (by omega) I.vm I.now I.vn (fun h1 hs1 C1 => ?_)⟩
    have B1 := xr_base_fr hs1 (by decide) I.now.bs
    refine ⟨lev - 1, by omega, c_X_shortWays (by omega) I.vm B1 C1 c (fun h2 hk2 C2 hw => ?_)⟩
    have hk02 : xr_ck h h2 := xr_ck_tr (xr_ck_set hs1) (xs_tr xs_rf hk2 (X := []) (by decide) (by decide))
    have B2 := xr_base_fr hk2 (by decide) B1
    have els := B2.ls
    have loop : ∀ (d i : Nat) (x iI : Int), (i : Int) + d = m 11 → iI = i → x = xf_sv m P md i → K 19 [some (xR 0), some (xI md), some (xI x), some (xI iI)] [] 81 h2 := by
      intro d
      induction d with
      | zero =>
        intro i x iI hd ei ex
        refine xq_go hK [19] 60 ?_
        refine And.intro (fun _ => ?_) (fun c => absurd c (by omega))
        have q := hQ h2 hk02
        rw [show (m 11).toNat = i by omega, ← ex] at q
        exact q
      | succ d ih =>
        intro i x iI hd ei ex
        subst ei
        have r62 := hw i (by omega) (by omega)
        have r7 := B2.sz i (by omega) (by omega)
        have hb := xf_sv_bd m P md i
        have hb2 := xf_sv_bd m P md (i + 1)
        have e1 : xf_sv m P md (i + 1) = x + if xf_wi m P md i 584 = 0 then 0 else max 0 (xf_sz (m (18 + i)) - xf_sz (xf_wi m P md i 584)) := by rw [xf_sv, ← ex]
        have b3 := xf_sz_bd (m (18 + i))
        have b4 := xf_sz_bd (xf_wi m P md i 584)
        refine xq_go hK [19] 60 ?_
        refine And.intro (fun c => absurd c (by omega)) (fun _ => ?_)
        refine And.intro (by omega) ?_
        rw [r62]
        refine And.intro (fun c2 => ?_) (fun c2 => ?_)
        · rw [if_pos c2] at e1
          refine And.intro (by omega) ?_
          exact ih (i + 1) _ _ (by omega) (by omega) (by omega)
        · rw [if_neg c2] at e1
          obtain ⟨j, j1, _, j3, _⟩ := xf_wa_at 584 (Nat.le_refl _) c2
          have hwd : xf_wd (xf_wi m P md i 584) := by
            show xf_wd (xf_wa _ 584)
            rw [j3]
            exact xf_shw_wd j1
          refine And.intro (by omega) ?_
          refine And.intro (by omega) ?_
          rw [r7, r62]
          refine ⟨lev - 1, by omega, c_X_lettersOf (by omega) (fun _ => ?_) (fun z => absurd hwd z)⟩
          refine And.intro (by omega) ?_
          refine ⟨lev - 1, by omega, c_JM_max (by omega) ?_⟩
          refine And.intro (by omega) ?_
          refine And.intro (by omega) ?_
          exact ih (i + 1) _ _ (by omega) (by omega) e1.symm
    exact loop (m 11).toNat 0 _ _ (by omega) rfl rfl
  · rw [ecs] at c
    rw [xf_if_f c] at hQ
    exact And.intro (fun z => absurd rfl z) (fun _ => hQ h xs_rf)
/-- of a word of the list: its place -/
theorem xf_num_i {m : Int → Int} (hN : xf_VN m) (hV : xf_VM m) {i : Int} (hi : 0 ≤ i ∧ i < m 11) : xf_num m (m (18 + i)) = i := by
  have V1 := hV.1
  have e := xf_ix_hit (f := fun k => m (18 + k)) (w := m (18 + i)) (i := i.toNat) (n := (m 11).toNat) (by omega) (fun k hk => hN.ne k i (by omega) (by omega) hi.2) (by
    rw [show ((i.toNat : Nat) : Int) = i by omega])
  unfold xf_num
  rw [e]
  omega
theorem xf_wi_wa {m : Int → Int} {P : List xf_Cl} {md i : Int} (hN : xf_VN m) (hV : xf_VM m) (hi : 0 ≤ i ∧ i < m 11) : xf_wi m P md i 584 = xf_wa (fun k => xf_sm m P md k = m (18 + i)) 584 := by
  unfold xf_wi
  refine xf_wa_congr 584 (fun k hk => ⟨fun z => ?_, fun z => ?_⟩)
  · refine xf_num_inj (m := m) (by omega) ?_
    rw [z, xf_num_i hN hV hi]
  · rw [z]
    exact xf_num_i hN hV hi
theorem xf_sv_eq {m : Int → Int} {P : List xf_Cl} {md i : Int} (hN : xf_VN m) (hV : xf_VM m) (hi : 0 ≤ i ∧ i < m 11) : max 0 (xf_sz (m (18 + i)) + 1 - (xf_tch (m (18 + i)) (xf_wv m P md (m (18 + i)))).1) = if xf_wi m P md i 584 = 0 then 0 else max 0 (xf_sz (m (18 + i)) - xf_sz (xf_wi m P md i 584)) := by
  rw [xf_wi_wa hN hV hi]
  unfold xf_wv
  generalize xf_wa (fun k => xf_sm m P md k = m (18 + i)) 584 = a
  have w1 := (hV.2.1 i hi.1 hi.2).1.1
  by_cases c : a = 0
  · rw [if_neg (fun z => z c), if_pos c]
    unfold xf_tch
    split
    · split <;> dsimp only <;> omega
    · split <;> dsimp only <;> omega
  · rw [if_pos c, if_neg c]
    unfold xf_tch
    split <;> dsimp only <;> omega
set_option maxHeartbeats 1000000 in
theorem q_M_saved {lev : Nat} {h : xq_H} {Q : Option xq_V → xq_H → Prop} {P : List xf_Cl} {md : Int} (hl : 9 ≤ lev) (hV : xf_VM (h 65)) (hN : xf_VN (h 65)) (hP : xf_ph (h 65) P) (hQ : ∀ h', xr_rk h h' → Q (some (xI (sp_saved (h 65) P md))) h') : xq_met lev y_M_saved [xR 64, xI md] 81 h Q := by
  refine en_M_saved (by omega) (fun K hK => ?_)
  have V1 := hV.1
  have V3 := hV.2.2.1
  unfold sp_saved at hQ
  refine xq_go hK [13] 60 ?_
  refine ⟨lev - 1, by omega, c_M_isMender (by omega) V3 (fun c => ?_) (fun c => ?_)⟩
  · rw [xf_if_t c] at hQ
    refine And.intro (fun _ => ?_) (fun z => absurd z (by decide))
    refine ⟨lev - 1, by omega, c_M_looksForShort (P := P) (by omega) hV hP c (fun h1 hk1 ha => ?_)⟩
    have loop : ∀ (d i : Nat) (x iI : Int) (x4 : Option xq_V) (h2 : xq_H), (i : Int) + d = h 65 11 → iI = i → x = xf_sv (h 65) P md i → (x4 = none ∨ ∃ z, x4 = some (xI z)) → xr_rk h h2 → (∀ k : Nat, k < 584 → h2 75 k = xf_shw k ∧ h2 76 k = xf_sm (h 65) P md k) → K 13 [some (xR 64), some (xI md), some (xI x), some (xI iI), x4] [] 81 h2 := by
      intro d
      induction d with
      | zero =>
        intro i x iI x4 h2 hd ei ex _ hk2 ha2
        have e65 := xr_rk_65 hk2
        refine xq_go hK [13] 60 ?_
        refine And.intro (by omega) ?_
        rw [e65]
        refine And.intro (fun _ => ?_) (fun c => absurd c (by omega))
        have q := hQ h2 hk2
        rw [show (h 65 11).toNat = i by omega, ← ex] at q
        exact q
      | succ d ih =>
        intro i x iI x4 h2 hd ei ex hx4 hk2 ha2
        subst ei
        have e65 := xr_rk_65 hk2
        have hw := (hV.2.1 i (by omega) (by omega)).1
        have bw := xf_szb hw
        have w1 := hw.1
        have w2 := hw.2.1
        have hb := xf_sv_bd (h 65) P md i
        have e1 : xf_sv (h 65) P md (i + 1) = x + max 0 (xf_sz (h 65 (18 + i)) + 1 - (xf_tch (h 65 (18 + i)) (xf_wv (h 65) P md (h 65 (18 + i)))).1) := by rw [xf_sv, ← ex, xf_sv_eq hN hV (by omega)]
        have htb : 0 ≤ (xf_tch (h 65 (18 + i)) (xf_wv (h 65) P md (h 65 (18 + i)))).1 ∧ (xf_tch (h 65 (18 + i)) (xf_wv (h 65) P md (h 65 (18 + i)))).1 ≤ 7 := by
          have z := xf_sz_bd (xf_wv (h 65) P md (h 65 (18 + i)))
          unfold xf_tch
          split <;> dsimp only <;> omega
        rcases hx4 with rfl | ⟨z4, rfl⟩
        all_goals
          refine xq_go hK [13] 60 ?_
          refine And.intro (by omega) ?_
          rw [e65]
          refine And.intro (fun c => absurd c (by omega)) (fun _ => ?_)
          refine And.intro (by omega) ?_
          refine And.intro (by omega) ?_
          rw [e65]
          refine ⟨lev - 1, by omega, c_M_looksForTouches (P := P) (by omega) (by rw [e65]; exact hV) (by rw [e65]; exact hP) (by rw [e65]; exact c) hw (by rw [e65]; exact ha2) (fun h3 hk3 e75 e76 e19 _ _ => ?_)⟩
          rw [e65] at e19
          have hk03 := xr_rk_tr hk2 hk3
          have e653 := xr_rk_65 hk03
          refine And.intro (by omega) ?_
          refine And.intro (by omega) ?_
          rw [e653]
          refine ⟨lev - 1, by omega, c_M_size (by omega) (by omega) ?_⟩
          refine And.intro (by omega) ?_
          refine And.intro (by omega) ?_
          rw [e19]
          refine And.intro (fun c2 => ?_) (fun c2 => ?_)
          · refine And.intro (by omega) ?_
            refine And.intro (by omega) ?_
            exact ih (i + 1) _ _ _ h3 (by omega) (by omega) (by omega) (Or.inr ⟨_, rfl⟩) hk03 (fun k hk => by rw [e75, e76]; exact ha2 k hk)
          · refine And.intro (by omega) ?_
            refine And.intro (by omega) ?_
            exact ih (i + 1) _ _ _ h3 (by omega) (by omega) (by omega) (Or.inr ⟨_, rfl⟩) hk03 (fun k hk => by rw [e75, e76]; exact ha2 k hk)
    exact loop (h 65 11).toNat 0 _ _ _ h1 (by omega) rfl rfl (Or.inl rfl) hk1 ha
  · rw [xf_if_f c] at hQ
    exact And.intro (fun z => absurd rfl z) (fun _ => hQ h xr_rk_rf)
