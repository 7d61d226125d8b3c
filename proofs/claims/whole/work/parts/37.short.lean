/-! SHORT WORDS, in their order -/
def xf_shw (n : Nat) : Nat := if n < 8 then n + 1 else if n < 72 then ((n - 8) / 8 + 1) * 10 + ((n - 8) % 8 + 1) else ((n - 72) / 64 + 1) * 100 + ((n - 72) / 8 % 8 + 1) * 10 + ((n - 72) % 8 + 1)
def xf_isw (w : Nat) : Bool := decide (1 ≤ w % 10 ∧ w % 10 ≤ 8 ∧ (w / 10 = 0 ∨ (1 ≤ w / 10 % 10 ∧ w / 10 % 10 ≤ 8 ∧ (w / 100 = 0 ∨ (1 ≤ w / 100 ∧ w / 100 ≤ 8)))))
def xf_chk : Nat → Nat → Nat → Bool
  | 0, _, n => Nat.beq n 584
  | d + 1, w, n => if xf_isw w then Nat.beq (xf_shw n) w && (Nat.blt n 584 && xf_chk d (w + 1) (n + 1)) else xf_chk d (w + 1) n
theorem xf_chk_ok : xf_chk 888 1 0 = true := by decide +kernel
theorem xf_chk_s {d w n : Nat} (h : xf_chk (d + 1) w n = true) : (xf_isw w = true → xf_shw n = w ∧ n < 584 ∧ xf_chk d (w + 1) (n + 1) = true) ∧ (xf_isw w = false → xf_chk d (w + 1) n = true) := by
  constructor
  · intro hw
    rw [xf_chk, hw, if_pos rfl, Bool.and_eq_true, Bool.and_eq_true] at h
    exact ⟨Nat.eq_of_beq_eq_true h.1, Nat.le_of_ble_eq_true h.2.1, h.2.2⟩
  · intro hw
    rw [xf_chk, hw, if_neg (by decide)] at h
    exact h
theorem xf_isw_t {w : Nat} (hw : w ≤ 888) : xf_isw w = true ↔ xf_wd (w : Int) := by
  unfold xf_isw xf_wd
  rw [decide_eq_true_iff]
  simp only [xf_ds]
  omega
theorem xf_shw_ok : ∀ n : Nat, n < 584 → (1 ≤ xf_shw n ∧ xf_shw n ≤ 888) ∧ xf_isw (xf_shw n) = true ∧ xf_sz (xf_shw n : Int) = if n < 8 then 1 else if n < 72 then 2 else 3 := by decide +kernel
def xf_shi (w : Nat) : Nat := if w < 10 then w - 1 else if w < 100 then 8 + (w / 10 - 1) * 8 + (w % 10 - 1) else 72 + (w / 100 - 1) * 64 + (w / 10 % 10 - 1) * 8 + (w % 10 - 1)
theorem xf_shi_ok : ∀ w : Nat, w < 889 → xf_isw w = true → xf_shw (xf_shi w) = w ∧ xf_shi w < 584 := by decide +kernel
theorem xf_shw_wd {n : Nat} (hn : n < 584) : xf_wd (xf_shw n : Int) := (xf_isw_t (xf_shw_ok n hn).1.2).1 (xf_shw_ok n hn).2.1
/-- the first of them for which p holds, or 0 -/
noncomputable def xf_wa (p : Nat → Prop) : Nat → Int
  | 0 => 0
  | n + 1 => if xf_wa p n = 0 then xf_if (p n) (xf_shw n) 0 else xf_wa p n
theorem xf_wa_s {p : Nat → Prop} {n : Nat} : (xf_wa p n = 0 → p n → xf_wa p (n + 1) = xf_shw n) ∧ (xf_wa p n = 0 → ¬ p n → xf_wa p (n + 1) = 0) ∧ (xf_wa p n ≠ 0 → xf_wa p (n + 1) = xf_wa p n) := by
  refine ⟨fun h1 h2 => ?_, fun h1 h2 => ?_, fun h1 => ?_⟩
  · rw [xf_wa, if_pos h1, xf_if_t h2]
  · rw [xf_wa, if_pos h1, xf_if_f h2]
  · rw [xf_wa, if_neg h1]
theorem xf_wa_stay {p : Nat → Prop} {n : Nat} (h : xf_wa p n ≠ 0) : ∀ d : Nat, xf_wa p (n + d) = xf_wa p n
  | 0 => rfl
  | d + 1 => by
    have e := xf_wa_stay h d
    show xf_wa p (n + d + 1) = _
    rw [xf_wa_s.2.2 (by rw [e]; exact h), e]
theorem xf_wa_ne {p : Nat → Prop} {n j : Nat} (hj : j < n) (hp : p j) (hn : n ≤ 584) : xf_wa p n ≠ 0 := by
  have h1 : xf_wa p (j + 1) ≠ 0 := by
    by_cases c : xf_wa p j = 0
    · rw [xf_wa_s.1 c hp]
      have := (xf_shw_ok j (by omega)).1.1
      omega
    · rw [xf_wa_s.2.2 c]
      exact c
  rw [show n = j + 1 + (n - (j + 1)) by omega, xf_wa_stay h1]
  exact h1
/-- it is one of them: at the place k -/
theorem xf_wa_at {p : Nat → Prop} : ∀ n : Nat, n ≤ 584 → xf_wa p n ≠ 0 → ∃ k, k < n ∧ p k ∧ xf_wa p n = xf_shw k ∧ ∀ j, j < k → ¬ p j
  | 0, _, h => absurd rfl h
  | n + 1, hn, h => by
    by_cases c : xf_wa p n = 0
    · by_cases c2 : p n
      · refine ⟨n, by omega, c2, xf_wa_s.1 c c2, fun j hj hp => ?_⟩
        exact absurd c (xf_wa_ne hj hp (by omega))
      · exact absurd (xf_wa_s.2.1 c c2) h
    · obtain ⟨k, h1, h2, h3, h4⟩ := xf_wa_at n (by omega) c
      exact ⟨k, by omega, h2, (xf_wa_s.2.2 c).trans h3, h4⟩
theorem xf_wa_congr {p q : Nat → Prop} : ∀ n : Nat, (∀ k, k < n → (p k ↔ q k)) → xf_wa p n = xf_wa q n
  | 0, _ => rfl
  | n + 1, h => by rw [xf_wa, xf_wa, xf_wa_congr n (fun k hk => h k (by omega)), xf_if_c (h n (by omega))]
theorem xf_shw_sz {j k : Nat} (h : j ≤ k) (hk : k < 584) : xf_sz (xf_shw j : Int) ≤ xf_sz (xf_shw k : Int) := by
  rw [(xf_shw_ok j (by omega)).2.2, (xf_shw_ok k hk).2.2]
  repeat' split
  all_goals omega
/-- what is made of the k-th short word -/
noncomputable def xf_sm (m : Int → Int) (P : List xf_Cl) (md : Int) (k : Nat) : Int := xf_made m P md (xf_shw k)
/-- the way to a word -/
noncomputable def xf_wv (m : Int → Int) (P : List xf_Cl) (md v : Int) : Int := if xf_wa (fun k => xf_sm m P md k = v) 584 ≠ 0 then xf_wa (fun k => xf_sm m P md k = v) 584 else if xf_made m P md v = v then v else 0
theorem c_X_wayTo {lev : Nat} {h : xq_H} {Q : Option xq_V → xq_H → Prop} {m : Int → Int} {P : List xf_Cl} {md v : Int} (hl : 6 ≤ lev) (hV : xf_VM m) (B : xr_base h m P) (C : xr_crs h m) (hv : xf_wd v) (hmd : 0 ≤ md ∧ md < m 10)
    (hQ : ∀ h', xr_kp h h' → Q (some (xI (xf_wv m P md v))) h') : xq_met lev y_X_wayTo [xR 0, xI md, xI v] 81 h Q := by
  refine en_X_wayTo (by omega) (fun K hK => ?_)
  obtain ⟨p, hp⟩ : ∃ p : Nat → Prop, p = fun k => xf_sm m P md k = v := ⟨_, rfl⟩
  unfold xf_wv at hQ
  rw [← hp] at hQ
  have loop : ∀ (d w n : Nat) (wI : Int) (h2 : xq_H), w + d = 889 → wI = w → xf_chk d w n = true → n ≤ 584 → xf_wa p n = 0 → xr_kp h h2 → K 2 [some (xR 0), some (xI md), some (xI v), some (xI wI)] [] 81 h2 := by
    intro d
    induction d with
    | zero =>
      intro w n wI h2 hd ew hc hn hw hk
      have e : n = 584 := Nat.eq_of_beq_eq_true hc
      rw [e] at hw
      rw [hw, if_neg (fun z => z rfl)] at hQ
      refine xq_go hK [2] 60 ?_
      refine And.intro (fun _ => ?_) (fun c => absurd c (by omega))
      refine ⟨lev - 1, by omega, c_K_madeOf (by omega) hV (xr_kp_B hk B) (xr_kp_C hk C) hv hmd (fun h3 hk3 => ?_)⟩
      have q := hQ h3 (xr_kp_tr hk hk3)
      refine And.intro (fun c => ?_) (fun c => ?_)
      · rw [if_neg c] at q
        exact q
      · rw [if_pos c] at q
        exact q
    | succ d ih =>
      intro w n wI h2 hd ew hc hn hw hk
      subst ew
      have s := xf_chk_s hc
      have t := xf_isw_t (w := w) (by omega)
      refine xq_go hK [2] 60 ?_
      refine And.intro (fun c => absurd c (by omega)) (fun _ => ?_)
      refine ⟨lev - 1, by omega, c_X_isWord (by omega) (fun c => ?_) (fun c => ?_)⟩
      · obtain ⟨s1, s2, s3⟩ := s.1 (t.2 c)
        refine And.intro (fun z => absurd z (by decide)) (fun _ => ?_)
        refine ⟨lev - 1, by omega, c_K_madeOf (by omega) hV (xr_kp_B hk B) (xr_kp_C hk C) c hmd (fun h3 hk3 => ?_)⟩
        have e : xf_made m P md (w : Int) = xf_sm m P md n := by
          unfold xf_sm
          rw [s1]
        rw [e]
        refine And.intro (fun c2 => ?_) (fun c2 => ?_)
        · refine And.intro (by omega) ?_
          exact ih (w + 1) (n + 1) _ h3 (by omega) (by omega) s3 (by omega) (xf_wa_s.2.1 hw (by rw [hp]; exact c2)) (xr_kp_tr hk hk3)
        · have e1 : xf_wa p (n + 1) = xf_shw n := xf_wa_s.1 hw (by rw [hp]; exact c2)
          have e2 : xf_wa p (n + 1) ≠ 0 := by
            have := (xf_shw_ok n s2).1.1
            omega
          have e3 : xf_wa p 584 = xf_shw n := by
            rw [show 584 = n + 1 + (584 - (n + 1)) by omega, xf_wa_stay e2, e1]
          have q := hQ h3 (xr_kp_tr hk hk3)
          rw [if_pos (by omega), e3, s1] at q
          exact q
      · have c' : xf_isw w = false := by
          cases e : xf_isw w with
          | true => exact absurd (t.1 e) c
          | false => rfl
        refine And.intro (fun _ => ?_) (fun z => absurd rfl z)
        refine And.intro (by omega) ?_
        exact ih (w + 1) n _ h2 (by omega) (by omega) (s.2 c') hn hw hk
  refine xq_go hK [2] 60 ?_
  exact loop 888 1 0 _ h (by omega) rfl xf_chk_ok (by omega) rfl xr_kp_rf
/-- of how many short words one of the list is made -/
noncomputable def xf_rm (m : Int → Int) (P : List xf_Cl) (md : Int) : Nat → Int
  | 0 => 0
  | n + 1 => xf_rm m P md n + if xf_num m (xf_sm m P md n) = -1 then 0 else 1
theorem xf_rm_bd (m : Int → Int) (P : List xf_Cl) (md : Int) : ∀ n : Nat, 0 ≤ xf_rm m P md n ∧ xf_rm m P md n ≤ n
  | 0 => ⟨Int.le_refl _, Int.le_refl _⟩
  | n + 1 => by
    have := xf_rm_bd m P md n
    rw [xf_rm]
    split <;> omega
/-- the way to the i-th of the list by short words -/
noncomputable def xf_wi (m : Int → Int) (P : List xf_Cl) (md : Int) (i : Int) : Nat → Int := xf_wa (fun k => xf_num m (xf_sm m P md k) = i)
set_option maxHeartbeats 2000000 in
theorem c_X_shortWays {lev : Nat} {h : xq_H} {Q : Option xq_V → xq_H → Prop} {m : Int → Int} {P : List xf_Cl} {md : Int} (hl : 6 ≤ lev) (hV : xf_VM m) (B : xr_base h m P) (C : xr_crs h m) (hmd : 0 ≤ md ∧ md < m 10)
    (hQ : ∀ h', xs_eq [1, 27, 28, 29, 62] h h' → xr_crs h' m → (∀ i : Int, 0 ≤ i → i < m 11 → h' 62 i = xf_wi m P md i 584) → Q (some (xI (xf_rm m P md 584))) h') : xq_met lev y_X_shortWays [xR 0, xI md] 81 h Q := by
  refine en_X_shortWays (by omega) (fun K hK => ?_)
  have V1 := hV.1
  have loop : ∀ (d w n : Nat) (f wI : Int) (x4 : Option xq_V) (h2 : xq_H), w + d = 889 → wI = w → xf_chk d w n = true → n ≤ 584 → f = xf_rm m P md n → xs_eq [1, 27, 28, 29, 62] h h2 → xr_crs h2 m → (∀ i : Int, 0 ≤ i → i < m 11 → h2 62 i = xf_wi m P md i n) → K 16 [some (xR 0), some (xI md), some (xI f), some (xI wI), x4] [] 81 h2 := by
    intro d
    induction d with
    | zero =>
      intro w n f wI x4 h2 hd ew hc hn ef hk C2 hw
      obtain rfl : n = 584 := Nat.eq_of_beq_eq_true hc
      refine xq_go hK [16] 60 ?_
      refine And.intro (fun _ => ?_) (fun c => absurd c (by omega))
      rw [ef]
      exact hQ h2 hk C2 hw
    | succ d ih =>
      intro w n f wI x4 h2 hd ew hc hn ef hk C2 hw
      subst ew
      have s := xf_chk_s hc
      have t := xf_isw_t (w := w) (by omega)
      have B2 := xr_base_fr hk (by decide) B
      have hrb := xf_rm_bd m P md n
      refine xq_go hK [16, 33] 60 ?_
      refine And.intro (fun c => absurd c (by omega)) (fun _ => ?_)
      refine ⟨lev - 1, by omega, c_X_isWord (by omega) (fun c => ?_) (fun c => ?_)⟩
      · obtain ⟨s1, s2, s3⟩ := s.1 (t.2 c)
        refine And.intro (fun z => absurd z (by decide)) (fun _ => ?_)
        refine ⟨lev - 1, by omega, c_K_madeOf (by omega) hV B2 C2 c hmd (fun h3 hk3 => ?_)⟩
        have B3 := xr_kp_B hk3 B2
        have C3 := xr_kp_C hk3 C2
        have els3 := B3.ls
        have e : xf_made m P md (w : Int) = xf_sm m P md n := by
          unfold xf_sm
          rw [s1]
        have hk33 : xs_eq [1, 27, 28, 29, 62] h h3 := xs_tr hk hk3.1 (fun _ z => z) (by decide)
        have hw3 : ∀ i : Int, 0 ≤ i → i < m 11 → h3 62 i = xf_wi m P md i n := fun i h0 h1 => by rw [hk3.1 62 (by decide)]; exact hw i h0 h1
        rw [e]
        refine ⟨lev - 1, by omega, c_W_numberOf (by omega) (by omega) ?_⟩
        rw [xr_num hV B3]
        have hnb := xf_num_bd V1.1 (xf_sm m P md n)
        obtain ⟨j, hj⟩ : ∃ j, j = xf_num m (xf_sm m P md n) := ⟨_, rfl⟩
        have erm : xf_rm m P md (n + 1) = f + if j = -1 then 0 else 1 := by rw [xf_rm, ← ef, hj]
        rw [← hj] at hnb ⊢
        -- the ways behind it
        have wsame : ∀ i : Int, i ≠ j → xf_wi m P md i (n + 1) = xf_wi m P md i n := by
          intro i hi
          unfold xf_wi
          by_cases c0 : xf_wa (fun k => xf_num m (xf_sm m P md k) = i) n = 0
          · rw [xf_wa_s.2.1 c0 (fun z => hi (by rw [hj]; exact z.symm)), c0]
          · rw [xf_wa_s.2.2 c0]
        refine xq_go hK [16] 60 ?_
        refine ⟨lev - 1, by omega, c_W_has (by omega) (fun c2 => ?_) (fun c2 => ?_)⟩
        · rw [els3] at c2
          rw [if_neg (by omega)] at erm
          refine And.intro (fun z => absurd z (by decide)) (fun _ => ?_)
          refine And.intro (by omega) ?_
          refine And.intro (by omega) ?_
          have r62 := hw3 j c2.1 c2.2
          rw [r62]
          refine And.intro (fun c3 => ?_) (fun c3 => ?_)
          · refine And.intro (by omega) ?_
            refine ih (w + 1) (n + 1) _ _ _ h3 (by omega) (by omega) s3 (by omega) erm.symm hk33 C3 (fun i h0 h1 => ?_)
            by_cases hij : i = j
            · rw [hij, r62]
              exact (xf_wa_s.2.2 c3).symm
            · rw [wsame i hij]
              exact hw3 i h0 h1
          · refine And.intro (by omega) ?_
            refine And.intro (by omega) ?_
            refine ih (w + 1) (n + 1) _ _ _ _ (by omega) (by omega) s3 (by omega) erm.symm (xs_u hk33 (by decide) _ _) (xr_crs_fr (xq_u_o (by decide)) (by rw [xq_u_o (by decide)]) (by rw [xq_u_o (by decide)]) C3) (fun i h0 h1 => ?_)
            rw [xu_rd]
            by_cases hij : i = j
            · rw [if_pos hij, hij, ← s1]
              exact (xf_wa_s.1 c3 hj.symm).symm
            · rw [if_neg hij, wsame i hij]
              exact hw3 i h0 h1
        · rw [els3] at c2
          rw [if_pos (by omega)] at erm
          refine And.intro (fun _ => ?_) (fun z => absurd rfl z)
          refine And.intro (by omega) ?_
          refine ih (w + 1) (n + 1) _ _ _ h3 (by omega) (by omega) s3 (by omega) (by omega) hk33 C3 (fun i h0 h1 => ?_)
          rw [wsame i (by omega)]
          exact hw3 i h0 h1
      · have c' : xf_isw w = false := by
          cases e : xf_isw w with
          | true => exact absurd (t.1 e) c
          | false => rfl
        have els2 := B2.ls
        refine And.intro (fun _ => ?_) (fun z => absurd rfl z)
        refine xq_go hK [16] 60 ?_
        refine ⟨lev - 1, by omega, c_W_has (by omega) (fun c2 => absurd c2.1 (by omega)) (fun c2 => ?_)⟩
        refine And.intro (fun _ => ?_) (fun z => absurd rfl z)
        refine And.intro (by omega) ?_
        exact ih (w + 1) n _ _ _ h2 (by omega) (by omega) (s.2 c') hn ef hk C2 hw
  have clear : ∀ (d i : Nat) (iI : Int) (h2 : xq_H), i + d = 8 → iI = i → xs_eq [62] h h2 → (∀ k : Int, 0 ≤ k → k < i → h2 62 k = 0) → K 2 [some (xR 0), some (xI md), some (xI iI), none, none] [] 81 h2 := by
    intro d
    induction d with
    | zero =>
      intro i iI h2 hd ei hs hall
      refine xq_go hK [2, 16] 60 ?_
      refine And.intro (fun _ => ?_) (fun c => absurd c (by omega))
      exact loop 888 1 0 _ _ _ h2 (by omega) rfl xf_chk_ok (by omega) rfl (xs_tr xs_rf hs (X := []) (by decide) (by decide)) (xr_crs_fr (hs 26 (by decide)) (by rw [hs 1 (by decide)]) (by rw [hs 1 (by decide)]) C) (fun i h0 h1 => hall i h0 (by omega))
    | succ d ih =>
      intro i iI h2 hd ei hs hall
      refine xq_go hK [2, 16] 60 ?_
      refine And.intro (fun c => absurd c (by omega)) (fun _ => ?_)
      refine And.intro (by omega) ?_
      refine And.intro (by omega) ?_
      refine ih (i + 1) _ _ (by omega) (by omega) (xs_u hs (by decide) _ _) (fun k h0 h1 => ?_)
      rw [xu_rd]
      by_cases hki : k = iI
      · rw [if_pos hki]
      · rw [if_neg hki]
        exact hall k h0 (by omega)
  refine xq_go hK [2] 60 ?_
  exact clear 8 0 _ h (by omega) rfl xs_rf (fun k h0 h1 => by omega)
set_option maxHeartbeats 2000000 in
theorem c_M_looksForShort {lev : Nat} {h : xq_H} {Q : Option xq_V → xq_H → Prop} {P : List xf_Cl} {md : Int} (hl : 7 ≤ lev) (hV : xf_VM (h 65)) (hP : xf_ph (h 65) P) (hmd : 0 ≤ md ∧ md < h 65 10)
    (hQ : ∀ h', xr_rk h h' → (∀ k : Nat, k < 584 → h' 75 k = xf_shw k ∧ h' 76 k = xf_sm (h 65) P md k) → Q none h') : xq_met lev y_M_looksForShort [xR 64, xI md] 81 h Q := by
  refine en_M_looksForShort (by omega) (fun K hK => ?_)
  have V1 := hV.1
  have loop : ∀ (d w n : Nat) (nI wI : Int) (h2 : xq_H), w + d = 889 → wI = w → nI = n → xf_chk d w n = true → n ≤ 584 → xr_rk h h2 → (∀ k : Nat, k < n → h2 75 k = xf_shw k ∧ h2 76 k = xf_sm (h 65) P md k) →
      (∀ s : Int, (2 ≤ w ∧ w ≤ 11 ∧ s = 1 ∨ 12 ≤ w ∧ w ≤ 111 ∧ s = 2 ∨ 112 ≤ w ∧ s = 3) → ∀ i : Nat, (i : Int) < h 65 11 → h2 74 i = xf_sum (xf_fact (h 65) md s i) P) → 1 ≤ w → K 4 [some (xR 64), some (xI md), some (xI nI), some (xI wI)] [] 81 h2 := by
    intro d
    induction d with
    | zero =>
      intro w n nI wI h2 hd ew en hc hn hk ha hx hw1
      obtain rfl : n = 584 := Nat.eq_of_beq_eq_true hc
      refine xq_go hK [4] 60 ?_
      refine And.intro (fun _ => hQ h2 hk ha) (fun c => absurd c (by omega))
    | succ d ih =>
      intro w n nI wI h2 hd ew en hc hn hk ha hx hw1
      subst ew
      subst en
      have s := xf_chk_s hc
      have t := xf_isw_t (w := w) (by omega)
      refine xq_go hK [4, 19, 24] 60 ?_
      refine And.intro (fun c => absurd c (by omega)) (fun _ => ?_)
      refine ⟨lev - 1, by omega, c_M_isWord (by omega) (fun c => ?_) (fun c => ?_)⟩
      · obtain ⟨s1, s2, s3⟩ := s.1 (t.2 c)
        have e : xf_made (h 65) P md (w : Int) = xf_sm (h 65) P md n := by
          unfold xf_sm
          rw [s1]
        have hsz := xf_szc (w : Int) (by omega)
        have nodig : ¬ (w = 10) ∧ ¬ (100 ≤ w ∧ w ≤ 110) := by
          have c3 := c.2.2
          simp only [xf_ds] at c3
          omega
        have go : ∀ h3 : xq_H, xr_rk h h3 → (∀ k : Nat, k < n → h3 75 k = xf_shw k ∧ h3 76 k = xf_sm (h 65) P md k) → (∀ i : Nat, (i : Int) < h 65 11 → h3 74 i = xf_sum (xf_fact (h 65) md (xf_sz (w : Int)) i) P) → K 24 [some (xR 64), some (xI md), some (xI n), some (xI w)] [] 81 h3 := by
          intro h3 hk3 ha3 hx3
          have e65 := xr_rk_65 hk3
          refine xq_go hK [4] 60 ?_
          refine And.intro (by omega) ?_
          have e65u : ∀ (k v : Int), xq_u h3 75 k v 65 = h 65 := fun k v => by rw [xq_u_o (by decide)]; exact e65
          refine ⟨lev - 1, by omega, c_M_madeOf (P := P) (by omega) (by rw [e65u]; exact hV) (by rw [e65u]; exact hmd) c (by rw [e65u]; exact hP) (by rw [e65u, xq_u_o (by decide)]; exact hx3) (fun h4 hs4 => ?_)⟩
          rw [e65u, e]
          have hk4 : xr_rk h h4 := xr_rk_tr (xr_rk_u hk3 (by decide) _ _) (xr_rk_s hs4 (by decide))
          refine And.intro (by omega) ?_
          refine And.intro (by omega) ?_
          refine And.intro (by omega) ?_
          refine ih (w + 1) (n + 1) _ _ _ (by omega) (by omega) (by omega) s3 (by omega) (xr_rk_u hk4 (by decide) _ _) (fun k hkn => ?_) (fun sz hsz2 i hi => ?_) (by omega)
          · rw [xq_u_o (by decide), xu_rd, hs4 75 (by decide), hs4 76 (by decide), xu_rd, xq_u_o (by decide)]
            by_cases hkn2 : k = n
            · rw [if_pos (by omega), if_pos (by omega), hkn2, s1]
              exact ⟨rfl, rfl⟩
            · rw [if_neg (by omega), if_neg (by omega)]
              exact ha3 k (by omega)
          · rw [xq_u_o (by decide), hs4 74 (by decide), xq_u_o (by decide), show sz = xf_sz (w : Int) by omega]
            exact hx3 i hi
        have look : (w = 1 ∨ w = 11 ∨ w = 111) → K 19 [some (xR 64), some (xI md), some (xI n), some (xI w)] [] 81 h2 := by
          intro _
          have e65 := xr_rk_65 hk
          refine xq_go hK [4, 24] 60 ?_
          refine ⟨lev - 1, by omega, c_M_size (by omega) (by omega) ?_⟩
          refine ⟨lev - 1, by omega, c_M_looksFor (P := P) (by omega) (by rw [e65]; exact hV) (by rw [e65]; exact hmd) (by omega) (by rw [e65]; exact hP) (fun h3 hs3 hex => ?_)⟩
          rw [e65] at hex
          exact go h3 (xr_rk_tr hk (xr_rk_s hs3 (by decide))) (fun k hkn => by rw [hs3 75 (by decide), hs3 76 (by decide)]; exact ha k hkn) hex
        refine And.intro (fun z => absurd z (by decide)) (fun _ => ?_)
        refine And.intro (fun c2 => look (by omega)) (fun c2 => ?_)
        refine And.intro (fun c3 => look (by omega)) (fun c3 => ?_)
        refine And.intro (fun c4 => go h2 hk ha (hx _ (by omega))) (fun c4 => look (by omega))
      · have c' : xf_isw w = false := by
          cases e : xf_isw w with
          | true => exact absurd (t.1 e) c
          | false => rfl
        refine And.intro (fun _ => ?_) (fun z => absurd rfl z)
        refine And.intro (by omega) ?_
        have ne : ¬ (w = 11) ∧ ¬ (w = 111) ∧ ¬ (w = 1) := by
          refine ⟨fun z => ?_, fun z => ?_, fun z => ?_⟩
          all_goals
            rw [z] at c'
            exact absurd c' (by decide)
        exact ih (w + 1) n _ _ h2 (by omega) (by omega) rfl (s.2 c') hn hk ha (fun sz hs2 => hx sz (by omega)) (by omega)
  refine xq_go hK [4] 60 ?_
  exact loop 888 1 0 _ _ h (by omega) rfl rfl xf_chk_ok (by omega) xr_rk_rf (fun k hk => by omega) (fun s hs => by omega) (by omega)
