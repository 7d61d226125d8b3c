/-! SLIPS -/
def xf_ten : Nat → Int
  | 0 => 1
  | n + 1 => 10 * xf_ten n
def xf_slot (w : Int) (p : Nat) (L : Int) : Int := w + (L - xf_cut w p % 10) * xf_ten p
theorem xf_slot_ds : ∀ (n p : Nat) (w L : Int), xf_ds n w → (p : Int) < xf_ct n w → (1 ≤ L ∧ L ≤ 8) → xf_ds n (xf_slot w p L) ∧ xf_ct n (xf_slot w p L) = xf_ct n w
  | 0, p, w, L, _, hp, _ => by
    rw [xf_ct] at hp
    omega
  | n + 1, p, w, L, hd, hp, hL => by
    rw [xf_ct] at hp
    rw [xf_ds] at hd
    by_cases h0 : w = 0
    · rw [if_pos h0] at hp
      omega
    · rw [if_neg h0] at hp
      rcases hd with hd | ⟨h1, h2, hd⟩
      · exact absurd hd h0
      · cases p with
        | zero =>
          have e : xf_slot w 0 L = w + (L - w % 10) := by
            unfold xf_slot
            rw [show xf_cut w 0 = w from rfl, show xf_ten 0 = 1 from rfl]
            omega
          rw [e]
          have e1 : (w + (L - w % 10)) / 10 = w / 10 := by omega
          refine ⟨Or.inr ⟨by omega, by omega, by rw [e1]; exact hd⟩, ?_⟩
          rw [xf_ct, xf_ct, e1, if_neg h0, if_neg (by omega)]
        | succ p =>
          have e : xf_slot w (p + 1) L = w + 10 * ((L - xf_cut (w / 10) p % 10) * xf_ten p) := by
            unfold xf_slot
            rw [xf_cut_s, show xf_ten (p + 1) = 10 * xf_ten p from rfl, Int.mul_left_comm]
          have ih := xf_slot_ds n p (w / 10) L hd (by omega) hL
          unfold xf_slot at ih
          rw [e]
          generalize (L - xf_cut (w / 10) p % 10) * xf_ten p = X at ih ⊢
          have e1 : (w + 10 * X) / 10 = w / 10 + X := by omega
          have e2 : (w + 10 * X) % 10 = w % 10 := by omega
          refine ⟨Or.inr ⟨by rw [e2]; exact h1, by rw [e2]; exact h2, by rw [e1]; exact ih.1⟩, ?_⟩
          rw [xf_ct, xf_ct, e1, if_neg h0, if_neg (by omega), ih.2]
theorem xf_ds5 {w : Int} (h : xf_ds 5 w) : 0 ≤ w ∧ w ≤ 88888 := by
  simp only [xf_ds] at h
  omega
theorem xf_slot_wd {w L : Int} {p : Nat} (hw : xf_wd w) (hp : (p : Int) < xf_sz w) (hL : 1 ≤ L ∧ L ≤ 8) : xf_wd (xf_slot w p L) ∧ xf_sz (xf_slot w p L) = xf_sz w := by
  have h1 := hw.1
  have h2 := hw.2.1
  have e := xf_ct_sz (w := w) (by omega)
  have b := xf_szb hw
  have s := xf_slot_ds 5 p w L hw.2.2 (by omega) hL
  have s5 := xf_ds5 s.1
  have e2 := xf_ct_sz (w := xf_slot w p L) (by omega)
  have s6 := s.2
  refine ⟨⟨?_, s5.2, s.1⟩, by omega⟩
  have := xf_szc (xf_slot w p L) (by omega)
  omega
/-- letters 1 .. n near d for which f holds -/
noncomputable def xf_sl1 (f : Int → Prop) (d : Int) : Nat → Int
  | 0 => 0
  | n + 1 => xf_sl1 f d n + @ite _ (xf_near d ((n : Int) + 1) ∧ f ((n : Int) + 1)) (Classical.propDecidable _) 1 0
noncomputable def xf_sl (f : Nat → Int → Prop) (w : Int) : Nat → Int
  | 0 => 0
  | p + 1 => xf_sl f w p + xf_sl1 (f p) (xf_cut w p % 10) 8
theorem xf_sl1_bd (f : Int → Prop) (d : Int) : ∀ n : Nat, 0 ≤ xf_sl1 f d n ∧ xf_sl1 f d n ≤ n
  | 0 => ⟨Int.le_refl _, Int.le_refl _⟩
  | n + 1 => by
    have := xf_sl1_bd f d n
    rw [xf_sl1]
    split <;> omega
theorem xf_sl_bd (f : Nat → Int → Prop) (w : Int) : ∀ n : Nat, 0 ≤ xf_sl f w n ∧ xf_sl f w n ≤ 8 * n
  | 0 => ⟨Int.le_refl _, by show (0 : Int) ≤ 0; omega⟩
  | n + 1 => by
    have h1 := xf_sl_bd f w n
    have h2 := xf_sl1_bd (f n) (xf_cut w n % 10) 8
    rw [xf_sl]
    omega
/-- in how many ways just one letter slips; and so that 'to' is made -/
noncomputable def xf_ways (w : Int) : Int := xf_sl (fun _ _ => True) w (xf_sz w).toNat
noncomputable def xf_so (m : Int → Int) (P : List xf_Cl) (md w to : Int) : Int := xf_sl (fun p L => xf_made m P md (xf_slot w p L) = to) w (xf_sz w).toNat
theorem xf_sl1_s (f : Int → Prop) (d : Int) (n : Nat) {L : Int} (hL : L = (n : Int) + 1) : (xf_near d L ∧ f L → xf_sl1 f d (n + 1) = xf_sl1 f d n + 1) ∧ (¬ (xf_near d L ∧ f L) → xf_sl1 f d (n + 1) = xf_sl1 f d n) := by
  subst hL
  constructor
  · intro h
    rw [xf_sl1, if_pos h]
  · intro h
    rw [xf_sl1, if_neg h]
    omega
theorem xf_ten_c {p : Nat} (hp : p < 6) : (p = 0 ∧ xf_ten p = 1) ∨ (p = 1 ∧ xf_ten p = 10) ∨ (p = 2 ∧ xf_ten p = 100) ∨ (p = 3 ∧ xf_ten p = 1000) ∨ (p = 4 ∧ xf_ten p = 10000) ∨ (p = 5 ∧ xf_ten p = 100000) := by
  rcases (show p = 0 ∨ p = 1 ∨ p = 2 ∨ p = 3 ∨ p = 4 ∨ p = 5 by omega) with rfl | rfl | rfl | rfl | rfl | rfl
  · exact Or.inl ⟨rfl, rfl⟩
  · exact Or.inr (Or.inl ⟨rfl, rfl⟩)
  · exact Or.inr (Or.inr (Or.inl ⟨rfl, rfl⟩))
  · exact Or.inr (Or.inr (Or.inr (Or.inl ⟨rfl, rfl⟩)))
  · exact Or.inr (Or.inr (Or.inr (Or.inr (Or.inl ⟨rfl, rfl⟩))))
  · exact Or.inr (Or.inr (Or.inr (Or.inr (Or.inr ⟨rfl, rfl⟩))))
theorem xf_slot_ar {L d : Int} {p : Nat} (hp : p < 5) (hL : 1 ≤ L ∧ L ≤ 8) (hd : 1 ≤ d ∧ d ≤ 8) : -70000 ≤ (L - d) * xf_ten p ∧ (L - d) * xf_ten p ≤ 70000 := by
  rcases xf_ten_c (show p < 6 by omega) with ⟨_, h⟩ | ⟨_, h⟩ | ⟨_, h⟩ | ⟨_, h⟩ | ⟨_, h⟩ | ⟨_, h⟩
  all_goals rw [h]; omega
theorem xf_cut_z {w : Int} (hw : xf_wd w) {p : Nat} (hp : p ≤ 5) : (xf_cut w p = 0 ↔ xf_sz w ≤ p) := by
  have h1 := hw.1
  have h2 := hw.2.1
  have h3 := xf_szc w (by omega)
  rcases (show p = 0 ∨ p = 1 ∨ p = 2 ∨ p = 3 ∨ p = 4 ∨ p = 5 by omega) with rfl | rfl | rfl | rfl | rfl | rfl
  · show w = 0 ↔ _
    omega
  · show w / 10 = 0 ↔ _
    omega
  · show w / 10 / 10 = 0 ↔ _
    omega
  · show w / 10 / 10 / 10 = 0 ↔ _
    omega
  · show w / 10 / 10 / 10 / 10 = 0 ↔ _
    omega
  · show w / 10 / 10 / 10 / 10 / 10 = 0 ↔ _
    omega
theorem xf_dgt {w : Int} (hw : xf_wd w) {p : Nat} (hp : (p : Int) < xf_sz w) : 1 ≤ xf_cut w p % 10 ∧ xf_cut w p % 10 ≤ 8 := by
  have e := xf_ct_sz (w := w) (by have := hw.1; have := hw.2.1; omega)
  exact xf_dig 5 w p hw.2.2 (by omega)
set_option maxHeartbeats 2000000 in
theorem c_K_slipsInto {lev : Nat} {h : xq_H} {Q : Option xq_V → xq_H → Prop} {m : Int → Int} {P : List xf_Cl} {w md to : Int} (hl : 6 ≤ lev) (hV : xf_VM m) (B : xr_base h m P) (C : xr_crs h m) (hw : xf_wd w) (hmd : 0 ≤ md ∧ md < m 10)
    (hQ : ∀ h', xr_kp h h' → Q (some (xI (xf_so m P md w to))) h') : xq_met lev y_K_slipsInto [xR 1, xI md, xI w, xI to] 81 h Q := by
  refine en_K_slipsInto (by omega) (fun K hK => ?_)
  have bw := xf_szb hw
  have w1 := hw.1
  have w2 := hw.2.1
  obtain ⟨g, hg⟩ : ∃ g : Nat → Int → Prop, g = fun p L => xf_made m P md (xf_slot w p L) = to := ⟨_, rfl⟩
  have hQ2 : ∀ h', xr_kp h h' → Q (some (xI (xf_sl g w (xf_sz w).toNat))) h' := by rw [hg]; exact hQ
  have loop : ∀ (d p : Nat) (f r u pI : Int) (x8 x9 : Option xq_V) (h' : xq_H), (p : Int) + d = xf_sz w → pI = p → f = xf_sl g w p → r = xf_cut w p → u = xf_ten p → (x8 = none ∨ ∃ z, x8 = some (xI z)) → (x9 = none ∨ ∃ z, x9 = some (xI z)) → xr_kp h h' → K 8 [some (xR 1), some (xI md), some (xI w), some (xI to), some (xI f), some (xI r), some (xI u), some (xI pI), x8, x9] [] 81 h' := by
    intro d
    induction d with
    | zero =>
      intro p f r u pI x8 x9 h' hd ep ef er eu _ _ hk
      have hz := xf_cut_z hw (p := p) (by omega)
      have q := hQ2 h' hk
      rw [show (xf_sz w).toNat = p by omega, ← ef] at q
      refine xq_go hK [8] 60 ?_
      refine And.intro (fun c => q) (fun c => ?_)
      refine And.intro (fun c2 => q) (fun c2 => absurd c2 (by omega))
    | succ d ih =>
      intro p f r u pI x8 x9 h' hd ep ef er eu hx8 hx9 hk
      have hz := xf_cut_z hw (p := p) (by omega)
      have hdg := xf_dgt hw (p := p) (by omega)
      have hrn := xf_cut_nn (show 0 ≤ w by omega) p
      have hfb := xf_sl_bd g w p
      have ht := xf_ten_c (p := p) (by omega)
      -- the letters
      have letters : ∀ (d2 n : Nat) (f2 oI : Int) (h2 : xq_H), n + d2 = 8 → oI = (n : Int) + 1 → f2 = f + xf_sl1 (g p) (xf_cut w p % 10) n → xr_kp h h2 → K 19 [some (xR 1), some (xI md), some (xI w), some (xI to), some (xI f2), some (xI r), some (xI u), some (xI pI), some (xI (xf_cut w p % 10)), some (xI oI)] [] 81 h2 := by
        intro d2
        induction d2 with
        | zero =>
          intro n f2 oI h2 hn eo ef2 hk2
          refine xq_go hK [8, 19] 60 ?_
          refine And.intro (fun c => ?_) (fun c => absurd c (by omega))
          refine And.intro (by omega) ?_
          refine And.intro (by omega) ?_
          refine And.intro (by omega) ?_
          refine ih (p + 1) _ _ _ _ _ _ h2 (by omega) (by omega) ?_ (by rw [er]; rfl) (by rw [eu, Int.mul_comm]; rfl) (Or.inr ⟨_, rfl⟩) (Or.inr ⟨_, rfl⟩) hk2
          rw [ef2, ef, xf_sl, show n = 8 by omega]
        | succ d2 ih2 =>
          intro n f2 oI h2 hn eo ef2 hk2
          have hs := xf_sl1_s (g p) (xf_cut w p % 10) n eo
          have hb1 := xf_sl1_bd (g p) (xf_cut w p % 10) n
          refine xq_go hK [8, 19] 60 ?_
          refine And.intro (fun c => absurd c (by omega)) (fun _ => ?_)
          refine ⟨lev - 1, by omega, c_X_isNear (by omega) hdg (by omega) (fun c => ?_) (fun c => ?_)⟩
          · refine And.intro (fun z => absurd z (by decide)) (fun _ => ?_)
            have hsw := xf_slot_wd hw (p := p) (L := oI) (by omega) (by omega)
            have har := xf_slot_ar (L := oI) (p := p) (by omega) (by omega) hdg
            have hsb := hsw.1.2.1
            have hsb0 := hsw.1.1
            rw [eu]
            have esl : w + (oI - xf_cut w p % 10) * xf_ten p = xf_slot w p oI := rfl
            refine And.intro (by omega) ?_
            refine And.intro (by omega) ?_
            refine And.intro (by omega) ?_
            rw [esl]
            refine ⟨lev - 1, by omega, c_K_madeOf (by omega) hV (xr_kp_B hk2 B) (xr_kp_C hk2 C) hsw.1 hmd (fun h3 hk3 => ?_)⟩
            refine And.intro (fun c2 => ?_) (fun c2 => ?_)
            · refine And.intro (by omega) ?_
              rw [← eu]
              refine ih2 (n + 1) _ _ _ (by omega) (by omega) ?_ (xr_kp_tr hk2 hk3)
              rw [hs.2 (fun z => c2 (by have := z.2; rw [hg] at this; exact this))]
              exact ef2
            · refine And.intro (by omega) ?_
              refine And.intro (by omega) ?_
              rw [← eu]
              refine ih2 (n + 1) _ _ _ (by omega) (by omega) ?_ (xr_kp_tr hk2 hk3)
              rw [hs.1 ⟨c, by rw [hg]; exact c2⟩]
              omega
          · refine And.intro (fun _ => ?_) (fun z => absurd rfl z)
            refine And.intro (by omega) ?_
            refine ih2 (n + 1) _ _ _ (by omega) (by omega) ?_ hk2
            rw [hs.2 (fun z => c z.1)]
            exact ef2
      refine xq_go hK [8, 19] 60 ?_
      refine And.intro (fun c => absurd c (by omega)) (fun _ => ?_)
      refine And.intro (fun c => absurd c (by omega)) (fun _ => ?_)
      refine And.intro (by omega) ?_
      rcases hx8 with rfl | ⟨z8, rfl⟩ <;> rcases hx9 with rfl | ⟨z9, rfl⟩
      all_goals
        subst er
        exact letters 8 0 _ _ h' (by omega) rfl (by rw [xf_sl1]; omega) hk
  refine xq_go hK [8] 60 ?_
  exact loop (xf_sz w).toNat 0 _ _ _ _ _ _ h (by omega) rfl rfl rfl rfl (Or.inl rfl) (Or.inl rfl) xr_kp_rf
set_option maxHeartbeats 1000000 in
theorem c_X_slipsOf {lev : Nat} {h : xq_H} {Q : Option xq_V → xq_H → Prop} {w : Int} (hl : 2 ≤ lev) (hw : xf_wd w)
    (hQ : Q (some (xI (xf_ways w))) h) : xq_met lev y_X_slipsOf [xI w] 81 h Q := by
  refine en_X_slipsOf (by omega) (fun K hK => ?_)
  have bw := xf_szb hw
  have w1 := hw.1
  have w2 := hw.2.1
  unfold xf_ways at hQ
  have loop : ∀ (d p : Nat) (f r pI : Int) (x4 : Option xq_V), (p : Int) + d = xf_sz w → pI = p → f = xf_sl (fun _ _ => True) w p → r = xf_cut w p → K 6 [some (xI w), some (xI f), some (xI r), some (xI pI), x4] [] 81 h := by
    intro d
    induction d with
    | zero =>
      intro p f r pI x4 hd ep ef er
      have hz := xf_cut_z hw (p := p) (by omega)
      rw [show (xf_sz w).toNat = p by omega, ← ef] at hQ
      refine xq_go hK [6] 60 ?_
      refine And.intro (fun c => hQ) (fun c => ?_)
      refine And.intro (fun c2 => hQ) (fun c2 => absurd c2 (by omega))
    | succ d ih =>
      intro p f r pI x4 hd ep ef er
      have hz := xf_cut_z hw (p := p) (by omega)
      have hdg := xf_dgt hw (p := p) (by omega)
      have hrn := xf_cut_nn (show 0 ≤ w by omega) p
      have hfb := xf_sl_bd (fun _ _ => True) w p
      have letters : ∀ (d2 n : Nat) (f2 oI : Int), n + d2 = 8 → oI = (n : Int) + 1 → f2 = f + xf_sl1 (fun _ => True) (xf_cut w p % 10) n → K 13 [some (xI w), some (xI f2), some (xI r), some (xI pI), some (xI oI)] [] 81 h := by
        intro d2
        induction d2 with
        | zero =>
          intro n f2 oI hn eo ef2
          refine xq_go hK [6, 13] 60 ?_
          refine And.intro (fun c => ?_) (fun c => absurd c (by omega))
          refine And.intro (by omega) ?_
          refine And.intro (by omega) ?_
          refine ih (p + 1) _ _ _ _ (by omega) (by omega) ?_ (by rw [er]; rfl)
          rw [ef2, ef, xf_sl, show n = 8 by omega]
        | succ d2 ih2 =>
          intro n f2 oI hn eo ef2
          have hs := xf_sl1_s (fun _ => True) (xf_cut w p % 10) n eo
          have hb1 := xf_sl1_bd (fun _ => True) (xf_cut w p % 10) n
          refine xq_go hK [6, 13] 60 ?_
          refine And.intro (fun c => absurd c (by omega)) (fun _ => ?_)
          refine And.intro (by omega) ?_
          rw [er]
          refine ⟨lev - 1, by omega, c_X_isNear (by omega) hdg (by omega) (fun c => ?_) (fun c => ?_)⟩
          · refine And.intro (fun z => absurd z (by decide)) (fun _ => ?_)
            refine And.intro (by omega) ?_
            refine And.intro (by omega) ?_
            rw [← er]
            refine ih2 (n + 1) _ _ (by omega) (by omega) ?_
            rw [hs.1 ⟨c, trivial⟩]
            omega
          · refine And.intro (fun _ => ?_) (fun z => absurd rfl z)
            refine And.intro (by omega) ?_
            refine And.intro (by omega) ?_
            rw [← er]
            refine ih2 (n + 1) _ _ (by omega) (by omega) ?_
            rw [hs.2 (fun z => c z.1)]
            omega
      refine xq_go hK [6, 13] 60 ?_
      refine And.intro (fun c => absurd c (by omega)) (fun _ => ?_)
      refine And.intro (fun c => absurd c (by omega)) (fun _ => ?_)
      exact letters 8 0 _ _ (by omega) rfl (by rw [xf_sl1]; omega)
  refine xq_go hK [6] 60 ?_
  exact loop (xf_sz w).toNat 0 _ _ _ _ (by omega) rfl rfl rfl
