/-! SLIPS, the reference's side -/
/-- what a question of the reference leaves as it is -/
def xr_rk (h h' : xq_H) : Prop := xs_eq [64, 67, 68, 69, 70, 71, 72, 73, 74, 75, 76, 77, 78] h h' ∧ ∀ k : Int, k < 19 ∨ 24 < k → h' 64 k = h 64 k
theorem xr_rk_rf {h : xq_H} : xr_rk h h := ⟨xs_rf, fun _ _ => rfl⟩
theorem xr_rk_tr {h h1 h2 : xq_H} (a : xr_rk h h1) (b : xr_rk h1 h2) : xr_rk h h2 := ⟨xs_tr a.1 b.1 (fun _ z => z) (fun _ z => z), fun k hk => (b.2 k hk).trans (a.2 k hk)⟩
theorem xr_rk_s {X : List Nat} {h h' : xq_H} (a : xs_eq X h h') (hX : ∀ o ∈ X, o ∈ [67, 68, 69, 70, 71, 72, 73, 74, 75, 76, 77, 78]) : xr_rk h h' := ⟨xs_tr xs_rf a (X := []) (by decide) (fun o ho => List.mem_cons_of_mem _ (hX o ho)), fun k _ => by
  rw [a 64 (fun z => absurd (hX 64 z) (by decide))]⟩
theorem xr_rk_u {h h' : xq_H} (a : xr_rk h h') {o : Nat} (ho : o ∈ [67, 68, 69, 70, 71, 72, 73, 74, 75, 76, 77, 78]) (k v : Int) : xr_rk h (xq_u h' o k v) := ⟨xs_u a.1 (List.mem_cons_of_mem _ ho) _ _, fun k2 hk2 => by
  rw [xq_u_o (fun z => absurd (z ▸ ho) (by decide))]
  exact a.2 k2 hk2⟩
theorem xr_rk_f {h h' : xq_H} (a : xr_rk h h') {k : Int} (hk : 19 ≤ k ∧ k ≤ 24) (v : Int) : xr_rk h (xq_u h' 64 k v) := ⟨xs_u a.1 (by decide) _ _, fun k2 hk2 => by
  rw [xu_ne (by omega)]
  exact a.2 k2 hk2⟩
theorem xr_rk_65 {h h' : xq_H} (a : xr_rk h h') : h' 65 = h 65 := a.1 65 (by decide)
set_option maxHeartbeats 4000000 in
theorem c_M_slipsFrom {lev : Nat} {h : xq_H} {Q : Option xq_V → xq_H → Prop} {P : List xf_Cl} {w md to : Int} (hl : 7 ≤ lev) (hV : xf_VM (h 65)) (hP : xf_ph (h 65) P) (hw : xf_wd w) (hmd : 0 ≤ md ∧ md < h 65 10)
    (hQ : ∀ h', xr_rk h h' → h' 64 23 = xf_ways w → h' 64 24 = xf_so (h 65) P md w to → (∀ i : Nat, (i : Int) < h 65 11 → h' 74 i = xf_sum (xf_fact (h 65) md (xf_sz w) i) P) → Q none h') : xq_met lev y_M_slipsFrom [xR 64, xI md, xI w, xI to] 81 h Q := by
  refine en_M_slipsFrom (by omega) (fun K hK => ?_)
  have bw := xf_szb hw
  have w1 := hw.1
  have w2 := hw.2.1
  obtain ⟨g, hg⟩ : ∃ g : Nat → Int → Prop, g = fun p L => xf_made (h 65) P md (xf_slot w p L) = to := ⟨_, rfl⟩
  have hQ2 : ∀ h', xr_rk h h' → h' 64 23 = xf_sl (fun _ _ => True) w (xf_sz w).toNat → h' 64 24 = xf_sl g w (xf_sz w).toNat → (∀ i : Nat, (i : Int) < h 65 11 → h' 74 i = xf_sum (xf_fact (h 65) md (xf_sz w) i) P) → Q none h' := by rw [hg]; exact hQ
  have loop : ∀ (d p : Nat) (u r : Int) (x6 : Option xq_V) (h' : xq_H), (p : Int) + d = xf_sz w → r = xf_cut w p → u = xf_ten p → xr_rk h h' → h' 64 23 = xf_sl (fun _ _ => True) w p → h' 64 24 = xf_sl g w p → (∀ i : Nat, (i : Int) < h 65 11 → h' 74 i = xf_sum (xf_fact (h 65) md (xf_sz w) i) P) → (x6 = none ∨ ∃ z, x6 = some (xI z)) → K 15 [some (xR 64), some (xI md), some (xI w), some (xI to), some (xI u), some (xI r), x6] [] 81 h' := by
    intro d
    induction d with
    | zero =>
      intro p u r x6 h' hd er eu hk e23 e24 hex _
      have hz := xf_cut_z hw (p := p) (by omega)
      have q := hQ2 h' hk
      rw [show (xf_sz w).toNat = p by omega] at q
      refine xq_go hK [15] 60 ?_
      refine And.intro (fun c => q e23 e24 hex) (fun c => absurd c (by omega))
    | succ d ih =>
      intro p u r x6 h' hd er eu hk e23 e24 hex hx6
      have hz := xf_cut_z hw (p := p) (by omega)
      have hdg := xf_dgt hw (p := p) (by omega)
      have hrn := xf_cut_nn (show 0 ≤ w by omega) p
      have hfb := xf_sl_bd g w p
      have hfb2 := xf_sl_bd (fun _ _ => True) w p
      have ht := xf_ten_c (p := p) (by omega)
      have letters : ∀ (d2 n : Nat) (oI : Int) (h2 : xq_H), n + d2 = 8 → oI = (n : Int) + 1 → xr_rk h h2 → h2 64 23 = xf_sl (fun _ _ => True) w p + xf_sl1 (fun _ => True) (xf_cut w p % 10) n → h2 64 24 = xf_sl g w p + xf_sl1 (g p) (xf_cut w p % 10) n → (∀ i : Nat, (i : Int) < h 65 11 → h2 74 i = xf_sum (xf_fact (h 65) md (xf_sz w) i) P) → K 19 [some (xR 64), some (xI md), some (xI w), some (xI to), some (xI u), some (xI r), some (xI oI)] [] 81 h2 := by
        intro d2
        induction d2 with
        | zero =>
          intro n oI h2 hn eo hk2 f23 f24 hex2
          refine xq_go hK [15, 19] 60 ?_
          refine And.intro (fun c => ?_) (fun c => absurd c (by omega))
          refine And.intro (by omega) ?_
          refine And.intro (by omega) ?_
          refine ih (p + 1) _ _ _ h2 (by omega) (by rw [er]; rfl) (by rw [eu, Int.mul_comm]; rfl) hk2 ?_ ?_ hex2 (Or.inr ⟨_, rfl⟩)
          · rw [f23, xf_sl, show n = 8 by omega]
          · rw [f24, xf_sl, show n = 8 by omega]
        | succ d2 ih2 =>
          intro n oI h2 hn eo hk2 f23 f24 hex2
          have hs := xf_sl1_s (g p) (xf_cut w p % 10) n eo
          have hs0 := xf_sl1_s (fun _ => True) (xf_cut w p % 10) n eo
          have hb1 := xf_sl1_bd (g p) (xf_cut w p % 10) n
          have hb0 := xf_sl1_bd (fun _ => True) (xf_cut w p % 10) n
          refine xq_go hK [15, 19] 60 ?_
          refine And.intro (fun c => absurd c (by omega)) (fun _ => ?_)
          refine And.intro (by omega) ?_
          rw [er]
          refine ⟨lev - 1, by omega, c_M_areNear (by omega) hdg (by omega) (fun c => ?_) (fun c => ?_)⟩
          · refine And.intro (fun z => absurd z (by decide)) (fun _ => ?_)
            have hsw := xf_slot_wd hw (p := p) (L := oI) (by omega) (by omega)
            have har := xf_slot_ar (L := oI) (p := p) (by omega) (by omega) hdg
            have hsb := hsw.1.2.1
            have hsb0 := hsw.1.1
            refine And.intro (by omega) ?_
            refine And.intro (by omega) ?_
            rw [eu]
            have esl : w + (oI - xf_cut w p % 10) * xf_ten p = xf_slot w p oI := rfl
            refine And.intro (by omega) ?_
            refine And.intro (by omega) ?_
            refine And.intro (by omega) ?_
            rw [esl]
            have e65 : h2 65 = h 65 := xr_rk_65 hk2
            have e65u : ∀ v, xq_u h2 64 23 v 65 = h 65 := fun v => by rw [xq_u_o (by decide)]; exact e65
            have e24u : ∀ v, xq_u h2 64 23 v 64 24 = h2 64 24 := fun v => xu_ne (by decide)
            refine ⟨lev - 1, by omega, c_M_madeOf (P := P) (by omega) (by rw [e65u]; exact hV) (by rw [e65u]; exact hmd) hsw.1 (by rw [e65u]; exact hP) (by rw [e65u, xq_u_o (by decide), hsw.2]; exact hex2) (fun h3 hs3 => ?_)⟩
            have hk3 : xr_rk h h3 := xr_rk_tr (xr_rk_f hk2 (by decide) _) (xr_rk_s hs3 (by decide))
            have g23 : h3 64 23 = h2 64 23 + 1 := by rw [hs3 64 (by decide), xu_eq]
            have hex3 : ∀ i : Nat, (i : Int) < h 65 11 → h3 74 i = xf_sum (xf_fact (h 65) md (xf_sz w) i) P := by
              rw [hs3 74 (by decide), xq_u_o (by decide)]
              exact hex2
            rw [e65u, e24u]
            refine And.intro (fun c2 => ?_) (fun c2 => ?_)
            · refine And.intro (by omega) ?_
              refine And.intro (by omega) ?_
              rw [← eu, ← er]
              refine ih2 (n + 1) _ _ (by omega) (by omega) (xr_rk_f hk3 (by decide) _) ?_ ?_ ?_
              · rw [xu_ne (by decide), g23, hs0.1 ⟨c, trivial⟩]
                omega
              · rw [xu_eq, hs.2 (fun z => c2 (by have := z.2; rw [hg] at this; exact this))]
                omega
              · rw [xq_u_o (by decide)]
                exact hex3
            · refine And.intro (by omega) ?_
              refine And.intro (by omega) ?_
              rw [← eu, ← er]
              refine ih2 (n + 1) _ _ (by omega) (by omega) (xr_rk_f hk3 (by decide) _) ?_ ?_ ?_
              · rw [xu_ne (by decide), g23, hs0.1 ⟨c, trivial⟩]
                omega
              · rw [xu_eq, hs.1 ⟨c, by rw [hg]; exact c2⟩]
                omega
              · rw [xq_u_o (by decide)]
                exact hex3
          · refine And.intro (fun _ => ?_) (fun z => absurd rfl z)
            refine And.intro (by omega) ?_
            rw [← er]
            refine ih2 (n + 1) _ _ (by omega) (by omega) hk2 ?_ ?_ hex2
            · rw [f23, hs0.2 (fun z => c z.1)]
            · rw [f24, hs.2 (fun z => c z.1)]
      refine xq_go hK [15, 19] 60 ?_
      refine And.intro (fun c => absurd c (by omega)) (fun _ => ?_)
      rcases hx6 with rfl | ⟨z, rfl⟩
      all_goals exact letters 8 0 _ h' (by omega) rfl hk (by rw [xf_sl1, e23]; omega) (by rw [xf_sl1, e24]; omega) hex
  refine xq_go hK [15] 60 ?_
  refine ⟨lev - 1, by omega, c_M_size (by omega) (by omega) ?_⟩
  have e65u : ∀ v v2, xq_u (xq_u h 64 23 v) 64 24 v2 65 = h 65 := fun v v2 => rfl
  refine ⟨lev - 1, by omega, c_M_looksFor (P := P) (by omega) (by rw [e65u]; exact hV) (by rw [e65u]; exact hmd) (by omega) (by rw [e65u]; exact hP) (fun h1 hs1 hex => ?_)⟩
  rw [e65u] at hex
  refine loop (xf_sz w).toNat 0 _ _ _ h1 (by omega) rfl rfl (xr_rk_tr (xr_rk_f (xr_rk_f xr_rk_rf (by decide) _) (by decide) _) (xr_rk_s hs1 (by decide))) ?_ ?_ hex (Or.inl rfl)
  · rw [hs1 64 (by decide)]; rfl
  · rw [hs1 64 (by decide)]; rfl
theorem c_M_waysOf {lev : Nat} {h : xq_H} {Q : Option xq_V → xq_H → Prop} {P : List xf_Cl} {i md to : Int} (hl : 8 ≤ lev) (hV : xf_VM (h 65)) (hP : xf_ph (h 65) P) (hi : 0 ≤ i ∧ i < h 65 11) (hmd : 0 ≤ md ∧ md < h 65 10)
    (hQ : ∀ h', xr_rk h h' → Q (some (xI (xf_so (h 65) P md (h 65 (18 + i)) to + if xf_made (h 65) P md (h 65 (18 + i)) = to then 1 else 0))) h') : xq_met lev y_M_waysOf [xR 64, xI md, xI i, xI to] 81 h Q := by
  refine en_M_waysOf (by omega) (fun K hK => ?_)
  have V1 := hV.1
  have hw := (hV.2.1 i hi.1 hi.2).1
  have bw := xf_szb hw
  have hsb := xf_sl_bd (fun p L => xf_made (h 65) P md (xf_slot (h 65 (18 + i)) p L) = to) (h 65 (18 + i)) (xf_sz (h 65 (18 + i))).toNat
  refine xq_go hK [] 60 ?_
  refine And.intro (by omega) ?_
  refine And.intro (by omega) ?_
  refine ⟨lev - 1, by omega, c_M_slipsFrom (P := P) (by omega) hV hP hw hmd (fun h1 hk1 e23 e24 hex => ?_)⟩
  have e65 : h1 65 = h 65 := xr_rk_65 hk1
  refine And.intro (by omega) ?_
  refine And.intro (by omega) ?_
  rw [e65]
  refine ⟨lev - 1, by omega, c_M_madeOf (P := P) (by omega) (by rw [e65]; exact hV) (by rw [e65]; exact hmd) hw (by rw [e65]; exact hP) (by rw [e65]; exact hex) (fun h2 hs2 => ?_)⟩
  have q := hQ h2 (xr_rk_tr hk1 (xr_rk_s hs2 (by decide)))
  rw [e65, e24]
  unfold xf_so at q ⊢
  refine And.intro (fun c => ?_) (fun c => ?_)
  · refine And.intro (by omega) ?_
    rw [if_neg c] at q
    exact q
  · refine And.intro (by omega) ?_
    rw [if_pos c] at q
    exact q
