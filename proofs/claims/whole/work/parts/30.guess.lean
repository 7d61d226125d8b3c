/-! GUESSES -/
/-- the first from a start for which p holds, else d -/
noncomputable def xf_find (p : Nat → Prop) (d : Int) : Nat → Nat → Int
  | 0, _ => d
  | f + 1, i => xf_if (p i) i (xf_find p d f (i + 1))
theorem xf_find_congr {p q : Nat → Prop} {d : Int} : ∀ (f s : Nat), (∀ k, s ≤ k → k < s + f → (p k ↔ q k)) → xf_find p d f s = xf_find q d f s
  | 0, _, _ => rfl
  | f + 1, s, h => by rw [xf_find, xf_find, xf_if_c (h s (Nat.le_refl _) (by omega)), xf_find_congr f (s + 1) (fun k h1 h2 => h k (by omega) (by omega))]
theorem xf_ds_w : ∀ (n : Nat) {w : Int}, xf_ds n w → xf_ds (n + 1) w
  | 0, w, h => Or.inl h
  | n + 1, w, h => by
    rcases h with h | ⟨h1, h2, h3⟩
    · exact Or.inl h
    · exact Or.inr ⟨h1, h2, xf_ds_w n h3⟩
theorem xf_ds_d {n : Nat} {w : Int} (h : xf_ds n w) : xf_ds n (w / 10) := by
  cases n with
  | zero =>
    have e : w = 0 := h
    rw [e]
    exact rfl
  | succ n =>
    rcases h with h | ⟨_, _, h⟩
    · rw [h]
      exact Or.inl rfl
    · exact xf_ds_w n h
theorem xf_ds_cut {n : Nat} {w : Int} (h : xf_ds n w) : ∀ t : Nat, xf_ds n (xf_cut w t)
  | 0 => h
  | t + 1 => xf_ds_d (xf_ds_cut h t)
theorem xf_cut_wd {w : Int} (hw : xf_wd w) {t : Nat} (ht : (t : Int) < xf_sz w) : xf_wd (xf_cut w t) := by
  have b := xf_szb hw
  have h1 := xf_ds_cut hw.2.2 t
  have h2 := xf_ds5 h1
  have h3 := xf_cut_z hw (p := t) (by omega)
  exact ⟨by omega, h2.2, h1⟩
def xf_bg (m : Int → Int) (i b : Int) : Prop := xf_sz b ≤ xf_sz (m (18 + i)) ∧ xf_cut (m (18 + i)) ((xf_sz (m (18 + i))).toNat - (xf_sz b).toNat) = b
noncomputable def xf_ah (m : Int → Int) (i b : Int) : Nat → Int
  | 0 => 0
  | j + 1 => xf_ah m i b j + xf_if (xf_bg m j b ∧ (m (2 + i) < m (2 + j) ∨ m (2 + j) = m (2 + i) ∧ (j : Int) < i)) 1 0
theorem xf_ah_bd (m : Int → Int) (i b : Int) : ∀ n : Nat, 0 ≤ xf_ah m i b n ∧ xf_ah m i b n ≤ n
  | 0 => ⟨Int.le_refl _, Int.le_refl _⟩
  | n + 1 => by
    have := xf_ah_bd m i b n
    rw [xf_ah]
    by_cases c : xf_bg m n b ∧ (m (2 + i) < m (2 + n) ∨ m (2 + n) = m (2 + i) ∧ (n : Int) < i)
    · rw [xf_if_t c]; omega
    · rw [xf_if_f c]; omega
theorem c_W_begins {lev : Nat} {h : xq_H} {Q : Option xq_V → xq_H → Prop} {m : Int → Int} {P : List xf_Cl} {i b : Int} (hl : 3 ≤ lev) (hV : xf_VM m) (B : xr_base h m P) (hi : 0 ≤ i ∧ i < m 11) (hb : xf_wd b)
    (h1 : xf_bg m i b → Q (some (xI 1)) h) (h0 : ¬ xf_bg m i b → Q (some (xI 0)) h) : xq_met lev y_W_begins [xR 3, xI i, xI b] 81 h Q := by
  refine en_W_begins (by omega) (fun K hK => ?_)
  have V1 := hV.1
  have hw := (hV.2.1 i hi.1 hi.2).1
  have b1 := xf_szb hb
  have b2 := xf_szb hw
  have w1 := hw.1
  have w2 := hw.2.1
  have esz := B.sz i hi.1 hi.2
  unfold xf_bg at h1 h0
  refine xq_go hK [] 60 ?_
  refine And.intro (by omega) ?_
  refine ⟨lev - 1, by omega, c_X_lettersOf (by omega) (fun _ => ?_) (fun z => absurd hb z)⟩
  refine And.intro (by omega) ?_
  rw [esz]
  refine And.intro (fun c => ?_) (fun c => ?_)
  · exact And.intro (Or.inl rfl) (h0 (fun z => by omega))
  · refine And.intro (by omega) ?_
    rw [B.wd i hi.1 hi.2]
    refine ⟨lev - 1, by omega, c_X_withoutLast (m := (xf_sz (m (18 + i))).toNat - (xf_sz b).toNat) (by omega) (by omega) (by omega) (by omega) ?_⟩
    refine And.intro (fun c2 => ?_) (fun c2 => ?_)
    · exact And.intro (Or.inl rfl) (h0 (fun z => c2 z.2))
    · exact And.intro (Or.inr rfl) (h1 ⟨by omega, c2⟩)
theorem c_M_begins {lev : Nat} {h : xq_H} {Q : Option xq_V → xq_H → Prop} {i b : Int} (hl : 4 ≤ lev) (hV : xf_VM (h 65)) (hi : 0 ≤ i ∧ i < h 65 11) (hb : xf_wd b)
    (h1 : xf_bg (h 65) i b → Q (some (xI 1)) h) (h0 : ¬ xf_bg (h 65) i b → Q (some (xI 0)) h) : xq_met lev y_M_begins [xR 64, xI i, xI b] 81 h Q := by
  refine en_M_begins (by omega) (fun K hK => ?_)
  have V1 := hV.1
  have hw := (hV.2.1 i hi.1 hi.2).1
  have b1 := xf_szb hb
  have b2 := xf_szb hw
  have w1 := hw.1
  have w2 := hw.2.1
  have w3 := hb.1
  have w4 := hb.2.1
  unfold xf_bg at h1 h0
  refine xq_go hK [] 60 ?_
  refine ⟨lev - 1, by omega, c_M_size (by omega) (by omega) ?_⟩
  refine And.intro (by omega) ?_
  refine And.intro (by omega) ?_
  refine ⟨lev - 1, by omega, c_M_size (by omega) (by omega) ?_⟩
  refine And.intro (fun c => ?_) (fun c => ?_)
  · exact And.intro (Or.inl rfl) (h0 (fun z => by omega))
  · refine And.intro (by omega) ?_
    refine And.intro (by omega) ?_
    refine ⟨lev - 1, by omega, c_M_first (by omega) (by omega) (n := (xf_sz (h 65 (18 + i))).toNat) (m := (xf_sz b).toNat) (by omega) (by omega) ?_⟩
    refine And.intro (fun c2 => ?_) (fun c2 => ?_)
    · exact And.intro (Or.inl rfl) (h0 (fun z => c2 z.2))
    · exact And.intro (Or.inr rfl) (h1 ⟨by omega, c2⟩)
set_option maxHeartbeats 1000000 in
theorem c_W_aheadOf {lev : Nat} {h : xq_H} {Q : Option xq_V → xq_H → Prop} {m : Int → Int} {P : List xf_Cl} {i b : Int} (hl : 4 ≤ lev) (hV : xf_VM m) (N : xr_now h m P) (hi : 0 ≤ i ∧ i < m 11) (hb : xf_wd b)
    (hQ : Q (some (xI (xf_ah m i b (m 11).toNat))) h) : xq_met lev y_W_aheadOf [xR 3, xI i, xI b] 81 h Q := by
  refine en_W_aheadOf (by omega) (fun K hK => ?_)
  have V1 := hV.1
  have els := N.bs.ls
  have ewi := N.wt i hi.1 hi.2
  have loop : ∀ (d j : Nat) (n jI : Int) (x5 : Option xq_V), (j : Int) + d = m 11 → jI = j → n = xf_ah m i b j → (x5 = none ∨ ∃ z, x5 = some (xI z)) → K 4 [some (xR 3), some (xI i), some (xI b), some (xI n), some (xI jI), x5] [] 81 h := by
    intro d
    induction d with
    | zero =>
      intro j n jI x5 hd ej en _
      refine xq_go hK [4] 60 ?_
      refine And.intro (fun c => ?_) (fun c => absurd c (by omega))
      rw [show (m 11).toNat = j by omega, ← en] at hQ
      exact hQ
    | succ d ih =>
      intro j n jI x5 hd ej en hx5
      have hbd := xf_ah_bd m i b j
      have ewj := N.wt jI (by omega) (by omega)
      have eah : xf_ah m i b (j + 1) = n + xf_if (xf_bg m j b ∧ (m (2 + i) < m (2 + j) ∨ m (2 + j) = m (2 + i) ∧ (j : Int) < i)) 1 0 := by rw [xf_ah, ← en]
      have last : ∀ (v : Int) (z : Int), v = xf_if (xf_bg m j b ∧ (m (2 + i) < m (2 + j) ∨ m (2 + j) = m (2 + i) ∧ (j : Int) < i)) 1 0 → 0 ≤ v ∧ v ≤ 1 → K 44 [some (xR 3), some (xI i), some (xI b), some (xI n), some (xI jI), some (xI z)] [xI v, xI n] 81 h := by
        intro v z ev hv
        refine xq_go hK [4] 60 ?_
        refine And.intro (by omega) ?_
        refine And.intro (by omega) ?_
        refine ih (j + 1) _ _ _ (by omega) (by omega) ?_ (Or.inr ⟨z, rfl⟩)
        rw [eah, ev]
      have ahead : ∀ aI : Int, (aI = 1 ∧ (m (2 + i) < m (2 + j) ∨ m (2 + j) = m (2 + i) ∧ (j : Int) < i) ∨ aI = 0 ∧ ¬ (m (2 + i) < m (2 + j) ∨ m (2 + j) = m (2 + i) ∧ (j : Int) < i)) → K 32 [some (xR 3), some (xI i), some (xI b), some (xI n), some (xI jI), x5] [xI aI] 81 h := by
        intro aI ha
        rcases hx5 with rfl | ⟨z5, rfl⟩
        all_goals
          refine xq_go hK [44] 60 ?_
          refine And.intro (fun c => last _ _ (by rw [xf_if_f (fun z => ?_)]; omega) (by omega)) (fun c => ?_)
          refine ⟨lev - 1, by omega, c_W_begins (by omega) hV N.bs (by omega) hb (fun c2 => ?_) (fun c2 => ?_)⟩
          · rw [ej] at c2
            refine And.intro (fun z => absurd z (by decide)) (fun _ => last _ _ (by rw [xf_if_t ⟨c2, by omega⟩]) (by omega))
          · rw [ej] at c2
            refine And.intro (fun _ => last _ _ (by rw [xf_if_f (fun z => c2 z.1)]) (by omega)) (fun z => absurd rfl z)
      rw [ej] at ewj
      refine xq_go hK [32] 60 ?_
      refine And.intro (fun c => absurd c (by omega)) (fun _ => ?_)
      refine And.intro (by omega) ?_
      refine And.intro (by omega) ?_
      rw [ewi, ej, ewj]
      rw [ej] at ahead
      refine And.intro (fun c => ahead 1 (by omega)) (fun c => ?_)
      refine And.intro (by omega) ?_
      refine And.intro (by omega) ?_
      rw [ewi, ewj]
      refine And.intro (fun c2 => ahead 0 (by omega)) (fun c2 => ?_)
      refine And.intro (fun c3 => ahead 0 (by omega)) (fun c3 => ahead 1 (by omega))
  refine xq_go hK [4] 60 ?_
  exact loop (m 11).toNat 0 _ _ _ (by omega) rfl rfl (Or.inl rfl)
set_option maxHeartbeats 1000000 in
theorem c_M_aheadOf {lev : Nat} {h : xq_H} {Q : Option xq_V → xq_H → Prop} {i b : Int} (hl : 5 ≤ lev) (hV : xf_VM (h 65)) (hi : 0 ≤ i ∧ i < h 65 11) (hb : xf_wd b)
    (hQ : Q (some (xI (xf_ah (h 65) i b (h 65 11).toNat))) h) : xq_met lev y_M_aheadOf [xR 64, xI i, xI b] 81 h Q := by
  refine en_M_aheadOf (by omega) (fun K hK => ?_)
  have V1 := hV.1
  have loop : ∀ (d j : Nat) (n jI : Int), (j : Int) + d = h 65 11 → jI = j → n = xf_ah (h 65) i b j → K 4 [some (xR 64), some (xI i), some (xI b), some (xI n), some (xI jI)] [] 81 h := by
    intro d
    induction d with
    | zero =>
      intro j n jI hd ej en
      refine xq_go hK [4] 60 ?_
      refine And.intro (by omega) ?_
      refine And.intro (fun c => ?_) (fun c => absurd c (by omega))
      rw [show (h 65 11).toNat = j by omega, ← en] at hQ
      exact hQ
    | succ d ih =>
      intro j n jI hd ej en
      subst ej
      have hbd := xf_ah_bd (h 65) i b j
      have eah : xf_ah (h 65) i b (j + 1) = n + xf_if (xf_bg (h 65) j b ∧ (h 65 (2 + i) < h 65 (2 + j) ∨ h 65 (2 + j) = h 65 (2 + i) ∧ (j : Int) < i)) 1 0 := by rw [xf_ah, ← en]
      have last : ∀ (v : Int), v = xf_if (xf_bg (h 65) j b ∧ (h 65 (2 + i) < h 65 (2 + j) ∨ h 65 (2 + j) = h 65 (2 + i) ∧ (j : Int) < i)) 1 0 → 0 ≤ v ∧ v ≤ 1 → K 48 [some (xR 64), some (xI i), some (xI b), some (xI n), some (xI j)] [xI v, xI n] 81 h := by
        intro v ev hv
        refine xq_go hK [4] 60 ?_
        refine And.intro (by omega) ?_
        refine And.intro (by omega) ?_
        refine ih (j + 1) _ _ (by omega) (by omega) ?_
        rw [eah, ev]
      refine xq_go hK [48] 60 ?_
      refine And.intro (by omega) ?_
      refine And.intro (fun c => absurd c (by omega)) (fun _ => ?_)
      refine ⟨lev - 1, by omega, c_M_begins (by omega) hV (by omega) hb (fun c2 => ?_) (fun c2 => ?_)⟩
      · refine And.intro (fun z => absurd z (by decide)) (fun _ => ?_)
        refine And.intro (by omega) ?_
        refine And.intro (by omega) ?_
        refine And.intro (by omega) ?_
        refine And.intro (by omega) ?_
        refine And.intro (fun c3 => last _ (by rw [xf_if_t ⟨c2, by omega⟩]) (by omega)) (fun c3 => ?_)
        refine And.intro (by omega) ?_
        refine And.intro (by omega) ?_
        refine And.intro (by omega) ?_
        refine And.intro (by omega) ?_
        refine And.intro (fun c4 => last _ (by rw [xf_if_f (fun z => by have := z.2; omega)]) (by omega)) (fun c4 => ?_)
        refine And.intro (fun c5 => last _ (by rw [xf_if_f (fun z => by have := z.2; omega)]) (by omega)) (fun c5 => last _ (by rw [xf_if_t ⟨c2, by omega⟩]) (by omega))
      · refine And.intro (fun _ => last _ (by rw [xf_if_f (fun z => c2 z.1)]) (by omega)) (fun z => absurd rfl z)
  refine xq_go hK [4] 60 ?_
  exact loop (h 65 11).toNat 0 _ _ (by omega) rfl rfl
noncomputable def sp_guess (m : Int → Int) (b k : Int) : Int := xf_if (xf_wd b) (if 0 ≤ k ∧ k ≤ 2 then xf_find (fun i => xf_bg m i b ∧ xf_ah m i b (m 11).toNat = k) (-5) (m 11).toNat 0 else -1) (-2)
theorem q_X_guess {lev : Nat} {h : xq_H} {Q : Option xq_V → xq_H → Prop} {m : Int → Int} {P : List xf_Cl} {b k : Int} {T : Int} (hl : 6 ≤ lev) (I : xr_ok h m P T) (hQ : ∀ h', xr_ck h h' → Q (some (xI (sp_guess m b k))) h') : xq_met lev y_X_guess [xR 0, xI b, xI k] 81 h Q := by
  refine en_X_guess (by omega) (fun K hK => ?_)
  have V1 := I.vm.1
  have els := I.now.bs.ls
  have q := hQ h xs_rf
  unfold sp_guess at q
  have loop : xf_wd b → ∀ (d i : Nat) (iI : Int), (i : Int) + d = m 11 → iI = i → Q (some (xI (xf_find (fun i => xf_bg m i b ∧ xf_ah m i b (m 11).toNat = k) (-5) d i))) h → K 14 [some (xR 0), some (xI b), some (xI k), some (xI iI)] [] 81 h := by
    intro hb d
    induction d with
    | zero =>
      intro i iI hd ei q
      refine xq_go hK [14] 60 ?_
      refine And.intro (fun c => ?_) (fun c => absurd c (by omega))
      exact q
    | succ d ih =>
      intro i iI hd ei q
      subst ei
      rw [xf_find] at q
      have next : ¬ (xf_bg m i b ∧ xf_ah m i b (m 11).toNat = k) → K 37 [some (xR 0), some (xI b), some (xI k), some (xI i)] [] 81 h := by
        intro hno
        rw [xf_if_f hno] at q
        refine xq_go hK [14] 60 ?_
        refine And.intro (by omega) ?_
        exact ih (i + 1) _ (by omega) (by omega) q
      refine xq_go hK [14, 37] 60 ?_
      refine And.intro (fun c => absurd c (by omega)) (fun _ => ?_)
      refine ⟨lev - 1, by omega, c_W_begins (by omega) I.vm I.now.bs (by omega) hb (fun c2 => ?_) (fun c2 => ?_)⟩
      · refine And.intro (fun z => absurd z (by decide)) (fun _ => ?_)
        refine ⟨lev - 1, by omega, c_W_aheadOf (by omega) I.vm I.now (by omega) hb ?_⟩
        refine And.intro (fun c3 => next (fun z => c3 z.2)) (fun c3 => ?_)
        rw [xf_if_t ⟨c2, c3⟩] at q
        exact q
      · refine And.intro (fun _ => next (fun z => c2 z.1)) (fun z => absurd rfl z)
  refine xq_go hK [14] 60 ?_
  refine ⟨lev - 1, by omega, c_X_isWord (by omega) (fun c => ?_) (fun c => ?_)⟩
  · rw [xf_if_t c] at q
    refine And.intro (fun _ => ?_) (fun z => absurd z (by decide))
    refine And.intro (fun c2 => ?_) (fun c2 => And.intro (fun c3 => ?_) (fun c3 => ?_))
    · rw [if_neg (by omega)] at q
      exact q
    · rw [if_pos (by omega)] at q
      exact loop c (m 11).toNat 0 _ (by omega) rfl q
    · rw [if_neg (by omega)] at q
      exact q
  · rw [xf_if_f c] at q
    refine And.intro (fun z => absurd rfl z) (fun _ => ?_)
    exact q
theorem q_M_guess {lev : Nat} {h : xq_H} {Q : Option xq_V → xq_H → Prop} {b k : Int} (hl : 7 ≤ lev) (hV : xf_VM (h 65)) (hQ : ∀ h', xr_rk h h' → Q (some (xI (sp_guess (h 65) b k))) h') : xq_met lev y_M_guess [xR 64, xI b, xI k] 81 h Q := by
  refine en_M_guess (by omega) (fun K hK => ?_)
  have V1 := hV.1
  have q := hQ h xr_rk_rf
  unfold sp_guess at q
  have loop : xf_wd b → ∀ (d i : Nat) (iI : Int), (i : Int) + d = h 65 11 → iI = i → Q (some (xI (xf_find (fun i => xf_bg (h 65) i b ∧ xf_ah (h 65) i b (h 65 11).toNat = k) (-5) d i))) h → K 14 [some (xR 64), some (xI b), some (xI k), some (xI iI)] [] 81 h := by
    intro hb d
    induction d with
    | zero =>
      intro i iI hd ei q
      refine xq_go hK [14] 60 ?_
      refine And.intro (by omega) ?_
      refine And.intro (fun c => ?_) (fun c => absurd c (by omega))
      exact q
    | succ d ih =>
      intro i iI hd ei q
      subst ei
      rw [xf_find] at q
      have next : ¬ (xf_bg (h 65) i b ∧ xf_ah (h 65) i b (h 65 11).toNat = k) → K 33 [some (xR 64), some (xI b), some (xI k), some (xI i)] [] 81 h := by
        intro hno
        rw [xf_if_f hno] at q
        refine xq_go hK [14] 60 ?_
        refine And.intro (by omega) ?_
        exact ih (i + 1) _ (by omega) (by omega) q
      refine xq_go hK [14, 33] 60 ?_
      refine And.intro (by omega) ?_
      refine And.intro (fun c => absurd c (by omega)) (fun _ => ?_)
      refine ⟨lev - 1, by omega, c_M_begins (by omega) hV (by omega) hb (fun c2 => ?_) (fun c2 => ?_)⟩
      · refine And.intro (fun z => absurd z (by decide)) (fun _ => ?_)
        refine ⟨lev - 1, by omega, c_M_aheadOf (by omega) hV (by omega) hb ?_⟩
        refine And.intro (fun c3 => next (fun z => c3 z.2)) (fun c3 => ?_)
        rw [xf_if_t ⟨c2, c3⟩] at q
        exact q
      · refine And.intro (fun _ => next (fun z => c2 z.1)) (fun z => absurd rfl z)
  refine xq_go hK [14] 60 ?_
  refine ⟨lev - 1, by omega, c_M_isWord (by omega) (fun c => ?_) (fun c => ?_)⟩
  · rw [xf_if_t c] at q
    refine And.intro (fun _ => ?_) (fun z => absurd z (by decide))
    refine ⟨lev - 1, by omega, c_M_in (by omega) (fun c2 => ?_) (fun c2 => ?_)⟩
    · refine And.intro (fun _ => ?_) (fun z => absurd z (by decide))
      rw [if_pos (by omega)] at q
      exact loop c (h 65 11).toNat 0 _ (by omega) rfl q
    · refine And.intro (fun z => absurd rfl z) (fun _ => ?_)
      rw [if_neg (by omega)] at q
      exact q
  · rw [xf_if_f c] at q
    refine And.intro (fun z => absurd rfl z) (fun _ => ?_)
    exact q
noncomputable def sp_letter (m : Int → Int) (i : Int) : Int := xf_if (0 ≤ i ∧ i < m 11) (xf_find (fun n => xf_ah m i (xf_cut (m (18 + i)) ((xf_sz (m (18 + i))).toNat - n)) (m 11).toNat < 3) (-5) (xf_sz (m (18 + i))).toNat 1) (-1)
theorem q_X_letter {lev : Nat} {h : xq_H} {Q : Option xq_V → xq_H → Prop} {m : Int → Int} {P : List xf_Cl} {i : Int} {T : Int} (hl : 6 ≤ lev) (I : xr_ok h m P T) (hQ : ∀ h', xr_ck h h' → Q (some (xI (sp_letter m i))) h') : xq_met lev y_X_letter [xR 0, xI i] 81 h Q := by
  refine en_X_letter (by omega) (fun K hK => ?_)
  have V1 := I.vm.1
  have els := I.now.bs.ls
  have q := hQ h xs_rf
  unfold sp_letter at q
  refine xq_go hK [17] 60 ?_
  refine ⟨lev - 1, by omega, c_W_has (by omega) (fun c => ?_) (fun c => ?_)⟩
  · rw [els] at c
    rw [xf_if_t c] at q
    refine And.intro (fun _ => ?_) (fun z => absurd z (by decide))
    refine And.intro (by omega) ?_
    have hw := (I.vm.2.1 i c.1 c.2).1
    have bw := xf_szb hw
    have w1 := hw.1
    have w2 := hw.2.1
    rw [I.now.bs.sz i c.1 c.2]
    have loop : ∀ (d n : Nat) (nI : Int), (n : Int) + d = xf_sz (m (18 + i)) + 1 → 1 ≤ n → nI = n → Q (some (xI (xf_find (fun n => xf_ah m i (xf_cut (m (18 + i)) ((xf_sz (m (18 + i))).toNat - n)) (m 11).toNat < 3) (-5) d n))) h → K 17 [some (xR 0), some (xI i), some (xI (xf_sz (m (18 + i)))), some (xI nI)] [] 81 h := by
      intro d
      induction d with
      | zero =>
        intro n nI hd hn1 en q
        refine xq_go hK [17] 60 ?_
        refine And.intro (fun c2 => ?_) (fun c2 => absurd c2 (by omega))
        exact q
      | succ d ih =>
        intro n nI hd hn1 en q
        subst en
        rw [xf_find] at q
        refine xq_go hK [17] 60 ?_
        refine And.intro (fun c2 => absurd c2 (by omega)) (fun _ => ?_)
        refine And.intro (by omega) ?_
        refine And.intro (by omega) ?_
        rw [I.now.bs.wd i c.1 c.2]
        refine ⟨lev - 1, by omega, c_X_withoutLast (m := (xf_sz (m (18 + i))).toNat - n) (by omega) (by omega) (by omega) (by omega) ?_⟩
        refine ⟨lev - 1, by omega, c_W_aheadOf (by omega) I.vm I.now c (xf_cut_wd hw (by omega)) ?_⟩
        refine And.intro (fun c3 => ?_) (fun c3 => ?_)
        · refine And.intro (by omega) ?_
          rw [xf_if_f c3] at q
          exact ih (n + 1) _ (by omega) (by omega) (by omega) q
        · rw [xf_if_t (by omega)] at q
          exact q
    exact loop (xf_sz (m (18 + i))).toNat 1 _ (by omega) (by omega) rfl q
  · rw [els] at c
    rw [xf_if_f c] at q
    refine And.intro (fun z => absurd rfl z) (fun _ => ?_)
    exact q
theorem q_M_letter {lev : Nat} {h : xq_H} {Q : Option xq_V → xq_H → Prop} {i : Int} (hl : 7 ≤ lev) (hV : xf_VM (h 65)) (hQ : ∀ h', xr_rk h h' → Q (some (xI (sp_letter (h 65) i))) h') : xq_met lev y_M_letter [xR 64, xI i] 81 h Q := by
  refine en_M_letter (by omega) (fun K hK => ?_)
  have V1 := hV.1
  have q := hQ h xr_rk_rf
  unfold sp_letter at q
  refine xq_go hK [8] 60 ?_
  refine ⟨lev - 1, by omega, c_M_isListed (by omega) V1 (fun c => ?_) (fun c => ?_)⟩
  · rw [xf_if_t c] at q
    refine And.intro (fun _ => ?_) (fun z => absurd z (by decide))
    have hw := (hV.2.1 i c.1 c.2).1
    have bw := xf_szb hw
    have w1 := hw.1
    have w2 := hw.2.1
    have loop : ∀ (d n : Nat) (nI : Int), (n : Int) + d = xf_sz (h 65 (18 + i)) + 1 → 1 ≤ n → nI = n → Q (some (xI (xf_find (fun n => xf_ah (h 65) i (xf_cut (h 65 (18 + i)) ((xf_sz (h 65 (18 + i))).toNat - n)) (h 65 11).toNat < 3) (-5) d n))) h → K 8 [some (xR 64), some (xI i), some (xI nI)] [] 81 h := by
      intro d
      induction d with
      | zero =>
        intro n nI hd hn1 en q
        refine xq_go hK [8] 60 ?_
        refine And.intro (by omega) ?_
        refine And.intro (by omega) ?_
        refine ⟨lev - 1, by omega, c_M_size (by omega) (by omega) ?_⟩
        refine And.intro (fun c2 => ?_) (fun c2 => absurd c2 (by omega))
        exact q
      | succ d ih =>
        intro n nI hd hn1 en q
        subst en
        rw [xf_find] at q
        refine xq_go hK [8] 60 ?_
        refine And.intro (by omega) ?_
        refine And.intro (by omega) ?_
        refine ⟨lev - 1, by omega, c_M_size (by omega) (by omega) ?_⟩
        refine And.intro (fun c2 => absurd c2 (by omega)) (fun _ => ?_)
        refine And.intro (by omega) ?_
        refine And.intro (by omega) ?_
        refine ⟨lev - 1, by omega, c_M_first (by omega) (by omega) (n := (xf_sz (h 65 (18 + i))).toNat) (m := n) (by omega) rfl ?_⟩
        refine ⟨lev - 1, by omega, c_M_aheadOf (by omega) hV c (xf_cut_wd hw (by omega)) ?_⟩
        refine And.intro (fun c3 => ?_) (fun c3 => ?_)
        · refine And.intro (by omega) ?_
          rw [xf_if_f c3] at q
          exact ih (n + 1) _ (by omega) (by omega) (by omega) q
        · rw [xf_if_t (by omega)] at q
          exact q
    exact loop (xf_sz (h 65 (18 + i))).toNat 1 _ (by omega) (by omega) rfl q
  · rw [xf_if_f c] at q
    refine And.intro (fun z => absurd rfl z) (fun _ => ?_)
    exact q
