/-! LETTERS OF A WORD -/
theorem xf_cut_s : ∀ (t : Nat) (w : Int), xf_cut w (t + 1) = xf_cut (w / 10) t
  | 0, _ => rfl
  | t + 1, w => by
    show xf_cut w (t + 1) / 10 = xf_cut (w / 10) t / 10
    rw [xf_cut_s t w]
theorem xf_cut_nn {w : Int} (hw : 0 ≤ w) : ∀ t, 0 ≤ xf_cut w t ∧ xf_cut w t ≤ w
  | 0 => ⟨hw, Int.le_refl _⟩
  | t + 1 => by
    have := xf_cut_nn hw t
    show 0 ≤ xf_cut w t / 10 ∧ xf_cut w t / 10 ≤ w
    omega
theorem xf_ct_nn : ∀ (n : Nat) (w : Int), 0 ≤ xf_ct n w ∧ xf_ct n w ≤ n
  | 0, _ => ⟨Int.le_refl _, Int.le_refl _⟩
  | n + 1, w => by
    have := xf_ct_nn n (w / 10)
    rw [xf_ct]
    split <;> omega
theorem xf_dig : ∀ (n : Nat) (w : Int) (t : Nat), xf_ds n w → (t : Int) < xf_ct n w → 1 ≤ xf_cut w t % 10 ∧ xf_cut w t % 10 ≤ 8
  | 0, w, t, _, h => by simp only [xf_ct] at h; omega
  | n + 1, w, t, hd, h => by
    rw [xf_ct] at h
    split at h
    · omega
    · rename_i h0
      rcases hd with hd | ⟨h1, h2, h3⟩
      · exact absurd hd h0
      · cases t with
        | zero => exact ⟨h1, h2⟩
        | succ t =>
          rw [xf_cut_s]
          exact xf_dig n (w / 10) t h3 (by omega)
/-- the k-th letter from the left of a word of n letters -/
def xf_lt (w : Int) (n k : Nat) : Int := xf_cut w (n - 1 - k) % 10
theorem xf_szb {w : Int} (h : xf_wd w) : 1 ≤ xf_sz w ∧ xf_sz w ≤ 5 := by
  have h1 := h.1
  have h2 := h.2.1
  have := xf_szc w (by omega)
  omega
theorem xf_lt_bd {w : Int} (h : xf_wd w) {n : Nat} (hn : xf_sz w = n) {k : Nat} (hk : k < n) : 1 ≤ xf_lt w n k ∧ xf_lt w n k ≤ 8 := by
  have e := xf_ct_sz (w := w) (by have := h.1; have := h.2.1; omega)
  exact xf_dig 5 w (n - 1 - k) h.2.2 (by omega)
set_option maxHeartbeats 1000000 in
theorem c_K_spread {lev : Nat} {h : xq_H} {Q : Option xq_V → xq_H → Prop} {w : Int} (hl : 2 ≤ lev) (hw : xf_wd w) {n : Nat} (hn : xf_sz w = n) (hQ : ∀ h', xs_eq [1, 27] h h' → (∀ k, k ≠ 5 → h' 1 k = h 1 k) → h' 1 5 = n → (∀ k : Nat, k < n → h' 27 k = xf_lt w n k) → Q none h') : xq_met lev y_K_spread [xR 1, xI w] 81 h Q := by
  refine en_K_spread (by omega) (fun K hK => ?_)
  have hb := xf_szb hw
  have hw1 := hw.1
  have hw2 := hw.2.1
  have loop : ∀ (m : Nat) (kI r : Int) (h' : xq_H), m ≤ n → kI = (m : Int) - 1 → r = xf_cut w (n - m) → xs_eq [1, 27] h h' → (∀ k, k ≠ 5 → h' 1 k = h 1 k) → h' 1 5 = n → (∀ k : Nat, m ≤ k → k < n → h' 27 k = xf_lt w n k) → K 11 [some (xR 1), some (xI w), some (xI r), some (xI kI)] [] 81 h' := by
    intro m
    induction m with
    | zero =>
      intro kI r h' hm ek er hs h1 h5 h2
      refine xq_go hK [11] 60 ?_
      refine And.intro (fun c => ?_) (fun c => absurd c (by omega))
      exact hQ h' hs h1 h5 (fun k hk => h2 k (Nat.zero_le _) hk)
    | succ m ih =>
      intro kI r h' hm ek er hs h1 h5 h2
      have hr := xf_cut_nn (show 0 ≤ w by omega) (n - (m + 1))
      refine xq_go hK [11] 60 ?_
      refine And.intro (fun c => absurd c (by omega)) (fun _ => ?_)
      refine And.intro (fun c => absurd c (by omega)) (fun _ => ?_)
      refine And.intro (by omega) ?_
      refine And.intro (by omega) ?_
      refine And.intro (by omega) ?_
      refine And.intro (by omega) ?_
      refine ih _ _ _ (by omega) (by omega) ?_ (xs_u hs (by decide) _ _) (fun k hk => ?_) ?_ (fun k hk hk2 => ?_)
      · rw [er, show n - m = n - (m + 1) + 1 by omega]; rfl
      · rw [xq_u_o (by decide)]; exact h1 k hk
      · rw [xq_u_o (by decide)]; exact h5
      · rw [xu_rd]
        by_cases hkm : k = m
        · rw [if_pos (by omega), er, xf_lt, show n - 1 - k = n - (m + 1) by omega]
        · rw [if_neg (by omega)]; exact h2 k (by omega) hk2
  refine xq_go hK [11] 60 ?_
  refine ⟨lev - 1, by omega, c_X_lettersOf (by omega) (fun _ => ?_) (fun z => absurd hw z)⟩
  have e5 : xq_u h 1 5 (xf_sz w) 1 5 = n := by rw [xu_eq]; exact hn
  refine And.intro (by omega) ?_
  refine loop n _ _ _ (Nat.le_refl _) (by omega) (by rw [Nat.sub_self]; rfl) (xs_u xs_rf (by decide) _ _) (fun k hk => xu_ne hk) e5 (fun k hk hk2 => by omega)
theorem c_M_first {lev : Nat} {h : xq_H} {Q : Option xq_V → xq_H → Prop} {w a : Int} (hl : 2 ≤ lev) (hw : 1 ≤ w ∧ w ≤ 99999) {n m : Nat} (hn : xf_sz w = n) (hm : a = m) (h1 : Q (some (xI (xf_cut w (n - m)))) h) : xq_met lev y_M_first [xI w, xI a] 81 h Q := by
  refine en_M_first (by omega) (fun K hK => ?_)
  have hb := xf_szc w hw.2
  have loop : ∀ (d : Nat) (t : Nat) (r kI : Int), t + d = n - m → r = xf_cut w t → kI = (n : Int) - t → K 5 [some (xI w), some (xI a), some (xI r), some (xI kI)] [] 81 h := by
    intro d
    induction d with
    | zero =>
      intro t r kI ht er ek
      refine xq_go hK [5] 60 ?_
      refine And.intro (fun c => ?_) (fun c => absurd c (by omega))
      rw [← ht, Nat.add_zero, ← er] at h1
      exact h1
    | succ d ih =>
      intro t r kI ht er ek
      have hr := xf_cut_nn (show 0 ≤ w by omega) t
      refine xq_go hK [5] 60 ?_
      refine And.intro (fun c => absurd c (by omega)) (fun _ => ?_)
      refine And.intro (by omega) ?_
      refine And.intro (by omega) ?_
      exact ih (t + 1) _ _ (by omega) (by rw [er]; rfl) (by omega)
  refine xq_go hK [5] 60 ?_
  refine ⟨lev - 1, by omega, c_M_size (by omega) (by omega) ?_⟩
  exact loop (n - m) 0 _ _ (by omega) rfl (by omega)
theorem c_X_withoutLast {lev : Nat} {h : xq_H} {Q : Option xq_V → xq_H → Prop} {w a : Int} (hl : 1 ≤ lev) (hw : 0 ≤ w ∧ w ≤ 99999) {m : Nat} (hm : a = m) (hm5 : m ≤ 5) (h1 : Q (some (xI (xf_cut w m))) h) : xq_met lev y_X_withoutLast [xI w, xI a] 81 h Q := by
  refine en_X_withoutLast (by omega) (fun K hK => ?_)
  have loop : ∀ (d : Nat) (t : Nat) (r kI : Int), t + d = m → r = xf_cut w t → kI = t → K 4 [some (xI w), some (xI a), some (xI r), some (xI kI)] [] 81 h := by
    intro d
    induction d with
    | zero =>
      intro t r kI ht er ek
      refine xq_go hK [4] 60 ?_
      refine And.intro (fun c => ?_) (fun c => absurd c (by omega))
      rw [← ht, Nat.add_zero, ← er] at h1
      exact h1
    | succ d ih =>
      intro t r kI ht er ek
      have hr := xf_cut_nn (show 0 ≤ w by omega) t
      refine xq_go hK [4] 60 ?_
      refine And.intro (fun c => absurd c (by omega)) (fun _ => ?_)
      refine And.intro (fun c => absurd c (by omega)) (fun _ => ?_)
      refine And.intro (by omega) ?_
      refine And.intro (by omega) ?_
      exact ih (t + 1) _ _ (by omega) (by rw [er]; rfl) (by omega)
  refine xq_go hK [4] 60 ?_
  exact loop m 0 _ _ (by omega) rfl rfl
set_option maxHeartbeats 1000000 in
theorem c_M_spellsInto {lev : Nat} {h : xq_H} {Q : Option xq_V → xq_H → Prop} {w : Int} {o : Nat} (ho : o = 70 ∨ o = 71) (hl : 2 ≤ lev) (hw : 1 ≤ w ∧ w ≤ 99999) {n : Nat} (hn : xf_sz w = n) (hQ : ∀ h', xs_eq [o] h h' → (∀ k : Nat, k < n → h' o ((k : Int) + 1) = xf_lt w n k) → Q none h') : xq_met lev y_M_spellsInto [xI w, xR o] 81 h Q := by
  refine en_M_spellsInto (by omega) (fun K hK => ?_)
  have hb := xf_szc w hw.2
  have loop : ∀ (m : Nat) (nI kI r : Int) (h' : xq_H), m ≤ n → kI = (m : Int) → r = xf_cut w (n - m) → xs_eq [o] h h' → (∀ k : Nat, m ≤ k → k < n → h' o ((k : Int) + 1) = xf_lt w n k) → K 7 [some (xI w), some (xR o), some (xI nI), some (xI r), some (xI kI)] [] 81 h' := by
    intro m
    induction m with
    | zero =>
      intro nI kI r h' hm ek er hs h2
      refine xq_go hK [7] 60 ?_
      refine And.intro (fun c => ?_) (fun c => absurd c (by omega))
      exact hQ h' hs (fun k hk => h2 k (Nat.zero_le _) hk)
    | succ m ih =>
      intro nI kI r h' hm ek er hs h2
      have hr := xf_cut_nn (show 0 ≤ w by omega) (n - (m + 1))
      have key : K 15 [some (xI w), some (xR o), some (xI nI), some (xI r), some (xI kI)] [] 81 (xq_u h' o kI (r % 10)) := by
        refine xq_go hK [7] 60 ?_
        refine And.intro (by omega) ?_
        refine And.intro (by omega) ?_
        refine ih _ _ _ _ (by omega) (by omega) ?_ (xs_u hs List.mem_cons_self _ _) (fun k hk hk2 => ?_)
        · rw [er, show n - m = n - (m + 1) + 1 by omega]; rfl
        · rw [xu_rd]
          by_cases hkm : k = m
          · rw [if_pos (by omega), er, xf_lt, show n - 1 - k = n - (m + 1) by omega]
          · rw [if_neg (by omega)]; exact h2 k (by omega) hk2
      rcases ho with rfl | rfl
      · refine xq_go hK [7, 15] 60 ?_
        refine And.intro (fun c => absurd c (by omega)) (fun _ => ?_)
        refine And.intro (by omega) ?_
        refine And.intro (by omega) ?_
        exact key
      · refine xq_go hK [7, 15] 60 ?_
        refine And.intro (fun c => absurd c (by omega)) (fun _ => ?_)
        refine And.intro (by omega) ?_
        refine And.intro (by omega) ?_
        exact key
  refine xq_go hK [7] 60 ?_
  refine ⟨lev - 1, by omega, c_M_size (by omega) (by omega) ?_⟩
  refine loop n _ _ _ _ (Nat.le_refl _) (by omega) (by rw [Nat.sub_self]; rfl) xs_rf (fun k hk hk2 => by omega)
theorem c_M_tellsOf {lev : Nat} {h : xq_H} {Q : Option xq_V → xq_H → Prop} {wh none0 : Int} (hl : 1 ≤ lev) (hw : 0 ≤ wh ∧ wh ≤ 900) (hh : -1 ≤ h 65 17 ∧ h 65 17 ≤ 4) (h1 : h 65 17 = -1 → Q (some (xI none0)) h) (h2 : 0 ≤ h 65 17 → Q (some (xI (h 65 (wh + h 65 17)))) h) : xq_met lev y_M_tellsOf [xR 64, xI wh, xI none0] 81 h Q := by
  refine en_M_tellsOf (by omega) (fun K hK => ?_)
  refine xq_go hK [] 60 ?_
  refine And.intro (by omega) ?_
  refine And.intro (fun c => ?_) (fun c => h1 c)
  refine And.intro (by omega) ?_
  refine And.intro (by omega) ?_
  refine And.intro (by omega) ?_
  exact h2 (by omega)
