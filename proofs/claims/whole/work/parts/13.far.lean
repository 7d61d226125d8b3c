/-! HEAPS THAT ARE THE SAME BUT FOR SOME OBJECTS -/
def xs_eq (X : List Nat) (h h' : xq_H) : Prop := ∀ o, o ∉ X → h' o = h o
theorem xs_rf {X : List Nat} {h : xq_H} : xs_eq X h h := fun _ _ => rfl
theorem xs_u {X : List Nat} {h h' : xq_H} (hs : xs_eq X h h') {o : Nat} (ho : o ∈ X) (k v : Int) : xs_eq X h (xq_u h' o k v) := fun o' ho' => by
  rw [xq_u_o (fun z => ho' (by rw [z]; exact ho))]
  exact hs o' ho'
theorem xs_tr {X Y Z : List Nat} {h h' h'' : xq_H} (h1 : xs_eq X h h') (h2 : xs_eq Y h' h'') (hX : ∀ o ∈ X, o ∈ Z) (hY : ∀ o ∈ Y, o ∈ Z) : xs_eq Z h h'' := fun o ho => (h2 o (fun z => ho (hY o z))).trans (h1 o (fun z => ho (hX o z)))
theorem xu_rd {h : xq_H} {o : Nat} {k v k' : Int} : xq_u h o k v o k' = if k' = k then v else h o k' := by
  simp [xq_u]
theorem xu_eq {h : xq_H} {o : Nat} {k v : Int} : xq_u h o k v o k = v := by
  simp [xq_u]
theorem xu_ne {h : xq_H} {o : Nat} {k v k' : Int} (hk : k' ≠ k) : xq_u h o k v o k' = h o k' := by
  simp [xq_u, hk]
/-! HOW FAR: one letter after another -/
noncomputable def xf_sw (nr st : Int) (x y : Int) : Int := if x = y then 0 else (@ite _ (xf_near x y) (Classical.propDecidable _) nr st)
def xf_row (st : Int) (sw : Int → Int → Int) (x : Int) (b : Int → Int) (prev : Nat → Int) (first : Int) : Nat → Int
  | 0 => first
  | j + 1 => min (prev j + sw x (b j)) (min (prev (j + 1)) (xf_row st sw x b prev first j) + st)
def xf_D (st : Int) (sw : Int → Int → Int) (a b : Int → Int) : Nat → Nat → Int
  | 0 => fun j => (j : Int) * st
  | i + 1 => xf_row st sw (a i) b (xf_D st sw a b i) (((i : Int) + 1) * st)
theorem xf_sw_bd {nr st x y : Int} (hn : 0 ≤ nr ∧ nr ≤ 99) (hs : 0 ≤ st ∧ st ≤ 99) : 0 ≤ xf_sw nr st x y ∧ xf_sw nr st x y ≤ 99 := by
  unfold xf_sw
  repeat' split
  all_goals omega
theorem xf_D_bd {st : Int} {sw : Int → Int → Int} {a b : Int → Int} (hs : 0 ≤ st ∧ st ≤ 99) (hw : ∀ x y, 0 ≤ sw x y ∧ sw x y ≤ 99) : ∀ (i j : Nat), 0 ≤ xf_D st sw a b i j ∧ xf_D st sw a b i j ≤ 99 * ((i : Int) + j)
  | 0, j => by
    show 0 ≤ (j : Int) * st ∧ (j : Int) * st ≤ _
    refine ⟨Int.mul_nonneg (by omega) hs.1, ?_⟩
    have := Int.mul_le_mul_of_nonneg_left hs.2 (show (0 : Int) ≤ (j : Int) by omega)
    omega
  | i + 1, 0 => by
    show 0 ≤ ((i : Int) + 1) * st ∧ ((i : Int) + 1) * st ≤ _
    refine ⟨Int.mul_nonneg (by omega) hs.1, ?_⟩
    have := Int.mul_le_mul_of_nonneg_left hs.2 (show (0 : Int) ≤ (i : Int) + 1 by omega)
    omega
  | i + 1, j + 1 => by
    have h1 := xf_D_bd hs hw (a := a) (b := b) i j
    have h2 := xf_D_bd hs hw (a := a) (b := b) i (j + 1)
    have h3 := xf_D_bd hs hw (a := a) (b := b) (i + 1) j
    have h4 := hw (a i) (b j)
    have e : xf_D st sw a b (i + 1) (j + 1) = min (xf_D st sw a b i j + sw (a i) (b j)) (min (xf_D st sw a b i (j + 1)) (xf_D st sw a b (i + 1) j) + st) := rfl
    rw [e]
    omega
set_option maxHeartbeats 1000000 in
theorem c_K_leastSum {lev : Nat} {h : xq_H} {Q : Option xq_V → xq_H → Prop} {nr i : Int} {n g : Nat} (hl : 2 ≤ lev) (hi : 0 ≤ i ∧ i < 8) (hst : 0 ≤ h 17 1 ∧ h 17 1 ≤ 99) (hnr : 0 ≤ nr ∧ nr ≤ 99) (hn : h 1 5 = n) (hn5 : n ≤ 5) (hg : h 7 i = g) (hg5 : g ≤ 5) (ha : ∀ k : Nat, k < n → 1 ≤ h 27 k ∧ h 27 k ≤ 8) (hb : ∀ j : Nat, j < g → 1 ≤ h 8 (i * 5 + j) ∧ h 8 (i * 5 + j) ≤ 8)
    (hQ : ∀ h', xs_eq [28] h h' → Q (some (xI (xf_D (h 17 1) (xf_sw nr (h 17 1)) (fun k => h 27 k) (fun j => h 8 (i * 5 + j)) n g))) h') : xq_met lev y_K_leastSum [xR 1, xI nr, xI i] 81 h Q := by
  refine en_K_leastSum (by omega) (fun K hK => ?_)
  generalize hstE : h 17 1 = st at hst hQ
  have hD := fun (k j : Nat) => xf_D_bd (a := fun k => h 27 k) (b := fun j => h 8 (i * 5 + j)) hst (fun x y => xf_sw_bd (x := x) (y := y) hnr hst) k j
  generalize hDe : xf_D st (xf_sw nr st) (fun k => h 27 k) (fun j => h 8 (i * 5 + j)) = D at hD hQ
  -- the row of one more letter
  have inner : ∀ (m : Nat) (k j : Nat) (kI jI cI : Int) (h' : xq_H) (x8 x9 x10 : Option xq_V), k < n → 1 ≤ j → j + m = g + 1 → kI = k → jI = j → cI = D k (j - 1) → xs_eq [28] h h' → (∀ j' : Nat, j' < j → h' 28 j' = D (k + 1) j') → (∀ j' : Nat, j ≤ j' → j' ≤ g → h' 28 j' = D k j') →
      (∀ (kJ : Int) (h' : xq_H) (x6 x7 x8 x9 x10 : Option xq_V), kJ = (k : Int) + 1 → xs_eq [28] h h' → (∀ j' : Nat, j' ≤ g → h' 28 j' = D (k + 1) j') → K 30 [some (xR 1), some (xI nr), some (xI i), some (xI st), some (xI g), some (xI kJ), x6, x7, x8, x9, x10] [] 81 h') →
      K 50 [some (xR 1), some (xI nr), some (xI i), some (xI st), some (xI g), some (xI kI), some (xI cI), some (xI jI), x8, x9, x10] [] 81 h' := by
    intro m
    induction m with
    | zero =>
      intro k j kI jI cI h' x8 x9 x10 hk hj hm ek ej ec hs h1 h2 next
      refine xq_go hK [50, 30] 60 ?_
      refine And.intro (fun c => ?_) (fun c => absurd c (by omega))
      refine And.intro (by omega) ?_
      exact next _ h' _ _ _ _ _ (by omega) hs (fun j' hj' => h1 j' (by omega))
    | succ m ih =>
      intro k j kI jI cI h' x8 x9 x10 hk hj hm ek ej ec hs h1 h2 next
      have e8 : h' 8 = h 8 := hs 8 (by decide)
      have e27 : h' 27 = h 27 := hs 27 (by decide)
      obtain ⟨j0, rfl⟩ : ∃ j0, j = j0 + 1 := ⟨j - 1, by omega⟩
      rw [show j0 + 1 - 1 = j0 by omega] at ec
      have hb1 := hb j0 (by omega)
      have ha1 := ha k hk
      have v1 : h' 8 (i * 5 + jI - 1) = h 8 (i * 5 + j0) := by rw [e8, show i * 5 + jI - 1 = i * 5 + (j0 : Int) by omega]
      have v2 : h' 27 kI = h 27 k := by rw [e27, ek]
      have v3 : h' 28 jI = D k (j0 + 1) := by rw [ej]; exact h2 (j0 + 1) (Nat.le_refl _) (by omega)
      have v5 : h' 28 (jI - 1) = D (k + 1) j0 := by rw [show jI - 1 = (j0 : Int) by omega]; exact h1 j0 (by omega)
      have b1 := hD k j0
      have b2 := hD k (j0 + 1)
      have b3 := hD (k + 1) j0
      have b4 := hD (k + 1) (j0 + 1)
      have eD : D (k + 1) (j0 + 1) = min (D k j0 + xf_sw nr st (h 27 k) (h 8 (i * 5 + j0))) (min (D k (j0 + 1)) (D (k + 1) j0) + st) := by rw [← hDe]; rfl
      generalize hsw : xf_sw nr st (h 27 k) (h 8 (i * 5 + j0)) = sw at eD
      have hswb : 0 ≤ sw ∧ sw ≤ 99 := by rw [← hsw]; exact xf_sw_bd hnr hst
      -- the swapped sum in place 10
      have done : ∀ (x8 x9 : Option xq_V) (s10 : Int), s10 = D k j0 + sw → K 89 [some (xR 1), some (xI nr), some (xI i), some (xI st), some (xI g), some (xI kI), some (xI cI), some (xI jI), x8, x9, some (xI s10)] [] 81 h' := by
        intro x8 x9 s10 hs10
        refine xq_go hK [50] 60 ?_
        refine And.intro (by omega) ?_
        refine And.intro (by omega) ?_
        refine And.intro (by omega) ?_
        refine And.intro (by omega) ?_
        refine ⟨lev - 1, by omega, c_JM_min (by omega) ?_⟩
        refine And.intro (by omega) ?_
        refine ⟨lev - 1, by omega, c_JM_min (by omega) ?_⟩
        refine And.intro (by omega) ?_
        refine And.intro (by omega) ?_
        refine ih k (j0 + 2) _ _ _ _ _ _ _ hk (by omega) (by omega) ek (by omega) ?_ (xs_u hs (by decide) _ _) (fun j' hj' => ?_) (fun j' hj' hj2 => ?_) next
        · rw [v3]; rfl
        · rw [xu_rd]
          by_cases hjj : j' = j0 + 1
          · rw [if_pos (by omega), v3, v5, hs10, hjj, eD]
          · rw [if_neg (by omega)]; exact h1 j' (by omega)
        · rw [xu_rd, if_neg (by omega)]; exact h2 j' (by omega) hj2
      have tail : ∀ (x8 : Int) (s9 : Int) (x10 : Option xq_V), x8 = h 8 (i * 5 + j0) → 0 ≤ s9 ∧ s9 ≤ 99 → (h 27 k ≠ x8 → s9 = sw) → K 77 [some (xR 1), some (xI nr), some (xI i), some (xI st), some (xI g), some (xI kI), some (xI cI), some (xI jI), some (xI x8), some (xI s9), x10] [] 81 h' := by
        intro x8 s9 x10 hx8 h9 hx
        refine xq_go hK [89] 60 ?_
        refine And.intro (by omega) ?_
        refine And.intro (fun c => ?_) (fun c => ?_)
        · refine And.intro (by omega) ?_
          refine done _ _ _ ?_
          rw [ec, hx (fun z => c (by rw [v2]; exact z))]
        · refine And.intro (by omega) ?_
          refine done _ _ _ ?_
          have : sw = 0 := by rw [← hsw, xf_sw, if_pos (by omega)]
          omega
      refine xq_go hK [77] 60 ?_
      refine And.intro (fun c => absurd c (by omega)) (fun _ => ?_)
      refine And.intro (by omega) ?_
      refine And.intro (by omega) ?_
      refine And.intro (by omega) ?_
      refine And.intro (by omega) ?_
      refine And.intro (by omega) ?_
      refine ⟨lev - 1, by omega, c_X_isNear (by omega) (by omega) (by omega) (fun hne => ?_) (fun hne => ?_)⟩
      · refine And.intro (fun c => absurd c (by decide)) (fun _ => ?_)
        refine tail _ _ _ v1 hnr (fun z => ?_)
        rw [v1] at z hne
        rw [v2] at hne
        rw [← hsw, xf_sw, if_neg z, if_pos hne]
      · refine And.intro (fun _ => ?_) (fun c => absurd rfl c)
        refine tail _ _ _ v1 hst (fun z => ?_)
        rw [v1] at z hne
        rw [v2] at hne
        rw [← hsw, xf_sw, if_neg z, if_neg hne]
  -- letter by letter
  have outer : ∀ (m : Nat) (k : Nat) (kI : Int) (h' : xq_H) (x6 x7 x8 x9 x10 : Option xq_V), k + m = n → kI = k → xs_eq [28] h h' → (∀ j' : Nat, j' ≤ g → h' 28 j' = D k j') → K 30 [some (xR 1), some (xI nr), some (xI i), some (xI st), some (xI g), some (xI kI), x6, x7, x8, x9, x10] [] 81 h' := by
    intro m
    induction m with
    | zero =>
      intro k kI h' x6 x7 x8 x9 x10 hm ek hs h1
      have e1 : h' 1 5 = n := by rw [hs 1 (by decide)]; exact hn
      have hkn : k = n := by omega
      refine xq_go hK [30, 50] 60 ?_
      refine And.intro (fun c => ?_) (fun c => absurd c (by omega))
      refine And.intro (fun c => ?_) (fun c => absurd c (by omega))
      refine And.intro (by omega) ?_
      have q := hQ h' hs
      rw [← hkn, ← h1 g (Nat.le_refl _)] at q
      exact q
    | succ m ih =>
      intro k kI h' x6 x7 x8 x9 x10 hm ek hs h1
      have e1 : h' 1 5 = n := by rw [hs 1 (by decide)]; exact hn
      have z1 := h1 0 (by omega)
      have b1 := hD k 0
      have b2 := hD (k + 1) 0
      have eD : D (k + 1) 0 = ((k : Int) + 1) * st := by rw [← hDe]; rfl
      refine xq_go hK [30, 50] 60 ?_
      refine And.intro (fun c => absurd c (by omega)) (fun _ => ?_)
      refine And.intro (by omega) ?_
      refine And.intro (by omega) ?_
      rw [ek]
      refine And.intro (by omega) ?_
      refine And.intro (by omega) ?_
      refine inner g k 1 _ _ _ _ _ _ _ (by omega) (by omega) (by omega) rfl rfl z1 (xs_u hs (by decide) _ _) (fun j' hj' => ?_) (fun j' hj' hj2 => ?_) (fun kJ h'' x6 x7 x8 x9 x10 e hs2 h2 => ih (k + 1) kJ h'' x6 x7 x8 x9 x10 (by omega) (by omega) hs2 h2)
      · rw [show j' = 0 by omega, xu_rd, if_pos (by omega), eD]
      · rw [xu_rd, if_neg (by omega)]; exact h1 j' hj2
  -- the first row
  have first : ∀ (m : Nat) (j : Nat) (jI : Int) (h' : xq_H), j + m = g + 1 → jI = j → xs_eq [28] h h' → (∀ j' : Nat, j' < j → h' 28 j' = D 0 j') → K 16 [some (xR 1), some (xI nr), some (xI i), some (xI st), some (xI g), some (xI jI), none, none, none, none, none] [] 81 h' := by
    intro m
    induction m with
    | zero =>
      intro j jI h' hm ej hs h1
      refine xq_go hK [16, 30] 60 ?_
      refine And.intro (fun c => ?_) (fun c => absurd c (by omega))
      exact outer n 0 _ h' _ _ _ _ _ (by omega) rfl hs (fun j' hj' => h1 j' (by omega))
    | succ m ih =>
      intro j jI h' hm ej hs h1
      have b1 := hD 0 j
      have eD : D 0 j = (j : Int) * st := by rw [← hDe]; rfl
      refine xq_go hK [16, 30] 60 ?_
      refine And.intro (fun c => absurd c (by omega)) (fun _ => ?_)
      rw [ej]
      refine And.intro (by omega) ?_
      refine And.intro (by omega) ?_
      refine And.intro (by omega) ?_
      refine ih (j + 1) _ _ (by omega) (by omega) (xs_u hs (by decide) _ _) (fun j' hj' => ?_)
      rw [xu_rd]
      by_cases hjj : j' = j
      · rw [if_pos (by omega), hjj, eD]
      · rw [if_neg (by omega)]; exact h1 j' (by omega)
  refine xq_go hK [16] 60 ?_
  refine And.intro (by omega) ?_
  refine ⟨lev - 1, by omega, c_JM_min (by omega) ?_⟩
  rw [hg, show min (g : Int) 5 = g by omega, show h 17 1 = st from hstE]
  exact first (g + 1) 0 0 h (by omega) rfl xs_rf (fun j' hj' => by omega)
