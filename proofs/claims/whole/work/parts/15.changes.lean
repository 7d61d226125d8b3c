/-! THE REFERENCE'S CHANGES -/
theorem xf_row_congr {st : Int} {sw : Int → Int → Int} {x x' : Int} {b b' : Int → Int} {p p' : Nat → Int} {f : Int} (hx : x = x') : ∀ (g : Nat), (∀ j : Nat, j < g → b j = b' j) → (∀ j : Nat, j ≤ g → p j = p' j) → xf_row st sw x b p f g = xf_row st sw x' b' p' f g
  | 0, _, _ => rfl
  | g + 1, hb, hp => by
    rw [xf_row, xf_row, xf_row_congr hx g (fun j hj => hb j (by omega)) (fun j hj => hp j (by omega)), hp g (by omega), hp (g + 1) (Nat.le_refl _), hb g (by omega), hx]
theorem xf_D_congr {st : Int} {sw : Int → Int → Int} {a a' b b' : Int → Int} : ∀ (n g : Nat), (∀ k : Nat, k < n → a k = a' k) → (∀ j : Nat, j < g → b j = b' j) → xf_D st sw a b n g = xf_D st sw a' b' n g
  | 0, _, _, _ => rfl
  | n + 1, g, ha, hb => xf_row_congr (ha n (by omega)) g hb (fun j hj => xf_D_congr n j (fun k hk => ha k (by omega)) (fun i hi => hb i (by omega)))
noncomputable def xf_far (st nr typed other : Int) : Int := xf_D st (xf_sw nr st) (fun k => xf_lt typed (xf_sz typed).toNat k.toNat) (fun k => xf_lt other (xf_sz other).toNat k.toNat) (xf_sz typed).toNat (xf_sz other).toNat
/-- STEP of the newest telephone -/
def xf_stp (m : Int → Int) : Int := if m 17 = -1 then 10 else m (239 + m 17)
set_option maxHeartbeats 2000000 in
theorem c_M_changes {lev : Nat} {h : xq_H} {Q : Option xq_V → xq_H → Prop} {typed other near : Int} (hl : 3 ≤ lev) (ht : xf_wd typed) (ho : xf_wd other) (hnear : near = 0 ∨ near = 1) (hh : -1 ≤ h 65 17 ∧ h 65 17 ≤ 4) (hst : 0 ≤ xf_stp (h 65) ∧ xf_stp (h 65) ≤ 99)
    (hQ : ∀ h', xs_eq [70, 71, 72, 73] h h' → Q (some (xI (xf_far (xf_stp (h 65)) (if near = 1 then min 4 (xf_stp (h 65)) else xf_stp (h 65)) typed other))) h') : xq_met lev y_M_changes [xR 64, xI typed, xI other, xI near] 81 h Q := by
  refine en_M_changes (by omega) (fun K hK => ?_)
  obtain ⟨n, hn⟩ : ∃ n : Nat, xf_sz typed = n := ⟨(xf_sz typed).toNat, by have := xf_szb ht; omega⟩
  obtain ⟨g, hg⟩ : ∃ n : Nat, xf_sz other = n := ⟨(xf_sz other).toNat, by have := xf_szb ho; omega⟩
  have bt := xf_szb ht
  have bo := xf_szb ho
  have ht1 := ht.1
  have ht2 := ht.2.1
  have ho1 := ho.1
  have ho2 := ho.2.1
  generalize hstE : xf_stp (h 65) = st at hst hQ
  generalize hnrE : (if near = 1 then min 4 st else st) = nr at hQ
  have hnr : 0 ≤ nr ∧ nr ≤ 99 := by rw [← hnrE]; split <;> omega
  have hD := fun (k j : Nat) => xf_D_bd (a := fun k => xf_lt typed (xf_sz typed).toNat k.toNat) (b := fun k => xf_lt other (xf_sz other).toNat k.toNat) hst (fun x y => xf_sw_bd (x := x) (y := y) hnr hst) k j
  unfold xf_far at hQ
  generalize hDe : xf_D st (xf_sw nr st) (fun k => xf_lt typed (xf_sz typed).toNat k.toNat) (fun k => xf_lt other (xf_sz other).toNat k.toNat) = D at hD hQ
  have hn2 : (xf_sz typed).toNat = n := by omega
  have hg2 : (xf_sz other).toNat = g := by omega
  rw [hn2, hg2] at hQ hDe
  -- what is held beside the two rows
  let P : xq_H → Prop := fun h' => xs_eq [70, 71, 72, 73] h h' ∧ (∀ k : Nat, k < n → h' 70 ((k : Int) + 1) = xf_lt typed n k) ∧ (∀ k : Nat, k < g → h' 71 ((k : Int) + 1) = xf_lt other g k)
  have P2 : ∀ h' k v, P h' → P (xq_u h' 72 k v) := fun h' k v hp => ⟨xs_u hp.1 (by decide) _ _, fun k hk => by rw [xq_u_o (by decide)]; exact hp.2.1 k hk, fun k hk => by rw [xq_u_o (by decide)]; exact hp.2.2 k hk⟩
  have P3 : ∀ h' k v, P h' → P (xq_u h' 73 k v) := fun h' k v hp => ⟨xs_u hp.1 (by decide) _ _, fun k hk => by rw [xq_u_o (by decide)]; exact hp.2.1 k hk, fun k hk => by rw [xq_u_o (by decide)]; exact hp.2.2 k hk⟩
  -- the row is copied
  have copy : ∀ (m : Nat) (i j : Nat) (iI jI : Int) (h' : xq_H) (x9 : Option xq_V), i < n → j + m = g + 1 → iI = (i : Int) + 1 → jI = j → P h' → (∀ j' : Nat, j' ≤ g → h' 73 j' = D (i + 1) j') → (∀ j' : Nat, j' < j → h' 72 j' = D (i + 1) j') →
      (∀ (iJ : Int) (h' : xq_H) (x8 x9 : Option xq_V), iJ = (i : Int) + 2 → P h' → (∀ j' : Nat, j' ≤ g → h' 72 j' = D (i + 1) j') → K 35 [some (xR 64), some (xI typed), some (xI other), some (xI near), some (xI st), some (xI n), some (xI g), some (xI iJ), x8, x9] [] 81 h') →
      K 109 [some (xR 64), some (xI typed), some (xI other), some (xI near), some (xI st), some (xI n), some (xI g), some (xI iI), some (xI jI), x9] [] 81 h' := by
    intro m
    induction m with
    | zero =>
      intro i j iI jI h' x9 hi hm ei ej hp h3 h2 next
      refine xq_go hK [109, 35] 60 ?_
      refine And.intro (fun c => ?_) (fun c => absurd c (by omega))
      refine And.intro (by omega) ?_
      exact next _ h' _ _ (by omega) hp (fun j' hj' => h2 j' (by omega))
    | succ m ih =>
      intro i j iI jI h' x9 hi hm ei ej hp h3 h2 next
      refine xq_go hK [109, 35] 60 ?_
      refine And.intro (fun c => absurd c (by omega)) (fun _ => ?_)
      refine And.intro (by omega) ?_
      refine And.intro (by omega) ?_
      refine And.intro (by omega) ?_
      refine ih i (j + 1) _ _ _ _ hi (by omega) ei (by omega) (P2 _ _ _ hp) (fun j' hj' => ?_) (fun j' hj' => ?_) next
      · rw [xq_u_o (by decide)]; exact h3 j' hj'
      · rw [xu_rd]
        by_cases hjj : j' = j
        · rw [if_pos (by omega), ej, hjj]; exact h3 j (by omega)
        · rw [if_neg (by omega)]; exact h2 j' (by omega)
  -- the row of one more letter
  have inner : ∀ (m : Nat) (i j : Nat) (iI jI : Int) (h' : xq_H) (x9 : Option xq_V), i < n → 1 ≤ j → j + m = g + 1 → iI = (i : Int) + 1 → jI = j → P h' → (∀ j' : Nat, j' ≤ g → h' 72 j' = D i j') → (∀ j' : Nat, j' < j → h' 73 j' = D (i + 1) j') →
      (∀ (iJ : Int) (h' : xq_H) (x8 x9 : Option xq_V), iJ = (i : Int) + 2 → P h' → (∀ j' : Nat, j' ≤ g → h' 72 j' = D (i + 1) j') → K 35 [some (xR 64), some (xI typed), some (xI other), some (xI near), some (xI st), some (xI n), some (xI g), some (xI iJ), x8, x9] [] 81 h') →
      K 47 [some (xR 64), some (xI typed), some (xI other), some (xI near), some (xI st), some (xI n), some (xI g), some (xI iI), some (xI jI), x9] [] 81 h' := by
    intro m
    induction m with
    | zero =>
      intro i j iI jI h' x9 hi hj hm ei ej hp h2 h3 next
      refine xq_go hK [47, 109, 35] 60 ?_
      refine And.intro (fun c => ?_) (fun c => absurd c (by omega))
      exact copy (g + 1) i 0 _ _ h' _ hi (by omega) ei rfl hp (fun j' hj' => h3 j' (by omega)) (fun j' hj' => by omega) next
    | succ m ih =>
      intro i j iI jI h' x9 hi hj hm ei ej hp h2 h3 next
      obtain ⟨j0, rfl⟩ : ∃ j0, j = j0 + 1 := ⟨j - 1, by omega⟩
      have v1 : h' 70 iI = xf_lt typed n i := by rw [ei]; exact hp.2.1 i hi
      have v2 : h' 71 jI = xf_lt other g j0 := by rw [show jI = (j0 : Int) + 1 by omega]; exact hp.2.2 j0 (by omega)
      have ba := xf_lt_bd ht hn hi
      have bb := xf_lt_bd ho hg (show j0 < g by omega)
      have v3 : h' 72 jI = D i (j0 + 1) := by rw [ej]; exact h2 (j0 + 1) (by omega)
      have v4 : h' 72 (jI - 1) = D i j0 := by rw [show jI - 1 = (j0 : Int) by omega]; exact h2 j0 (by omega)
      have v5 : h' 73 (jI - 1) = D (i + 1) j0 := by rw [show jI - 1 = (j0 : Int) by omega]; exact h3 j0 (by omega)
      have b1 := hD i j0
      have b2 := hD i (j0 + 1)
      have b3 := hD (i + 1) j0
      have b4 := hD (i + 1) (j0 + 1)
      have eD : D (i + 1) (j0 + 1) = min (D i j0 + xf_sw nr st (xf_lt typed n i) (xf_lt other g j0)) (min (D i (j0 + 1)) (D (i + 1) j0) + st) := by rw [← hDe]; rfl
      generalize hsw : xf_sw nr st (xf_lt typed n i) (xf_lt other g j0) = sw at eD
      have hswb : 0 ≤ sw ∧ sw ≤ 99 := by rw [← hsw]; exact xf_sw_bd hnr hst
      have tail : ∀ (s9 : Int) (x9 : Option xq_V), s9 = sw → K 78 [some (xR 64), some (xI typed), some (xI other), some (xI near), some (xI st), some (xI n), some (xI g), some (xI iI), some (xI jI), x9] [xI s9] 81 h' := by
        intro s9 x9 h9
        refine xq_go hK [47] 60 ?_
        refine And.intro (by omega) ?_
        refine And.intro (by omega) ?_
        refine And.intro (by omega) ?_
        refine And.intro (by omega) ?_
        refine And.intro (by omega) ?_
        refine And.intro (by omega) ?_
        refine ⟨lev - 1, by omega, c_M_lesser (by omega) ?_⟩
        refine And.intro (by omega) ?_
        refine ⟨lev - 1, by omega, c_M_lesser (by omega) ?_⟩
        refine And.intro (by omega) ?_
        refine And.intro (by omega) ?_
        refine ih i (j0 + 2) _ _ _ _ hi (by omega) (by omega) ei (by omega) (P3 _ _ _ hp) (fun j' hj' => ?_) (fun j' hj' => ?_) next
        · rw [xq_u_o (by decide)]; exact h2 j' hj'
        · rw [xu_rd]
          by_cases hjj : j' = j0 + 1
          · rw [if_pos (by omega), v3, v4, v5, h9, hjj, eD]
          · rw [if_neg (by omega)]; exact h3 j' (by omega)
      refine xq_go hK [78] 60 ?_
      refine And.intro (fun c => absurd c (by omega)) (fun _ => ?_)
      refine And.intro (by omega) ?_
      refine And.intro (by omega) ?_
      refine And.intro (fun c => ?_) (fun c => ?_)
      · refine And.intro (fun c2 => ?_) (fun c2 => ?_)
        · -- not near
          refine tail _ _ ?_
          have hnr0 : nr = st := by
            rw [← hnrE]
            exact if_neg (by omega)
          rw [← hsw, xf_sw, if_neg (by rw [← v1, ← v2]; exact c), hnr0]
          split <;> rfl
        · refine And.intro (by omega) ?_
          refine And.intro (by omega) ?_
          refine ⟨lev - 1, by omega, c_M_areNear (by omega) (by omega) (by omega) (fun hne => ?_) (fun hne => ?_)⟩
          · refine And.intro (fun z => absurd z (by decide)) (fun _ => ?_)
            refine ⟨lev - 1, by omega, c_M_lesser (by omega) ?_⟩
            refine tail _ _ ?_
            rw [v1, v2] at hne c
            rw [← hsw, xf_sw, if_neg c, if_pos hne, ← hnrE, if_pos (by omega)]
          · refine And.intro (fun _ => ?_) (fun z => absurd rfl z)
            refine tail _ _ ?_
            rw [v1, v2] at hne c
            rw [← hsw, xf_sw, if_neg c, if_neg hne]
      · refine tail _ _ ?_
        rw [v1, v2] at c
        rw [← hsw, xf_sw, if_pos c]
  -- letter by letter
  have outer : ∀ (m : Nat) (i : Nat) (iI : Int) (h' : xq_H) (x8 x9 : Option xq_V), i + m = n → iI = (i : Int) + 1 → P h' → (∀ j' : Nat, j' ≤ g → h' 72 j' = D i j') → K 35 [some (xR 64), some (xI typed), some (xI other), some (xI near), some (xI st), some (xI n), some (xI g), some (xI iI), x8, x9] [] 81 h' := by
    intro m
    induction m with
    | zero =>
      intro i iI h' x8 x9 hm ei hp h2
      have hin : i = n := by omega
      refine xq_go hK [35] 60 ?_
      refine And.intro (fun c => ?_) (fun c => absurd c (by omega))
      refine And.intro (by omega) ?_
      have q := hQ h' hp.1
      rw [← hin, ← h2 g (Nat.le_refl _)] at q
      exact q
    | succ m ih =>
      intro i iI h' x8 x9 hm ei hp h2
      have b2 := hD (i + 1) 0
      have eD : D (i + 1) 0 = ((i : Int) + 1) * st := by rw [← hDe]; rfl
      refine xq_go hK [35, 47] 60 ?_
      refine And.intro (fun c => absurd c (by omega)) (fun _ => ?_)
      rw [ei]
      refine And.intro (by omega) ?_
      refine And.intro (by omega) ?_
      refine inner g i 1 _ _ _ _ (by omega) (by omega) (by omega) rfl rfl (P3 _ _ _ hp) (fun j' hj' => ?_) (fun j' hj' => ?_) (fun iJ h'' x8 x9 e hp2 h2 => ih (i + 1) iJ h'' x8 x9 (by omega) (by omega) hp2 h2)
      · rw [xq_u_o (by decide)]; exact h2 j' hj'
      · rw [show j' = 0 by omega, xu_rd, if_pos (by omega), eD]
  -- the first row
  have first : ∀ (m : Nat) (j : Nat) (jI : Int) (h' : xq_H), j + m = g + 1 → jI = j → P h' → (∀ j' : Nat, j' < j → h' 72 j' = D 0 j') → K 21 [some (xR 64), some (xI typed), some (xI other), some (xI near), some (xI st), some (xI n), some (xI g), some (xI jI), none, none] [] 81 h' := by
    intro m
    induction m with
    | zero =>
      intro j jI h' hm ej hp h1
      refine xq_go hK [21, 35] 60 ?_
      refine And.intro (fun c => ?_) (fun c => absurd c (by omega))
      exact outer n 0 _ h' _ _ (by omega) rfl hp (fun j' hj' => h1 j' (by omega))
    | succ m ih =>
      intro j jI h' hm ej hp h1
      have b1 := hD 0 j
      have eD : D 0 j = (j : Int) * st := by rw [← hDe]; rfl
      refine xq_go hK [21, 35] 60 ?_
      refine And.intro (fun c => absurd c (by omega)) (fun _ => ?_)
      rw [ej]
      refine And.intro (by omega) ?_
      refine And.intro (by omega) ?_
      refine And.intro (by omega) ?_
      refine ih (j + 1) _ _ (by omega) (by omega) (P2 _ _ _ hp) (fun j' hj' => ?_)
      rw [xu_rd]
      by_cases hjj : j' = j
      · rw [if_pos (by omega), hjj, eD]
      · rw [if_neg (by omega)]; exact h1 j' (by omega)
  have start : ∀ s0 : Int, s0 = st → K 4 [some (xR 64), some (xI typed), some (xI other), some (xI near), none, none, none, none, none, none] [xI s0] 81 h := by
    intro s0 e0
    rw [e0]
    refine xq_go hK [21] 60 ?_
    refine ⟨lev - 1, by omega, c_M_size (by omega) (by omega) ?_⟩
    refine ⟨lev - 1, by omega, c_M_size (by omega) (by omega) ?_⟩
    refine ⟨lev - 1, by omega, c_M_spellsInto (Or.inl rfl) (by omega) (by omega) hn (fun h1 s1 l1 => ?_)⟩
    refine ⟨lev - 1, by omega, c_M_spellsInto (Or.inr rfl) (by omega) (by omega) hg (fun h2 s2 l2 => ?_)⟩
    rw [hn, hg]
    exact first (g + 1) 0 _ h2 (by omega) rfl ⟨xs_tr s1 s2 (by decide) (by decide), fun k hk => by rw [s2 70 (by decide)]; exact l1 k hk, l2⟩ (fun j' hj' => by omega)
  refine xq_go hK [4] 60 ?_
  refine ⟨lev - 1, by omega, c_M_tellsOf (by omega) (by omega) hh (fun e => start 10 ?_) (fun e => start _ ?_)⟩
  · rw [← hstE, xf_stp, if_pos e]
  · rw [← hstE, xf_stp, if_neg (by omega)]
