/-! COPIES OF ARRAYS (gencp.py) -/
theorem c_cp_5_26 {lev : Nat} {h : xq_H} {Q : Option xq_V → xq_H → Prop} (hl : 2 ≤ lev) (hQ : ∀ h', xs_eq [26] h h' → (∀ k : Int, 0 ≤ k → k < 8 → h' 26 k = h 5 k) → Q none h') : xq_met lev y_X_copyInts [xR 5, xR 26] 81 h Q := by
  refine en_X_copyInts (by omega) (fun K hK => ?_)
  have loop : ∀ (d i : Nat) (iI nI : Int) (h' : xq_H), i + d = 8 → iI = i → nI = 8 → xs_eq [26] h h' → (∀ k : Int, 0 ≤ k → k < i → h' 26 k = h 5 k) → K 8 [some (xR 5), some (xR 26), some (xI nI), some (xI iI)] [] 81 h' := by
    intro d
    induction d with
    | zero =>
      intro i iI nI h' hd ei en hs hall
      refine xq_go hK [8] 60 ?_
      refine And.intro (fun _ => hQ h' hs (fun k h0 h1 => hall k h0 (by omega))) (fun c => absurd c (by omega))
    | succ d ih =>
      intro i iI nI h' hd ei en hs hall
      refine xq_go hK [8] 60 ?_
      refine And.intro (fun c => absurd c (by omega)) (fun _ => ?_)
      refine And.intro (by omega) ?_
      refine And.intro (by omega) ?_
      refine And.intro (by omega) ?_
      refine ih (i + 1) _ _ _ (by omega) (by omega) en (xs_u hs (by decide) _ _) (fun k h0 h1 => ?_)
      rw [xu_rd, hs 5 (by decide)]
      by_cases hki : k = iI
      · rw [if_pos hki, hki]
      · rw [if_neg hki]
        exact hall k h0 (by omega)
  refine xq_go hK [8] 60 ?_
  refine ⟨lev - 1, by omega, c_JM_min (by omega) ?_⟩
  exact loop 8 0 _ _ h (by omega) rfl (by omega) xs_rf (fun k h0 h1 => by omega)
theorem c_cp_26_5 {lev : Nat} {h : xq_H} {Q : Option xq_V → xq_H → Prop} (hl : 2 ≤ lev) (hQ : ∀ h', xs_eq [5] h h' → (∀ k : Int, 0 ≤ k → k < 8 → h' 5 k = h 26 k) → Q none h') : xq_met lev y_X_copyInts [xR 26, xR 5] 81 h Q := by
  refine en_X_copyInts (by omega) (fun K hK => ?_)
  have loop : ∀ (d i : Nat) (iI nI : Int) (h' : xq_H), i + d = 8 → iI = i → nI = 8 → xs_eq [5] h h' → (∀ k : Int, 0 ≤ k → k < i → h' 5 k = h 26 k) → K 8 [some (xR 26), some (xR 5), some (xI nI), some (xI iI)] [] 81 h' := by
    intro d
    induction d with
    | zero =>
      intro i iI nI h' hd ei en hs hall
      refine xq_go hK [8] 60 ?_
      refine And.intro (fun _ => hQ h' hs (fun k h0 h1 => hall k h0 (by omega))) (fun c => absurd c (by omega))
    | succ d ih =>
      intro i iI nI h' hd ei en hs hall
      refine xq_go hK [8] 60 ?_
      refine And.intro (fun c => absurd c (by omega)) (fun _ => ?_)
      refine And.intro (by omega) ?_
      refine And.intro (by omega) ?_
      refine And.intro (by omega) ?_
      refine ih (i + 1) _ _ _ (by omega) (by omega) en (xs_u hs (by decide) _ _) (fun k h0 h1 => ?_)
      rw [xu_rd, hs 26 (by decide)]
      by_cases hki : k = iI
      · rw [if_pos hki, hki]
      · rw [if_neg hki]
        exact hall k h0 (by omega)
  refine xq_go hK [8] 60 ?_
  refine ⟨lev - 1, by omega, c_JM_min (by omega) ?_⟩
  exact loop 8 0 _ _ h (by omega) rfl (by omega) xs_rf (fun k h0 h1 => by omega)
theorem c_cp_4_63 {lev : Nat} {h : xq_H} {Q : Option xq_V → xq_H → Prop} (hl : 2 ≤ lev) (hQ : ∀ h', xs_eq [63] h h' → (∀ k : Int, 0 ≤ k → k < 8 → h' 63 k = h 4 k) → Q none h') : xq_met lev y_X_copyInts [xR 4, xR 63] 81 h Q := by
  refine en_X_copyInts (by omega) (fun K hK => ?_)
  have loop : ∀ (d i : Nat) (iI nI : Int) (h' : xq_H), i + d = 8 → iI = i → nI = 8 → xs_eq [63] h h' → (∀ k : Int, 0 ≤ k → k < i → h' 63 k = h 4 k) → K 8 [some (xR 4), some (xR 63), some (xI nI), some (xI iI)] [] 81 h' := by
    intro d
    induction d with
    | zero =>
      intro i iI nI h' hd ei en hs hall
      refine xq_go hK [8] 60 ?_
      refine And.intro (fun _ => hQ h' hs (fun k h0 h1 => hall k h0 (by omega))) (fun c => absurd c (by omega))
    | succ d ih =>
      intro i iI nI h' hd ei en hs hall
      refine xq_go hK [8] 60 ?_
      refine And.intro (fun c => absurd c (by omega)) (fun _ => ?_)
      refine And.intro (by omega) ?_
      refine And.intro (by omega) ?_
      refine And.intro (by omega) ?_
      refine ih (i + 1) _ _ _ (by omega) (by omega) en (xs_u hs (by decide) _ _) (fun k h0 h1 => ?_)
      rw [xu_rd, hs 4 (by decide)]
      by_cases hki : k = iI
      · rw [if_pos hki, hki]
      · rw [if_neg hki]
        exact hall k h0 (by omega)
  refine xq_go hK [8] 60 ?_
  refine ⟨lev - 1, by omega, c_JM_min (by omega) ?_⟩
  exact loop 8 0 _ _ h (by omega) rfl (by omega) xs_rf (fun k h0 h1 => by omega)
theorem c_cp_4_32 {lev : Nat} {h : xq_H} {Q : Option xq_V → xq_H → Prop} (hl : 2 ≤ lev) (hQ : ∀ h', xs_eq [32] h h' → (∀ k : Int, 0 ≤ k → k < 8 → h' 32 k = h 4 k) → Q none h') : xq_met lev y_X_copyInts [xR 4, xR 32] 81 h Q := by
  refine en_X_copyInts (by omega) (fun K hK => ?_)
  have loop : ∀ (d i : Nat) (iI nI : Int) (h' : xq_H), i + d = 8 → iI = i → nI = 8 → xs_eq [32] h h' → (∀ k : Int, 0 ≤ k → k < i → h' 32 k = h 4 k) → K 8 [some (xR 4), some (xR 32), some (xI nI), some (xI iI)] [] 81 h' := by
    intro d
    induction d with
    | zero =>
      intro i iI nI h' hd ei en hs hall
      refine xq_go hK [8] 60 ?_
      refine And.intro (fun _ => hQ h' hs (fun k h0 h1 => hall k h0 (by omega))) (fun c => absurd c (by omega))
    | succ d ih =>
      intro i iI nI h' hd ei en hs hall
      refine xq_go hK [8] 60 ?_
      refine And.intro (fun c => absurd c (by omega)) (fun _ => ?_)
      refine And.intro (by omega) ?_
      refine And.intro (by omega) ?_
      refine And.intro (by omega) ?_
      refine ih (i + 1) _ _ _ (by omega) (by omega) en (xs_u hs (by decide) _ _) (fun k h0 h1 => ?_)
      rw [xu_rd, hs 4 (by decide)]
      by_cases hki : k = iI
      · rw [if_pos hki, hki]
      · rw [if_neg hki]
        exact hall k h0 (by omega)
  refine xq_go hK [8] 60 ?_
  refine ⟨lev - 1, by omega, c_JM_min (by omega) ?_⟩
  exact loop 8 0 _ _ h (by omega) rfl (by omega) xs_rf (fun k h0 h1 => by omega)
theorem c_cp_32_4 {lev : Nat} {h : xq_H} {Q : Option xq_V → xq_H → Prop} (hl : 2 ≤ lev) (hQ : ∀ h', xs_eq [4] h h' → (∀ k : Int, 0 ≤ k → k < 8 → h' 4 k = h 32 k) → Q none h') : xq_met lev y_X_copyInts [xR 32, xR 4] 81 h Q := by
  refine en_X_copyInts (by omega) (fun K hK => ?_)
  have loop : ∀ (d i : Nat) (iI nI : Int) (h' : xq_H), i + d = 8 → iI = i → nI = 8 → xs_eq [4] h h' → (∀ k : Int, 0 ≤ k → k < i → h' 4 k = h 32 k) → K 8 [some (xR 32), some (xR 4), some (xI nI), some (xI iI)] [] 81 h' := by
    intro d
    induction d with
    | zero =>
      intro i iI nI h' hd ei en hs hall
      refine xq_go hK [8] 60 ?_
      refine And.intro (fun _ => hQ h' hs (fun k h0 h1 => hall k h0 (by omega))) (fun c => absurd c (by omega))
    | succ d ih =>
      intro i iI nI h' hd ei en hs hall
      refine xq_go hK [8] 60 ?_
      refine And.intro (fun c => absurd c (by omega)) (fun _ => ?_)
      refine And.intro (by omega) ?_
      refine And.intro (by omega) ?_
      refine And.intro (by omega) ?_
      refine ih (i + 1) _ _ _ (by omega) (by omega) en (xs_u hs (by decide) _ _) (fun k h0 h1 => ?_)
      rw [xu_rd, hs 32 (by decide)]
      by_cases hki : k = iI
      · rw [if_pos hki, hki]
      · rw [if_neg hki]
        exact hall k h0 (by omega)
  refine xq_go hK [8] 60 ?_
  refine ⟨lev - 1, by omega, c_JM_min (by omega) ?_⟩
  exact loop 8 0 _ _ h (by omega) rfl (by omega) xs_rf (fun k h0 h1 => by omega)
theorem c_cp_5_33 {lev : Nat} {h : xq_H} {Q : Option xq_V → xq_H → Prop} (hl : 2 ≤ lev) (hQ : ∀ h', xs_eq [33] h h' → (∀ k : Int, 0 ≤ k → k < 8 → h' 33 k = h 5 k) → Q none h') : xq_met lev y_X_copyInts [xR 5, xR 33] 81 h Q := by
  refine en_X_copyInts (by omega) (fun K hK => ?_)
  have loop : ∀ (d i : Nat) (iI nI : Int) (h' : xq_H), i + d = 8 → iI = i → nI = 8 → xs_eq [33] h h' → (∀ k : Int, 0 ≤ k → k < i → h' 33 k = h 5 k) → K 8 [some (xR 5), some (xR 33), some (xI nI), some (xI iI)] [] 81 h' := by
    intro d
    induction d with
    | zero =>
      intro i iI nI h' hd ei en hs hall
      refine xq_go hK [8] 60 ?_
      refine And.intro (fun _ => hQ h' hs (fun k h0 h1 => hall k h0 (by omega))) (fun c => absurd c (by omega))
    | succ d ih =>
      intro i iI nI h' hd ei en hs hall
      refine xq_go hK [8] 60 ?_
      refine And.intro (fun c => absurd c (by omega)) (fun _ => ?_)
      refine And.intro (by omega) ?_
      refine And.intro (by omega) ?_
      refine And.intro (by omega) ?_
      refine ih (i + 1) _ _ _ (by omega) (by omega) en (xs_u hs (by decide) _ _) (fun k h0 h1 => ?_)
      rw [xu_rd, hs 5 (by decide)]
      by_cases hki : k = iI
      · rw [if_pos hki, hki]
      · rw [if_neg hki]
        exact hall k h0 (by omega)
  refine xq_go hK [8] 60 ?_
  refine ⟨lev - 1, by omega, c_JM_min (by omega) ?_⟩
  exact loop 8 0 _ _ h (by omega) rfl (by omega) xs_rf (fun k h0 h1 => by omega)
theorem c_cp_33_5 {lev : Nat} {h : xq_H} {Q : Option xq_V → xq_H → Prop} (hl : 2 ≤ lev) (hQ : ∀ h', xs_eq [5] h h' → (∀ k : Int, 0 ≤ k → k < 8 → h' 5 k = h 33 k) → Q none h') : xq_met lev y_X_copyInts [xR 33, xR 5] 81 h Q := by
  refine en_X_copyInts (by omega) (fun K hK => ?_)
  have loop : ∀ (d i : Nat) (iI nI : Int) (h' : xq_H), i + d = 8 → iI = i → nI = 8 → xs_eq [5] h h' → (∀ k : Int, 0 ≤ k → k < i → h' 5 k = h 33 k) → K 8 [some (xR 33), some (xR 5), some (xI nI), some (xI iI)] [] 81 h' := by
    intro d
    induction d with
    | zero =>
      intro i iI nI h' hd ei en hs hall
      refine xq_go hK [8] 60 ?_
      refine And.intro (fun _ => hQ h' hs (fun k h0 h1 => hall k h0 (by omega))) (fun c => absurd c (by omega))
    | succ d ih =>
      intro i iI nI h' hd ei en hs hall
      refine xq_go hK [8] 60 ?_
      refine And.intro (fun c => absurd c (by omega)) (fun _ => ?_)
      refine And.intro (by omega) ?_
      refine And.intro (by omega) ?_
      refine And.intro (by omega) ?_
      refine ih (i + 1) _ _ _ (by omega) (by omega) en (xs_u hs (by decide) _ _) (fun k h0 h1 => ?_)
      rw [xu_rd, hs 33 (by decide)]
      by_cases hki : k = iI
      · rw [if_pos hki, hki]
      · rw [if_neg hki]
        exact hall k h0 (by omega)
  refine xq_go hK [8] 60 ?_
  refine ⟨lev - 1, by omega, c_JM_min (by omega) ?_⟩
  exact loop 8 0 _ _ h (by omega) rfl (by omega) xs_rf (fun k h0 h1 => by omega)
theorem c_cp_6_34 {lev : Nat} {h : xq_H} {Q : Option xq_V → xq_H → Prop} (hl : 2 ≤ lev) (hQ : ∀ h', xs_eq [34] h h' → (∀ k : Int, 0 ≤ k → k < 8 → h' 34 k = h 6 k) → Q none h') : xq_met lev y_X_copyInts [xR 6, xR 34] 81 h Q := by
  refine en_X_copyInts (by omega) (fun K hK => ?_)
  have loop : ∀ (d i : Nat) (iI nI : Int) (h' : xq_H), i + d = 8 → iI = i → nI = 8 → xs_eq [34] h h' → (∀ k : Int, 0 ≤ k → k < i → h' 34 k = h 6 k) → K 8 [some (xR 6), some (xR 34), some (xI nI), some (xI iI)] [] 81 h' := by
    intro d
    induction d with
    | zero =>
      intro i iI nI h' hd ei en hs hall
      refine xq_go hK [8] 60 ?_
      refine And.intro (fun _ => hQ h' hs (fun k h0 h1 => hall k h0 (by omega))) (fun c => absurd c (by omega))
    | succ d ih =>
      intro i iI nI h' hd ei en hs hall
      refine xq_go hK [8] 60 ?_
      refine And.intro (fun c => absurd c (by omega)) (fun _ => ?_)
      refine And.intro (by omega) ?_
      refine And.intro (by omega) ?_
      refine And.intro (by omega) ?_
      refine ih (i + 1) _ _ _ (by omega) (by omega) en (xs_u hs (by decide) _ _) (fun k h0 h1 => ?_)
      rw [xu_rd, hs 6 (by decide)]
      by_cases hki : k = iI
      · rw [if_pos hki, hki]
      · rw [if_neg hki]
        exact hall k h0 (by omega)
  refine xq_go hK [8] 60 ?_
  refine ⟨lev - 1, by omega, c_JM_min (by omega) ?_⟩
  exact loop 8 0 _ _ h (by omega) rfl (by omega) xs_rf (fun k h0 h1 => by omega)
theorem c_cp_34_6 {lev : Nat} {h : xq_H} {Q : Option xq_V → xq_H → Prop} (hl : 2 ≤ lev) (hQ : ∀ h', xs_eq [6] h h' → (∀ k : Int, 0 ≤ k → k < 8 → h' 6 k = h 34 k) → Q none h') : xq_met lev y_X_copyInts [xR 34, xR 6] 81 h Q := by
  refine en_X_copyInts (by omega) (fun K hK => ?_)
  have loop : ∀ (d i : Nat) (iI nI : Int) (h' : xq_H), i + d = 8 → iI = i → nI = 8 → xs_eq [6] h h' → (∀ k : Int, 0 ≤ k → k < i → h' 6 k = h 34 k) → K 8 [some (xR 34), some (xR 6), some (xI nI), some (xI iI)] [] 81 h' := by
    intro d
    induction d with
    | zero =>
      intro i iI nI h' hd ei en hs hall
      refine xq_go hK [8] 60 ?_
      refine And.intro (fun _ => hQ h' hs (fun k h0 h1 => hall k h0 (by omega))) (fun c => absurd c (by omega))
    | succ d ih =>
      intro i iI nI h' hd ei en hs hall
      refine xq_go hK [8] 60 ?_
      refine And.intro (fun c => absurd c (by omega)) (fun _ => ?_)
      refine And.intro (by omega) ?_
      refine And.intro (by omega) ?_
      refine And.intro (by omega) ?_
      refine ih (i + 1) _ _ _ (by omega) (by omega) en (xs_u hs (by decide) _ _) (fun k h0 h1 => ?_)
      rw [xu_rd, hs 34 (by decide)]
      by_cases hki : k = iI
      · rw [if_pos hki, hki]
      · rw [if_neg hki]
        exact hall k h0 (by omega)
  refine xq_go hK [8] 60 ?_
  refine ⟨lev - 1, by omega, c_JM_min (by omega) ?_⟩
  exact loop 8 0 _ _ h (by omega) rfl (by omega) xs_rf (fun k h0 h1 => by omega)
theorem c_cp_7_35 {lev : Nat} {h : xq_H} {Q : Option xq_V → xq_H → Prop} (hl : 2 ≤ lev) (hQ : ∀ h', xs_eq [35] h h' → (∀ k : Int, 0 ≤ k → k < 8 → h' 35 k = h 7 k) → Q none h') : xq_met lev y_X_copyInts [xR 7, xR 35] 81 h Q := by
  refine en_X_copyInts (by omega) (fun K hK => ?_)
  have loop : ∀ (d i : Nat) (iI nI : Int) (h' : xq_H), i + d = 8 → iI = i → nI = 8 → xs_eq [35] h h' → (∀ k : Int, 0 ≤ k → k < i → h' 35 k = h 7 k) → K 8 [some (xR 7), some (xR 35), some (xI nI), some (xI iI)] [] 81 h' := by
    intro d
    induction d with
    | zero =>
      intro i iI nI h' hd ei en hs hall
      refine xq_go hK [8] 60 ?_
      refine And.intro (fun _ => hQ h' hs (fun k h0 h1 => hall k h0 (by omega))) (fun c => absurd c (by omega))
    | succ d ih =>
      intro i iI nI h' hd ei en hs hall
      refine xq_go hK [8] 60 ?_
      refine And.intro (fun c => absurd c (by omega)) (fun _ => ?_)
      refine And.intro (by omega) ?_
      refine And.intro (by omega) ?_
      refine And.intro (by omega) ?_
      refine ih (i + 1) _ _ _ (by omega) (by omega) en (xs_u hs (by decide) _ _) (fun k h0 h1 => ?_)
      rw [xu_rd, hs 7 (by decide)]
      by_cases hki : k = iI
      · rw [if_pos hki, hki]
      · rw [if_neg hki]
        exact hall k h0 (by omega)
  refine xq_go hK [8] 60 ?_
  refine ⟨lev - 1, by omega, c_JM_min (by omega) ?_⟩
  exact loop 8 0 _ _ h (by omega) rfl (by omega) xs_rf (fun k h0 h1 => by omega)
theorem c_cp_35_7 {lev : Nat} {h : xq_H} {Q : Option xq_V → xq_H → Prop} (hl : 2 ≤ lev) (hQ : ∀ h', xs_eq [7] h h' → (∀ k : Int, 0 ≤ k → k < 8 → h' 7 k = h 35 k) → Q none h') : xq_met lev y_X_copyInts [xR 35, xR 7] 81 h Q := by
  refine en_X_copyInts (by omega) (fun K hK => ?_)
  have loop : ∀ (d i : Nat) (iI nI : Int) (h' : xq_H), i + d = 8 → iI = i → nI = 8 → xs_eq [7] h h' → (∀ k : Int, 0 ≤ k → k < i → h' 7 k = h 35 k) → K 8 [some (xR 35), some (xR 7), some (xI nI), some (xI iI)] [] 81 h' := by
    intro d
    induction d with
    | zero =>
      intro i iI nI h' hd ei en hs hall
      refine xq_go hK [8] 60 ?_
      refine And.intro (fun _ => hQ h' hs (fun k h0 h1 => hall k h0 (by omega))) (fun c => absurd c (by omega))
    | succ d ih =>
      intro i iI nI h' hd ei en hs hall
      refine xq_go hK [8] 60 ?_
      refine And.intro (fun c => absurd c (by omega)) (fun _ => ?_)
      refine And.intro (by omega) ?_
      refine And.intro (by omega) ?_
      refine And.intro (by omega) ?_
      refine ih (i + 1) _ _ _ (by omega) (by omega) en (xs_u hs (by decide) _ _) (fun k h0 h1 => ?_)
      rw [xu_rd, hs 35 (by decide)]
      by_cases hki : k = iI
      · rw [if_pos hki, hki]
      · rw [if_neg hki]
        exact hall k h0 (by omega)
  refine xq_go hK [8] 60 ?_
  refine ⟨lev - 1, by omega, c_JM_min (by omega) ?_⟩
  exact loop 8 0 _ _ h (by omega) rfl (by omega) xs_rf (fun k h0 h1 => by omega)
theorem c_cp_8_36 {lev : Nat} {h : xq_H} {Q : Option xq_V → xq_H → Prop} (hl : 2 ≤ lev) (hQ : ∀ h', xs_eq [36] h h' → (∀ k : Int, 0 ≤ k → k < 40 → h' 36 k = h 8 k) → Q none h') : xq_met lev y_X_copyInts [xR 8, xR 36] 81 h Q := by
  refine en_X_copyInts (by omega) (fun K hK => ?_)
  have loop : ∀ (d i : Nat) (iI nI : Int) (h' : xq_H), i + d = 40 → iI = i → nI = 40 → xs_eq [36] h h' → (∀ k : Int, 0 ≤ k → k < i → h' 36 k = h 8 k) → K 8 [some (xR 8), some (xR 36), some (xI nI), some (xI iI)] [] 81 h' := by
    intro d
    induction d with
    | zero =>
      intro i iI nI h' hd ei en hs hall
      refine xq_go hK [8] 60 ?_
      refine And.intro (fun _ => hQ h' hs (fun k h0 h1 => hall k h0 (by omega))) (fun c => absurd c (by omega))
    | succ d ih =>
      intro i iI nI h' hd ei en hs hall
      refine xq_go hK [8] 60 ?_
      refine And.intro (fun c => absurd c (by omega)) (fun _ => ?_)
      refine And.intro (by omega) ?_
      refine And.intro (by omega) ?_
      refine And.intro (by omega) ?_
      refine ih (i + 1) _ _ _ (by omega) (by omega) en (xs_u hs (by decide) _ _) (fun k h0 h1 => ?_)
      rw [xu_rd, hs 8 (by decide)]
      by_cases hki : k = iI
      · rw [if_pos hki, hki]
      · rw [if_neg hki]
        exact hall k h0 (by omega)
  refine xq_go hK [8] 60 ?_
  refine ⟨lev - 1, by omega, c_JM_min (by omega) ?_⟩
  exact loop 40 0 _ _ h (by omega) rfl (by omega) xs_rf (fun k h0 h1 => by omega)
theorem c_cp_36_8 {lev : Nat} {h : xq_H} {Q : Option xq_V → xq_H → Prop} (hl : 2 ≤ lev) (hQ : ∀ h', xs_eq [8] h h' → (∀ k : Int, 0 ≤ k → k < 40 → h' 8 k = h 36 k) → Q none h') : xq_met lev y_X_copyInts [xR 36, xR 8] 81 h Q := by
  refine en_X_copyInts (by omega) (fun K hK => ?_)
  have loop : ∀ (d i : Nat) (iI nI : Int) (h' : xq_H), i + d = 40 → iI = i → nI = 40 → xs_eq [8] h h' → (∀ k : Int, 0 ≤ k → k < i → h' 8 k = h 36 k) → K 8 [some (xR 36), some (xR 8), some (xI nI), some (xI iI)] [] 81 h' := by
    intro d
    induction d with
    | zero =>
      intro i iI nI h' hd ei en hs hall
      refine xq_go hK [8] 60 ?_
      refine And.intro (fun _ => hQ h' hs (fun k h0 h1 => hall k h0 (by omega))) (fun c => absurd c (by omega))
    | succ d ih =>
      intro i iI nI h' hd ei en hs hall
      refine xq_go hK [8] 60 ?_
      refine And.intro (fun c => absurd c (by omega)) (fun _ => ?_)
      refine And.intro (by omega) ?_
      refine And.intro (by omega) ?_
      refine And.intro (by omega) ?_
      refine ih (i + 1) _ _ _ (by omega) (by omega) en (xs_u hs (by decide) _ _) (fun k h0 h1 => ?_)
      rw [xu_rd, hs 36 (by decide)]
      by_cases hki : k = iI
      · rw [if_pos hki, hki]
      · rw [if_neg hki]
        exact hall k h0 (by omega)
  refine xq_go hK [8] 60 ?_
  refine ⟨lev - 1, by omega, c_JM_min (by omega) ?_⟩
  exact loop 40 0 _ _ h (by omega) rfl (by omega) xs_rf (fun k h0 h1 => by omega)
theorem c_cp_10_38 {lev : Nat} {h : xq_H} {Q : Option xq_V → xq_H → Prop} (hl : 2 ≤ lev) (hQ : ∀ h', xs_eq [38] h h' → (∀ k : Int, 0 ≤ k → k < 5 → h' 38 k = h 10 k) → Q none h') : xq_met lev y_X_copyInts [xR 10, xR 38] 81 h Q := by
  refine en_X_copyInts (by omega) (fun K hK => ?_)
  have loop : ∀ (d i : Nat) (iI nI : Int) (h' : xq_H), i + d = 5 → iI = i → nI = 5 → xs_eq [38] h h' → (∀ k : Int, 0 ≤ k → k < i → h' 38 k = h 10 k) → K 8 [some (xR 10), some (xR 38), some (xI nI), some (xI iI)] [] 81 h' := by
    intro d
    induction d with
    | zero =>
      intro i iI nI h' hd ei en hs hall
      refine xq_go hK [8] 60 ?_
      refine And.intro (fun _ => hQ h' hs (fun k h0 h1 => hall k h0 (by omega))) (fun c => absurd c (by omega))
    | succ d ih =>
      intro i iI nI h' hd ei en hs hall
      refine xq_go hK [8] 60 ?_
      refine And.intro (fun c => absurd c (by omega)) (fun _ => ?_)
      refine And.intro (by omega) ?_
      refine And.intro (by omega) ?_
      refine And.intro (by omega) ?_
      refine ih (i + 1) _ _ _ (by omega) (by omega) en (xs_u hs (by decide) _ _) (fun k h0 h1 => ?_)
      rw [xu_rd, hs 10 (by decide)]
      by_cases hki : k = iI
      · rw [if_pos hki, hki]
      · rw [if_neg hki]
        exact hall k h0 (by omega)
  refine xq_go hK [8] 60 ?_
  refine ⟨lev - 1, by omega, c_JM_min (by omega) ?_⟩
  exact loop 5 0 _ _ h (by omega) rfl (by omega) xs_rf (fun k h0 h1 => by omega)
theorem c_cp_38_10 {lev : Nat} {h : xq_H} {Q : Option xq_V → xq_H → Prop} (hl : 2 ≤ lev) (hQ : ∀ h', xs_eq [10] h h' → (∀ k : Int, 0 ≤ k → k < 5 → h' 10 k = h 38 k) → Q none h') : xq_met lev y_X_copyInts [xR 38, xR 10] 81 h Q := by
  refine en_X_copyInts (by omega) (fun K hK => ?_)
  have loop : ∀ (d i : Nat) (iI nI : Int) (h' : xq_H), i + d = 5 → iI = i → nI = 5 → xs_eq [10] h h' → (∀ k : Int, 0 ≤ k → k < i → h' 10 k = h 38 k) → K 8 [some (xR 38), some (xR 10), some (xI nI), some (xI iI)] [] 81 h' := by
    intro d
    induction d with
    | zero =>
      intro i iI nI h' hd ei en hs hall
      refine xq_go hK [8] 60 ?_
      refine And.intro (fun _ => hQ h' hs (fun k h0 h1 => hall k h0 (by omega))) (fun c => absurd c (by omega))
    | succ d ih =>
      intro i iI nI h' hd ei en hs hall
      refine xq_go hK [8] 60 ?_
      refine And.intro (fun c => absurd c (by omega)) (fun _ => ?_)
      refine And.intro (by omega) ?_
      refine And.intro (by omega) ?_
      refine And.intro (by omega) ?_
      refine ih (i + 1) _ _ _ (by omega) (by omega) en (xs_u hs (by decide) _ _) (fun k h0 h1 => ?_)
      rw [xu_rd, hs 38 (by decide)]
      by_cases hki : k = iI
      · rw [if_pos hki, hki]
      · rw [if_neg hki]
        exact hall k h0 (by omega)
  refine xq_go hK [8] 60 ?_
  refine ⟨lev - 1, by omega, c_JM_min (by omega) ?_⟩
  exact loop 5 0 _ _ h (by omega) rfl (by omega) xs_rf (fun k h0 h1 => by omega)
theorem c_cp_11_39 {lev : Nat} {h : xq_H} {Q : Option xq_V → xq_H → Prop} (hl : 2 ≤ lev) (hQ : ∀ h', xs_eq [39] h h' → (∀ k : Int, 0 ≤ k → k < 5 → h' 39 k = h 11 k) → Q none h') : xq_met lev y_X_copyInts [xR 11, xR 39] 81 h Q := by
  refine en_X_copyInts (by omega) (fun K hK => ?_)
  have loop : ∀ (d i : Nat) (iI nI : Int) (h' : xq_H), i + d = 5 → iI = i → nI = 5 → xs_eq [39] h h' → (∀ k : Int, 0 ≤ k → k < i → h' 39 k = h 11 k) → K 8 [some (xR 11), some (xR 39), some (xI nI), some (xI iI)] [] 81 h' := by
    intro d
    induction d with
    | zero =>
      intro i iI nI h' hd ei en hs hall
      refine xq_go hK [8] 60 ?_
      refine And.intro (fun _ => hQ h' hs (fun k h0 h1 => hall k h0 (by omega))) (fun c => absurd c (by omega))
    | succ d ih =>
      intro i iI nI h' hd ei en hs hall
      refine xq_go hK [8] 60 ?_
      refine And.intro (fun c => absurd c (by omega)) (fun _ => ?_)
      refine And.intro (by omega) ?_
      refine And.intro (by omega) ?_
      refine And.intro (by omega) ?_
      refine ih (i + 1) _ _ _ (by omega) (by omega) en (xs_u hs (by decide) _ _) (fun k h0 h1 => ?_)
      rw [xu_rd, hs 11 (by decide)]
      by_cases hki : k = iI
      · rw [if_pos hki, hki]
      · rw [if_neg hki]
        exact hall k h0 (by omega)
  refine xq_go hK [8] 60 ?_
  refine ⟨lev - 1, by omega, c_JM_min (by omega) ?_⟩
  exact loop 5 0 _ _ h (by omega) rfl (by omega) xs_rf (fun k h0 h1 => by omega)
theorem c_cp_39_11 {lev : Nat} {h : xq_H} {Q : Option xq_V → xq_H → Prop} (hl : 2 ≤ lev) (hQ : ∀ h', xs_eq [11] h h' → (∀ k : Int, 0 ≤ k → k < 5 → h' 11 k = h 39 k) → Q none h') : xq_met lev y_X_copyInts [xR 39, xR 11] 81 h Q := by
  refine en_X_copyInts (by omega) (fun K hK => ?_)
  have loop : ∀ (d i : Nat) (iI nI : Int) (h' : xq_H), i + d = 5 → iI = i → nI = 5 → xs_eq [11] h h' → (∀ k : Int, 0 ≤ k → k < i → h' 11 k = h 39 k) → K 8 [some (xR 39), some (xR 11), some (xI nI), some (xI iI)] [] 81 h' := by
    intro d
    induction d with
    | zero =>
      intro i iI nI h' hd ei en hs hall
      refine xq_go hK [8] 60 ?_
      refine And.intro (fun _ => hQ h' hs (fun k h0 h1 => hall k h0 (by omega))) (fun c => absurd c (by omega))
    | succ d ih =>
      intro i iI nI h' hd ei en hs hall
      refine xq_go hK [8] 60 ?_
      refine And.intro (fun c => absurd c (by omega)) (fun _ => ?_)
      refine And.intro (by omega) ?_
      refine And.intro (by omega) ?_
      refine And.intro (by omega) ?_
      refine ih (i + 1) _ _ _ (by omega) (by omega) en (xs_u hs (by decide) _ _) (fun k h0 h1 => ?_)
      rw [xu_rd, hs 39 (by decide)]
      by_cases hki : k = iI
      · rw [if_pos hki, hki]
      · rw [if_neg hki]
        exact hall k h0 (by omega)
  refine xq_go hK [8] 60 ?_
  refine ⟨lev - 1, by omega, c_JM_min (by omega) ?_⟩
  exact loop 5 0 _ _ h (by omega) rfl (by omega) xs_rf (fun k h0 h1 => by omega)
theorem c_cp_12_40 {lev : Nat} {h : xq_H} {Q : Option xq_V → xq_H → Prop} (hl : 2 ≤ lev) (hQ : ∀ h', xs_eq [40] h h' → (∀ k : Int, 0 ≤ k → k < 20 → h' 40 k = h 12 k) → Q none h') : xq_met lev y_X_copyInts [xR 12, xR 40] 81 h Q := by
  refine en_X_copyInts (by omega) (fun K hK => ?_)
  have loop : ∀ (d i : Nat) (iI nI : Int) (h' : xq_H), i + d = 20 → iI = i → nI = 20 → xs_eq [40] h h' → (∀ k : Int, 0 ≤ k → k < i → h' 40 k = h 12 k) → K 8 [some (xR 12), some (xR 40), some (xI nI), some (xI iI)] [] 81 h' := by
    intro d
    induction d with
    | zero =>
      intro i iI nI h' hd ei en hs hall
      refine xq_go hK [8] 60 ?_
      refine And.intro (fun _ => hQ h' hs (fun k h0 h1 => hall k h0 (by omega))) (fun c => absurd c (by omega))
    | succ d ih =>
      intro i iI nI h' hd ei en hs hall
      refine xq_go hK [8] 60 ?_
      refine And.intro (fun c => absurd c (by omega)) (fun _ => ?_)
      refine And.intro (by omega) ?_
      refine And.intro (by omega) ?_
      refine And.intro (by omega) ?_
      refine ih (i + 1) _ _ _ (by omega) (by omega) en (xs_u hs (by decide) _ _) (fun k h0 h1 => ?_)
      rw [xu_rd, hs 12 (by decide)]
      by_cases hki : k = iI
      · rw [if_pos hki, hki]
      · rw [if_neg hki]
        exact hall k h0 (by omega)
  refine xq_go hK [8] 60 ?_
  refine ⟨lev - 1, by omega, c_JM_min (by omega) ?_⟩
  exact loop 20 0 _ _ h (by omega) rfl (by omega) xs_rf (fun k h0 h1 => by omega)
theorem c_cp_40_12 {lev : Nat} {h : xq_H} {Q : Option xq_V → xq_H → Prop} (hl : 2 ≤ lev) (hQ : ∀ h', xs_eq [12] h h' → (∀ k : Int, 0 ≤ k → k < 20 → h' 12 k = h 40 k) → Q none h') : xq_met lev y_X_copyInts [xR 40, xR 12] 81 h Q := by
  refine en_X_copyInts (by omega) (fun K hK => ?_)
  have loop : ∀ (d i : Nat) (iI nI : Int) (h' : xq_H), i + d = 20 → iI = i → nI = 20 → xs_eq [12] h h' → (∀ k : Int, 0 ≤ k → k < i → h' 12 k = h 40 k) → K 8 [some (xR 40), some (xR 12), some (xI nI), some (xI iI)] [] 81 h' := by
    intro d
    induction d with
    | zero =>
      intro i iI nI h' hd ei en hs hall
      refine xq_go hK [8] 60 ?_
      refine And.intro (fun _ => hQ h' hs (fun k h0 h1 => hall k h0 (by omega))) (fun c => absurd c (by omega))
    | succ d ih =>
      intro i iI nI h' hd ei en hs hall
      refine xq_go hK [8] 60 ?_
      refine And.intro (fun c => absurd c (by omega)) (fun _ => ?_)
      refine And.intro (by omega) ?_
      refine And.intro (by omega) ?_
      refine And.intro (by omega) ?_
      refine ih (i + 1) _ _ _ (by omega) (by omega) en (xs_u hs (by decide) _ _) (fun k h0 h1 => ?_)
      rw [xu_rd, hs 40 (by decide)]
      by_cases hki : k = iI
      · rw [if_pos hki, hki]
      · rw [if_neg hki]
        exact hall k h0 (by omega)
  refine xq_go hK [8] 60 ?_
  refine ⟨lev - 1, by omega, c_JM_min (by omega) ?_⟩
  exact loop 20 0 _ _ h (by omega) rfl (by omega) xs_rf (fun k h0 h1 => by omega)
theorem c_cp_14_42 {lev : Nat} {h : xq_H} {Q : Option xq_V → xq_H → Prop} (hl : 2 ≤ lev) (hQ : ∀ h', xs_eq [42] h h' → (∀ k : Int, 0 ≤ k → k < 20 → h' 42 k = h 14 k) → Q none h') : xq_met lev y_X_copyInts [xR 14, xR 42] 81 h Q := by
  refine en_X_copyInts (by omega) (fun K hK => ?_)
  have loop : ∀ (d i : Nat) (iI nI : Int) (h' : xq_H), i + d = 20 → iI = i → nI = 20 → xs_eq [42] h h' → (∀ k : Int, 0 ≤ k → k < i → h' 42 k = h 14 k) → K 8 [some (xR 14), some (xR 42), some (xI nI), some (xI iI)] [] 81 h' := by
    intro d
    induction d with
    | zero =>
      intro i iI nI h' hd ei en hs hall
      refine xq_go hK [8] 60 ?_
      refine And.intro (fun _ => hQ h' hs (fun k h0 h1 => hall k h0 (by omega))) (fun c => absurd c (by omega))
    | succ d ih =>
      intro i iI nI h' hd ei en hs hall
      refine xq_go hK [8] 60 ?_
      refine And.intro (fun c => absurd c (by omega)) (fun _ => ?_)
      refine And.intro (by omega) ?_
      refine And.intro (by omega) ?_
      refine And.intro (by omega) ?_
      refine ih (i + 1) _ _ _ (by omega) (by omega) en (xs_u hs (by decide) _ _) (fun k h0 h1 => ?_)
      rw [xu_rd, hs 14 (by decide)]
      by_cases hki : k = iI
      · rw [if_pos hki, hki]
      · rw [if_neg hki]
        exact hall k h0 (by omega)
  refine xq_go hK [8] 60 ?_
  refine ⟨lev - 1, by omega, c_JM_min (by omega) ?_⟩
  exact loop 20 0 _ _ h (by omega) rfl (by omega) xs_rf (fun k h0 h1 => by omega)
theorem c_cp_42_14 {lev : Nat} {h : xq_H} {Q : Option xq_V → xq_H → Prop} (hl : 2 ≤ lev) (hQ : ∀ h', xs_eq [14] h h' → (∀ k : Int, 0 ≤ k → k < 20 → h' 14 k = h 42 k) → Q none h') : xq_met lev y_X_copyInts [xR 42, xR 14] 81 h Q := by
  refine en_X_copyInts (by omega) (fun K hK => ?_)
  have loop : ∀ (d i : Nat) (iI nI : Int) (h' : xq_H), i + d = 20 → iI = i → nI = 20 → xs_eq [14] h h' → (∀ k : Int, 0 ≤ k → k < i → h' 14 k = h 42 k) → K 8 [some (xR 42), some (xR 14), some (xI nI), some (xI iI)] [] 81 h' := by
    intro d
    induction d with
    | zero =>
      intro i iI nI h' hd ei en hs hall
      refine xq_go hK [8] 60 ?_
      refine And.intro (fun _ => hQ h' hs (fun k h0 h1 => hall k h0 (by omega))) (fun c => absurd c (by omega))
    | succ d ih =>
      intro i iI nI h' hd ei en hs hall
      refine xq_go hK [8] 60 ?_
      refine And.intro (fun c => absurd c (by omega)) (fun _ => ?_)
      refine And.intro (by omega) ?_
      refine And.intro (by omega) ?_
      refine And.intro (by omega) ?_
      refine ih (i + 1) _ _ _ (by omega) (by omega) en (xs_u hs (by decide) _ _) (fun k h0 h1 => ?_)
      rw [xu_rd, hs 42 (by decide)]
      by_cases hki : k = iI
      · rw [if_pos hki, hki]
      · rw [if_neg hki]
        exact hall k h0 (by omega)
  refine xq_go hK [8] 60 ?_
  refine ⟨lev - 1, by omega, c_JM_min (by omega) ?_⟩
  exact loop 20 0 _ _ h (by omega) rfl (by omega) xs_rf (fun k h0 h1 => by omega)
theorem c_cp_15_43 {lev : Nat} {h : xq_H} {Q : Option xq_V → xq_H → Prop} (hl : 2 ≤ lev) (hQ : ∀ h', xs_eq [43] h h' → (∀ k : Int, 0 ≤ k → k < 20 → h' 43 k = h 15 k) → Q none h') : xq_met lev y_X_copyInts [xR 15, xR 43] 81 h Q := by
  refine en_X_copyInts (by omega) (fun K hK => ?_)
  have loop : ∀ (d i : Nat) (iI nI : Int) (h' : xq_H), i + d = 20 → iI = i → nI = 20 → xs_eq [43] h h' → (∀ k : Int, 0 ≤ k → k < i → h' 43 k = h 15 k) → K 8 [some (xR 15), some (xR 43), some (xI nI), some (xI iI)] [] 81 h' := by
    intro d
    induction d with
    | zero =>
      intro i iI nI h' hd ei en hs hall
      refine xq_go hK [8] 60 ?_
      refine And.intro (fun _ => hQ h' hs (fun k h0 h1 => hall k h0 (by omega))) (fun c => absurd c (by omega))
    | succ d ih =>
      intro i iI nI h' hd ei en hs hall
      refine xq_go hK [8] 60 ?_
      refine And.intro (fun c => absurd c (by omega)) (fun _ => ?_)
      refine And.intro (by omega) ?_
      refine And.intro (by omega) ?_
      refine And.intro (by omega) ?_
      refine ih (i + 1) _ _ _ (by omega) (by omega) en (xs_u hs (by decide) _ _) (fun k h0 h1 => ?_)
      rw [xu_rd, hs 15 (by decide)]
      by_cases hki : k = iI
      · rw [if_pos hki, hki]
      · rw [if_neg hki]
        exact hall k h0 (by omega)
  refine xq_go hK [8] 60 ?_
  refine ⟨lev - 1, by omega, c_JM_min (by omega) ?_⟩
  exact loop 20 0 _ _ h (by omega) rfl (by omega) xs_rf (fun k h0 h1 => by omega)
theorem c_cp_43_15 {lev : Nat} {h : xq_H} {Q : Option xq_V → xq_H → Prop} (hl : 2 ≤ lev) (hQ : ∀ h', xs_eq [15] h h' → (∀ k : Int, 0 ≤ k → k < 20 → h' 15 k = h 43 k) → Q none h') : xq_met lev y_X_copyInts [xR 43, xR 15] 81 h Q := by
  refine en_X_copyInts (by omega) (fun K hK => ?_)
  have loop : ∀ (d i : Nat) (iI nI : Int) (h' : xq_H), i + d = 20 → iI = i → nI = 20 → xs_eq [15] h h' → (∀ k : Int, 0 ≤ k → k < i → h' 15 k = h 43 k) → K 8 [some (xR 43), some (xR 15), some (xI nI), some (xI iI)] [] 81 h' := by
    intro d
    induction d with
    | zero =>
      intro i iI nI h' hd ei en hs hall
      refine xq_go hK [8] 60 ?_
      refine And.intro (fun _ => hQ h' hs (fun k h0 h1 => hall k h0 (by omega))) (fun c => absurd c (by omega))
    | succ d ih =>
      intro i iI nI h' hd ei en hs hall
      refine xq_go hK [8] 60 ?_
      refine And.intro (fun c => absurd c (by omega)) (fun _ => ?_)
      refine And.intro (by omega) ?_
      refine And.intro (by omega) ?_
      refine And.intro (by omega) ?_
      refine ih (i + 1) _ _ _ (by omega) (by omega) en (xs_u hs (by decide) _ _) (fun k h0 h1 => ?_)
      rw [xu_rd, hs 43 (by decide)]
      by_cases hki : k = iI
      · rw [if_pos hki, hki]
      · rw [if_neg hki]
        exact hall k h0 (by omega)
  refine xq_go hK [8] 60 ?_
  refine ⟨lev - 1, by omega, c_JM_min (by omega) ?_⟩
  exact loop 20 0 _ _ h (by omega) rfl (by omega) xs_rf (fun k h0 h1 => by omega)
theorem c_cp_16_44 {lev : Nat} {h : xq_H} {Q : Option xq_V → xq_H → Prop} (hl : 2 ≤ lev) (hQ : ∀ h', xs_eq [44] h h' → (∀ k : Int, 0 ≤ k → k < 6 → h' 44 k = h 16 k) → Q none h') : xq_met lev y_X_copyInts [xR 16, xR 44] 81 h Q := by
  refine en_X_copyInts (by omega) (fun K hK => ?_)
  have loop : ∀ (d i : Nat) (iI nI : Int) (h' : xq_H), i + d = 6 → iI = i → nI = 6 → xs_eq [44] h h' → (∀ k : Int, 0 ≤ k → k < i → h' 44 k = h 16 k) → K 8 [some (xR 16), some (xR 44), some (xI nI), some (xI iI)] [] 81 h' := by
    intro d
    induction d with
    | zero =>
      intro i iI nI h' hd ei en hs hall
      refine xq_go hK [8] 60 ?_
      refine And.intro (fun _ => hQ h' hs (fun k h0 h1 => hall k h0 (by omega))) (fun c => absurd c (by omega))
    | succ d ih =>
      intro i iI nI h' hd ei en hs hall
      refine xq_go hK [8] 60 ?_
      refine And.intro (fun c => absurd c (by omega)) (fun _ => ?_)
      refine And.intro (by omega) ?_
      refine And.intro (by omega) ?_
      refine And.intro (by omega) ?_
      refine ih (i + 1) _ _ _ (by omega) (by omega) en (xs_u hs (by decide) _ _) (fun k h0 h1 => ?_)
      rw [xu_rd, hs 16 (by decide)]
      by_cases hki : k = iI
      · rw [if_pos hki, hki]
      · rw [if_neg hki]
        exact hall k h0 (by omega)
  refine xq_go hK [8] 60 ?_
  refine ⟨lev - 1, by omega, c_JM_min (by omega) ?_⟩
  exact loop 6 0 _ _ h (by omega) rfl (by omega) xs_rf (fun k h0 h1 => by omega)
theorem c_cp_44_16 {lev : Nat} {h : xq_H} {Q : Option xq_V → xq_H → Prop} (hl : 2 ≤ lev) (hQ : ∀ h', xs_eq [16] h h' → (∀ k : Int, 0 ≤ k → k < 6 → h' 16 k = h 44 k) → Q none h') : xq_met lev y_X_copyInts [xR 44, xR 16] 81 h Q := by
  refine en_X_copyInts (by omega) (fun K hK => ?_)
  have loop : ∀ (d i : Nat) (iI nI : Int) (h' : xq_H), i + d = 6 → iI = i → nI = 6 → xs_eq [16] h h' → (∀ k : Int, 0 ≤ k → k < i → h' 16 k = h 44 k) → K 8 [some (xR 44), some (xR 16), some (xI nI), some (xI iI)] [] 81 h' := by
    intro d
    induction d with
    | zero =>
      intro i iI nI h' hd ei en hs hall
      refine xq_go hK [8] 60 ?_
      refine And.intro (fun _ => hQ h' hs (fun k h0 h1 => hall k h0 (by omega))) (fun c => absurd c (by omega))
    | succ d ih =>
      intro i iI nI h' hd ei en hs hall
      refine xq_go hK [8] 60 ?_
      refine And.intro (fun c => absurd c (by omega)) (fun _ => ?_)
      refine And.intro (by omega) ?_
      refine And.intro (by omega) ?_
      refine And.intro (by omega) ?_
      refine ih (i + 1) _ _ _ (by omega) (by omega) en (xs_u hs (by decide) _ _) (fun k h0 h1 => ?_)
      rw [xu_rd, hs 44 (by decide)]
      by_cases hki : k = iI
      · rw [if_pos hki, hki]
      · rw [if_neg hki]
        exact hall k h0 (by omega)
  refine xq_go hK [8] 60 ?_
  refine ⟨lev - 1, by omega, c_JM_min (by omega) ?_⟩
  exact loop 6 0 _ _ h (by omega) rfl (by omega) xs_rf (fun k h0 h1 => by omega)
theorem c_cp_18_46 {lev : Nat} {h : xq_H} {Q : Option xq_V → xq_H → Prop} (hl : 2 ≤ lev) (hQ : ∀ h', xs_eq [46] h h' → (∀ k : Int, 0 ≤ k → k < 10 → h' 46 k = h 18 k) → Q none h') : xq_met lev y_X_copyInts [xR 18, xR 46] 81 h Q := by
  refine en_X_copyInts (by omega) (fun K hK => ?_)
  have loop : ∀ (d i : Nat) (iI nI : Int) (h' : xq_H), i + d = 10 → iI = i → nI = 10 → xs_eq [46] h h' → (∀ k : Int, 0 ≤ k → k < i → h' 46 k = h 18 k) → K 8 [some (xR 18), some (xR 46), some (xI nI), some (xI iI)] [] 81 h' := by
    intro d
    induction d with
    | zero =>
      intro i iI nI h' hd ei en hs hall
      refine xq_go hK [8] 60 ?_
      refine And.intro (fun _ => hQ h' hs (fun k h0 h1 => hall k h0 (by omega))) (fun c => absurd c (by omega))
    | succ d ih =>
      intro i iI nI h' hd ei en hs hall
      refine xq_go hK [8] 60 ?_
      refine And.intro (fun c => absurd c (by omega)) (fun _ => ?_)
      refine And.intro (by omega) ?_
      refine And.intro (by omega) ?_
      refine And.intro (by omega) ?_
      refine ih (i + 1) _ _ _ (by omega) (by omega) en (xs_u hs (by decide) _ _) (fun k h0 h1 => ?_)
      rw [xu_rd, hs 18 (by decide)]
      by_cases hki : k = iI
      · rw [if_pos hki, hki]
      · rw [if_neg hki]
        exact hall k h0 (by omega)
  refine xq_go hK [8] 60 ?_
  refine ⟨lev - 1, by omega, c_JM_min (by omega) ?_⟩
  exact loop 10 0 _ _ h (by omega) rfl (by omega) xs_rf (fun k h0 h1 => by omega)
theorem c_cp_46_18 {lev : Nat} {h : xq_H} {Q : Option xq_V → xq_H → Prop} (hl : 2 ≤ lev) (hQ : ∀ h', xs_eq [18] h h' → (∀ k : Int, 0 ≤ k → k < 10 → h' 18 k = h 46 k) → Q none h') : xq_met lev y_X_copyInts [xR 46, xR 18] 81 h Q := by
  refine en_X_copyInts (by omega) (fun K hK => ?_)
  have loop : ∀ (d i : Nat) (iI nI : Int) (h' : xq_H), i + d = 10 → iI = i → nI = 10 → xs_eq [18] h h' → (∀ k : Int, 0 ≤ k → k < i → h' 18 k = h 46 k) → K 8 [some (xR 46), some (xR 18), some (xI nI), some (xI iI)] [] 81 h' := by
    intro d
    induction d with
    | zero =>
      intro i iI nI h' hd ei en hs hall
      refine xq_go hK [8] 60 ?_
      refine And.intro (fun _ => hQ h' hs (fun k h0 h1 => hall k h0 (by omega))) (fun c => absurd c (by omega))
    | succ d ih =>
      intro i iI nI h' hd ei en hs hall
      refine xq_go hK [8] 60 ?_
      refine And.intro (fun c => absurd c (by omega)) (fun _ => ?_)
      refine And.intro (by omega) ?_
      refine And.intro (by omega) ?_
      refine And.intro (by omega) ?_
      refine ih (i + 1) _ _ _ (by omega) (by omega) en (xs_u hs (by decide) _ _) (fun k h0 h1 => ?_)
      rw [xu_rd, hs 46 (by decide)]
      by_cases hki : k = iI
      · rw [if_pos hki, hki]
      · rw [if_neg hki]
        exact hall k h0 (by omega)
  refine xq_go hK [8] 60 ?_
  refine ⟨lev - 1, by omega, c_JM_min (by omega) ?_⟩
  exact loop 10 0 _ _ h (by omega) rfl (by omega) xs_rf (fun k h0 h1 => by omega)
theorem c_cp_19_47 {lev : Nat} {h : xq_H} {Q : Option xq_V → xq_H → Prop} (hl : 2 ≤ lev) (hQ : ∀ h', xs_eq [47] h h' → (∀ k : Int, 0 ≤ k → k < 10 → h' 47 k = h 19 k) → Q none h') : xq_met lev y_X_copyInts [xR 19, xR 47] 81 h Q := by
  refine en_X_copyInts (by omega) (fun K hK => ?_)
  have loop : ∀ (d i : Nat) (iI nI : Int) (h' : xq_H), i + d = 10 → iI = i → nI = 10 → xs_eq [47] h h' → (∀ k : Int, 0 ≤ k → k < i → h' 47 k = h 19 k) → K 8 [some (xR 19), some (xR 47), some (xI nI), some (xI iI)] [] 81 h' := by
    intro d
    induction d with
    | zero =>
      intro i iI nI h' hd ei en hs hall
      refine xq_go hK [8] 60 ?_
      refine And.intro (fun _ => hQ h' hs (fun k h0 h1 => hall k h0 (by omega))) (fun c => absurd c (by omega))
    | succ d ih =>
      intro i iI nI h' hd ei en hs hall
      refine xq_go hK [8] 60 ?_
      refine And.intro (fun c => absurd c (by omega)) (fun _ => ?_)
      refine And.intro (by omega) ?_
      refine And.intro (by omega) ?_
      refine And.intro (by omega) ?_
      refine ih (i + 1) _ _ _ (by omega) (by omega) en (xs_u hs (by decide) _ _) (fun k h0 h1 => ?_)
      rw [xu_rd, hs 19 (by decide)]
      by_cases hki : k = iI
      · rw [if_pos hki, hki]
      · rw [if_neg hki]
        exact hall k h0 (by omega)
  refine xq_go hK [8] 60 ?_
  refine ⟨lev - 1, by omega, c_JM_min (by omega) ?_⟩
  exact loop 10 0 _ _ h (by omega) rfl (by omega) xs_rf (fun k h0 h1 => by omega)
theorem c_cp_47_19 {lev : Nat} {h : xq_H} {Q : Option xq_V → xq_H → Prop} (hl : 2 ≤ lev) (hQ : ∀ h', xs_eq [19] h h' → (∀ k : Int, 0 ≤ k → k < 10 → h' 19 k = h 47 k) → Q none h') : xq_met lev y_X_copyInts [xR 47, xR 19] 81 h Q := by
  refine en_X_copyInts (by omega) (fun K hK => ?_)
  have loop : ∀ (d i : Nat) (iI nI : Int) (h' : xq_H), i + d = 10 → iI = i → nI = 10 → xs_eq [19] h h' → (∀ k : Int, 0 ≤ k → k < i → h' 19 k = h 47 k) → K 8 [some (xR 47), some (xR 19), some (xI nI), some (xI iI)] [] 81 h' := by
    intro d
    induction d with
    | zero =>
      intro i iI nI h' hd ei en hs hall
      refine xq_go hK [8] 60 ?_
      refine And.intro (fun _ => hQ h' hs (fun k h0 h1 => hall k h0 (by omega))) (fun c => absurd c (by omega))
    | succ d ih =>
      intro i iI nI h' hd ei en hs hall
      refine xq_go hK [8] 60 ?_
      refine And.intro (fun c => absurd c (by omega)) (fun _ => ?_)
      refine And.intro (by omega) ?_
      refine And.intro (by omega) ?_
      refine And.intro (by omega) ?_
      refine ih (i + 1) _ _ _ (by omega) (by omega) en (xs_u hs (by decide) _ _) (fun k h0 h1 => ?_)
      rw [xu_rd, hs 47 (by decide)]
      by_cases hki : k = iI
      · rw [if_pos hki, hki]
      · rw [if_neg hki]
        exact hall k h0 (by omega)
  refine xq_go hK [8] 60 ?_
  refine ⟨lev - 1, by omega, c_JM_min (by omega) ?_⟩
  exact loop 10 0 _ _ h (by omega) rfl (by omega) xs_rf (fun k h0 h1 => by omega)
theorem c_cp_20_48 {lev : Nat} {h : xq_H} {Q : Option xq_V → xq_H → Prop} (hl : 2 ≤ lev) (hQ : ∀ h', xs_eq [48] h h' → (∀ k : Int, 0 ≤ k → k < 100 → h' 48 k = h 20 k) → Q none h') : xq_met lev y_X_copyInts [xR 20, xR 48] 81 h Q := by
  refine en_X_copyInts (by omega) (fun K hK => ?_)
  have loop : ∀ (d i : Nat) (iI nI : Int) (h' : xq_H), i + d = 100 → iI = i → nI = 100 → xs_eq [48] h h' → (∀ k : Int, 0 ≤ k → k < i → h' 48 k = h 20 k) → K 8 [some (xR 20), some (xR 48), some (xI nI), some (xI iI)] [] 81 h' := by
    intro d
    induction d with
    | zero =>
      intro i iI nI h' hd ei en hs hall
      refine xq_go hK [8] 60 ?_
      refine And.intro (fun _ => hQ h' hs (fun k h0 h1 => hall k h0 (by omega))) (fun c => absurd c (by omega))
    | succ d ih =>
      intro i iI nI h' hd ei en hs hall
      refine xq_go hK [8] 60 ?_
      refine And.intro (fun c => absurd c (by omega)) (fun _ => ?_)
      refine And.intro (by omega) ?_
      refine And.intro (by omega) ?_
      refine And.intro (by omega) ?_
      refine ih (i + 1) _ _ _ (by omega) (by omega) en (xs_u hs (by decide) _ _) (fun k h0 h1 => ?_)
      rw [xu_rd, hs 20 (by decide)]
      by_cases hki : k = iI
      · rw [if_pos hki, hki]
      · rw [if_neg hki]
        exact hall k h0 (by omega)
  refine xq_go hK [8] 60 ?_
  refine ⟨lev - 1, by omega, c_JM_min (by omega) ?_⟩
  exact loop 100 0 _ _ h (by omega) rfl (by omega) xs_rf (fun k h0 h1 => by omega)
theorem c_cp_48_20 {lev : Nat} {h : xq_H} {Q : Option xq_V → xq_H → Prop} (hl : 2 ≤ lev) (hQ : ∀ h', xs_eq [20] h h' → (∀ k : Int, 0 ≤ k → k < 100 → h' 20 k = h 48 k) → Q none h') : xq_met lev y_X_copyInts [xR 48, xR 20] 81 h Q := by
  refine en_X_copyInts (by omega) (fun K hK => ?_)
  have loop : ∀ (d i : Nat) (iI nI : Int) (h' : xq_H), i + d = 100 → iI = i → nI = 100 → xs_eq [20] h h' → (∀ k : Int, 0 ≤ k → k < i → h' 20 k = h 48 k) → K 8 [some (xR 48), some (xR 20), some (xI nI), some (xI iI)] [] 81 h' := by
    intro d
    induction d with
    | zero =>
      intro i iI nI h' hd ei en hs hall
      refine xq_go hK [8] 60 ?_
      refine And.intro (fun _ => hQ h' hs (fun k h0 h1 => hall k h0 (by omega))) (fun c => absurd c (by omega))
    | succ d ih =>
      intro i iI nI h' hd ei en hs hall
      refine xq_go hK [8] 60 ?_
      refine And.intro (fun c => absurd c (by omega)) (fun _ => ?_)
      refine And.intro (by omega) ?_
      refine And.intro (by omega) ?_
      refine And.intro (by omega) ?_
      refine ih (i + 1) _ _ _ (by omega) (by omega) en (xs_u hs (by decide) _ _) (fun k h0 h1 => ?_)
      rw [xu_rd, hs 48 (by decide)]
      by_cases hki : k = iI
      · rw [if_pos hki, hki]
      · rw [if_neg hki]
        exact hall k h0 (by omega)
  refine xq_go hK [8] 60 ?_
  refine ⟨lev - 1, by omega, c_JM_min (by omega) ?_⟩
  exact loop 100 0 _ _ h (by omega) rfl (by omega) xs_rf (fun k h0 h1 => by omega)
theorem c_cp_22_50 {lev : Nat} {h : xq_H} {Q : Option xq_V → xq_H → Prop} (hl : 2 ≤ lev) (hQ : ∀ h', xs_eq [50] h h' → (∀ k : Int, 0 ≤ k → k < 8 → h' 50 k = h 22 k) → Q none h') : xq_met lev y_X_copyInts [xR 22, xR 50] 81 h Q := by
  refine en_X_copyInts (by omega) (fun K hK => ?_)
  have loop : ∀ (d i : Nat) (iI nI : Int) (h' : xq_H), i + d = 8 → iI = i → nI = 8 → xs_eq [50] h h' → (∀ k : Int, 0 ≤ k → k < i → h' 50 k = h 22 k) → K 8 [some (xR 22), some (xR 50), some (xI nI), some (xI iI)] [] 81 h' := by
    intro d
    induction d with
    | zero =>
      intro i iI nI h' hd ei en hs hall
      refine xq_go hK [8] 60 ?_
      refine And.intro (fun _ => hQ h' hs (fun k h0 h1 => hall k h0 (by omega))) (fun c => absurd c (by omega))
    | succ d ih =>
      intro i iI nI h' hd ei en hs hall
      refine xq_go hK [8] 60 ?_
      refine And.intro (fun c => absurd c (by omega)) (fun _ => ?_)
      refine And.intro (by omega) ?_
      refine And.intro (by omega) ?_
      refine And.intro (by omega) ?_
      refine ih (i + 1) _ _ _ (by omega) (by omega) en (xs_u hs (by decide) _ _) (fun k h0 h1 => ?_)
      rw [xu_rd, hs 22 (by decide)]
      by_cases hki : k = iI
      · rw [if_pos hki, hki]
      · rw [if_neg hki]
        exact hall k h0 (by omega)
  refine xq_go hK [8] 60 ?_
  refine ⟨lev - 1, by omega, c_JM_min (by omega) ?_⟩
  exact loop 8 0 _ _ h (by omega) rfl (by omega) xs_rf (fun k h0 h1 => by omega)
theorem c_cp_50_22 {lev : Nat} {h : xq_H} {Q : Option xq_V → xq_H → Prop} (hl : 2 ≤ lev) (hQ : ∀ h', xs_eq [22] h h' → (∀ k : Int, 0 ≤ k → k < 8 → h' 22 k = h 50 k) → Q none h') : xq_met lev y_X_copyInts [xR 50, xR 22] 81 h Q := by
  refine en_X_copyInts (by omega) (fun K hK => ?_)
  have loop : ∀ (d i : Nat) (iI nI : Int) (h' : xq_H), i + d = 8 → iI = i → nI = 8 → xs_eq [22] h h' → (∀ k : Int, 0 ≤ k → k < i → h' 22 k = h 50 k) → K 8 [some (xR 50), some (xR 22), some (xI nI), some (xI iI)] [] 81 h' := by
    intro d
    induction d with
    | zero =>
      intro i iI nI h' hd ei en hs hall
      refine xq_go hK [8] 60 ?_
      refine And.intro (fun _ => hQ h' hs (fun k h0 h1 => hall k h0 (by omega))) (fun c => absurd c (by omega))
    | succ d ih =>
      intro i iI nI h' hd ei en hs hall
      refine xq_go hK [8] 60 ?_
      refine And.intro (fun c => absurd c (by omega)) (fun _ => ?_)
      refine And.intro (by omega) ?_
      refine And.intro (by omega) ?_
      refine And.intro (by omega) ?_
      refine ih (i + 1) _ _ _ (by omega) (by omega) en (xs_u hs (by decide) _ _) (fun k h0 h1 => ?_)
      rw [xu_rd, hs 50 (by decide)]
      by_cases hki : k = iI
      · rw [if_pos hki, hki]
      · rw [if_neg hki]
        exact hall k h0 (by omega)
  refine xq_go hK [8] 60 ?_
  refine ⟨lev - 1, by omega, c_JM_min (by omega) ?_⟩
  exact loop 8 0 _ _ h (by omega) rfl (by omega) xs_rf (fun k h0 h1 => by omega)
theorem c_cp_23_51 {lev : Nat} {h : xq_H} {Q : Option xq_V → xq_H → Prop} (hl : 2 ≤ lev) (hQ : ∀ h', xs_eq [51] h h' → (∀ k : Int, 0 ≤ k → k < 8 → h' 51 k = h 23 k) → Q none h') : xq_met lev y_X_copyInts [xR 23, xR 51] 81 h Q := by
  refine en_X_copyInts (by omega) (fun K hK => ?_)
  have loop : ∀ (d i : Nat) (iI nI : Int) (h' : xq_H), i + d = 8 → iI = i → nI = 8 → xs_eq [51] h h' → (∀ k : Int, 0 ≤ k → k < i → h' 51 k = h 23 k) → K 8 [some (xR 23), some (xR 51), some (xI nI), some (xI iI)] [] 81 h' := by
    intro d
    induction d with
    | zero =>
      intro i iI nI h' hd ei en hs hall
      refine xq_go hK [8] 60 ?_
      refine And.intro (fun _ => hQ h' hs (fun k h0 h1 => hall k h0 (by omega))) (fun c => absurd c (by omega))
    | succ d ih =>
      intro i iI nI h' hd ei en hs hall
      refine xq_go hK [8] 60 ?_
      refine And.intro (fun c => absurd c (by omega)) (fun _ => ?_)
      refine And.intro (by omega) ?_
      refine And.intro (by omega) ?_
      refine And.intro (by omega) ?_
      refine ih (i + 1) _ _ _ (by omega) (by omega) en (xs_u hs (by decide) _ _) (fun k h0 h1 => ?_)
      rw [xu_rd, hs 23 (by decide)]
      by_cases hki : k = iI
      · rw [if_pos hki, hki]
      · rw [if_neg hki]
        exact hall k h0 (by omega)
  refine xq_go hK [8] 60 ?_
  refine ⟨lev - 1, by omega, c_JM_min (by omega) ?_⟩
  exact loop 8 0 _ _ h (by omega) rfl (by omega) xs_rf (fun k h0 h1 => by omega)
theorem c_cp_51_23 {lev : Nat} {h : xq_H} {Q : Option xq_V → xq_H → Prop} (hl : 2 ≤ lev) (hQ : ∀ h', xs_eq [23] h h' → (∀ k : Int, 0 ≤ k → k < 8 → h' 23 k = h 51 k) → Q none h') : xq_met lev y_X_copyInts [xR 51, xR 23] 81 h Q := by
  refine en_X_copyInts (by omega) (fun K hK => ?_)
  have loop : ∀ (d i : Nat) (iI nI : Int) (h' : xq_H), i + d = 8 → iI = i → nI = 8 → xs_eq [23] h h' → (∀ k : Int, 0 ≤ k → k < i → h' 23 k = h 51 k) → K 8 [some (xR 51), some (xR 23), some (xI nI), some (xI iI)] [] 81 h' := by
    intro d
    induction d with
    | zero =>
      intro i iI nI h' hd ei en hs hall
      refine xq_go hK [8] 60 ?_
      refine And.intro (fun _ => hQ h' hs (fun k h0 h1 => hall k h0 (by omega))) (fun c => absurd c (by omega))
    | succ d ih =>
      intro i iI nI h' hd ei en hs hall
      refine xq_go hK [8] 60 ?_
      refine And.intro (fun c => absurd c (by omega)) (fun _ => ?_)
      refine And.intro (by omega) ?_
      refine And.intro (by omega) ?_
      refine And.intro (by omega) ?_
      refine ih (i + 1) _ _ _ (by omega) (by omega) en (xs_u hs (by decide) _ _) (fun k h0 h1 => ?_)
      rw [xu_rd, hs 51 (by decide)]
      by_cases hki : k = iI
      · rw [if_pos hki, hki]
      · rw [if_neg hki]
        exact hall k h0 (by omega)
  refine xq_go hK [8] 60 ?_
  refine ⟨lev - 1, by omega, c_JM_min (by omega) ?_⟩
  exact loop 8 0 _ _ h (by omega) rfl (by omega) xs_rf (fun k h0 h1 => by omega)
theorem c_cp_24_52 {lev : Nat} {h : xq_H} {Q : Option xq_V → xq_H → Prop} (hl : 2 ≤ lev) (hQ : ∀ h', xs_eq [52] h h' → (∀ k : Int, 0 ≤ k → k < 8 → h' 52 k = h 24 k) → Q none h') : xq_met lev y_X_copyInts [xR 24, xR 52] 81 h Q := by
  refine en_X_copyInts (by omega) (fun K hK => ?_)
  have loop : ∀ (d i : Nat) (iI nI : Int) (h' : xq_H), i + d = 8 → iI = i → nI = 8 → xs_eq [52] h h' → (∀ k : Int, 0 ≤ k → k < i → h' 52 k = h 24 k) → K 8 [some (xR 24), some (xR 52), some (xI nI), some (xI iI)] [] 81 h' := by
    intro d
    induction d with
    | zero =>
      intro i iI nI h' hd ei en hs hall
      refine xq_go hK [8] 60 ?_
      refine And.intro (fun _ => hQ h' hs (fun k h0 h1 => hall k h0 (by omega))) (fun c => absurd c (by omega))
    | succ d ih =>
      intro i iI nI h' hd ei en hs hall
      refine xq_go hK [8] 60 ?_
      refine And.intro (fun c => absurd c (by omega)) (fun _ => ?_)
      refine And.intro (by omega) ?_
      refine And.intro (by omega) ?_
      refine And.intro (by omega) ?_
      refine ih (i + 1) _ _ _ (by omega) (by omega) en (xs_u hs (by decide) _ _) (fun k h0 h1 => ?_)
      rw [xu_rd, hs 24 (by decide)]
      by_cases hki : k = iI
      · rw [if_pos hki, hki]
      · rw [if_neg hki]
        exact hall k h0 (by omega)
  refine xq_go hK [8] 60 ?_
  refine ⟨lev - 1, by omega, c_JM_min (by omega) ?_⟩
  exact loop 8 0 _ _ h (by omega) rfl (by omega) xs_rf (fun k h0 h1 => by omega)
theorem c_cp_52_24 {lev : Nat} {h : xq_H} {Q : Option xq_V → xq_H → Prop} (hl : 2 ≤ lev) (hQ : ∀ h', xs_eq [24] h h' → (∀ k : Int, 0 ≤ k → k < 8 → h' 24 k = h 52 k) → Q none h') : xq_met lev y_X_copyInts [xR 52, xR 24] 81 h Q := by
  refine en_X_copyInts (by omega) (fun K hK => ?_)
  have loop : ∀ (d i : Nat) (iI nI : Int) (h' : xq_H), i + d = 8 → iI = i → nI = 8 → xs_eq [24] h h' → (∀ k : Int, 0 ≤ k → k < i → h' 24 k = h 52 k) → K 8 [some (xR 52), some (xR 24), some (xI nI), some (xI iI)] [] 81 h' := by
    intro d
    induction d with
    | zero =>
      intro i iI nI h' hd ei en hs hall
      refine xq_go hK [8] 60 ?_
      refine And.intro (fun _ => hQ h' hs (fun k h0 h1 => hall k h0 (by omega))) (fun c => absurd c (by omega))
    | succ d ih =>
      intro i iI nI h' hd ei en hs hall
      refine xq_go hK [8] 60 ?_
      refine And.intro (fun c => absurd c (by omega)) (fun _ => ?_)
      refine And.intro (by omega) ?_
      refine And.intro (by omega) ?_
      refine And.intro (by omega) ?_
      refine ih (i + 1) _ _ _ (by omega) (by omega) en (xs_u hs (by decide) _ _) (fun k h0 h1 => ?_)
      rw [xu_rd, hs 52 (by decide)]
      by_cases hki : k = iI
      · rw [if_pos hki, hki]
      · rw [if_neg hki]
        exact hall k h0 (by omega)
  refine xq_go hK [8] 60 ?_
  refine ⟨lev - 1, by omega, c_JM_min (by omega) ?_⟩
  exact loop 8 0 _ _ h (by omega) rfl (by omega) xs_rf (fun k h0 h1 => by omega)
theorem c_cp_25_53 {lev : Nat} {h : xq_H} {Q : Option xq_V → xq_H → Prop} (hl : 2 ≤ lev) (hQ : ∀ h', xs_eq [53] h h' → (∀ k : Int, 0 ≤ k → k < 100 → h' 53 k = h 25 k) → Q none h') : xq_met lev y_X_copyInts [xR 25, xR 53] 81 h Q := by
  refine en_X_copyInts (by omega) (fun K hK => ?_)
  have loop : ∀ (d i : Nat) (iI nI : Int) (h' : xq_H), i + d = 100 → iI = i → nI = 100 → xs_eq [53] h h' → (∀ k : Int, 0 ≤ k → k < i → h' 53 k = h 25 k) → K 8 [some (xR 25), some (xR 53), some (xI nI), some (xI iI)] [] 81 h' := by
    intro d
    induction d with
    | zero =>
      intro i iI nI h' hd ei en hs hall
      refine xq_go hK [8] 60 ?_
      refine And.intro (fun _ => hQ h' hs (fun k h0 h1 => hall k h0 (by omega))) (fun c => absurd c (by omega))
    | succ d ih =>
      intro i iI nI h' hd ei en hs hall
      refine xq_go hK [8] 60 ?_
      refine And.intro (fun c => absurd c (by omega)) (fun _ => ?_)
      refine And.intro (by omega) ?_
      refine And.intro (by omega) ?_
      refine And.intro (by omega) ?_
      refine ih (i + 1) _ _ _ (by omega) (by omega) en (xs_u hs (by decide) _ _) (fun k h0 h1 => ?_)
      rw [xu_rd, hs 25 (by decide)]
      by_cases hki : k = iI
      · rw [if_pos hki, hki]
      · rw [if_neg hki]
        exact hall k h0 (by omega)
  refine xq_go hK [8] 60 ?_
  refine ⟨lev - 1, by omega, c_JM_min (by omega) ?_⟩
  exact loop 100 0 _ _ h (by omega) rfl (by omega) xs_rf (fun k h0 h1 => by omega)
theorem c_cp_53_25 {lev : Nat} {h : xq_H} {Q : Option xq_V → xq_H → Prop} (hl : 2 ≤ lev) (hQ : ∀ h', xs_eq [25] h h' → (∀ k : Int, 0 ≤ k → k < 100 → h' 25 k = h 53 k) → Q none h') : xq_met lev y_X_copyInts [xR 53, xR 25] 81 h Q := by
  refine en_X_copyInts (by omega) (fun K hK => ?_)
  have loop : ∀ (d i : Nat) (iI nI : Int) (h' : xq_H), i + d = 100 → iI = i → nI = 100 → xs_eq [25] h h' → (∀ k : Int, 0 ≤ k → k < i → h' 25 k = h 53 k) → K 8 [some (xR 53), some (xR 25), some (xI nI), some (xI iI)] [] 81 h' := by
    intro d
    induction d with
    | zero =>
      intro i iI nI h' hd ei en hs hall
      refine xq_go hK [8] 60 ?_
      refine And.intro (fun _ => hQ h' hs (fun k h0 h1 => hall k h0 (by omega))) (fun c => absurd c (by omega))
    | succ d ih =>
      intro i iI nI h' hd ei en hs hall
      refine xq_go hK [8] 60 ?_
      refine And.intro (fun c => absurd c (by omega)) (fun _ => ?_)
      refine And.intro (by omega) ?_
      refine And.intro (by omega) ?_
      refine And.intro (by omega) ?_
      refine ih (i + 1) _ _ _ (by omega) (by omega) en (xs_u hs (by decide) _ _) (fun k h0 h1 => ?_)
      rw [xu_rd, hs 53 (by decide)]
      by_cases hki : k = iI
      · rw [if_pos hki, hki]
      · rw [if_neg hki]
        exact hall k h0 (by omega)
  refine xq_go hK [8] 60 ?_
  refine ⟨lev - 1, by omega, c_JM_min (by omega) ?_⟩
  exact loop 100 0 _ _ h (by omega) rfl (by omega) xs_rf (fun k h0 h1 => by omega)
theorem c_cp_56_18 {lev : Nat} {h : xq_H} {Q : Option xq_V → xq_H → Prop} (hl : 2 ≤ lev) (hQ : ∀ h', xs_eq [18] h h' → (∀ k : Int, 0 ≤ k → k < 10 → h' 18 k = h 56 k) → Q none h') : xq_met lev y_X_copyInts [xR 56, xR 18] 81 h Q := by
  refine en_X_copyInts (by omega) (fun K hK => ?_)
  have loop : ∀ (d i : Nat) (iI nI : Int) (h' : xq_H), i + d = 10 → iI = i → nI = 10 → xs_eq [18] h h' → (∀ k : Int, 0 ≤ k → k < i → h' 18 k = h 56 k) → K 8 [some (xR 56), some (xR 18), some (xI nI), some (xI iI)] [] 81 h' := by
    intro d
    induction d with
    | zero =>
      intro i iI nI h' hd ei en hs hall
      refine xq_go hK [8] 60 ?_
      refine And.intro (fun _ => hQ h' hs (fun k h0 h1 => hall k h0 (by omega))) (fun c => absurd c (by omega))
    | succ d ih =>
      intro i iI nI h' hd ei en hs hall
      refine xq_go hK [8] 60 ?_
      refine And.intro (fun c => absurd c (by omega)) (fun _ => ?_)
      refine And.intro (by omega) ?_
      refine And.intro (by omega) ?_
      refine And.intro (by omega) ?_
      refine ih (i + 1) _ _ _ (by omega) (by omega) en (xs_u hs (by decide) _ _) (fun k h0 h1 => ?_)
      rw [xu_rd, hs 56 (by decide)]
      by_cases hki : k = iI
      · rw [if_pos hki, hki]
      · rw [if_neg hki]
        exact hall k h0 (by omega)
  refine xq_go hK [8] 60 ?_
  refine ⟨lev - 1, by omega, c_JM_min (by omega) ?_⟩
  exact loop 10 0 _ _ h (by omega) rfl (by omega) xs_rf (fun k h0 h1 => by omega)
theorem c_cp_57_19 {lev : Nat} {h : xq_H} {Q : Option xq_V → xq_H → Prop} (hl : 2 ≤ lev) (hQ : ∀ h', xs_eq [19] h h' → (∀ k : Int, 0 ≤ k → k < 10 → h' 19 k = h 57 k) → Q none h') : xq_met lev y_X_copyInts [xR 57, xR 19] 81 h Q := by
  refine en_X_copyInts (by omega) (fun K hK => ?_)
  have loop : ∀ (d i : Nat) (iI nI : Int) (h' : xq_H), i + d = 10 → iI = i → nI = 10 → xs_eq [19] h h' → (∀ k : Int, 0 ≤ k → k < i → h' 19 k = h 57 k) → K 8 [some (xR 57), some (xR 19), some (xI nI), some (xI iI)] [] 81 h' := by
    intro d
    induction d with
    | zero =>
      intro i iI nI h' hd ei en hs hall
      refine xq_go hK [8] 60 ?_
      refine And.intro (fun _ => hQ h' hs (fun k h0 h1 => hall k h0 (by omega))) (fun c => absurd c (by omega))
    | succ d ih =>
      intro i iI nI h' hd ei en hs hall
      refine xq_go hK [8] 60 ?_
      refine And.intro (fun c => absurd c (by omega)) (fun _ => ?_)
      refine And.intro (by omega) ?_
      refine And.intro (by omega) ?_
      refine And.intro (by omega) ?_
      refine ih (i + 1) _ _ _ (by omega) (by omega) en (xs_u hs (by decide) _ _) (fun k h0 h1 => ?_)
      rw [xu_rd, hs 57 (by decide)]
      by_cases hki : k = iI
      · rw [if_pos hki, hki]
      · rw [if_neg hki]
        exact hall k h0 (by omega)
  refine xq_go hK [8] 60 ?_
  refine ⟨lev - 1, by omega, c_JM_min (by omega) ?_⟩
  exact loop 10 0 _ _ h (by omega) rfl (by omega) xs_rf (fun k h0 h1 => by omega)
theorem c_cp_58_20 {lev : Nat} {h : xq_H} {Q : Option xq_V → xq_H → Prop} (hl : 2 ≤ lev) (hQ : ∀ h', xs_eq [20] h h' → (∀ k : Int, 0 ≤ k → k < 100 → h' 20 k = h 58 k) → Q none h') : xq_met lev y_X_copyInts [xR 58, xR 20] 81 h Q := by
  refine en_X_copyInts (by omega) (fun K hK => ?_)
  have loop : ∀ (d i : Nat) (iI nI : Int) (h' : xq_H), i + d = 100 → iI = i → nI = 100 → xs_eq [20] h h' → (∀ k : Int, 0 ≤ k → k < i → h' 20 k = h 58 k) → K 8 [some (xR 58), some (xR 20), some (xI nI), some (xI iI)] [] 81 h' := by
    intro d
    induction d with
    | zero =>
      intro i iI nI h' hd ei en hs hall
      refine xq_go hK [8] 60 ?_
      refine And.intro (fun _ => hQ h' hs (fun k h0 h1 => hall k h0 (by omega))) (fun c => absurd c (by omega))
    | succ d ih =>
      intro i iI nI h' hd ei en hs hall
      refine xq_go hK [8] 60 ?_
      refine And.intro (fun c => absurd c (by omega)) (fun _ => ?_)
      refine And.intro (by omega) ?_
      refine And.intro (by omega) ?_
      refine And.intro (by omega) ?_
      refine ih (i + 1) _ _ _ (by omega) (by omega) en (xs_u hs (by decide) _ _) (fun k h0 h1 => ?_)
      rw [xu_rd, hs 58 (by decide)]
      by_cases hki : k = iI
      · rw [if_pos hki, hki]
      · rw [if_neg hki]
        exact hall k h0 (by omega)
  refine xq_go hK [8] 60 ?_
  refine ⟨lev - 1, by omega, c_JM_min (by omega) ?_⟩
  exact loop 100 0 _ _ h (by omega) rfl (by omega) xs_rf (fun k h0 h1 => by omega)
