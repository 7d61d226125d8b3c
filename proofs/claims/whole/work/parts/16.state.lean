/-! THE STATE AS THE REFERENCE'S ROW OF NUMBERS -/
/-- the first place of w below n, or -1 -/
def xf_ix (f : Int → Int) (w : Int) : Nat → Int
  | 0 => -1
  | n + 1 => if xf_ix f w n = -1 then (if f n = w then (n : Int) else -1) else xf_ix f w n
theorem xf_ix_bd (f : Int → Int) (w : Int) : ∀ n, -1 ≤ xf_ix f w n ∧ xf_ix f w n < n
  | 0 => by rw [xf_ix]; omega
  | n + 1 => by
    have := xf_ix_bd f w n
    rw [xf_ix]
    repeat' split
    all_goals omega
theorem xf_ix_none {f : Int → Int} {w : Int} : ∀ {n : Nat}, (∀ k : Nat, k < n → f k ≠ w) → xf_ix f w n = -1
  | 0, _ => rfl
  | n + 1, h => by
    rw [xf_ix, if_pos (xf_ix_none (fun k hk => h k (by omega))), if_neg (h n (by omega))]
theorem xf_ix_stay {f : Int → Int} {w : Int} {i : Nat} : ∀ (d : Nat), xf_ix f w i ≠ -1 → xf_ix f w (i + d) = xf_ix f w i
  | 0, _ => rfl
  | d + 1, h => by
    have e := xf_ix_stay d h
    show xf_ix f w (i + d + 1) = _
    rw [xf_ix, if_neg (by rw [e]; exact h), e]
theorem xf_ix_hit {f : Int → Int} {w : Int} {i n : Nat} (hi : i < n) (h1 : ∀ k : Nat, k < i → f k ≠ w) (h2 : f i = w) : xf_ix f w n = i := by
  have e : xf_ix f w (i + 1) = i := by rw [xf_ix, if_pos (xf_ix_none h1), if_pos h2]
  rw [show n = i + 1 + (n - (i + 1)) by omega, xf_ix_stay _ (by rw [e]; omega), e]
theorem xf_ix_at {f : Int → Int} {w : Int} : ∀ {n : Nat}, xf_ix f w n ≠ -1 → f (xf_ix f w n) = w
  | 0, h => absurd rfl h
  | n + 1, h => by
    rw [xf_ix] at h ⊢
    split
    · rename_i h1
      rw [if_pos h1] at h
      split
      · assumption
      · rename_i h2
        rw [if_neg h2] at h
        exact absurd rfl h
    · rename_i h1
      exact xf_ix_at h1
theorem xf_ix_no {f : Int → Int} {w : Int} {n : Nat} (h : xf_ix f w n = -1) : ∀ k : Nat, k < n → f k ≠ w := by
  intro k hk hz
  induction n with
  | zero => omega
  | succ n ih =>
    rw [xf_ix] at h
    split at h
    · rename_i h1
      split at h
      · omega
      · rename_i h2
        by_cases hkn : k = n
        · rw [hkn] at hz; exact h2 hz
        · exact ih h1 (by omega)
    · rename_i h1
      exact h1 h
theorem xf_ix_congr {f g : Int → Int} {w : Int} : ∀ {n : Nat}, (∀ k : Nat, k < n → f k = g k) → xf_ix f w n = xf_ix g w n
  | 0, _ => rfl
  | n + 1, h => by rw [xf_ix, xf_ix, xf_ix_congr (fun k hk => h k (by omega)), h n (by omega)]
/-- the number in THE LIST of a word -/
def xf_num (m : Int → Int) (w : Int) : Int := xf_ix (fun k => m (18 + k)) w (m 11).toNat
/-- among the LEFT -/
def xf_lft (m : Int → Int) (w : Int) : Prop := ∃ k : Nat, (k : Int) < m 16 ∧ m (104 + k) = w
/-- LIMIT of the newest telephone -/
def xf_lim (m : Int → Int) : Int := if m 17 = -1 then 12 else m (234 + m 17)
/-- what the reference's row is fit to be -/
def xf_VM (m : Int → Int) : Prop :=
  (0 ≤ m 11 ∧ m 11 ≤ 8) ∧ (∀ i : Int, 0 ≤ i → i < m 11 → xf_wd (m (18 + i)) ∧ (0 ≤ m (2 + i) ∧ m (2 + i) ≤ 99) ∧ (0 ≤ m (26 + i) ∧ m (26 + i) ≤ 255)) ∧
  (0 ≤ m 10 ∧ m 10 ≤ 5) ∧ (∀ i : Int, 0 ≤ i → i < m 10 → (0 ≤ m (34 + i) ∧ m (34 + i) ≤ 6) ∧ (0 ≤ m (39 + i) ∧ m (39 + i) ≤ 9) ∧ ∀ k : Int, 0 ≤ k → k < 4 → 0 ≤ m (44 + 4 * i + k) ∧ m (44 + 4 * i + k) ≤ 9) ∧
  (0 ≤ m 16 ∧ m 16 ≤ 6) ∧ (0 ≤ m 1 ∧ m 1 ≤ 1000000) ∧ (-1 ≤ m 17 ∧ m 17 ≤ 4) ∧ (0 ≤ xf_stp m ∧ xf_stp m ≤ 99) ∧ (0 ≤ xf_lim m ∧ xf_lim m ≤ 99)
theorem c_M_indexOf {lev : Nat} {h : xq_H} {Q : Option xq_V → xq_H → Prop} {w : Int} (hl : 1 ≤ lev) (hn : 0 ≤ h 65 11 ∧ h 65 11 ≤ 8) (h1 : Q (some (xI (xf_num (h 65) w))) h) : xq_met lev y_M_indexOf [xR 64, xI w] 81 h Q := by
  refine en_M_indexOf (by omega) (fun K hK => ?_)
  unfold xf_num at h1
  have loop : ∀ (d i : Nat) (iI : Int), (i : Int) + d = h 65 11 → iI = i → (∀ k : Nat, k < i → h 65 (18 + k) ≠ w) → K 2 [some (xR 64), some (xI w), some (xI iI)] [] 81 h := by
    intro d
    induction d with
    | zero =>
      intro i iI hd ei hno
      refine xq_go hK [2] 60 ?_
      refine And.intro (by omega) ?_
      refine And.intro (fun c => ?_) (fun c => absurd c (by omega))
      rw [xf_ix_none (fun k hk => hno k (by omega))] at h1
      exact h1
    | succ d ih =>
      intro i iI hd ei hno
      refine xq_go hK [2] 60 ?_
      refine And.intro (by omega) ?_
      refine And.intro (fun c => absurd c (by omega)) (fun _ => ?_)
      refine And.intro (by omega) ?_
      refine And.intro (by omega) ?_
      refine And.intro (fun c => ?_) (fun c => ?_)
      · refine And.intro (by omega) ?_
        refine ih (i + 1) _ (by omega) (by omega) (fun k hk => ?_)
        by_cases hki : k = i
        · rw [hki, ← ei]; exact c
        · exact hno k (by omega)
      · rw [ei] at c ⊢
        rw [xf_ix_hit (i := i) (by omega) hno c] at h1
        exact h1
  refine xq_go hK [2] 60 ?_
  exact loop (h 65 11).toNat 0 _ (by omega) rfl (fun k hk => by omega)
theorem c_W_numberOf {lev : Nat} {h : xq_H} {Q : Option xq_V → xq_H → Prop} {w : Int} (hl : 1 ≤ lev) (hn : 0 ≤ h 3 5 ∧ h 3 5 ≤ 8) (h1 : Q (some (xI (xf_ix (h 4) w (h 3 5).toNat))) h) : xq_met lev y_W_numberOf [xR 3, xI w] 81 h Q := by
  refine en_W_numberOf (by omega) (fun K hK => ?_)
  have loop : ∀ (d i : Nat) (iI : Int), (i : Int) + d = h 3 5 → iI = i → (∀ k : Nat, k < i → h 4 k ≠ w) → K 2 [some (xR 3), some (xI w), some (xI iI)] [] 81 h := by
    intro d
    induction d with
    | zero =>
      intro i iI hd ei hno
      refine xq_go hK [2] 60 ?_
      refine And.intro (fun c => ?_) (fun c => absurd c (by omega))
      rw [xf_ix_none (fun k hk => hno k (by omega))] at h1
      exact h1
    | succ d ih =>
      intro i iI hd ei hno
      refine xq_go hK [2] 60 ?_
      refine And.intro (fun c => absurd c (by omega)) (fun _ => ?_)
      refine And.intro (by omega) ?_
      refine And.intro (fun c => ?_) (fun c => ?_)
      · refine And.intro (by omega) ?_
        refine ih (i + 1) _ (by omega) (by omega) (fun k hk => ?_)
        by_cases hki : k = i
        · rw [hki, ← ei]; exact c
        · exact hno k (by omega)
      · rw [ei] at c ⊢
        rw [xf_ix_hit (i := i) (by omega) hno c] at h1
        exact h1
  refine xq_go hK [2] 60 ?_
  exact loop (h 3 5).toNat 0 _ (by omega) rfl (fun k hk => by omega)
theorem c_W_has {lev : Nat} {h : xq_H} {Q : Option xq_V → xq_H → Prop} {i : Int} (hl : 1 ≤ lev) (h1 : 0 ≤ i ∧ i < h 3 5 → Q (some (xI 1)) h) (h0 : ¬ (0 ≤ i ∧ i < h 3 5) → Q (some (xI 0)) h) : xq_met lev y_W_has [xR 3, xI i] 81 h Q := by
  refine en_W_has hl (fun K hK => ?_)
  refine xq_go hK [] 60 ?_
  repeat' (first | (refine And.intro ?_ ?_) | (intro _))
  all_goals first | omega | exact h1 (by omega) | exact h0 (by omega)
theorem c_C_has {lev : Nat} {h : xq_H} {Q : Option xq_V → xq_H → Prop} {i : Int} (hl : 1 ≤ lev) (h1 : 0 ≤ i ∧ i < h 9 3 → Q (some (xI 1)) h) (h0 : ¬ (0 ≤ i ∧ i < h 9 3) → Q (some (xI 0)) h) : xq_met lev y_C_has [xR 9, xI i] 81 h Q := by
  refine en_C_has hl (fun K hK => ?_)
  refine xq_go hK [] 60 ?_
  repeat' (first | (refine And.intro ?_ ?_) | (intro _))
  all_goals first | omega | exact h1 (by omega) | exact h0 (by omega)
theorem c_M_isMender {lev : Nat} {h : xq_H} {Q : Option xq_V → xq_H → Prop} {i : Int} (hl : 2 ≤ lev) (hm : 0 ≤ h 65 10 ∧ h 65 10 ≤ 5) (h1 : 0 ≤ i ∧ i < h 65 10 → Q (some (xI 1)) h) (h0 : ¬ (0 ≤ i ∧ i < h 65 10) → Q (some (xI 0)) h) : xq_met lev y_M_isMender [xR 64, xI i] 81 h Q := by
  refine en_M_isMender (by omega) (fun K hK => ?_)
  refine xq_go hK [] 60 ?_
  refine And.intro (by omega) ?_
  refine And.intro (by omega) ?_
  refine ⟨lev - 1, by omega, c_M_in (by omega) (fun hi => ?_) (fun hi => ?_)⟩
  · exact And.intro (Or.inr rfl) (h1 (by omega))
  · exact And.intro (Or.inl rfl) (h0 (by omega))
theorem c_M_isListed {lev : Nat} {h : xq_H} {Q : Option xq_V → xq_H → Prop} {i : Int} (hl : 2 ≤ lev) (hm : 0 ≤ h 65 11 ∧ h 65 11 ≤ 8) (h1 : 0 ≤ i ∧ i < h 65 11 → Q (some (xI 1)) h) (h0 : ¬ (0 ≤ i ∧ i < h 65 11) → Q (some (xI 0)) h) : xq_met lev y_M_isListed [xR 64, xI i] 81 h Q := by
  refine en_M_isListed (by omega) (fun K hK => ?_)
  refine xq_go hK [] 60 ?_
  refine And.intro (by omega) ?_
  refine And.intro (by omega) ?_
  refine ⟨lev - 1, by omega, c_M_in (by omega) (fun hi => ?_) (fun hi => ?_)⟩
  · exact And.intro (Or.inr rfl) (h1 (by omega))
  · exact And.intro (Or.inl rfl) (h0 (by omega))
theorem c_K_kindOf {lev : Nat} {h : xq_H} {Q : Option xq_V → xq_H → Prop} {i : Int} (hl : 2 ≤ lev) (hi : 0 ≤ i ∧ i < h 9 3) (hm : h 9 3 ≤ 5) (h1 : Q (some (xI (h 10 i))) h) : xq_met lev y_K_kindOf [xR 1, xI i] 81 h Q := by
  refine en_K_kindOf (by omega) (fun K hK => ?_)
  refine xq_go hK [] 60 ?_
  refine ⟨lev - 1, by omega, c_C_has (by omega) (fun _ => ?_) (fun z => absurd hi z)⟩
  refine And.intro (fun c => absurd c (by decide)) (fun _ => ?_)
  refine And.intro (by omega) ?_
  exact h1
theorem c_M_isLeft {lev : Nat} {h : xq_H} {Q : Option xq_V → xq_H → Prop} {w : Int} (hl : 1 ≤ lev) (hn : 0 ≤ h 65 16 ∧ h 65 16 ≤ 6) (h1 : xf_lft (h 65) w → Q (some (xI 1)) h) (h0 : ¬ xf_lft (h 65) w → Q (some (xI 0)) h) : xq_met lev y_M_isLeft [xR 64, xI w] 81 h Q := by
  refine en_M_isLeft (by omega) (fun K hK => ?_)
  have loop : ∀ (d i : Nat) (iI b : Int), (i : Int) + d = h 65 16 → iI = i → (b = 1 ∧ (∃ k : Nat, k < i ∧ h 65 (104 + k) = w) ∨ b = 0 ∧ ¬ ∃ k : Nat, k < i ∧ h 65 (104 + k) = w) → K 4 [some (xR 64), some (xI w), some (xI b), some (xI iI)] [] 81 h := by
    intro d
    induction d with
    | zero =>
      intro i iI b hd ei hb
      refine xq_go hK [4] 60 ?_
      refine And.intro (by omega) ?_
      refine And.intro (fun c => ?_) (fun c => absurd c (by omega))
      rcases hb with ⟨rfl, k, hk1, hk2⟩ | ⟨rfl, hb⟩
      · exact And.intro (Or.inr rfl) (h1 ⟨k, by omega, hk2⟩)
      · exact And.intro (Or.inl rfl) (h0 (fun ⟨k, hk1, hk2⟩ => hb ⟨k, by omega, hk2⟩))
    | succ d ih =>
      intro i iI b hd ei hb
      refine xq_go hK [4] 60 ?_
      refine And.intro (by omega) ?_
      refine And.intro (fun c => absurd c (by omega)) (fun _ => ?_)
      rcases hb with ⟨rfl, k, hk1, hk2⟩ | ⟨rfl, hb⟩
      · refine And.intro (fun _ => ?_) (fun z => absurd z (by decide))
        refine And.intro (by omega) ?_
        exact ih (i + 1) _ _ (by omega) (by omega) (Or.inl ⟨rfl, k, by omega, hk2⟩)
      · refine And.intro (fun z => absurd rfl z) (fun _ => ?_)
        refine And.intro (by omega) ?_
        refine And.intro (by omega) ?_
        rw [ei]
        refine And.intro (fun c => ?_) (fun c => ?_)
        · refine And.intro (by omega) ?_
          refine ih (i + 1) _ _ (by omega) (by omega) (Or.inr ⟨rfl, fun ⟨k, hk1, hk2⟩ => ?_⟩)
          by_cases hki : k = i
          · exact c (by rw [← hki]; exact hk2)
          · exact hb ⟨k, by omega, hk2⟩
        · refine And.intro (by omega) ?_
          exact ih (i + 1) _ _ (by omega) (by omega) (Or.inl ⟨rfl, i, by omega, c⟩)
  refine xq_go hK [4] 60 ?_
  exact loop (h 65 16).toNat 0 _ _ (by omega) rfl (Or.inr ⟨rfl, fun ⟨k, hk1, _⟩ => by omega⟩)
theorem c_T_isLeft {lev : Nat} {h : xq_H} {Q : Option xq_V → xq_H → Prop} {w : Int} (hl : 1 ≤ lev) (hn : 0 ≤ h 13 5 ∧ h 13 5 ≤ 6) (h1 : (∃ k : Nat, (k : Int) < h 13 5 ∧ h 16 k = w) → Q (some (xI 1)) h) (h0 : (¬ ∃ k : Nat, (k : Int) < h 13 5 ∧ h 16 k = w) → Q (some (xI 0)) h) : xq_met lev y_T_isLeft [xR 13, xI w] 81 h Q := by
  refine en_T_isLeft (by omega) (fun K hK => ?_)
  have loop : ∀ (d i : Nat) (iI : Int), (i : Int) + d = h 13 5 → iI = i → (∀ k : Nat, k < i → h 16 k ≠ w) → K 2 [some (xR 13), some (xI w), some (xI iI)] [] 81 h := by
    intro d
    induction d with
    | zero =>
      intro i iI hd ei hno
      refine xq_go hK [2] 60 ?_
      refine And.intro (fun c => ?_) (fun c => absurd c (by omega))
      exact And.intro (Or.inl rfl) (h0 (fun ⟨k, hk1, hk2⟩ => hno k (by omega) hk2))
    | succ d ih =>
      intro i iI hd ei hno
      refine xq_go hK [2] 60 ?_
      refine And.intro (fun c => absurd c (by omega)) (fun _ => ?_)
      refine And.intro (by omega) ?_
      rw [ei]
      refine And.intro (fun c => ?_) (fun c => ?_)
      · refine And.intro (by omega) ?_
        refine ih (i + 1) _ (by omega) (by omega) (fun k hk => ?_)
        by_cases hki : k = i
        · rw [hki]; exact c
        · exact hno k (by omega)
      · exact And.intro (Or.inr rfl) (h1 ⟨i, by omega, c⟩)
  refine xq_go hK [2] 60 ?_
  exact loop (h 13 5).toNat 0 _ (by omega) rfl (fun k hk => by omega)
