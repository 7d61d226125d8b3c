/-! WORDS AND LETTERS -/
def xf_ds : Nat → Int → Prop
  | 0, w => w = 0
  | n + 1, w => w = 0 ∨ (1 ≤ w % 10 ∧ w % 10 ≤ 8 ∧ xf_ds n (w / 10))
/-- a word: one to five letters -/
def xf_wd (w : Int) : Prop := 1 ≤ w ∧ w ≤ 88888 ∧ xf_ds 5 w
def xf_sz (w : Int) : Int := if w < 1 then 0 else if w < 10 then 1 else if w < 100 then 2 else if w < 1000 then 3 else if w < 10000 then 4 else 5
theorem xf_szc (w : Int) (h : w ≤ 99999) : (w < 1 ∧ xf_sz w = 0) ∨ (1 ≤ w ∧ w < 10 ∧ xf_sz w = 1) ∨ (10 ≤ w ∧ w < 100 ∧ xf_sz w = 2) ∨ (100 ≤ w ∧ w < 1000 ∧ xf_sz w = 3) ∨ (1000 ≤ w ∧ w < 10000 ∧ xf_sz w = 4) ∨ (10000 ≤ w ∧ w < 100000 ∧ xf_sz w = 5) := by
  unfold xf_sz
  repeat' split
  all_goals omega
def xf_ct : Nat → Int → Int
  | 0, _ => 0
  | n + 1, w => if w = 0 then 0 else 1 + xf_ct n (w / 10)
def xf_small : Nat → Int → Prop
  | 0, w => w = 0
  | n + 1, w => 0 ≤ w ∧ xf_small n (w / 10)
theorem xf_small5 {w : Int} (h : 0 ≤ w ∧ w ≤ 99999) : xf_small 5 w := by
  simp only [xf_small]
  omega
theorem xf_small0 : ∀ n, xf_small n 0
  | 0 => rfl
  | n + 1 => ⟨Int.le_refl _, xf_small0 n⟩
theorem xf_ct_sz {w : Int} (h : 0 ≤ w ∧ w ≤ 99999) : xf_ct 5 w = xf_sz w := by
  unfold xf_sz
  simp only [xf_ct]
  repeat' split
  all_goals omega
/-- a word without its last letters -/
def xf_cut (w : Int) : Nat → Int
  | 0 => w
  | n + 1 => xf_cut w n / 10
def xf_near (a b : Int) : Prop := b - a = 4 ∨ a - b = 4 ∨ ((b - a = 1 ∨ a - b = 1) ∧ ¬ a + b = 9)
theorem xf_xor_nn {a b : Int} (ha : 0 ≤ a ∧ a ≤ 2147483647) (hb : 0 ≤ b ∧ b ≤ 2147483647) : 0 ≤ xq_xor a b := by
  obtain ⟨n, rfl⟩ := Int.eq_ofNat_of_zero_le ha.1
  obtain ⟨m, rfl⟩ := Int.eq_ofNat_of_zero_le hb.1
  unfold xq_xor
  have e : (Int32.ofInt (n : Int) ^^^ Int32.ofInt (m : Int)) = Int32.ofInt ((n ^^^ m : Nat) : Int) := by
    apply Int32.toBitVec_inj.mp
    show BitVec.ofInt 32 n ^^^ BitVec.ofInt 32 m = BitVec.ofInt 32 ((n ^^^ m : Nat) : Int)
    rw [BitVec.ofInt_natCast, BitVec.ofInt_natCast, BitVec.ofInt_natCast, BitVec.ofNat_xor]
  rw [e, xi_of]
  · omega
  · have : n ^^^ m < 2 ^ 31 := Nat.xor_lt_two_pow (by omega) (by omega)
    omega
theorem c_JM_min {lev : Nat} {h : xq_H} {Q : Option xq_V → xq_H → Prop} {a b : Int} (hl : 1 ≤ lev) (hQ : Q (some (xI (min a b))) h) : xq_met lev y_JM_min [xI a, xI b] 81 h Q := by
  refine en_JM_min hl (fun K hK => ?_)
  refine xq_go hK [] 60 ?_
  refine And.intro (fun c => ?_) (fun c => ?_)
  · rw [show min a b = b by omega] at hQ
    exact hQ
  · rw [show min a b = a by omega] at hQ
    exact hQ
theorem c_JM_max {lev : Nat} {h : xq_H} {Q : Option xq_V → xq_H → Prop} {a b : Int} (hl : 1 ≤ lev) (hQ : Q (some (xI (max a b))) h) : xq_met lev y_JM_max [xI a, xI b] 81 h Q := by
  refine en_JM_max hl (fun K hK => ?_)
  refine xq_go hK [] 60 ?_
  refine And.intro (fun c => ?_) (fun c => ?_)
  · rw [show max a b = b by omega] at hQ
    exact hQ
  · rw [show max a b = a by omega] at hQ
    exact hQ
theorem c_JM_floorMod {lev : Nat} {h : xq_H} {Q : Option xq_V → xq_H → Prop} {a b : Int} (hl : 1 ≤ lev) (ha : 0 ≤ a ∧ a ≤ 2147483647) (hb : 0 < b ∧ b ≤ 2147483647) (hQ : Q (some (xI (a % b))) h) : xq_met lev y_JM_floorMod [xI a, xI b] 81 h Q := by
  refine en_JM_floorMod hl (fun K hK => ?_)
  refine xq_go hK [] 60 ?_
  have hx := xf_xor_nn ha (show 0 ≤ b ∧ b ≤ 2147483647 by omega)
  refine And.intro ⟨ha.1, hb.1⟩ ?_
  refine And.intro (fun c => ?_) (fun c => ?_)
  · exact hQ
  · exact absurd hx (by omega)
theorem c_M_in {lev : Nat} {h : xq_H} {Q : Option xq_V → xq_H → Prop} {v lo hi : Int} (hl : 1 ≤ lev) (h1 : lo ≤ v ∧ v ≤ hi → Q (some (xI 1)) h) (h0 : ¬ (lo ≤ v ∧ v ≤ hi) → Q (some (xI 0)) h) : xq_met lev y_M_in [xI v, xI lo, xI hi] 81 h Q := by
  refine en_M_in hl (fun K hK => ?_)
  refine xq_go hK [] 60 ?_
  repeat' (first | (refine And.intro ?_ ?_) | (intro _))
  all_goals first | omega | exact h1 (by omega) | exact h0 (by omega)
theorem c_M_lesser {lev : Nat} {h : xq_H} {Q : Option xq_V → xq_H → Prop} {a b : Int} (hl : 1 ≤ lev) (hQ : Q (some (xI (min a b))) h) : xq_met lev y_M_lesser [xI a, xI b] 81 h Q := by
  refine en_M_lesser hl (fun K hK => ?_)
  refine xq_go hK [] 60 ?_
  refine And.intro (fun c => ?_) (fun c => ?_)
  · rw [show min a b = b by omega] at hQ
    exact hQ
  · rw [show min a b = a by omega] at hQ
    exact hQ
theorem c_X_isNear {lev : Nat} {h : xq_H} {Q : Option xq_V → xq_H → Prop} {a b : Int} (hl : 1 ≤ lev) (ha : 1 ≤ a ∧ a ≤ 8) (hb : 1 ≤ b ∧ b ≤ 8) (h1 : xf_near a b → Q (some (xI 1)) h) (h0 : ¬ xf_near a b → Q (some (xI 0)) h) : xq_met lev y_X_isNear [xI a, xI b] 81 h Q := by
  refine en_X_isNear hl (fun K hK => ?_)
  unfold xf_near at h1 h0
  refine xq_go hK [] 60 ?_
  repeat' (first | (refine And.intro ?_ ?_) | (intro _))
  all_goals first | omega | exact h1 (by omega) | exact h0 (by omega)
theorem c_M_areNear {lev : Nat} {h : xq_H} {Q : Option xq_V → xq_H → Prop} {a b : Int} (hl : 1 ≤ lev) (ha : 1 ≤ a ∧ a ≤ 8) (hb : 1 ≤ b ∧ b ≤ 8) (h1 : xf_near a b → Q (some (xI 1)) h) (h0 : ¬ xf_near a b → Q (some (xI 0)) h) : xq_met lev y_M_areNear [xI a, xI b] 81 h Q := by
  refine en_M_areNear hl (fun K hK => ?_)
  unfold xf_near at h1 h0
  refine xq_go hK [] 60 ?_
  obtain ⟨ha1, ha2⟩ := ha
  obtain ⟨hb1, hb2⟩ := hb
  rcases (show a = 1 ∨ a = 2 ∨ a = 3 ∨ a = 4 ∨ a = 5 ∨ a = 6 ∨ a = 7 ∨ a = 8 by omega) with rfl | rfl | rfl | rfl | rfl | rfl | rfl | rfl <;>
  rcases (show b = 1 ∨ b = 2 ∨ b = 3 ∨ b = 4 ∨ b = 5 ∨ b = 6 ∨ b = 7 ∨ b = 8 by omega) with rfl | rfl | rfl | rfl | rfl | rfl | rfl | rfl <;>
  (repeat' (first | (refine And.intro ?_ ?_) | (intro _))) <;> first | omega | exact h1 (by omega) | exact h0 (by omega)
theorem c_X_isAt {lev : Nat} {h : xq_H} {Q : Option xq_V → xq_H → Prop} {a b : Int} (hl : 1 ≤ lev) (h1 : 0 ≤ a ∧ a < b → Q (some (xI 1)) h) (h0 : ¬ (0 ≤ a ∧ a < b) → Q (some (xI 0)) h) : xq_met lev y_X_isAt [xI a, xI b] 81 h Q := by
  refine en_X_isAt hl (fun K hK => ?_)
  refine xq_go hK [] 60 ?_
  repeat' (first | (refine And.intro ?_ ?_) | (intro _))
  all_goals first | omega | exact h1 (by omega) | exact h0 (by omega)
theorem c_X_lettersOf {lev : Nat} {h : xq_H} {Q : Option xq_V → xq_H → Prop} {w : Int} (hl : 1 ≤ lev) (h1 : xf_wd w → Q (some (xI (xf_sz w))) h) (h0 : ¬ xf_wd w → Q (some (xI 0)) h) : xq_met lev y_X_lettersOf [xI w] 81 h Q := by
  refine en_X_lettersOf hl (fun K hK => ?_)
  have loop : ∀ (n : Nat) (k r : Int) (j : Option xq_V), 0 ≤ k → k + n = 5 → 0 ≤ r → r ≤ 88888 → xf_small n r → (xf_ds n r → Q (some (xI (k + xf_ct n r))) h) → (¬ xf_ds n r → Q (some (xI 0)) h) → K 12 [some (xI w), some (xI k), some (xI r), j] [] 81 h := by
    intro n
    induction n with
    | zero =>
      intro k r j hk0 hk hr hr2 hs q1 q0
      refine xq_go hK [12] 60 ?_
      refine And.intro (fun c => ?_) (fun c => absurd c (by omega))
      have q2 := q1 hs
      simp only [xf_ct, Int.add_zero] at q2
      exact q2
    | succ n ih =>
      intro k r j hk0 hk hr hr2 hs q1 q0
      refine xq_go hK [12] 60 ?_
      refine And.intro (fun c => absurd c (by omega)) (fun _ => ?_)
      refine And.intro (fun c => ?_) (fun c => ?_)
      · have e : r = 0 := by omega
        subst e
        have q2 := q1 (Or.inl rfl)
        simp only [xf_ct, if_pos, Int.add_zero] at q2
        exact q2
      · refine And.intro (by omega) ?_
        refine And.intro (fun c2 => q0 (fun z => by rcases z with z | z <;> omega)) (fun c2 => ?_)
        refine And.intro (fun c3 => ?_) (fun c3 => q0 (fun z => by rcases z with z | z <;> omega))
        refine And.intro (by omega) ?_
        refine And.intro (by omega) ?_
        refine ih (k + 1) (r / 10) _ (by omega) (by omega) (by omega) (by omega) hs.2 (fun z => ?_) (fun z => q0 (fun y => ?_))
        · have q2 := q1 (Or.inr ⟨by omega, by omega, z⟩)
          rw [xf_ct, if_neg (by omega), ← Int.add_assoc] at q2
          exact q2
        · rcases y with y | y
          · omega
          · exact z y.2.2
  refine xq_go hK [12] 60 ?_
  refine And.intro (fun c => h0 (fun z => by have := z.1; omega)) (fun c => ?_)
  refine And.intro (fun c2 => ?_) (fun c2 => h0 (fun z => by have := z.2.1; omega))
  refine loop 5 0 w _ (by omega) (by omega) (by omega) (by omega) (xf_small5 (by omega)) (fun z => ?_) (fun z => h0 (fun y => z y.2.2))
  rw [xf_ct_sz (by omega), Int.zero_add]
  exact h1 ⟨by omega, by omega, z⟩
theorem c_X_isWord {lev : Nat} {h : xq_H} {Q : Option xq_V → xq_H → Prop} {w : Int} (hl : 2 ≤ lev) (h1 : xf_wd w → Q (some (xI 1)) h) (h0 : ¬ xf_wd w → Q (some (xI 0)) h) : xq_met lev y_X_isWord [xI w] 81 h Q := by
  refine en_X_isWord (by omega) (fun K hK => ?_)
  refine xq_go hK [] 60 ?_
  refine ⟨lev - 1, by omega, c_X_lettersOf (by omega) (fun hw => ?_) (fun hw => ?_)⟩
  · have h3 := xf_szc w (by have := hw.2.1; omega)
    have h4 := hw.1
    refine And.intro (fun c => absurd c (by omega)) (fun c => ?_)
    exact And.intro (Or.inr rfl) (h1 hw)
  · refine And.intro (fun c => ?_) (fun c => absurd c (by omega))
    exact And.intro (Or.inl rfl) (h0 hw)
theorem c_M_isWord {lev : Nat} {h : xq_H} {Q : Option xq_V → xq_H → Prop} {w : Int} (hl : 2 ≤ lev) (h1 : xf_wd w → Q (some (xI 1)) h) (h0 : ¬ xf_wd w → Q (some (xI 0)) h) : xq_met lev y_M_isWord [xI w] 81 h Q := by
  refine en_M_isWord (by omega) (fun K hK => ?_)
  have loop : ∀ (n : Nat) (r : Int), 0 ≤ r → r ≤ 88888 → xf_small n r → (xf_ds n r → Q (some (xI 1)) h) → (¬ xf_ds n r → Q (some (xI 0)) h) → K 7 [some (xI w), some (xI 1), some (xI r)] [] 81 h := by
    intro n
    induction n with
    | zero =>
      intro r hr hr2 hs q1 q0
      refine xq_go hK [7] 60 ?_
      refine And.intro (fun c => absurd c (by decide)) (fun _ => ?_)
      have e : r = 0 := hs
      refine And.intro (fun c => ?_) (fun c => absurd c (by omega))
      exact And.intro (Or.inr rfl) (q1 hs)
    | succ n ih =>
      intro r hr hr2 hs q1 q0
      refine xq_go hK [7] 60 ?_
      refine And.intro (fun c => absurd c (by decide)) (fun _ => ?_)
      refine And.intro (fun c => ?_) (fun c => ?_)
      · exact And.intro (Or.inr rfl) (q1 (Or.inl (by omega)))
      · refine And.intro (by omega) ?_
        refine ⟨lev - 1, by omega, c_M_in (by omega) (fun hi => ?_) (fun hi => ?_)⟩
        · refine And.intro (by omega) ?_
          refine ih (r / 10) (by omega) (by omega) hs.2 (fun z => q1 (Or.inr ⟨hi.1, hi.2, z⟩)) (fun z => q0 (fun y => ?_))
          rcases y with y | y
          · omega
          · exact z y.2.2
        · refine And.intro (by omega) ?_
          refine xq_go hK [] 60 ?_
          refine And.intro (fun _ => ?_) (fun c => absurd rfl c)
          refine And.intro (Or.inl rfl) (q0 (fun y => ?_))
          rcases y with y | y
          · omega
          · exact hi ⟨y.1, y.2.1⟩
  refine xq_go hK [7] 60 ?_
  refine ⟨lev - 1, by omega, c_M_in (by omega) (fun hi => ?_) (fun hi => ?_)⟩
  · exact loop 5 w (by omega) (by omega) (xf_small5 (by omega)) (fun z => h1 ⟨hi.1, hi.2, z⟩) (fun z => h0 (fun y => z y.2.2))
  · refine xq_go hK [] 60 ?_
    refine And.intro (fun _ => ?_) (fun c => absurd rfl c)
    exact And.intro (Or.inl rfl) (h0 (fun y => hi ⟨y.1, y.2.1⟩))
theorem c_M_size {lev : Nat} {h : xq_H} {Q : Option xq_V → xq_H → Prop} {w : Int} (hl : 1 ≤ lev) (hw : 0 ≤ w ∧ w ≤ 99999) (h1 : Q (some (xI (xf_sz w))) h) : xq_met lev y_M_size [xI w] 81 h Q := by
  refine en_M_size (by omega) (fun K hK => ?_)
  have loop : ∀ (n : Nat) (k r : Int), 0 ≤ k → k + n ≤ 5 → 0 ≤ r → r ≤ 99999 → xf_small n r → Q (some (xI (k + xf_ct n r))) h → K 4 [some (xI w), some (xI k), some (xI r)] [] 81 h := by
    intro n
    induction n with
    | zero =>
      intro k r hk hk2 hr hr2 hs q
      refine xq_go hK [4] 60 ?_
      have e : r = 0 := hs
      refine And.intro (fun c => ?_) (fun c => absurd c (by omega))
      simp only [xf_ct, Int.add_zero] at q
      exact q
    | succ n ih =>
      intro k r hk hk2 hr hr2 hs q
      refine xq_go hK [4] 60 ?_
      refine And.intro (fun c => ?_) (fun c => ?_)
      · rw [xf_ct, if_pos (by omega), Int.add_zero] at q
        exact q
      · refine And.intro (by omega) ?_
        refine And.intro (by omega) ?_
        rw [xf_ct, if_neg (by omega), ← Int.add_assoc] at q
        exact ih (k + 1) (r / 10) (by omega) (by omega) (by omega) (by omega) hs.2 q
  refine xq_go hK [4] 60 ?_
  refine loop 5 0 w (by omega) (by omega) (by omega) (by omega) (xf_small5 hw) ?_
  rw [xf_ct_sz hw, Int.zero_add]
  exact h1
