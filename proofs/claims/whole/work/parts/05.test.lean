theorem xq_t1 (C : Nat → List xq_V → Nat → xq_H → (Option xq_V → xq_H → Prop) → Prop) (Q : Option xq_V → xq_H → Prop) (K : xq_KT) (hK : xq_sound C rw_X_isNear 80 Q K) (a b : Int) (h : xq_H) (ha : 1 ≤ a ∧ a ≤ 8) (hb : 1 ≤ b ∧ b ≤ 8)
  (hQ : Q (some (xI (if b - a = 4 ∨ a - b = 4 ∨ ((b - a = 1 ∨ a - b = 1) ∧ ¬ a + b = 9) then 1 else 0))) h) : K 0 [some (xI a), some (xI b), none] [] 80 h := by
  refine xq_go hK [] 60 ?_
  refine And.intro (fun c1 => ?_) (fun c1 => ?_)
  · refine And.intro (by omega) ?_
    refine And.intro (fun c2 => ?_) (fun c2 => ?_)
    · refine And.intro (by omega) ?_
      have hQ' := hQ
      rw [if_pos (by omega)] at hQ'
      exact hQ'
    · refine And.intro (fun c3 => ?_) (fun c3 => ?_)
      · refine And.intro (by omega) ?_
        rw [if_neg (by omega)] at hQ
        exact hQ
      · refine And.intro (by omega) ?_
        refine And.intro (fun c4 => ?_) (fun c4 => ?_)
        · refine And.intro (by omega) ?_
          rw [if_neg (by omega)] at hQ
          exact hQ
        · refine And.intro (by omega) ?_
          rw [if_pos (by omega)] at hQ
          exact hQ
  · refine And.intro (by omega) ?_
    refine And.intro (fun c1 => ?_) (fun c1 => ?_)
    · exact (0 : Nat)
    · sorry
theorem xq_t2 (C : Nat → List xq_V → Nat → xq_H → (Option xq_V → xq_H → Prop) → Prop) (Q : Option xq_V → xq_H → Prop) (K : xq_KT) (hK : xq_sound C rw_X_isNear 80 Q K) (a b : Int) (h : xq_H) (ha : 1 ≤ a ∧ a ≤ 8) (hb : 1 ≤ b ∧ b ≤ 8)
  (hQ : Q (some (xI (if b - a = 4 ∨ a - b = 4 ∨ ((b - a = 1 ∨ a - b = 1) ∧ ¬ a + b = 9) then 1 else 0))) h) : K 0 [some (xI a), some (xI b), none] [] 80 h := by
  refine xq_go hK [] 60 ?_
  repeat' (first | (refine And.intro ?_ ?_) | intro _)
  all_goals first | omega | (rw [if_pos (by omega)] at hQ; exact hQ) | (rw [if_neg (by omega)] at hQ; exact hQ)
