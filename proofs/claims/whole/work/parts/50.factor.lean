/-! A FACTOR -/
theorem xp_test_S {g : Int → Int} {N o p : Int} {k L : Nat} (G : xp_g g N) (hp : 0 ≤ p ∧ p ≤ N) (hL : 13 ≤ L) (c1 : ¬ xp_pk g N p = 33) (c2 : ¬ xp_pk g N p = 40) : xp_S y_R_readFactor y_M_factor g N o p (1 + 2 * k) L := by
  have gN := G.1
  have bd := xp_test_bd G hp
  refine ⟨((xp_test g N p).1, if (xp_test g N p).2 = -1 then none else some [(xp_test g N p).2]), ⟨⟨bd.1, bd.2.1⟩, fun l hl => ?_⟩, ?_, ?_⟩
  · by_cases c : (xp_test g N p).2 = -1
    · simp only [if_pos c] at hl
      exact absurd hl (by simp)
    · simp only [if_neg c, Option.some.injEq] at hl
      have b3 := bd.2.2 c
      rw [← hl]
      refine ⟨by dsimp only; omega, by show ((1 : Nat) : Int) ≤ _; dsimp only; omega, fun s hs => Or.inl ⟨b3.1, by omega, rfl⟩⟩
  · intro lev h Q hlv t e3 hz q1 q0
    refine en_R_readFactor (by omega) (fun K hK => ?_)
    refine xq_go hK [] 60 ?_
    refine ⟨lev - 1, by omega, c_R_peek (by omega) t G (by omega) ?_⟩
    rw [e3]
    refine And.intro (fun z => absurd z c1) (fun _ => ?_)
    refine And.intro (fun z => absurd z c2) (fun _ => ?_)
    refine ⟨lev - 1, by omega, c_R_readTest (by omega) t G e3 hp hz (fun z h' O => ?_) (fun z h' s' e' => ?_)⟩
    · exact And.intro (Or.inr rfl) (q1 [(xp_test g N p).2] (if_neg z) h' O)
    · exact And.intro (Or.inl rfl) (q0 (if_pos z) h' s' e')
  · intro lev h Q hlv I q1 q0
    refine en_M_factor (by omega) (fun K hK => ?_)
    obtain ⟨i1, i2, i3, i4, i5, i6⟩ := I
    unfold xp_test at q1 q0
    refine xq_go hK [92] 120 ?_
    refine And.intro (fun _ => ?_) (fun z => absurd i4 z)
    refine ⟨lev - 1, by omega, c_M_here (by omega) i1 G (by omega) ?_⟩
    rw [i2]
    refine And.intro (fun z => absurd z c1) (fun _ => ?_)
    refine And.intro (fun _ => ?_) (fun z => absurd z c2)
    -- once it is wrong, figures read nothing and nothing is emitted
    have wrong : ∀ (h' : xq_H) (p' w1 w2 : Int), xm_c h h' p' 1 → (0 ≤ p' ∧ p' ≤ N) → (-1 ≤ w1 ∧ w1 ≤ 6) → (-1 ≤ w2 ∧ w2 ≤ 6) → Q none h' → (∀ h2, xm_c h h2 p' 1 → Q none h2) → K 92 [some (xR 64), some (xI (xp_pk g N p)), some (xI w1), some (xI w2), none] [] 81 h' := by
      intro h' p' w1 w2 a hp' hw1 hw2 _ qq
      refine xq_go hK [] 60 ?_
      refine ⟨lev - 1, by omega, c_M_figures (by omega) (xm_c_t a i1) G (by rw [a.2.2.1]; exact hp') (Or.inr a.2.2.2) (fun z => absurd z (by rw [a.2.2.2]; decide)) (fun _ h2 a2 => ?_)⟩
      refine And.intro (by omega) ?_
      refine And.intro (by omega) ?_
      refine And.intro (by decide) ?_
      refine And.intro (by omega) ?_
      rw [a.2.2.1] at a2
      refine ⟨lev - 1, by omega, c_M_emits_w (by omega) a2.2.2.2 ?_⟩
      exact qq h2 (xm_c_tr a a2)
    refine ⟨lev - 1, by omega, c_M_among_8 (by omega) i1 G (by omega) (fun w ew hw hN => ?_) (fun ew => ?_)⟩
    · rw [i2] at ew hN
      refine And.intro (fun _ => ?_) (fun z => absurd z (by omega))
      refine And.intro (Or.inl rfl) ?_
      refine And.intro (fun _ => ?_) (fun z => absurd (by rw [xu_eq]) z)
      obtain ⟨h1, hh1⟩ : ∃ h1, h1 = xq_u (xq_u h 64 6 (h 64 6 + 1)) 64 8 0 := ⟨_, rfl⟩
      have a1 : xm_c h h1 (p + 1) 0 := by
        rw [hh1]
        exact ⟨xs_u (xs_u xs_rf (by decide) _ _) (by decide) _ _, fun k k1 k2 => by rw [xu_ne k2, xu_ne k1], by rw [xu_ne (by decide), xu_eq, i2], xu_eq⟩
      have hw6 := xp_w_bd (xp_pk g N p)
      rw [if_neg (show ¬ xp_w (xp_pk g N p) = -1 by omega)] at q1 q0
      rw [← hh1]
      have t1 := xm_c_t a1 i1
      refine ⟨lev - 1, by omega, c_M_among_9 (by omega) t1 G (by rw [a1.2.2.1]; omega) (fun v ev hv hN2 => ?_) (fun ev => ?_)⟩
      · rw [a1.2.2.1] at ev hN2
        have hh3 := xp_h_bd (xp_pk g N (p + 1))
        rw [if_neg (show ¬ xp_h (xp_pk g N (p + 1)) = -1 by omega)] at q1 q0
        have e8 : xq_u h1 64 6 (h1 64 6 + 1) 64 8 = 0 := by rw [xu_ne (by decide)]; exact a1.2.2.2
        refine And.intro (fun z => absurd e8 z) (fun _ => ?_)
        refine And.intro (fun _ => ?_) (fun z => absurd z (by omega))
        refine And.intro (Or.inl rfl) ?_
        obtain ⟨h2, hh2⟩ : ∃ h2, h2 = xq_u (xq_u h1 64 6 (h1 64 6 + 1)) 64 8 0 := ⟨_, rfl⟩
        have a2 : xm_c h h2 (p + 2) 0 := by
          rw [hh2]
          exact ⟨xs_u (xs_u a1.1 (by decide) _ _) (by decide) _ _, fun k k1 k2 => by rw [xu_ne k2, xu_ne k1]; exact a1.2.1 k k1 k2, by rw [xu_ne (by decide), xu_eq, a1.2.2.1]; omega, xu_eq⟩
        have t2 := xm_c_t a2 i1
        have nb := xp_num_bd (p := p + 2) G (by omega)
        have go : K 92 [some (xR 64), some (xI (xp_pk g N p)), some (xI w), some (xI v), none] [] 81 h2 := by
          refine xq_go hK [] 60 ?_
          refine ⟨lev - 1, by omega, c_M_figures (by omega) t2 G (by rw [a2.2.2.1]; omega) (Or.inl a2.2.2.2) (fun _ nz h3 a3 => ?_) (fun nz h3 a3 => ?_)⟩
          · rw [a2.2.2.1] at nz a3 ⊢
            rw [if_neg nz] at q1
            have A := xm_c_tr a2 a3
            have e5 : h3 64 5 = h 64 5 := A.2.1 5 (by decide) (by decide)
            have e65 : h3 65 = h 65 := A.1 65 (by decide)
            refine And.intro (by omega) ?_
            refine And.intro (by omega) ?_
            refine And.intro (by omega) ?_
            refine And.intro (by omega) ?_
            refine ⟨lev - 1, by omega, c_M_emits (by omega) (by rw [e5]; exact i5) (by rw [e5, e65]; omega) (Or.inl A.2.2.2) (fun _ h4 O4 => ?_) (fun z => absurd z (by rw [A.2.2.2]; decide))⟩
            have O := xp_rO_tr i6.1 (xp_rO_c A) O4
            rw [A.2.2.1] at O
            simp only [List.nil_append] at O
            rw [ew, ev] at O
            have ne : ¬ (xp_w (xp_pk g N p) + 8 * xp_h (xp_pk g N (p + 1)) + 32 * (xp_num g N (p + 2)).2) = -1 := by omega
            exact q1 _ (if_neg ne) h4 O
          · rw [a2.2.2.1] at nz a3
            have nz2 : (xp_num g N (p + 2)).2 = -1 := nz.resolve_left (by rw [a2.2.2.2]; decide)
            rw [if_pos nz2] at q0
            have A := xm_c_tr a2 a3
            refine And.intro (by omega) ?_
            refine And.intro (by omega) ?_
            refine And.intro (by decide) ?_
            refine And.intro (by omega) ?_
            refine ⟨lev - 1, by omega, c_M_emits_w (by omega) A.2.2.2 ?_⟩
            exact q0 rfl h3 (xp_rs_c A) A.2.2.1 A.2.2.2
        rw [hh2] at go
        exact go
      · rw [a1.2.2.1] at ev
        rw [if_pos ev] at q0
        refine And.intro (fun z => absurd a1.2.2.2 z) (fun _ => ?_)
        refine And.intro (fun z => absurd rfl z) (fun _ => ?_)
        refine And.intro (Or.inr rfl) ?_
        have a2 : xm_c h (xq_u h1 64 8 1) (p + 1) 1 := ⟨xs_u a1.1 (by decide) _ _, fun k k1 k2 => by rw [xu_ne k2]; exact a1.2.1 k k1 k2, by rw [xu_ne (by decide)]; exact a1.2.2.1, xu_eq⟩
        have qq : ∀ h2, xm_c h h2 (p + 1) 1 → Q none h2 := fun h2 a => q0 rfl h2 (xp_rs_c a) a.2.2.1 a.2.2.2
        exact wrong _ (p + 1) w (-1) a2 (by omega) (by omega) (by omega) (qq _ a2) qq
    · rw [i2] at ew
      rw [if_pos ew] at q0
      refine And.intro (fun z => absurd rfl z) (fun _ => ?_)
      refine And.intro (Or.inr rfl) ?_
      refine And.intro (fun z => absurd z (by rw [xu_eq]; decide)) (fun _ => ?_)
      refine And.intro (fun _ => ?_) (fun z => absurd z (by rw [xu_eq]; decide))
      refine And.intro (Or.inr rfl) ?_
      have a2 : xm_c h (xq_u (xq_u h 64 8 1) 64 8 1) p 1 := ⟨xs_u (xs_u xs_rf (by decide) _ _) (by decide) _ _, fun k k1 k2 => by rw [xu_ne k2, xu_ne k2], by rw [xu_ne (by decide), xu_ne (by decide)]; exact i2, xu_eq⟩
      have qq : ∀ h2, xm_c h h2 p 1 → Q none h2 := fun h2 a => q0 rfl h2 (xp_rs_c a) a.2.2.1 a.2.2.2
      exact wrong _ p (-1) 0 a2 hp (by omega) (by omega) (qq _ a2) qq
/-- a bracket or a not, with too many open -/
theorem xp_full_S {g : Int → Int} {N p : Int} {k L : Nat} (G : xp_g g N) (hp : 0 ≤ p ∧ p ≤ N) (hL : 13 ≤ L) (c : xp_pk g N p = 33 ∨ xp_pk g N p = 40) : xp_S y_R_readFactor y_M_factor g N 5 p (1 + 2 * k) L := by
  refine ⟨(p, none), ⟨⟨Int.le_refl _, hp.2⟩, fun l hl => absurd hl (by simp)⟩, ?_, ?_⟩
  · intro lev h Q hlv t e3 hz _ q0
    refine en_R_readFactor (by omega) (fun K hK => ?_)
    refine xq_go hK [12] 60 ?_
    refine ⟨lev - 1, by omega, c_R_peek (by omega) t G (by omega) ?_⟩
    rw [e3]
    have go : K 12 [some (xR 54), some (xI 5), some (xI (xp_pk g N p))] [] 81 h := by
      refine xq_go hK [] 60 ?_
      refine And.intro (fun z => absurd z (by decide)) (fun _ => ?_)
      exact And.intro (Or.inl rfl) (q0 rfl h ⟨xs_rf, fun _ _ => rfl, fun _ _ => rfl⟩ e3)
    refine And.intro (fun _ => go) (fun z => ?_)
    exact And.intro (fun _ => go) (fun y => absurd (c.resolve_left z) y)
  · intro lev h Q hlv I _ q0
    refine en_M_factor (by omega) (fun K hK => ?_)
    obtain ⟨i1, i2, i3, i4, i5, i6⟩ := I
    refine xq_go hK [13] 120 ?_
    refine And.intro (fun _ => ?_) (fun z => absurd i4 z)
    refine ⟨lev - 1, by omega, c_M_here (by omega) i1 G (by omega) ?_⟩
    rw [i2]
    have go : K 13 [some (xR 64), some (xI (xp_pk g N p)), none, none, none] [] 81 h := by
      obtain ⟨h1, hh1⟩ : ∃ h1, h1 = xq_u (xq_u (xq_u h 64 8 1) 64 9 6) 64 6 p := ⟨_, rfl⟩
      have f8 : h1 64 8 = 1 := by rw [hh1, xu_ne (by decide), xu_ne (by decide), xu_eq]
      have f9 : h1 64 9 = 6 := by rw [hh1, xu_ne (by decide), xu_eq]
      have f6 : h1 64 6 = p := by rw [hh1, xu_eq]
      have fs : xs_eq [64] h h1 := by
        rw [hh1]
        exact xs_u (xs_u (xs_u xs_rf (by decide) _ _) (by decide) _ _) (by decide) _ _
      have fk : ∀ k : Int, k ≠ 6 → k ≠ 8 → k ≠ 9 → h1 64 k = h 64 k := fun k k1 k2 k3 => by rw [hh1, xu_ne k1, xu_ne k3, xu_ne k2]
      have fin : K 53 [some (xR 64), some (xI (xp_pk g N p)), none, none, none] [] 81 h1 := by
        refine xq_go hK [] 60 ?_
        refine And.intro (by omega) ?_
        refine q0 rfl _ ⟨xs_tr xs_rf (xs_u fs (by decide) _ _) (X := []) (by decide) (by decide), fun k k1 k2 k3 => by rw [xu_ne k3]; exact fk k k1 k2 k3, fun k _ => by rw [xq_u_o (by decide), fs 65 (by decide)], by rw [xu_eq, f9, i3]; rfl⟩ (by rw [xu_ne (by decide)]; exact f6) (by rw [xu_ne (by decide)]; exact f8)
      have mid : K 39 [some (xR 64), some (xI (xp_pk g N p)), none, none, none] [] 81 h1 := by
        refine xq_go hK [53] 60 ?_
        refine And.intro (fun _ => ?_) (fun _ => ?_)
        · refine ⟨lev - 1, by omega, c_M_some_w (by omega) f8 ?_⟩
          have tt : xp_tr h1 g N := ⟨(fk 7 (by decide) (by decide) (by decide)).trans i1.1, fun i x y => by rw [fs 65 (by decide)]; exact i1.2 i x y⟩
          refine ⟨lev - 1, by omega, c_M_must (by omega) tt G (by omega) (by decide) (Or.inr f8) (fun z => absurd z (by omega)) (fun _ h2 a2 => ?_)⟩
          have e9 : h2 64 9 = 6 := (a2.2.1 9 (by decide) (by decide)).trans f9
          refine xq_go hK [] 60 ?_
          refine And.intro (by omega) ?_
          refine q0 rfl _ ⟨xs_tr xs_rf (xs_u (xs_tr fs a2.1 (fun _ z => z) (fun _ z => z)) (by decide) _ _) (X := []) (by decide) (by decide), fun k k1 k2 k3 => by rw [xu_ne k3]; exact (a2.2.1 k k1 k2).trans (fk k k1 k2 k3), fun k _ => by rw [xq_u_o (by decide), a2.1 65 (by decide), fs 65 (by decide)], by rw [xu_eq, e9, i3]; rfl⟩ (by rw [xu_ne (by decide), a2.2.2.1]; exact f6) (by rw [xu_ne (by decide)]; exact a2.2.2.2)
        · refine ⟨lev - 1, by omega, c_M_factor_w (by omega) f8 ?_⟩
          refine ⟨lev - 1, by omega, c_M_emits_w (by omega) f8 ?_⟩
          exact fin
      refine xq_go hK [39] 60 ?_
      refine And.intro (fun z => absurd i3 z) (fun _ => ?_)
      refine And.intro (Or.inr rfl) ?_
      have r9 : xq_u h 64 8 1 64 9 = 5 := by rw [xu_ne (by decide)]; exact i3
      refine And.intro (by omega) ?_
      refine And.intro (fun z => absurd z (by rw [xu_ne (by decide), xu_eq]; decide)) (fun _ => ?_)
      have r6 : xq_u (xq_u h 64 8 1) 64 9 (xq_u h 64 8 1 64 9 + 1) 64 6 = p := by rw [xu_ne (by decide), xu_ne (by decide)]; exact i2
      refine And.intro (by omega) ?_
      rw [r6, r9, show p + 0 = p by omega, show (5 : Int) + 1 = 6 from rfl]
      rw [hh1] at mid
      exact mid
    refine And.intro (fun _ => go) (fun z => ?_)
    exact And.intro (fun y => absurd (c.resolve_left z) y) (fun _ => go)
