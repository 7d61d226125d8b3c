/-! PARSING, its small steps (genread2.py) -/
def xp_w (c : Int) : Int := xf_ix (fun k => (xq_str 8).getD k.toNat 0) c 6
def xp_h (c : Int) : Int := xf_ix (fun k => (xq_str 9).getD k.toNat 0) c 3
theorem xp_w_bd (c : Int) : -1 ≤ xp_w c ∧ xp_w c < 6 := xf_ix_bd _ c 6
theorem xp_h_bd (c : Int) : -1 ≤ xp_h c ∧ xp_h c < 3 := xf_ix_bd _ c 3
/-- a test: the place behind it, and its token; -1 if there is none -/
def xp_test (g : Int → Int) (N p : Int) : Int × Int :=
  if xp_w (xp_pk g N p) = -1 then (p, -1) else if xp_h (xp_pk g N (p + 1)) = -1 then (p + 1, -1) else
  if (xp_num g N (p + 2)).2 = -1 then (p + 2, -1) else ((xp_num g N (p + 2)).1, xp_w (xp_pk g N p) + 8 * xp_h (xp_pk g N (p + 1)) + 32 * (xp_num g N (p + 2)).2)
theorem xp_pos {g : Int → Int} {N p : Int} (G : xp_g g N) (hp : 0 ≤ p) : (0 ≤ xp_w (xp_pk g N p) → p < N) ∧ (0 ≤ xp_h (xp_pk g N p) → p < N) := by
  have b := xp_pk_bd G hp
  have no : ∀ s n : Nat, (∀ k : Nat, k < n → 0 < (xq_str s).getD k 0) → ¬ p < N → xf_ix (fun k => (xq_str s).getD k.toNat 0) (xp_pk g N p) n = -1 := by
    intro s n hs hN
    refine xf_ix_none (fun k hk => ?_)
    have h1 := hs k hk
    rw [show ((k : Nat) : Int).toNat = k by omega]
    intro z
    have h2 : xp_pk g N p = -1 := by
      unfold xp_pk
      rw [if_neg hN]
    omega
  constructor
  · intro h
    by_cases c : p < N
    · exact c
    · have := no 8 6 (by decide) c
      unfold xp_w at h
      omega
  · intro h
    by_cases c : p < N
    · exact c
    · have := no 9 3 (by decide) c
      unfold xp_h at h
      omega
theorem xp_test_bd {g : Int → Int} {N p : Int} (G : xp_g g N) (hp : 0 ≤ p ∧ p ≤ N) : p ≤ (xp_test g N p).1 ∧ (xp_test g N p).1 ≤ N ∧ ((xp_test g N p).2 ≠ -1 → xf_wt (xp_test g N p).2 ∧ p + 3 ≤ (xp_test g N p).1) := by
  have w := xp_w_bd (xp_pk g N p)
  have c := xp_h_bd (xp_pk g N (p + 1))
  have q1 := (xp_pos G hp.1).1
  have q2 := (xp_pos (p := p + 1) G (by omega)).2
  unfold xp_test
  split
  · dsimp only
    omega
  · split
    · dsimp only
      omega
    · have n := xp_num_bd (p := p + 2) G (by omega)
      split
      · dsimp only
        omega
      · dsimp only
        refine ⟨by omega, by omega, fun _ => ⟨?_, by omega⟩⟩
        unfold xf_wt
        omega
/-! the class -/
abbrev xp_cs (h h' : xq_H) : Prop := xs_eq [54, 55, 58] h h' ∧ (∀ k : Int, k ≠ 3 → h' 54 k = h 54 k) ∧ (∀ k : Int, k ≠ 6 → h' 55 k = h 55 k)
theorem xp_cs_tr {h h1 h2 : xq_H} (a : xp_cs h h1) (b : xp_cs h1 h2) : xp_cs h h2 := ⟨xs_tr a.1 b.1 (fun _ z => z) (fun _ z => z), fun k hk => (b.2.1 k hk).trans (a.2.1 k hk), fun k hk => (b.2.2 k hk).trans (a.2.2 k hk)⟩
theorem xp_cs_tc {h h' : xq_H} {g : Int → Int} {N : Int} (a : xp_cs h h') (t : xp_tc h g N) : xp_tc h' g N := xp_tc_fr (a.2.1 1 (by decide)) (a.2.1 2 (by decide)) (a.1 25 (by decide)) t
abbrev xp_cO (h h' : xq_H) (q : Int) (l : List Int) : Prop := xp_cs h h' ∧ h' 54 3 = q ∧ h' 55 6 = h 55 6 + l.length ∧ (∀ k : Int, k < h 55 6 → h' 58 k = h 58 k) ∧ xf_at (h' 58) (h 55 6) (l.map xf_enc)
theorem xp_cO_tr {h h1 h2 : xq_H} {q1 q2 : Int} {l1 l2 : List Int} (a : xp_cO h h1 q1 l1) (b : xp_cO h1 h2 q2 l2) : xp_cO h h2 q2 (l1 ++ l2) := by
  obtain ⟨a1, a2, a3, a4, a5⟩ := a
  obtain ⟨b1, b2, b3, b4, b5⟩ := b
  refine ⟨xp_cs_tr a1 b1, b2, ?_, fun k hk => (b4 k (by omega)).trans (a4 k hk), ?_⟩
  · rw [b3, a3, List.length_append]
    omega
  · rw [List.map_append, xf_at_app, List.length_map]
    refine ⟨xf_at_cp _ _ (fun k x y => ?_) a5, ?_⟩
    · rw [List.length_map] at y
      exact b4 k (by omega)
    · rw [← a3]
      exact b5
/-- a step of the place alone -/
theorem xp_cO_st {h : xq_H} {q : Int} : xp_cO h (xq_u h 54 3 q) q [] := ⟨⟨xs_u xs_rf (by decide) _ _, fun k hk => xu_ne hk, fun k _ => by rw [xq_u_o (by decide)]⟩, xu_eq, by rw [xq_u_o (by decide)]; show h 55 6 = h 55 6 + ((0 : Nat) : Int); omega, fun k _ => by rw [xq_u_o (by decide)], trivial⟩
theorem c_P_put {lev : Nat} {h : xq_H} {Q : Option xq_V → xq_H → Prop} {t : Int} (hl : 1 ≤ lev) (hz : 0 ≤ h 55 6 ∧ h 55 6 < 100) (hQ : ∀ h', xp_cO h h' (h 54 3) [t] → Q none h') : xq_met lev y_P_put [xR 55, xI (xf_enc t)] 81 h Q := by
  refine en_P_put (by omega) (fun K hK => ?_)
  refine xq_go hK [] 60 ?_
  refine And.intro (fun c => absurd c (by omega)) (fun _ => ?_)
  refine And.intro (fun c => absurd c (by omega)) (fun _ => ?_)
  refine And.intro (by omega) ?_
  have e1 : xq_u h 58 (h 55 6) (xf_enc t) 55 6 = h 55 6 := rfl
  refine And.intro (by omega) ?_
  refine hQ _ ⟨⟨xs_u (xs_u xs_rf (by decide) _ _) (by decide) _ _, fun k _ => by rw [xq_u_o (by decide), xq_u_o (by decide)], fun k hk => by rw [xu_ne hk, xq_u_o (by decide)]⟩, by rw [xq_u_o (by decide), xq_u_o (by decide)], by rw [xu_eq, e1]; rfl, fun k hk => by rw [xq_u_o (by decide), xu_ne (by omega)], ?_⟩
  exact ⟨by rw [xq_u_o (by decide), xu_eq], trivial⟩
theorem xp_enc {w c v : Int} (hw : 0 ≤ w ∧ w < 6) (hc : 0 ≤ c ∧ c < 3) (hv : 0 ≤ v ∧ v ≤ 99) : w * 300 + c * 100 + v = xf_enc (w + 8 * c + 32 * v) := by
  unfold xf_enc
  rw [if_pos (by omega)]
  omega
set_option maxHeartbeats 1000000 in
theorem c_R_readTest {lev : Nat} {h : xq_H} {Q : Option xq_V → xq_H → Prop} {g : Int → Int} {N p : Int} (hl : 11 ≤ lev) (t : xp_tc h g N) (G : xp_g g N) (ep : h 54 3 = p) (hp : 0 ≤ p ∧ p ≤ N) (hz : 0 ≤ h 55 6 ∧ h 55 6 + (N - p) ≤ 100)
    (h1 : (xp_test g N p).2 ≠ -1 → ∀ h', xp_cO h h' (xp_test g N p).1 [(xp_test g N p).2] → Q (some (xI 1)) h')
    (h0 : (xp_test g N p).2 = -1 → ∀ h', xp_cs h h' → h' 54 3 = (xp_test g N p).1 → Q (some (xI 0)) h') : xq_met lev y_R_readTest [xR 54] 81 h Q := by
  refine en_R_readTest (by omega) (fun K hK => ?_)
  have w := xp_w_bd (xp_pk g N p)
  have c := xp_h_bd (xp_pk g N (p + 1))
  have bd := xp_test_bd G hp
  unfold xp_test at h1 h0 bd
  refine xq_go hK [] 60 ?_
  refine ⟨lev - 1, by omega, c_R_readOneOf_8 (by omega) t G (by omega) (fun k1 e1 hk1 hN1 => ?_) (fun e1 => ?_)⟩
  · rw [ep] at e1 hN1
    have e1' : k1 = xp_w (xp_pk g N p) := e1
    rw [if_neg (show ¬ xp_w (xp_pk g N p) = -1 by omega)] at h1 h0 bd
    refine And.intro (fun _ => ?_) (fun z => absurd z (by omega))
    have O1 : xp_cO h (xq_u h 54 3 (h 54 3 + 1)) (h 54 3 + 1) [] := xp_cO_st
    have t1 := xp_cs_tc O1.1 t
    have p1 : xq_u h 54 3 (h 54 3 + 1) 54 3 = p + 1 := by rw [xu_eq, ep]
    generalize xq_u h 54 3 (h 54 3 + 1) = H1 at O1 t1 p1 ⊢
    refine ⟨lev - 1, by omega, c_R_readOneOf_9 (by omega) t1 G (by omega) (fun k2 e2 hk2 hN2 => ?_) (fun e2 => ?_)⟩
    · rw [p1] at e2 hN2
      have e2' : k2 = xp_h (xp_pk g N (p + 1)) := e2
      rw [if_neg (show ¬ xp_h (xp_pk g N (p + 1)) = -1 by omega)] at h1 h0 bd
      refine And.intro (fun _ => ?_) (fun z => absurd z (by omega))
      have O2 : xp_cO H1 (xq_u H1 54 3 (H1 54 3 + 1)) (H1 54 3 + 1) [] := xp_cO_st
      have t2 := xp_cs_tc O2.1 t1
      have p2 : xq_u H1 54 3 (H1 54 3 + 1) 54 3 = p + 2 := by rw [xu_eq, p1]; omega
      have O12 := xp_cO_tr O1 O2
      generalize xq_u H1 54 3 (H1 54 3 + 1) = H2 at O2 t2 p2 O12 ⊢
      have n := xp_num_bd (p := p + 2) G (by omega)
      refine ⟨lev - 1, by omega, c_R_readNumber (by omega) t2 G (by omega) (fun H3 s3 k3 e3 => ?_)⟩
      rw [p2] at e3 ⊢
      have C3 : xp_cs H2 H3 := ⟨xs_tr xs_rf s3 (X := []) (by decide) (by decide), k3, fun k _ => by rw [s3 55 (by decide)]⟩
      have z3 : H3 55 6 = h 55 6 := by
        rw [s3 55 (by decide), O12.2.2.1]
        show h 55 6 + ((0 : Nat) : Int) = _
        omega
      have O3 : xp_cO h H3 (xp_num g N (p + 2)).1 [] := by
        refine ⟨xp_cs_tr O12.1 C3, e3, ?_, fun k hk => by rw [s3 58 (by decide)]; exact O12.2.2.2.1 k hk, trivial⟩
        rw [z3]
        show h 55 6 = h 55 6 + ((0 : Nat) : Int)
        omega
      by_cases c2 : (xp_num g N (p + 2)).2 = -1
      · rw [if_pos c2] at h0
        refine And.intro (fun z => absurd z (by omega)) (fun _ => ?_)
        refine And.intro (Or.inl rfl) (h0 rfl H3 O3.1 ?_)
        rw [O3.2.1]
        exact n.2.2.2.2.1 c2
      · rw [if_neg c2] at h1 bd
        refine And.intro (fun _ => ?_) (fun z => absurd z (by omega))
        refine And.intro (by omega) ?_
        refine And.intro (by omega) ?_
        refine And.intro (by omega) ?_
        refine And.intro (by omega) ?_
        have een := xp_enc (w := k1) (c := k2) (v := (xp_num g N (p + 2)).2) (by omega) (by omega) (by omega)
        rw [een]
        refine ⟨lev - 1, by omega, c_P_put (by omega) (by omega) (fun H4 O4 => ?_)⟩
        have O := xp_cO_tr O3 O4
        rw [e3] at O
        have ne : (xp_w (xp_pk g N p) + 8 * xp_h (xp_pk g N (p + 1)) + 32 * (xp_num g N (p + 2)).2) ≠ -1 := by omega
        have q := h1 ne H4
        dsimp only at q
        rw [← e1', ← e2'] at q
        exact And.intro (Or.inr rfl) (q O)
    · rw [p1] at e2
      have e2' : xp_h (xp_pk g N (p + 1)) = -1 := e2
      rw [if_pos e2'] at h0
      refine And.intro (fun z => absurd z (by decide)) (fun _ => ?_)
      exact And.intro (Or.inl rfl) (h0 rfl H1 O1.1 p1)
  · rw [ep] at e1
    have e1' : xp_w (xp_pk g N p) = -1 := e1
    rw [if_pos e1'] at h0
    refine And.intro (fun z => absurd z (by decide)) (fun _ => ?_)
    exact And.intro (Or.inl rfl) (h0 rfl h ⟨xs_rf, fun _ _ => rfl, fun _ _ => rfl⟩ ep)
/-! the reference -/
abbrev xp_tr (h : xq_H) (g : Int → Int) (N : Int) : Prop := h 64 7 = N ∧ ∀ i : Int, 0 ≤ i → i < N → h 65 (134 + i) = g i
/-- a step of the control alone: the place and whether it is wrong -/
abbrev xm_c (h h' : xq_H) (p w : Int) : Prop := xs_eq [64] h h' ∧ (∀ k : Int, k ≠ 6 → k ≠ 8 → h' 64 k = h 64 k) ∧ h' 64 6 = p ∧ h' 64 8 = w
theorem c_M_here {lev : Nat} {h : xq_H} {Q : Option xq_V → xq_H → Prop} {g : Int → Int} {N : Int} (hl : 1 ≤ lev) (t : xp_tr h g N) (G : xp_g g N) (hp : 0 ≤ h 64 6) (hQ : Q (some (xI (xp_pk g N (h 64 6)))) h) : xq_met lev y_M_here [xR 64] 81 h Q := by
  refine en_M_here (by omega) (fun K hK => ?_)
  obtain ⟨t1, t2⟩ := t
  unfold xp_pk at hQ
  refine xq_go hK [] 60 ?_
  refine And.intro (fun c => ?_) (fun c => ?_)
  · rw [if_neg (by omega)] at hQ
    exact hQ
  · rw [if_pos (by omega)] at hQ
    refine And.intro (by omega) ?_
    refine And.intro (by omega) ?_
    rw [t2 _ hp (by omega)]
    exact hQ
theorem c_M_must {lev : Nat} {h : xq_H} {Q : Option xq_V → xq_H → Prop} {g : Int → Int} {N c : Int} (hl : 2 ≤ lev) (t : xp_tr h g N) (G : xp_g g N) (hp : 0 ≤ h 64 6 ∧ h 64 6 ≤ N) (hc : 0 ≤ c) (hw : h 64 8 = 0 ∨ h 64 8 = 1)
    (h1 : h 64 8 = 0 → xp_pk g N (h 64 6) = c → h 64 6 < N → ∀ h', xm_c h h' (h 64 6 + 1) 0 → Q none h')
    (h0 : (h 64 8 = 1 ∨ ¬ xp_pk g N (h 64 6) = c) → ∀ h', xm_c h h' (h 64 6) 1 → Q none h') : xq_met lev y_M_must [xR 64, xI c] 81 h Q := by
  refine en_M_must (by omega) (fun K hK => ?_)
  have b := xp_pk_bd G hp.1
  have bad : (h 64 8 = 1 ∨ ¬ xp_pk g N (h 64 6) = c) → K 11 [some (xR 64), some (xI c)] [xI 1, xR 64] 81 h := by
    intro z
    refine xq_go hK [] 60 ?_
    refine And.intro (Or.inr rfl) ?_
    refine And.intro (fun y => absurd y (by rw [xu_eq]; decide)) (fun _ => ?_)
    have e6 : xq_u h 64 8 1 64 6 = h 64 6 := xu_ne (by decide)
    refine And.intro (by omega) ?_
    refine h0 z _ ⟨xs_u (xs_u xs_rf (by decide) _ _) (by decide) _ _, fun k k1 k2 => by rw [xu_ne k1, xu_ne k2], by rw [xu_eq, e6]; omega, by rw [xu_ne (by decide), xu_eq]⟩
  refine xq_go hK [11] 60 ?_
  refine And.intro (fun z => bad (Or.inl (by omega))) (fun z => ?_)
  refine ⟨lev - 1, by omega, c_M_here (by omega) t G hp.1 ?_⟩
  refine And.intro (fun e => ?_) (fun e => bad (Or.inr e))
  refine xq_go hK [] 60 ?_
  refine And.intro (Or.inl rfl) ?_
  refine And.intro (fun _ => ?_) (fun y => absurd (by rw [xu_eq]) y)
  have e6 : xq_u h 64 8 0 64 6 = h 64 6 := xu_ne (by decide)
  refine And.intro (by omega) ?_
  exact h1 z e (by omega) _ ⟨xs_u (xs_u xs_rf (by decide) _ _) (by decide) _ _, fun k k1 k2 => by rw [xu_ne k1, xu_ne k2], by rw [xu_eq, e6], by rw [xu_ne (by decide), xu_eq]⟩
theorem xm_c_tr {h h1 h2 : xq_H} {p1 w1 p2 w2 : Int} (a : xm_c h h1 p1 w1) (b : xm_c h1 h2 p2 w2) : xm_c h h2 p2 w2 := ⟨xs_tr a.1 b.1 (fun _ z => z) (fun _ z => z), fun k k1 k2 => (b.2.1 k k1 k2).trans (a.2.1 k k1 k2), b.2.2⟩
theorem xm_c_t {h h' : xq_H} {g : Int → Int} {N p w : Int} (a : xm_c h h' p w) (t : xp_tr h g N) : xp_tr h' g N := ⟨(a.2.1 7 (by decide) (by decide)).trans t.1, fun i x y => by rw [a.1 65 (by decide)]; exact t.2 i x y⟩
set_option maxHeartbeats 1000000 in
theorem c_M_figures {lev : Nat} {h : xq_H} {Q : Option xq_V → xq_H → Prop} {g : Int → Int} {N : Int} (hl : 3 ≤ lev) (t : xp_tr h g N) (G : xp_g g N) (hp : 0 ≤ h 64 6 ∧ h 64 6 ≤ N) (hw : h 64 8 = 0 ∨ h 64 8 = 1)
    (h1 : h 64 8 = 0 → (xp_num g N (h 64 6)).2 ≠ -1 → ∀ h', xm_c h h' (xp_num g N (h 64 6)).1 0 → Q (some (xI (xp_num g N (h 64 6)).2)) h')
    (h0 : (h 64 8 = 1 ∨ (xp_num g N (h 64 6)).2 = -1) → ∀ h', xm_c h h' (h 64 6) 1 → Q (some (xI 0)) h') : xq_met lev y_M_figures [xR 64] 81 h Q := by
  refine en_M_figures (by omega) (fun K hK => ?_)
  obtain ⟨p, ep⟩ : ∃ p, p = h 64 6 := ⟨_, rfl⟩
  rw [← ep] at h1 h0 hp
  have b := xp_pk_bd G hp.1
  have b2 := xp_pk_bd G (p := p + 1) (by omega)
  have nb := xp_num_bd G hp
  -- it is wrong
  have bad : ∀ h', xm_c h h' p 1 → (h 64 8 = 1 ∨ (xp_num g N p).2 = -1) → K 14 [some (xR 64), none, none] [] 81 h' := by
    intro h' a z
    have e8 := a.2.2.2
    refine xq_go hK [] 60 ?_
    refine And.intro (fun c => absurd c (by decide)) (fun _ => ?_)
    refine And.intro (fun _ => ?_) (fun c => absurd c (by omega))
    exact h0 z h' a
  have bad2 : (h 64 8 = 1 ∨ (xp_num g N p).2 = -1) → K 13 [some (xR 64), none, none] [xI 1, xR 64] 81 h := by
    intro z
    refine xq_go hK [14] 60 ?_
    refine And.intro (Or.inr rfl) ?_
    exact bad _ ⟨xs_u xs_rf (by decide) _ _, fun k _ k2 => xu_ne k2, by rw [xu_ne (by decide)]; exact ep.symm, xu_eq⟩ z
  -- two figures are read
  have two : ∀ (h' : xq_H) (v : Int), xm_c h h' (xp_num g N p).1 0 → h 64 8 = 0 → v = (xp_num g N p).2 → v ≠ -1 → K 18 [some (xR 64), some (xI v), some (xI 2)] [] 81 h' := by
    intro h' v a z ev hv
    refine xq_go hK [] 60 ?_
    refine And.intro (fun _ => ?_) (fun c => absurd c (by decide))
    rw [ev]
    exact h1 z (by omega) h' a
  refine xq_go hK [13, 18] 60 ?_
  refine And.intro (fun z => bad2 (Or.inl (by omega))) (fun z => ?_)
  refine ⟨lev - 1, by omega, c_M_here (by omega) t G (by omega) ?_⟩
  rw [← ep]
  refine ⟨lev - 1, by omega, c_M_in (by omega) (fun c => ?_) (fun c => ?_)⟩
  · refine And.intro (fun _ => ?_) (fun y => absurd y (by decide))
    have nv : (xp_num g N p).2 ≠ -1 := by
      unfold xp_num
      rw [if_pos c]
      split <;> dsimp only <;> omega
    obtain ⟨g1, hg1⟩ : ∃ g1, g1 = xq_u h 64 8 0 := ⟨_, rfl⟩
    have a1 : xm_c h g1 p 0 := by
      rw [hg1]
      exact ⟨xs_u xs_rf (by decide) _ _, fun k _ k2 => xu_ne k2, by rw [xu_ne (by decide)]; exact ep.symm, xu_eq⟩
    have t1 := xm_c_t a1 t
    have one : K 18 [some (xR 64), some (xI 0), some (xI 0)] [] 81 g1 := by
      have e8 := a1.2.2.2
      have e6 := a1.2.2.1
      refine xq_go hK [18] 60 ?_
      refine And.intro (fun y => absurd y (by decide)) (fun _ => ?_)
      refine And.intro (fun y => absurd e8 y) (fun _ => ?_)
      refine ⟨lev - 1, by omega, c_M_here (by omega) t1 G (by omega) ?_⟩
      rw [e6]
      refine ⟨lev - 1, by omega, c_M_in (by omega) (fun _ => ?_) (fun y => absurd c y)⟩
      refine And.intro (fun y => absurd y (by decide)) (fun _ => ?_)
      refine And.intro (fun _ => ?_) (fun y => absurd rfl y)
      refine And.intro (by decide) ?_
      refine ⟨lev - 1, by omega, c_M_here (by omega) t1 G (by omega) ?_⟩
      rw [e6]
      refine And.intro (by omega) ?_
      refine And.intro (by omega) ?_
      refine And.intro (by omega) ?_
      obtain ⟨g2, hg2⟩ : ∃ g2, g2 = xq_u g1 64 6 (g1 64 6 + 1) := ⟨_, rfl⟩
      have a2 : xm_c h g2 (p + 1) 0 := by
        rw [hg2]
        exact ⟨xs_u a1.1 (by decide) _ _, fun k k1 k2 => by rw [xu_ne k1]; exact a1.2.1 k k1 k2, by rw [xu_eq, e6], by rw [xu_ne (by decide)]; exact e8⟩
      have t2 := xm_c_t a2 t
      have more : ∀ v : Int, v = xp_pk g N p - 48 → K 18 [some (xR 64), some (xI v), some (xI 1)] [] 81 g2 := by
        intro v ev
        have f8 := a2.2.2.2
        have f6 := a2.2.2.1
        have stop : ¬ (xp_pk g N p ≠ 48 ∧ 48 ≤ xp_pk g N (p + 1) ∧ xp_pk g N (p + 1) ≤ 57) → Q (some (xI v)) g2 := by
          intro y
          have q := h1 z nv g2
          unfold xp_num at q
          rw [if_pos c, if_neg y, ← ev] at q
          exact q a2
        refine xq_go hK [18] 60 ?_
        refine And.intro (fun y => absurd y (by decide)) (fun _ => ?_)
        refine And.intro (fun y => absurd f8 y) (fun _ => ?_)
        refine ⟨lev - 1, by omega, c_M_here (by omega) t2 G (by omega) ?_⟩
        rw [f6]
        refine ⟨lev - 1, by omega, c_M_in (by omega) (fun c2 => ?_) (fun c2 => ?_)⟩
        · refine And.intro (fun y => absurd y (by decide)) (fun _ => ?_)
          refine And.intro (fun y => absurd y (by decide)) (fun _ => ?_)
          refine And.intro (fun c3 => stop (by omega)) (fun c3 => ?_)
          refine And.intro (by omega) ?_
          refine ⟨lev - 1, by omega, c_M_here (by omega) t2 G (by omega) ?_⟩
          rw [f6]
          refine And.intro (by omega) ?_
          refine And.intro (by omega) ?_
          refine And.intro (by omega) ?_
          have en : xp_num g N p = (p + 2, 10 * (xp_pk g N p - 48) + (xp_pk g N (p + 1) - 48)) := by
            unfold xp_num
            rw [if_pos c, if_pos ⟨by omega, c2⟩]
          refine And.intro (by omega) ?_
          refine two _ _ ?_ z ?_ (by omega)
          · rw [en]
            exact ⟨xs_u a2.1 (by decide) _ _, fun k k1 k2 => by rw [xu_ne k1]; exact a2.2.1 k k1 k2, by rw [xu_eq, f6]; dsimp only; omega, by rw [xu_ne (by decide)]; exact f8⟩
          · rw [en]
            dsimp only
            omega
        · refine And.intro (fun _ => stop (fun y => c2 y.2)) (fun y => absurd rfl y)
      refine And.intro (by omega) ?_
      rw [hg2] at more
      exact more _ (by omega)
    refine xq_go hK [18] 60 ?_
    refine And.intro (Or.inl rfl) ?_
    rw [hg1] at one
    exact one
  · refine And.intro (fun y => absurd rfl y) (fun _ => bad2 (Or.inr ?_))
    unfold xp_num
    rw [if_neg c]
theorem c_M_among_8 {lev : Nat} {h : xq_H} {Q : Option xq_V → xq_H → Prop} {g : Int → Int} {N : Int} (hl : 5 ≤ lev) (t : xp_tr h g N) (G : xp_g g N) (hp : 0 ≤ h 64 6 ∧ h 64 6 ≤ N)
    (h1 : ∀ k : Int, k = xp_w (xp_pk g N (h 64 6)) → 0 ≤ k → h 64 6 < N → Q (some (xI k)) (xq_u h 64 6 (h 64 6 + 1)))
    (h0 : xp_w (xp_pk g N (h 64 6)) = -1 → Q (some (xI (-1))) h) : xq_met lev y_M_among [xR 64, xR 1108] 81 h Q := by
  refine en_M_among (by omega) (fun K hK => ?_)
  have pos := xp_pos G hp.1
  have loop : ∀ (d i : Nat) (iI : Int), i + d = 6 → iI = i → (∀ k : Nat, k < i → (xq_str 8).getD k 0 ≠ xp_pk g N (h 64 6)) → K 2 [some (xR 64), some (xR 1108), some (xI iI)] [] 81 h := by
    intro d
    induction d with
    | zero =>
      intro i iI hd ei hno
      refine xq_go hK [2] 60 ?_
      refine ⟨lev - 1, by omega, c_JS_length_8 (by omega) ?_⟩
      refine And.intro (fun _ => ?_) (fun z => absurd z (by omega))
      exact h0 (xf_ix_none (fun k hk => hno k (by omega)))
    | succ d ih =>
      intro i iI hd ei hno
      subst ei
      refine xq_go hK [2] 60 ?_
      refine ⟨lev - 1, by omega, c_JS_length_8 (by omega) ?_⟩
      refine And.intro (fun z => absurd z (by omega)) (fun _ => ?_)
      refine ⟨lev - 1, by omega, c_M_here (by omega) t G hp.1 ?_⟩
      refine ⟨lev - 1, by omega, c_JS_charAt_8 (by omega) (by omega) ?_⟩
      refine And.intro (fun e => ?_) (fun e => ?_)
      · refine And.intro (by omega) ?_
        refine ih (i + 1) _ (by omega) (by omega) (fun k hk => ?_)
        by_cases hki : k = i
        · rw [hki]
          exact fun z => e z.symm
        · exact hno k (by omega)
      · have ek : (i : Int) = xp_w (xp_pk g N (h 64 6)) := (xf_ix_hit (f := fun k => (xq_str 8).getD k.toNat 0) (i := i) (by omega) (fun k hk => hno k (by omega)) e.symm).symm
        have hN := pos.1 (by omega)
        refine And.intro (by omega) ?_
        exact h1 i ek (by omega) hN
  refine xq_go hK [2] 60 ?_
  exact loop 6 0 _ (by omega) rfl (fun k hk => by omega)
theorem c_M_among_9 {lev : Nat} {h : xq_H} {Q : Option xq_V → xq_H → Prop} {g : Int → Int} {N : Int} (hl : 5 ≤ lev) (t : xp_tr h g N) (G : xp_g g N) (hp : 0 ≤ h 64 6 ∧ h 64 6 ≤ N)
    (h1 : ∀ k : Int, k = xp_h (xp_pk g N (h 64 6)) → 0 ≤ k → h 64 6 < N → Q (some (xI k)) (xq_u h 64 6 (h 64 6 + 1)))
    (h0 : xp_h (xp_pk g N (h 64 6)) = -1 → Q (some (xI (-1))) h) : xq_met lev y_M_among [xR 64, xR 1109] 81 h Q := by
  refine en_M_among (by omega) (fun K hK => ?_)
  have pos := xp_pos G hp.1
  have loop : ∀ (d i : Nat) (iI : Int), i + d = 3 → iI = i → (∀ k : Nat, k < i → (xq_str 9).getD k 0 ≠ xp_pk g N (h 64 6)) → K 2 [some (xR 64), some (xR 1109), some (xI iI)] [] 81 h := by
    intro d
    induction d with
    | zero =>
      intro i iI hd ei hno
      refine xq_go hK [2] 60 ?_
      refine ⟨lev - 1, by omega, c_JS_length_9 (by omega) ?_⟩
      refine And.intro (fun _ => ?_) (fun z => absurd z (by omega))
      exact h0 (xf_ix_none (fun k hk => hno k (by omega)))
    | succ d ih =>
      intro i iI hd ei hno
      subst ei
      refine xq_go hK [2] 60 ?_
      refine ⟨lev - 1, by omega, c_JS_length_9 (by omega) ?_⟩
      refine And.intro (fun z => absurd z (by omega)) (fun _ => ?_)
      refine ⟨lev - 1, by omega, c_M_here (by omega) t G hp.1 ?_⟩
      refine ⟨lev - 1, by omega, c_JS_charAt_9 (by omega) (by omega) ?_⟩
      refine And.intro (fun e => ?_) (fun e => ?_)
      · refine And.intro (by omega) ?_
        refine ih (i + 1) _ (by omega) (by omega) (fun k hk => ?_)
        by_cases hki : k = i
        · rw [hki]
          exact fun z => e z.symm
        · exact hno k (by omega)
      · have ek : (i : Int) = xp_h (xp_pk g N (h 64 6)) := (xf_ix_hit (f := fun k => (xq_str 9).getD k.toNat 0) (i := i) (by omega) (fun k hk => hno k (by omega)) e.symm).symm
        have hN := pos.2 (by omega)
        refine And.intro (by omega) ?_
        exact h1 i ek (by omega) hN
  refine xq_go hK [2] 60 ?_
  exact loop 3 0 _ (by omega) rfl (fun k hk => by omega)
/-! the reference, as a whole: the steps lie in its row -/
abbrev xp_rs (h h' : xq_H) : Prop := xs_eq [64, 65] h h' ∧ (∀ k : Int, k ≠ 6 → k ≠ 8 → k ≠ 9 → h' 64 k = h 64 k) ∧ (∀ k : Int, ¬ (k = 244 + h 64 5 ∨ 249 + 140 * h 64 5 ≤ k ∧ k < 389 + 140 * h 64 5) → h' 65 k = h 65 k) ∧ h' 64 9 = h 64 9
theorem xp_rs_tr {h h1 h2 : xq_H} (a : xp_rs h h1) (b : xp_rs h1 h2) : xp_rs h h2 := by
  have e5 := a.2.1 5 (by decide) (by decide) (by decide)
  refine ⟨xs_tr a.1 b.1 (fun _ z => z) (fun _ z => z), fun k k1 k2 k3 => (b.2.1 k k1 k2 k3).trans (a.2.1 k k1 k2 k3), fun k hk => (b.2.2.1 k (by omega)).trans (a.2.2.1 k hk), b.2.2.2.trans a.2.2.2⟩
theorem xp_rs_t {h h' : xq_H} {g : Int → Int} {N : Int} (a : xp_rs h h') (h5 : 0 ≤ h 64 5) (hN : N ≤ 100) (t : xp_tr h g N) : xp_tr h' g N := ⟨(a.2.1 7 (by decide) (by decide) (by decide)).trans t.1, fun i x y => by rw [a.2.2.1 _ (by omega)]; exact t.2 i x y⟩
theorem xp_rs_c {h h' : xq_H} {p w : Int} (a : xm_c h h' p w) : xp_rs h h' := ⟨xs_tr xs_rf a.1 (X := []) (by decide) (by decide), fun k k1 k2 _ => a.2.1 k k1 k2, fun k _ => by rw [a.1 65 (by decide)], a.2.1 9 (by decide) (by decide)⟩
abbrev xp_rO (h h' : xq_H) (q : Int) (l : List Int) : Prop := xp_rs h h' ∧ h' 64 6 = q ∧ h' 64 8 = 0 ∧ h' 65 (244 + h 64 5) = h 65 (244 + h 64 5) + l.length ∧
  (∀ k : Int, 249 + 140 * h 64 5 ≤ k → k < 249 + 140 * h 64 5 + h 65 (244 + h 64 5) → h' 65 k = h 65 k) ∧ xf_at (h' 65) (249 + 140 * h 64 5 + h 65 (244 + h 64 5)) l
theorem xp_rO_tr {h h1 h2 : xq_H} {q1 q2 : Int} {l1 l2 : List Int} (hz : 0 ≤ h 65 (244 + h 64 5)) (a : xp_rO h h1 q1 l1) (b : xp_rO h1 h2 q2 l2) : xp_rO h h2 q2 (l1 ++ l2) := by
  obtain ⟨a1, a2, a3, a4, a5, a6⟩ := a
  obtain ⟨b1, b2, b3, b4, b5, b6⟩ := b
  have e5 := a1.2.1 5 (by decide) (by decide) (by decide)
  rw [e5, a4] at b4 b5 b6
  refine ⟨xp_rs_tr a1 b1, b2, b3, ?_, fun k x y => (b5 k x (by omega)).trans (a5 k x y), ?_⟩
  · rw [b4, List.length_append]
    omega
  · rw [xf_at_app]
    refine ⟨xf_at_cp _ _ (fun k x y => b5 k (by omega) (by omega)) a6, ?_⟩
    rw [show 249 + 140 * h 64 5 + h 65 (244 + h 64 5) + (l1.length : Int) = 249 + 140 * h 64 5 + (h 65 (244 + h 64 5) + l1.length) by omega]
    exact b6
theorem xp_rO_c {h h' : xq_H} {p : Int} (a : xm_c h h' p 0) : xp_rO h h' p [] := ⟨xp_rs_c a, a.2.2.1, a.2.2.2, by rw [a.1 65 (by decide)]; show _ = _ + ((0 : Nat) : Int); omega, fun k _ _ => by rw [a.1 65 (by decide)], trivial⟩
theorem c_M_emits {lev : Nat} {h : xq_H} {Q : Option xq_V → xq_H → Prop} {t : Int} (hl : 1 ≤ lev) (ha : 0 ≤ h 64 5 ∧ h 64 5 ≤ 4) (hz : 0 ≤ h 65 (244 + h 64 5) ∧ h 65 (244 + h 64 5) < 140) (hw : h 64 8 = 0 ∨ h 64 8 = 1)
    (h1 : h 64 8 = 0 → ∀ h', xp_rO h h' (h 64 6) [t] → Q none h') (h0 : h 64 8 = 1 → Q none h) : xq_met lev y_M_emits [xR 64, xI t] 81 h Q := by
  refine en_M_emits (by omega) (fun K hK => ?_)
  refine xq_go hK [] 60 ?_
  refine And.intro (fun c => h0 (by omega)) (fun c => ?_)
  have e244 : xq_u h 65 (249 + 140 * h 64 5 + h 65 (244 + h 64 5)) t 65 (244 + h 64 5) = h 65 (244 + h 64 5) := xu_ne (by omega)
  have r5 : xq_u h 65 (249 + 140 * h 64 5 + h 65 (244 + h 64 5)) t 64 5 = h 64 5 := rfl
  refine And.intro (by omega) ?_
  refine And.intro (by omega) ?_
  refine And.intro (by omega) ?_
  refine And.intro (by omega) ?_
  refine And.intro (by omega) ?_
  refine And.intro (by omega) ?_
  refine And.intro (by omega) ?_
  rw [r5]
  refine And.intro (by omega) ?_
  refine And.intro (by omega) ?_
  refine And.intro (by omega) ?_
  rw [e244]
  refine h1 c _ ⟨⟨xs_u (xs_u xs_rf (by decide) _ _) (by decide) _ _, fun k _ _ _ => by rw [xq_u_o (by decide), xq_u_o (by decide)], fun k hk => by rw [xu_ne (by omega), xu_ne (by omega)], by rw [xq_u_o (by decide), xq_u_o (by decide)]⟩, by rw [xq_u_o (by decide), xq_u_o (by decide)], by rw [xq_u_o (by decide), xq_u_o (by decide)]; exact c, by rw [xu_eq]; rfl, fun k x y => by rw [xu_ne (by omega), xu_ne (by omega)], ?_, trivial⟩
  rw [xu_ne (by omega), xu_eq]
