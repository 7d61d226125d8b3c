/-! A FACTOR THAT OPENS -/
theorem xp_br_s {h h1 h3 : xq_H} (fs : xs_eq [64] h h1) (fk : ∀ k : Int, k ≠ 6 → k ≠ 8 → k ≠ 9 → h1 64 k = h 64 k) (f9 : h1 64 9 = h 64 9 + 1) (s : xp_rs h1 h3) : xp_rs h (xq_u h3 64 9 (h3 64 9 - 1)) := by
  have e5 := fk 5 (by decide) (by decide) (by decide)
  obtain ⟨s1, s2, s3, s4⟩ := s
  rw [e5] at s3
  refine ⟨xs_u (xs_tr fs s1 (by decide) (fun _ z => z)) (by decide) _ _, fun k k1 k2 k3 => by rw [xu_ne k3]; exact (s2 k k1 k2 k3).trans (fk k k1 k2 k3), fun k hk => ?_, by rw [xu_eq, s4, f9]; omega⟩
  rw [xq_u_o (by decide), s3 k hk, fs 65 (by decide)]
theorem xp_br_O {h h1 h3 : xq_H} {q : Int} {l : List Int} (fs : xs_eq [64] h h1) (fk : ∀ k : Int, k ≠ 6 → k ≠ 8 → k ≠ 9 → h1 64 k = h 64 k) (f9 : h1 64 9 = h 64 9 + 1) (O : xp_rO h1 h3 q l) : xp_rO h (xq_u h3 64 9 (h3 64 9 - 1)) q l := by
  have e5 := fk 5 (by decide) (by decide) (by decide)
  have e65 : h1 65 = h 65 := fs 65 (by decide)
  obtain ⟨o1, o2, o3, o4, o5, o6⟩ := O
  rw [e5, e65] at o4 o5 o6
  refine ⟨xp_br_s fs fk f9 o1, by rw [xu_ne (by decide)]; exact o2, by rw [xu_ne (by decide)]; exact o3, ?_, fun k x y => ?_, ?_⟩
  · rw [xq_u_o (by decide)]; exact o4
  · rw [xq_u_o (by decide)]; exact o5 k x y
  · rw [xq_u_o (by decide)]; exact o6
/-- the reference goes in -/
theorem xp_in {lev : Nat} {Q : Option xq_V → xq_H → Prop} {K : xq_KT} (hK : xq_sound (xq_C lev) rw_M_factor 81 Q K) (hl : 4 ≤ lev) {h : xq_H} {g : Int → Int} {N o p : Int} (G : xp_g g N) (hp : 0 ≤ p ∧ p < N) (ho : 0 ≤ o ∧ o < 5) (I : xp_rI h g N p o) (c : xp_pk g N p = 33 ∨ xp_pk g N p = 40)
    (go : ∀ h1, xs_eq [64] h h1 → (∀ k : Int, k ≠ 6 → k ≠ 8 → k ≠ 9 → h1 64 k = h 64 k) → h1 64 9 = h 64 9 + 1 → xp_rI h1 g N (p + 1) (o + 1) → K 39 [some (xR 64), some (xI (xp_pk g N p)), none, none, none] [] 81 h1) : K 0 [some (xR 64), none, none, none, none] [] 81 h := by
  have gN := G.1
  obtain ⟨i1, i2, i3, i4, i5, i6⟩ := I
  have at13 : K 13 [some (xR 64), some (xI (xp_pk g N p)), none, none, none] [] 81 h := by
    obtain ⟨h1, hh1⟩ : ∃ h1, h1 = xq_u (xq_u (xq_u h 64 8 0) 64 9 (o + 1)) 64 6 (p + 1) := ⟨_, rfl⟩
    have f8 : h1 64 8 = 0 := by rw [hh1, xu_ne (by decide), xu_ne (by decide), xu_eq]
    have f9 : h1 64 9 = o + 1 := by rw [hh1, xu_ne (by decide), xu_eq]
    have f6 : h1 64 6 = p + 1 := by rw [hh1, xu_eq]
    have fs : xs_eq [64] h h1 := by
      rw [hh1]
      exact xs_u (xs_u (xs_u xs_rf (by decide) _ _) (by decide) _ _) (by decide) _ _
    have fk : ∀ k : Int, k ≠ 6 → k ≠ 8 → k ≠ 9 → h1 64 k = h 64 k := fun k k1 k2 k3 => by rw [hh1, xu_ne k1, xu_ne k3, xu_ne k2]
    have e5 := fk 5 (by decide) (by decide) (by decide)
    have e65 : h1 65 = h 65 := fs 65 (by decide)
    have mid := go h1 fs fk (by rw [f9, i3]) ⟨⟨(fk 7 (by decide) (by decide) (by decide)).trans i1.1, fun i x y => by rw [e65]; exact i1.2 i x y⟩, f6, f9, f8, by rw [e5]; exact i5, by rw [e5, e65]; omega⟩
    refine xq_go hK [39] 60 ?_
    refine And.intro (fun _ => ?_) (fun z => absurd z (by omega))
    refine And.intro (Or.inl rfl) ?_
    have r9 : xq_u h 64 8 0 64 9 = o := by rw [xu_ne (by decide)]; exact i3
    refine And.intro (by omega) ?_
    refine And.intro (fun _ => ?_) (fun z => absurd (by rw [xu_ne (by decide), xu_eq]) z)
    have r6 : xq_u (xq_u h 64 8 0) 64 9 (xq_u h 64 8 0 64 9 + 1) 64 6 = p := by rw [xu_ne (by decide), xu_ne (by decide)]; exact i2
    refine And.intro (by omega) ?_
    rw [r6, r9]
    rw [hh1] at mid
    exact mid
  refine xq_go hK [13] 60 ?_
  refine And.intro (fun _ => ?_) (fun z => absurd i4 z)
  refine ⟨lev - 1, by omega, c_M_here (by omega) i1 G (by omega) ?_⟩
  rw [i2]
  refine And.intro (fun _ => at13) (fun z => ?_)
  exact And.intro (fun y => absurd (c.resolve_left z) y) (fun _ => at13)
theorem xp_not_S {g : Int → Int} {N o p : Int} {dep L : Nat} (G : xp_g g N) (hp : 0 ≤ p ∧ p ≤ N) (hL : 13 ≤ L) (ho : 0 ≤ o ∧ o < 5) (c : xp_pk g N p = 33) (F : xp_S y_R_readFactor y_M_factor g N (o + 1) (p + 1) dep L) : xp_S y_R_readFactor y_M_factor g N o p dep (L + 1) := by
  have gN := G.1
  have pb := xp_pk_bd G hp.1
  have hpN := pb.2.2.1 (by omega)
  obtain ⟨⟨q1, o1⟩, ok1, cf, rf⟩ := F
  have ok3 := ok1.1
  dsimp only at ok3
  refine ⟨(q1, o1.map (fun l => l ++ [-1])), ⟨by dsimp only; omega, fun l hl => ?_⟩, ?_, ?_⟩
  · cases o1 with
    | none => exact absurd hl (by simp)
    | some l1 =>
      have e : l = l1 ++ [-1] := by
        simp only [Option.map_some, Option.some.injEq] at hl
        exact hl.symm
      have ok2 := ok1.2 l1 rfl
      dsimp only at ok2 ⊢
      rw [e]
      refine ⟨by omega, by simp only [List.length_append, List.length_cons, List.length_nil]; omega, fun s hs => ?_⟩
      refine xf_wf_app _ _ (s + 1) _ (ok2.2.2 s hs) (Or.inr (Or.inl ⟨rfl, by omega, rfl⟩))
  · intro lev h Q hlv t e3 hz q1' q0
    refine en_R_readFactor (by omega) (fun K hK => ?_)
    refine xq_go hK [] 60 ?_
    refine ⟨lev - 1, by omega, c_R_peek (by omega) t G (by omega) ?_⟩
    rw [e3]
    refine And.intro (fun _ => ?_) (fun z => absurd c z)
    refine And.intro (fun _ => ?_) (fun z => absurd z (by omega))
    refine And.intro (by omega) ?_
    refine And.intro (fun _ => ?_) (fun z => absurd z (by omega))
    have O1 : xp_cO h (xq_u h 54 3 (h 54 3 + 1)) (h 54 3 + 1) [] := xp_cO_st
    refine And.intro (by omega) ?_
    refine ⟨lev - 1, by omega, cf (lev - 1) _ _ (by omega) (xp_cs_tc O1.1 t) (by rw [xu_eq, e3]) (by rw [xq_u_o (by decide)]; omega) (fun l hl h' O2 => ?_) (fun hn h' s' e' => ?_)⟩
    · have ok2 := ok1.2 l hl
      have O12 := xp_cO_tr O1 O2
      dsimp only at O12 ok2
      have z2 := O12.2.2.1
      simp only [List.nil_append] at z2
      refine And.intro (fun _ => ?_) (fun z => absurd z (by decide))
      refine ⟨lev - 1, by omega, c_P_put (t := -1) (by omega) (by omega) (fun h3 O3 => ?_)⟩
      have O123 := xp_cO_tr O12 O3
      rw [O12.2.1] at O123
      simp only [List.nil_append] at O123
      exact And.intro (Or.inr rfl) (q1' (l ++ [-1]) (congrArg (Option.map (fun l => l ++ [-1])) hl) h3 O123)
    · refine And.intro (fun z => absurd rfl z) (fun _ => ?_)
      exact And.intro (Or.inl rfl) (q0 (congrArg (Option.map (fun l => l ++ [-1])) hn) h' (xp_cs_tr O1.1 s') e')
  · intro lev h Q hlv I q1' q0
    refine en_M_factor (by omega) (fun K hK => ?_)
    refine xp_in hK (by omega) G ⟨hp.1, hpN⟩ ho I (Or.inl c) (fun h1 fs fk f9 I1 => ?_)
    have hz := I1.2.2.2.2.2.1
    have go : K 42 [some (xR 64), some (xI (xp_pk g N p)), none, none, none] [] 81 h1 := by
      refine xq_go hK [] 60 ?_
      refine ⟨lev - 1, by omega, rf (lev - 1) _ _ (by omega) I1 (fun l hl h2 O2 => ?_) (fun hn h2 s2 e2 e8 => ?_)⟩
      · have ok2 := ok1.2 l hl
        have I2 := xp_rI_O I1 gN.2 O2 ok2.2.1
        obtain ⟨j1, j2, j3, j4, j5, j6⟩ := I2
        dsimp only at j2 j6 ok2
        refine ⟨lev - 1, by omega, c_M_emits (by omega) j5 (by omega) (Or.inl j4) (fun _ h3 O3 => ?_) (fun z => absurd z (by omega))⟩
        have O23 := xp_rO_tr hz O2 O3
        rw [j2] at O23
        have e9 : h3 64 9 = o + 1 := O23.1.2.2.2.trans I1.2.2.1
        refine And.intro (by omega) ?_
        exact q1' (l ++ [-1]) (congrArg (Option.map (fun l => l ++ [-1])) hl) _ (xp_br_O fs fk f9 O23)
      · refine ⟨lev - 1, by omega, c_M_emits_w (by omega) e8 ?_⟩
        have e9 : h2 64 9 = o + 1 := s2.2.2.2.trans I1.2.2.1
        refine And.intro (by omega) ?_
        exact q0 (congrArg (Option.map (fun l => l ++ [-1])) hn) _ (xp_br_s fs fk f9 s2) (by rw [xu_ne (by decide)]; exact e2) (by rw [xu_ne (by decide)]; exact e8)
    refine xq_go hK [42] 60 ?_
    exact And.intro (fun z => absurd c z) (fun _ => go)
def xp_cl (c : Int) (r : xp_R) : xp_R := match r.2 with
  | some l => if c = 41 then (r.1 + 1, some l) else (r.1, none)
  | none => (r.1, none)
theorem xp_cl_t {c q : Int} {l : List Int} (h : c = 41) : xp_cl c (q, some l) = (q + 1, some l) := if_pos h
theorem xp_cl_f {c q : Int} {l : List Int} (h : ¬ c = 41) : xp_cl c (q, some l) = (q, none) := if_neg h
theorem xp_cl_n {c q : Int} : xp_cl c (q, none) = (q, none) := rfl
theorem xp_par_S {g : Int → Int} {N o p : Int} {dep L : Nat} (G : xp_g g N) (hp : 0 ≤ p ∧ p ≤ N) (hL : 13 ≤ L) (ho : 0 ≤ o ∧ o < 5) (c : xp_pk g N p = 40) (E : xp_S y_R_readEither y_M_some g N (o + 1) (p + 1) dep L) : xp_S y_R_readFactor y_M_factor g N o p dep (L + 1) := by
  have gN := G.1
  have pb := xp_pk_bd G hp.1
  have hpN := pb.2.2.1 (by omega)
  obtain ⟨⟨q1, o1⟩, ok1, cf, rf⟩ := E
  have ok3 := ok1.1
  dsimp only at ok3
  have qb := xp_pk_bd (p := q1) G (by omega)
  refine ⟨xp_cl (xp_pk g N q1) (q1, o1), ⟨?_, fun l hl => ?_⟩, ?_, ?_⟩
  · cases o1 with
    | none =>
      rw [xp_cl_n]
      dsimp only
      omega
    | some l1 =>
      by_cases hc : xp_pk g N q1 = 41
      · rw [xp_cl_t hc]
        dsimp only
        omega
      · rw [xp_cl_f hc]
        dsimp only
        omega
  · cases o1 with
    | none => exact absurd hl (by rw [xp_cl_n]; simp)
    | some l1 =>
      by_cases hc : xp_pk g N q1 = 41
      · rw [xp_cl_t hc] at hl ⊢
        have e : l = l1 := by
          simp only [Option.some.injEq] at hl
          exact hl.symm
        have ok2 := ok1.2 l1 rfl
        dsimp only at ok2 ⊢
        rw [e]
        exact ⟨by omega, by omega, ok2.2.2⟩
      · rw [xp_cl_f hc] at hl
        exact absurd hl (by simp)
  · intro lev h Q hlv t e3 hz q1' q0
    refine en_R_readFactor (by omega) (fun K hK => ?_)
    refine xq_go hK [] 60 ?_
    refine ⟨lev - 1, by omega, c_R_peek (by omega) t G (by omega) ?_⟩
    rw [e3]
    have O1 : xp_cO h (xq_u h 54 3 (h 54 3 + 1)) (h 54 3 + 1) [] := xp_cO_st
    refine And.intro (fun z => absurd z (by omega)) (fun _ => ?_)
    refine And.intro (fun _ => ?_) (fun z => absurd c z)
    refine And.intro (fun _ => ?_) (fun z => absurd z (by omega))
    refine And.intro (by omega) ?_
    refine And.intro (fun z => absurd c z) (fun _ => ?_)
    refine And.intro (by omega) ?_
    refine ⟨lev - 1, by omega, cf (lev - 1) _ _ (by omega) (xp_cs_tc O1.1 t) (by rw [xu_eq, e3]) (by rw [xq_u_o (by decide)]; omega) (fun l hl h' O2 => ?_) (fun hn h' s' e' => ?_)⟩
    · have O12 := xp_cO_tr O1 O2
      dsimp only at O12 hl
      refine And.intro (fun z => absurd z (by decide)) (fun _ => ?_)
      refine ⟨lev - 1, by omega, c_R_readSign (by omega) (xp_cs_tc O12.1 t) G (by rw [O12.2.1]; omega) (by omega) (fun e4 _ => ?_) (fun e4 => ?_)⟩
      · rw [O12.2.1] at e4
        refine And.intro (fun z => absurd z (by decide)) (fun _ => ?_)
        have O3 : xp_cO h' (xq_u h' 54 3 (h' 54 3 + 1)) (h' 54 3 + 1) [] := xp_cO_st
        have O := xp_cO_tr O12 O3
        rw [O12.2.1] at O
        simp only [List.nil_append, List.append_nil] at O
        rw [hl, xp_cl_t e4] at q1'
        rw [O12.2.1]
        exact And.intro (Or.inr rfl) (q1' l rfl _ O)
      · rw [O12.2.1] at e4
        rw [hl, xp_cl_f e4] at q0
        refine And.intro (fun _ => ?_) (fun z => absurd rfl z)
        exact And.intro (Or.inl rfl) (q0 rfl _ O12.1 O12.2.1)
    · dsimp only at hn e'
      refine And.intro (fun _ => ?_) (fun z => absurd rfl z)
      rw [hn, xp_cl_n] at q0
      exact And.intro (Or.inl rfl) (q0 rfl h' (xp_cs_tr O1.1 s') e')
  · intro lev h Q hlv I q1' q0
    refine en_M_factor (by omega) (fun K hK => ?_)
    refine xp_in hK (by omega) G ⟨hp.1, hpN⟩ ho I (Or.inr c) (fun h1 fs fk f9 I1 => ?_)
    have hz := I1.2.2.2.2.2.1
    have go : K 48 [some (xR 64), some (xI (xp_pk g N p)), none, none, none] [] 81 h1 := by
      refine xq_go hK [] 60 ?_
      refine ⟨lev - 1, by omega, rf (lev - 1) _ _ (by omega) I1 (fun l hl h2 O2 => ?_) (fun hn h2 s2 e2 e8 => ?_)⟩
      · have ok2 := ok1.2 l hl
        have I2 := xp_rI_O I1 gN.2 O2 ok2.2.1
        obtain ⟨j1, j2, j3, j4, j5, j6⟩ := I2
        dsimp only at j2 hl O2
        refine ⟨lev - 1, by omega, c_M_must (by omega) j1 G (by rw [j2]; omega) (by decide) (Or.inl j4) (fun _ e4 _ h3 a3 => ?_) (fun e4 h3 a3 => ?_)⟩
        · rw [j2] at e4 a3
          have O := xp_rO_tr hz O2 (xp_rO_c a3)
          simp only [List.append_nil] at O
          have e9 : h3 64 9 = o + 1 := O.1.2.2.2.trans I1.2.2.1
          refine And.intro (by omega) ?_
          rw [hl, xp_cl_t e4] at q1'
          exact q1' l rfl _ (xp_br_O fs fk f9 O)
        · have e4' := e4.resolve_left (by omega)
          rw [j2] at e4' a3
          have s3 := xp_rs_tr O2.1 (xp_rs_c a3)
          have e9 : h3 64 9 = o + 1 := s3.2.2.2.trans I1.2.2.1
          refine And.intro (by omega) ?_
          rw [hl, xp_cl_f e4'] at q0
          exact q0 rfl _ (xp_br_s fs fk f9 s3) (by rw [xu_ne (by decide)]; exact a3.2.2.1) (by rw [xu_ne (by decide)]; exact a3.2.2.2)
      · dsimp only at hn e2
        have tt : xp_tr h2 g N := xp_rs_t s2 I1.2.2.2.2.1.1 gN.2 I1.1
        rw [hn, xp_cl_n] at q0
        refine ⟨lev - 1, by omega, c_M_must (by omega) tt G (by rw [e2]; omega) (by decide) (Or.inr e8) (fun z => absurd z (by omega)) (fun _ h3 a3 => ?_)⟩
        have s3 := xp_rs_tr s2 (xp_rs_c a3)
        have e9 : h3 64 9 = o + 1 := s3.2.2.2.trans I1.2.2.1
        refine And.intro (by omega) ?_
        exact q0 rfl _ (xp_br_s fs fk f9 s3) (by rw [xu_ne (by decide), a3.2.2.1]; exact e2) (by rw [xu_ne (by decide)]; exact a3.2.2.2)
    refine xq_go hK [48] 60 ?_
    exact And.intro (fun _ => go) (fun z => absurd z (by omega))
theorem xp_S_dep {yc yr : Nat} {g : Int → Int} {N o p : Int} {d1 d2 L1 L2 : Nat} (hd : d1 ≤ d2) (hL : L1 ≤ L2) (S : xp_S yc yr g N o p d1 L1) : xp_S yc yr g N o p d2 L2 := by
  obtain ⟨r, ok, cf, rf⟩ := S
  exact ⟨r, ⟨ok.1, fun l hl => ⟨(ok.2 l hl).1, (ok.2 l hl).2.1, fun s hs => (ok.2 l hl).2.2 s (by omega)⟩⟩, fun lev h Q hlv => cf lev h Q (by omega), fun lev h Q hlv => rf lev h Q (by omega)⟩
theorem xp_factor {g : Int → Int} {N : Int} (G : xp_g g N) : ∀ (k : Nat), k ≤ 5 → ∀ (o : Int), o = 5 - k → ∀ p : Int, 0 ≤ p → p ≤ N → xp_S y_R_readFactor y_M_factor g N o p (1 + 2 * k) (13 + 3 * k)
  | 0, _, o, ho, p, hp0, hpN => by
    obtain rfl : o = 5 := by omega
    by_cases c : xp_pk g N p = 33 ∨ xp_pk g N p = 40
    · exact xp_full_S (k := 0) G ⟨hp0, hpN⟩ (by omega) c
    · exact xp_test_S (k := 0) G ⟨hp0, hpN⟩ (by omega) (fun z => c (Or.inl z)) (fun z => c (Or.inr z))
  | k + 1, hk, o, ho, p, hp0, hpN => by
    have pb := xp_pk_bd G hp0
    by_cases c1 : xp_pk g N p = 33
    · have hp1 := pb.2.2.1 (by omega)
      exact xp_S_dep (by omega) (by omega) (xp_not_S G ⟨hp0, hpN⟩ (by omega) (by omega) c1 (xp_factor G k (by omega) (o + 1) (by omega) (p + 1) (by omega) (by omega)))
    · by_cases c2 : xp_pk g N p = 40
      · have hp1 := pb.2.2.1 (by omega)
        exact xp_S_dep (by omega) (by omega) (xp_par_S G ⟨hp0, hpN⟩ (by omega) (by omega) c2 (xp_either G (by omega) (fun p' h1 h2 => xp_factor G k (by omega) (o + 1) (by omega) p' h1 h2) (p + 1) (by omega) (by omega)))
      · exact xp_test_S (k := k + 1) G ⟨hp0, hpN⟩ (by omega) c1 c2
/-- an E with nothing open -/
theorem xp_expr {g : Int → Int} {N p : Int} (G : xp_g g N) (hp0 : 0 ≤ p) (hpN : p ≤ N) : xp_S y_R_readEither y_M_some g N 0 p 13 30 := xp_S_dep (by omega) (by omega) (xp_either G (by omega) (fun p' h1 h2 => xp_factor G 5 (by omega) 0 (by omega) p' h1 h2) p hp0 hpN)
