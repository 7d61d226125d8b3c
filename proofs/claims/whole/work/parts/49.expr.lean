/-! AN EXPRESSION, read by both -/
abbrev xp_R : Type := Int × Option (List Int)
theorem xf_wf_app {l2 : List Int} : ∀ (l1 : List Int) (a b c : Nat), xf_wf l1 a b → xf_wf l2 b c → xf_wf (l1 ++ l2) a c
  | [], a, b, c, h1, h2 => by
    have e : a = b := h1
    rw [e]
    exact h2
  | t :: l1, a, b, c, h1, h2 => by
    rcases h1 with ⟨x, y, z⟩ | ⟨x, y, z⟩ | ⟨x, y, z⟩
    · exact Or.inl ⟨x, y, xf_wf_app l1 _ _ _ z h2⟩
    · exact Or.inr (Or.inl ⟨x, y, xf_wf_app l1 _ _ _ z h2⟩)
    · exact Or.inr (Or.inr ⟨x, y, xf_wf_app l1 _ _ _ z h2⟩)
/-- so many may wait at the least: dep; from a stack of a + s to one of b + s -/
def xp_ok (N p : Int) (r : xp_R) (dep a b : Nat) (k : Int) : Prop := (p ≤ r.1 ∧ r.1 ≤ N) ∧ ∀ l, r.2 = some l → p + k ≤ r.1 ∧ (l.length : Int) ≤ r.1 - p ∧ ∀ s : Nat, s + dep ≤ 20 → xf_wf l (s + a) (s + b)
def xp_CM (y : Nat) (g : Int → Int) (N : Int) (o p : Int) (r : xp_R) (L : Nat) : Prop := ∀ (lev : Nat) (h : xq_H) (Q : Option xq_V → xq_H → Prop), L ≤ lev → xp_tc h g N → h 54 3 = p → (0 ≤ h 55 6 ∧ h 55 6 + (N - p) ≤ 100) →
  (∀ l, r.2 = some l → ∀ h', xp_cO h h' r.1 l → Q (some (xI 1)) h') → (r.2 = none → ∀ h', xp_cs h h' → h' 54 3 = r.1 → Q (some (xI 0)) h') → xq_met lev y [xR 54, xI o] 81 h Q
abbrev xp_rI (h : xq_H) (g : Int → Int) (N p o : Int) : Prop := xp_tr h g N ∧ h 64 6 = p ∧ h 64 9 = o ∧ h 64 8 = 0 ∧ (0 ≤ h 64 5 ∧ h 64 5 ≤ 4) ∧ (0 ≤ h 65 (244 + h 64 5) ∧ h 65 (244 + h 64 5) + (N - p) ≤ 100)
def xp_RM (y : Nat) (g : Int → Int) (N : Int) (o p : Int) (r : xp_R) (L : Nat) : Prop := ∀ (lev : Nat) (h : xq_H) (Q : Option xq_V → xq_H → Prop), L ≤ lev → xp_rI h g N p o →
  (∀ l, r.2 = some l → ∀ h', xp_rO h h' r.1 l → Q none h') → (r.2 = none → ∀ h', xp_rs h h' → h' 64 6 = r.1 → h' 64 8 = 1 → Q none h') → xq_met lev y [xR 64] 81 h Q
def xp_S (yc yr : Nat) (g : Int → Int) (N : Int) (o p : Int) (dep L : Nat) : Prop := ∃ r : xp_R, xp_ok N p r dep 0 1 1 ∧ xp_CM yc g N o p r L ∧ xp_RM yr g N o p r L
/-- the state behind a part that went well -/
theorem xp_rI_O {h h' : xq_H} {g : Int → Int} {N p o q : Int} {l : List Int} (I : xp_rI h g N p o) (hN : N ≤ 100) (O : xp_rO h h' q l) (hq : (l.length : Int) ≤ q - p) : xp_rI h' g N q o := by
  obtain ⟨i1, i2, i3, i4, i5, i6⟩ := I
  obtain ⟨o1, o2, o3, o4, o5, o6⟩ := O
  have e5 := o1.2.1 5 (by decide) (by decide) (by decide)
  refine ⟨xp_rs_t o1 i5.1 hN i1, o2, o1.2.2.2.trans i3, o3, by omega, ?_⟩
  rw [e5, o4]
  omega
/-! where it is already wrong -/
theorem c_M_factor_w {lev : Nat} {h : xq_H} {Q : Option xq_V → xq_H → Prop} (hl : 1 ≤ lev) (hw : h 64 8 = 1) (hQ : Q none h) : xq_met lev y_M_factor [xR 64] 81 h Q := by
  refine en_M_factor (by omega) (fun K hK => ?_)
  refine xq_go hK [] 60 ?_
  exact And.intro (fun c => absurd c (by omega)) (fun _ => hQ)
theorem c_M_every_w {lev : Nat} {h : xq_H} {Q : Option xq_V → xq_H → Prop} (hl : 2 ≤ lev) (hw : h 64 8 = 1) (hQ : Q none h) : xq_met lev y_M_every [xR 64] 81 h Q := by
  refine en_M_every (by omega) (fun K hK => ?_)
  refine xq_go hK [] 60 ?_
  refine ⟨lev - 1, by omega, c_M_factor_w (by omega) hw ?_⟩
  exact And.intro (fun _ => hQ) (fun c => absurd c (by omega))
theorem c_M_some_w {lev : Nat} {h : xq_H} {Q : Option xq_V → xq_H → Prop} (hl : 3 ≤ lev) (hw : h 64 8 = 1) (hQ : Q none h) : xq_met lev y_M_some [xR 64] 81 h Q := by
  refine en_M_some (by omega) (fun K hK => ?_)
  refine xq_go hK [] 60 ?_
  refine ⟨lev - 1, by omega, c_M_every_w (by omega) hw ?_⟩
  exact And.intro (fun _ => hQ) (fun c => absurd c (by omega))
theorem c_M_emits_w {lev : Nat} {h : xq_H} {Q : Option xq_V → xq_H → Prop} {t : Int} (hl : 1 ≤ lev) (hw : h 64 8 = 1) (hQ : Q none h) : xq_met lev y_M_emits [xR 64, xI t] 81 h Q := by
  refine en_M_emits (by omega) (fun K hK => ?_)
  refine xq_go hK [] 60 ?_
  exact And.intro (fun _ => hQ) (fun c => absurd c (by omega))
/-! an E from its factors: first those joined by & -/
def xp_CL (g : Int → Int) (N o p : Int) (r : xp_R) (L : Nat) : Prop := ∀ (lev : Nat) (h : xq_H) (Q : Option xq_V → xq_H → Prop) (K : xq_KT), xq_sound (xq_C lev) rw_R_readEither 81 Q K → ∀ (ors ands : Int), L ≤ lev → xp_tc h g N → h 54 3 = p → (0 ≤ h 55 6 ∧ h 55 6 + (N - p) ≤ 100) → 1 ≤ ands → ands + (N - p) ≤ 100 →
  (∀ l, r.2 = some l → ∀ h' (a : Int), xp_cO h h' r.1 l → K 30 [some (xR 54), some (xI o), some (xI ors), some (xI a)] [] 81 h') → (r.2 = none → ∀ h', xp_cs h h' → h' 54 3 = r.1 → Q (some (xI 0)) h') → K 7 [some (xR 54), some (xI o), some (xI ors), some (xI ands)] [] 81 h
def xp_RL (g : Int → Int) (N o p : Int) (r : xp_R) (L : Nat) : Prop := ∀ (lev : Nat) (h : xq_H) (Q : Option xq_V → xq_H → Prop) (K : xq_KT), xq_sound (xq_C lev) rw_M_every 81 Q K → L ≤ lev → xp_rI h g N p o →
  (∀ l, r.2 = some l → ∀ h', xp_rO h h' r.1 l → Q none h') → (r.2 = none → ∀ h', xp_rs h h' → h' 64 6 = r.1 → h' 64 8 = 1 → Q none h') → K 2 [some (xR 64)] [] 81 h
theorem xp_tok {t : Int} (ht : t = -1 ∨ t = -2 ∨ t = -3) : t = xf_enc t := by
  unfold xf_enc
  rw [if_neg (by omega)]
theorem xp_cO_0 {h : xq_H} {q : Int} (e : h 54 3 = q) : xp_cO h h q [] := ⟨⟨xs_rf, fun _ _ => rfl, fun _ _ => rfl⟩, e, by show h 55 6 = h 55 6 + ((0 : Nat) : Int); omega, fun _ _ => rfl, trivial⟩
theorem xp_rO_0 {h : xq_H} {q : Int} (e : h 64 6 = q) (e8 : h 64 8 = 0) : xp_rO h h q [] := ⟨⟨xs_rf, fun _ _ _ _ => rfl, fun _ _ => rfl, rfl⟩, e, e8, by show _ = _ + ((0 : Nat) : Int); omega, fun _ _ _ => rfl, trivial⟩
/-- the reference's place goes on -/
theorem xp_rO_st {h : xq_H} (e8 : h 64 8 = 0) : xp_rO h (xq_u h 64 6 (h 64 6 + 1)) (h 64 6 + 1) [] := ⟨⟨xs_u xs_rf (by decide) _ _, fun k k1 _ _ => xu_ne k1, fun k _ => by rw [xq_u_o (by decide)], xu_ne (by decide)⟩, xu_eq, by rw [xu_ne (by decide)]; exact e8, by rw [xq_u_o (by decide)]; show _ = _ + ((0 : Nat) : Int); omega, fun _ _ _ => by rw [xq_u_o (by decide)], trivial⟩
theorem xp_rO_sp {h : xq_H} {p : Int} (e6 : h 64 6 = p) (e8 : h 64 8 = 0) : xp_rO h (xq_u h 64 6 (h 64 6 + 1)) (p + 1) [] := by
  subst e6
  exact xp_rO_st e8
theorem xp_ands {g : Int → Int} {N o : Int} (G : xp_g g N) {dep L : Nat} (hL : 12 ≤ L) (F : ∀ p : Int, 0 ≤ p → p ≤ N → xp_S y_R_readFactor y_M_factor g N o p dep L) : ∀ (n : Nat) (p : Int), 0 ≤ p → p ≤ N → N - p = n → ∃ r, xp_ok N p r (dep + 1) 1 1 0 ∧ xp_CL g N o p r (L + 1) ∧ xp_RL g N o p r (L + 1) := by
  intro n
  induction n using Nat.strongRecOn with
  | ind n ih =>
    intro p hp0 hpN hn
    have pb := xp_pk_bd G hp0
    have gN := G.1
    by_cases c : xp_pk g N p = 38
    · -- one more
      obtain ⟨⟨q1, o1⟩, ok1, cf, rf⟩ := F (p + 1) (by omega) (by omega)
      cases o1 with
      | none =>
        refine ⟨(q1, none), ⟨?_, fun l hl => absurd hl (by simp)⟩, ?_, ?_⟩
        · have := ok1.1
          dsimp only at this ⊢
          omega
        · intro lev h Q K hK ors ands hlv t e3 hz ha1 ha2 _ q0
          refine xq_go hK [7, 30] 60 ?_
          refine And.intro (fun z => absurd z (by omega)) (fun _ => ?_)
          refine And.intro (fun z => absurd z (by omega)) (fun _ => ?_)
          refine ⟨lev - 1, by omega, c_R_readSign (by omega) t G (by omega) (by omega) (fun e4 _ => ?_) (fun e4 => absurd (by rw [e3]; exact c) e4)⟩
          refine And.intro (fun z => absurd z (by decide)) (fun _ => ?_)
          have O1 : xp_cO h (xq_u h 54 3 (h 54 3 + 1)) (h 54 3 + 1) [] := xp_cO_st
          refine ⟨lev - 1, by omega, cf (lev - 1) _ _ (by omega) (xp_cs_tc O1.1 t) (by rw [xu_eq, e3]) (by rw [xq_u_o (by decide)]; omega) (fun l hl => absurd hl (by simp)) (fun _ h' s' e' => ?_)⟩
          refine And.intro (fun z => absurd rfl z) (fun _ => ?_)
          exact And.intro (Or.inl rfl) (q0 rfl h' (xp_cs_tr O1.1 s') e')
        · intro lev h Q K hK hlv I _ q0
          obtain ⟨i1, i2, i3, i4, i5, i6⟩ := I
          refine xq_go hK [2] 60 ?_
          refine And.intro (fun z => absurd i4 z) (fun _ => ?_)
          refine ⟨lev - 1, by omega, c_M_here (by omega) i1 G (by omega) ?_⟩
          rw [i2]
          refine And.intro (fun z => absurd c z) (fun _ => ?_)
          refine And.intro (by omega) ?_
          have O1 := xp_rO_sp i2 i4
          have I1 := xp_rI_O (q := p + 1) ⟨i1, i2, i3, i4, i5, i6⟩ gN.2 O1 (by show ((0 : Nat) : Int) ≤ _; omega)
          refine ⟨lev - 1, by omega, rf (lev - 1) _ _ (by omega) I1 (fun l hl => absurd hl (by simp)) (fun _ h' s' e' e8 => ?_)⟩
          refine ⟨lev - 1, by omega, c_M_emits_w (by omega) e8 ?_⟩
          refine xq_go hK [] 60 ?_
          refine And.intro (fun _ => ?_) (fun z => absurd z (by omega))
          exact q0 rfl h' (xp_rs_tr O1.1 s') e' e8
      | some l1 =>
        have ok2 := ok1.2 l1 rfl
        dsimp only at ok2
        have ok3 := ok1.1
        dsimp only at ok3
        obtain ⟨⟨q2, o2⟩, okn, cl, rl⟩ := ih (N - q1).toNat (by omega) q1 (by omega) (by omega) (by omega)
        -- what both come to
        refine ⟨(q2, o2.map (fun l2 => (l1 ++ [-2]) ++ l2)), ⟨?_, fun l hl => ?_⟩, ?_, ?_⟩
        · have := okn.1
          dsimp only at this ⊢
          omega
        · cases o2 with
          | none => exact absurd hl (by simp)
          | some l2 =>
            have e : l = (l1 ++ [-2]) ++ l2 := by
              simp only [Option.map_some, Option.some.injEq] at hl
              exact hl.symm
            have okm := okn.2 l2 rfl
            dsimp only at okm ⊢
            rw [e]
            refine ⟨by omega, by simp only [List.length_append, List.length_cons, List.length_nil]; omega, fun s hs => ?_⟩
            refine xf_wf_app _ _ (s + 1) _ (xf_wf_app _ _ (s + 1 + 1) _ (ok2.2.2 (s + 1) (by omega)) ?_) (okm.2.2 s (by omega))
            refine Or.inr (Or.inr ⟨Or.inl rfl, by omega, ?_⟩)
            show s + 1 + 1 - 1 = s + 1
            omega
        · intro lev h Q K hK ors ands hlv t e3 hz ha1 ha2 q1' q0
          refine xq_go hK [7, 30] 60 ?_
          refine And.intro (fun z => absurd z (by omega)) (fun _ => ?_)
          refine And.intro (fun z => absurd z (by omega)) (fun _ => ?_)
          refine ⟨lev - 1, by omega, c_R_readSign (by omega) t G (by omega) (by omega) (fun e4 _ => ?_) (fun e4 => absurd (by rw [e3]; exact c) e4)⟩
          refine And.intro (fun z => absurd z (by decide)) (fun _ => ?_)
          have O1 : xp_cO h (xq_u h 54 3 (h 54 3 + 1)) (h 54 3 + 1) [] := xp_cO_st
          refine ⟨lev - 1, by omega, cf (lev - 1) _ _ (by omega) (xp_cs_tc O1.1 t) (by rw [xu_eq, e3]) (by rw [xq_u_o (by decide)]; omega) (fun l hl h' O2 => ?_) (fun z => absurd z (by simp))⟩
          have el : l = l1 := by
            simp only [Option.some.injEq] at hl
            exact hl.symm
          subst el
          have O12 := xp_cO_tr O1 O2
          dsimp only at O12
          have z2 := O12.2.2.1
          simp only [List.nil_append] at z2
          refine And.intro (fun _ => ?_) (fun z => absurd z (by decide))
          refine And.intro (fun z => absurd z (by omega)) (fun _ => ?_)
          refine ⟨lev - 1, by omega, c_P_put (t := -2) (by omega) (by omega) (fun h3 O3 => ?_)⟩
          have O123 := xp_cO_tr O12 O3
          rw [O12.2.1] at O123
          simp only [List.nil_append] at O123
          have z3 := O123.2.2.1
          simp only [List.length_append, List.length_cons, List.length_nil] at z3
          refine And.intro (by omega) ?_
          refine cl lev h3 Q K hK ors _ (by omega) (xp_cs_tc O123.1 t) O123.2.1 (by omega) (by omega) (by omega) (fun l2 hl2 h' a O4 => ?_) (fun hn' h' s' e' => ?_)
          · exact q1' ((l ++ [-2]) ++ l2) (congrArg (Option.map (fun l2 => (l ++ [-2]) ++ l2)) hl2) h' a (xp_cO_tr O123 O4)
          · exact q0 (congrArg (Option.map (fun l2 => (l ++ [-2]) ++ l2)) hn') h' (xp_cs_tr O123.1 s') e'
        · intro lev h Q K hK hlv I q1' q0
          obtain ⟨i1, i2, i3, i4, i5, i6⟩ := I
          refine xq_go hK [2] 60 ?_
          refine And.intro (fun z => absurd i4 z) (fun _ => ?_)
          refine ⟨lev - 1, by omega, c_M_here (by omega) i1 G (by omega) ?_⟩
          rw [i2]
          refine And.intro (fun z => absurd c z) (fun _ => ?_)
          refine And.intro (by omega) ?_
          have O1 := xp_rO_sp i2 i4
          have I1 := xp_rI_O (q := p + 1) ⟨i1, i2, i3, i4, i5, i6⟩ gN.2 O1 (by show ((0 : Nat) : Int) ≤ _; omega)
          refine ⟨lev - 1, by omega, rf (lev - 1) _ _ (by omega) I1 (fun l hl h' O2 => ?_) (fun z => absurd z (by simp))⟩
          have el : l = l1 := by
            simp only [Option.some.injEq] at hl
            exact hl.symm
          subst el
          have I2 := xp_rI_O I1 gN.2 O2 (by show (l.length : Int) ≤ q1 - _; omega)
          have O12 := xp_rO_tr i6.1 O1 O2
          dsimp only at I2 O12
          obtain ⟨j1, j2, j3, j4, j5, j6⟩ := I2
          refine ⟨lev - 1, by omega, c_M_emits (by omega) j5 (by omega) (Or.inl j4) (fun _ h3 O3 => ?_) (fun z => absurd z (by omega))⟩
          have O123 := xp_rO_tr i6.1 O12 O3
          rw [j2] at O123
          simp only [List.nil_append] at O123
          have I3 := xp_rI_O (q := q1) ⟨i1, i2, i3, i4, i5, i6⟩ gN.2 O123 (by simp only [List.length_append, List.length_cons, List.length_nil]; omega)
          refine rl lev h3 Q K hK (by omega) I3 (fun l2 hl2 h' O4 => ?_) (fun hn' h' s' e' e8 => ?_)
          · exact q1' ((l ++ [-2]) ++ l2) (congrArg (Option.map (fun l2 => (l ++ [-2]) ++ l2)) hl2) h' (xp_rO_tr i6.1 O123 O4)
          · exact q0 (congrArg (Option.map (fun l2 => (l ++ [-2]) ++ l2)) hn') h' (xp_rs_tr O123.1 s') e' e8
    · -- no more
      refine ⟨(p, some []), ⟨⟨Int.le_refl _, hpN⟩, fun l hl => ?_⟩, ?_, ?_⟩
      · have e : l = [] := by
          simp only [Option.some.injEq] at hl
          exact hl.symm
        subst e
        refine ⟨by dsimp only; omega, by show ((0 : Nat) : Int) ≤ _; dsimp only; omega, fun s _ => rfl⟩
      · intro lev h Q K hK ors ands hlv t e3 hz ha1 ha2 q1' _
        have fin := q1' [] rfl h ands (xp_cO_0 e3)
        refine xq_go hK [7, 30] 60 ?_
        refine And.intro (fun z => absurd z (by omega)) (fun _ => ?_)
        refine And.intro (fun _ => fin) (fun _ => ?_)
        refine ⟨lev - 1, by omega, c_R_readSign (by omega) t G (by omega) (by omega) (fun e4 _ => absurd (by rw [← e3]; exact e4) c) (fun _ => ?_)⟩
        refine And.intro (fun _ => fin) (fun z => absurd rfl z)
      · intro lev h Q K hK hlv I q1' _
        obtain ⟨i1, i2, i3, i4, i5, i6⟩ := I
        refine xq_go hK [2] 60 ?_
        refine And.intro (fun z => absurd i4 z) (fun _ => ?_)
        refine ⟨lev - 1, by omega, c_M_here (by omega) i1 G (by omega) ?_⟩
        rw [i2]
        refine And.intro (fun _ => ?_) (fun z => absurd z c)
        exact q1' [] rfl h (xp_rO_0 i2 i4)
def xp_CT (g : Int → Int) (N o p : Int) (r : xp_R) (L : Nat) : Prop := ∀ (lev : Nat) (h : xq_H) (Q : Option xq_V → xq_H → Prop) (K : xq_KT), xq_sound (xq_C lev) rw_R_readEither 81 Q K → ∀ (ors : Int), L ≤ lev → xp_tc h g N → h 54 3 = p → (0 ≤ h 55 6 ∧ h 55 6 + (N - p) ≤ 100) →
  (∀ l, r.2 = some l → ∀ h' (a : Int), xp_cO h h' r.1 l → K 30 [some (xR 54), some (xI o), some (xI ors), some (xI a)] [] 81 h') → (r.2 = none → ∀ h', xp_cs h h' → h' 54 3 = r.1 → Q (some (xI 0)) h') → K 7 [some (xR 54), some (xI o), some (xI ors), some (xI 0)] [] 81 h
theorem xp_every {g : Int → Int} {N o : Int} (G : xp_g g N) {dep L : Nat} (hL : 12 ≤ L) (F : ∀ p : Int, 0 ≤ p → p ≤ N → xp_S y_R_readFactor y_M_factor g N o p dep L) (p : Int) (hp0 : 0 ≤ p) (hpN : p ≤ N) : ∃ r, xp_ok N p r (dep + 1) 0 1 1 ∧ xp_CT g N o p r (L + 1) ∧ xp_RM y_M_every g N o p r (L + 1) := by
  have gN := G.1
  obtain ⟨⟨q1, o1⟩, ok1, cf, rf⟩ := F p hp0 hpN
  cases o1 with
  | none =>
    refine ⟨(q1, none), ⟨ok1.1, fun l hl => absurd hl (by simp)⟩, ?_, ?_⟩
    · intro lev h Q K hK ors hlv t e3 hz _ q0
      refine xq_go hK [7, 30] 60 ?_
      refine And.intro (fun _ => ?_) (fun z => absurd rfl z)
      refine ⟨lev - 1, by omega, cf (lev - 1) _ _ (by omega) t e3 hz (fun l hl => absurd hl (by simp)) (fun _ h' s' e' => ?_)⟩
      refine And.intro (fun z => absurd rfl z) (fun _ => ?_)
      exact And.intro (Or.inl rfl) (q0 rfl h' s' e')
    · intro lev h Q hlv I _ q0
      refine en_M_every (by omega) (fun K hK => ?_)
      refine xq_go hK [] 60 ?_
      refine ⟨lev - 1, by omega, rf (lev - 1) _ _ (by omega) I (fun l hl => absurd hl (by simp)) (fun _ h' s' e' e8 => ?_)⟩
      refine And.intro (fun _ => ?_) (fun z => absurd z (by omega))
      exact q0 rfl h' s' e' e8
  | some l1 =>
    have ok2 := ok1.2 l1 rfl
    dsimp only at ok2
    have ok3 := ok1.1
    dsimp only at ok3
    obtain ⟨⟨q2, o2⟩, okn, cl, rl⟩ := xp_ands G hL F (N - q1).toNat q1 (by omega) (by omega) (by omega)
    refine ⟨(q2, o2.map (fun l2 => l1 ++ l2)), ⟨?_, fun l hl => ?_⟩, ?_, ?_⟩
    · have := okn.1
      dsimp only at this ⊢
      omega
    · cases o2 with
      | none => exact absurd hl (by simp)
      | some l2 =>
        have e : l = l1 ++ l2 := by
          simp only [Option.map_some, Option.some.injEq] at hl
          exact hl.symm
        have okm := okn.2 l2 rfl
        dsimp only at okm ⊢
        rw [e]
        refine ⟨by omega, by simp only [List.length_append]; omega, fun s hs => ?_⟩
        exact xf_wf_app _ _ (s + 1) _ (ok2.2.2 s (by omega)) (okm.2.2 s hs)
    · intro lev h Q K hK ors hlv t e3 hz q1' q0
      refine xq_go hK [7, 30] 60 ?_
      refine And.intro (fun _ => ?_) (fun z => absurd rfl z)
      refine ⟨lev - 1, by omega, cf (lev - 1) _ _ (by omega) t e3 hz (fun l hl h' O1 => ?_) (fun z => absurd z (by simp))⟩
      have el : l = l1 := by
        simp only [Option.some.injEq] at hl
        exact hl.symm
      subst el
      have z1 := O1.2.2.1
      refine And.intro (fun _ => ?_) (fun z => absurd z (by decide))
      refine And.intro (fun _ => ?_) (fun z => absurd z (by decide))
      refine And.intro (by decide) ?_
      refine cl lev h' Q K hK ors _ (by omega) (xp_cs_tc O1.1 t) O1.2.1 (by omega) (by decide) (by omega) (fun l2 hl2 h2 a O2 => ?_) (fun hn' h2 s2 e2 => ?_)
      · exact q1' (l ++ l2) (congrArg (Option.map (fun l2 => l ++ l2)) hl2) h2 a (xp_cO_tr O1 O2)
      · exact q0 (congrArg (Option.map (fun l2 => l ++ l2)) hn') h2 (xp_cs_tr O1.1 s2) e2
    · intro lev h Q hlv I q1' q0
      refine en_M_every (by omega) (fun K hK => ?_)
      refine xq_go hK [2] 60 ?_
      refine ⟨lev - 1, by omega, rf (lev - 1) _ _ (by omega) I (fun l hl h' O1 => ?_) (fun z => absurd z (by simp))⟩
      have el : l = l1 := by
        simp only [Option.some.injEq] at hl
        exact hl.symm
      subst el
      have I1 := xp_rI_O I gN.2 O1 (by show (l.length : Int) ≤ q1 - _; omega)
      refine rl lev h' Q K hK (by omega) I1 (fun l2 hl2 h2 O2 => ?_) (fun hn' h2 s2 e2 e8 => ?_)
      · exact q1' (l ++ l2) (congrArg (Option.map (fun l2 => l ++ l2)) hl2) h2 (xp_rO_tr I.2.2.2.2.2.1 O1 O2)
      · exact q0 (congrArg (Option.map (fun l2 => l ++ l2)) hn') h2 (xp_rs_tr O1.1 s2) e2 e8
/-! then those joined by | -/
def xp_CO (g : Int → Int) (N o p : Int) (r : xp_R) (L : Nat) : Prop := ∀ (lev : Nat) (h : xq_H) (Q : Option xq_V → xq_H → Prop) (K : xq_KT), xq_sound (xq_C lev) rw_R_readEither 81 Q K → ∀ (ors ands : Int), L ≤ lev → xp_tc h g N → h 54 3 = p → (0 ≤ h 55 6 ∧ h 55 6 + (N - p) ≤ 100) → 0 ≤ ors → ors + (N - p) ≤ 99 →
  (∀ l, r.2 = some l → ∀ h', xp_cO h h' r.1 l → Q (some (xI 1)) h') → (r.2 = none → ∀ h', xp_cs h h' → h' 54 3 = r.1 → Q (some (xI 0)) h') → K 36 [some (xR 54), some (xI o), some (xI ors), some (xI ands)] [] 81 h
def xp_RO (g : Int → Int) (N o p : Int) (r : xp_R) (L : Nat) : Prop := ∀ (lev : Nat) (h : xq_H) (Q : Option xq_V → xq_H → Prop) (K : xq_KT), xq_sound (xq_C lev) rw_M_some 81 Q K → L ≤ lev → xp_rI h g N p o →
  (∀ l, r.2 = some l → ∀ h', xp_rO h h' r.1 l → Q none h') → (r.2 = none → ∀ h', xp_rs h h' → h' 64 6 = r.1 → h' 64 8 = 1 → Q none h') → K 2 [some (xR 64)] [] 81 h
theorem xp_ors {g : Int → Int} {N o : Int} (G : xp_g g N) {dep L : Nat} (hL : 12 ≤ L) (F : ∀ p : Int, 0 ≤ p → p ≤ N → xp_S y_R_readFactor y_M_factor g N o p dep L) : ∀ (n : Nat) (p : Int), 0 ≤ p → p ≤ N → N - p = n → ∃ r, xp_ok N p r (dep + 2) 1 1 0 ∧ xp_CO g N o p r (L + 2) ∧ xp_RO g N o p r (L + 2) := by
  intro n
  induction n using Nat.strongRecOn with
  | ind n ih =>
    intro p hp0 hpN hn
    have pb := xp_pk_bd G hp0
    have gN := G.1
    by_cases c : xp_pk g N p = 124
    · obtain ⟨⟨q1, o1⟩, ok1, cf, rf⟩ := xp_every G hL F (p + 1) (by omega) (by omega)
      cases o1 with
      | none =>
        refine ⟨(q1, none), ⟨?_, fun l hl => absurd hl (by simp)⟩, ?_, ?_⟩
        · have := ok1.1
          dsimp only at this ⊢
          omega
        · intro lev h Q K hK ors ands hlv t e3 hz ha1 ha2 _ q0
          refine xq_go hK [7, 30, 36] 60 ?_
          refine ⟨lev - 1, by omega, c_R_readSign (by omega) t G (by omega) (by omega) (fun e4 _ => ?_) (fun e4 => absurd (by rw [e3]; exact c) e4)⟩
          refine And.intro (fun _ => ?_) (fun z => absurd z (by decide))
          have O1 : xp_cO h (xq_u h 54 3 (h 54 3 + 1)) (h 54 3 + 1) [] := xp_cO_st
          refine And.intro (by omega) ?_
          refine And.intro (fun z => absurd z (by omega)) (fun _ => ?_)
          exact cf lev _ Q K hK _ (by omega) (xp_cs_tc O1.1 t) (by rw [xu_eq, e3]) (by rw [xq_u_o (by decide)]; omega) (fun l hl => absurd hl (by simp)) (fun _ h' s' e' => q0 rfl h' (xp_cs_tr O1.1 s') e')
        · intro lev h Q K hK hlv I _ q0
          obtain ⟨i1, i2, i3, i4, i5, i6⟩ := I
          refine xq_go hK [2] 60 ?_
          refine And.intro (fun z => absurd i4 z) (fun _ => ?_)
          refine ⟨lev - 1, by omega, c_M_here (by omega) i1 G (by omega) ?_⟩
          rw [i2]
          refine And.intro (fun z => absurd c z) (fun _ => ?_)
          refine And.intro (by omega) ?_
          have O1 := xp_rO_sp i2 i4
          have I1 := xp_rI_O (q := p + 1) ⟨i1, i2, i3, i4, i5, i6⟩ gN.2 O1 (by show ((0 : Nat) : Int) ≤ _; omega)
          refine ⟨lev - 1, by omega, rf (lev - 1) _ _ (by omega) I1 (fun l hl => absurd hl (by simp)) (fun _ h' s' e' e8 => ?_)⟩
          refine ⟨lev - 1, by omega, c_M_emits_w (by omega) e8 ?_⟩
          refine xq_go hK [] 60 ?_
          refine And.intro (fun _ => ?_) (fun z => absurd z (by omega))
          exact q0 rfl h' (xp_rs_tr O1.1 s') e' e8
      | some l1 =>
        have ok2 := ok1.2 l1 rfl
        dsimp only at ok2
        have ok3 := ok1.1
        dsimp only at ok3
        obtain ⟨⟨q2, o2⟩, okn, cl, rl⟩ := ih (N - q1).toNat (by omega) q1 (by omega) (by omega) (by omega)
        refine ⟨(q2, o2.map (fun l2 => (l1 ++ [-3]) ++ l2)), ⟨?_, fun l hl => ?_⟩, ?_, ?_⟩
        · have := okn.1
          dsimp only at this ⊢
          omega
        · cases o2 with
          | none => exact absurd hl (by simp)
          | some l2 =>
            have e : l = (l1 ++ [-3]) ++ l2 := by
              simp only [Option.map_some, Option.some.injEq] at hl
              exact hl.symm
            have okm := okn.2 l2 rfl
            dsimp only at okm ⊢
            rw [e]
            refine ⟨by omega, by simp only [List.length_append, List.length_cons, List.length_nil]; omega, fun s hs => ?_⟩
            refine xf_wf_app _ _ (s + 1) _ (xf_wf_app _ _ (s + 1 + 1) _ (ok2.2.2 (s + 1) (by omega)) ?_) (okm.2.2 s (by omega))
            refine Or.inr (Or.inr ⟨Or.inr rfl, by omega, ?_⟩)
            show s + 1 + 1 - 1 = s + 1
            omega
        · intro lev h Q K hK ors ands hlv t e3 hz ha1 ha2 q1' q0
          refine xq_go hK [7, 30, 36] 60 ?_
          refine ⟨lev - 1, by omega, c_R_readSign (by omega) t G (by omega) (by omega) (fun e4 _ => ?_) (fun e4 => absurd (by rw [e3]; exact c) e4)⟩
          refine And.intro (fun _ => ?_) (fun z => absurd z (by decide))
          have O1 : xp_cO h (xq_u h 54 3 (h 54 3 + 1)) (h 54 3 + 1) [] := xp_cO_st
          refine And.intro (by omega) ?_
          refine And.intro (fun z => absurd z (by omega)) (fun _ => ?_)
          refine cf lev _ Q K hK _ (by omega) (xp_cs_tc O1.1 t) (by rw [xu_eq, e3]) (by rw [xq_u_o (by decide)]; omega) (fun l hl h' a O2 => ?_) (fun z => absurd z (by simp))
          have el : l = l1 := by
            simp only [Option.some.injEq] at hl
            exact hl.symm
          subst el
          have O12 := xp_cO_tr O1 O2
          dsimp only at O12
          have z2 := O12.2.2.1
          simp only [List.nil_append] at z2
          refine xq_go hK [36] 60 ?_
          refine And.intro (fun z => absurd z (by omega)) (fun _ => ?_)
          refine ⟨lev - 1, by omega, c_P_put (t := -3) (by omega) (by omega) (fun h3 O3 => ?_)⟩
          have O123 := xp_cO_tr O12 O3
          rw [O12.2.1] at O123
          simp only [List.nil_append] at O123
          have z3 := O123.2.2.1
          simp only [List.length_append, List.length_cons, List.length_nil] at z3
          refine cl lev h3 Q K hK _ _ (by omega) (xp_cs_tc O123.1 t) O123.2.1 (by omega) (by omega) (by omega) (fun l2 hl2 h' O4 => ?_) (fun hn' h' s' e' => ?_)
          · exact q1' ((l ++ [-3]) ++ l2) (congrArg (Option.map (fun l2 => (l ++ [-3]) ++ l2)) hl2) h' (xp_cO_tr O123 O4)
          · exact q0 (congrArg (Option.map (fun l2 => (l ++ [-3]) ++ l2)) hn') h' (xp_cs_tr O123.1 s') e'
        · intro lev h Q K hK hlv I q1' q0
          obtain ⟨i1, i2, i3, i4, i5, i6⟩ := I
          refine xq_go hK [2] 60 ?_
          refine And.intro (fun z => absurd i4 z) (fun _ => ?_)
          refine ⟨lev - 1, by omega, c_M_here (by omega) i1 G (by omega) ?_⟩
          rw [i2]
          refine And.intro (fun z => absurd c z) (fun _ => ?_)
          refine And.intro (by omega) ?_
          have O1 := xp_rO_sp i2 i4
          have I1 := xp_rI_O (q := p + 1) ⟨i1, i2, i3, i4, i5, i6⟩ gN.2 O1 (by show ((0 : Nat) : Int) ≤ _; omega)
          refine ⟨lev - 1, by omega, rf (lev - 1) _ _ (by omega) I1 (fun l hl h' O2 => ?_) (fun z => absurd z (by simp))⟩
          have el : l = l1 := by
            simp only [Option.some.injEq] at hl
            exact hl.symm
          subst el
          have I2 := xp_rI_O I1 gN.2 O2 (by show (l.length : Int) ≤ q1 - _; omega)
          have O12 := xp_rO_tr i6.1 O1 O2
          dsimp only at I2 O12
          obtain ⟨j1, j2, j3, j4, j5, j6⟩ := I2
          refine ⟨lev - 1, by omega, c_M_emits (by omega) j5 (by omega) (Or.inl j4) (fun _ h3 O3 => ?_) (fun z => absurd z (by omega))⟩
          have O123 := xp_rO_tr i6.1 O12 O3
          rw [j2] at O123
          simp only [List.nil_append] at O123
          have I3 := xp_rI_O (q := q1) ⟨i1, i2, i3, i4, i5, i6⟩ gN.2 O123 (by simp only [List.length_append, List.length_cons, List.length_nil]; omega)
          refine rl lev h3 Q K hK (by omega) I3 (fun l2 hl2 h' O4 => ?_) (fun hn' h' s' e' e8 => ?_)
          · exact q1' ((l ++ [-3]) ++ l2) (congrArg (Option.map (fun l2 => (l ++ [-3]) ++ l2)) hl2) h' (xp_rO_tr i6.1 O123 O4)
          · exact q0 (congrArg (Option.map (fun l2 => (l ++ [-3]) ++ l2)) hn') h' (xp_rs_tr O123.1 s') e' e8
    · refine ⟨(p, some []), ⟨⟨Int.le_refl _, hpN⟩, fun l hl => ?_⟩, ?_, ?_⟩
      · have e : l = [] := by
          simp only [Option.some.injEq] at hl
          exact hl.symm
        subst e
        refine ⟨by dsimp only; omega, by show ((0 : Nat) : Int) ≤ _; dsimp only; omega, fun s _ => rfl⟩
      · intro lev h Q K hK ors ands hlv t e3 hz ha1 ha2 q1' _
        have fin := q1' [] rfl h (xp_cO_0 e3)
        refine xq_go hK [7, 30, 36] 60 ?_
        refine ⟨lev - 1, by omega, c_R_readSign (by omega) t G (by omega) (by omega) (fun e4 _ => absurd (by rw [← e3]; exact e4) c) (fun _ => ?_)⟩
        refine And.intro (fun z => absurd rfl z) (fun _ => ?_)
        exact And.intro (Or.inr rfl) fin
      · intro lev h Q K hK hlv I q1' _
        obtain ⟨i1, i2, i3, i4, i5, i6⟩ := I
        refine xq_go hK [2] 60 ?_
        refine And.intro (fun z => absurd i4 z) (fun _ => ?_)
        refine ⟨lev - 1, by omega, c_M_here (by omega) i1 G (by omega) ?_⟩
        rw [i2]
        refine And.intro (fun _ => ?_) (fun z => absurd z c)
        exact q1' [] rfl h (xp_rO_0 i2 i4)
theorem xp_either {g : Int → Int} {N o : Int} (G : xp_g g N) {dep L : Nat} (hL : 12 ≤ L) (F : ∀ p : Int, 0 ≤ p → p ≤ N → xp_S y_R_readFactor y_M_factor g N o p dep L) (p : Int) (hp0 : 0 ≤ p) (hpN : p ≤ N) : xp_S y_R_readEither y_M_some g N o p (dep + 2) (L + 2) := by
  have gN := G.1
  obtain ⟨⟨q1, o1⟩, ok1, cf, rf⟩ := xp_every G hL F p hp0 hpN
  cases o1 with
  | none =>
    refine ⟨(q1, none), ⟨ok1.1, fun l hl => absurd hl (by simp)⟩, ?_, ?_⟩
    · intro lev h Q hlv t e3 hz _ q0
      refine en_R_readEither (by omega) (fun K hK => ?_)
      refine xq_go hK [7, 30] 60 ?_
      refine And.intro (fun z => absurd z (by decide)) (fun _ => ?_)
      exact cf lev _ Q K hK _ (by omega) t e3 hz (fun l hl => absurd hl (by simp)) q0
    · intro lev h Q hlv I _ q0
      refine en_M_some (by omega) (fun K hK => ?_)
      refine xq_go hK [] 60 ?_
      refine ⟨lev - 1, by omega, rf (lev - 1) _ _ (by omega) I (fun l hl => absurd hl (by simp)) (fun _ h' s' e' e8 => ?_)⟩
      refine And.intro (fun _ => ?_) (fun z => absurd z (by omega))
      exact q0 rfl h' s' e' e8
  | some l1 =>
    have ok2 := ok1.2 l1 rfl
    dsimp only at ok2
    have ok3 := ok1.1
    dsimp only at ok3
    obtain ⟨⟨q2, o2⟩, okn, cl, rl⟩ := xp_ors G hL F (N - q1).toNat q1 (by omega) (by omega) (by omega)
    refine ⟨(q2, o2.map (fun l2 => l1 ++ l2)), ⟨?_, fun l hl => ?_⟩, ?_, ?_⟩
    · have := okn.1
      dsimp only at this ⊢
      omega
    · cases o2 with
      | none => exact absurd hl (by simp)
      | some l2 =>
        have e : l = l1 ++ l2 := by
          simp only [Option.map_some, Option.some.injEq] at hl
          exact hl.symm
        have okm := okn.2 l2 rfl
        dsimp only at okm ⊢
        rw [e]
        refine ⟨by omega, by simp only [List.length_append]; omega, fun s hs => ?_⟩
        exact xf_wf_app _ _ (s + 1) _ (ok2.2.2 s (by omega)) (okm.2.2 s hs)
    · intro lev h Q hlv t e3 hz q1' q0
      refine en_R_readEither (by omega) (fun K hK => ?_)
      refine xq_go hK [7, 30] 60 ?_
      refine And.intro (fun z => absurd z (by decide)) (fun _ => ?_)
      refine cf lev _ Q K hK _ (by omega) t e3 hz (fun l hl h' a O1 => ?_) (fun z => absurd z (by simp))
      have el : l = l1 := by
        simp only [Option.some.injEq] at hl
        exact hl.symm
      subst el
      have z1 := O1.2.2.1
      refine xq_go hK [36] 60 ?_
      refine And.intro (fun _ => ?_) (fun z => absurd z (by decide))
      refine cl lev h' Q K hK _ _ (by omega) (xp_cs_tc O1.1 t) O1.2.1 (by omega) (by decide) (by omega) (fun l2 hl2 h2 O2 => ?_) (fun hn' h2 s2 e2 => ?_)
      · exact q1' (l ++ l2) (congrArg (Option.map (fun l2 => l ++ l2)) hl2) h2 (xp_cO_tr O1 O2)
      · exact q0 (congrArg (Option.map (fun l2 => l ++ l2)) hn') h2 (xp_cs_tr O1.1 s2) e2
    · intro lev h Q hlv I q1' q0
      refine en_M_some (by omega) (fun K hK => ?_)
      refine xq_go hK [2] 60 ?_
      refine ⟨lev - 1, by omega, rf (lev - 1) _ _ (by omega) I (fun l hl h' O1 => ?_) (fun z => absurd z (by simp))⟩
      have el : l = l1 := by
        simp only [Option.some.injEq] at hl
        exact hl.symm
      subst el
      have I1 := xp_rI_O I gN.2 O1 (by show (l.length : Int) ≤ q1 - _; omega)
      refine rl lev h' Q K hK (by omega) I1 (fun l2 hl2 h2 O2 => ?_) (fun hn' h2 s2 e2 e8 => ?_)
      · exact q1' (l ++ l2) (congrArg (Option.map (fun l2 => l ++ l2)) hl2) h2 (xp_rO_tr I.2.2.2.2.2.1 O1 O2)
      · exact q0 (congrArg (Option.map (fun l2 => l ++ l2)) hn') h2 (xp_rs_tr O1.1 s2) e2 e8
