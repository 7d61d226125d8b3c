/-! A TELEPHONE, read by both -/
theorem xp_clause {g : Int → Int} {N p : Int} (G : xp_g g N) (hp : 0 ≤ p ∧ p ≤ N) : xp_SC g N p := by
  by_cases c1 : xp_pk g N p = 108
  · exact xp_SC_0 G hp c1
  by_cases c2 : xp_pk g N p = 115
  · exact xp_SC_1 G hp c2
  by_cases c3 : xp_pk g N p = 100
  · exact xp_SC_2 G hp c3
  by_cases c4 : xp_pk g N p = 102
  · exact xp_SC_3 G hp c4
  exact xp_SC_x G hp c1 c2 c3 c4
def xp_CA (g : Int → Int) (N : Int) (n : Nat) (p q : Int) (o : Option (xp_A → xp_A)) : Prop := ∀ (lev : Nat) (h : xq_H) (Q : Option xq_V → xq_H → Prop) (K : xq_KT), xq_sound (xq_C lev) rw_R_faultOf 81 Q K → ∀ (A : xp_A) (x2 : Int) (nI : Int), 50 ≤ lev → nI = n → xp_tc h g N → h 54 3 = p → xp_cph h A → xp_okA A p n →
  (∀ f, o = some f → ∀ h', xp_c2 h h' → xp_cph h' (f A) → Q (some (xI (-1))) h') → (o = none → ∀ h', xp_c2 h h' → Q (some (xI q)) h') → K 26 [some (xR 54), some (xR 25), some (xI x2), some (xI nI)] [] 81 h
def xp_RA (g : Int → Int) (N : Int) (n : Nat) (p q : Int) (o : Option (xp_A → xp_A)) : Prop := ∀ (lev : Nat) (h : xq_H) (Q : Option xq_V → xq_H → Prop) (K : xq_KT), xq_sound (xq_C lev) rw_M_telephone 81 Q K → ∀ (A : xp_A) (nI : Int), 50 ≤ lev → nI = n → xp_rC h g N p A → xp_okA A p n →
  (∀ f, o = some f → ∀ (h' : xq_H) (n' : Int), xp_r2 h h' → h' 64 6 = N → h' 64 8 = 0 → xp_rph (h' 65) (h 64 5) (f A) → K 82 [some (xR 64), some (xI n')] [] 81 h') →
  (o = none → ∀ (h' : xq_H) (n' : Int), xp_r2 h h' → h' 64 6 = q → (h' 64 8 = 1 ∨ h' 64 8 = 0 ∧ q ≠ N) → K 82 [some (xR 64), some (xI n')] [] 81 h') → K 62 [some (xR 64), some (xI nI)] [] 81 h
theorem xp_after {g : Int → Int} {N : Int} (G : xp_g g N) : ∀ (k n : Nat) (p : Int), n + k = 10 → 1 ≤ n → 0 ≤ p → p ≤ N → ∃ (q : Int) (o : Option (xp_A → xp_A)), (0 ≤ q ∧ q ≤ N) ∧ (∀ f, o = some f → ∀ A : xp_A, xp_okA A p n → xp_okA (f A) N 10) ∧ xp_CA g N n p q o ∧ xp_RA g N n p q o := by
  intro k
  induction k with
  | zero =>
    intro n p hn h1 hp0 hpN
    have gN := G.1
    obtain rfl : n = 10 := by omega
    by_cases c : p = N
    · refine ⟨p, some (fun A => A), ⟨hp0, hpN⟩, fun f hf A ok => ?_, ?_, ?_⟩
      · simp only [Option.some.injEq] at hf
        rw [← hf, ← c]
        exact ok
      · intro lev h Q K hK A x2 nI hl en t e3 hA ok q1 _
        refine xq_go hK [] 60 ?_
        refine And.intro (fun z => absurd z (by rw [e3, t.2.1]; omega)) (fun _ => ?_)
        exact q1 _ rfl h ⟨xs_rf, fun _ _ => rfl⟩ hA
      · intro lev h Q K hK A nI hl en I ok q1 _
        obtain ⟨i1, i2, i3, i4, i5, i6⟩ := I
        have fin := q1 _ rfl h nI ⟨xs_rf, fun _ _ _ _ => rfl, fun _ _ => rfl, rfl⟩ (i2.trans c) i4 i6
        refine xq_go hK [82] 60 ?_
        refine And.intro (fun z => absurd i4 z) (fun _ => ?_)
        exact And.intro (fun _ => fin) (fun z => absurd z (by omega))
    · refine ⟨p, none, ⟨hp0, hpN⟩, fun f hf => absurd hf (by simp), ?_, ?_⟩
      · intro lev h Q K hK A x2 nI hl en t e3 hA ok _ q0
        refine xq_go hK [] 60 ?_
        refine And.intro (fun _ => ?_) (fun z => absurd (by rw [e3, t.2.1]; omega) z)
        refine And.intro (fun _ => ?_) (fun z => absurd en z)
        have fin := q0 rfl h ⟨xs_rf, fun _ _ => rfl⟩
        rw [← e3] at fin
        exact fin
      · intro lev h Q K hK A nI hl en I ok _ q0
        obtain ⟨i1, i2, i3, i4, i5, i6⟩ := I
        have fin := q0 rfl h nI ⟨xs_rf, fun _ _ _ _ => rfl, fun _ _ => rfl, rfl⟩ i2 (Or.inr ⟨i4, c⟩)
        refine xq_go hK [82] 60 ?_
        refine And.intro (fun z => absurd i4 z) (fun _ => ?_)
        exact And.intro (fun _ => fin) (fun z => absurd z (by omega))
  | succ k ih =>
    intro n p hn h1 hp0 hpN
    have gN := G.1
    have pb := xp_pk_bd G hp0
    by_cases c : p = N
    · refine ⟨p, some (fun A => A), ⟨hp0, hpN⟩, fun f hf A ok => ?_, ?_, ?_⟩
      · simp only [Option.some.injEq] at hf
        rw [← hf, ← c]
        exact ⟨ok.1, ok.2.1, ok.2.2.1, ok.2.2.2.1, Nat.le_trans ok.2.2.2.2 (by omega)⟩
      · intro lev h Q K hK A x2 nI hl en t e3 hA ok q1 _
        refine xq_go hK [] 60 ?_
        refine And.intro (fun z => absurd z (by rw [e3, t.2.1]; omega)) (fun _ => ?_)
        exact q1 _ rfl h ⟨xs_rf, fun _ _ => rfl⟩ hA
      · intro lev h Q K hK A nI hl en I ok q1 _
        obtain ⟨i1, i2, i3, i4, i5, i6⟩ := I
        have fin := q1 _ rfl h nI ⟨xs_rf, fun _ _ _ _ => rfl, fun _ _ => rfl, rfl⟩ (i2.trans c) i4 i6
        refine xq_go hK [82] 60 ?_
        refine And.intro (fun z => absurd i4 z) (fun _ => ?_)
        refine And.intro (fun _ => fin) (fun _ => ?_)
        refine ⟨lev - 1, by omega, c_M_here (by omega) i1 G (by omega) ?_⟩
        rw [i2]
        refine And.intro (fun _ => fin) (fun z => absurd (pb.2.2.1 (by omega)) (by omega))
    by_cases c2 : xp_pk g N p = 59
    · have hp1 := pb.2.2.1 (by omega)
      obtain ⟨q1c, o1, okq, okf, cc, rc⟩ := xp_clause (p := p + 1) G (by omega)
      -- up to the clause
      have CS : ∀ (lev : Nat) (h : xq_H) (Q : Option xq_V → xq_H → Prop) (K : xq_KT), xq_sound (xq_C lev) rw_R_faultOf 81 Q K → ∀ (A : xp_A) (x2 : Int) (nI : Int), 50 ≤ lev → nI = n → xp_tc h g N → h 54 3 = p → xp_cph h A → xp_okA A p n →
          (∀ f, o1 = some f → ∀ h', xp_c2 h h' → h' 54 3 = q1c → xp_cph h' (f A) → K 26 [some (xR 54), some (xR 25), some (xI x2), some (xI (nI + 1))] [] 81 h') → (o1 = none → ∀ h', xp_c2 h h' → Q (some (xI q1c)) h') → K 26 [some (xR 54), some (xR 25), some (xI x2), some (xI nI)] [] 81 h := by
        intro lev h Q K hK A x2 nI hl en t e3 hA ok go1 go0
        obtain ⟨a1, a2, a3, a4, a5⟩ := hA
        refine xq_go hK [26] 60 ?_
        refine And.intro (fun _ => ?_) (fun z => absurd (by rw [e3, t.2.1]; omega) z)
        refine And.intro (fun z => absurd z (by omega)) (fun _ => ?_)
        refine ⟨lev - 1, by omega, c_R_readSign (by omega) t G (by omega) (by decide) (fun _ _ => ?_) (fun e4 => absurd (by rw [e3]; exact c2) e4)⟩
        refine And.intro (fun _ => ?_) (fun z => absurd z (by decide))
        refine And.intro (by omega) ?_
        refine And.intro (fun z => absurd z (by omega)) (fun _ => ?_)
        have c0 : xp_c2 h (xq_u h 54 3 (h 54 3 + 1)) := ⟨xs_u xs_rf (by decide) _ _, fun k hk => xu_ne hk⟩
        refine ⟨lev - 1, by omega, cc (lev - 1) _ _ A n (by omega) (xp_c2_t c0 t) (by rw [xu_eq, e3]) ⟨a1, a2, a3, a4, xf_cls_congr (h := xp_v h) (h' := xp_v (xq_u h 54 3 (h 54 3 + 1))) (xq_u_o (o' := 56) (by decide)) (xq_u_o (o' := 57) (by decide)) (xq_u_o (o' := 58) (by decide)) _ _ _ a5⟩ ⟨ok.1, ok.2.1, ok.2.2.1, by have := ok.2.2.2.1; omega, ok.2.2.2.2⟩ (by omega) (fun f hf h' s' e' hA' => ?_) (fun hn' h' s' e' => ?_)⟩
        · refine And.intro (fun _ => ?_) (fun z => absurd z (by decide))
          exact go1 f hf h' (xp_c2_tr c0 s') e' hA'
        · refine And.intro (fun z => absurd rfl z) (fun _ => ?_)
          have fin := go0 hn' h' (xp_c2_tr c0 s')
          rw [← e'] at fin
          exact fin
      have RS : ∀ (lev : Nat) (h : xq_H) (Q : Option xq_V → xq_H → Prop) (K : xq_KT), xq_sound (xq_C lev) rw_M_telephone 81 Q K → ∀ (A : xp_A) (nI : Int), 50 ≤ lev → nI = n → xp_rC h g N p A → xp_okA A p n →
          (∀ f, o1 = some f → ∀ h', xp_r2 h h' → h' 64 6 = q1c → h' 64 8 = 0 → xp_rph (h' 65) (h 64 5) (f A) → K 62 [some (xR 64), some (xI (nI + 1))] [] 81 h') → (o1 = none → ∀ h', xp_r2 h h' → h' 64 6 = q1c → h' 64 8 = 1 → K 62 [some (xR 64), some (xI (nI + 1))] [] 81 h') → K 62 [some (xR 64), some (xI nI)] [] 81 h := by
        intro lev h Q K hK A nI hl en I ok go1 go0
        obtain ⟨i1, i2, i3, i4, i5, i6⟩ := I
        refine xq_go hK [62, 82] 60 ?_
        refine And.intro (fun z => absurd i4 z) (fun _ => ?_)
        refine And.intro (fun z => absurd z (by omega)) (fun _ => ?_)
        refine ⟨lev - 1, by omega, c_M_here (by omega) i1 G (by omega) ?_⟩
        rw [i2]
        refine And.intro (fun z => absurd c2 z) (fun _ => ?_)
        refine And.intro (by omega) ?_
        have O1 := xp_rO_sp i2 i4
        have r0 := xp_r2_s O1.1
        have e65 : xq_u h 64 6 (h 64 6 + 1) 65 = h 65 := xq_u_o (by decide)
        have I1 : xp_rC (xq_u h 64 6 (h 64 6 + 1)) g N (p + 1) A := ⟨xp_r2_t r0 i5.1 gN.2 i1, O1.2.1, by rw [xu_ne (by decide)]; exact i3, O1.2.2.1, by rw [xu_ne (by decide)]; exact i5, by rw [xu_ne (by decide), e65]; exact i6⟩
        refine ⟨lev - 1, by omega, rc (lev - 1) _ _ A n (by omega) I1 ⟨ok.1, ok.2.1, ok.2.2.1, by have := ok.2.2.2.1; omega, ok.2.2.2.2⟩ (fun f hf h' s' e' e8 hA' => ?_) (fun hn' h' s' e' e8 => ?_)⟩
        · refine And.intro (by omega) ?_
          exact go1 f hf h' (xp_r2_tr r0 s') e' e8 hA'
        · refine And.intro (by omega) ?_
          exact go0 hn' h' (xp_r2_tr r0 s') e' e8
      cases o1 with
      | none =>
        refine ⟨q1c, none, by omega, fun f hf => absurd hf (by simp), ?_, ?_⟩
        · intro lev h Q K hK A x2 nI hl en t e3 hA ok _ q0
          exact CS lev h Q K hK A x2 nI hl en t e3 hA ok (fun f hf => absurd hf (by simp)) (fun _ h' s' => q0 rfl h' s')
        · intro lev h Q K hK A nI hl en I ok _ q0
          refine RS lev h Q K hK A nI hl en I ok (fun f hf => absurd hf (by simp)) (fun _ h' s' e' e8 => ?_)
          have fin := q0 rfl h' (nI + 1) s' e' (Or.inl e8)
          refine xq_go hK [82] 60 ?_
          exact And.intro (fun _ => fin) (fun z => absurd z (by omega))
      | some f1 =>
        have okf1 := okf f1 rfl
        obtain ⟨q2, o2, okq2, okf2, ca, ra⟩ := ih (n + 1) q1c (by omega) (by omega) (by omega) okq.2
        refine ⟨q2, o2.map (fun f2 => fun A => f2 (f1 A)), okq2, fun f hf A ok => ?_, ?_, ?_⟩
        · cases o2 with
          | none => exact absurd hf (by simp)
          | some f2 =>
            simp only [Option.map_some, Option.some.injEq] at hf
            rw [← hf]
            exact okf2 f2 rfl (f1 A) (okf1.2 A n ⟨ok.1, ok.2.1, ok.2.2.1, by have := ok.2.2.2.1; omega, ok.2.2.2.2⟩)
        · intro lev h Q K hK A x2 nI hl en t e3 hA ok q1 q0
          refine CS lev h Q K hK A x2 nI hl en t e3 hA ok (fun f hf h' s' e' hA' => ?_) (fun z => absurd z (by simp))
          have ef : f = f1 := by
            simp only [Option.some.injEq] at hf
            exact hf.symm
          subst ef
          exact ca lev h' Q K hK (f A) x2 _ hl (by omega) (xp_c2_t s' t) e' hA' (okf1.2 A n ⟨ok.1, ok.2.1, ok.2.2.1, by have := ok.2.2.2.1; omega, ok.2.2.2.2⟩) (fun f2 hf2 h2 s2 hA2 => q1 _ (congrArg (Option.map (fun f2 => fun A => f2 (f A))) hf2) h2 (xp_c2_tr s' s2) hA2) (fun hn2 h2 s2 => q0 (congrArg (Option.map _) hn2) h2 (xp_c2_tr s' s2))
        · intro lev h Q K hK A nI hl en I ok q1 q0
          refine RS lev h Q K hK A nI hl en I ok (fun f hf h' s' e' e8 hA' => ?_) (fun z => absurd z (by simp))
          have ef : f = f1 := by
            simp only [Option.some.injEq] at hf
            exact hf.symm
          subst ef
          obtain ⟨i1, i2, i3, i4, i5, i6⟩ := I
          have e5 := s'.2.1 5 (by decide) (by decide) (by decide)
          refine ra lev h' Q K hK (f A) _ hl (by omega) ⟨xp_r2_t s' i5.1 gN.2 i1, e', s'.2.2.2.trans i3, e8, by rw [e5]; exact i5, by rw [e5]; exact hA'⟩ (okf1.2 A n ⟨ok.1, ok.2.1, ok.2.2.1, by have := ok.2.2.2.1; omega, ok.2.2.2.2⟩) (fun f2 hf2 h2 n2 s2 e2 e82 hA2 => ?_) (fun hn2 h2 n2 s2 e2 e82 => ?_)
          · rw [e5] at hA2
            exact q1 _ (congrArg (Option.map (fun f2 => fun A => f2 (f A))) hf2) h2 n2 (xp_r2_tr s' s2) e2 e82 hA2
          · exact q0 (congrArg (Option.map _) hn2) h2 n2 (xp_r2_tr s' s2) e2 e82
    · refine ⟨p, none, ⟨hp0, hpN⟩, fun f hf => absurd hf (by simp), ?_, ?_⟩
      · intro lev h Q K hK A x2 nI hl en t e3 hA ok _ q0
        refine xq_go hK [] 60 ?_
        refine And.intro (fun _ => ?_) (fun z => absurd (by rw [e3, t.2.1]; omega) z)
        have fin := q0 rfl h ⟨xs_rf, fun _ _ => rfl⟩
        rw [← e3] at fin
        refine And.intro (fun _ => fin) (fun _ => ?_)
        refine ⟨lev - 1, by omega, c_R_readSign (by omega) t G (by omega) (by decide) (fun e4 _ => absurd (by rw [← e3]; exact e4) c2) (fun _ => ?_)⟩
        exact And.intro (fun z => absurd rfl z) (fun _ => fin)
      · intro lev h Q K hK A nI hl en I ok _ q0
        obtain ⟨i1, i2, i3, i4, i5, i6⟩ := I
        have fin := q0 rfl h nI ⟨xs_rf, fun _ _ _ _ => rfl, fun _ _ => rfl, rfl⟩ i2 (Or.inr ⟨i4, c⟩)
        refine xq_go hK [82] 60 ?_
        refine And.intro (fun z => absurd i4 z) (fun _ => ?_)
        refine And.intro (fun _ => fin) (fun _ => ?_)
        refine ⟨lev - 1, by omega, c_M_here (by omega) i1 G (by omega) ?_⟩
        rw [i2]
        exact And.intro (fun _ => fin) (fun z => absurd z c2)
theorem c_P_clear {lev : Nat} {h : xq_H} {Q : Option xq_V → xq_H → Prop} (hl : 1 ≤ lev) (hQ : ∀ h', xs_eq [55] h h' → h' 55 0 = 12 → h' 55 1 = 10 → h' 55 4 = 0 → h' 55 6 = 0 → Q none h') : xq_met lev y_P_clear [xR 55] 81 h Q := by
  refine en_P_clear (by omega) (fun K hK => ?_)
  refine xq_go hK [] 60 ?_
  refine hQ _ (xs_u (xs_u (xs_u (xs_u xs_rf (by decide) _ _) (by decide) _ _) (by decide) _ _) (by decide) _ _) ?_ ?_ ?_ ?_
  · rw [xu_ne (by decide), xu_ne (by decide), xu_ne (by decide), xu_eq]
  · rw [xu_ne (by decide), xu_ne (by decide), xu_eq]
  · rw [xu_ne (by decide), xu_eq]
  · rw [xu_eq]
/-- what a tape comes to: the fault's place, or the telephone -/
def xp_T (g : Int → Int) (N q : Int) (o : Option xp_A) : Prop := (0 ≤ q ∧ q ≤ N) ∧ (∀ A, o = some A → xp_okA A N 10) ∧
  (∀ (lev : Nat) (h : xq_H) (Q : Option xq_V → xq_H → Prop), 60 ≤ lev → (∀ i : Int, 0 ≤ i → i < N → h 25 i = g i) → (∀ A, o = some A → ∀ h', xs_eq [54, 55, 56, 57, 58] h h' → xp_cph h' A → Q (some (xI (-1))) h') → (o = none → ∀ h', xs_eq [54, 55, 56, 57, 58] h h' → Q (some (xI q)) h') → xq_met lev y_R_faultOf [xR 54, xR 25, xI N] 81 h Q) ∧
  (∀ (lev : Nat) (h : xq_H) (Q : Option xq_V → xq_H → Prop) (K : xq_KT), xq_sound (xq_C lev) rw_M_telephone 81 Q K → 60 ≤ lev → xp_rC h g N 0 (12, 10, []) → (∀ A, o = some A → ∀ (h' : xq_H) (n' : Int), xp_r2 h h' → h' 64 6 = N → h' 64 8 = 0 → xp_rph (h' 65) (h 64 5) A → K 82 [some (xR 64), some (xI n')] [] 81 h') →
    (o = none → ∀ (h' : xq_H) (n' : Int), xp_r2 h h' → h' 64 6 = q → (h' 64 8 = 1 ∨ h' 64 8 = 0 ∧ q ≠ N) → K 82 [some (xR 64), some (xI n')] [] 81 h') → K 60 [some (xR 64), some (xI 1)] [] 81 h)
theorem xp_tele {g : Int → Int} {N : Int} (G : xp_g g N) : ∃ q o, xp_T g N q o := by
  have gN := G.1
  have ok0 : xp_okA (12, 10, []) 0 0 := ⟨by decide, by decide, fun c hc => absurd hc (by simp), by decide, by decide⟩
  obtain ⟨q1c, o1, okq, okf, cc, rc⟩ := xp_clause (p := 0) G (by omega)
  have CS : ∀ (lev : Nat) (h : xq_H) (Q : Option xq_V → xq_H → Prop), 60 ≤ lev → (∀ i : Int, 0 ≤ i → i < N → h 25 i = g i) →
      (∀ f, o1 = some f → ∀ (K : xq_KT), xq_sound (xq_C lev) rw_R_faultOf 81 Q K → ∀ h', xs_eq [54, 55, 56, 57, 58] h h' → xp_tc h' g N → h' 54 3 = q1c → xp_cph h' (f (12, 10, [])) → K 26 [some (xR 54), some (xR 25), some (xI N), some (xI 1)] [] 81 h') → (o1 = none → ∀ h', xs_eq [54, 55, 56, 57, 58] h h' → Q (some (xI q1c)) h') → xq_met lev y_R_faultOf [xR 54, xR 25, xI N] 81 h Q := by
    intro lev h Q hl ht go1 go0
    refine en_R_faultOf (by omega) (fun K hK => ?_)
    refine xq_go hK [26] 60 ?_
    refine And.intro (by decide) ?_
    refine ⟨lev - 1, by omega, c_JM_min (by omega) ?_⟩
    obtain ⟨h1, hh1⟩ : ∃ h1, h1 = xq_u (xq_u (xq_u h 54 1 (((25 : Nat) : Int) + 1)) 54 2 (min N ((100 : Nat) : Int))) 54 3 0 := ⟨_, rfl⟩
    have s1 : xs_eq [54] h h1 := by rw [hh1]; exact xs_u (xs_u (xs_u xs_rf (by decide) _ _) (by decide) _ _) (by decide) _ _
    have f1 : h1 54 1 = 26 := by rw [hh1, xu_ne (by decide), xu_ne (by decide), xu_eq]; rfl
    have f2 : h1 54 2 = N := by rw [hh1, xu_ne (by decide), xu_eq]; omega
    have f3 : h1 54 3 = 0 := by rw [hh1, xu_eq]
    have cl : ∀ Q2 : Option xq_V → xq_H → Prop, (∀ h', xs_eq [55] h1 h' → h' 55 0 = 12 → h' 55 1 = 10 → h' 55 4 = 0 → h' 55 6 = 0 → Q2 none h') → xq_met (lev - 1) y_P_clear [xR 55] 81 h1 Q2 := fun Q2 q2 => c_P_clear (by omega) q2
    rw [hh1] at cl
    refine ⟨lev - 1, by omega, cl _ (fun h2 s2 g0 g1 g4 g6 => ?_)⟩
    rw [← hh1] at s2
    refine And.intro (fun z => absurd z (by decide)) (fun _ => ?_)
    have sh : xs_eq [54, 55, 56, 57, 58] h h2 := xs_tr s1 s2 (by decide) (by decide)
    have t2 : xp_tc h2 g N := ⟨by rw [s2 54 (by decide)]; exact f1, by rw [s2 54 (by decide)]; exact f2, fun i x y => by rw [s2 25 (by decide), s1 25 (by decide)]; exact ht i x y⟩
    refine ⟨lev - 1, by omega, cc (lev - 1) _ _ (12, 10, []) 0 (by omega) t2 (by rw [s2 54 (by decide)]; exact f3) ⟨g0, g1, g4, g6, trivial⟩ ok0 (by decide) (fun f hf h' s' e' hA' => ?_) (fun hn' h' s' e' => ?_)⟩
    · refine And.intro (fun _ => ?_) (fun z => absurd z (by decide))
      exact go1 f hf K hK h' (xs_tr sh s'.1 (fun _ z => z) (fun _ z => z)) (xp_c2_t s' t2) e' hA'
    · refine And.intro (fun z => absurd rfl z) (fun _ => ?_)
      have fin := go0 hn' h' (xs_tr sh s'.1 (fun _ z => z) (fun _ z => z))
      rw [← e'] at fin
      exact fin
  have RS : ∀ (lev : Nat) (h : xq_H) (Q : Option xq_V → xq_H → Prop) (K : xq_KT), xq_sound (xq_C lev) rw_M_telephone 81 Q K → 60 ≤ lev → xp_rC h g N 0 (12, 10, []) →
      (∀ f, o1 = some f → ∀ h', xp_r2 h h' → h' 64 6 = q1c → h' 64 8 = 0 → xp_rph (h' 65) (h 64 5) (f (12, 10, [])) → K 62 [some (xR 64), some (xI 1)] [] 81 h') → (o1 = none → ∀ h', xp_r2 h h' → h' 64 6 = q1c → h' 64 8 = 1 → K 62 [some (xR 64), some (xI 1)] [] 81 h') → K 60 [some (xR 64), some (xI 1)] [] 81 h := by
    intro lev h Q K hK hl I go1 go0
    refine xq_go hK [62] 60 ?_
    refine ⟨lev - 1, by omega, rc (lev - 1) _ _ (12, 10, []) 0 (by omega) I ok0 (fun f hf h' s' e' e8 hA' => ?_) (fun hn' h' s' e' e8 => ?_)⟩
    · exact go1 f hf h' s' e' e8 hA'
    · exact go0 hn' h' s' e' e8
  cases o1 with
  | none =>
    refine ⟨q1c, none, by omega, fun A hA => absurd hA (by simp), ?_, ?_⟩
    · intro lev h Q hl ht _ q0
      exact CS lev h Q hl ht (fun f hf => absurd hf (by simp)) (fun _ h' s' => q0 rfl h' s')
    · intro lev h Q K hK hl I _ q0
      refine RS lev h Q K hK hl I (fun f hf => absurd hf (by simp)) (fun _ h' s' e' e8 => ?_)
      have fin := q0 rfl h' 1 s' e' (Or.inl e8)
      refine xq_go hK [82] 60 ?_
      exact And.intro (fun _ => fin) (fun z => absurd z (by omega))
  | some f1 =>
    have ok1 := (okf f1 rfl).2 (12, 10, []) 0 ok0
    obtain ⟨q2, o2, okq2, okf2, ca, ra⟩ := xp_after G 9 1 q1c (by omega) (by omega) (by omega) okq.2
    refine ⟨q2, o2.map (fun f2 => f2 (f1 (12, 10, []))), okq2, fun A hA => ?_, ?_, ?_⟩
    · cases o2 with
      | none => exact absurd hA (by simp)
      | some f2 =>
        simp only [Option.map_some, Option.some.injEq] at hA
        rw [← hA]
        exact okf2 f2 rfl _ ok1
    · intro lev h Q hl ht q1 q0
      refine CS lev h Q hl ht (fun f hf K hK h' s' t' e' hA' => ?_) (fun z => absurd z (by simp))
      have ef : f = f1 := by
        simp only [Option.some.injEq] at hf
        exact hf.symm
      subst ef
      exact ca lev h' Q K hK (f (12, 10, [])) _ _ (by omega) rfl t' e' hA' ok1 (fun f2 hf2 h2 s2 hA2 => q1 _ (congrArg (Option.map (fun f2 => f2 (f (12, 10, [])))) hf2) h2 (xs_tr s' s2.1 (fun _ z => z) (fun _ z => z)) hA2) (fun hn2 h2 s2 => q0 (congrArg (Option.map _) hn2) h2 (xs_tr s' s2.1 (fun _ z => z) (fun _ z => z)))
    · intro lev h Q K hK hl I q1 q0
      refine RS lev h Q K hK hl I (fun f hf h' s' e' e8 hA' => ?_) (fun z => absurd z (by simp))
      have ef : f = f1 := by
        simp only [Option.some.injEq] at hf
        exact hf.symm
      subst ef
      obtain ⟨i1, i2, i3, i4, i5, i6⟩ := I
      have e5 := s'.2.1 5 (by decide) (by decide) (by decide)
      refine ra lev h' Q K hK (f (12, 10, [])) _ (by omega) rfl ⟨xp_r2_t s' i5.1 gN.2 i1, e', s'.2.2.2.trans i3, e8, by rw [e5]; exact i5, by rw [e5]; exact hA'⟩ ok1 (fun f2 hf2 h2 n2 s2 e2 e82 hA2 => ?_) (fun hn2 h2 n2 s2 e2 e82 => ?_)
      · rw [e5] at hA2
        exact q1 _ (congrArg (Option.map (fun f2 => f2 (f (12, 10, [])))) hf2) h2 n2 (xp_r2_tr s' s2) e2 e82 hA2
      · exact q0 (congrArg (Option.map _) hn2) h2 n2 (xp_r2_tr s' s2) e2 e82
