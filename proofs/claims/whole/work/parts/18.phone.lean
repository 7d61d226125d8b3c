/-! A TELEPHONE: its clauses as rows of tokens (a test is 0 or more; -1 not, -2 and, -3 or), worked off with a stack -/
noncomputable def xf_b (p : Prop) : Bool := @decide p (Classical.propDecidable p)
theorem xf_b_t {p : Prop} (h : p) : xf_b p = true := by unfold xf_b; exact @decide_eq_true p (Classical.propDecidable p) h
theorem xf_b_f {p : Prop} (h : ¬ p) : xf_b p = false := by unfold xf_b; exact @decide_eq_false p (Classical.propDecidable p) h
def xf_tst (f : Int → Int) (t : Int) : Prop := (t / 8 % 4 = 0 ∧ f (t % 8) < t / 32) ∨ (t / 8 % 4 = 1 ∧ f (t % 8) = t / 32) ∨ (t / 8 % 4 = 2 ∧ t / 32 < f (t % 8))
def xf_wt (t : Int) : Prop := 0 ≤ t ∧ t % 8 ≤ 5 ∧ t / 8 % 4 ≤ 2 ∧ t / 32 ≤ 99
noncomputable def xf_op (f : Int → Int) (t : Int) (st : List Bool) : List Bool :=
  if t = -1 then (match st with | b :: r => (!b) :: r | [] => []) else
  if t = -2 then (match st with | b :: a :: r => (a && b) :: r | s => s) else
  if t = -3 then (match st with | b :: a :: r => (a || b) :: r | s => s) else xf_b (xf_tst f t) :: st
noncomputable def xf_run (f : Int → Int) : List Int → List Bool → List Bool
  | [], st => st
  | t :: ts, st => xf_run f ts (xf_op f t st)
/-- from a stack of s to one of e, never more than 20 -/
def xf_wf : List Int → Nat → Nat → Prop
  | [], s, e => s = e
  | t :: ts, s, e => (xf_wt t ∧ s < 20 ∧ xf_wf ts (s + 1) e) ∨ (t = -1 ∧ 1 ≤ s ∧ xf_wf ts s e) ∨ ((t = -2 ∨ t = -3) ∧ 2 ≤ s ∧ xf_wf ts (s - 1) e)
noncomputable def xf_ev (f : Int → Int) (E : List Int) : Bool := (xf_run f E []).headD false
/-- a clause: its last token (-10 less n: dear; -200 less n: free), and its E -/
abbrev xf_Cl : Type := Int × List Int
def xf_amt (a : Int) : Int := if -200 < a then -10 - a else 200 + a
noncomputable def xf_sum (f : Int → Int) : List xf_Cl → Int
  | [] => 0
  | (a, E) :: P => (if xf_ev f E then xf_amt a else 0) + xf_sum f P
def xf_at (g : Int → Int) : Int → List Int → Prop
  | _, [] => True
  | p, t :: ts => g p = t ∧ xf_at g (p + 1) ts
def xf_flat : List xf_Cl → List Int
  | [] => []
  | (a, E) :: P => E ++ a :: xf_flat P
def xf_okP (P : List xf_Cl) : Prop := ∀ c ∈ P, xf_wf c.2 0 1 ∧ ((-109 ≤ c.1 ∧ c.1 ≤ -10) ∨ (-299 ≤ c.1 ∧ c.1 ≤ -200))
def xf_enc (t : Int) : Int := if 0 ≤ t then t % 8 * 300 + t / 8 % 4 * 100 + t / 32 else t
/-- the class' rows of a telephone -/
def xf_cls (h : xq_H) : Int → Int → List xf_Cl → Prop
  | _, _, [] => True
  | c, p, (a, E) :: P => h 18 c = xf_amt a ∧ h 19 c = p + E.length ∧ xf_at (h 20) p (E.map xf_enc) ∧ xf_cls h (c + 1) (p + E.length) P
def xf_len : List xf_Cl → Nat
  | [] => 0
  | (_, E) :: P => E.length + xf_len P
theorem xf_at_app {g : Int → Int} : ∀ (l1 l2 : List Int) (p : Int), xf_at g p (l1 ++ l2) ↔ xf_at g p l1 ∧ xf_at g (p + l1.length) l2
  | [], l2, p => by simp [xf_at]
  | t :: l1, l2, p => by
    simp only [List.cons_append, xf_at, xf_at_app l1 l2 (p + 1), List.length_cons]
    rw [show p + 1 + (l1.length : Int) = p + ((l1.length + 1 : Nat) : Int) by omega]
    constructor
    · exact fun ⟨a, b, c⟩ => ⟨⟨a, b⟩, c⟩
    · exact fun ⟨⟨a, b⟩, c⟩ => ⟨a, b, c⟩
theorem xf_amt_bd {a : Int} (h : (-109 ≤ a ∧ a ≤ -10) ∨ (-299 ≤ a ∧ a ≤ -200)) : -99 ≤ xf_amt a ∧ xf_amt a ≤ 99 := by
  unfold xf_amt
  split <;> omega
theorem xf_sum_bd (f : Int → Int) : ∀ (P : List xf_Cl), xf_okP P → -99 * (P.length : Int) ≤ xf_sum f P ∧ xf_sum f P ≤ 99 * P.length
  | [], _ => ⟨Int.le_refl _, Int.le_refl _⟩
  | (a, E) :: P, h => by
    have h1 := xf_sum_bd f P (fun c hc => h c (List.mem_cons_of_mem _ hc))
    have h2 := xf_amt_bd (h _ List.mem_cons_self).2
    dsimp only at h2
    rw [xf_sum, List.length_cons]
    split <;> omega
theorem xf_tst_congr {f g : Int → Int} (h : ∀ q : Int, 0 ≤ q → q ≤ 5 → f q = g q) {t : Int} (ht : xf_wt t) : xf_tst f t ↔ xf_tst g t := by
  unfold xf_tst
  have h1 := ht.2.1
  rw [h (t % 8) (by omega) h1]
theorem c_P_passes {lev : Nat} {h : xq_H} {Q : Option xq_V → xq_H → Prop} {t : Int} (hl : 1 ≤ lev) (ht : xf_wt t) (h1 : xf_tst (h 29) t → Q (some (xI 1)) h) (h0 : ¬ xf_tst (h 29) t → Q (some (xI 0)) h) : xq_met lev y_P_passes [xI (xf_enc t), xR 29] 81 h Q := by
  refine en_P_passes (by omega) (fun K hK => ?_)
  obtain ⟨t0, t1, t2, t3⟩ := ht
  have e : xf_enc t = t % 8 * 300 + t / 8 % 4 * 100 + t / 32 := by rw [xf_enc, if_pos t0]
  rw [e]
  obtain ⟨a, ha⟩ : ∃ a, a = t % 8 := ⟨_, rfl⟩
  obtain ⟨b, hb⟩ : ∃ b, b = t / 8 % 4 := ⟨_, rfl⟩
  obtain ⟨c, hc⟩ : ∃ c, c = t / 32 := ⟨_, rfl⟩
  unfold xf_tst at h1 h0
  rw [← ha, ← hb, ← hc] at h1 h0 ⊢
  have e1 : (a * 300 + b * 100 + c) / 300 = a := by omega
  have e2 : (a * 300 + b * 100 + c) % 100 = c := by omega
  have e3 : (a * 300 + b * 100 + c) / 100 % 3 = b := by omega
  refine xq_go hK [21] 60 ?_
  refine And.intro (by omega) ?_
  rw [e1]
  refine And.intro (fun z => absurd z (by omega)) (fun _ => ?_)
  refine And.intro (fun _ => ?_) (fun z => absurd z (by omega))
  refine And.intro (by omega) ?_
  refine And.intro (by omega) ?_
  refine And.intro (by omega) ?_
  rw [e2, e3]
  refine xq_go hK [] 60 ?_
  refine And.intro (fun z => ?_) (fun z => And.intro (fun z2 => ?_) (fun z2 => ?_))
  all_goals refine And.intro (by omega) ?_
  all_goals (repeat' (first | (refine And.intro ?_ ?_) | (intro _)))
  all_goals first | omega | exact h1 (by omega) | exact h0 (by omega)
def xf_bits : List Bool → Int
  | [] => 0
  | b :: r => 2 * xf_bits r + (if b then 1 else 0)
theorem xf_bits_bd : ∀ (st : List Bool), 0 ≤ xf_bits st ∧ xf_bits st < ((2 ^ st.length : Nat) : Int)
  | [] => ⟨Int.le_refl _, by decide⟩
  | b :: r => by
    have := xf_bits_bd r
    rw [xf_bits, List.length_cons, Nat.pow_succ]
    generalize 2 ^ r.length = N at this ⊢
    cases b
    · rw [if_neg (by decide)]; omega
    · rw [if_pos rfl]; omega
theorem xf_bits_20 {st : List Bool} (h : st.length ≤ 20) : 0 ≤ xf_bits st ∧ xf_bits st < 1048576 := by
  have h1 := xf_bits_bd st
  have h2 : 2 ^ st.length ≤ 2 ^ 20 := Nat.pow_le_pow_right (by decide) h
  omega
set_option maxHeartbeats 1000000 in
theorem c_P_holds {lev : Nat} {h : xq_H} {Q : Option xq_V → xq_H → Prop} {p q : Int} {E : List Int} (hl : 2 ≤ lev) (hE : xf_wf E 0 1) (hp : 0 ≤ p) (hq : q = p + E.length) (hq2 : q ≤ 100) (hat : xf_at (h 20) p (E.map xf_enc)) (h1 : xf_ev (h 29) E = true → Q (some (xI 1)) h) (h0 : xf_ev (h 29) E = false → Q (some (xI 0)) h) : xq_met lev y_P_holds [xR 17, xI p, xI q, xR 29] 81 h Q := by
  refine en_P_holds (by omega) (fun K hK => ?_)
  have loop : ∀ (ts : List Int) (st : List Bool) (at0 : Int) (x6 x7 : Option xq_V), xf_wf ts st.length 1 → st.length ≤ 20 → 0 ≤ at0 → at0 + ts.length = q → xf_at (h 20) at0 (ts.map xf_enc) → xf_run (h 29) ts st = xf_run (h 29) E [] → K 4 [some (xR 17), some (xI p), some (xI q), some (xR 29), some (xI (xf_bits st)), some (xI at0), x6, x7] [] 81 h := by
    intro ts
    induction ts with
    | nil =>
      intro st at0 x6 x7 hw h20 ha hb hat hrun
      have bb := xf_bits_20 h20
      simp only [List.length_nil] at hb
      refine xq_go hK [4] 60 ?_
      refine And.intro (fun c => ?_) (fun c => absurd c (by omega))
      rcases st with _ | ⟨b, _ | ⟨b2, r⟩⟩
      · exact absurd (show (0 : Nat) = 1 from hw) (by decide)
      · have e : xf_ev (h 29) E = b := by unfold xf_ev; rw [← hrun]; rfl
        cases b
        · refine And.intro (fun _ => ?_) (fun z => absurd z (by decide))
          exact And.intro (Or.inl rfl) (h0 e)
        · refine And.intro (fun z => absurd z (by decide)) (fun _ => ?_)
          exact And.intro (Or.inr rfl) (h1 e)
      · simp [xf_wf] at hw
    | cons t ts ih =>
      intro st at0 x6 x7 hw h20 ha hb hat hrun
      have bb := xf_bits_20 h20
      simp only [List.length_cons] at hb
      obtain ⟨ht, hat⟩ := hat
      have ih2 := fun (st' : List Bool) (x6 x7 : Option xq_V) (a1 : Int) (e1 : a1 = at0 + 1) (hw' : xf_wf ts st'.length 1) (h20' : st'.length ≤ 20) (hrun' : xf_run (h 29) ts st' = xf_run (h 29) E []) => ih st' a1 x6 x7 hw' h20' (by omega) (by omega) (by rw [e1]; exact hat) hrun'
      have hgo : ∀ (s1 a1 : Int) (st' : List Bool) (x6 x7 : Option xq_V), s1 = xf_bits st' → a1 = at0 + 1 → xf_wf ts st'.length 1 → st'.length ≤ 20 → xf_run (h 29) ts st' = xf_run (h 29) E [] → K 4 [some (xR 17), some (xI p), some (xI q), some (xR 29), some (xI s1), some (xI a1), x6, x7] [] 81 h := by
        intro s1 a1 st' x6 x7 e1 e2 hw' h20' hrun'
        rw [e1]
        exact ih2 st' x6 x7 a1 e2 hw' h20' hrun'
      refine xq_go hK [4] 60 ?_
      refine And.intro (fun c => absurd c (by omega)) (fun _ => ?_)
      refine And.intro (fun c => absurd c (by omega)) (fun _ => ?_)
      refine And.intro (by omega) ?_
      rw [ht]
      rw [xf_run] at hrun
      rcases hw with ⟨hwt, hs, hw⟩ | ⟨rfl, hs, hw⟩ | ⟨ht2, hs, hw⟩
      · have hnn : 0 ≤ xf_enc t := by
          have := hwt.1
          have := hwt.2.1
          rw [xf_enc, if_pos hwt.1]
          omega
        have hop : xf_op (h 29) t st = xf_b (xf_tst (h 29) t) :: st := by
          have := hwt.1
          unfold xf_op
          rw [if_neg (by omega), if_neg (by omega), if_neg (by omega)]
        rw [hop] at hrun
        refine And.intro (fun _ => ?_) (fun c => absurd c (by omega))
        refine And.intro (fun _ => ?_) (fun c => absurd c (by omega))
        refine And.intro (fun _ => ?_) (fun c => absurd c (by omega))
        refine ⟨lev - 1, by omega, c_P_passes (by omega) hwt (fun hy => ?_) (fun hn => ?_)⟩
        · refine And.intro (fun z => absurd z (by decide)) (fun _ => ?_)
          refine And.intro (by omega) ?_
          rw [xf_b_t hy] at hrun
          refine hgo _ _ (true :: st) _ _ ?_ rfl hw (by rw [List.length_cons]; omega) hrun
          rw [xb_shl1 (by omega), xb_or1 (by omega), xf_bits, if_pos rfl]
          omega
        · refine And.intro (fun _ => ?_) (fun z => absurd rfl z)
          refine And.intro (by omega) ?_
          rw [xf_b_f hn] at hrun
          refine hgo _ _ (false :: st) _ _ ?_ rfl hw (by rw [List.length_cons]; omega) hrun
          rw [xb_shl1 (by omega), xb_or0 (by omega), xf_bits, if_neg (by decide)]
          omega
      · rw [show xf_enc (-1) = -1 by decide]
        refine And.intro (fun c => absurd rfl c) (fun _ => ?_)
        refine And.intro (by omega) ?_
        rcases st with _ | ⟨b, r⟩
        · exact absurd hs (by decide)
        · refine hgo _ _ ((!b) :: r) _ _ ?_ rfl hw h20 hrun
          rw [xb_xor1 (by omega), xf_bits, xf_bits]
          cases b <;> simp <;> omega
      · rcases st with _ | ⟨b, _ | ⟨a, r⟩⟩
        · exact absurd hs (by simp)
        · exact absurd hs (by simp)
        · have br := xf_bits_20 (st := r) (by simp only [List.length_cons] at h20; omega)
          have eb : xf_bits (b :: a :: r) = 2 * (2 * xf_bits r + (if a then 1 else 0)) + (if b then 1 else 0) := rfl
          have em : xf_bits (b :: a :: r) % 2 = if b then 1 else 0 := by rw [eb]; cases b <;> simp <;> omega
          have ed : xf_bits (b :: a :: r) / 2 = 2 * xf_bits r + (if a then 1 else 0) := by rw [eb]; cases b <;> simp <;> omega
          have ear : 0 ≤ 2 * xf_bits r + (if a then 1 else 0) ∧ 2 * xf_bits r + (if a then 1 else 0) ≤ 2147483647 := by cases a <;> simp <;> omega
          have hlr : (r.length + 1 ≤ 20) := by simp only [List.length_cons] at h20; omega
          rcases ht2 with rfl | rfl
          · rw [show xf_enc (-2) = -2 by decide]
            refine And.intro (fun _ => ?_) (fun c => absurd c (by decide))
            refine And.intro (fun c => absurd rfl c) (fun _ => ?_)
            refine And.intro (by omega) ?_
            refine hgo _ _ ((a && b) :: r) _ _ ?_ rfl hw hlr hrun
            rw [xb_and1 (by omega), xb_shr1 (by omega), em, ed, xb_andm ear (by cases b <;> simp), xf_bits]
            cases a <;> cases b <;> simp <;> omega
          · rw [show xf_enc (-3) = -3 by decide]
            refine And.intro (fun _ => ?_) (fun c => absurd c (by decide))
            refine And.intro (fun _ => ?_) (fun c => absurd c (by decide))
            refine And.intro (fun c => absurd rfl c) (fun _ => ?_)
            have eo : xq_or (2 * xf_bits r + (if a then 1 else 0)) (if b then 1 else 0) = xf_bits ((a || b) :: r) := by
              rw [xf_bits]
              cases b
              · rw [show (if false = true then (1 : Int) else 0) = 0 from rfl, xb_or0 ear]; cases a <;> simp
              · rw [show (if true = true then (1 : Int) else 0) = 1 from rfl, xb_or1 ear]; cases a <;> simp <;> omega
            refine And.intro (by omega) ?_
            refine hgo _ _ ((a || b) :: r) _ _ ?_ rfl hw hlr hrun
            rw [xb_shr1 (by omega), xb_and1 (by omega), em, ed, eo]
  refine xq_go hK [4] 60 ?_
  exact loop E [] p _ _ hE (Nat.zero_le _) hp hq.symm hat rfl
set_option maxHeartbeats 1000000 in
theorem c_P_extra {lev : Nat} {h : xq_H} {Q : Option xq_V → xq_H → Prop} {P : List xf_Cl} (hl : 3 ≤ lev) (hP : xf_okP P) (hc : h 17 4 = P.length) (h10 : P.length ≤ 10) (hln : xf_len P ≤ 100) (hcl : xf_cls h 0 0 P) (h1 : Q (some (xI (xf_sum (h 29) P))) h) : xq_met lev y_P_extra [xR 17, xR 29] 81 h Q := by
  refine en_P_extra (by omega) (fun K hK => ?_)
  have loop : ∀ (P1 : List xf_Cl) (c p s : Int), xf_okP P1 → 0 ≤ c → c + P1.length = h 17 4 → 0 ≤ p → p + xf_len P1 ≤ 100 → xf_cls h c p P1 → -99 * c ≤ s ∧ s ≤ 99 * c → s + xf_sum (h 29) P1 = xf_sum (h 29) P → K 6 [some (xR 17), some (xR 29), some (xI s), some (xI p), some (xI c)] [] 81 h := by
    intro P1
    induction P1 with
    | nil =>
      intro c p s ho hc0 hc1 hp hp2 hcl hs hsum
      simp only [List.length_nil] at hc1
      refine xq_go hK [6] 60 ?_
      refine And.intro (fun _ => ?_) (fun z => absurd z (by omega))
      simp only [xf_sum, Int.add_zero] at hsum
      rw [hsum]
      exact h1
    | cons cl P1 ih =>
      intro c p s ho hc0 hc1 hp hp2 hcl hs hsum
      obtain ⟨a, E⟩ := cl
      obtain ⟨c1, c2, c3, c4⟩ := hcl
      simp only [List.length_cons] at hc1
      simp only [xf_len] at hp2
      have hok := ho _ List.mem_cons_self
      have hab := xf_amt_bd hok.2
      dsimp only at hab
      rw [xf_sum] at hsum
      have ih2 := fun (s1 : Int) (b1 : -99 * (c + 1) ≤ s1 ∧ s1 ≤ 99 * (c + 1)) (e1 : s1 + xf_sum (h 29) P1 = xf_sum (h 29) P) => ih (c + 1) (p + E.length) s1 (fun q hq => ho q (List.mem_cons_of_mem _ hq)) (by omega) (by omega) (by omega) (by omega) c4 b1 e1
      refine xq_go hK [6] 60 ?_
      refine And.intro (fun z => absurd z (by omega)) (fun _ => ?_)
      refine And.intro (by omega) ?_
      rw [c2]
      refine ⟨lev - 1, by omega, c_P_holds (by omega) hok.1 hp rfl (by omega) c3 (fun hy => ?_) (fun hn => ?_)⟩
      · rw [if_pos hy] at hsum
        refine And.intro (fun z => absurd z (by decide)) (fun _ => ?_)
        refine And.intro (by omega) ?_
        rw [c1]
        refine And.intro (by omega) ?_
        refine And.intro (by omega) ?_
        rw [c2]
        refine And.intro (by omega) ?_
        exact ih2 _ (by omega) (by omega)
      · rw [if_neg (by rw [hn]; decide)] at hsum
        refine And.intro (fun _ => ?_) (fun z => absurd rfl z)
        refine And.intro (by omega) ?_
        rw [c2]
        refine And.intro (by omega) ?_
        exact ih2 _ (by omega) (by omega)
  refine xq_go hK [6] 60 ?_
  exact loop P 0 0 0 hP (Int.le_refl _) (by omega) (Int.le_refl _) (by omega) hcl (by omega) (by omega)
