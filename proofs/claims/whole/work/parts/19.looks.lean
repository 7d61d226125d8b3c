/-! A TELEPHONE, the reference's side -/
/-- what a test looks at -/
def xf_fact (m : Int → Int) (md ln i : Int) : Int → Int := fun q => if q = 0 then ln else if q = 1 then xf_sz (m (18 + i)) else if q = 2 then m (2 + i) / 10 else if q = 3 then m (34 + md) else if q = 4 then i else m 1 % 10
/-- the newest telephone's clauses stand in the row -/
def xf_ph (m : Int → Int) (P : List xf_Cl) : Prop := xf_okP P ∧ P.length ≤ 10 ∧ (xf_flat P).length ≤ 140 ∧ (m 17 = -1 → P = []) ∧ (0 ≤ m 17 → m (244 + m 17) = (xf_flat P).length ∧ xf_at m (249 + 140 * m 17) (xf_flat P))
def xf_stk (g : Int → Int) : List Bool → Prop
  | [] => True
  | b :: r => g r.length = (if b then 1 else 0) ∧ xf_stk g r
theorem xf_stk_u {g g' : Int → Int} : ∀ (st : List Bool), (∀ k : Nat, k < st.length → g' k = g k) → xf_stk g st → xf_stk g' st
  | [], _, _ => trivial
  | b :: r, h, hs => ⟨by rw [h r.length (by simp)]; exact hs.1, xf_stk_u r (fun k hk => h k (by rw [List.length_cons]; omega)) hs.2⟩
theorem xf_run_app (f : Int → Int) : ∀ (l1 l2 : List Int) (st : List Bool), xf_run f (l1 ++ l2) st = xf_run f l2 (xf_run f l1 st)
  | [], _, _ => rfl
  | t :: l1, l2, st => xf_run_app f l1 l2 _
theorem xu_65_68 {h : xq_H} {k v : Int} : xq_u h 68 k v 65 = h 65 := xq_u_o (by decide)
theorem xf_op_len {f : Int → Int} {t : Int} {st : List Bool} : (xf_wt t → (xf_op f t st).length = st.length + 1) ∧ (t = -1 → 1 ≤ st.length → (xf_op f t st).length = st.length) ∧ (t = -2 ∨ t = -3 → 2 ≤ st.length → (xf_op f t st).length = st.length - 1) := by
  refine ⟨fun h => ?_, fun h h1 => ?_, fun h h1 => ?_⟩
  · have := h.1
    unfold xf_op
    rw [if_neg (by omega), if_neg (by omega), if_neg (by omega)]
    rfl
  · subst h
    rcases st with _ | ⟨b, r⟩
    · exact absurd h1 (by simp)
    · rfl
  · rcases st with _ | ⟨b, _ | ⟨a, r⟩⟩
    · exact absurd h1 (by simp)
    · exact absurd h1 (by simp)
    · rcases h with rfl | rfl <;> rfl
theorem xf_run_len (f : Int → Int) : ∀ (ts : List Int) (st : List Bool) {e : Nat}, xf_wf ts st.length e → (xf_run f ts st).length = e
  | [], st, e, h => h
  | t :: ts, st, e, h => by
    rw [xf_run]
    refine xf_run_len f ts _ ?_
    rcases h with ⟨hwt, hs, hw⟩ | ⟨ht, hs, hw⟩ | ⟨ht, hs, hw⟩
    · rw [xf_op_len.1 hwt]; exact hw
    · rw [xf_op_len.2.1 ht hs]; exact hw
    · rw [xf_op_len.2.2 ht hs]; exact hw
set_option maxHeartbeats 4000000 in
theorem c_M_looks {lev : Nat} {h : xq_H} {Q : Option xq_V → xq_H → Prop} {md ln i : Int} {P : List xf_Cl} (hl : 3 ≤ lev) (hV : xf_VM (h 65)) (hmd : 0 ≤ md ∧ md < h 65 10) (hi : 0 ≤ i ∧ i < h 65 11) (hln : 0 ≤ ln ∧ ln ≤ 5) (hP : xf_ph (h 65) P)
    (hQ : ∀ h', xs_eq [68, 69] h h' → Q (some (xI (xf_sum (xf_fact (h 65) md ln i) P))) h') : xq_met lev y_M_looks [xR 64, xI md, xI ln, xI i] 81 h Q := by
  refine en_M_looks (by omega) (fun K hK => ?_)
  obtain ⟨V1, V2, V3, V4, V5, V6, V7, V8⟩ := hV
  obtain ⟨p1, p2, p3, p4, p5⟩ := hP
  have w1 := V2 i hi.1 hi.2
  have w2 := V4 md hmd.1 hmd.2
  have w3 := w1.1.1
  have w4 := w1.1.2.1
  have w5 := w1.2.1
  have w6 := w2.1
  obtain ⟨f, hf⟩ : ∃ f, f = xf_fact (h 65) md ln i := ⟨_, rfl⟩
  rw [← hf] at hQ
  obtain ⟨fr, hfr⟩ : ∃ fr, fr = 249 + 140 * h 65 17 := ⟨_, rfl⟩
  obtain ⟨mn, hmn⟩ : ∃ mn : Int, mn = (xf_flat P).length := ⟨_, rfl⟩
  let I : xq_H → Prop := fun h' => xs_eq [68, 69] h h' ∧ ∀ q : Int, 0 ≤ q → q ≤ 5 → h' 68 q = f q
  have IU : ∀ h' k v, I h' → I (xq_u h' 69 k v) := fun h' k v hp => ⟨xs_u hp.1 (by decide) _ _, fun q h1 h2 => by rw [xq_u_o (by decide)]; exact hp.2 q h1 h2⟩
  have hj949 : 0 ≤ h 65 17 → fr + mn ≤ 949 := fun _ => by omega
  -- the tokens of one E
  have etok : ∀ (ts rest : List Int) (st : List Bool) (j s topI : Int) (h' : xq_H) (x9 x10 x11 x12 : Option xq_V), xf_wf ts st.length 1 → st.length ≤ 20 → topI = st.length → xf_at (h 65) j (ts ++ rest) → fr ≤ j → 0 ≤ h 65 17 → j + ts.length < fr + mn → I h' → xf_stk (h' 69) st →
      (∀ (jI tI : Int) (h' : xq_H) (x9 x10 x11 x12 : Option xq_V), jI = j + ts.length → tI = 1 → I h' → xf_stk (h' 69) (xf_run f ts st) → K 73 [some (xR 64), some (xI md), some (xI ln), some (xI i), some (xI s), some (xI mn), some (xI fr), some (xI tI), some (xI jI), x9, x10, x11, x12] [] 81 h') →
      K 73 [some (xR 64), some (xI md), some (xI ln), some (xI i), some (xI s), some (xI mn), some (xI fr), some (xI topI), some (xI j), x9, x10, x11, x12] [] 81 h' := by
    intro ts
    induction ts with
    | nil =>
      intro rest st j s topI h' x9 x10 x11 x12 hw h20 et hat hj h17 hjn hI hs next
      exact next j topI h' x9 x10 x11 x12 (by simp) (by have : st.length = 1 := hw; omega) hI hs
    | cons t ts ih =>
      intro rest st j s topI h' x9 x10 x11 x12 hw h20 et hat hj h17 hjn hI hs next
      have h949 := hj949 h17
      obtain ⟨ht, hat⟩ := hat
      simp only [List.length_cons] at hjn
      have e65 : h' 65 = h 65 := hI.1 65 (by decide)
      have hgo : ∀ (st' : List Bool) (a1 t1 : Int) (h'' : xq_H) (x9 x10 x11 x12 : Option xq_V), st' = xf_op f t st → a1 = j + 1 → t1 = st'.length → xf_wf ts st'.length 1 → st'.length ≤ 20 → I h'' → xf_stk (h'' 69) st' → K 73 [some (xR 64), some (xI md), some (xI ln), some (xI i), some (xI s), some (xI mn), some (xI fr), some (xI t1), some (xI a1), x9, x10, x11, x12] [] 81 h'' := by
        intro st' a1 t1 h'' x9 x10 x11 x12 e0 e1 e2 hw' h20' hI' hs'
        rw [e1]
        refine ih rest st' (j + 1) s t1 h'' x9 x10 x11 x12 hw' h20' e2 hat (by omega) h17 (by omega) hI' hs' (fun jI tI h3 y9 y10 y11 y12 ej et3 hI3 hs3 => ?_)
        refine next jI tI h3 y9 y10 y11 y12 (by rw [List.length_cons]; omega) et3 hI3 ?_
        rw [xf_run, ← e0]
        exact hs3
      have vt : h' 65 j = t := by rw [e65]; exact ht
      refine xq_go hK [73, 130, 196] 60 ?_
      refine And.intro (by omega) ?_
      refine And.intro (fun c => absurd c (by omega)) (fun _ => ?_)
      refine And.intro (by omega) ?_
      rw [vt]
      rcases hw with ⟨hwt, hs20, hw⟩ | ⟨rfl, hs1, hw⟩ | ⟨ht2, hs2, hw⟩
      · have g1 := hwt.1
        have g2 := hwt.2.1
        have g3 := hwt.2.2.1
        have hop : xf_op f t st = xf_b (xf_tst f t) :: st := by
          unfold xf_op
          rw [if_neg (by omega), if_neg (by omega), if_neg (by omega)]
        refine And.intro (fun c => absurd c (by omega)) (fun _ => ?_)
        refine And.intro (by omega) ?_
        refine And.intro (by omega) ?_
        refine And.intro (by omega) ?_
        refine And.intro (by omega) ?_
        refine And.intro (by omega) ?_
        have vf : h' 68 (t % 8) = f (t % 8) := hI.2 _ (by omega) g2
        have put : ∀ (b : Bool) (v9 v10 v11 v12 : Option xq_V) (bI : Int), bI = (if b then 1 else 0) → b = xf_b (xf_tst f t) → K 130 [some (xR 64), some (xI md), some (xI ln), some (xI i), some (xI s), some (xI mn), some (xI fr), some (xI topI), some (xI j), v9, v10, v11, v12] [xI bI, xI topI, xR 69] 81 h' := by
          intro b v9 v10 v11 v12 bI eb etr
          refine xq_go hK [73] 60 ?_
          refine And.intro (by rw [eb]; cases b <;> simp) ?_
          refine And.intro (by omega) ?_
          refine And.intro (by omega) ?_
          refine And.intro (by omega) ?_
          refine hgo (b :: st) _ _ _ _ _ _ _ (by rw [hop, etr]) rfl (by rw [List.length_cons]; omega) hw (by rw [List.length_cons]; omega) (IU _ _ _ hI) ⟨?_, xf_stk_u st (fun k hk => ?_) hs⟩
          · rw [xu_rd, if_pos (by omega), eb]
          · rw [xu_ne (by omega)]
        unfold xf_tst at put
        refine And.intro (fun c => ?_) (fun c => ?_)
        · refine And.intro (fun c2 => ?_) (fun c2 => ?_)
          · -- more
            refine And.intro (fun c3 => ?_) (fun c3 => ?_)
            · exact put false _ _ _ _ _ rfl (xf_b_f (by omega)).symm
            · exact put true _ _ _ _ _ rfl (xf_b_t (by omega)).symm
          · refine And.intro (fun c3 => ?_) (fun c3 => ?_)
            · exact put false _ _ _ _ _ rfl (xf_b_f (by omega)).symm
            · exact put true _ _ _ _ _ rfl (xf_b_t (by omega)).symm
        · refine And.intro (fun c2 => ?_) (fun c2 => ?_)
          · exact put false _ _ _ _ _ rfl (xf_b_f (by omega)).symm
          · exact put true _ _ _ _ _ rfl (xf_b_t (by omega)).symm
      · refine And.intro (fun _ => ?_) (fun c => absurd c (by decide))
        refine And.intro (fun c => absurd rfl c) (fun _ => ?_)
        rcases st with _ | ⟨b, r⟩
        · exact absurd hs1 (by simp)
        · simp only [List.length_cons] at et h20
          have vb : h' 69 (topI - 1) = if b then 1 else 0 := by rw [show topI - 1 = (r.length : Int) by omega]; exact hs.1
          refine And.intro (by omega) ?_
          refine And.intro (by omega) ?_
          refine And.intro (by omega) ?_
          have fin1 : ∀ bI : Int, bI = (if !b then 1 else 0) → xf_stk ((xq_u h' 69 (topI - 1) bI) 69) ((!b) :: r) := fun bI eb => ⟨by rw [xu_rd, if_pos (by omega), eb], xf_stk_u r (fun k hk => by rw [xu_ne (by omega)]) hs.2⟩
          refine And.intro (fun c => ?_) (fun c => ?_)
          · refine And.intro (Or.inl rfl) ?_
            refine And.intro (by omega) ?_
            refine And.intro (by omega) ?_
            refine hgo ((!b) :: r) _ _ _ _ _ _ _ rfl rfl (by rw [List.length_cons]; omega) hw h20 (IU _ _ _ hI) (fin1 0 ?_)
            cases b
            · rw [vb] at c; exact absurd rfl c
            · rfl
          · refine And.intro (Or.inr rfl) ?_
            refine And.intro (by omega) ?_
            refine And.intro (by omega) ?_
            refine hgo ((!b) :: r) _ _ _ _ _ _ _ rfl rfl (by rw [List.length_cons]; omega) hw h20 (IU _ _ _ hI) (fin1 1 ?_)
            cases b
            · rfl
            · rw [vb] at c; exact absurd c (by decide)
      · rcases st with _ | ⟨b, _ | ⟨a, r⟩⟩
        · exact absurd hs2 (by simp)
        · exact absurd hs2 (by simp)
        · simp only [List.length_cons] at et h20
          have vb : h' 69 (topI + -1) = if b then 1 else 0 := by rw [show topI + -1 = ((a :: r).length : Int) by rw [List.length_cons]; omega]; exact hs.1
          have va : h' 69 (topI + -1 - 1) = if a then 1 else 0 := by rw [show topI + -1 - 1 = (r.length : Int) by omega]; exact hs.2.1
          have fin2 : ∀ (c : Bool) (bI : Int), bI = (if c then 1 else 0) → xf_stk ((xq_u h' 69 (topI + -1 - 1) bI) 69) (c :: r) := fun c bI eb => ⟨by rw [xu_rd, if_pos (by omega), eb], xf_stk_u r (fun k hk => by rw [xu_ne (by omega)]) hs.2.2⟩
          have put : ∀ (c : Bool) (x9 x10 x11 x12 : Option xq_V) (bI : Int), bI = (if c then 1 else 0) → c :: r = xf_op f t (b :: a :: r) → K 196 [some (xR 64), some (xI md), some (xI ln), some (xI i), some (xI s), some (xI mn), some (xI fr), some (xI (topI + -1)), some (xI j), x9, x10, x11, x12] [xI bI, xI (topI + -1 - 1), xR 69] 81 h' := by
            intro c x9 x10 x11 x12 bI eb eop
            refine xq_go hK [73] 60 ?_
            refine And.intro (by rw [eb]; cases c <;> simp) ?_
            refine And.intro (by omega) ?_
            refine And.intro (by omega) ?_
            exact hgo (c :: r) _ _ _ _ _ _ _ eop rfl (by rw [List.length_cons]; omega) hw (by rw [List.length_cons]; omega) (IU _ _ _ hI) (fin2 c bI eb)
          rcases ht2 with rfl | rfl
          · refine And.intro (fun _ => ?_) (fun c => absurd c (by decide))
            refine And.intro (fun _ => ?_) (fun c => absurd c (by decide))
            refine And.intro (fun c => absurd (by decide) c) (fun _ => ?_)
            refine And.intro (by omega) ?_
            refine And.intro (by omega) ?_
            refine And.intro (fun c => absurd rfl c) (fun _ => ?_)
            refine And.intro (by omega) ?_
            refine And.intro (by omega) ?_
            have hop : xf_op f (-2) (b :: a :: r) = (a && b) :: r := rfl
            refine And.intro (fun c => ?_) (fun c => ?_)
            · refine put false _ _ _ _ _ rfl ?_
              cases a
              · rfl
              · rw [va] at c; exact absurd c (by decide)
            · refine And.intro (by omega) ?_
              have ha : a = true := by
                cases a
                · rw [va] at c; exact absurd rfl c
                · rfl
              refine And.intro (fun c2 => ?_) (fun c2 => ?_)
              · refine put false _ _ _ _ _ rfl ?_
                cases b
                · rw [hop, ha]; rfl
                · rw [vb] at c2; exact absurd c2 (by decide)
              · refine put true _ _ _ _ _ rfl ?_
                cases b
                · rw [vb] at c2; exact absurd rfl c2
                · rw [hop, ha]; rfl
          · refine And.intro (fun _ => ?_) (fun c => absurd c (by decide))
            refine And.intro (fun _ => ?_) (fun c => absurd c (by decide))
            refine And.intro (fun c => absurd (by decide) c) (fun _ => ?_)
            refine And.intro (by omega) ?_
            refine And.intro (by omega) ?_
            refine And.intro (fun _ => ?_) (fun c => absurd c (by decide))
            refine And.intro (by omega) ?_
            refine And.intro (by omega) ?_
            have hop : xf_op f (-3) (b :: a :: r) = (a || b) :: r := rfl
            refine And.intro (fun c => ?_) (fun c => ?_)
            · refine put true _ _ _ _ _ rfl ?_
              cases a
              · rw [va] at c; exact absurd rfl c
              · rfl
            · refine And.intro (by omega) ?_
              have ha : a = false := by
                cases a
                · rfl
                · rw [va] at c; exact absurd c (by decide)
              refine And.intro (fun c2 => ?_) (fun c2 => ?_)
              · refine put false _ _ _ _ _ rfl ?_
                cases b
                · rw [hop, ha]; rfl
                · rw [vb] at c2; exact absurd c2 (by decide)
              · refine put true _ _ _ _ _ rfl ?_
                cases b
                · rw [vb] at c2; exact absurd rfl c2
                · rw [hop, ha]; rfl
  -- clause by clause
  have clause : ∀ (P1 : List xf_Cl) (c : Nat) (j s topI : Int) (h' : xq_H) (x9 x10 x11 x12 : Option xq_V), xf_okP P1 → c + P1.length = P.length → topI = 0 → fr ≤ j → j + (xf_flat P1).length = fr + mn → (P1 ≠ [] → 0 ≤ h 65 17) → xf_at (h 65) j (xf_flat P1) → -99 * (c : Int) ≤ s ∧ s ≤ 99 * (c : Int) → I h' → s + xf_sum f P1 = xf_sum f P →
      K 73 [some (xR 64), some (xI md), some (xI ln), some (xI i), some (xI s), some (xI mn), some (xI fr), some (xI topI), some (xI j), x9, x10, x11, x12] [] 81 h' := by
    intro P1
    induction P1 with
    | nil =>
      intro c j s topI h' x9 x10 x11 x12 hok hc et hj hjn h17 hat hs hI hsum
      simp only [xf_flat, List.length_nil] at hjn
      refine xq_go hK [73] 60 ?_
      refine And.intro (by omega) ?_
      refine And.intro (fun _ => ?_) (fun z => absurd z (by omega))
      simp only [xf_sum, Int.add_zero] at hsum
      rw [hsum]
      exact hQ h' hI.1
    | cons cl P1 ih =>
      intro c j s topI h' x9 x10 x11 x12 hok hc et hj hjn h17 hat hs hI hsum
      obtain ⟨a, E⟩ := cl
      have h17 := h17 (by simp)
      have h949 := hj949 h17
      have hcl := hok _ List.mem_cons_self
      dsimp only at hcl
      have hab := xf_amt_bd hcl.2
      simp only [xf_flat, List.length_append, List.length_cons] at hjn hat hc
      refine etok E (a :: xf_flat P1) [] j s topI h' _ _ _ _ hcl.1 (by simp) (by rw [et]; rfl) hat hj h17 (by omega) hI trivial (fun jI tI h2 y9 y10 y11 y12 ej et2 hI2 hs2 => ?_)
      have hat2 := (xf_at_app E (a :: xf_flat P1) j).mp hat
      obtain ⟨-, hta, hat3⟩ := hat2
      rw [← ej] at hta hat3
      have e65 : h2 65 = h 65 := hI2.1 65 (by decide)
      have vt : h2 65 jI = a := by rw [e65]; exact hta
      -- the stack behind an E
      have hl1 : ∃ b, xf_run f E [] = [b] := by
        have hlen := xf_run_len f E [] hcl.1
        rcases hx : xf_run f E [] with _ | ⟨b, _ | ⟨b2, r⟩⟩
        · rw [hx] at hlen; exact absurd hlen (by decide)
        · exact ⟨b, rfl⟩
        · rw [hx] at hlen; simp at hlen
      obtain ⟨b, hb⟩ := hl1
      rw [hb] at hs2
      have vb : h2 69 0 = if b then 1 else 0 := hs2.1
      have hev : xf_ev f E = b := by unfold xf_ev; rw [hb]; rfl
      rw [xf_sum, hev] at hsum
      have hgo : ∀ (s1 a1 t1 : Int) (x9 x10 x11 x12 : Option xq_V), s1 = s + (if b then xf_amt a else 0) → a1 = jI + 1 → t1 = 0 → K 73 [some (xR 64), some (xI md), some (xI ln), some (xI i), some (xI s1), some (xI mn), some (xI fr), some (xI t1), some (xI a1), x9, x10, x11, x12] [] 81 h2 := by
        intro s1 a1 t1 x9 x10 x11 x12 e1 e2 e3
        refine ih (c + 1) a1 s1 t1 h2 x9 x10 x11 x12 (fun q hq => hok q (List.mem_cons_of_mem _ hq)) (by omega) e3 (by omega) (by omega) (fun _ => h17) (by rw [e2]; exact hat3) ?_ hI2 (by rw [e1, ← hsum]; omega)
        rw [e1]
        cases b
        · simp; omega
        · simp; omega
      refine xq_go hK [73] 90 ?_
      refine And.intro (by omega) ?_
      refine And.intro (fun z => absurd z (by omega)) (fun _ => ?_)
      refine And.intro (by omega) ?_
      rw [vt]
      refine And.intro (fun _ => ?_) (fun z => absurd z (by omega))
      refine And.intro (fun _ => ?_) (fun z => absurd z (by omega))
      refine And.intro (fun _ => ?_) (fun z => absurd z (by omega))
      refine And.intro (by decide) ?_
      rw [vb]
      cases b
      · refine And.intro (fun _ => ?_) (fun z => absurd rfl z)
        refine And.intro (by omega) ?_
        refine And.intro (fun _ => ?_) (fun z => absurd rfl z)
        refine And.intro (by omega) ?_
        refine And.intro (by omega) ?_
        exact hgo _ _ _ _ _ _ _ (by simp) rfl rfl
      · refine And.intro (fun z => absurd z (by decide)) (fun _ => ?_)
        refine And.intro (fun z => ?_) (fun z => ?_)
        · refine And.intro (by omega) ?_
          refine And.intro (fun z => absurd z (by decide)) (fun _ => ?_)
          refine And.intro (fun z2 => absurd z2 z) (fun _ => ?_)
          refine And.intro (by omega) ?_
          refine And.intro (by omega) ?_
          refine And.intro (by omega) ?_
          exact hgo _ _ _ _ _ _ _ (by rw [if_pos rfl, xf_amt, if_neg z]; omega) rfl rfl
        · refine And.intro (by omega) ?_
          refine And.intro (by omega) ?_
          refine And.intro (fun z => absurd z (by decide)) (fun _ => ?_)
          refine And.intro (fun _ => ?_) (fun z2 => absurd z z2)
          refine And.intro (by omega) ?_
          refine And.intro (by omega) ?_
          exact hgo _ _ _ _ _ _ _ (by rw [if_pos rfl, xf_amt, if_pos z]; omega) rfl rfl
  have start : ∀ (mnI : Int) (h' : xq_H), mnI = mn → I h' → K 59 [some (xR 64), some (xI md), some (xI ln), some (xI i), some (xI 0), none, none, none, none, none, none, none, none] [xI mnI] 81 h' := by
    intro mnI h' em hI
    have e65 : h' 65 17 = h 65 17 := by rw [hI.1 65 (by decide)]
    refine xq_go hK [73] 60 ?_
    refine And.intro (by decide) ?_
    rw [e65]
    refine And.intro (by omega) ?_
    refine And.intro (by omega) ?_
    rw [em, ← hfr]
    refine clause P 0 fr 0 0 h' _ _ _ _ p1 (by omega) rfl (Int.le_refl _) (by omega) (fun hne => ?_) ?_ (by omega) hI (by omega)
    · rcases Int.lt_or_le (h 65 17) 0 with z | z
      · exact absurd (p4 (by omega)) hne
      · exact z
    · rcases Int.lt_or_le (h 65 17) 0 with z | z
      · rw [p4 (by omega)]; trivial
      · rw [hfr]; exact (p5 z).2
  refine xq_go hK [59] 90 ?_
  refine And.intro (by decide) ?_
  refine And.intro (by omega) ?_
  refine And.intro (by omega) ?_
  refine ⟨lev - 1, by omega, c_M_size (by omega) (by simp only [xu_65_68]; omega) ?_⟩
  refine And.intro (by decide) ?_
  refine And.intro (by omega) ?_
  refine And.intro (by omega) ?_
  refine And.intro (by simp only [xu_65_68]; omega) ?_
  refine And.intro (by decide) ?_
  refine And.intro (by omega) ?_
  refine And.intro (by omega) ?_
  refine And.intro (by decide) ?_
  refine And.intro (by decide) ?_
  refine And.intro (by decide) ?_
  refine And.intro (by simp only [xu_65_68]; omega) ?_
  refine And.intro (by decide) ?_
  have mem : 68 ∈ [68, 69] := by decide
  have fin0 : ∀ (q : Int), 0 ≤ q → q ≤ 5 → ∀ v0 v1 v2 v3 v4 v5 : Int, v0 = ln → v1 = xf_sz (h 65 (18 + i)) → v2 = h 65 (2 + i) / 10 → v3 = h 65 (34 + md) → v4 = i → v5 = h 65 1 % 10 → xq_u (xq_u (xq_u (xq_u (xq_u (xq_u h 68 0 v0) 68 1 v1) 68 2 v2) 68 3 v3) 68 4 v4) 68 5 v5 68 q = f q := by
    intro q h1 h2 v0 v1 v2 v3 v4 v5 e0 e1 e2 e3 e4 e5
    rw [hf]
    simp only [xu_rd, xf_fact]
    rcases (show q = 0 ∨ q = 1 ∨ q = 2 ∨ q = 3 ∨ q = 4 ∨ q = 5 by omega) with rfl | rfl | rfl | rfl | rfl | rfl <;> simp <;> omega
  refine ⟨lev - 1, by omega, c_M_tellsOf (by omega) (by omega) (by simp only [xu_65_68]; omega) (fun e => start 0 _ ?_ ⟨?_, fun q h1 h2 => fin0 q h1 h2 _ _ _ _ _ _ rfl ?_ ?_ ?_ rfl ?_⟩) (fun e => start _ _ ?_ ⟨?_, fun q h1 h2 => fin0 q h1 h2 _ _ _ _ _ _ rfl ?_ ?_ ?_ rfl ?_⟩)⟩
  · simp only [xu_65_68] at e
    rw [hmn, p4 e]
    rfl
  · exact xs_u (xs_u (xs_u (xs_u (xs_u (xs_u xs_rf mem _ _) mem _ _) mem _ _) mem _ _) mem _ _) mem _ _
  · simp only [xu_65_68]
  · simp only [xu_65_68]
  · simp only [xu_65_68]
  · simp only [xu_65_68]
  · simp only [xu_65_68] at e ⊢
    rw [hmn]
    exact (p5 e).1
  · exact xs_u (xs_u (xs_u (xs_u (xs_u (xs_u xs_rf mem _ _) mem _ _) mem _ _) mem _ _) mem _ _) mem _ _
  · simp only [xu_65_68]
  · simp only [xu_65_68]
  · simp only [xu_65_68]
  · simp only [xu_65_68]
