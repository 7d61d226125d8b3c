/-! COST, the reference's side -/
def xf_beg (typed other : Int) : Prop := xf_sz typed < xf_sz other ∧ xf_cut other ((xf_sz other).toNat - (xf_sz typed).toNat) = typed
noncomputable def xf_fr (m : Int → Int) (md typed other : Int) : Int :=
  @ite _ (m (34 + md) = 5 ∧ xf_beg typed other) (Classical.propDecidable _) 2 (xf_far (xf_stp m) (if m (34 + md) = 1 ∨ m (34 + md) = 4 then min 4 (xf_stp m) else xf_stp m) typed other)
theorem xf_far_bd {st nr a b : Int} (ha : xf_wd a) (hb : xf_wd b) (hs : 0 ≤ st ∧ st ≤ 99) (hn : 0 ≤ nr ∧ nr ≤ 99) : 0 ≤ xf_far st nr a b ∧ xf_far st nr a b ≤ 990 := by
  have h1 := xf_szb ha
  have h2 := xf_szb hb
  have h3 := xf_D_bd (sw := xf_sw nr st) (a := fun k => xf_lt a (xf_sz a).toNat k.toNat) (b := fun k => xf_lt b (xf_sz b).toNat k.toNat) hs (fun x y => xf_sw_bd (x := x) (y := y) hn hs) (xf_sz a).toNat (xf_sz b).toNat
  unfold xf_far
  omega
theorem xf_fr_bd {m : Int → Int} {md a b : Int} (ha : xf_wd a) (hb : xf_wd b) (hs : 0 ≤ xf_stp m ∧ xf_stp m ≤ 99) : 0 ≤ xf_fr m md a b ∧ xf_fr m md a b ≤ 990 := by
  have h1 := xf_far_bd (nr := if m (34 + md) = 1 ∨ m (34 + md) = 4 then min 4 (xf_stp m) else xf_stp m) ha hb hs (by split <;> omega)
  unfold xf_fr
  split <;> omega
set_option maxHeartbeats 1000000 in
theorem c_M_farOf {lev : Nat} {h : xq_H} {Q : Option xq_V → xq_H → Prop} {md typed other : Int} (hl : 4 ≤ lev) (ht : xf_wd typed) (ho : xf_wd other) (hV : xf_VM (h 65)) (hmd : 0 ≤ md ∧ md < h 65 10)
    (hQ : ∀ h', xs_eq [70, 71, 72, 73] h h' → Q (some (xI (xf_fr (h 65) md typed other))) h') : xq_met lev y_M_farOf [xR 64, xI md, xI typed, xI other] 81 h Q := by
  refine en_M_farOf (by omega) (fun K hK => ?_)
  obtain ⟨V1, V2, V3, V4, V5, V6, V7, V8, V9⟩ := hV
  have w2 := (V4 md hmd.1 hmd.2).1
  have t1 := ht.1
  have t2 := ht.2.1
  have o1 := ho.1
  have o2 := ho.2.1
  have bt := xf_szb ht
  have bo := xf_szb ho
  -- behind 'begins'
  have tail : ∀ bI : Int, (bI = 1 ∧ xf_beg typed other ∨ bI = 0 ∧ ¬ xf_beg typed other) → K 21 [some (xR 64), some (xI md), some (xI typed), some (xI other), some (xI (h 65 (34 + md))), none] [xI bI] 81 h := by
    intro bI hb
    have far : (¬ (h 65 (34 + md) = 5 ∧ xf_beg typed other)) → K 29 [some (xR 64), some (xI md), some (xI typed), some (xI other), some (xI (h 65 (34 + md))), some (xI bI)] [] 81 h := by
      intro hno
      have hfr : xf_fr (h 65) md typed other = xf_far (xf_stp (h 65)) (if h 65 (34 + md) = 1 ∨ h 65 (34 + md) = 4 then min 4 (xf_stp (h 65)) else xf_stp (h 65)) typed other := by
        unfold xf_fr
        rw [if_neg hno]
      rw [hfr] at hQ
      have call : ∀ nI : Int, (nI = 1 ∧ (h 65 (34 + md) = 1 ∨ h 65 (34 + md) = 4) ∨ nI = 0 ∧ ¬ (h 65 (34 + md) = 1 ∨ h 65 (34 + md) = 4)) → K 41 [some (xR 64), some (xI md), some (xI typed), some (xI other), some (xI (h 65 (34 + md))), some (xI bI)] [xI nI, xI other, xI typed, xR 64] 81 h := by
        intro nI hn
        refine xq_go hK [] 60 ?_
        refine ⟨lev - 1, by omega, c_M_changes (by omega) ht ho (by omega) V7 V8 (fun h' hs => ?_)⟩
        have q := hQ h' hs
        rcases hn with ⟨rfl, hk⟩ | ⟨rfl, hk⟩
        · rw [if_pos hk] at q
          exact q
        · rw [if_neg hk] at q
          exact q
      refine xq_go hK [41] 60 ?_
      refine And.intro (fun c => call 1 (Or.inl ⟨rfl, Or.inl c⟩)) (fun c => ?_)
      refine And.intro (fun c2 => call 0 (Or.inr ⟨rfl, fun z => z.elim c c2⟩)) (fun c2 => call 1 (Or.inl ⟨rfl, Or.inr c2⟩))
    refine xq_go hK [29] 60 ?_
    refine And.intro (fun c => far (fun z => c z.1)) (fun c => ?_)
    refine And.intro (fun c2 => far (fun z => ?_)) (fun c2 => ?_)
    · rcases hb with ⟨rfl, hb⟩ | ⟨rfl, hb⟩
      · exact absurd c2 (by decide)
      · exact hb z.2
    · have q := hQ h xs_rf
      unfold xf_fr at q
      rcases hb with ⟨rfl, hb⟩ | ⟨rfl, hb⟩
      · rw [if_pos ⟨c, hb⟩] at q
        exact q
      · exact absurd rfl c2
  refine xq_go hK [21] 60 ?_
  refine And.intro (by omega) ?_
  refine And.intro (by omega) ?_
  refine ⟨lev - 1, by omega, c_M_size (by omega) (by omega) ?_⟩
  refine ⟨lev - 1, by omega, c_M_size (by omega) (by omega) ?_⟩
  refine And.intro (fun c => tail 0 (Or.inr ⟨rfl, fun z => c z.1⟩)) (fun c => ?_)
  refine ⟨lev - 1, by omega, c_M_size (by omega) (by omega) ?_⟩
  refine ⟨lev - 1, by omega, c_M_first (by omega) (by omega) (n := (xf_sz other).toNat) (m := (xf_sz typed).toNat) (by omega) (by omega) ?_⟩
  refine And.intro (fun c2 => tail 0 (Or.inr ⟨rfl, fun z => c2 z.2⟩)) (fun c2 => tail 1 (Or.inl ⟨rfl, c, c2⟩))
/-- the number of the last word that stands -/
def xf_last (m : Int → Int) : Int := if m 0 = 0 then -1 else xf_num m (m 0)
noncomputable def xf_co (m : Int → Int) (md w i ex : Int) : Int :=
  max 0 (xf_fr m md w (m (18 + i)) + ex - (if (m (34 + md) = 2 ∨ m (34 + md) = 5) ∧ xf_last m ≠ -1 ∧ xq_and (xq_shr (m (26 + xf_last m)) i) 1 = 1 then 5 else 0) + (if m (34 + md) = 6 then m (44 + 4 * md + m 1 % 4) else 0))
theorem xf_num_bd {m : Int → Int} (h : 0 ≤ m 11) (w : Int) : -1 ≤ xf_num m w ∧ xf_num m w < m 11 ∨ xf_num m w = -1 := by
  have := xf_ix_bd (fun k => m (18 + k)) w (m 11).toNat
  unfold xf_num
  omega
theorem xf_last_bd {m : Int → Int} (h : 0 ≤ m 11) : -1 ≤ xf_last m ∧ (xf_last m < m 11 ∨ xf_last m = -1) := by
  have := xf_num_bd h (m 0)
  unfold xf_last
  split <;> omega
set_option maxHeartbeats 2000000 in
theorem c_M_costOf {lev : Nat} {h : xq_H} {Q : Option xq_V → xq_H → Prop} {md typed i : Int} (hl : 5 ≤ lev) (ht : xf_wd typed) (hV : xf_VM (h 65)) (hmd : 0 ≤ md ∧ md < h 65 10) (hi : 0 ≤ i ∧ i < h 65 11) (hex : -990 ≤ h 74 i ∧ h 74 i ≤ 990)
    (hQ : ∀ h', xs_eq [70, 71, 72, 73] h h' → Q (some (xI (xf_co (h 65) md typed i (h 74 i)))) h') : xq_met lev y_M_costOf [xR 64, xI md, xI typed, xI i] 81 h Q := by
  refine en_M_costOf (by omega) (fun K hK => ?_)
  have hV0 := hV
  obtain ⟨V1, V2, V3, V4, V5, V6, V7, V8, V9⟩ := hV
  have w1 := V2 i hi.1 hi.2
  have w2 := V4 md hmd.1 hmd.2
  have w3 := w2.1
  have hfb := xf_fr_bd (md := md) ht w1.1 V8
  have hlb := xf_last_bd V1.1
  unfold xf_co at hQ
  obtain ⟨kd, hkd⟩ : ∃ kd, kd = h 65 (34 + md) := ⟨_, rfl⟩
  rw [← hkd] at hQ w3
  refine xq_go hK [36] 60 ?_
  refine And.intro (by omega) ?_
  refine And.intro (by omega) ?_
  refine And.intro (by omega) ?_
  refine And.intro (by omega) ?_
  refine ⟨lev - 1, by omega, c_M_farOf (by omega) ht w1.1 hV0 hmd (fun h1 hs => ?_)⟩
  have e65 : h1 65 = h 65 := hs 65 (by decide)
  have e74 : h1 74 = h 74 := hs 74 (by decide)
  have q := hQ h1 hs
  generalize hfr : xf_fr (h 65) md typed (h 65 (18 + i)) = fr at hfb q
  -- behind the last one that stands
  have tail : ∀ (s5 lI : Int), s5 = fr + h 74 i → lI = xf_last (h 65) → K 36 [some (xR 64), some (xI md), some (xI typed), some (xI i), some (xI kd), some (xI s5), none] [xI lI] 81 h1 := by
    intro s5 lI e5 el
    have third : ∀ (x6 : Option xq_V) (s5 : Int), s5 = fr + h 74 i - (if (kd = 2 ∨ kd = 5) ∧ xf_last (h 65) ≠ -1 ∧ xq_and (xq_shr (h 65 (26 + xf_last (h 65))) i) 1 = 1 then 5 else 0) → K 64 [some (xR 64), some (xI md), some (xI typed), some (xI i), some (xI kd), some (xI s5), x6] [] 81 h1 := by
      intro x6 s5 e5
      rw [← e5] at q
      have hs5 : -1000 ≤ s5 ∧ s5 ≤ 2000 := by rw [e5]; split <;> omega
      have last : ∀ (r : Int) (x6 : Option xq_V), r = (if kd = 6 then h 65 (44 + 4 * md + h 65 1 % 4) else 0) → K 85 [some (xR 64), some (xI md), some (xI typed), some (xI i), some (xI kd), some (xI s5), x6] [xI r, xI s5] 81 h1 := by
        intro r x6 er
        rw [← er] at q
        have hr : 0 ≤ r ∧ r ≤ 9 := by
          rw [er]
          split
          · exact w2.2.2 (h 65 1 % 4) (by omega) (by omega)
          · omega
        refine xq_go hK [] 60 ?_
        refine And.intro (by omega) ?_
        refine And.intro (fun c => ?_) (fun c => ?_)
        · rw [show max 0 (s5 + r) = s5 + r by omega] at q
          exact q
        · rw [show max 0 (s5 + r) = 0 by omega] at q
          exact q
      refine xq_go hK [85] 60 ?_
      refine And.intro (fun c => last _ _ (by rw [if_neg c])) (fun c => ?_)
      refine And.intro (by omega) ?_
      refine And.intro (by omega) ?_
      refine And.intro (by decide) ?_
      rw [e65]
      refine And.intro (by omega) ?_
      refine And.intro (by omega) ?_
      refine And.intro (by omega) ?_
      refine last _ _ ?_
      rw [if_pos c, e65]
    have sub : ∀ (v : Int), v = (if (kd = 2 ∨ kd = 5) ∧ xf_last (h 65) ≠ -1 ∧ xq_and (xq_shr (h 65 (26 + xf_last (h 65))) i) 1 = 1 then 5 else 0) → K 62 [some (xR 64), some (xI md), some (xI typed), some (xI i), some (xI kd), some (xI s5), some (xI lI)] [xI v, xI s5] 81 h1 := by
      intro v ev
      have hv : 0 ≤ v ∧ v ≤ 5 := by rw [ev]; split <;> omega
      refine xq_go hK [64] 60 ?_
      refine And.intro (by omega) ?_
      exact third _ _ (by rw [← ev, e5])
    have bit : (kd = 2 ∨ kd = 5) → K 44 [some (xR 64), some (xI md), some (xI typed), some (xI i), some (xI kd), some (xI s5), some (xI lI)] [xI s5] 81 h1 := by
      intro hk
      refine xq_go hK [62] 60 ?_
      refine And.intro (fun c => sub _ (by rw [if_neg (fun z => z.2.1 (by omega))])) (fun c => ?_)
      refine And.intro (by omega) ?_
      refine And.intro (by omega) ?_
      rw [e65]
      refine And.intro (fun c2 => sub _ (by rw [el] at c2; rw [if_neg (fun z => c2 z.2.2)])) (fun c2 => sub _ (by rw [el] at c2; rw [if_pos ⟨hk, by omega, c2⟩]))
    refine xq_go hK [44, 62] 60 ?_
    refine And.intro (fun c => bit (Or.inl c)) (fun c => ?_)
    refine And.intro (fun c2 => sub _ (by rw [if_neg (fun z => z.1.elim c c2)])) (fun c2 => bit (Or.inr c2))
  have b74 : h1 74 i = h 74 i := by rw [e74]
  rw [hkd] at tail
  refine And.intro (by omega) ?_
  refine And.intro (by omega) ?_
  refine And.intro (by omega) ?_
  rw [e65]
  refine And.intro (fun c => ?_) (fun c => ?_)
  · refine And.intro (by omega) ?_
    refine ⟨lev - 1, by omega, c_M_indexOf (by omega) (by rw [e65]; exact V1) ?_⟩
    rw [e65]
    refine tail _ _ (by rw [b74]) ?_
    unfold xf_last
    rw [if_neg c]
  · refine tail _ _ (by rw [b74]) ?_
    unfold xf_last
    rw [if_pos c]
