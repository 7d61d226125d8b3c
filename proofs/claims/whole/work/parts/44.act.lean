/-! ACTS -/
def xf_wb (f : Int → Int) (r : Int) : List Int → Int → Int
  | [] => f
  | b :: l => xf_wb (xf_up f r b) (r + 1) l
theorem xf_wb_app (l2 : List Int) : ∀ (l1 : List Int) (f : Int → Int) (r : Int), xf_wb f r (l1 ++ l2) = xf_wb (xf_wb f r l1) (r + l1.length) l2
  | [], f, r => by
    show xf_wb f r l2 = xf_wb f (r + ((0 : Nat) : Int)) l2
    rw [show r + ((0 : Nat) : Int) = r by omega]
  | b :: l1, f, r => by
    show xf_wb (xf_up f r b) (r + 1) (l1 ++ l2) = _
    rw [xf_wb_app l2 l1]
    show xf_wb (xf_wb (xf_up f r b) (r + 1) l1) (r + 1 + l1.length) l2 = xf_wb (xf_wb (xf_up f r b) (r + 1) l1) (r + ((l1.length + 1 : Nat) : Int)) l2
    rw [show r + 1 + (l1.length : Int) = r + ((l1.length + 1 : Nat) : Int) by omega]
theorem xf_wb_lo : ∀ (l : List Int) (f : Int → Int) (r i : Int), i < r → xf_wb f r l i = f i
  | [], _, _, _, _ => rfl
  | b :: l, f, r, i, h => by
    show xf_wb (xf_up f r b) (r + 1) l i = f i
    rw [xf_wb_lo l _ _ _ (by omega), xf_up_n (by omega)]
theorem xf_wb_eq : ∀ (l : List Int) (f g : Int → Int) (r i : Int), r ≤ i → i < r + l.length → xf_wb f r l i = xf_wb g r l i
  | [], _, _, r, i, h1, h2 => by
    simp only [List.length_nil] at h2
    omega
  | b :: l, f, g, r, i, h1, h2 => by
    simp only [List.length_cons] at h2
    show xf_wb (xf_up f r b) (r + 1) l i = xf_wb (xf_up g r b) (r + 1) l i
    by_cases e : i = r
    · rw [xf_wb_lo l _ _ _ (by omega), xf_wb_lo l _ _ _ (by omega), e, xf_up_e, xf_up_e]
    · exact xf_wb_eq l _ _ _ _ (by omega) (by omega)
/-- what the acts come to, and the bodies that run -/
noncomputable def xa_M (kd n x : Int) : Int := xf_if (xf_un kd 1) (xq_wr (xq_wr (x * 3) + n)) (if kd = 5 then xq_xor (xq_wr (x + n)) n else xq_wr (x + n))
noncomputable def xa_PL (kd n v x : Int) : Int := xq_wr (xa_M kd n x - v)
noncomputable def xa_L (kd n v x : Int) : Int := xf_if (xf_un kd 2) (xq_wr (-xa_PL kd n v x)) (if kd = 6 then xq_wr (xa_PL kd n v x + v) else xa_PL kd n v x)
noncomputable def xa_PT (kd n v x : Int) : Int := xq_wr (xa_L kd n v x * 2)
noncomputable def xa_T (kd n v x : Int) : Int := xf_if (xf_un kd 3) (xq_xor (xa_PT kd n v x) 7) (if kd = 4 then xq_wr (xa_PT kd n v (xq_wr (x - 1)) + xa_M kd n 2) else xa_PT kd n v x)
noncomputable def xa_li (p : Prop) (a b : List Int) : List Int := @ite _ p (Classical.propDecidable _) a b
theorem xa_li_t {p : Prop} {a b : List Int} (h : p) : xa_li p a b = a := by unfold xa_li; rw [if_pos h]
theorem xa_li_f {p : Prop} {a b : List Int} (h : ¬ p) : xa_li p a b = b := by unfold xa_li; rw [if_neg h]
noncomputable def xa_bM (kd : Int) : List Int := xa_li (xf_un kd 1) [11, 1] (if kd = 5 then [51, 1] else [1])
noncomputable def xa_bPL (kd : Int) : List Int := 2 :: xa_bM kd
noncomputable def xa_bL (kd : Int) : List Int := xa_li (xf_un kd 2) (21 :: xa_bPL kd) (if kd = 6 then 61 :: xa_bPL kd else xa_bPL kd)
noncomputable def xa_bPT (kd : Int) : List Int := 3 :: xa_bL kd
noncomputable def xa_bT (kd : Int) : List Int := xa_li (xf_un kd 3) (31 :: xa_bPT kd) (if kd = 4 then 41 :: (xa_bPT kd ++ xa_bM kd) else xa_bPT kd)
theorem xa_bM_n (kd : Int) : (xa_bM kd).length ≤ 2 := by
  unfold xa_bM
  by_cases c : xf_un kd 1
  · rw [xa_li_t c]; decide
  · rw [xa_li_f c]; split <;> decide
theorem xa_bL_n (kd : Int) : (xa_bL kd).length ≤ 4 := by
  have := xa_bM_n kd
  unfold xa_bL xa_bPL
  by_cases c : xf_un kd 2
  · rw [xa_li_t c]; simp only [List.length_cons]; omega
  · rw [xa_li_f c]; split <;> simp only [List.length_cons] <;> omega
theorem xa_bT_n (kd : Int) : (xa_bT kd).length ≤ 8 := by
  have h1 := xa_bM_n kd
  have h2 := xa_bL_n kd
  unfold xa_bT xa_bPT
  by_cases c : xf_un kd 3
  · rw [xa_li_t c]; simp only [List.length_cons]; omega
  · rw [xa_li_f c]; split <;> simp only [List.length_cons, List.length_append] <;> omega
/-! the reference -/
def xa_r (h h' : xq_H) (l : List Int) : Prop := xs_eq [64, 79] h h' ∧ (∀ k : Int, k ≠ 27 → h' 64 k = h 64 k) ∧ h' 64 27 = h 64 27 + l.length ∧ h' 79 = xf_wb (h 79) (h 64 27) l
theorem xa_r_tr {h h1 h2 : xq_H} {l1 l2 : List Int} (a : xa_r h h1 l1) (b : xa_r h1 h2 l2) : xa_r h h2 (l1 ++ l2) := by
  refine ⟨xs_tr a.1 b.1 (fun _ z => z) (fun _ z => z), fun k hk => (b.2.1 k hk).trans (a.2.1 k hk), ?_, ?_⟩
  · rw [b.2.2.1, a.2.2.1, List.length_append]
    omega
  · rw [b.2.2.2, a.2.2.2, a.2.2.1, xf_wb_app]
theorem c_M_ranBody {lev : Nat} {h : xq_H} {Q : Option xq_V → xq_H → Prop} {b : Int} (hl : 1 ≤ lev) (hr : 0 ≤ h 64 27 ∧ h 64 27 ≤ 19) (hQ : ∀ h', xa_r h h' [b] → Q none h') : xq_met lev y_M_ranBody [xR 64, xI b] 81 h Q := by
  refine en_M_ranBody (by omega) (fun K hK => ?_)
  refine xq_go hK [] 60 ?_
  refine And.intro (fun c => absurd c (by omega)) (fun _ => ?_)
  refine And.intro (by omega) ?_
  have e1 : xq_u h 79 (h 64 27) b 64 27 = h 64 27 := rfl
  refine And.intro (by omega) ?_
  refine hQ _ ⟨xs_u (xs_u xs_rf (by decide) _ _) (by decide) _ _, fun k hk => by rw [xu_ne hk]; rfl, by rw [xu_eq, e1]; rfl, ?_⟩
  rw [xq_u_o (by decide), xq_u_up]
  rfl
theorem c_M_plainMends {lev : Nat} {h : xq_H} {Q : Option xq_V → xq_H → Prop} {x : Int} (hl : 2 ≤ lev) (hr : 0 ≤ h 64 27 ∧ h 64 27 ≤ 19) (hQ : ∀ h', xa_r h h' [1] → Q (some (xI (xq_wr (x + h 64 29)))) h') : xq_met lev y_M_plainMends [xR 64, xI x] 81 h Q := by
  refine en_M_plainMends (by omega) (fun K hK => ?_)
  refine xq_go hK [] 60 ?_
  refine ⟨lev - 1, by omega, c_M_ranBody (by omega) hr (fun h1 a1 => ?_)⟩
  have q := hQ h1 a1
  rw [← a1.2.1 29 (by decide)] at q
  exact q
theorem c_M_mendsActs {lev : Nat} {h : xq_H} {Q : Option xq_V → xq_H → Prop} {x : Int} (hl : 3 ≤ lev) (hr : 0 ≤ h 64 27 ∧ h 64 27 ≤ 18) (hk : 0 ≤ h 64 28 ∧ h 64 28 ≤ 6) (hQ : ∀ h', xa_r h h' (xa_bM (h 64 28)) → Q (some (xI (xa_M (h 64 28) (h 64 29) x))) h') : xq_met lev y_M_mendsActs [xR 64, xI x] 81 h Q := by
  refine en_M_mendsActs (by omega) (fun K hK => ?_)
  unfold xa_M xa_bM at hQ
  refine xq_go hK [] 60 ?_
  refine ⟨lev - 1, by omega, c_M_isUnder (by omega) hk (by omega) (fun c => ?_) (fun c => ?_)⟩
  · rw [xf_if_t c, xa_li_t c] at hQ
    refine And.intro (fun z => absurd z (by decide)) (fun _ => ?_)
    refine ⟨lev - 1, by omega, c_M_ranBody (by omega) (by omega) (fun h1 a1 => ?_)⟩
    have r1 := a1.2.2.1
    simp only [List.length_cons, List.length_nil] at r1
    refine ⟨lev - 1, by omega, c_M_plainMends (by omega) (by omega) (fun h2 a2 => ?_)⟩
    have q := hQ h2 (xa_r_tr a1 a2)
    rw [← a1.2.1 29 (by decide)] at q
    exact q
  · rw [xf_if_f c, xa_li_f c] at hQ
    refine And.intro (fun _ => ?_) (fun z => absurd rfl z)
    refine And.intro (fun c2 => ?_) (fun c2 => ?_)
    · rw [if_neg c2, if_neg c2] at hQ
      refine ⟨lev - 1, by omega, c_M_plainMends (by omega) (by omega) (fun h2 a2 => ?_)⟩
      exact hQ h2 a2
    · rw [if_pos c2, if_pos c2] at hQ
      refine ⟨lev - 1, by omega, c_M_ranBody (by omega) (by omega) (fun h1 a1 => ?_)⟩
      have r1 := a1.2.2.1
      simp only [List.length_cons, List.length_nil] at r1
      refine ⟨lev - 1, by omega, c_M_plainMends (by omega) (by omega) (fun h2 a2 => ?_)⟩
      have q := hQ h2 (xa_r_tr a1 a2)
      have e2 := a2.2.1 29 (by decide)
      rw [← a1.2.1 29 (by decide)] at q
      rw [show xq_xor (xq_wr (x + h1 64 29)) (h1 64 29) = xq_xor (xq_wr (x + h1 64 29)) (h2 64 29) by rw [e2]] at q
      exact q
theorem c_M_plainLeaves {lev : Nat} {h : xq_H} {Q : Option xq_V → xq_H → Prop} {x : Int} (hl : 4 ≤ lev) (hr : 0 ≤ h 64 27 ∧ h 64 27 ≤ 17) (hk : 0 ≤ h 64 28 ∧ h 64 28 ≤ 6) (hQ : ∀ h', xa_r h h' (xa_bPL (h 64 28)) → Q (some (xI (xa_PL (h 64 28) (h 64 29) (h 64 30) x))) h') : xq_met lev y_M_plainLeaves [xR 64, xI x] 81 h Q := by
  refine en_M_plainLeaves (by omega) (fun K hK => ?_)
  refine xq_go hK [] 60 ?_
  refine ⟨lev - 1, by omega, c_M_ranBody (by omega) (by omega) (fun h1 a1 => ?_)⟩
  have r1 := a1.2.2.1
  simp only [List.length_cons, List.length_nil] at r1
  have e28 := a1.2.1 28 (by decide)
  have e29 := a1.2.1 29 (by decide)
  refine ⟨lev - 1, by omega, c_M_mendsActs (by omega) (by omega) (by omega) (fun h2 a2 => ?_)⟩
  have e30 : h2 64 30 = h 64 30 := (a2.2.1 30 (by decide)).trans (a1.2.1 30 (by decide))
  rw [e28] at a2
  have q := hQ h2 (xa_r_tr a1 a2)
  unfold xa_PL at q
  rw [← e28, ← e29, ← e30] at q
  exact q
theorem c_M_leavesActs {lev : Nat} {h : xq_H} {Q : Option xq_V → xq_H → Prop} {x : Int} (hl : 5 ≤ lev) (hr : 0 ≤ h 64 27 ∧ h 64 27 ≤ 16) (hk : 0 ≤ h 64 28 ∧ h 64 28 ≤ 6) (hQ : ∀ h', xa_r h h' (xa_bL (h 64 28)) → Q (some (xI (xa_L (h 64 28) (h 64 29) (h 64 30) x))) h') : xq_met lev y_M_leavesActs [xR 64, xI x] 81 h Q := by
  refine en_M_leavesActs (by omega) (fun K hK => ?_)
  unfold xa_L xa_bL at hQ
  refine xq_go hK [] 60 ?_
  refine ⟨lev - 1, by omega, c_M_isUnder (by omega) hk (by omega) (fun c => ?_) (fun c => ?_)⟩
  · rw [xf_if_t c, xa_li_t c] at hQ
    refine And.intro (fun z => absurd z (by decide)) (fun _ => ?_)
    refine ⟨lev - 1, by omega, c_M_ranBody (by omega) (by omega) (fun h1 a1 => ?_)⟩
    have r1 := a1.2.2.1
    simp only [List.length_cons, List.length_nil] at r1
    have e28 := a1.2.1 28 (by decide)
    have e29 := a1.2.1 29 (by decide)
    have e30 := a1.2.1 30 (by decide)
    refine ⟨lev - 1, by omega, c_M_plainLeaves (by omega) (by omega) (by omega) (fun h2 a2 => ?_)⟩
    rw [e28] at a2
    have q := hQ h2 (xa_r_tr a1 a2)
    rw [e28, e29, e30]
    exact q
  · rw [xf_if_f c, xa_li_f c] at hQ
    refine And.intro (fun _ => ?_) (fun z => absurd rfl z)
    refine And.intro (fun c2 => ?_) (fun c2 => ?_)
    · rw [if_neg c2, if_neg c2] at hQ
      refine ⟨lev - 1, by omega, c_M_plainLeaves (by omega) (by omega) hk (fun h2 a2 => ?_)⟩
      exact hQ h2 a2
    · rw [if_pos c2, if_pos c2] at hQ
      refine ⟨lev - 1, by omega, c_M_ranBody (by omega) (by omega) (fun h1 a1 => ?_)⟩
      have r1 := a1.2.2.1
      simp only [List.length_cons, List.length_nil] at r1
      have e28 := a1.2.1 28 (by decide)
      have e29 := a1.2.1 29 (by decide)
      have e30 := a1.2.1 30 (by decide)
      refine ⟨lev - 1, by omega, c_M_plainLeaves (by omega) (by omega) (by omega) (fun h2 a2 => ?_)⟩
      have e302 : h2 64 30 = h 64 30 := (a2.2.1 30 (by decide)).trans e30
      rw [e28] at a2
      have q := hQ h2 (xa_r_tr a1 a2)
      rw [e28, e29, e30]
      rw [show xa_PL (h 64 28) (h 64 29) (h 64 30) x + h 64 30 = xa_PL (h 64 28) (h 64 29) (h 64 30) x + h2 64 30 by rw [e302]] at q
      exact q
theorem c_M_plainTells {lev : Nat} {h : xq_H} {Q : Option xq_V → xq_H → Prop} {x : Int} (hl : 6 ≤ lev) (hr : 0 ≤ h 64 27 ∧ h 64 27 ≤ 15) (hk : 0 ≤ h 64 28 ∧ h 64 28 ≤ 6) (hQ : ∀ h', xa_r h h' (xa_bPT (h 64 28)) → Q (some (xI (xa_PT (h 64 28) (h 64 29) (h 64 30) x))) h') : xq_met lev y_M_plainTells [xR 64, xI x] 81 h Q := by
  refine en_M_plainTells (by omega) (fun K hK => ?_)
  refine xq_go hK [] 60 ?_
  refine ⟨lev - 1, by omega, c_M_ranBody (by omega) (by omega) (fun h1 a1 => ?_)⟩
  have r1 := a1.2.2.1
  simp only [List.length_cons, List.length_nil] at r1
  have e28 := a1.2.1 28 (by decide)
  have e29 := a1.2.1 29 (by decide)
  have e30 := a1.2.1 30 (by decide)
  refine ⟨lev - 1, by omega, c_M_leavesActs (by omega) (by omega) (by omega) (fun h2 a2 => ?_)⟩
  rw [e28] at a2
  have q := hQ h2 (xa_r_tr a1 a2)
  rw [e28, e29, e30]
  exact q
theorem c_M_tellsActs {lev : Nat} {h : xq_H} {Q : Option xq_V → xq_H → Prop} {x : Int} (hl : 7 ≤ lev) (hr : 0 ≤ h 64 27 ∧ h 64 27 ≤ 10) (hk : 0 ≤ h 64 28 ∧ h 64 28 ≤ 6) (hQ : ∀ h', xa_r h h' (xa_bT (h 64 28)) → Q (some (xI (xa_T (h 64 28) (h 64 29) (h 64 30) x))) h') : xq_met lev y_M_tellsActs [xR 64, xI x] 81 h Q := by
  refine en_M_tellsActs (by omega) (fun K hK => ?_)
  unfold xa_T xa_bT at hQ
  refine xq_go hK [] 60 ?_
  refine ⟨lev - 1, by omega, c_M_isUnder (by omega) hk (by omega) (fun c => ?_) (fun c => ?_)⟩
  · rw [xf_if_t c, xa_li_t c] at hQ
    refine And.intro (fun z => absurd z (by decide)) (fun _ => ?_)
    refine ⟨lev - 1, by omega, c_M_ranBody (by omega) (by omega) (fun h1 a1 => ?_)⟩
    have r1 := a1.2.2.1
    simp only [List.length_cons, List.length_nil] at r1
    have e28 := a1.2.1 28 (by decide)
    have e29 := a1.2.1 29 (by decide)
    have e30 := a1.2.1 30 (by decide)
    refine ⟨lev - 1, by omega, c_M_plainTells (by omega) (by omega) (by omega) (fun h2 a2 => ?_)⟩
    rw [e28] at a2
    have q := hQ h2 (xa_r_tr a1 a2)
    rw [e28, e29, e30]
    exact q
  · rw [xf_if_f c, xa_li_f c] at hQ
    refine And.intro (fun _ => ?_) (fun z => absurd rfl z)
    refine And.intro (fun c2 => ?_) (fun c2 => ?_)
    · rw [if_neg c2, if_neg c2] at hQ
      refine ⟨lev - 1, by omega, c_M_plainTells (by omega) (by omega) hk (fun h2 a2 => ?_)⟩
      exact hQ h2 a2
    · rw [if_pos c2, if_pos c2] at hQ
      refine ⟨lev - 1, by omega, c_M_ranBody (by omega) (by omega) (fun h1 a1 => ?_)⟩
      have r1 := a1.2.2.1
      simp only [List.length_cons, List.length_nil] at r1
      have e28 := a1.2.1 28 (by decide)
      have e29 := a1.2.1 29 (by decide)
      have e30 := a1.2.1 30 (by decide)
      refine ⟨lev - 1, by omega, c_M_plainTells (by omega) (by omega) (by omega) (fun h2 a2 => ?_)⟩
      have f28 := (a2.2.1 28 (by decide)).trans e28
      have f29 := (a2.2.1 29 (by decide)).trans e29
      have r2 := a2.2.2.1
      have n1 := xa_bL_n (h1 64 28)
      unfold xa_bPT at r2
      simp only [List.length_cons] at r2
      refine ⟨lev - 1, by omega, c_M_mendsActs (by omega) (by omega) (by omega) (fun h3 a3 => ?_)⟩
      rw [e28] at a2
      rw [f28] at a3
      have q := hQ h3 (xa_r_tr a1 (xa_r_tr a2 a3))
      rw [e28, e29, e30, f28, f29]
      exact q
noncomputable def sp_act (m : Int → Int) (md act x : Int) : Int := xf_if ((0 ≤ md ∧ md < m 10) ∧ 0 ≤ act ∧ act ≤ 2) (if act = 0 then xa_M (m (34 + md)) md x else if act = 1 then xa_L (m (34 + md)) md (m (39 + md)) x else xa_T (m (34 + md)) md (m (39 + md)) x) 0
noncomputable def sp_bod (m : Int → Int) (md act : Int) : List Int := xa_li ((0 ≤ md ∧ md < m 10) ∧ 0 ≤ act ∧ act ≤ 2) (if act = 0 then xa_bM (m (34 + md)) else if act = 1 then xa_bL (m (34 + md)) else xa_bT (m (34 + md))) []
theorem sp_bod_n (m : Int → Int) (md act : Int) : (sp_bod m md act).length ≤ 8 := by
  have h1 := xa_bM_n (m (34 + md))
  have h2 := xa_bL_n (m (34 + md))
  have h3 := xa_bT_n (m (34 + md))
  unfold sp_bod
  by_cases c : (0 ≤ md ∧ md < m 10) ∧ 0 ≤ act ∧ act ≤ 2
  · rw [xa_li_t c]
    split
    · omega
    · split <;> omega
  · rw [xa_li_f c]
    exact Nat.zero_le _
theorem q_M_act {lev : Nat} {h : xq_H} {Q : Option xq_V → xq_H → Prop} {md act x : Int} (hl : 9 ≤ lev) (hV : xf_VM (h 65)) (hQ : ∀ h', xs_eq [64, 79] h h' → (∀ k : Int, ¬ (27 ≤ k ∧ k ≤ 30) → h' 64 k = h 64 k) → h' 64 27 = (sp_bod (h 65) md act).length → h' 79 = xf_wb (h 79) 0 (sp_bod (h 65) md act) → Q (some (xI (sp_act (h 65) md act x))) h') : xq_met lev y_M_act [xR 64, xI md, xI act, xI x] 81 h Q := by
  refine en_M_act (by omega) (fun K hK => ?_)
  have V3 := hV.2.2.1
  unfold sp_act sp_bod at hQ
  obtain ⟨h0, hh0⟩ : ∃ h0, h0 = xq_u h 64 27 0 := ⟨_, rfl⟩
  have b65 : h0 65 = h 65 := by rw [hh0]; exact xq_u_o (by decide)
  have bad : ¬ ((0 ≤ md ∧ md < h 65 10) ∧ 0 ≤ act ∧ act ≤ 2) → Q (some (xI 0)) h0 := by
    intro c
    rw [xf_if_f c, xa_li_f c] at hQ
    rw [hh0]
    exact hQ _ (xs_u xs_rf (by decide) _ _) (fun k hk => xu_ne (by omega)) (by rw [xu_eq]; rfl) (by rw [xq_u_o (by decide)]; rfl)
  have tail : K 3 [some (xR 64), some (xI md), some (xI act), some (xI x)] [] 81 h0 := by
    refine xq_go hK [33] 80 ?_
    refine ⟨lev - 1, by omega, c_M_isMender (by omega) (by rw [b65]; exact V3) (fun c => ?_) (fun c => ?_)⟩
    · rw [b65] at c
      refine And.intro (fun z => absurd z (by decide)) (fun _ => ?_)
      refine ⟨lev - 1, by omega, c_M_in (by omega) (fun c2 => ?_) (fun c2 => ?_)⟩
      · refine And.intro (fun _ => ?_) (fun z => absurd z (by decide))
        rw [xf_if_t ⟨c, c2⟩, xa_li_t ⟨c, c2⟩] at hQ
        have w := (hV.2.2.2.1 md c.1 c.2).1
        refine And.intro (by omega) ?_
        refine And.intro (by omega) ?_
        refine And.intro (by omega) ?_
        refine And.intro (by omega) ?_
        rw [b65]
        have b65u : ∀ a b c d : Int, xq_u (xq_u h0 64 a b) 64 c d 65 = h 65 := fun a b c d => by rw [xq_u_o (by decide), xq_u_o (by decide)]; exact b65
        obtain ⟨h1, hh1⟩ : ∃ h1, h1 = xq_u (xq_u (xq_u h0 64 28 (h 65 (34 + md))) 64 29 md) 64 30 (xq_u (xq_u h0 64 28 (h 65 (34 + md))) 64 29 md 65 (39 + md)) := ⟨_, rfl⟩
        have f27 : h1 64 27 = 0 := by rw [hh1, xu_ne (by decide), xu_ne (by decide), xu_ne (by decide), hh0, xu_eq]
        have f28 : h1 64 28 = h 65 (34 + md) := by rw [hh1, xu_ne (by decide), xu_ne (by decide), xu_eq]
        have f29 : h1 64 29 = md := by rw [hh1, xu_ne (by decide), xu_eq]
        have f30 : h1 64 30 = h 65 (39 + md) := by rw [hh1, xu_eq, b65u]
        have f79 : h1 79 = h 79 := by rw [hh1, xq_u_o (by decide), xq_u_o (by decide), xq_u_o (by decide), hh0, xq_u_o (by decide)]
        have fs : xs_eq [64, 79] h h1 := by
          rw [hh1, hh0]
          exact xs_u (xs_u (xs_u (xs_u xs_rf (by decide) _ _) (by decide) _ _) (by decide) _ _) (by decide) _ _
        have fk : ∀ k : Int, ¬ (27 ≤ k ∧ k ≤ 30) → h1 64 k = h 64 k := fun k hk => by rw [hh1, xu_ne (by omega), xu_ne (by omega), xu_ne (by omega), hh0, xu_ne (by omega)]
        have fin : ∀ (l : List Int) (h2 : xq_H), xa_r h1 h2 l → xs_eq [64, 79] h h2 ∧ (∀ k : Int, ¬ (27 ≤ k ∧ k ≤ 30) → h2 64 k = h 64 k) ∧ h2 64 27 = l.length ∧ h2 79 = xf_wb (h 79) 0 l := by
          intro l h2 a
          refine ⟨xs_tr fs a.1 (fun _ z => z) (fun _ z => z), fun k hk => (a.2.1 k (by omega)).trans (fk k hk), ?_, ?_⟩
          · rw [a.2.2.1, f27]
            omega
          · rw [a.2.2.2, f27, f79]
        have sw : K 33 [some (xR 64), some (xI md), some (xI act), some (xI x)] [] 81 h1 := by
          refine xq_go hK [] 80 ?_
          refine And.intro (fun e => ?_) (fun e => ?_)
          · rw [if_neg e, if_neg e] at hQ
            refine And.intro (fun e2 => ?_) (fun e2 => ?_)
            · rw [if_neg e2, if_neg e2] at hQ
              refine ⟨lev - 1, by omega, c_M_tellsActs (by omega) (by omega) (by omega) (fun h2 a2 => ?_)⟩
              rw [f28] at a2
              obtain ⟨g1, g2, g3, g4⟩ := fin _ h2 a2
              rw [f28, f29, f30]
              exact hQ h2 g1 g2 g3 g4
            · rw [if_pos e2, if_pos e2] at hQ
              refine ⟨lev - 1, by omega, c_M_leavesActs (by omega) (by omega) (by omega) (fun h2 a2 => ?_)⟩
              rw [f28] at a2
              obtain ⟨g1, g2, g3, g4⟩ := fin _ h2 a2
              rw [f28, f29, f30]
              exact hQ h2 g1 g2 g3 g4
          · rw [if_pos e, if_pos e] at hQ
            refine ⟨lev - 1, by omega, c_M_mendsActs (by omega) (by omega) (by omega) (fun h2 a2 => ?_)⟩
            rw [f28] at a2
            obtain ⟨g1, g2, g3, g4⟩ := fin _ h2 a2
            rw [f28, f29]
            exact hQ h2 g1 g2 g3 g4
        rw [hh1] at sw
        exact sw
      · exact And.intro (fun z => absurd rfl z) (fun _ => bad (fun z => c2 z.2))
    · rw [b65] at c
      exact And.intro (fun _ => bad (fun z => c z.1)) (fun z => absurd rfl z)
  refine xq_go hK [3] 80 ?_
  rw [hh0] at tail
  exact tail
/-! the class -/
def xa_c (h h' : xq_H) (l : List Int) : Prop := xs_eq [60, 61] h h' ∧ (∀ k : Int, k ≠ 1 → h' 60 k = h 60 k) ∧ h' 60 1 = h 60 1 + l.length ∧ h' 61 = xf_wb (h 61) (h 60 1) l
theorem xa_c_tr {h h1 h2 : xq_H} {l1 l2 : List Int} (a : xa_c h h1 l1) (b : xa_c h1 h2 l2) : xa_c h h2 (l1 ++ l2) := by
  refine ⟨xs_tr a.1 b.1 (fun _ z => z) (fun _ z => z), fun k hk => (b.2.1 k hk).trans (a.2.1 k hk), ?_, ?_⟩
  · rw [b.2.2.1, a.2.2.1, List.length_append]
    omega
  · rw [b.2.2.2, a.2.2.2, a.2.2.1, xf_wb_app]
def xa_hd (from0 act : Int) : Int := if act = 0 then (if from0 = 1 ∨ from0 = 4 then 1 else if from0 = 5 then 5 else 0) else if act = 1 then (if from0 = 2 ∨ from0 = 5 then 2 else if from0 = 6 then 6 else 0) else (if from0 = 3 ∨ from0 = 6 then 3 else if from0 = 4 then 4 else 0)
theorem c_A_holderOf {lev : Nat} {h : xq_H} {Q : Option xq_V → xq_H → Prop} {from0 act : Int} (hl : 1 ≤ lev) (hf : 0 ≤ from0 ∧ from0 ≤ 6) (ha : 0 ≤ act ∧ act ≤ 2) (hQ : Q (some (xI (xa_hd from0 act))) h) : xq_met lev y_A_holderOf [xI from0, xI act] 81 h Q := by
  refine en_A_holderOf (by omega) (fun K hK => ?_)
  refine xq_go hK [] 120 ?_
  obtain ⟨hf1, hf2⟩ := hf
  obtain ⟨ha1, ha2⟩ := ha
  rcases (show from0 = 0 ∨ from0 = 1 ∨ from0 = 2 ∨ from0 = 3 ∨ from0 = 4 ∨ from0 = 5 ∨ from0 = 6 by omega) with rfl | rfl | rfl | rfl | rfl | rfl | rfl <;>
  rcases (show act = 0 ∨ act = 1 ∨ act = 2 by omega) with rfl | rfl | rfl <;>
  (repeat (first | exact hQ | (refine And.intro (by decide) ?_) | (refine And.intro (fun c => absurd c (by decide)) (fun _ => ?_)) | (refine And.intro (fun _ => ?_) (fun c => absurd c (by decide)))))
theorem c_A_begin {lev : Nat} {h : xq_H} {Q : Option xq_V → xq_H → Prop} {b : Int} (hl : 1 ≤ lev) (hr : 0 ≤ h 60 1 ∧ h 60 1 ≤ 19) (hQ : ∀ h', xa_c h h' [b] → Q none h') : xq_met lev y_A_begin [xR 60, xI b] 81 h Q := by
  refine en_A_begin (by omega) (fun K hK => ?_)
  refine xq_go hK [] 60 ?_
  refine And.intro (fun c => absurd c (by omega)) (fun _ => ?_)
  refine And.intro (fun c => absurd c (by omega)) (fun _ => ?_)
  refine And.intro (by omega) ?_
  have e1 : xq_u h 61 (h 60 1) b 60 1 = h 60 1 := rfl
  refine And.intro (by omega) ?_
  refine hQ _ ⟨xs_u (xs_u xs_rf (by decide) _ _) (by decide) _ _, fun k hk => by rw [xu_ne hk]; rfl, by rw [xu_eq, e1]; rfl, ?_⟩
  rw [xq_u_o (by decide), xq_u_up]
  rfl
def xa_ab (hd : Int) : Int := if hd = 0 then -1 else if hd ≤ 3 then 0 else hd - 3
def xa_bd (hd act : Int) : Int := if hd = 0 then act + 1 else if hd = 1 then 11 else if hd = 2 then 21 else if hd = 3 then 31 else if hd = 4 then 41 else if hd = 5 then 51 else 61
/-- as far as the switch -/
theorem c_A_run {lev : Nat} {h : xq_H} {Q : Option xq_V → xq_H → Prop} {from0 act x d : Int} (hl : 2 ≤ lev) (hf : 0 ≤ from0 ∧ from0 ≤ 6) (ha : 0 ≤ act ∧ act ≤ 2) (hr : 0 ≤ h 60 1 ∧ h 60 1 ≤ 19) (hd : 0 ≤ d ∧ d ≤ 20)
    (body : ∀ K : xq_KT, xq_sound (xq_C lev) rw_A_run 81 Q K → ∀ h1, xa_c h h1 [xa_bd (xa_hd from0 act) act] → K 26 [some (xR 60), some (xI from0), some (xI act), some (xI x), some (xI d), some (xI (xa_hd from0 act)), some (xI (xa_ab (xa_hd from0 act))), some (xI (xa_bd (xa_hd from0 act) act)), none] [] 81 h1) : xq_met lev y_A_run [xR 60, xI from0, xI act, xI x, xI d] 81 h Q := by
  refine en_A_run (by omega) (fun K hK => ?_)
  have bd := body K hK
  refine xq_go hK [26] 80 ?_
  refine ⟨lev - 1, by omega, c_A_holderOf (by omega) hf ha ?_⟩
  obtain ⟨hf1, hf2⟩ := hf
  obtain ⟨ha1, ha2⟩ := ha
  have hdd : ¬ (20 < d) := by omega
  clear body
  rcases (show from0 = 0 ∨ from0 = 1 ∨ from0 = 2 ∨ from0 = 3 ∨ from0 = 4 ∨ from0 = 5 ∨ from0 = 6 by omega) with rfl | rfl | rfl | rfl | rfl | rfl | rfl <;>
  rcases (show act = 0 ∨ act = 1 ∨ act = 2 by omega) with rfl | rfl | rfl
  all_goals
    refine And.intro (fun c => absurd c (by decide)) (fun _ => ?_)
    refine And.intro (fun _ => ?_) (fun c => absurd c hdd)
    refine And.intro (by decide) ?_
    refine And.intro (by decide) ?_
    exact ⟨lev - 1, by omega, c_A_begin (by omega) hr bd⟩
