/-! ACTS, the class -/
theorem c_A_R1 {lev : Nat} {h : xq_H} {Q : Option xq_V → xq_H → Prop} {from0 x d : Int} (hl : 3 ≤ lev) (hf : 0 ≤ from0 ∧ from0 ≤ 6) (hh : xa_hd from0 0 = 0) (hr : 0 ≤ h 60 1 ∧ h 60 1 ≤ 19) (hd : 0 ≤ d ∧ d ≤ 15)
    (hQ : ∀ h', xa_c h h' [1] → Q (some (xI (xq_wr (x + h 60 2)))) h') : xq_met lev y_A_run [xR 60, xI from0, xI 0, xI x, xI d] 81 h Q := by
  refine c_A_run (by omega) hf (by omega) hr (by omega) (fun K hK h1 a1 => ?_)
  rw [hh] at a1 ⊢
  refine xq_go hK [] 60 ?_
  refine And.intro (fun _ => ?_) (fun c => absurd c (by decide))
  have q := hQ h1 a1
  rw [← a1.2.1 2 (by decide)] at q
  exact q
theorem c_A_mends {lev : Nat} {h : xq_H} {Q : Option xq_V → xq_H → Prop} {kd x d : Int} (hl : 4 ≤ lev) (hk : 0 ≤ kd ∧ kd ≤ 6) (hr : 0 ≤ h 60 1 ∧ h 60 1 ≤ 18) (hd : 0 ≤ d ∧ d ≤ 14)
    (hQ : ∀ h', xa_c h h' (xa_bM kd) → Q (some (xI (xa_M kd (h 60 2) x))) h') : xq_met lev y_A_run [xR 60, xI kd, xI 0, xI x, xI d] 81 h Q := by
  unfold xa_bM xa_M at hQ
  by_cases c : xf_un kd 1
  · rw [xf_if_t c, xa_li_t c] at hQ
    have hh : xa_hd kd 0 = 1 := by
      unfold xf_un at c
      rcases (show kd = 1 ∨ kd = 4 by omega) with rfl | rfl <;> decide
    refine c_A_run (by omega) hk (by omega) (by omega) (by omega) (fun K hK h1 a1 => ?_)
    rw [hh] at a1 ⊢
    have r1 := a1.2.2.1
    simp only [List.length_cons, List.length_nil] at r1
    refine xq_go hK [] 60 ?_
    (repeat (first | (refine And.intro (fun c => absurd c (by decide)) (fun _ => ?_)) | (refine And.intro (fun _ => ?_) (fun c => absurd c (by decide)))))
    have ed : xq_wr (d + 1) = d + 1 := by unfold xq_wr; omega
    refine ⟨lev - 1, by omega, c_A_R1 (by omega) (by decide) (by decide) (by omega) (by omega) (fun h2 a2 => ?_)⟩
    have q := hQ h2 (xa_c_tr a1 a2)
    rw [← a1.2.1 2 (by decide)] at q
    exact q
  · rw [xf_if_f c, xa_li_f c] at hQ
    by_cases c2 : kd = 5
    · rw [if_pos c2, if_pos c2] at hQ
      subst c2
      refine c_A_run (by omega) hk (by omega) (by omega) (by omega) (fun K hK h1 a1 => ?_)
      have r1 := a1.2.2.1
      simp only [List.length_cons, List.length_nil] at r1
      refine xq_go hK [] 60 ?_
      (repeat (first | (refine And.intro (fun c => absurd c (by decide)) (fun _ => ?_)) | (refine And.intro (fun _ => ?_) (fun c => absurd c (by decide)))))
      have ed : xq_wr (d + 1) = d + 1 := by unfold xq_wr; omega
      refine ⟨lev - 1, by omega, c_A_R1 (by omega) (by decide) (by decide) (by omega) (by omega) (fun h2 a2 => ?_)⟩
      have q := hQ h2 (xa_c_tr a1 a2)
      have e2 := a2.2.1 2 (by decide)
      rw [← a1.2.1 2 (by decide)] at q
      rw [show xq_xor (xq_wr (x + h1 60 2)) (h1 60 2) = xq_xor (xq_wr (x + h1 60 2)) (h2 60 2) by rw [e2]] at q
      exact q
    · rw [if_neg c2, if_neg c2] at hQ
      have hh : xa_hd kd 0 = 0 := by
        unfold xf_un at c
        rcases (show kd = 0 ∨ kd = 2 ∨ kd = 3 ∨ kd = 6 by omega) with rfl | rfl | rfl | rfl <;> decide
      exact c_A_R1 (by omega) hk hh (by omega) (by omega) hQ
theorem c_A_PL {lev : Nat} {h : xq_H} {Q : Option xq_V → xq_H → Prop} {from0 x d : Int} (hl : 5 ≤ lev) (hf : 0 ≤ from0 ∧ from0 ≤ 6) (hh : xa_hd from0 1 = 0) (hk : 0 ≤ h 60 3 ∧ h 60 3 ≤ 6) (hr : 0 ≤ h 60 1 ∧ h 60 1 ≤ 17) (hd : 0 ≤ d ∧ d ≤ 13)
    (hQ : ∀ h', xa_c h h' (xa_bPL (h 60 3)) → Q (some (xI (xa_PL (h 60 3) (h 60 2) (h 60 4) x))) h') : xq_met lev y_A_run [xR 60, xI from0, xI 1, xI x, xI d] 81 h Q := by
  refine c_A_run (by omega) hf (by omega) (by omega) (by omega) (fun K hK h1 a1 => ?_)
  rw [hh] at a1 ⊢
  have r1 := a1.2.2.1
  simp only [List.length_cons, List.length_nil] at r1
  have e2 := a1.2.1 2 (by decide)
  have e3 := a1.2.1 3 (by decide)
  refine xq_go hK [] 60 ?_
  (repeat (first | (refine And.intro (fun c => absurd c (by decide)) (fun _ => ?_)) | (refine And.intro (fun _ => ?_) (fun c => absurd c (by decide)))))
  have ed : xq_wr (d + 1) = d + 1 := by unfold xq_wr; omega
  refine ⟨lev - 1, by omega, c_A_mends (by omega) (by omega) (by omega) (by omega) (fun h2 a2 => ?_)⟩
  have e4 : h2 60 4 = h 60 4 := (a2.2.1 4 (by decide)).trans (a1.2.1 4 (by decide))
  rw [e3] at a2
  have q := hQ h2 (xa_c_tr a1 a2)
  unfold xa_PL at q
  rw [← e3, ← e2, ← e4] at q
  exact q
theorem c_A_leaves {lev : Nat} {h : xq_H} {Q : Option xq_V → xq_H → Prop} {kd x d : Int} (hl : 6 ≤ lev) (e : kd = h 60 3) (hk : 0 ≤ kd ∧ kd ≤ 6) (hr : 0 ≤ h 60 1 ∧ h 60 1 ≤ 16) (hd : 0 ≤ d ∧ d ≤ 12)
    (hQ : ∀ h', xa_c h h' (xa_bL kd) → Q (some (xI (xa_L kd (h 60 2) (h 60 4) x))) h') : xq_met lev y_A_run [xR 60, xI kd, xI 1, xI x, xI d] 81 h Q := by
  unfold xa_bL xa_L at hQ
  by_cases c : xf_un kd 2
  · rw [xf_if_t c, xa_li_t c] at hQ
    have hh : xa_hd kd 1 = 2 := by
      unfold xf_un at c
      rcases (show kd = 2 ∨ kd = 5 by omega) with rfl | rfl <;> decide
    refine c_A_run (by omega) hk (by omega) (by omega) (by omega) (fun K hK h1 a1 => ?_)
    rw [hh] at a1 ⊢
    have r1 := a1.2.2.1
    simp only [List.length_cons, List.length_nil] at r1
    have e2 := a1.2.1 2 (by decide)
    have e3 := a1.2.1 3 (by decide)
    have e4 := a1.2.1 4 (by decide)
    refine xq_go hK [] 60 ?_
    (repeat (first | (refine And.intro (fun c => absurd c (by decide)) (fun _ => ?_)) | (refine And.intro (fun _ => ?_) (fun c => absurd c (by decide)))))
    have ed : xq_wr (d + 1) = d + 1 := by unfold xq_wr; omega
    refine ⟨lev - 1, by omega, c_A_PL (by omega) (by decide) (by decide) (by omega) (by omega) (by omega) (fun h2 a2 => ?_)⟩
    rw [e3, ← e] at a2
    have q := hQ h2 (xa_c_tr a1 a2)
    rw [e2, e3, e4, ← e]
    exact q
  · rw [xf_if_f c, xa_li_f c] at hQ
    by_cases c2 : kd = 6
    · rw [if_pos c2, if_pos c2] at hQ
      subst c2
      refine c_A_run (by omega) hk (by omega) (by omega) (by omega) (fun K hK h1 a1 => ?_)
      have r1 := a1.2.2.1
      simp only [List.length_cons, List.length_nil] at r1
      have e2 := a1.2.1 2 (by decide)
      have e3 := a1.2.1 3 (by decide)
      have e4 := a1.2.1 4 (by decide)
      refine xq_go hK [] 60 ?_
      (repeat (first | (refine And.intro (fun c => absurd c (by decide)) (fun _ => ?_)) | (refine And.intro (fun _ => ?_) (fun c => absurd c (by decide)))))
      have ed : xq_wr (d + 1) = d + 1 := by unfold xq_wr; omega
      refine ⟨lev - 1, by omega, c_A_PL (by omega) (by decide) (by decide) (by omega) (by omega) (by omega) (fun h2 a2 => ?_)⟩
      have e42 : h2 60 4 = h 60 4 := (a2.2.1 4 (by decide)).trans e4
      rw [e3, ← e] at a2
      have q := hQ h2 (xa_c_tr a1 a2)
      rw [e2, e3, e4, ← e]
      rw [show xa_PL 6 (h 60 2) (h 60 4) x + h 60 4 = xa_PL 6 (h 60 2) (h 60 4) x + h2 60 4 by rw [e42]] at q
      exact q
    · rw [if_neg c2, if_neg c2] at hQ
      have hh : xa_hd kd 1 = 0 := by
        unfold xf_un at c
        rcases (show kd = 0 ∨ kd = 1 ∨ kd = 3 ∨ kd = 4 by omega) with rfl | rfl | rfl | rfl <;> decide
      rw [e] at hQ
      exact c_A_PL (by omega) hk hh (by omega) (by omega) (by omega) hQ
theorem c_A_PT {lev : Nat} {h : xq_H} {Q : Option xq_V → xq_H → Prop} {from0 x d : Int} (hl : 7 ≤ lev) (hf : 0 ≤ from0 ∧ from0 ≤ 6) (hh : xa_hd from0 2 = 0) (hk : 0 ≤ h 60 3 ∧ h 60 3 ≤ 6) (hr : 0 ≤ h 60 1 ∧ h 60 1 ≤ 15) (hd : 0 ≤ d ∧ d ≤ 11)
    (hQ : ∀ h', xa_c h h' (xa_bPT (h 60 3)) → Q (some (xI (xa_PT (h 60 3) (h 60 2) (h 60 4) x))) h') : xq_met lev y_A_run [xR 60, xI from0, xI 2, xI x, xI d] 81 h Q := by
  refine c_A_run (by omega) hf (by omega) (by omega) (by omega) (fun K hK h1 a1 => ?_)
  rw [hh] at a1 ⊢
  have r1 := a1.2.2.1
  simp only [List.length_cons, List.length_nil] at r1
  have e2 := a1.2.1 2 (by decide)
  have e3 := a1.2.1 3 (by decide)
  have e4 := a1.2.1 4 (by decide)
  refine xq_go hK [] 60 ?_
  (repeat (first | (refine And.intro (fun c => absurd c (by decide)) (fun _ => ?_)) | (refine And.intro (fun _ => ?_) (fun c => absurd c (by decide)))))
  have ed : xq_wr (d + 1) = d + 1 := by unfold xq_wr; omega
  refine ⟨lev - 1, by omega, c_A_leaves (by omega) rfl (by omega) (by omega) (by omega) (fun h2 a2 => ?_)⟩
  rw [e3] at a2
  have q := hQ h2 (xa_c_tr a1 a2)
  rw [e2, e3, e4]
  exact q
theorem c_A_tells {lev : Nat} {h : xq_H} {Q : Option xq_V → xq_H → Prop} {kd x d : Int} (hl : 8 ≤ lev) (e : kd = h 60 3) (hk : 0 ≤ kd ∧ kd ≤ 6) (hr : 0 ≤ h 60 1 ∧ h 60 1 ≤ 10) (hd : 0 ≤ d ∧ d ≤ 10)
    (hQ : ∀ h', xa_c h h' (xa_bT kd) → Q (some (xI (xa_T kd (h 60 2) (h 60 4) x))) h') : xq_met lev y_A_run [xR 60, xI kd, xI 2, xI x, xI d] 81 h Q := by
  unfold xa_bT xa_T at hQ
  by_cases c : xf_un kd 3
  · rw [xf_if_t c, xa_li_t c] at hQ
    have hh : xa_hd kd 2 = 3 := by
      unfold xf_un at c
      rcases (show kd = 3 ∨ kd = 6 by omega) with rfl | rfl <;> decide
    refine c_A_run (by omega) hk (by omega) (by omega) (by omega) (fun K hK h1 a1 => ?_)
    rw [hh] at a1 ⊢
    have r1 := a1.2.2.1
    simp only [List.length_cons, List.length_nil] at r1
    have e2 := a1.2.1 2 (by decide)
    have e3 := a1.2.1 3 (by decide)
    have e4 := a1.2.1 4 (by decide)
    refine xq_go hK [] 60 ?_
    (repeat (first | (refine And.intro (fun c => absurd c (by decide)) (fun _ => ?_)) | (refine And.intro (fun _ => ?_) (fun c => absurd c (by decide)))))
    have ed : xq_wr (d + 1) = d + 1 := by unfold xq_wr; omega
    refine ⟨lev - 1, by omega, c_A_PT (by omega) (by decide) (by decide) (by omega) (by omega) (by omega) (fun h2 a2 => ?_)⟩
    rw [e3, ← e] at a2
    have q := hQ h2 (xa_c_tr a1 a2)
    rw [e2, e3, e4, ← e]
    exact q
  · rw [xf_if_f c, xa_li_f c] at hQ
    by_cases c2 : kd = 4
    · rw [if_pos c2, if_pos c2] at hQ
      subst c2
      refine c_A_run (by omega) hk (by omega) (by omega) (by omega) (fun K hK h1 a1 => ?_)
      have r1 := a1.2.2.1
      simp only [List.length_cons, List.length_nil] at r1
      have e2 := a1.2.1 2 (by decide)
      have e3 := a1.2.1 3 (by decide)
      have e4 := a1.2.1 4 (by decide)
      refine xq_go hK [] 60 ?_
      (repeat (first | (refine And.intro (fun c => absurd c (by decide)) (fun _ => ?_)) | (refine And.intro (fun _ => ?_) (fun c => absurd c (by decide)))))
      have ed : xq_wr (d + 1) = d + 1 := by unfold xq_wr; omega
      refine ⟨lev - 1, by omega, c_A_PT (by omega) (by decide) (by decide) (by omega) (by omega) (by omega) (fun h2 a2 => ?_)⟩
      rw [e3, ← e] at a2
      have e22 : h2 60 2 = h 60 2 := (a2.2.1 2 (by decide)).trans e2
      have e32 : h2 60 3 = 4 := ((a2.2.1 3 (by decide)).trans e3).trans e.symm
      have r2 := a2.2.2.1
      have n1 := xa_bL_n 4
      unfold xa_bPT at r2
      simp only [List.length_cons] at r2
      have ed : xq_wr (d + 1) = d + 1 := by unfold xq_wr; omega
      refine ⟨lev - 1, by omega, c_A_mends (by omega) (by omega) (by omega) (by omega) (fun h3 a3 => ?_)⟩
      rw [e32] at a3
      have q := hQ h3 (xa_c_tr a1 (xa_c_tr a2 a3))
      rw [e2, e3, e4, ← e, e22, e32]
      exact q
    · rw [if_neg c2, if_neg c2] at hQ
      have hh : xa_hd kd 2 = 0 := by
        unfold xf_un at c
        rcases (show kd = 0 ∨ kd = 1 ∨ kd = 2 ∨ kd = 5 by omega) with rfl | rfl | rfl | rfl <;> decide
      rw [e] at hQ
      exact c_A_PT (by omega) hk hh (by omega) (by omega) (by omega) hQ
theorem c_A_start {lev : Nat} {h : xq_H} {Q : Option xq_V → xq_H → Prop} {md kd v act x : Int} (hl : 9 ≤ lev) (hk : 0 ≤ kd ∧ kd ≤ 6) (ha : 0 ≤ act ∧ act ≤ 2) (hr : h 60 1 = 0)
    (hQ : ∀ h' l, xs_eq [60, 61] h h' → h' 60 1 = (l : List Int).length → h' 61 = xf_wb (h 61) 0 l → l = (if act = 0 then xa_bM kd else if act = 1 then xa_bL kd else xa_bT kd) → Q (some (xI (if act = 0 then xa_M kd md x else if act = 1 then xa_L kd md v x else xa_T kd md v x))) h') : xq_met lev y_A_start [xR 60, xI md, xI kd, xI v, xI act, xI x] 81 h Q := by
  refine en_A_start (by omega) (fun K hK => ?_)
  obtain ⟨h1, hh1⟩ : ∃ h1, h1 = xq_u (xq_u (xq_u h 60 2 md) 60 3 kd) 60 4 v := ⟨_, rfl⟩
  have f1 : h1 60 1 = 0 := by rw [hh1, xu_ne (by decide), xu_ne (by decide), xu_ne (by decide)]; exact hr
  have f2 : h1 60 2 = md := by rw [hh1, xu_ne (by decide), xu_ne (by decide), xu_eq]
  have f3 : h1 60 3 = kd := by rw [hh1, xu_ne (by decide), xu_eq]
  have f4 : h1 60 4 = v := by rw [hh1, xu_eq]
  have f61 : h1 61 = h 61 := by rw [hh1, xq_u_o (by decide), xq_u_o (by decide), xq_u_o (by decide)]
  have fs : xs_eq [60, 61] h h1 := by
    rw [hh1]
    exact xs_u (xs_u (xs_u xs_rf (by decide) _ _) (by decide) _ _) (by decide) _ _
  have tail : K 9 [some (xR 60), some (xI md), some (xI kd), some (xI v), some (xI act), some (xI x)] [] 81 h1 := by
    refine xq_go hK [] 60 ?_
    have fin : ∀ (l : List Int) (h2 : xq_H), xa_c h1 h2 l → xs_eq [60, 61] h h2 ∧ h2 60 1 = l.length ∧ h2 61 = xf_wb (h 61) 0 l := by
      intro l h2 a
      refine ⟨xs_tr fs a.1 (fun _ z => z) (fun _ z => z), ?_, ?_⟩
      · rw [a.2.2.1, f1]
        omega
      · rw [a.2.2.2, f1, f61]
    rcases (show act = 0 ∨ act = 1 ∨ act = 2 by omega) with rfl | rfl | rfl
    · refine ⟨lev - 1, by omega, c_A_mends (by omega) (by omega) (by omega) (by omega) (fun h2 a2 => ?_)⟩
      rw [f3] at a2
      obtain ⟨g1, g2, g3⟩ := fin _ h2 a2
      rw [f3, f2]
      exact hQ h2 _ g1 g2 g3 rfl
    · refine ⟨lev - 1, by omega, c_A_leaves (by omega) rfl (by omega) (by omega) (by omega) (fun h2 a2 => ?_)⟩
      rw [f3] at a2
      obtain ⟨g1, g2, g3⟩ := fin _ h2 a2
      rw [f3, f2, f4]
      exact hQ h2 _ g1 g2 g3 rfl
    · refine ⟨lev - 1, by omega, c_A_tells (by omega) rfl (by omega) (by omega) (by omega) (fun h2 a2 => ?_)⟩
      rw [f3] at a2
      obtain ⟨g1, g2, g3⟩ := fin _ h2 a2
      rw [f3, f2, f4]
      exact hQ h2 _ g1 g2 g3 rfl
  refine xq_go hK [9] 60 ?_
  rw [hh1] at tail
  exact tail
theorem c_A_forget {lev : Nat} {h : xq_H} {Q : Option xq_V → xq_H → Prop} (hl : 1 ≤ lev) (hQ : Q none (xq_u h 60 1 0)) : xq_met lev y_A_forget [xR 60] 81 h Q := by
  refine en_A_forget (by omega) (fun K hK => ?_)
  refine xq_go hK [] 60 ?_
  exact hQ
theorem q_X_act {lev : Nat} {h : xq_H} {Q : Option xq_V → xq_H → Prop} {m : Int → Int} {P : List xf_Cl} {md act x : Int} {T : Int} (hl : 10 ≤ lev) (I : xr_ok h m P T) (hQ : ∀ h', xs_eq [60, 61] h h' → h' 60 1 = (sp_bod m md act).length → h' 61 = xf_wb (h 61) 0 (sp_bod m md act) → Q (some (xI (sp_act m md act x))) h') : xq_met lev y_X_act [xR 0, xI md, xI act, xI x] 81 h Q := by
  refine en_X_act (by omega) (fun K hK => ?_)
  have V3 := I.vm.2.2.1
  unfold sp_act sp_bod at hQ
  refine xq_go hK [] 60 ?_
  refine ⟨lev - 1, by omega, c_A_forget (by omega) ?_⟩
  obtain ⟨h0, hh0⟩ : ∃ h0, h0 = xq_u h 60 1 0 := ⟨_, rfl⟩
  have fs : xs_eq [60, 61] h h0 := by rw [hh0]; exact xs_u xs_rf (by decide) _ _
  have N0 := xr_now_fr fs (by decide) I.now
  have f1 : h0 60 1 = 0 := by rw [hh0, xu_eq]
  have f61 : h0 61 = h 61 := by rw [hh0]; exact xq_u_o (by decide)
  have ecs := N0.bs.cs
  rw [← hh0]
  have bad : ¬ ((0 ≤ md ∧ md < m 10) ∧ 0 ≤ act ∧ act ≤ 2) → Q (some (xI 0)) h0 := by
    intro c
    rw [xf_if_f c, xa_li_f c] at hQ
    exact hQ h0 fs f1 f61
  refine ⟨lev - 1, by omega, c_C_has (by omega) (fun c => ?_) (fun c => ?_)⟩
  · rw [ecs] at c
    refine And.intro (fun z => absurd z (by decide)) (fun _ => ?_)
    refine And.intro (fun c2 => bad (by omega)) (fun c2 => And.intro (fun c3 => ?_) (fun c3 => bad (by omega)))
    have g : (0 ≤ md ∧ md < m 10) ∧ 0 ≤ act ∧ act ≤ 2 := ⟨c, by omega, by omega⟩
    rw [xf_if_t g, xa_li_t g] at hQ
    have w := (I.vm.2.2.2.1 md c.1 c.2).1
    refine And.intro (by omega) ?_
    refine And.intro (by omega) ?_
    rw [N0.bs.kd md c.1 c.2, N0.bs.vs md c.1 c.2]
    refine ⟨lev - 1, by omega, c_A_start (by omega) w g.2 f1 (fun h2 l s2 b1 b2 el => ?_)⟩
    rw [el] at b1 b2
    rw [f61] at b2
    exact hQ h2 (xs_tr fs s2 (fun _ z => z) (fun _ z => z)) b1 b2
  · rw [ecs] at c
    exact And.intro (fun _ => bad (fun z => c z.1)) (fun z => absurd rfl z)
