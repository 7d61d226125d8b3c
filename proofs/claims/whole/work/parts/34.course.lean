/-! WHICH WEIGHT WOULD DO -/
def xf_w (m : Int → Int) (i n : Int) : Int → Int := fun k => if k = 2 + i then n else m k
theorem xf_w_hi {m : Int → Int} {i n : Int} (hi : 0 ≤ i ∧ i < 8) : xf_hi m (xf_w m i n) := fun k hk => by
  unfold xf_w
  rw [if_neg (by omega)]
theorem xf_w_VM {m : Int → Int} {i n : Int} (hV : xf_VM m) (hi : 0 ≤ i ∧ i < m 11) (hn : 0 ≤ n ∧ n ≤ 99) : xf_VM (xf_w m i n) := by
  have V1 := hV.1
  refine xf_hi_VM (xf_w_hi (by omega)) hV ?_ (fun k h0 h1 => ?_)
  · unfold xf_w
    rw [if_neg (by omega)]
    exact hV.2.2.2.2.2.1
  · unfold xf_w
    split
    · exact hn
    · exact (hV.2.1 k h0 h1).2.1
theorem xf_w_last {m : Int → Int} {i n : Int} (hi : 0 ≤ i ∧ i < 8) : xf_last (xf_w m i n) = xf_last m := by
  have e : xf_w m i n 0 = m 0 := by
    unfold xf_w
    rw [if_neg (by omega)]
  unfold xf_last
  rw [e, xf_hi_num (xf_w_hi hi)]
noncomputable def xf_en (m : Int → Int) (P : List xf_Cl) (md i : Int) (n : Nat) : Prop := xf_made (xf_w m i n) P md (m (18 + i)) = m (18 + i)
noncomputable def sp_enough (m : Int → Int) (P : List xf_Cl) (md i : Int) : Int := xf_if ((0 ≤ md ∧ md < m 10) ∧ 0 ≤ i ∧ i < m 11) (xf_find (xf_en m P md i) (-5) 100 0) (-1)
theorem q_X_enough {lev : Nat} {h : xq_H} {Q : Option xq_V → xq_H → Prop} {m : Int → Int} {P : List xf_Cl} {md i : Int} {T : Int} (hl : 9 ≤ lev) (I : xr_ok h m P T) (hQ : ∀ h', xr_ck h h' → Q (some (xI (sp_enough m P md i))) h') : xq_met lev y_X_enough [xR 0, xI md, xI i] 81 h Q := by
  refine en_X_enough (by omega) (fun K hK => ?_)
  have V1 := I.vm.1
  have ecs := I.now.bs.cs
  have els := I.now.bs.ls
  unfold sp_enough at hQ
  have bad : ¬ ((0 ≤ md ∧ md < m 10) ∧ 0 ≤ i ∧ i < m 11) → Q (some (xI (-1))) h := by
    intro c
    rw [xf_if_f c] at hQ
    exact hQ h xs_rf
  refine xq_go hK [19] 60 ?_
  refine ⟨lev - 1, by omega, c_C_has (by omega) (fun c => ?_) (fun c => ?_)⟩
  · rw [ecs] at c
    refine And.intro (fun z => absurd z (by decide)) (fun _ => ?_)
    refine ⟨lev - 1, by omega, c_W_has (by omega) (fun c2 => ?_) (fun c2 => ?_)⟩
    · rw [els] at c2
      refine And.intro (fun _ => ?_) (fun z => absurd z (by decide))
      rw [xf_if_t ⟨c, c2⟩] at hQ
      refine ⟨lev - 1, by omega, c_K_settle (by omega) I.vm I.now I.vn (fun h1 hs1 C1 => ?_)⟩
      have H := fun n => xf_w_hi (m := m) (i := i) (n := n) (by omega)
      have V7 := I.vm.2.2.2.2.2.2.1
      have loop : ∀ (d n : Nat) (nI v : Int) (h2 : xq_H), n + d = 100 → nI = n → xr_ck h h2 → xr_crs h2 (xf_w m i v) → (∀ h', xr_ck h h' → Q (some (xI (xf_find (xf_en m P md i) (-5) d n))) h') → K 19 [some (xR 0), some (xI md), some (xI i), some (xI nI)] [] 81 h2 := by
        intro d
        induction d with
        | zero =>
          intro n nI v h2 hd en hk C2 q
          refine xq_go hK [19] 60 ?_
          refine And.intro (fun _ => ?_) (fun c => absurd c (by omega))
          exact q h2 hk
        | succ d ih =>
          intro n nI v h2 hd en hk C2 q
          subst en
          rw [xf_find] at q
          have hV2 := xf_w_VM (n := (n : Int)) I.vm c2 (by omega)
          have hk3 : xr_ck h (xq_u h2 26 i n) := xs_u hk (by decide) _ _
          have B3 : xr_base (xq_u h2 26 i n) (xf_w m i n) P := xf_hi_base (H n) V7.1 (xr_base_fr hk3 (by decide) I.now.bs)
          have C3 : xr_crs (xq_u h2 26 i n) (xf_w m i n) := by
            refine ⟨fun k h0 h1 => ?_, ?_, ?_⟩
            · rw [H n 11 (by omega)] at h1
              have z := C2.wt k h0 (by rw [H v 11 (by omega)]; exact h1)
              unfold xf_w at z ⊢
              rw [xu_rd]
              by_cases e : k = i
              · rw [if_pos e, if_pos (by omega)]
              · rw [if_neg e, if_neg (by omega)]
                rw [if_neg (by omega)] at z
                exact z
            · rw [xq_u_o (by decide), C2.ty]
              unfold xf_w
              rw [if_neg (by omega), if_neg (by omega)]
            · rw [xq_u_o (by decide), C2.la, xf_w_last (by omega), xf_w_last (by omega)]
          have e18 : xf_w m i n (18 + i) = m (18 + i) := H n (18 + i) (by omega)
          refine xq_go hK [19] 60 ?_
          refine And.intro (fun c => absurd c (by omega)) (fun _ => ?_)
          refine And.intro (by omega) ?_
          refine ⟨lev - 1, by omega, c_X_staysOne (m := xf_w m i n) (by omega) hV2 B3 C3 (by rw [H n 10 (by omega)]; exact c) (by rw [H n 11 (by omega)]; exact c2) (fun h4 hk4 c3 => ?_) (fun h4 hk4 c3 => ?_)⟩
          · rw [e18] at c3
            rw [xf_if_t (show xf_en m P md i n from c3)] at q
            refine And.intro (fun z => absurd z (by decide)) (fun _ => ?_)
            exact q h4 (xr_ck_tr hk3 (xr_ck_kp hk4))
          · rw [e18] at c3
            rw [xf_if_f (show ¬ xf_en m P md i n from c3)] at q
            refine And.intro (fun _ => ?_) (fun z => absurd rfl z)
            refine And.intro (by omega) ?_
            exact ih (n + 1) _ n h4 (by omega) (by omega) (xr_ck_tr hk3 (xr_ck_kp hk4)) (xr_kp_C hk4 C3) q
      have e0 : xf_w m i (m (2 + i)) = m := by
        funext k
        unfold xf_w
        split
        · rename_i e
          rw [e]
        · rfl
      exact loop 100 0 _ (m (2 + i)) h1 (by omega) rfl (xr_ck_set hs1) (by rw [e0]; exact C1) hQ
    · rw [els] at c2
      exact And.intro (fun z => absurd rfl z) (fun _ => bad (fun z => c2 z.2))
  · rw [ecs] at c
    exact And.intro (fun _ => bad (fun z => c z.1)) (fun z => absurd rfl z)
/-- as xr_rk, but the row itself -/
def xr_r5 (h h' : xq_H) : Prop := xs_eq [65, 64, 67, 68, 69, 70, 71, 72, 73, 74, 75, 76, 77, 78] h h' ∧ ∀ k : Int, k < 19 ∨ 24 < k → h' 64 k = h 64 k
theorem xr_r5_k {h h' : xq_H} (a : xr_rk h h') : xr_r5 h h' := ⟨xs_tr xs_rf a.1 (X := []) (by decide) (by decide), a.2⟩
theorem xr_r5_tr {h h1 h2 : xq_H} (a : xr_r5 h h1) (b : xr_r5 h1 h2) : xr_r5 h h2 := ⟨xs_tr a.1 b.1 (fun _ z => z) (fun _ z => z), fun k hk => (b.2 k hk).trans (a.2 k hk)⟩
theorem xr_r5_u {h h' : xq_H} (a : xr_r5 h h') (k v : Int) : xr_r5 h (xq_u h' 65 k v) := ⟨xs_u a.1 (by decide) _ _, fun k2 hk2 => by
  rw [xq_u_o (by decide)]
  exact a.2 k2 hk2⟩
theorem xr_r5_s {X : List Nat} {h h' : xq_H} (a : xs_eq X h h') (hX : ∀ o ∈ X, o ∈ [65, 67, 68, 69, 70, 71, 72, 73, 74, 75, 76, 77, 78]) : xr_r5 h h' := ⟨xs_tr xs_rf a (X := []) (by decide) (fun o ho => by
  have := hX o ho
  simp only [List.mem_cons, List.not_mem_nil, or_false] at this ⊢
  omega), fun k _ => by rw [a 64 (fun z => absurd (hX 64 z) (by decide))]⟩
theorem xr_r5_rk {h h' : xq_H} (a : xr_r5 h h') (e : h' 65 = h 65) : xr_rk h h' := ⟨fun o ho => by
  by_cases c : o = 65
  · rw [c]; exact e
  · exact a.1 o (fun z => by
      simp only [List.mem_cons, List.not_mem_nil, or_false] at z ho
      omega), a.2⟩
set_option maxHeartbeats 1000000 in
theorem q_M_enough {lev : Nat} {h : xq_H} {Q : Option xq_V → xq_H → Prop} {P : List xf_Cl} {md i : Int} (hl : 9 ≤ lev) (hV : xf_VM (h 65)) (hP : xf_ph (h 65) P) (hQ : ∀ h', xr_rk h h' → Q (some (xI (sp_enough (h 65) P md i))) h') : xq_met lev y_M_enough [xR 64, xI md, xI i] 81 h Q := by
  refine en_M_enough (by omega) (fun K hK => ?_)
  have V1 := hV.1
  have V3 := hV.2.2.1
  unfold sp_enough at hQ
  have bad : ¬ ((0 ≤ md ∧ md < h 65 10) ∧ 0 ≤ i ∧ i < h 65 11) → Q (some (xI (-1))) h := by
    intro c
    rw [xf_if_f c] at hQ
    exact hQ h xr_rk_rf
  refine xq_go hK [21] 60 ?_
  refine ⟨lev - 1, by omega, c_M_isMender (by omega) V3 (fun c => ?_) (fun c => ?_)⟩
  · refine And.intro (fun z => absurd z (by decide)) (fun _ => ?_)
    refine ⟨lev - 1, by omega, c_M_isListed (by omega) V1 (fun c2 => ?_) (fun c2 => ?_)⟩
    · refine And.intro (fun _ => ?_) (fun z => absurd z (by decide))
      rw [xf_if_t ⟨c, c2⟩] at hQ
      refine And.intro (by omega) ?_
      refine And.intro (by omega) ?_
      have H := fun n => xf_w_hi (m := h 65) (i := i) (n := n) (by omega)
      have back : ∀ (f nI v : Int) (h2 : xq_H), xr_r5 h h2 → h2 65 = xf_w (h 65) i v → (∀ h', xr_rk h h' → Q (some (xI f)) h') → K 56 [some (xR 64), some (xI md), some (xI i), some (xI (h 65 (2 + i))), some (xI f), some (xI nI)] [] 81 h2 := by
        intro f nI v h2 hk e65 q
        refine xq_go hK [] 60 ?_
        refine And.intro (by omega) ?_
        refine And.intro (by omega) ?_
        refine q _ (xr_r5_rk (xr_r5_u hk _ _) (funext (fun k => ?_)))
        rw [xu_rd, e65]
        unfold xf_w
        by_cases e : k = 2 + i
        · rw [if_pos e, e]
        · rw [if_neg e, if_neg e]
      have loop : ∀ (d n : Nat) (nI v : Int) (h2 : xq_H), n + d = 100 → nI = n → xr_r5 h h2 → h2 65 = xf_w (h 65) i v → (∀ h', xr_rk h h' → Q (some (xI (xf_find (xf_en (h 65) P md i) (-5) d n))) h') → K 21 [some (xR 64), some (xI md), some (xI i), some (xI (h 65 (2 + i))), some (xI (-5)), some (xI nI)] [] 81 h2 := by
        intro d
        induction d with
        | zero =>
          intro n nI v h2 hd en hk e65 q
          refine xq_go hK [21, 56] 60 ?_
          refine And.intro (fun _ => ?_) (fun c => absurd c (by omega))
          exact back _ _ v h2 hk e65 q
        | succ d ih =>
          intro n nI v h2 hd en hk e65 q
          subst en
          rw [xf_find] at q
          have hV2 := xf_w_VM (n := (n : Int)) hV c2 (by omega)
          have e3 : xq_u h2 65 (2 + i) n 65 = xf_w (h 65) i n := by
            funext k
            rw [xu_rd, e65]
            unfold xf_w
            by_cases e : k = 2 + i
            · rw [if_pos e, if_pos e]
            · rw [if_neg e, if_neg e, if_neg e]
          have e18 : xf_w (h 65) i n (18 + i) = h 65 (18 + i) := H n (18 + i) (by omega)
          have w1 := (hV.2.1 i c2.1 c2.2).1
          refine xq_go hK [21, 56] 60 ?_
          refine And.intro (fun c => absurd c (by omega)) (fun _ => ?_)
          refine And.intro (fun c => absurd rfl c) (fun _ => ?_)
          refine And.intro (by omega) ?_
          refine And.intro (by omega) ?_
          refine And.intro (by omega) ?_
          refine And.intro (by omega) ?_
          rw [e3, e18]
          refine ⟨lev - 1, by omega, c_M_makesOf (P := P) (by omega) (by rw [e3]; exact hV2) (by rw [e3, H n 10 (by omega)]; exact c) w1 (by rw [e3]; exact xf_hi_ph (H n) hP) (fun h3 hs3 => ?_)⟩
          have e653 : h3 65 = xf_w (h 65) i n := (hs3 65 (by decide)).trans e3
          have hk3 : xr_r5 h h3 := xr_r5_tr (xr_r5_u hk _ _) (xr_r5_s hs3 (by decide))
          refine And.intro (by omega) ?_
          refine And.intro (by omega) ?_
          rw [e3, e653, e18]
          refine And.intro (fun c3 => ?_) (fun c3 => ?_)
          · rw [xf_if_f (show ¬ xf_en (h 65) P md i n from c3)] at q
            refine And.intro (by omega) ?_
            exact ih (n + 1) _ n h3 (by omega) (by omega) hk3 e653 q
          · rw [xf_if_t (show xf_en (h 65) P md i n from c3)] at q
            refine And.intro (by omega) ?_
            refine xq_go hK [56] 60 ?_
            refine And.intro (fun c => back _ _ n h3 hk3 e653 q) (fun c => ?_)
            refine And.intro (fun _ => back _ _ n h3 hk3 e653 q) (fun z => absurd z (by omega))
      have e0 : xf_w (h 65) i (h 65 (2 + i)) = h 65 := by
        funext k
        unfold xf_w
        split
        · rename_i e
          rw [e]
        · rfl
      exact loop 100 0 _ (h 65 (2 + i)) h (by omega) rfl (xr_r5_k xr_rk_rf) e0.symm hQ
    · exact And.intro (fun z => absurd rfl z) (fun _ => bad (fun z => c2 z.2))
  · exact And.intro (fun _ => bad (fun z => c z.1)) (fun z => absurd rfl z)
/-! HOW OFTEN TILL IT STANDS -/
noncomputable def xf_tys (m : Int → Int) (P : List xf_Cl) (md w : Int) : Nat → Int → Int
  | 0 => m
  | n + 1 => xf_ty (xf_tys m P md w n) P md w
theorem xf_tys_all {m : Int → Int} {P : List xf_Cl} {md w : Int} (hV : xf_VM m) (hmd : 0 ≤ md ∧ md < m 10) {n0 : Nat} (h1 : m 1 + n0 ≤ 1000000) : ∀ n : Nat, n ≤ n0 → xf_VM (xf_tys m P md w n) ∧ xf_hi m (xf_tys m P md w n) ∧ xf_tys m P md w n 1 = m 1 + n ∧ ∀ k : Int, k < 0 → xf_tys m P md w n k = m k
  | 0, _ => ⟨hV, fun _ _ => rfl, by show m 1 = m 1 + 0; omega, fun _ _ => rfl⟩
  | n + 1, hn => by
    obtain ⟨a, b, c, d⟩ := xf_tys_all hV hmd h1 n (by omega)
    have e10 := b 10 (by omega)
    refine ⟨xf_ty_VM a (by rw [e10]; exact hmd) (by omega), fun k hk => (xf_ty_hi a k hk).trans (b k hk), ?_, fun k hk => ?_⟩
    · show xf_tys m P md w n 1 + 1 = _
      omega
    · rw [← d k hk]
      have a1 := a.1
      have z := xf_num_bd a1.1 (xf_made (xf_tys m P md w n) P md w)
      show xf_ty (xf_tys m P md w n) P md w k = _
      unfold xf_ty
      rw [if_neg (by omega), if_neg (by omega), if_neg (by omega)]
theorem c_M_keeps {lev : Nat} {h : xq_H} {Q : Option xq_V → xq_H → Prop} (hl : 1 ≤ lev) (hQ : ∀ h', xs_eq [67] h h' → (∀ k : Int, 0 ≤ k → k < 10 → h' 67 k = h 65 k) → Q none h') : xq_met lev y_M_keeps [xR 64] 81 h Q := by
  refine en_M_keeps (by omega) (fun K hK => ?_)
  have loop : ∀ (d i : Nat) (iI : Int) (h' : xq_H), i + d = 10 → iI = i → xs_eq [67] h h' → (∀ k : Int, 0 ≤ k → k < i → h' 67 k = h 65 k) → K 2 [some (xR 64), some (xI iI)] [] 81 h' := by
    intro d
    induction d with
    | zero =>
      intro i iI h' hd ei hs hall
      refine xq_go hK [2] 60 ?_
      refine And.intro (fun _ => hQ h' hs (fun k h0 h1 => hall k h0 (by omega))) (fun c => absurd c (by omega))
    | succ d ih =>
      intro i iI h' hd ei hs hall
      refine xq_go hK [2] 60 ?_
      refine And.intro (fun c => absurd c (by omega)) (fun _ => ?_)
      refine And.intro (by omega) ?_
      refine And.intro (by omega) ?_
      refine And.intro (by omega) ?_
      refine ih (i + 1) _ _ (by omega) (by omega) (xs_u hs (by decide) _ _) (fun k h0 h1 => ?_)
      rw [xu_rd, hs 65 (by decide)]
      by_cases hki : k = iI
      · rw [if_pos hki, hki]
      · rw [if_neg hki]
        exact hall k h0 (by omega)
  refine xq_go hK [2] 60 ?_
  exact loop 10 0 _ h (by omega) rfl xs_rf (fun k h0 h1 => by omega)
theorem c_M_goesBack {lev : Nat} {h : xq_H} {Q : Option xq_V → xq_H → Prop} (hl : 1 ≤ lev) (hQ : ∀ h', xs_eq [65] h h' → (∀ k : Int, h' 65 k = if 0 ≤ k ∧ k < 10 then h 67 k else h 65 k) → Q none h') : xq_met lev y_M_goesBack [xR 64] 81 h Q := by
  refine en_M_goesBack (by omega) (fun K hK => ?_)
  have loop : ∀ (d i : Nat) (iI : Int) (h' : xq_H), i + d = 10 → iI = i → xs_eq [65] h h' → (∀ k : Int, h' 65 k = if 0 ≤ k ∧ k < i then h 67 k else h 65 k) → K 2 [some (xR 64), some (xI iI)] [] 81 h' := by
    intro d
    induction d with
    | zero =>
      intro i iI h' hd ei hs hall
      refine xq_go hK [2] 60 ?_
      refine And.intro (fun _ => hQ h' hs (fun k => ?_)) (fun c => absurd c (by omega))
      rw [hall k, show (i : Int) = 10 by omega]
    | succ d ih =>
      intro i iI h' hd ei hs hall
      refine xq_go hK [2] 60 ?_
      refine And.intro (fun c => absurd c (by omega)) (fun _ => ?_)
      refine And.intro (by omega) ?_
      refine And.intro (by omega) ?_
      refine And.intro (by omega) ?_
      refine ih (i + 1) _ _ (by omega) (by omega) (xs_u hs (by decide) _ _) (fun k => ?_)
      rw [xu_rd, hs 67 (by decide)]
      by_cases hki : k = iI
      · rw [if_pos hki, if_pos (by omega), hki]
      · rw [if_neg hki, hall k]
        by_cases hk : 0 ≤ k ∧ k < i
        · rw [if_pos hk, if_pos (by omega)]
        · rw [if_neg hk, if_neg (by omega)]
  refine xq_go hK [2] 60 ?_
  exact loop 10 0 _ h (by omega) rfl xs_rf (fun k => by rw [if_neg (by omega)])
noncomputable def xf_sd (m : Int → Int) (P : List xf_Cl) (md w : Int) (n : Nat) : Prop := xf_made (xf_tys m P md w (n - 1)) P md w = w
noncomputable def sp_stands (m : Int → Int) (P : List xf_Cl) (md w : Int) : Int := xf_if (0 ≤ md ∧ md < m 10) (xf_if (xf_wd w) (xf_find (xf_sd m P md w) (-5) 30 1) (-2)) (-1)
theorem q_X_stands {lev : Nat} {h : xq_H} {Q : Option xq_V → xq_H → Prop} {m : Int → Int} {P : List xf_Cl} {md w : Int} {T : Int} (hl : 9 ≤ lev) (I : xr_ok h m P T) (hT : T ≤ 990000) (hQ : ∀ h', xr_ck h h' → Q (some (xI (sp_stands m P md w))) h') : xq_met lev y_X_stands [xR 0, xI md, xI w] 81 h Q := by
  refine en_X_stands (by omega) (fun K hK => ?_)
  have V1 := I.vm.1
  have V7 := I.vm.2.2.2.2.2.2.1
  have ety := I.ty
  unfold sp_stands at hQ
  refine xq_go hK [14] 60 ?_
  refine ⟨lev - 1, by omega, c_X_refusalOf (by omega) I.now.bs (fun c => ?_) (fun c c2 => ?_) (fun c c2 => ?_)⟩
  · rw [xf_if_f c] at hQ
    refine And.intro (fun z => absurd z (by decide)) (fun _ => ?_)
    exact hQ h xs_rf
  · rw [xf_if_t c, xf_if_f c2] at hQ
    refine And.intro (fun z => absurd z (by decide)) (fun _ => ?_)
    exact hQ h xs_rf
  · rw [xf_if_t c, xf_if_t c2] at hQ
    refine And.intro (fun _ => ?_) (fun z => absurd rfl z)
    have A := xf_tys_all (P := P) (w := w) (n0 := 40) I.vm c (by omega)
    refine ⟨lev - 1, by omega, c_K_settle (by omega) I.vm I.now I.vn (fun h1 hs1 C1 => ?_)⟩
    have loop : ∀ (d n : Nat) (nI : Int) (h2 : xq_H), n + d = 31 → 1 ≤ n → nI = n → xr_ck h h2 → xr_crs h2 (xf_tys m P md w (n - 1)) → (∀ h', xr_ck h h' → Q (some (xI (xf_find (xf_sd m P md w) (-5) d n))) h') → K 14 [some (xR 0), some (xI md), some (xI w), some (xI 0), some (xI nI)] [] 81 h2 := by
      intro d
      induction d with
      | zero =>
        intro n nI h2 hd hn1 en hk C2 q
        refine xq_go hK [14] 60 ?_
        refine And.intro (fun _ => ?_) (fun c => absurd c (by omega))
        exact q h2 hk
      | succ d ih =>
        intro n nI h2 hd hn1 en hk C2 q
        subst en
        rw [xf_find] at q
        obtain ⟨a1, a2, a3, _⟩ := A (n - 1) (by omega)
        have B2 : xr_base h2 (xf_tys m P md w (n - 1)) P := xf_hi_base a2 V7.1 (xr_base_fr hk (by decide) I.now.bs)
        refine xq_go hK [14] 60 ?_
        refine And.intro (fun c => absurd c (by omega)) (fun _ => ?_)
        refine ⟨lev - 1, by omega, c_K_typeOnce (by omega) a1 B2 C2 c2 (by rw [a2 10 (by omega)]; exact c) (fun h3 hs3 B3 C3 => ?_)⟩
        have hk3 : xr_ck h h3 := xs_tr hk hs3 (fun _ z => z) (by decide)
        refine And.intro (fun c3 => ?_) (fun c3 => ?_)
        · rw [xf_if_f (show ¬ xf_sd m P md w n from c3)] at q
          refine And.intro (by omega) ?_
          refine ih (n + 1) _ h3 (by omega) (by omega) (by omega) hk3 ?_ q
          rw [show n + 1 - 1 = n - 1 + 1 by omega]
          exact C3
        · rw [xf_if_t (show xf_sd m P md w n from c3)] at q
          exact q h3 hk3
    exact loop 30 1 _ h1 (by omega) (by omega) rfl (xr_ck_set hs1) C1 hQ
theorem q_M_stands {lev : Nat} {h : xq_H} {Q : Option xq_V → xq_H → Prop} {P : List xf_Cl} {md w : Int} (hl : 9 ≤ lev) (hV : xf_VM (h 65)) (hP : xf_ph (h 65) P) (hT : h 65 1 ≤ 990000) (hQ : ∀ h', xr_rk h h' → Q (some (xI (sp_stands (h 65) P md w))) h') : xq_met lev y_M_stands [xR 64, xI md, xI w] 81 h Q := by
  refine en_M_stands (by omega) (fun K hK => ?_)
  have V3 := hV.2.2.1
  unfold sp_stands at hQ
  refine xq_go hK [17] 60 ?_
  refine ⟨lev - 1, by omega, c_M_isMender (by omega) V3 (fun c => ?_) (fun c => ?_)⟩
  · rw [xf_if_t c] at hQ
    refine And.intro (fun _ => ?_) (fun z => absurd z (by decide))
    refine ⟨lev - 1, by omega, c_M_isWord (by omega) (fun c2 => ?_) (fun c2 => ?_)⟩
    · rw [xf_if_t c2] at hQ
      refine And.intro (fun _ => ?_) (fun z => absurd z (by decide))
      have A := xf_tys_all (P := P) (w := w) (n0 := 40) hV c (by omega)
      refine ⟨lev - 1, by omega, c_M_keeps (by omega) (fun h1 hs1 hkp => ?_)⟩
      have back : ∀ (f nI : Int) (n : Nat) (h2 : xq_H), n ≤ 40 → xr_r5 h h2 → h2 65 = xf_tys (h 65) P md w n → (∀ k : Int, 0 ≤ k → k < 10 → h2 67 k = h 65 k) → (∀ h', xr_rk h h' → Q (some (xI f)) h') → K 35 [some (xR 64), some (xI md), some (xI w), some (xI f), some (xI nI)] [] 81 h2 := by
        intro f nI n h2 hn hk e65 e67 q
        obtain ⟨a1, a2, a3, a4⟩ := A n hn
        refine xq_go hK [] 60 ?_
        refine ⟨lev - 1, by omega, c_M_goesBack (by omega) (fun h3 hs3 hall => ?_)⟩
        refine q h3 (xr_r5_rk (xr_r5_tr hk (xr_r5_s hs3 (by decide))) (funext (fun k => ?_)))
        rw [hall k, e65]
        by_cases ck : 0 ≤ k ∧ k < 10
        · rw [if_pos ck]
          exact e67 k ck.1 ck.2
        · rw [if_neg ck]
          by_cases ck2 : k < 0
          · exact a4 k ck2
          · exact a2 k (by omega)
      have loop : ∀ (d n : Nat) (nI : Int) (h2 : xq_H), n + d = 31 → 1 ≤ n → nI = n → xr_r5 h h2 → h2 65 = xf_tys (h 65) P md w (n - 1) → (∀ k : Int, 0 ≤ k → k < 10 → h2 67 k = h 65 k) → (∀ h', xr_rk h h' → Q (some (xI (xf_find (xf_sd (h 65) P md w) (-5) d n))) h') → K 17 [some (xR 64), some (xI md), some (xI w), some (xI (-5)), some (xI nI)] [] 81 h2 := by
        intro d
        induction d with
        | zero =>
          intro n nI h2 hd hn1 en hk e65 e67 q
          refine xq_go hK [17, 35] 60 ?_
          refine And.intro (fun _ => ?_) (fun c => absurd c (by omega))
          exact back _ _ (n - 1) h2 (by omega) hk e65 e67 q
        | succ d ih =>
          intro n nI h2 hd hn1 en hk e65 e67 q
          subst en
          rw [xf_find] at q
          obtain ⟨a1, a2, a3, a4⟩ := A (n - 1) (by omega)
          refine xq_go hK [17, 35] 60 ?_
          refine And.intro (fun c => absurd c (by omega)) (fun _ => ?_)
          refine And.intro (fun c => absurd rfl c) (fun _ => ?_)
          refine ⟨lev - 1, by omega, c_M_types (P := P) (by omega) (by rw [e65]; exact a1) (by rw [e65]; exact xf_hi_ph a2 hP) c2 (by rw [e65, a2 10 (by omega)]; exact c) (fun h3 hs3 e653 => ?_)⟩
          have hk3 : xr_r5 h h3 := xr_r5_tr hk (xr_r5_s hs3 (by decide))
          have e673 : ∀ k : Int, 0 ≤ k → k < 10 → h3 67 k = h 65 k := fun k h0 h1 => by rw [hs3 67 (by decide)]; exact e67 k h0 h1
          have e654 : h3 65 = xf_tys (h 65) P md w n := by
            rw [e653, e65]
            obtain ⟨p, rfl⟩ : ∃ p, n = p + 1 := ⟨n - 1, by omega⟩
            rfl
          rw [e65]
          refine And.intro (fun c3 => ?_) (fun c3 => ?_)
          · rw [xf_if_f (show ¬ xf_sd (h 65) P md w n from c3)] at q
            refine And.intro (by omega) ?_
            exact ih (n + 1) _ h3 (by omega) (by omega) (by omega) hk3 e654 e673 q
          · rw [xf_if_t (show xf_sd (h 65) P md w n from c3)] at q
            refine And.intro (by omega) ?_
            refine xq_go hK [35] 60 ?_
            refine And.intro (fun _ => back _ _ n h3 (by omega) hk3 e654 e673 q) (fun _ => ?_)
            refine And.intro (fun _ => back _ _ n h3 (by omega) hk3 e654 e673 q) (fun z => absurd z (by omega))
      exact loop 30 1 _ h1 (by omega) (by omega) rfl (xr_r5_s hs1 (by decide)) (hs1 65 (by decide)) hkp hQ
    · rw [xf_if_f c2] at hQ
      refine And.intro (fun z => absurd rfl z) (fun _ => ?_)
      exact hQ h xr_rk_rf
  · rw [xf_if_f c] at hQ
    refine And.intro (fun z => absurd rfl z) (fun _ => ?_)
    exact hQ h xr_rk_rf
