/-! MADE, the reference's side -/
/-- the first least of f below n that is under L, and its number, else L and -1 -/
def xf_mn (f : Nat → Int) (L : Int) : Nat → Int × Int
  | 0 => (L, -1)
  | n + 1 => if f n < (xf_mn f L n).1 then (f n, (n : Int)) else xf_mn f L n
theorem xf_mn_bd (f : Nat → Int) (L : Int) : ∀ n, (xf_mn f L n).1 ≤ L ∧ -1 ≤ (xf_mn f L n).2 ∧ (xf_mn f L n).2 < n ∧ ((xf_mn f L n).2 = -1 → (xf_mn f L n).1 = L) ∧ ((xf_mn f L n).2 ≠ -1 → (xf_mn f L n).1 < L)
  | 0 => ⟨Int.le_refl _, Int.le_refl _, by show (-1 : Int) < 0; omega, fun _ => rfl, fun h => absurd rfl h⟩
  | n + 1 => by
    have := xf_mn_bd f L n
    rw [xf_mn]
    split
    · dsimp only
      refine ⟨by omega, by omega, by omega, fun h => ?_, fun _ => by omega⟩
      omega
    · refine ⟨this.1, this.2.1, by omega, this.2.2.2.1, this.2.2.2.2⟩
theorem xf_mn_cut (f : Nat → Int) {L B : Int} (hLB : L ≤ B) : ∀ n, xf_mn f L n = if (xf_mn f B n).2 ≠ -1 ∧ (xf_mn f B n).1 < L then xf_mn f B n else (L, -1)
  | 0 => by
    rw [if_neg]
    · rfl
    · intro z
      exact z.1 rfl
  | n + 1 => by
    have ih := xf_mn_cut f hLB n
    have hb := xf_mn_bd f B n
    rw [xf_mn, xf_mn, ih]
    by_cases c : (xf_mn f B n).2 ≠ -1 ∧ (xf_mn f B n).1 < L
    · rw [if_pos c]
      by_cases c2 : f n < (xf_mn f B n).1
      · rw [if_pos c2, if_pos]
        refine ⟨?_, ?_⟩ <;> dsimp only <;> omega
      · rw [if_neg c2, if_pos c]
    · rw [if_neg c]
      dsimp only
      by_cases c2 : f n < L
      · have c3 : f n < (xf_mn f B n).1 := by
          by_cases z : (xf_mn f B n).2 = -1
          · have := hb.2.2.2.1 z; omega
          · have : ¬ (xf_mn f B n).1 < L := fun q => c ⟨z, q⟩
            omega
        rw [if_pos c2, if_pos c3, if_pos]
        refine ⟨?_, ?_⟩ <;> dsimp only <;> omega
      · rw [if_neg c2]
        by_cases c3 : f n < (xf_mn f B n).1
        · rw [if_pos c3, if_neg]
          intro z
          exact c2 z.2
        · rw [if_neg c3, if_neg c]
theorem xf_mn_congr {f g : Nat → Int} {L : Int} : ∀ {n : Nat}, (∀ k, k < n → f k = g k) → xf_mn f L n = xf_mn g L n
  | 0, _ => rfl
  | n + 1, h => by rw [xf_mn, xf_mn, xf_mn_congr (fun k hk => h k (by omega)), h n (by omega)]
/-- ten times the cost less the weight -/
noncomputable def xf_pr (m : Int → Int) (P : List xf_Cl) (md w : Int) (i : Nat) : Int := 10 * xf_co m md w i (xf_sum (xf_fact m md (xf_sz w) i) P) - m (2 + i)
noncomputable def xf_made (m : Int → Int) (P : List xf_Cl) (md w : Int) : Int :=
  @ite _ ((m (34 + md) = 3 ∨ m (34 + md) = 6) ∧ xf_lft m w) (Classical.propDecidable _) w
    (if (xf_mn (xf_pr m P md w) (10 * xf_lim m) (m 11).toNat).2 = -1 then w else m (18 + (xf_mn (xf_pr m P md w) (10 * xf_lim m) (m 11).toNat).2))
theorem xf_co_bd {m : Int → Int} {md w i ex : Int} (hV : xf_VM m) (hmd : 0 ≤ md ∧ md < m 10) (hw : xf_wd w) (hi : 0 ≤ i ∧ i < m 11) (hex : -990 ≤ ex ∧ ex ≤ 990) : 0 ≤ xf_co m md w i ex ∧ xf_co m md w i ex ≤ 2000 := by
  obtain ⟨V1, V2, V3, V4, V5, V6, V7, V8, V9⟩ := hV
  have h1 := xf_fr_bd (md := md) hw (V2 i hi.1 hi.2).1 V8
  have h2 := (V4 md hmd.1 hmd.2).2.2 (m 1 % 4) (by omega) (by omega)
  unfold xf_co
  split <;> split <;> omega
theorem xf_sum_b {m : Int → Int} {P : List xf_Cl} (hP : xf_okP P ∧ P.length ≤ 10) (f : Int → Int) : -990 ≤ xf_sum f P ∧ xf_sum f P ≤ 990 := by
  have := xf_sum_bd f P hP.1
  omega
theorem c_M_looksFor {lev : Nat} {h : xq_H} {Q : Option xq_V → xq_H → Prop} {md ln : Int} {P : List xf_Cl} (hl : 4 ≤ lev) (hV : xf_VM (h 65)) (hmd : 0 ≤ md ∧ md < h 65 10) (hln : 0 ≤ ln ∧ ln ≤ 5) (hP : xf_ph (h 65) P)
    (hQ : ∀ h', xs_eq [68, 69, 74] h h' → (∀ i : Nat, (i : Int) < h 65 11 → h' 74 i = xf_sum (xf_fact (h 65) md ln i) P) → Q none h') : xq_met lev y_M_looksFor [xR 64, xI md, xI ln] 81 h Q := by
  refine en_M_looksFor (by omega) (fun K hK => ?_)
  have V1 := hV.1
  have loop : ∀ (d i : Nat) (iI : Int) (h' : xq_H), (i : Int) + d = h 65 11 → iI = i → xs_eq [68, 69, 74] h h' → (∀ k : Nat, k < i → h' 74 k = xf_sum (xf_fact (h 65) md ln k) P) → K 2 [some (xR 64), some (xI md), some (xI ln), some (xI iI)] [] 81 h' := by
    intro d
    induction d with
    | zero =>
      intro i iI h' hd ei hs hall
      have e65 : h' 65 = h 65 := hs 65 (by decide)
      refine xq_go hK [2] 60 ?_
      refine And.intro (by omega) ?_
      rw [e65]
      refine And.intro (fun c => ?_) (fun c => absurd c (by omega))
      exact hQ h' hs (fun k hk => hall k (by omega))
    | succ d ih =>
      intro i iI h' hd ei hs hall
      have e65 : h' 65 = h 65 := hs 65 (by decide)
      refine xq_go hK [2] 60 ?_
      refine And.intro (by omega) ?_
      rw [e65]
      refine And.intro (fun c => absurd c (by omega)) (fun _ => ?_)
      refine ⟨lev - 1, by omega, c_M_looks (by omega) (by rw [e65]; exact hV) (by rw [e65]; exact hmd) (by rw [e65]; omega) hln (by rw [e65]; exact hP) (fun h2 hs2 => ?_)⟩
      refine And.intro (by omega) ?_
      refine And.intro (by omega) ?_
      refine ih (i + 1) _ _ (by omega) (by omega) (xs_u (xs_tr hs hs2 (by decide) (by decide)) (by decide) _ _) (fun k hk => ?_)
      rw [xu_rd, e65, ei]
      by_cases hki : k = i
      · subst hki
        rw [if_pos rfl]
      · rw [if_neg (by omega), hs2 74 (by decide)]
        exact hall k (by omega)
  refine xq_go hK [2] 60 ?_
  exact loop (h 65 11).toNat 0 _ h (by omega) rfl xs_rf (fun k hk => by omega)
set_option maxHeartbeats 1000000 in
theorem c_M_madeOf {lev : Nat} {h : xq_H} {Q : Option xq_V → xq_H → Prop} {md w : Int} {P : List xf_Cl} (hl : 6 ≤ lev) (hV : xf_VM (h 65)) (hmd : 0 ≤ md ∧ md < h 65 10) (hw : xf_wd w) (hP : xf_ph (h 65) P)
    (hex : ∀ i : Nat, (i : Int) < h 65 11 → h 74 i = xf_sum (xf_fact (h 65) md (xf_sz w) i) P)
    (hQ : ∀ h', xs_eq [70, 71, 72, 73] h h' → Q (some (xI (xf_made (h 65) P md w))) h') : xq_met lev y_M_madeOf [xR 64, xI md, xI w] 81 h Q := by
  refine en_M_madeOf (by omega) (fun K hK => ?_)
  have hV0 := hV
  obtain ⟨V1, V2, V3, V4, V5, V6, V7, V8, V9⟩ := hV
  have w3 := (V4 md hmd.1 hmd.2).1
  have hpb : ∀ i : Nat, (i : Int) < h 65 11 → -99 ≤ xf_pr (h 65) P md w i ∧ xf_pr (h 65) P md w i ≤ 20000 := fun i hi => by
    have h1 := xf_co_bd (ex := xf_sum (xf_fact (h 65) md (xf_sz w) i) P) hV0 hmd hw (i := (i : Int)) (by omega) (xf_sum_b (m := h 65) ⟨hP.1, hP.2.1⟩ _)
    have h2 := (V2 i (by omega) hi).2.1
    unfold xf_pr
    omega
  have search : (¬ ((h 65 (34 + md) = 3 ∨ h 65 (34 + md) = 6) ∧ xf_lft (h 65) w)) → K 19 [some (xR 64), some (xI md), some (xI w), some (xI (h 65 (34 + md))), none, none, none, none] [] 81 h := by
    intro hno
    have hm : xf_made (h 65) P md w = if (xf_mn (xf_pr (h 65) P md w) (10 * xf_lim (h 65)) (h 65 11).toNat).2 = -1 then w else h 65 (18 + (xf_mn (xf_pr (h 65) P md w) (10 * xf_lim (h 65)) (h 65 11).toNat).2) := by
      unfold xf_made
      rw [if_neg hno]
    rw [hm, xf_mn_cut (B := 1000000) _ (by omega)] at hQ
    have loop : ∀ (d i : Nat) (iI b l : Int) (x7 : Option xq_V) (h' : xq_H), (i : Int) + d = h 65 11 → iI = i → b = (xf_mn (xf_pr (h 65) P md w) 1000000 i).2 → l = (xf_mn (xf_pr (h 65) P md w) 1000000 i).1 → (x7 = none ∨ ∃ z, x7 = some (xI z)) → xs_eq [70, 71, 72, 73] h h' → K 25 [some (xR 64), some (xI md), some (xI w), some (xI (h 65 (34 + md))), some (xI b), some (xI l), some (xI iI), x7] [] 81 h' := by
      intro d
      induction d with
      | zero =>
        intro i iI b l x7 h' hd ei eb el hx hs
        have e65 : h' 65 = h 65 := hs 65 (by decide)
        have hbd := xf_mn_bd (xf_pr (h 65) P md w) 1000000 i
        rw [show (h 65 11).toNat = i by omega, ← eb, ← el] at hQ
        have q0 := hQ h' hs
        have tail0 : ¬ (b ≠ -1 ∧ l < 10 * xf_lim (h 65)) → Q (some (xI w)) h' := by
          intro z
          rw [if_neg z, if_pos rfl] at q0
          exact q0
        have tail1 : b ≠ -1 → l < 10 * xf_lim (h 65) → Q (some (xI (h 65 (18 + b)))) h' := by
          intro z1 z2
          rw [if_pos (show b ≠ -1 ∧ l < 10 * xf_lim (h 65) from ⟨z1, z2⟩), if_neg (by rw [← eb]; exact z1), ← eb] at q0
          exact q0
        refine xq_go hK [25, 71] 60 ?_
        refine And.intro (by omega) ?_
        rw [e65]
        refine And.intro (fun c => ?_) (fun c => absurd c (by omega))
        refine And.intro (fun c2 => ?_) (fun c2 => ?_)
        · exact tail0 (fun z => z.1 c2)
        · have low : ∀ z : Int, z = xf_lim (h 65) → K 71 [some (xR 64), some (xI md), some (xI w), some (xI (h 65 (34 + md))), some (xI b), some (xI l), some (xI iI), x7] [xI z, xI 10, xI l] 81 h' := by
            intro z ez
            refine xq_go hK [] 60 ?_
            refine And.intro (by omega) ?_
            rw [ez]
            refine And.intro (fun c3 => ?_) (fun c3 => ?_)
            · exact tail0 (fun z => c3 z.2)
            · refine And.intro (by omega) ?_
              refine And.intro (by omega) ?_
              rw [e65]
              exact tail1 c2 c3
          refine ⟨lev - 1, by omega, c_M_tellsOf (by omega) (by omega) (by rw [e65]; exact V7) (fun c3 => ?_) (fun c3 => ?_)⟩
          · refine low _ ?_
            rw [e65] at c3
            unfold xf_lim
            rw [if_pos c3]
          · rw [e65] at c3 ⊢
            refine low _ ?_
            unfold xf_lim
            rw [if_neg (by omega)]
      | succ d ih =>
        intro i iI b l x7 h' hd ei eb el hx hs
        have e65 : h' 65 = h 65 := hs 65 (by decide)
        have hbd := xf_mn_bd (xf_pr (h 65) P md w) 1000000 i
        have w1 := V2 i (by omega) (by omega)
        have hp1 := hpb i (by omega)
        have e74 : h' 74 i = h 74 i := by rw [hs 74 (by decide)]
        refine xq_go hK [25] 60 ?_
        refine And.intro (by omega) ?_
        rw [e65]
        refine And.intro (fun c => absurd c (by omega)) (fun _ => ?_)
        have hxb := xf_sum_b (m := h 65) ⟨hP.1, hP.2.1⟩ (xf_fact (h 65) md (xf_sz w) i)
        refine ⟨lev - 1, by omega, c_M_costOf (by omega) hw (by rw [e65]; exact hV0) (by rw [e65]; exact hmd) (by rw [e65]; omega) (by rw [ei, e74, hex i (by omega)]; exact hxb) (fun h2 hs2 => ?_)⟩
        have e652 : h2 65 = h 65 := (hs2 65 (by decide)).trans e65
        have ecost : xf_co (h' 65) md w iI (h' 74 iI) = xf_co (h 65) md w i (xf_sum (xf_fact (h 65) md (xf_sz w) i) P) := by rw [e65, ei, e74, hex i (by omega)]
        have hcb := xf_co_bd hV0 hmd hw (i := (i : Int)) (by omega) hxb
        have epr : 10 * xf_co (h 65) md w i (xf_sum (xf_fact (h 65) md (xf_sz w) i) P) - h 65 (2 + i) = xf_pr (h 65) P md w i := rfl
        have hs3 := xs_tr hs hs2 (Z := [70, 71, 72, 73]) (by decide) (by decide)
        rw [ecost]
        refine And.intro (by omega) ?_
        refine And.intro (by omega) ?_
        refine And.intro (by omega) ?_
        rw [e652, ei]
        refine And.intro (by omega) ?_
        rw [epr]
        have nx : xf_mn (xf_pr (h 65) P md w) 1000000 (i + 1) = if xf_pr (h 65) P md w i < l then (xf_pr (h 65) P md w i, (i : Int)) else xf_mn (xf_pr (h 65) P md w) 1000000 i := by rw [xf_mn, ← el]
        refine And.intro (fun c => ?_) (fun c => ?_)
        · refine And.intro (fun c2 => ?_) (fun c2 => absurd c2 c)
          refine And.intro (by omega) ?_
          rw [if_neg c] at nx
          exact ih (i + 1) _ _ _ _ _ (by omega) (by omega) (by rw [nx]; exact eb) (by rw [nx]; exact el) (Or.inr ⟨_, rfl⟩) hs3
        · refine And.intro (fun c2 => absurd c c2) (fun c2 => ?_)
          refine And.intro (by omega) ?_
          rw [if_pos c] at nx
          exact ih (i + 1) _ _ _ _ _ (by omega) (by omega) (by rw [nx]) (by rw [nx]) (Or.inr ⟨_, rfl⟩) hs3
    refine xq_go hK [25] 60 ?_
    exact loop (h 65 11).toNat 0 _ _ _ _ h (by omega) rfl rfl rfl (Or.inl rfl) xs_rf
  have asks : (h 65 (34 + md) = 3 ∨ h 65 (34 + md) = 6) → K 13 [some (xR 64), some (xI md), some (xI w), some (xI (h 65 (34 + md))), none, none, none, none] [] 81 h := by
    intro hk
    refine xq_go hK [19] 60 ?_
    refine ⟨lev - 1, by omega, c_M_isLeft (by omega) V5 (fun c => ?_) (fun c => ?_)⟩
    · refine And.intro (fun c2 => absurd c2 (by decide)) (fun _ => ?_)
      have q := hQ h xs_rf
      unfold xf_made at q
      rw [if_pos ⟨hk, c⟩] at q
      exact q
    · refine And.intro (fun _ => search (fun z => c z.2)) (fun c2 => absurd rfl c2)
  refine xq_go hK [13, 19] 60 ?_
  refine And.intro (by omega) ?_
  refine And.intro (by omega) ?_
  refine And.intro (fun c => asks (Or.inl c)) (fun c => ?_)
  refine And.intro (fun c2 => search (fun z => z.1.elim c c2)) (fun c2 => asks (Or.inr c2))
theorem c_M_makesOf {lev : Nat} {h : xq_H} {Q : Option xq_V → xq_H → Prop} {md w : Int} {P : List xf_Cl} (hl : 7 ≤ lev) (hV : xf_VM (h 65)) (hmd : 0 ≤ md ∧ md < h 65 10) (hw : xf_wd w) (hP : xf_ph (h 65) P)
    (hQ : ∀ h', xs_eq [68, 69, 70, 71, 72, 73, 74] h h' → Q (some (xI (xf_made (h 65) P md w))) h') : xq_met lev y_M_makesOf [xR 64, xI md, xI w] 81 h Q := by
  refine en_M_makesOf (by omega) (fun K hK => ?_)
  have b := xf_szb hw
  have w1 := hw.1
  have w2 := hw.2.1
  refine xq_go hK [] 60 ?_
  refine ⟨lev - 1, by omega, c_M_size (by omega) (by omega) ?_⟩
  refine ⟨lev - 1, by omega, c_M_looksFor (by omega) hV hmd (by omega) hP (fun h1 hs1 hex => ?_)⟩
  have e65 : h1 65 = h 65 := hs1 65 (by decide)
  refine ⟨lev - 1, by omega, c_M_madeOf (by omega) (P := P) (by rw [e65]; exact hV) (by rw [e65]; exact hmd) hw (by rw [e65]; exact hP) (by rw [e65]; exact hex) (fun h2 hs2 => ?_)⟩
  rw [e65]
  exact hQ h2 (xs_tr hs1 hs2 (by decide) (by decide))
