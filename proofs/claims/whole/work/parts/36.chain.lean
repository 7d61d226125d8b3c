/-! CHAINS -/
abbrev xf_G : Type := (Int → Int) × (Int → Int) × Int
noncomputable def xf_gs (P : List xf_Cl) (md : Int) (s : xf_G) (i : Nat) : xf_G :=
  (xf_ty s.1 P md (s.2.1 i), fun k => if k = (i : Int) then xf_made s.1 P md (s.2.1 i) else s.2.1 k, if s.2.2 = 1 ∧ xf_made s.1 P md (s.2.1 i) = s.2.1 i then 1 else 0)
noncomputable def xf_gr (P : List xf_Cl) (md : Int) (s : xf_G) : Nat → xf_G
  | 0 => s
  | n + 1 => xf_gs P md (xf_gr P md s n) n
/-- the row, the words and what settled, behind so many rounds -/
noncomputable def xf_ch (m : Int → Int) (P : List xf_Cl) (md : Int) : Nat → xf_G
  | 0 => (fun k => if k = 0 then 0 else m k, fun i => m (18 + i), -5)
  | r + 1 => ((xf_gr P md ((xf_ch m P md r).1, (xf_ch m P md r).2.1, 1) (m 11).toNat).1, (xf_gr P md ((xf_ch m P md r).1, (xf_ch m P md r).2.1, 1) (m 11).toNat).2.1,
      if (xf_gr P md ((xf_ch m P md r).1, (xf_ch m P md r).2.1, 1) (m 11).toNat).2.2 = 1 ∧ (xf_ch m P md r).2.2 = -5 then (r : Int) else (xf_ch m P md r).2.2)
def xf_gI (m : Int → Int) (t c : Int → Int) (b : Nat) : Prop := xf_VM t ∧ xf_hi m t ∧ t 1 = m 1 + b ∧ (∀ k : Int, k < 0 → t k = m k) ∧ ∀ i : Int, 0 ≤ i → i < m 11 → xf_wd (c i)
theorem xf_gs_I {m : Int → Int} {P : List xf_Cl} {md : Int} {s : xf_G} {b i : Nat} (h : xf_gI m s.1 s.2.1 b) (hmd : 0 ≤ md ∧ md < m 10) (hb : m 1 + b < 1000000) (hi : (i : Int) < m 11) : xf_gI m (xf_gs P md s i).1 (xf_gs P md s i).2.1 (b + 1) := by
  obtain ⟨a1, a2, a3, a4, a5⟩ := h
  have e10 := a2 10 (by omega)
  have w := a5 i (by omega) hi
  refine ⟨xf_ty_VM a1 (by rw [e10]; exact hmd) (by omega), fun k hk => (xf_ty_hi a1 k hk).trans (a2 k hk), ?_, fun k hk => ?_, fun k h0 h1 => ?_⟩
  · show s.1 1 + 1 = _
    omega
  · rw [← a4 k hk]
    have z := xf_num_bd a1.1.1 (xf_made s.1 P md (s.2.1 i))
    show xf_ty s.1 P md (s.2.1 i) k = _
    unfold xf_ty
    rw [if_neg (by omega), if_neg (by omega), if_neg (by omega)]
  · show xf_wd (if k = (i : Int) then _ else _)
    split
    · exact xf_made_wd a1 w
    · exact a5 k h0 h1
theorem xf_gr_I {m : Int → Int} {P : List xf_Cl} {md : Int} {s : xf_G} {b : Nat} (h : xf_gI m s.1 s.2.1 b) (hmd : 0 ≤ md ∧ md < m 10) (hb : m 1 + b + 8 < 1000000) : ∀ n : Nat, (n : Int) ≤ m 11 → n ≤ 8 → xf_gI m (xf_gr P md s n).1 (xf_gr P md s n).2.1 (b + n)
  | 0, _, _ => h
  | n + 1, h1, h2 => xf_gs_I (b := b + n) (xf_gr_I h hmd hb n (by omega) (by omega)) hmd (by omega) (by omega)
theorem xf_gr_01 {P : List xf_Cl} {md : Int} {s : xf_G} (h : s.2.2 = 1) : ∀ n : Nat, (xf_gr P md s n).2.2 = 0 ∨ (xf_gr P md s n).2.2 = 1
  | 0 => Or.inr h
  | n + 1 => by
    show (if (xf_gr P md s n).2.2 = 1 ∧ _ then (1 : Int) else 0) = 0 ∨ (if (xf_gr P md s n).2.2 = 1 ∧ _ then (1 : Int) else 0) = 1
    split
    · exact Or.inr rfl
    · exact Or.inl rfl
theorem xf_ch_I {m : Int → Int} {P : List xf_Cl} {md : Int} (hV : xf_VM m) (hmd : 0 ≤ md ∧ md < m 10) (hb : m 1 + 100 < 1000000) : ∀ r : Nat, r ≤ 10 → xf_gI m (xf_ch m P md r).1 (xf_ch m P md r).2.1 (r * (m 11).toNat)
  | 0, _ => by
    have V1 := hV.1
    have H : xf_hi m (fun k => if k = 0 then 0 else m k) := fun k hk => if_neg (by omega)
    refine ⟨xf_hi_VM H hV ?_ (fun i h0 h1 => ?_), H, ?_, fun k hk => if_neg (by omega), fun i h0 h1 => (hV.2.1 i h0 h1).1⟩
    · exact hV.2.2.2.2.2.1
    · show 0 ≤ (if 2 + i = 0 then (0 : Int) else m (2 + i)) ∧ (if 2 + i = 0 then (0 : Int) else m (2 + i)) ≤ 99
      rw [if_neg (by omega)]
      exact (hV.2.1 i h0 h1).2.1
    · rw [Nat.zero_mul]
      show (if (1 : Int) = 0 then 0 else m 1) = _
      rw [if_neg (by decide)]
      omega
  | r + 1, hr => by
    have V1 := hV.1
    have ih := xf_ch_I (P := P) hV hmd hb r (by omega)
    have hle : r * (m 11).toNat ≤ 9 * 8 := Nat.mul_le_mul (by omega) (by omega)
    have g := xf_gr_I (P := P) (md := md) (s := ((xf_ch m P md r).1, (xf_ch m P md r).2.1, 1)) ih hmd (by omega) (m 11).toNat (by omega) (by omega)
    rw [Nat.succ_mul]
    exact g
/-- how many are unlike -/
noncomputable def xf_ul (c : Int → Int) : Nat → Int
  | 0 => 0
  | n + 1 => xf_ul c n + xf_if (∀ j : Nat, j < n → c j ≠ c n) 1 0
theorem xf_ul_bd (c : Int → Int) : ∀ n : Nat, 0 ≤ xf_ul c n ∧ xf_ul c n ≤ n
  | 0 => ⟨Int.le_refl _, Int.le_refl _⟩
  | n + 1 => by
    have := xf_ul_bd c n
    rw [xf_ul]
    by_cases e : ∀ j : Nat, j < n → c j ≠ c n
    · rw [xf_if_t e]; omega
    · rw [xf_if_f e]; omega
theorem xf_ul_congr {c c' : Int → Int} : ∀ n : Nat, (∀ i : Nat, i < n → c i = c' i) → xf_ul c n = xf_ul c' n
  | 0, _ => rfl
  | n + 1, h => by
    rw [xf_ul, xf_ul, xf_ul_congr n (fun i hi => h i (by omega))]
    refine congrArg (fun z => xf_ul c' n + z) (xf_if_c ⟨fun z j hj => ?_, fun z j hj => ?_⟩)
    · rw [← h j (by omega), ← h n (by omega)]; exact z j hj
    · rw [h j (by omega), h n (by omega)]; exact z j hj
theorem c_X_unlikeOf {lev : Nat} {h : xq_H} {Q : Option xq_V → xq_H → Prop} {n : Nat} {nI : Int} (hl : 1 ≤ lev) (en : nI = n) (hn : n ≤ 8) (hQ : Q (some (xI (xf_ul (h 63) n))) h) : xq_met lev y_X_unlikeOf [xR 63, xI nI] 81 h Q := by
  refine en_X_unlikeOf (by omega) (fun K hK => ?_)
  have loop : ∀ (d i : Nat) (u iI : Int) (x4 x5 : Option xq_V), i + d = n → iI = i → u = xf_ul (h 63) i → K 4 [some (xR 63), some (xI nI), some (xI u), some (xI iI), x4, x5] [] 81 h := by
    intro d
    induction d with
    | zero =>
      intro i u iI x4 x5 hd ei eu
      refine xq_go hK [4] 60 ?_
      refine And.intro (fun _ => ?_) (fun c => absurd c (by omega))
      rw [show n = i by omega, ← eu] at hQ
      exact hQ
    | succ d ih =>
      intro i u iI x4 x5 hd ei eu
      subst ei
      have hb := xf_ul_bd (h 63) i
      have inner : ∀ (d2 j : Nat) (jI f : Int), j + d2 = i → jI = j → (f = 1 ∧ (∀ k : Nat, k < j → h 63 k ≠ h 63 i) ∨ f = 0 ∧ ¬ (∀ k : Nat, k < j → h 63 k ≠ h 63 i)) → K 11 [some (xR 63), some (xI nI), some (xI u), some (xI i), some (xI f), some (xI jI)] [] 81 h := by
        intro d2
        induction d2 with
        | zero =>
          intro j jI f hd2 ej hf
          obtain rfl : j = i := by omega
          have last : ∀ v : Int, v = xf_if (∀ k : Nat, k < j → h 63 k ≠ h 63 j) 1 0 → 0 ≤ v ∧ v ≤ 1 → K 35 [some (xR 63), some (xI nI), some (xI u), some (xI j), some (xI f), some (xI jI)] [xI v, xI u] 81 h := by
            intro v ev hv
            refine xq_go hK [4] 60 ?_
            refine And.intro (by omega) ?_
            refine And.intro (by omega) ?_
            exact ih (j + 1) _ _ _ _ (by omega) (by omega) (by rw [xf_ul, ← eu, ← ev])
          refine xq_go hK [4, 11, 35] 60 ?_
          refine And.intro (fun _ => ?_) (fun c => absurd c (by omega))
          refine And.intro (fun c => ?_) (fun c => ?_)
          · rcases hf with ⟨e, _⟩ | ⟨_, e⟩
            · omega
            · exact last 0 (xf_if_f e).symm (by omega)
          · rcases hf with ⟨_, e⟩ | ⟨e, _⟩
            · exact last 1 (xf_if_t e).symm (by omega)
            · omega
        | succ d2 ih2 =>
          intro j jI f hd2 ej hf
          subst ej
          have next : ∀ v : Int, (v = 1 ∧ (∀ k : Nat, k < j + 1 → h 63 k ≠ h 63 i) ∨ v = 0 ∧ ¬ (∀ k : Nat, k < j + 1 → h 63 k ≠ h 63 i)) → K 26 [some (xR 63), some (xI nI), some (xI u), some (xI i), some (xI f), some (xI j)] [xI v] 81 h := by
            intro v hv
            refine xq_go hK [4, 11] 60 ?_
            refine And.intro (by omega) ?_
            exact ih2 (j + 1) _ _ (by omega) (by omega) hv
          refine xq_go hK [4, 11, 26] 60 ?_
          refine And.intro (fun c => absurd c (by omega)) (fun _ => ?_)
          refine And.intro (fun c => ?_) (fun c => ?_)
          · rcases hf with ⟨e, _⟩ | ⟨_, e⟩
            · omega
            · exact next 0 (Or.inr ⟨rfl, fun z => e (fun k hk => z k (by omega))⟩)
          · rcases hf with ⟨_, e⟩ | ⟨e, _⟩
            · refine And.intro (by omega) ?_
              refine And.intro (by omega) ?_
              refine And.intro (fun c2 => next 0 (Or.inr ⟨rfl, fun z => z j (by omega) c2⟩)) (fun c2 => next 1 (Or.inl ⟨rfl, fun k hk => ?_⟩))
              by_cases hkj : k = j
              · rw [hkj]; exact c2
              · exact e k (by omega)
            · omega
      refine xq_go hK [4, 11] 60 ?_
      refine And.intro (fun c => absurd c (by omega)) (fun _ => ?_)
      exact inner i 0 _ _ (by omega) rfl (Or.inl ⟨rfl, fun k hk => by omega⟩)
  refine xq_go hK [4] 60 ?_
  exact loop n 0 _ _ _ _ (by omega) rfl rfl
theorem c_M_unlike {lev : Nat} {h : xq_H} {Q : Option xq_V → xq_H → Prop} {n : Nat} (hl : 1 ≤ lev) (en : h 65 11 = n) (hn : n ≤ 8) (hQ : Q (some (xI (xf_ul (h 78) n))) h) : xq_met lev y_M_unlike [xR 64] 81 h Q := by
  refine en_M_unlike (by omega) (fun K hK => ?_)
  have loop : ∀ (d i : Nat) (u iI : Int) (x4 x5 : Option xq_V), i + d = n → iI = i → u = xf_ul (h 78) i → K 4 [some (xR 64), some (xI u), some (xI iI), x4, x5] [] 81 h := by
    intro d
    induction d with
    | zero =>
      intro i u iI x4 x5 hd ei eu
      refine xq_go hK [4] 60 ?_
      refine And.intro (by omega) ?_
      refine And.intro (fun _ => ?_) (fun c => absurd c (by omega))
      rw [show n = i by omega, ← eu] at hQ
      exact hQ
    | succ d ih =>
      intro i u iI x4 x5 hd ei eu
      subst ei
      have hb := xf_ul_bd (h 78) i
      have inner : ∀ (d2 j : Nat) (jI f : Int), j + d2 = i → jI = j → (f = 1 ∧ (∀ k : Nat, k < j → h 78 k ≠ h 78 i) ∨ f = 0 ∧ ¬ (∀ k : Nat, k < j → h 78 k ≠ h 78 i)) → K 14 [some (xR 64), some (xI u), some (xI i), some (xI f), some (xI jI)] [] 81 h := by
        intro d2
        induction d2 with
        | zero =>
          intro j jI f hd2 ej hf
          obtain rfl : j = i := by omega
          have last : ∀ v : Int, v = xf_if (∀ k : Nat, k < j → h 78 k ≠ h 78 j) 1 0 → 0 ≤ v ∧ v ≤ 1 → K 40 [some (xR 64), some (xI u), some (xI j), some (xI f), some (xI jI)] [xI v, xI u] 81 h := by
            intro v ev hv
            refine xq_go hK [4] 60 ?_
            refine And.intro (by omega) ?_
            refine And.intro (by omega) ?_
            exact ih (j + 1) _ _ _ _ (by omega) (by omega) (by rw [xf_ul, ← eu, ← ev])
          refine xq_go hK [4, 14, 40] 60 ?_
          refine And.intro (fun _ => ?_) (fun c => absurd c (by omega))
          refine And.intro (fun c => ?_) (fun c => ?_)
          · rcases hf with ⟨e, _⟩ | ⟨_, e⟩
            · omega
            · exact last 0 (xf_if_f e).symm (by omega)
          · rcases hf with ⟨_, e⟩ | ⟨e, _⟩
            · exact last 1 (xf_if_t e).symm (by omega)
            · omega
        | succ d2 ih2 =>
          intro j jI f hd2 ej hf
          subst ej
          have next : ∀ v : Int, (v = 1 ∧ (∀ k : Nat, k < j + 1 → h 78 k ≠ h 78 i) ∨ v = 0 ∧ ¬ (∀ k : Nat, k < j + 1 → h 78 k ≠ h 78 i)) → K 31 [some (xR 64), some (xI u), some (xI i), some (xI f), some (xI j)] [xI v] 81 h := by
            intro v hv
            refine xq_go hK [4, 14] 60 ?_
            refine And.intro (by omega) ?_
            exact ih2 (j + 1) _ _ (by omega) (by omega) hv
          refine xq_go hK [4, 14, 31] 60 ?_
          refine And.intro (fun c => absurd c (by omega)) (fun _ => ?_)
          refine And.intro (fun c => ?_) (fun c => ?_)
          · rcases hf with ⟨e, _⟩ | ⟨_, e⟩
            · omega
            · exact next 0 (Or.inr ⟨rfl, fun z => e (fun k hk => z k (by omega))⟩)
          · rcases hf with ⟨_, e⟩ | ⟨e, _⟩
            · refine And.intro (by omega) ?_
              refine And.intro (by omega) ?_
              refine And.intro (fun c2 => next 0 (Or.inr ⟨rfl, fun z => z j (by omega) c2⟩)) (fun c2 => next 1 (Or.inl ⟨rfl, fun k hk => ?_⟩))
              by_cases hkj : k = j
              · rw [hkj]; exact c2
              · exact e k (by omega)
            · omega
      refine xq_go hK [4, 14] 60 ?_
      refine And.intro (by omega) ?_
      refine And.intro (fun c => absurd c (by omega)) (fun _ => ?_)
      exact inner i 0 _ _ (by omega) rfl (Or.inl ⟨rfl, fun k hk => by omega⟩)
  refine xq_go hK [4] 60 ?_
  exact loop n 0 _ _ _ _ (by omega) rfl rfl
set_option maxHeartbeats 2000000 in
theorem c_X_runChain {lev : Nat} {h : xq_H} {Q : Option xq_V → xq_H → Prop} {m : Int → Int} {P : List xf_Cl} {md rI : Int} {rn : Nat} {T : Int} (hl : 8 ≤ lev) (I : xr_ok h m P T) (hT : T ≤ 990000) (hmd : 0 ≤ md ∧ md < m 10) (er : rI = rn) (hr : rn ≤ 10)
    (hQ : ∀ h', xr_ck h h' → (∀ i : Int, 0 ≤ i → i < m 11 → h' 63 i = (xf_ch m P md rn).2.1 i) → Q (some (xI (xf_ch m P md rn).2.2)) h') : xq_met lev y_X_runChain [xR 0, xI md, xI rI] 81 h Q := by
  refine en_X_runChain (by omega) (fun K hK => ?_)
  have V1 := I.vm.1
  have V7 := I.vm.2.2.2.2.2.2.1
  have ety := I.ty
  have els := I.now.bs.ls
  have A := xf_ch_I (P := P) I.vm hmd (by omega)
  have rounds : ∀ (d r : Nat) (st r5 : Int) (x6 x7 x8 : Option xq_V) (h2 : xq_H), r + d = rn → r5 = r → st = (xf_ch m P md r).2.2 → xr_ck h h2 → xr_crs h2 (xf_ch m P md r).1 → (∀ i : Int, 0 ≤ i → i < m 11 → h2 63 i = (xf_ch m P md r).2.1 i) → K 23 [some (xR 0), some (xI md), some (xI rI), some (xI (h 3 5)), some (xI st), some (xI r5), x6, x7, x8] [] 81 h2 := by
    intro d
    induction d with
    | zero =>
      intro r st r5 x6 x7 x8 h2 hd e5 est hk C2 hc
      obtain rfl : r = rn := by omega
      refine xq_go hK [23] 60 ?_
      refine And.intro (fun _ => ?_) (fun c => absurd c (by omega))
      rw [est]
      exact hQ h2 hk hc
    | succ d ih =>
      intro r st r5 x6 x7 x8 h2 hd e5 est hk C2 hc
      subst e5
      have hI := A r (by omega)
      have hle : r * (m 11).toNat ≤ 9 * 8 := Nat.mul_le_mul (by omega) (by omega)
      obtain ⟨s0, hs0⟩ : ∃ s0 : xf_G, s0 = ((xf_ch m P md r).1, (xf_ch m P md r).2.1, 1) := ⟨_, rfl⟩
      have nx1 : (xf_ch m P md (r + 1)).1 = (xf_gr P md s0 (m 11).toNat).1 := by rw [hs0]; rfl
      have nx2 : (xf_ch m P md (r + 1)).2.1 = (xf_gr P md s0 (m 11).toNat).2.1 := by rw [hs0]; rfl
      have nx3 : (xf_ch m P md (r + 1)).2.2 = if (xf_gr P md s0 (m 11).toNat).2.2 = 1 ∧ (xf_ch m P md r).2.2 = -5 then (r : Int) else (xf_ch m P md r).2.2 := by rw [hs0]; rfl
      have G := xf_gr_I (P := P) (md := md) (s := s0) (by rw [hs0]; exact hI) hmd (by omega)
      have G1 := xf_gr_01 (P := P) (md := md) (s := s0) (by rw [hs0])
      have inner : ∀ (d2 i : Nat) (f iI : Int) (x8 : Option xq_V) (h3 : xq_H), (i : Int) + d2 = m 11 → iI = i → f = (xf_gr P md s0 i).2.2 → xr_ck h h3 → xr_crs h3 (xf_gr P md s0 i).1 → (∀ i2 : Int, 0 ≤ i2 → i2 < m 11 → h3 63 i2 = (xf_gr P md s0 i).2.1 i2) → K 30 [some (xR 0), some (xI md), some (xI rI), some (xI (h 3 5)), some (xI st), some (xI r), some (xI f), some (xI iI), x8] [] 81 h3 := by
        intro d2
        induction d2 with
        | zero =>
          intro i f iI x8 h3 hd2 ei ef hk3 C3 hc3
          rw [show (m 11).toNat = i by omega] at nx1 nx2 nx3
          rw [← nx1] at C3
          rw [← nx2] at hc3
          rw [← ef, ← est] at nx3
          have next : ∀ st2 : Int, st2 = (xf_ch m P md (r + 1)).2.2 → K 68 [some (xR 0), some (xI md), some (xI rI), some (xI (h 3 5)), some (xI st2), some (xI r), some (xI f), some (xI iI), x8] [] 81 h3 := by
            intro st2 e2
            refine xq_go hK [23] 60 ?_
            refine And.intro (by omega) ?_
            exact ih (r + 1) _ _ _ _ _ h3 (by omega) (by omega) e2 hk3 C3 hc3
          refine xq_go hK [23, 30, 68] 60 ?_
          refine And.intro (fun _ => ?_) (fun c => absurd c (by omega))
          refine And.intro (fun c => next _ (by rw [nx3, if_neg (by omega)])) (fun c => ?_)
          have g1 := G1 i
          refine And.intro (fun c2 => next _ (by rw [nx3, if_neg (fun z => c2 z.2)])) (fun c2 => next _ (by rw [nx3, if_pos ⟨by omega, c2⟩]))
        | succ d2 ih2 =>
          intro i f iI x8 h3 hd2 ei ef hk3 C3 hc3
          subst ei
          obtain ⟨g1, g2, g3, g4, g5⟩ := G i (by omega) (by omega)
          have wi := g5 i (by omega) (by omega)
          have ri := hc3 i (by omega) (by omega)
          have B3 : xr_base h3 (xf_gr P md s0 i).1 P := xf_hi_base g2 V7.1 (xr_base_fr hk3 (by decide) I.now.bs)
          have z1 : (xf_gr P md s0 (i + 1)).1 = xf_ty (xf_gr P md s0 i).1 P md ((xf_gr P md s0 i).2.1 i) := rfl
          have z2 : ∀ k : Int, (xf_gr P md s0 (i + 1)).2.1 k = if k = (i : Int) then xf_made (xf_gr P md s0 i).1 P md ((xf_gr P md s0 i).2.1 i) else (xf_gr P md s0 i).2.1 k := fun _ => rfl
          have z3 : (xf_gr P md s0 (i + 1)).2.2 = if (xf_gr P md s0 i).2.2 = 1 ∧ xf_made (xf_gr P md s0 i).1 P md ((xf_gr P md s0 i).2.1 i) = (xf_gr P md s0 i).2.1 i then 1 else 0 := rfl
          have f01 := G1 i
          refine xq_go hK [23, 30, 53] 60 ?_
          refine And.intro (fun c => absurd c (by omega)) (fun _ => ?_)
          refine And.intro (by omega) ?_
          rw [ri]
          refine ⟨lev - 1, by omega, c_K_typeOnce (by omega) g1 B3 C3 wi (by rw [g2 10 (by omega)]; exact hmd) (fun h4 hs4 B4 C4 => ?_)⟩
          have hk4 : xr_ck h h4 := xs_tr hk3 hs4 (fun _ z => z) (by decide)
          have next : ∀ f2 : Int, f2 = (xf_gr P md s0 (i + 1)).2.2 → K 53 [some (xR 0), some (xI md), some (xI rI), some (xI (h 3 5)), some (xI st), some (xI r), some (xI f), some (xI i), some (xI (xf_made (xf_gr P md s0 i).1 P md ((xf_gr P md s0 i).2.1 i)))] [xI f2] 81 h4 := by
            intro f2 e2
            refine xq_go hK [23, 30] 60 ?_
            refine And.intro (by omega) ?_
            refine And.intro (by omega) ?_
            refine ih2 (i + 1) _ _ _ _ (by omega) (by omega) e2 (xs_u hk4 (by decide) _ _) (xr_crs_fr (xq_u_o (by decide)) (by rw [xq_u_o (by decide)]) (by rw [xq_u_o (by decide)]) (by rw [z1]; exact C4)) (fun k h0 h1 => ?_)
            rw [xu_rd, z2, hs4 63 (by decide)]
            by_cases hki : k = (i : Int)
            · rw [if_pos hki, if_pos hki]
            · rw [if_neg hki, if_neg hki]
              exact hc3 k h0 h1
          have r4 : h4 63 i = (xf_gr P md s0 i).2.1 i := by rw [hs4 63 (by decide)]; exact ri
          refine And.intro (fun c => next 0 (by rw [z3, if_neg (by omega)])) (fun c => ?_)
          refine And.intro (by omega) ?_
          rw [r4]
          refine And.intro (fun c2 => next 0 (by rw [z3, if_neg (fun z => c2 z.2)])) (fun c2 => next 1 (by rw [z3, if_pos ⟨by omega, c2⟩]))
      refine xq_go hK [23, 30] 60 ?_
      refine And.intro (fun c => absurd c (by omega)) (fun _ => ?_)
      exact inner (m 11).toNat 0 _ _ _ h2 (by omega) rfl (by rw [hs0]; rfl) hk (by rw [hs0]; exact C2) (by rw [hs0]; exact hc)
  refine xq_go hK [23] 60 ?_
  refine ⟨lev - 1, by omega, c_cp_4_63 (by omega) (fun h1 hs1 hall => ?_)⟩
  have N1 := xr_now_fr hs1 (by decide) I.now
  refine ⟨lev - 1, by omega, c_K_settle (by omega) I.vm N1 I.vn (fun h2 hs2 C2 => ?_)⟩
  refine rounds rn 0 _ _ _ _ _ _ (by omega) rfl rfl (xs_u (xr_ck_tr (xs_tr xs_rf hs1 (X := []) (by decide) (by decide)) (xr_ck_set hs2)) (by decide) _ _) ⟨fun i h0 h1 => ?_, ?_, ?_⟩ (fun i h0 h1 => ?_)
  · rw [xq_u_o (by decide), C2.wt i h0 h1]
    exact (if_neg (show ¬ (2 + i = 0) by omega)).symm
  · rw [xu_ne (by decide), C2.ty]
    rfl
  · rw [xu_eq]
    rfl
  · rw [xq_u_o (by decide), hs2 63 (by decide), hall i h0 (by omega), I.now.bs.wd i h0 h1]
    rfl
noncomputable def sp_chain (m : Int → Int) (P : List xf_Cl) (md n wh : Int) : Int := xf_if ((0 ≤ md ∧ md < m 10) ∧ ((wh = 0 ∨ wh = 1) ∨ 0 ≤ wh - 10 ∧ wh - 10 < m 11))
  (if 1 ≤ n ∧ n ≤ 10 then (if wh = 0 then xf_ul (xf_ch m P md n.toNat).2.1 (m 11).toNat else if wh = 1 then (xf_ch m P md n.toNat).2.2 else (xf_ch m P md n.toNat).2.1 (wh - 10)) else -2) (-1)
theorem q_X_chain {lev : Nat} {h : xq_H} {Q : Option xq_V → xq_H → Prop} {m : Int → Int} {P : List xf_Cl} {md n wh : Int} {T : Int} (hl : 9 ≤ lev) (I : xr_ok h m P T) (hT : T ≤ 990000) (hwh : -2147483648 ≤ wh ∧ wh ≤ 2147483647) (hQ : ∀ h', xr_ck h h' → Q (some (xI (sp_chain m P md n wh))) h') : xq_met lev y_X_chain [xR 0, xI md, xI n, xI wh] 81 h Q := by
  refine en_X_chain (by omega) (fun K hK => ?_)
  have V1 := I.vm.1
  have ecs := I.now.bs.cs
  have els := I.now.bs.ls
  have a1 := xf_wr_at (k := 10) hwh (by omega) (n := m 11) (by omega)
  unfold sp_chain at hQ
  have bad : ¬ ((0 ≤ md ∧ md < m 10) ∧ ((wh = 0 ∨ wh = 1) ∨ 0 ≤ wh - 10 ∧ wh - 10 < m 11)) → Q (some (xI (-1))) h := by
    intro c
    rw [xf_if_f c] at hQ
    exact hQ h xs_rf
  refine xq_go hK [21] 60 ?_
  refine ⟨lev - 1, by omega, c_C_has (by omega) (fun c => ?_) (fun c => ?_)⟩
  · rw [ecs] at c
    refine And.intro (fun z => absurd z (by decide)) (fun _ => ?_)
    have good : ((wh = 0 ∨ wh = 1) ∨ 0 ≤ wh - 10 ∧ wh - 10 < m 11) → K 21 [some (xR 0), some (xI md), some (xI n), some (xI wh), none] [] 81 h := by
      intro g
      rw [xf_if_t ⟨c, g⟩] at hQ
      refine xq_go hK [] 60 ?_
      have no : ¬ (1 ≤ n ∧ n ≤ 10) → Q (some (xI (-2))) h := by
        intro z
        rw [if_neg z] at hQ
        exact hQ h xs_rf
      refine And.intro (fun c2 => no (by omega)) (fun c2 => And.intro (fun c3 => ?_) (fun c3 => no (by omega)))
      rw [if_pos (show 1 ≤ n ∧ n ≤ 10 by omega)] at hQ
      refine ⟨lev - 1, by omega, c_X_runChain (rn := n.toNat) (by omega) I hT c (by omega) (by omega) (fun h1 hk1 hc => ?_)⟩
      have q := hQ h1 hk1
      have els1 : h1 3 5 = m 11 := by rw [hk1 3 (by decide)]; exact els
      refine And.intro (fun e => ?_) (fun e => And.intro (fun e2 => ?_) (fun e2 => ?_))
      · rw [if_pos e] at q
        refine ⟨lev - 1, by omega, c_X_unlikeOf (n := (m 11).toNat) (by omega) (by omega) (by omega) ?_⟩
        rw [xf_ul_congr (c' := (xf_ch m P md n.toNat).2.1) _ (fun i hi => hc i (by omega) (by omega))]
        exact q
      · rw [if_neg e, if_pos e2] at q
        exact q
      · rw [if_neg e, if_neg e2] at q
        have b : 0 ≤ wh - 10 ∧ wh - 10 < m 11 := by omega
        have ew := a1.2 b.1
        refine And.intro (by omega) ?_
        rw [ew, hc _ b.1 b.2]
        exact q
    refine And.intro (fun c2 => good (Or.inl (Or.inl c2))) (fun c2 => ?_)
    refine And.intro (fun c3 => good (Or.inl (Or.inr c3))) (fun c3 => ?_)
    refine ⟨lev - 1, by omega, c_W_has (by omega) (fun c4 => ?_) (fun c4 => ?_)⟩
    · rw [els] at c4
      exact And.intro (fun _ => good (Or.inr (a1.1.1 c4))) (fun z => absurd z (by decide))
    · rw [els] at c4
      exact And.intro (fun z => absurd rfl z) (fun _ => bad (fun z => z.2.elim (fun y => y.elim c2 c3) (fun y => c4 (a1.1.2 y))))
  · rw [ecs] at c
    exact And.intro (fun _ => bad (fun z => c z.1)) (fun z => absurd rfl z)
set_option maxHeartbeats 1000000 in
theorem c_M_goesRound {lev : Nat} {h : xq_H} {Q : Option xq_V → xq_H → Prop} {m : Int → Int} {P : List xf_Cl} {md : Int} {s0 : xf_G} {b : Nat} (hl : 9 ≤ lev) (e65 : h 65 = s0.1) (hc : ∀ i : Int, 0 ≤ i → i < m 11 → h 78 i = s0.2.1 i) (es : s0.2.2 = 1) (hP : xf_ph m P) (hV : xf_VM m) (hI : xf_gI m s0.1 s0.2.1 b) (hb : m 1 + b + 8 < 1000000) (hmd : 0 ≤ md ∧ md < m 10)
    (hQ : ∀ h', xs_eq [65, 68, 69, 70, 71, 72, 73, 74, 78] h h' → h' 65 = (xf_gr P md s0 (m 11).toNat).1 → (∀ i : Int, 0 ≤ i → i < m 11 → h' 78 i = (xf_gr P md s0 (m 11).toNat).2.1 i) → Q (some (xI (1 - (xf_gr P md s0 (m 11).toNat).2.2))) h') : xq_met lev y_M_goesRound [xR 64, xI md] 81 h Q := by
  refine en_M_goesRound (by omega) (fun K hK => ?_)
  have V1 := hV.1
  have G := xf_gr_I (P := P) (md := md) (s := s0) hI hmd hb
  have G1 := xf_gr_01 (P := P) (md := md) (s := s0) es
  have inner : ∀ (d2 i : Nat) (f iI : Int) (x4 : Option xq_V) (h3 : xq_H), (i : Int) + d2 = m 11 → iI = i → f = 1 - (xf_gr P md s0 i).2.2 → xs_eq [65, 68, 69, 70, 71, 72, 73, 74, 78] h h3 → h3 65 = (xf_gr P md s0 i).1 → (∀ i2 : Int, 0 ≤ i2 → i2 < m 11 → h3 78 i2 = (xf_gr P md s0 i).2.1 i2) → K 4 [some (xR 64), some (xI md), some (xI f), some (xI iI), x4] [] 81 h3 := by
    intro d2
    induction d2 with
    | zero =>
      intro i f iI x4 h3 hd2 ei ef hs3 r3 hc3
      rw [show (m 11).toNat = i by omega, ← ef] at hQ
      have g2 := (G i (by omega) (by omega)).2.1
      have e11 : h3 65 11 = m 11 := by rw [r3]; exact g2 11 (by omega)
      have g1 := G1 i
      refine xq_go hK [4] 60 ?_
      refine And.intro (by omega) ?_
      refine And.intro (fun _ => ?_) (fun c => absurd c (by omega))
      exact And.intro (by omega) (hQ h3 hs3 r3 hc3)
    | succ d2 ih2 =>
      intro i f iI x4 h3 hd2 ei ef hs3 r3 hc3
      subst ei
      obtain ⟨g1, g2, g3, g4, g5⟩ := G i (by omega) (by omega)
      have e11 : h3 65 11 = m 11 := by rw [r3]; exact g2 11 (by omega)
      have wi := g5 i (by omega) (by omega)
      have ri := hc3 i (by omega) (by omega)
      have z1 : (xf_gr P md s0 (i + 1)).1 = xf_ty (xf_gr P md s0 i).1 P md ((xf_gr P md s0 i).2.1 i) := rfl
      have z2 : ∀ k : Int, (xf_gr P md s0 (i + 1)).2.1 k = if k = (i : Int) then xf_made (xf_gr P md s0 i).1 P md ((xf_gr P md s0 i).2.1 i) else (xf_gr P md s0 i).2.1 k := fun _ => rfl
      have z3 : (xf_gr P md s0 (i + 1)).2.2 = if (xf_gr P md s0 i).2.2 = 1 ∧ xf_made (xf_gr P md s0 i).1 P md ((xf_gr P md s0 i).2.1 i) = (xf_gr P md s0 i).2.1 i then 1 else 0 := rfl
      have f01 := G1 i
      refine xq_go hK [4, 29] 60 ?_
      refine And.intro (by omega) ?_
      refine And.intro (fun c => absurd c (by omega)) (fun _ => ?_)
      refine And.intro (by omega) ?_
      rw [ri]
      refine ⟨lev - 1, by omega, c_M_types (P := P) (by omega) (by rw [r3]; exact g1) (by rw [r3]; exact xf_hi_ph g2 hP) wi (by rw [r3, g2 10 (by omega)]; exact hmd) (fun h4 hs4 e4 => ?_)⟩
      rw [r3] at e4 ⊢
      have r4 : h4 78 i = (xf_gr P md s0 i).2.1 i := by rw [hs4 78 (by decide)]; exact ri
      have next : ∀ f2 : Int, f2 = 1 - (xf_gr P md s0 (i + 1)).2.2 → K 29 [some (xR 64), some (xI md), some (xI f), some (xI i), some (xI (xf_made (xf_gr P md s0 i).1 P md ((xf_gr P md s0 i).2.1 i)))] [xI f2] 81 h4 := by
        intro f2 e2
        refine xq_go hK [4] 60 ?_
        refine And.intro (by omega) ?_
        refine And.intro (by omega) ?_
        refine ih2 (i + 1) _ _ _ _ (by omega) (by omega) e2 (xs_u (xs_tr hs3 hs4 (fun _ z => z) (by decide)) (by decide) _ _) (by rw [xq_u_o (by decide), e4, z1]) (fun k h0 h1 => ?_)
        rw [xu_rd, z2, hs4 78 (by decide)]
        by_cases hki : k = (i : Int)
        · rw [if_pos hki, if_pos hki]
        · rw [if_neg hki, if_neg hki]
          exact hc3 k h0 h1
      refine And.intro (fun c => next 1 (by rw [z3, if_neg (by omega)]; rfl)) (fun c => ?_)
      refine And.intro (by omega) ?_
      rw [r4]
      refine And.intro (fun c2 => next 0 (by rw [z3, if_pos ⟨by omega, c2⟩]; rfl)) (fun c2 => next 1 (by rw [z3, if_neg (fun z => c2 z.2)]; rfl))
  refine xq_go hK [4] 60 ?_
  exact inner (m 11).toNat 0 _ _ _ h (by omega) rfl (by show (0 : Int) = 1 - s0.2.2; omega) xs_rf e65 hc
set_option maxHeartbeats 2000000 in
theorem q_M_chain {lev : Nat} {h : xq_H} {Q : Option xq_V → xq_H → Prop} {P : List xf_Cl} {md n wh : Int} (hl : 10 ≤ lev) (hV : xf_VM (h 65)) (hP : xf_ph (h 65) P) (hT : h 65 1 ≤ 990000) (hwh : -2147483648 ≤ wh ∧ wh ≤ 2147483647) (hQ : ∀ h', xr_rk h h' → Q (some (xI (sp_chain (h 65) P md n wh))) h') : xq_met lev y_M_chain [xR 64, xI md, xI n, xI wh] 81 h Q := by
  refine en_M_chain (by omega) (fun K hK => ?_)
  have V1 := hV.1
  have V3 := hV.2.2.1
  have a1 := xf_wr_at (k := 10) hwh (by omega) (n := h 65 11) (by omega)
  unfold sp_chain at hQ
  have bad : ¬ ((0 ≤ md ∧ md < h 65 10) ∧ ((wh = 0 ∨ wh = 1) ∨ 0 ≤ wh - 10 ∧ wh - 10 < h 65 11)) → Q (some (xI (-1))) h := by
    intro c
    rw [xf_if_f c] at hQ
    exact hQ h xr_rk_rf
  refine xq_go hK [17] 60 ?_
  refine ⟨lev - 1, by omega, c_M_isMender (by omega) V3 (fun c => ?_) (fun c => ?_)⟩
  · refine And.intro (fun z => absurd z (by decide)) (fun _ => ?_)
    have good : ((wh = 0 ∨ wh = 1) ∨ 0 ≤ wh - 10 ∧ wh - 10 < h 65 11) → K 17 [some (xR 64), some (xI md), some (xI n), some (xI wh), none, none] [] 81 h := by
      intro g
      rw [xf_if_t ⟨c, g⟩] at hQ
      refine xq_go hK [26] 60 ?_
      refine ⟨lev - 1, by omega, c_M_in (by omega) (fun c2 => ?_) (fun c2 => ?_)⟩
      · refine And.intro (fun _ => ?_) (fun z => absurd z (by decide))
        rw [if_pos c2] at hQ
        have A := xf_ch_I (P := P) hV c (by omega)
        have rounds : ∀ (d r : Nat) (st r5 : Int) (h2 : xq_H), (r : Int) + d = n → r5 = r → st = (xf_ch (h 65) P md r).2.2 → xr_r5 h h2 → h2 65 = (xf_ch (h 65) P md r).1 → (∀ i : Int, 0 ≤ i → i < h 65 11 → h2 78 i = (xf_ch (h 65) P md r).2.1 i) → (∀ k : Int, 0 ≤ k → k < 10 → h2 67 k = h 65 k) → K 55 [some (xR 64), some (xI md), some (xI n), some (xI wh), some (xI st), some (xI r5)] [] 81 h2 := by
          intro d
          induction d with
          | zero =>
            intro r st r5 h2 hd e5 est hk e65 hc e67
            rw [show n.toNat = r by omega] at hQ
            obtain ⟨b1, b2, b3, b4, b5⟩ := A r (by omega)
            refine xq_go hK [55] 60 ?_
            refine And.intro (fun _ => ?_) (fun c => absurd c (by omega))
            refine ⟨lev - 1, by omega, c_M_goesBack (by omega) (fun h3 hs3 hall => ?_)⟩
            have r3 : h3 65 = h 65 := funext (fun k => by
              rw [hall k, e65]
              by_cases ck : 0 ≤ k ∧ k < 10
              · rw [if_pos ck]
                exact e67 k ck.1 ck.2
              · rw [if_neg ck]
                by_cases ck2 : k < 0
                · exact b4 k ck2
                · exact b2 k (by omega))
            have hk3 : xr_rk h h3 := xr_r5_rk (xr_r5_tr hk (xr_r5_s hs3 (by decide))) r3
            have hc3 : ∀ i : Int, 0 ≤ i → i < h 65 11 → h3 78 i = (xf_ch (h 65) P md r).2.1 i := fun i h0 h1 => by rw [hs3 78 (by decide)]; exact hc i h0 h1
            have q := hQ h3 hk3
            refine And.intro (fun e => ?_) (fun e => ?_)
            · rw [if_neg e] at q
              refine And.intro (fun e2 => ?_) (fun e2 => ?_)
              · rw [if_neg e2] at q
                have b : 0 ≤ wh - 10 ∧ wh - 10 < h 65 11 := by omega
                have ew := a1.2 b.1
                refine And.intro (by omega) ?_
                rw [ew, hc3 _ b.1 b.2]
                exact q
              · rw [if_pos e2, ← est] at q
                exact q
            · rw [if_pos e] at q
              refine ⟨lev - 1, by omega, c_M_unlike (n := (h 65 11).toNat) (by omega) (by rw [r3]; omega) (by omega) ?_⟩
              rw [xf_ul_congr (c' := (xf_ch (h 65) P md r).2.1) _ (fun i hi => hc3 i (by omega) (by omega))]
              exact q
          | succ d ih =>
            intro r st r5 h2 hd e5 est hk e65 hc e67
            subst e5
            have hI := A r (by omega)
            have hle : r * (h 65 11).toNat ≤ 9 * 8 := Nat.mul_le_mul (by omega) (by omega)
            obtain ⟨s0, hs0⟩ : ∃ s0 : xf_G, s0 = ((xf_ch (h 65) P md r).1, (xf_ch (h 65) P md r).2.1, 1) := ⟨_, rfl⟩
            have nx1 : (xf_ch (h 65) P md (r + 1)).1 = (xf_gr P md s0 (h 65 11).toNat).1 := by rw [hs0]; rfl
            have nx2 : (xf_ch (h 65) P md (r + 1)).2.1 = (xf_gr P md s0 (h 65 11).toNat).2.1 := by rw [hs0]; rfl
            have nx3 : (xf_ch (h 65) P md (r + 1)).2.2 = if (xf_gr P md s0 (h 65 11).toNat).2.2 = 1 ∧ (xf_ch (h 65) P md r).2.2 = -5 then (r : Int) else (xf_ch (h 65) P md r).2.2 := by rw [hs0]; rfl
            have G1 := xf_gr_01 (P := P) (md := md) (s := s0) (by rw [hs0]) (h 65 11).toNat
            rw [← est] at nx3
            refine xq_go hK [55] 60 ?_
            refine And.intro (fun c => absurd c (by omega)) (fun _ => ?_)
            refine ⟨lev - 1, by omega, c_M_goesRound (m := h 65) (P := P) (s0 := s0) (b := r * (h 65 11).toNat) (by omega) (by rw [hs0]; exact e65) (by rw [hs0]; exact hc) (by rw [hs0]) hP hV (by rw [hs0]; exact hI) (by omega) c (fun h3 hs3 r3 hc3 => ?_)⟩
            have hk3 : xr_r5 h h3 := xr_r5_tr hk (xr_r5_s hs3 (by decide))
            have e673 : ∀ k : Int, 0 ≤ k → k < 10 → h3 67 k = h 65 k := fun k h0 h1 => by rw [hs3 67 (by decide)]; exact e67 k h0 h1
            rw [← nx1] at r3
            rw [← nx2] at hc3
            refine And.intro (fun c3 => ?_) (fun c3 => ?_)
            · refine And.intro (by omega) ?_
              exact ih (r + 1) _ _ h3 (by omega) (by omega) (by rw [nx3, if_neg (by omega)]) hk3 r3 hc3 e673
            · refine And.intro (fun c4 => ?_) (fun c4 => ?_)
              · refine And.intro (by omega) ?_
                exact ih (r + 1) _ _ h3 (by omega) (by omega) (by rw [nx3, if_neg (fun z => c4 z.2)]) hk3 r3 hc3 e673
              · refine And.intro (by omega) ?_
                exact ih (r + 1) _ _ h3 (by omega) (by omega) (by rw [nx3, if_pos ⟨by omega, c4⟩]) hk3 r3 hc3 e673
        -- the words are taken over
        have take : ∀ (d i : Nat) (iI : Int) (h2 : xq_H), (i : Int) + d = h 65 11 → iI = i → xs_eq [78] h h2 → (∀ k : Int, 0 ≤ k → k < i → h2 78 k = h 65 (18 + k)) → K 26 [some (xR 64), some (xI md), some (xI n), some (xI wh), some (xI iI), none] [] 81 h2 := by
          intro d
          induction d with
          | zero =>
            intro i iI h2 hd ei hs hall
            have e65 : h2 65 = h 65 := hs 65 (by decide)
            refine xq_go hK [26, 55] 60 ?_
            refine And.intro (by omega) ?_
            rw [e65]
            refine And.intro (fun _ => ?_) (fun c => absurd c (by omega))
            refine ⟨lev - 1, by omega, c_M_keeps (by omega) (fun h3 hs3 hkp => ?_)⟩
            refine And.intro (by omega) ?_
            have r3 : h3 65 = h 65 := (hs3 65 (by decide)).trans e65
            refine rounds n.toNat 0 _ _ _ (by omega) rfl rfl (xr_r5_u (xr_r5_tr (xr_r5_s hs (by decide)) (xr_r5_s hs3 (by decide))) _ _) (funext (fun k => ?_)) (fun k h0 h1 => ?_) (fun k h0 h1 => ?_)
            · rw [xu_rd, r3]
              rfl
            · rw [xq_u_o (by decide), hs3 78 (by decide), hall k h0 (by omega)]
              rfl
            · rw [xq_u_o (by decide), hkp k h0 h1, e65]
          | succ d ih =>
            intro i iI h2 hd ei hs hall
            subst ei
            have e65 : h2 65 = h 65 := hs 65 (by decide)
            refine xq_go hK [26, 55] 60 ?_
            refine And.intro (by omega) ?_
            rw [e65]
            refine And.intro (fun c => absurd c (by omega)) (fun _ => ?_)
            refine And.intro (by omega) ?_
            refine And.intro (by omega) ?_
            refine And.intro (by omega) ?_
            refine And.intro (by omega) ?_
            refine ih (i + 1) _ _ (by omega) (by omega) (xs_u hs (by decide) _ _) (fun k h0 h1 => ?_)
            rw [xu_rd, e65]
            by_cases hki : k = (i : Int)
            · rw [if_pos hki, hki]
            · rw [if_neg hki]
              exact hall k h0 (by omega)
        exact take (h 65 11).toNat 0 _ h (by omega) rfl xs_rf (fun k h0 h1 => by omega)
      · refine And.intro (fun z => absurd rfl z) (fun _ => ?_)
        rw [if_neg c2] at hQ
        exact hQ h xr_rk_rf
    refine ⟨lev - 1, by omega, c_M_in (by omega) (fun c2 => ?_) (fun c2 => ?_)⟩
    · exact And.intro (fun _ => good (Or.inl (by omega))) (fun z => absurd z (by decide))
    · refine And.intro (fun z => absurd rfl z) (fun _ => ?_)
      refine ⟨lev - 1, by omega, c_M_isListed (by omega) V1 (fun c4 => ?_) (fun c4 => ?_)⟩
      · exact And.intro (fun _ => good (Or.inr (a1.1.1 c4))) (fun z => absurd z (by decide))
      · exact And.intro (fun z => absurd rfl z) (fun _ => bad (fun z => z.2.elim (fun y => c2 (by omega)) (fun y => c4 (a1.1.2 y))))
  · exact And.intro (fun _ => bad (fun z => c z.1)) (fun z => absurd rfl z)
