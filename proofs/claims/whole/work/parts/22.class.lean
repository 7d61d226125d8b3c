/-! WORDS BY THEIR LETTERS -/
theorem xf_cut_add {w : Int} (a : Nat) : ∀ b : Nat, xf_cut (xf_cut w a) b = xf_cut w (a + b)
  | 0 => rfl
  | b + 1 => by
    show xf_cut (xf_cut w a) b / 10 = xf_cut w (a + b) / 10
    rw [xf_cut_add a b]
theorem xf_cut_0 {w : Int} (hw : xf_wd w) {n : Nat} (hn : xf_sz w = n) : xf_cut w n = 0 := by
  have h1 := hw.1
  have h2 := hw.2.1
  have h3 := xf_szc w (by omega)
  rcases h3 with h | h | h | h | h | h
  · omega
  · obtain rfl : n = 1 := by omega
    show w / 10 = 0
    omega
  · obtain rfl : n = 2 := by omega
    show w / 10 / 10 = 0
    omega
  · obtain rfl : n = 3 := by omega
    show w / 10 / 10 / 10 = 0
    omega
  · obtain rfl : n = 4 := by omega
    show w / 10 / 10 / 10 / 10 = 0
    omega
  · obtain rfl : n = 5 := by omega
    show w / 10 / 10 / 10 / 10 / 10 = 0
    omega
theorem xf_cut_ext : ∀ (n : Nat) {a b : Int}, xf_cut a n = 0 → xf_cut b n = 0 → (∀ k : Nat, k < n → xf_cut a k % 10 = xf_cut b k % 10) → a = b
  | 0, a, b, ha, hb, _ => by
    have ha2 : a = 0 := ha
    have hb2 : b = 0 := hb
    rw [ha2, hb2]
  | n + 1, a, b, ha, hb, h => by
    rw [xf_cut_s] at ha hb
    have e := xf_cut_ext n ha hb (fun k hk => by
      have := h (k + 1) (by omega)
      rw [xf_cut_s, xf_cut_s] at this
      exact this)
    have h0 : a % 10 = b % 10 := h 0 (by omega)
    omega
/-- a beginning, letter by letter -/
theorem xf_beg_lt {a b : Int} (ha : xf_wd a) (hb : xf_wd b) {n g : Nat} (hn : xf_sz a = n) (hg : xf_sz b = g) (hng : n ≤ g) : (∀ k : Nat, k < n → xf_lt a n k = xf_lt b g k) ↔ xf_cut b (g - n) = a := by
  constructor
  · intro h
    refine xf_cut_ext n ?_ (xf_cut_0 ha hn) (fun k hk => ?_)
    · rw [xf_cut_add, show g - n + n = g by omega]
      exact xf_cut_0 hb hg
    · have := h (n - 1 - k) (by omega)
      unfold xf_lt at this
      rw [show n - 1 - (n - 1 - k) = k by omega, show g - 1 - (n - 1 - k) = g - n + k by omega] at this
      rw [xf_cut_add]
      exact this.symm
  · intro h k hk
    unfold xf_lt
    rw [← h, xf_cut_add, show g - n + (n - 1 - k) = g - 1 - k by omega]
/-! THE CLASS, held against a row m and a telephone P -/
abbrev xr_base (h : xq_H) (m : Int → Int) (P : List xf_Cl) : Prop :=
  (h 3 5 = m 11) ∧
  (∀ i : Int, 0 ≤ i → i < m 11 → h 4 i = m (18 + i)) ∧
  (∀ i : Int, 0 ≤ i → i < m 11 → h 6 i = m (26 + i)) ∧
  (∀ i : Int, 0 ≤ i → i < m 11 → h 7 i = xf_sz (m (18 + i))) ∧
  (∀ i : Int, 0 ≤ i → i < m 11 → ∀ k : Nat, (k : Int) < xf_sz (m (18 + i)) → h 8 (i * 5 + k) = xf_lt (m (18 + i)) (xf_sz (m (18 + i))).toNat k) ∧
  (h 9 3 = m 10) ∧
  (∀ i : Int, 0 ≤ i → i < m 10 → h 10 i = m (34 + i)) ∧
  (∀ i : Int, 0 ≤ i → i < m 10 → h 11 i = m (39 + i)) ∧
  (∀ i : Int, 0 ≤ i → i < m 10 → ∀ k : Int, 0 ≤ k → k < 4 → h 12 (i * 4 + k) = m (44 + 4 * i + k)) ∧
  (h 13 5 = m 16) ∧
  (∀ i : Int, 0 ≤ i → i < m 16 → h 16 i = m (104 + i)) ∧
  (h 17 0 = xf_lim m) ∧
  (h 17 1 = xf_stp m) ∧
  (h 17 4 = P.length) ∧
  (xf_len P ≤ 100) ∧
  (xf_okP P) ∧
  (P.length ≤ 10) ∧
  (xf_cls h 0 0 P)
theorem xr_base.ls {h : xq_H} {m : Int → Int} {P : List xf_Cl} (B : xr_base h m P) : h 3 5 = m 11 := B.1
theorem xr_base.wd {h : xq_H} {m : Int → Int} {P : List xf_Cl} (B : xr_base h m P) : ∀ i : Int, 0 ≤ i → i < m 11 → h 4 i = m (18 + i) := B.2.1
theorem xr_base.nx {h : xq_H} {m : Int → Int} {P : List xf_Cl} (B : xr_base h m P) : ∀ i : Int, 0 ≤ i → i < m 11 → h 6 i = m (26 + i) := B.2.2.1
theorem xr_base.sz {h : xq_H} {m : Int → Int} {P : List xf_Cl} (B : xr_base h m P) : ∀ i : Int, 0 ≤ i → i < m 11 → h 7 i = xf_sz (m (18 + i)) := B.2.2.2.1
theorem xr_base.lt {h : xq_H} {m : Int → Int} {P : List xf_Cl} (B : xr_base h m P) : ∀ i : Int, 0 ≤ i → i < m 11 → ∀ k : Nat, (k : Int) < xf_sz (m (18 + i)) → h 8 (i * 5 + k) = xf_lt (m (18 + i)) (xf_sz (m (18 + i))).toNat k := B.2.2.2.2.1
theorem xr_base.cs {h : xq_H} {m : Int → Int} {P : List xf_Cl} (B : xr_base h m P) : h 9 3 = m 10 := B.2.2.2.2.2.1
theorem xr_base.kd {h : xq_H} {m : Int → Int} {P : List xf_Cl} (B : xr_base h m P) : ∀ i : Int, 0 ≤ i → i < m 10 → h 10 i = m (34 + i) := B.2.2.2.2.2.2.1
theorem xr_base.vs {h : xq_H} {m : Int → Int} {P : List xf_Cl} (B : xr_base h m P) : ∀ i : Int, 0 ≤ i → i < m 10 → h 11 i = m (39 + i) := B.2.2.2.2.2.2.2.1
theorem xr_base.rw {h : xq_H} {m : Int → Int} {P : List xf_Cl} (B : xr_base h m P) : ∀ i : Int, 0 ≤ i → i < m 10 → ∀ k : Int, 0 ≤ k → k < 4 → h 12 (i * 4 + k) = m (44 + 4 * i + k) := B.2.2.2.2.2.2.2.2.1
theorem xr_base.ll {h : xq_H} {m : Int → Int} {P : List xf_Cl} (B : xr_base h m P) : h 13 5 = m 16 := B.2.2.2.2.2.2.2.2.2.1
theorem xr_base.lf {h : xq_H} {m : Int → Int} {P : List xf_Cl} (B : xr_base h m P) : ∀ i : Int, 0 ≤ i → i < m 16 → h 16 i = m (104 + i) := B.2.2.2.2.2.2.2.2.2.2.1
theorem xr_base.li {h : xq_H} {m : Int → Int} {P : List xf_Cl} (B : xr_base h m P) : h 17 0 = xf_lim m := B.2.2.2.2.2.2.2.2.2.2.2.1
theorem xr_base.st {h : xq_H} {m : Int → Int} {P : List xf_Cl} (B : xr_base h m P) : h 17 1 = xf_stp m := B.2.2.2.2.2.2.2.2.2.2.2.2.1
theorem xr_base.pc {h : xq_H} {m : Int → Int} {P : List xf_Cl} (B : xr_base h m P) : h 17 4 = P.length := B.2.2.2.2.2.2.2.2.2.2.2.2.2.1
theorem xr_base.pl {h : xq_H} {m : Int → Int} {P : List xf_Cl} (B : xr_base h m P) : xf_len P ≤ 100 := B.2.2.2.2.2.2.2.2.2.2.2.2.2.2.1
theorem xr_base.po {h : xq_H} {m : Int → Int} {P : List xf_Cl} (B : xr_base h m P) : xf_okP P := B.2.2.2.2.2.2.2.2.2.2.2.2.2.2.2.1
theorem xr_base.pt {h : xq_H} {m : Int → Int} {P : List xf_Cl} (B : xr_base h m P) : P.length ≤ 10 := B.2.2.2.2.2.2.2.2.2.2.2.2.2.2.2.2.1
theorem xr_base.cl {h : xq_H} {m : Int → Int} {P : List xf_Cl} (B : xr_base h m P) : xf_cls h 0 0 P := B.2.2.2.2.2.2.2.2.2.2.2.2.2.2.2.2.2
/-- the maker's course -/
abbrev xr_crs (h : xq_H) (m : Int → Int) : Prop :=
  (∀ i : Int, 0 ≤ i → i < m 11 → h 26 i = m (2 + i)) ∧
  (h 1 2 = m 1) ∧
  (h 1 3 = xf_last m)
theorem xr_crs.wt {h : xq_H} {m : Int → Int} (B : xr_crs h m) : ∀ i : Int, 0 ≤ i → i < m 11 → h 26 i = m (2 + i) := B.1
theorem xr_crs.ty {h : xq_H} {m : Int → Int} (B : xr_crs h m) : h 1 2 = m 1 := B.2.1
theorem xr_crs.la {h : xq_H} {m : Int → Int} (B : xr_crs h m) : h 1 3 = xf_last m := B.2.2
theorem xf_cls_congr {h h' : xq_H} (e18 : h' 18 = h 18) (e19 : h' 19 = h 19) (e20 : h' 20 = h 20) : ∀ (P : List xf_Cl) (c p : Int), xf_cls h c p P → xf_cls h' c p P
  | [], _, _, _ => trivial
  | (a, E) :: P, c, p, hc => ⟨by rw [e18]; exact hc.1, by rw [e19]; exact hc.2.1, by rw [e20]; exact hc.2.2.1, xf_cls_congr e18 e19 e20 P _ _ hc.2.2.2⟩
theorem xr_base_fr {X : List Nat} {h h' : xq_H} {m : Int → Int} {P : List xf_Cl} (hs : xs_eq X h h') (hX : ∀ o ∈ [3, 4, 6, 7, 8, 9, 10, 11, 12, 13, 16, 17, 18, 19, 20], o ∉ X) (B : xr_base h m P) : xr_base h' m P := by
  have e := fun o ho => hs o (hX o ho)
  refine ⟨?_, ?_, ?_, ?_, ?_, ?_, ?_, ?_, ?_, ?_, ?_, ?_, ?_, ?_, ?_, ?_, ?_, ?_⟩
  · rw [e 3 (by decide)]; exact B.ls
  · rw [e 4 (by decide)]; exact B.wd
  · rw [e 6 (by decide)]; exact B.nx
  · rw [e 7 (by decide)]; exact B.sz
  · rw [e 8 (by decide)]; exact B.lt
  · rw [e 9 (by decide)]; exact B.cs
  · rw [e 10 (by decide)]; exact B.kd
  · rw [e 11 (by decide)]; exact B.vs
  · rw [e 12 (by decide)]; exact B.rw
  · rw [e 13 (by decide)]; exact B.ll
  · rw [e 16 (by decide)]; exact B.lf
  · rw [e 17 (by decide)]; exact B.li
  · rw [e 17 (by decide)]; exact B.st
  · rw [e 17 (by decide)]; exact B.pc
  · exact B.pl
  · exact B.po
  · exact B.pt
  · exact xf_cls_congr (e 18 (by decide)) (e 19 (by decide)) (e 20 (by decide)) _ _ _ B.cl
theorem xr_crs_fr {h h' : xq_H} {m : Int → Int} (e26 : h' 26 = h 26) (e2 : h' 1 2 = h 1 2) (e3 : h' 1 3 = h 1 3) (C : xr_crs h m) : xr_crs h' m := ⟨by rw [e26]; exact C.wt, by rw [e2]; exact C.ty, by rw [e3]; exact C.la⟩
/-- the letters of the word that is typed are laid out -/
def xr_spr (h : xq_H) (w : Int) : Prop := h 1 5 = xf_sz w ∧ ∀ k : Nat, (k : Int) < xf_sz w → h 27 k = xf_lt w (xf_sz w).toNat k
theorem xf_run_congr {f g : Int → Int} (hfg : ∀ q : Int, 0 ≤ q → q ≤ 5 → f q = g q) : ∀ (ts : List Int) (st : List Bool) {s e : Nat}, xf_wf ts s e → xf_run f ts st = xf_run g ts st
  | [], _, _, _, _ => rfl
  | t :: ts, st, s, e, hw => by
    rw [xf_run, xf_run]
    rcases hw with ⟨hwt, hs, hw⟩ | ⟨ht, hs, hw⟩ | ⟨ht, hs, hw⟩
    · have e1 : xf_op f t st = xf_op g t st := by
        have := hwt.1
        unfold xf_op
        rw [if_neg (by omega), if_neg (by omega), if_neg (by omega), if_neg (by omega), if_neg (by omega), if_neg (by omega)]
        rw [show xf_b (xf_tst f t) = xf_b (xf_tst g t) from congrArg xf_b (propext (xf_tst_congr hfg hwt))]
      rw [e1]
      exact xf_run_congr hfg ts _ hw
    · rw [show xf_op f t st = xf_op g t st by unfold xf_op; rw [if_pos ht, if_pos ht]]
      exact xf_run_congr hfg ts _ hw
    · rw [show xf_op f t st = xf_op g t st by rcases ht with rfl | rfl <;> rfl]
      exact xf_run_congr hfg ts _ hw
theorem xf_sum_congr {f g : Int → Int} (hfg : ∀ q : Int, 0 ≤ q → q ≤ 5 → f q = g q) : ∀ (P : List xf_Cl), xf_okP P → xf_sum f P = xf_sum g P
  | [], _ => rfl
  | (a, E) :: P, ho => by
    rw [xf_sum, xf_sum, xf_sum_congr hfg P (fun c hc => ho c (List.mem_cons_of_mem _ hc))]
    have e : xf_ev f E = xf_ev g E := by
      unfold xf_ev
      rw [xf_run_congr hfg E [] (ho _ List.mem_cons_self).1]
    rw [e]
theorem xb_bit8 : ∀ x : Nat, x < 256 → ∀ k : Nat, k < 8 → 0 ≤ xq_and (xq_shr x k) 1 ∧ xq_and (xq_shr x k) 1 ≤ 1 := by decide +kernel
theorem xb_bit {x k : Int} (hx : 0 ≤ x ∧ x ≤ 255) (hk : 0 ≤ k ∧ k < 8) : 0 ≤ xq_and (xq_shr x k) 1 ∧ xq_and (xq_shr x k) 1 ≤ 1 := by
  obtain ⟨a, rfl⟩ := Int.eq_ofNat_of_zero_le hx.1
  obtain ⟨b, rfl⟩ := Int.eq_ofNat_of_zero_le hk.1
  exact xb_bit8 a (by omega) b (by omega)
theorem c_K_isBeginning {lev : Nat} {h : xq_H} {Q : Option xq_V → xq_H → Prop} {m : Int → Int} {P : List xf_Cl} {w i : Int} (hl : 1 ≤ lev) (hV : xf_VM m) (B : xr_base h m P) (hw : xf_wd w) (hS : xr_spr h w) (hi : 0 ≤ i ∧ i < m 11)
    (h1 : xf_beg w (m (18 + i)) → Q (some (xI 1)) h) (h0 : ¬ xf_beg w (m (18 + i)) → Q (some (xI 0)) h) : xq_met lev y_K_isBeginning [xR 1, xI i] 81 h Q := by
  refine en_K_isBeginning (by omega) (fun K hK => ?_)
  have w1 := (hV.2.1 i hi.1 hi.2).1
  have V1 := hV.1
  have b1 := xf_szb hw
  have b2 := xf_szb w1
  have esz := B.sz i hi.1 hi.2
  have esp := hS.1
  obtain ⟨n, hn⟩ : ∃ n : Nat, xf_sz w = n := ⟨(xf_sz w).toNat, by omega⟩
  obtain ⟨g, hg⟩ : ∃ g : Nat, xf_sz (m (18 + i)) = g := ⟨(xf_sz (m (18 + i))).toNat, by omega⟩
  have hsl := hS.2
  have hlt := B.lt i hi.1 hi.2
  unfold xf_beg at h1 h0
  rw [hn, hg] at h1 h0
  rw [hn] at esp hsl
  rw [hg] at esz hlt
  simp only [Int.toNat_natCast] at h1 h0 hsl hlt
  have loop : ∀ (d k : Nat) (kI : Int), n < g → k + d = n → kI = k → (∀ j : Nat, j < k → xf_lt w n j = xf_lt (m (18 + i)) g j) → K 13 [some (xR 1), some (xI i), some (xI kI)] [] 81 h := by
    intro d
    induction d with
    | zero =>
      intro k kI hng hd ek hall
      refine xq_go hK [13] 60 ?_
      refine And.intro (fun c => ?_) (fun c => absurd c (by omega))
      exact And.intro (Or.inr rfl) (h1 ⟨by omega, (xf_beg_lt hw w1 hn hg (by omega)).1 (fun j hj => hall j (by omega))⟩)
    | succ d ih =>
      intro k kI hng hd ek hall
      refine xq_go hK [13] 60 ?_
      refine And.intro (fun c => absurd c (by omega)) (fun _ => ?_)
      refine And.intro (by omega) ?_
      refine And.intro (by omega) ?_
      refine And.intro (by omega) ?_
      refine And.intro (by omega) ?_
      rw [ek, hsl k (by omega), hlt k (by omega)]
      refine And.intro (fun c => ?_) (fun c => ?_)
      · refine And.intro (by omega) ?_
        refine ih (k + 1) _ hng (by omega) (by omega) (fun j hj => ?_)
        by_cases hjk : j = k
        · rw [hjk]; exact c
        · exact hall j (by omega)
      · exact And.intro (Or.inl rfl) (h0 (fun z => c ((xf_beg_lt hw w1 hn hg (by omega)).2 z.2 k (by omega))))
  refine xq_go hK [13] 60 ?_
  refine And.intro (by omega) ?_
  refine And.intro (fun c => ?_) (fun c => ?_)
  · exact loop n 0 _ (by omega) (by omega) rfl (fun j hj => by omega)
  · exact And.intro (Or.inl rfl) (h0 (fun z => by omega))
theorem c_K_factsOf {lev : Nat} {h : xq_H} {Q : Option xq_V → xq_H → Prop} {m : Int → Int} {P : List xf_Cl} {w i md kd : Int} (hl : 2 ≤ lev) (hV : xf_VM m) (B : xr_base h m P) (C : xr_crs h m) (hS : xr_spr h w) (hi : 0 ≤ i ∧ i < m 11) (hk : kd = m (34 + md))
    (hQ : ∀ h', xs_eq [29] h h' → (∀ q : Int, 0 ≤ q → q ≤ 5 → h' 29 q = xf_fact m md (xf_sz w) i q) → Q (some (xR 29)) h') : xq_met lev y_K_factsOf [xR 1, xI kd, xI i] 81 h Q := by
  refine en_K_factsOf (by omega) (fun K hK => ?_)
  have V1 := hV.1
  have V6 := hV.2.2.2.2.2.1
  have wi := (hV.2.1 i hi.1 hi.2).2.1
  have ewt := C.wt i hi.1 hi.2
  have ety := C.ty
  have esz := B.sz i hi.1 hi.2
  have esp := hS.1
  refine xq_go hK [] 60 ?_
  refine And.intro (by omega) ?_
  refine And.intro (by omega) ?_
  refine And.intro (by omega) ?_
  refine And.intro (by omega) ?_
  have o26 : ∀ (k1 k2 v1 v2 : Int), xq_u (xq_u h 29 k1 v1) 29 k2 v2 26 i = h 26 i := fun _ _ _ _ => rfl
  refine And.intro (by rw [o26]; omega) ?_
  refine And.intro (by omega) ?_
  refine And.intro (by omega) ?_
  refine And.intro (by omega) ?_
  have o1 : ∀ (k1 k2 k3 k4 k5 v1 v2 v3 v4 v5 : Int), xq_u (xq_u (xq_u (xq_u (xq_u h 29 k1 v1) 29 k2 v2) 29 k3 v3) 29 k4 v4) 29 k5 v5 1 2 = h 1 2 := fun _ _ _ _ _ _ _ _ _ _ => rfl
  refine ⟨lev - 1, by omega, c_JM_floorMod (by omega) (by rw [o1]; omega) (by omega) ?_⟩
  refine And.intro (by omega) ?_
  refine hQ _ (xs_u (xs_u (xs_u (xs_u (xs_u (xs_u xs_rf (by decide) _ _) (by decide) _ _) (by decide) _ _) (by decide) _ _) (by decide) _ _) (by decide) _ _) (fun q hq0 hq5 => ?_)
  rcases (show q = 0 ∨ q = 1 ∨ q = 2 ∨ q = 3 ∨ q = 4 ∨ q = 5 by omega) with rfl | rfl | rfl | rfl | rfl | rfl
  · exact esp
  · exact esz
  · exact congrArg (fun z => z / 10) ewt
  · exact hk
  · rfl
  · exact congrArg (fun z => z % 10) ety
set_option maxHeartbeats 1000000 in
theorem c_K_spreadFar {lev : Nat} {h : xq_H} {Q : Option xq_V → xq_H → Prop} {m : Int → Int} {P : List xf_Cl} {w i md kd : Int} (hl : 3 ≤ lev) (hV : xf_VM m) (B : xr_base h m P) (hw : xf_wd w) (hS : xr_spr h w) (hi : 0 ≤ i ∧ i < m 11) (hk : kd = m (34 + md))
    (hQ : ∀ h', xs_eq [28] h h' → Q (some (xI (xf_fr m md w (m (18 + i))))) h') : xq_met lev y_K_spreadFar [xR 1, xI kd, xI i] 81 h Q := by
  refine en_K_spreadFar (by omega) (fun K hK => ?_)
  have V8 := hV.2.2.2.2.2.2.2.1
  have V1 := hV.1
  have w1 := (hV.2.1 i hi.1 hi.2).1
  have b1 := xf_szb hw
  have b2 := xf_szb w1
  have est := B.st
  have far : (¬ (kd = 5 ∧ xf_beg w (m (18 + i)))) → K 9 [some (xR 1), some (xI kd), some (xI i), none] [] 81 h := by
    intro hno
    have call : ∀ nr : Int, nr = (if kd = 1 ∨ kd = 4 then min 4 (xf_stp m) else xf_stp m) → K 26 [some (xR 1), some (xI kd), some (xI i), some (xI (h 17 1))] [xI nr, xR 1] 81 h := by
      intro nr en
      refine xq_go hK [] 60 ?_
      refine ⟨lev - 1, by omega, c_K_leastSum (n := (xf_sz w).toNat) (g := (xf_sz (m (18 + i))).toNat) (by omega) (by omega) (by omega) (by rw [en]; split <;> omega) (by have := hS.1; omega) (by omega) (by have := B.sz i hi.1 hi.2; omega) (by omega) (fun k hk => ?_) (fun j hj => ?_) (fun h' hs => ?_)⟩
      · rw [hS.2 k (by omega)]
        exact xf_lt_bd hw (by omega) hk
      · rw [B.lt i hi.1 hi.2 j (by omega)]
        exact xf_lt_bd w1 (by omega) hj
      · have q := hQ h' hs
        have e : xf_fr m md w (m (18 + i)) = xf_D (h 17 1) (xf_sw nr (h 17 1)) (fun k => h 27 k) (fun j => h 8 (i * 5 + j)) (xf_sz w).toNat (xf_sz (m (18 + i))).toNat := by
          unfold xf_fr
          rw [← hk, if_neg hno, ← en, est]
          unfold xf_far
          refine xf_D_congr _ _ (fun k hk => ?_) (fun j hj => ?_)
          · rw [hS.2 k (by omega)]
            rfl
          · rw [B.lt i hi.1 hi.2 j (by omega)]
            rfl
        rw [e] at q
        exact q
    refine xq_go hK [21, 26] 60 ?_
    have one : (kd = 1 ∨ kd = 4) → K 21 [some (xR 1), some (xI kd), some (xI i), some (xI (h 17 1))] [xR 1] 81 h := by
      intro hk1
      refine xq_go hK [26] 60 ?_
      refine ⟨lev - 1, by omega, c_JM_min (by omega) ?_⟩
      refine call _ ?_
      rw [if_pos hk1, est]
    refine And.intro (fun c => one (Or.inl c)) (fun c => ?_)
    refine And.intro (fun c2 => call _ (by rw [if_neg (fun z => z.elim c c2), est])) (fun c2 => one (Or.inr c2))
  refine xq_go hK [9] 60 ?_
  refine And.intro (fun c => far (fun z => c z.1)) (fun c => ?_)
  refine ⟨lev - 1, by omega, c_K_isBeginning (by omega) hV B hw hS hi (fun hb => ?_) (fun hb => ?_)⟩
  · refine And.intro (fun z => absurd z (by decide)) (fun _ => ?_)
    have q := hQ h xs_rf
    unfold xf_fr at q
    rw [if_pos ⟨by omega, hb⟩] at q
    exact q
  · refine And.intro (fun _ => far (fun z => hb z.2)) (fun z => absurd rfl z)
set_option maxHeartbeats 2000000 in
theorem c_K_spreadCost {lev : Nat} {h : xq_H} {Q : Option xq_V → xq_H → Prop} {m : Int → Int} {P : List xf_Cl} {w i md : Int} (hl : 4 ≤ lev) (hV : xf_VM m) (B : xr_base h m P) (C : xr_crs h m) (hw : xf_wd w) (hS : xr_spr h w) (hi : 0 ≤ i ∧ i < m 11) (hmd : 0 ≤ md ∧ md < m 10)
    (hQ : ∀ h', xs_eq [28, 29] h h' → Q (some (xI (xf_co m md w i (xf_sum (xf_fact m md (xf_sz w) i) P)))) h') : xq_met lev y_K_spreadCost [xR 1, xI md, xI i] 81 h Q := by
  refine en_K_spreadCost (by omega) (fun K hK => ?_)
  have hV0 := hV
  obtain ⟨V1, V2, V3, V4, V5, V6, V7, V8, V9⟩ := hV
  have w1 := V2 i hi.1 hi.2
  have w2 := V4 md hmd.1 hmd.2
  have hfb := xf_fr_bd (md := md) hw w1.1 V8
  have hlb := xf_last_bd V1.1
  have hxb := xf_sum_b (m := m) ⟨B.po, B.pt⟩ (xf_fact m md (xf_sz w) i)
  have ekd := B.kd md hmd.1 hmd.2
  have els := B.ls
  have ecs := B.cs
  unfold xf_co at hQ
  obtain ⟨kd, hkd⟩ : ∃ kd, kd = m (34 + md) := ⟨_, rfl⟩
  rw [← hkd] at hQ ekd
  refine xq_go hK [41, 64] 60 ?_
  refine ⟨lev - 1, by omega, c_C_has (by omega) (fun _ => ?_) (fun z => absurd (by omega) z)⟩
  refine And.intro (fun z => absurd z (by decide)) (fun _ => ?_)
  refine ⟨lev - 1, by omega, c_W_has (by omega) (fun _ => ?_) (fun z => absurd (by omega) z)⟩
  refine And.intro (fun _ => ?_) (fun z => absurd z (by decide))
  refine And.intro (by omega) ?_
  rw [ekd]
  refine ⟨lev - 1, by omega, c_K_spreadFar (by omega) hV0 B hw hS hi hkd (fun h1 hs1 => ?_)⟩
  have B1 := xr_base_fr hs1 (by decide) B
  have C1 := xr_crs_fr (hs1 26 (by decide)) (by rw [hs1 1 (by decide)]) (by rw [hs1 1 (by decide)]) C
  have S1 : xr_spr h1 w := by unfold xr_spr; rw [hs1 1 (by decide), hs1 27 (by decide)]; exact hS
  refine ⟨lev - 1, by omega, c_K_factsOf (md := md) (by omega) hV0 B1 C1 S1 hi hkd (fun h2 hs2 hf => ?_)⟩
  have B2 := xr_base_fr hs2 (by decide) B1
  have C2 := xr_crs_fr (hs2 26 (by decide)) (by rw [hs2 1 (by decide)]) (by rw [hs2 1 (by decide)]) C1
  have hs : xs_eq [28, 29] h h2 := xs_tr hs1 hs2 (by decide) (by decide)
  have q := hQ h2 hs
  refine ⟨lev - 1, by omega, c_P_extra (by omega) B2.po B2.pc B2.pt B2.pl B2.cl ?_⟩
  rw [xf_sum_congr hf P B2.po]
  generalize xf_fr m md w (m (18 + i)) = fr at hfb q ⊢
  generalize xf_sum (xf_fact m md (xf_sz w) i) P = ex at hxb q ⊢
  refine And.intro (by omega) ?_
  have ela := C2.la
  have ety := C2.ty
  have els2 := B2.ls
  -- behind what comes behind
  have tail : ∀ s : Int, s = fr + ex - (if (kd = 2 ∨ kd = 5) ∧ xf_last m ≠ -1 ∧ xq_and (xq_shr (m (26 + xf_last m)) i) 1 = 1 then 5 else 0) → K 64 [some (xR 1), some (xI md), some (xI i), some (xI kd), some (xI s)] [] 81 h2 := by
    intro s es
    rw [← es] at q
    have hs5 : -1000 ≤ s ∧ s ≤ 2000 := by rw [es]; split <;> omega
    have last : ∀ r : Int, r = s + (if kd = 6 then m (44 + 4 * md + m 1 % 4) else 0) → K 83 [some (xR 1), some (xI md), some (xI i), some (xI kd), some (xI r)] [] 81 h2 := by
      intro r er
      rw [← er] at q
      refine xq_go hK [] 60 ?_
      refine ⟨lev - 1, by omega, c_JM_max (by omega) ?_⟩
      exact q
    refine xq_go hK [83] 60 ?_
    refine And.intro (fun c => last _ (by rw [if_neg c]; omega)) (fun c => ?_)
    refine And.intro (by omega) ?_
    refine ⟨lev - 1, by omega, c_JM_floorMod (by omega) (by omega) (by omega) ?_⟩
    rw [ety]
    refine And.intro (by omega) ?_
    have er := B2.rw md hmd.1 hmd.2 (m 1 % 4) (by omega) (by omega)
    have hr := w2.2.2 (m 1 % 4) (by omega) (by omega)
    refine And.intro (by omega) ?_
    refine And.intro (by omega) ?_
    refine last _ ?_
    rw [er, if_pos c]
  have bit : (kd = 2 ∨ kd = 5) → K 41 [some (xR 1), some (xI md), some (xI i), some (xI kd), some (xI (fr + ex))] [] 81 h2 := by
    intro hk
    refine xq_go hK [64] 60 ?_
    refine ⟨lev - 1, by omega, c_W_has (by omega) (fun c => ?_) (fun c => ?_)⟩
    · refine And.intro (fun z => absurd z (by decide)) (fun _ => ?_)
      refine And.intro (by omega) ?_
      rw [ela] at c ⊢
      rw [B2.nx (xf_last m) (by omega) (by omega)]
      have hb01 : 0 ≤ xq_and (xq_shr (m (26 + xf_last m)) i) 1 ∧ xq_and (xq_shr (m (26 + xf_last m)) i) 1 ≤ 1 := by
        have z1 := (V2 (xf_last m) (by omega) (by omega)).2.2
        exact xb_bit z1 (by omega)
      refine And.intro (by omega) ?_
      refine And.intro (by omega) ?_
      refine tail _ ?_
      by_cases c2 : xq_and (xq_shr (m (26 + xf_last m)) i) 1 = 1
      · rw [if_pos ⟨hk, by omega, c2⟩, c2]
        rfl
      · rw [if_neg (fun z => c2 z.2.2), show xq_and (xq_shr (m (26 + xf_last m)) i) 1 = 0 by omega]
        rfl
    · refine And.intro (fun _ => tail _ ?_) (fun z => absurd rfl z)
      rw [ela] at c
      rw [if_neg (fun z => c ⟨by omega, by omega⟩)]
      omega
  refine And.intro (fun c => bit (Or.inl c)) (fun c => ?_)
  refine And.intro (fun c2 => tail _ (by rw [if_neg (fun z => z.1.elim c c2)]; omega)) (fun c2 => bit (Or.inr c2))
/-- the maker's scratch leaves its course as it is -/
def xr_kp (h h' : xq_H) : Prop := xs_eq [1, 27, 28, 29] h h' ∧ ∀ k : Int, k ≠ 5 → h' 1 k = h 1 k
theorem xr_kp_rf {h : xq_H} : xr_kp h h := ⟨xs_rf, fun _ _ => rfl⟩
theorem xr_kp_tr {h h1 h2 : xq_H} (a : xr_kp h h1) (b : xr_kp h1 h2) : xr_kp h h2 := ⟨xs_tr a.1 b.1 (by decide) (by decide), fun k hk => (b.2 k hk).trans (a.2 k hk)⟩
theorem xr_kp_B {h h' : xq_H} {m : Int → Int} {P : List xf_Cl} (a : xr_kp h h') (B : xr_base h m P) : xr_base h' m P := xr_base_fr a.1 (by decide) B
theorem xr_kp_C {h h' : xq_H} {m : Int → Int} (a : xr_kp h h') (C : xr_crs h m) : xr_crs h' m := xr_crs_fr (a.1 26 (by decide)) (a.2 2 (by decide)) (a.2 3 (by decide)) C
theorem xr_kp_2 {h h' : xq_H} (a : xs_eq [28, 29] h h') : xr_kp h h' := ⟨xs_tr xs_rf a (X := []) (by decide) (by decide), fun k _ => by rw [a 1 (by decide)]⟩
theorem xr_lft {h : xq_H} {m : Int → Int} {P : List xf_Cl} (B : xr_base h m P) {w : Int} : (∃ k : Nat, (k : Int) < h 13 5 ∧ h 16 k = w) ↔ xf_lft m w := by
  unfold xf_lft
  rw [B.ll]
  constructor
  · rintro ⟨k, h1, h2⟩
    exact ⟨k, h1, by rw [← B.lf k (by omega) h1]; exact h2⟩
  · rintro ⟨k, h1, h2⟩
    exact ⟨k, h1, by rw [B.lf k (by omega) h1]; exact h2⟩
set_option maxHeartbeats 1000000 in
theorem c_K_madeOf {lev : Nat} {h : xq_H} {Q : Option xq_V → xq_H → Prop} {m : Int → Int} {P : List xf_Cl} {w md : Int} (hl : 5 ≤ lev) (hV : xf_VM m) (B : xr_base h m P) (C : xr_crs h m) (hw : xf_wd w) (hmd : 0 ≤ md ∧ md < m 10)
    (hQ : ∀ h', xr_kp h h' → Q (some (xI (xf_made m P md w))) h') : xq_met lev y_K_madeOf [xR 1, xI md, xI w] 81 h Q := by
  refine en_K_madeOf (by omega) (fun K hK => ?_)
  have hV0 := hV
  obtain ⟨V1, V2, V3, V4, V5, V6, V7, V8, V9⟩ := hV
  have ekd := B.kd md hmd.1 hmd.2
  have ecs := B.cs
  obtain ⟨kd, hkd⟩ : ∃ kd, kd = m (34 + md) := ⟨_, rfl⟩
  have hmade : xf_made m P md w = @ite _ ((kd = 3 ∨ kd = 6) ∧ xf_lft m w) (Classical.propDecidable _) w
    (if (xf_mn (xf_pr m P md w) (10 * xf_lim m) (m 11).toNat).2 = -1 then w else m (18 + (xf_mn (xf_pr m P md w) (10 * xf_lim m) (m 11).toNat).2)) := by rw [hkd]; rfl
  rw [hmade] at hQ
  rw [← hkd] at ekd
  have hpb : ∀ i : Nat, (i : Int) < m 11 → -99 ≤ xf_pr m P md w i ∧ xf_pr m P md w i ≤ 20000 := fun i hi => by
    have h1 := xf_co_bd (ex := xf_sum (xf_fact m md (xf_sz w) i) P) hV0 hmd hw (i := (i : Int)) (by omega) (xf_sum_b (m := m) ⟨B.po, B.pt⟩ _)
    have h2 := (V2 i (by omega) hi).2.1
    unfold xf_pr
    omega
  have search : (¬ ((kd = 3 ∨ kd = 6) ∧ xf_lft m w)) → K 18 [some (xR 1), some (xI md), some (xI w), some (xI kd), none, none, none, none] [] 81 h := by
    intro hno
    rw [if_neg hno] at hQ
    have loop : ∀ (d i : Nat) (iI b l : Int) (x7 : Option xq_V) (h' : xq_H), (i : Int) + d = m 11 → iI = i → b = (if (xf_mn (xf_pr m P md w) (10 * xf_lim m) i).2 = -1 then w else m (18 + (xf_mn (xf_pr m P md w) (10 * xf_lim m) i).2)) → l = (xf_mn (xf_pr m P md w) (10 * xf_lim m) i).1 → (x7 = none ∨ ∃ z, x7 = some (xI z)) → xr_kp h h' → xr_spr h' w → K 32 [some (xR 1), some (xI md), some (xI w), some (xI kd), some (xI b), some (xI l), some (xI iI), x7] [] 81 h' := by
      intro d
      induction d with
      | zero =>
        intro i iI b l x7 h' hd ei eb el hx hk hS
        have B1 := xr_kp_B hk B
        have els := B1.ls
        rw [show (m 11).toNat = i by omega, ← eb] at hQ
        refine xq_go hK [32] 60 ?_
        refine And.intro (fun c => ?_) (fun c => absurd c (by omega))
        exact hQ h' hk
      | succ d ih =>
        intro i iI b l x7 h' hd ei eb el hx hk hS
        have B1 := xr_kp_B hk B
        have C1 := xr_kp_C hk C
        have els := B1.ls
        have hp1 := hpb i (by omega)
        have w1 := V2 i (by omega) (by omega)
        have hxb := xf_sum_b (m := m) ⟨B.po, B.pt⟩ (xf_fact m md (xf_sz w) i)
        have hcb := xf_co_bd hV0 hmd hw (i := (i : Int)) (by omega) hxb
        have hbd := xf_mn_bd (xf_pr m P md w) (10 * xf_lim m) i
        refine xq_go hK [32] 60 ?_
        refine And.intro (fun c => absurd c (by omega)) (fun _ => ?_)
        refine ⟨lev - 1, by omega, c_K_spreadCost (by omega) hV0 B1 C1 hw hS (by omega) hmd (fun h2 hs2 => ?_)⟩
        have hk2 := xr_kp_tr hk (xr_kp_2 hs2)
        have B2 := xr_kp_B hk2 B
        have C2 := xr_kp_C hk2 C
        have S2 : xr_spr h2 w := by unfold xr_spr; rw [hs2 1 (by decide), hs2 27 (by decide)]; exact hS
        have ewt := C2.wt i (by omega) (by omega)
        have ewd := B2.wd i (by omega) (by omega)
        have epr : 10 * xf_co m md w i (xf_sum (xf_fact m md (xf_sz w) i) P) - m (2 + i) = xf_pr m P md w i := rfl
        rw [ei]
        refine And.intro (by omega) ?_
        refine And.intro (by omega) ?_
        rw [ewt]
        refine And.intro (by omega) ?_
        rw [epr]
        have nx : xf_mn (xf_pr m P md w) (10 * xf_lim m) (i + 1) = if xf_pr m P md w i < l then (xf_pr m P md w i, (i : Int)) else xf_mn (xf_pr m P md w) (10 * xf_lim m) i := by rw [xf_mn, ← el]
        refine And.intro (fun c => ?_) (fun c => ?_)
        · refine And.intro (by omega) ?_
          rw [if_neg c] at nx
          exact ih (i + 1) _ _ _ _ _ (by omega) (by omega) (by rw [nx]; exact eb) (by rw [nx]; exact el) (Or.inr ⟨_, rfl⟩) hk2 S2
        · refine And.intro (by omega) ?_
          rw [ewd]
          refine And.intro (by omega) ?_
          rw [if_pos c] at nx
          exact ih (i + 1) _ _ _ _ _ (by omega) (by omega) (by rw [nx]; dsimp only; rw [if_neg (by omega)]) (by rw [nx]) (Or.inr ⟨_, rfl⟩) hk2 S2
    refine xq_go hK [32] 60 ?_
    refine ⟨lev - 1, by omega, c_K_spread (n := (xf_sz w).toNat) (by omega) hw (by have := xf_szb hw; omega) (fun h1 hs1 hf h5 hlt => ?_)⟩
    have hk1 : xr_kp h h1 := ⟨xs_tr xs_rf hs1 (X := []) (by decide) (by decide), hf⟩
    have B1 := xr_kp_B hk1 B
    have eli := B1.li
    have bw := xf_szb hw
    refine And.intro (by omega) ?_
    rw [eli]
    exact loop (m 11).toNat 0 _ _ _ _ h1 (by omega) rfl rfl rfl (Or.inl rfl) hk1 ⟨by omega, fun k hk => hlt k (by omega)⟩
  have asks : (kd = 3 ∨ kd = 6) → K 10 [some (xR 1), some (xI md), some (xI w), some (xI kd), none, none, none, none] [] 81 h := by
    intro hk
    refine xq_go hK [18] 60 ?_
    have ell := B.ll
    refine ⟨lev - 1, by omega, c_T_isLeft (by omega) (by omega) (fun c => ?_) (fun c => ?_)⟩
    · refine And.intro (fun c2 => absurd c2 (by decide)) (fun _ => ?_)
      have q := hQ h xr_kp_rf
      rw [if_pos ⟨hk, (xr_lft B).1 c⟩] at q
      exact q
    · refine And.intro (fun _ => search (fun z => c ((xr_lft B).2 z.2))) (fun c2 => absurd rfl c2)
  refine xq_go hK [10, 18] 60 ?_
  refine ⟨lev - 1, by omega, c_K_kindOf (by omega) (by omega) (by omega) ?_⟩
  rw [ekd]
  refine And.intro (fun c => asks (Or.inl c)) (fun c => ?_)
  refine And.intro (fun c2 => search (fun z => z.1.elim c c2)) (fun c2 => asks (Or.inr c2))
theorem c_K_costOf {lev : Nat} {h : xq_H} {Q : Option xq_V → xq_H → Prop} {m : Int → Int} {P : List xf_Cl} {w md i : Int} (hl : 5 ≤ lev) (hV : xf_VM m) (B : xr_base h m P) (C : xr_crs h m) (hw : xf_wd w) (hmd : 0 ≤ md ∧ md < m 10) (hi : 0 ≤ i ∧ i < m 11)
    (hQ : ∀ h', xr_kp h h' → Q (some (xI (xf_co m md w i (xf_sum (xf_fact m md (xf_sz w) i) P)))) h') : xq_met lev y_K_costOf [xR 1, xI md, xI w, xI i] 81 h Q := by
  refine en_K_costOf (by omega) (fun K hK => ?_)
  have bw := xf_szb hw
  refine xq_go hK [] 60 ?_
  refine ⟨lev - 1, by omega, c_K_spread (n := (xf_sz w).toNat) (by omega) hw (by omega) (fun h1 hs1 hf h5 hlt => ?_)⟩
  have hk1 : xr_kp h h1 := ⟨xs_tr xs_rf hs1 (X := []) (by decide) (by decide), hf⟩
  refine ⟨lev - 1, by omega, c_K_spreadCost (by omega) hV (xr_kp_B hk1 B) (xr_kp_C hk1 C) hw ⟨by omega, fun k hk => hlt k (by omega)⟩ hi hmd (fun h2 hs2 => ?_)⟩
  exact hQ h2 (xr_kp_tr hk1 (xr_kp_2 hs2))
theorem c_K_priceOf {lev : Nat} {h : xq_H} {Q : Option xq_V → xq_H → Prop} {m : Int → Int} {P : List xf_Cl} {w md i : Int} (hl : 6 ≤ lev) (hV : xf_VM m) (B : xr_base h m P) (C : xr_crs h m) (hw : xf_wd w) (hmd : 0 ≤ md ∧ md < m 10) (hi : 0 ≤ i ∧ i < m 11)
    (hQ : ∀ h', xr_kp h h' → Q (some (xI (10 * xf_co m md w i (xf_sum (xf_fact m md (xf_sz w) i) P) - m (2 + i)))) h') : xq_met lev y_K_priceOf [xR 1, xI md, xI w, xI i] 81 h Q := by
  refine en_K_priceOf (by omega) (fun K hK => ?_)
  have els := B.ls
  have V1 := hV.1
  have w1 := hV.2.1 i hi.1 hi.2
  have hxb := xf_sum_b (m := m) ⟨B.po, B.pt⟩ (xf_fact m md (xf_sz w) i)
  have hcb := xf_co_bd hV hmd hw hi hxb
  refine xq_go hK [] 60 ?_
  refine ⟨lev - 1, by omega, c_W_has (by omega) (fun _ => ?_) (fun z => absurd (by omega) z)⟩
  refine And.intro (fun z => absurd z (by decide)) (fun _ => ?_)
  refine ⟨lev - 1, by omega, c_K_costOf (by omega) hV B C hw hmd hi (fun h1 hk1 => ?_)⟩
  have ewt := (xr_kp_C hk1 C).wt i hi.1 hi.2
  refine And.intro (by omega) ?_
  refine And.intro (by omega) ?_
  rw [ewt]
  refine And.intro (by omega) ?_
  exact hQ h1 hk1
theorem c_K_plainFar {lev : Nat} {h : xq_H} {Q : Option xq_V → xq_H → Prop} {m : Int → Int} {P : List xf_Cl} {w i : Int} (hl : 3 ≤ lev) (hV : xf_VM m) (B : xr_base h m P) (hw : xf_wd w) (hi : 0 ≤ i ∧ i < m 11)
    (hQ : ∀ h', xr_kp h h' → Q (some (xI (xf_far (xf_stp m) (xf_stp m) w (m (18 + i))))) h') : xq_met lev y_K_plainFar [xR 1, xI w, xI i] 81 h Q := by
  refine en_K_plainFar (by omega) (fun K hK => ?_)
  have bw := xf_szb hw
  have V1 := hV.1
  have V8 := hV.2.2.2.2.2.2.2.1
  have w1 := (hV.2.1 i hi.1 hi.2).1
  have b2 := xf_szb w1
  refine xq_go hK [] 60 ?_
  refine ⟨lev - 1, by omega, c_K_spread (n := (xf_sz w).toNat) (by omega) hw (by omega) (fun h1 hs1 hf h5 hlt => ?_)⟩
  have hk1 : xr_kp h h1 := ⟨xs_tr xs_rf hs1 (X := []) (by decide) (by decide), hf⟩
  have B1 := xr_kp_B hk1 B
  have est := B1.st
  have esz := B1.sz i hi.1 hi.2
  refine ⟨lev - 1, by omega, c_K_leastSum (n := (xf_sz w).toNat) (g := (xf_sz (m (18 + i))).toNat) (by omega) (by omega) (by omega) (by omega) h5 (by omega) (by omega) (by omega) (fun k hk => ?_) (fun j hj => ?_) (fun h' hs => ?_)⟩
  · rw [hlt k hk]
    exact xf_lt_bd hw (by omega) hk
  · rw [B1.lt i hi.1 hi.2 j (by omega)]
    exact xf_lt_bd w1 (by omega) hj
  · have q := hQ h' (xr_kp_tr hk1 ⟨xs_tr xs_rf hs (X := []) (by decide) (by decide), fun k _ => by rw [hs 1 (by decide)]⟩)
    have e : xf_far (xf_stp m) (xf_stp m) w (m (18 + i)) = xf_D (h1 17 1) (xf_sw (h1 17 1) (h1 17 1)) (fun k => h1 27 k) (fun j => h1 8 (i * 5 + j)) (xf_sz w).toNat (xf_sz (m (18 + i))).toNat := by
      rw [est]
      unfold xf_far
      refine xf_D_congr _ _ (fun k hk => ?_) (fun j hj => ?_)
      · rw [hlt k hk]
        rfl
      · rw [B1.lt i hi.1 hi.2 j (by omega)]
        rfl
    rw [e] at q
    exact q
