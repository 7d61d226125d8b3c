/-! THE STATE, AND A COURSE OF IT -/
def xf_hi (m m' : Int → Int) : Prop := ∀ k : Int, 10 ≤ k → m' k = m k
theorem xf_at_congr {g g' : Int → Int} : ∀ (l : List Int) (p : Int), (∀ k, p ≤ k → g' k = g k) → xf_at g p l → xf_at g' p l
  | [], _, _, _ => trivial
  | t :: l, p, h, ha => ⟨by rw [h p (Int.le_refl _)]; exact ha.1, xf_at_congr l (p + 1) (fun k hk => h k (by omega)) ha.2⟩
theorem xf_hi_num {m m' : Int → Int} (H : xf_hi m m') (w : Int) : xf_num m' w = xf_num m w := by
  unfold xf_num
  rw [H 11 (by omega)]
  exact xf_ix_congr (fun k _ => H (18 + k) (by omega))
theorem xf_hi_lft {m m' : Int → Int} (H : xf_hi m m') (w : Int) : xf_lft m' w ↔ xf_lft m w := by
  unfold xf_lft
  rw [H 16 (by omega)]
  constructor
  · rintro ⟨k, h1, h2⟩
    exact ⟨k, h1, by rw [← H (104 + k) (by omega)]; exact h2⟩
  · rintro ⟨k, h1, h2⟩
    exact ⟨k, h1, by rw [H (104 + k) (by omega)]; exact h2⟩
theorem xf_hi_lim {m m' : Int → Int} (H : xf_hi m m') (h17 : -1 ≤ m 17) : xf_lim m' = xf_lim m := by
  unfold xf_lim
  rw [H 17 (by omega), H (234 + m 17) (by omega)]
theorem xf_hi_stp {m m' : Int → Int} (H : xf_hi m m') (h17 : -1 ≤ m 17) : xf_stp m' = xf_stp m := by
  unfold xf_stp
  rw [H 17 (by omega), H (239 + m 17) (by omega)]
theorem xf_hi_ph {m m' : Int → Int} {P : List xf_Cl} (H : xf_hi m m') (hp : xf_ph m P) : xf_ph m' P := by
  obtain ⟨p1, p2, p3, p4, p5⟩ := hp
  refine ⟨p1, p2, p3, fun h => p4 (by rw [← H 17 (by omega)]; exact h), fun h => ?_⟩
  rw [H 17 (by omega)] at h ⊢
  have p6 := p5 h
  refine ⟨by rw [H (244 + m 17) (by omega)]; exact p6.1, xf_at_congr _ _ (fun k hk => H k (by omega)) p6.2⟩
theorem xf_hi_VM {m m' : Int → Int} (H : xf_hi m m') (hV : xf_VM m) (h1 : 0 ≤ m' 1 ∧ m' 1 ≤ 1000000) (hw : ∀ i : Int, 0 ≤ i → i < m 11 → 0 ≤ m' (2 + i) ∧ m' (2 + i) ≤ 99) : xf_VM m' := by
  obtain ⟨V1, V2, V3, V4, V5, V6, V7, V8, V9⟩ := hV
  refine ⟨by rw [H 11 (by omega)]; exact V1, fun i hi0 hi1 => ?_, by rw [H 10 (by omega)]; exact V3, fun i hi0 hi1 => ?_, by rw [H 16 (by omega)]; exact V5, h1, by rw [H 17 (by omega)]; exact V7, by rw [xf_hi_stp H V7.1]; exact V8, by rw [xf_hi_lim H V7.1]; exact V9⟩
  · rw [H 11 (by omega)] at hi1
    have := V2 i hi0 hi1
    refine ⟨by rw [H (18 + i) (by omega)]; exact this.1, hw i hi0 hi1, by rw [H (26 + i) (by omega)]; exact this.2.2⟩
  · rw [H 10 (by omega)] at hi1
    have := V4 i hi0 hi1
    refine ⟨by rw [H (34 + i) (by omega)]; exact this.1, by rw [H (39 + i) (by omega)]; exact this.2.1, fun k hk0 hk1 => by rw [H (44 + 4 * i + k) (by omega)]; exact this.2.2 k hk0 hk1⟩
theorem xf_hi_base {h : xq_H} {m m' : Int → Int} {P : List xf_Cl} (H : xf_hi m m') (h17 : -1 ≤ m 17) (B : xr_base h m P) : xr_base h m' P := by
  have e11 := H 11 (by omega)
  have e10 := H 10 (by omega)
  have e16 := H 16 (by omega)
  refine ⟨?_, ?_, ?_, ?_, ?_, ?_, ?_, ?_, ?_, ?_, ?_, ?_, ?_, ?_, ?_, ?_, ?_, ?_⟩
  · rw [e11]; exact B.ls
  · intro i h0 h1
    rw [e11] at h1
    rw [H (18 + i) (by omega)]; exact B.wd i h0 h1
  · intro i h0 h1
    rw [e11] at h1
    rw [H (26 + i) (by omega)]; exact B.nx i h0 h1
  · intro i h0 h1
    rw [e11] at h1
    rw [H (18 + i) (by omega)]; exact B.sz i h0 h1
  · intro i h0 h1
    rw [e11] at h1
    rw [H (18 + i) (by omega)]; exact B.lt i h0 h1
  · rw [e10]; exact B.cs
  · intro i h0 h1
    rw [e10] at h1
    rw [H (34 + i) (by omega)]; exact B.kd i h0 h1
  · intro i h0 h1
    rw [e10] at h1
    rw [H (39 + i) (by omega)]; exact B.vs i h0 h1
  · intro i h0 h1 k h2 h3
    rw [e10] at h1
    rw [H (44 + 4 * i + k) (by omega)]; exact B.rw i h0 h1 k h2 h3
  · rw [e16]; exact B.ll
  · intro i h0 h1
    rw [e16] at h1
    rw [H (104 + i) (by omega)]; exact B.lf i h0 h1
  · rw [xf_hi_lim H h17]; exact B.li
  · rw [xf_hi_stp H h17]; exact B.st
  · exact B.pc
  · exact B.pl
  · exact B.po
  · exact B.pt
  · exact B.cl
theorem xf_made_wd {m : Int → Int} {P : List xf_Cl} {md w : Int} (hV : xf_VM m) (hw : xf_wd w) : xf_wd (xf_made m P md w) := by
  have V1 := hV.1
  unfold xf_made
  split
  · exact hw
  · have hb := xf_mn_bd (xf_pr m P md w) (10 * xf_lim m) (m 11).toNat
    split
    · exact hw
    · exact (hV.2.1 _ (by omega) (by omega)).1
theorem xf_num_0 {m : Int → Int} (hV : xf_VM m) : xf_num m 0 = -1 := by
  refine xf_ix_none (fun k hk => ?_)
  have V1 := hV.1
  have := (hV.2.1 k (by omega) (by omega)).1.1
  omega
theorem xf_last_num {m : Int → Int} (hV : xf_VM m) : xf_last m = xf_num m (m 0) := by
  unfold xf_last
  split
  · rename_i h
    rw [h, xf_num_0 hV]
  · rfl
/-- a word typed by frames alone -/
noncomputable def xf_ty (m : Int → Int) (P : List xf_Cl) (md w : Int) : Int → Int := fun k =>
  if k = 0 then xf_made m P md w else if k = 1 then m 1 + 1 else
    if k = 2 + xf_num m (xf_made m P md w) ∧ xf_num m (xf_made m P md w) ≠ -1 ∧ m (34 + md) = 4 then min 99 (m k + m (39 + md)) else m k
theorem xf_ty_hi {m : Int → Int} {P : List xf_Cl} {md w : Int} (hV : xf_VM m) : xf_hi m (xf_ty m P md w) := by
  intro k hk
  have V1 := hV.1
  have := xf_num_bd V1.1 (xf_made m P md w)
  unfold xf_ty
  rw [if_neg (by omega), if_neg (by omega), if_neg (by omega)]
theorem xf_ty_VM {m : Int → Int} {P : List xf_Cl} {md w : Int} (hV : xf_VM m) (hmd : 0 ≤ md ∧ md < m 10) (h1 : m 1 < 1000000) : xf_VM (xf_ty m P md w) := by
  refine xf_hi_VM (xf_ty_hi hV) hV ?_ (fun i hi0 hi1 => ?_)
  · have := hV.2.2.2.2.2.1
    show 0 ≤ m 1 + 1 ∧ m 1 + 1 ≤ 1000000
    omega
  · have a := (hV.2.1 i hi0 hi1).2.1
    have b := (hV.2.2.2.1 md hmd.1 hmd.2).2.1
    unfold xf_ty
    rw [if_neg (by omega), if_neg (by omega)]
    split <;> omega
theorem xf_ty_last {m : Int → Int} {P : List xf_Cl} {md w : Int} (hV : xf_VM m) (hmd : 0 ≤ md ∧ md < m 10) (hw : xf_wd w) : xf_last (xf_ty m P md w) = xf_num m (xf_made m P md w) := by
  have := (xf_made_wd (P := P) (md := md) hV hw).1
  have e : xf_ty m P md w 0 = xf_made m P md w := rfl
  unfold xf_last
  rw [e, if_neg (by omega), xf_hi_num (xf_ty_hi hV)]
theorem xr_num {h : xq_H} {m : Int → Int} {P : List xf_Cl} (hV : xf_VM m) (B : xr_base h m P) (w : Int) : xf_ix (h 4) w (h 3 5).toNat = xf_num m w := by
  have V1 := hV.1
  unfold xf_num
  rw [B.ls]
  exact xf_ix_congr (fun k hk => B.wd k (by omega) (by omega))
set_option maxHeartbeats 2000000 in
theorem c_K_typeOnce {lev : Nat} {h : xq_H} {Q : Option xq_V → xq_H → Prop} {m : Int → Int} {P : List xf_Cl} {w md : Int} (hl : 6 ≤ lev) (hV : xf_VM m) (B : xr_base h m P) (C : xr_crs h m) (hw : xf_wd w) (hmd : 0 ≤ md ∧ md < m 10)
    (hQ : ∀ h', xs_eq [1, 26, 27, 28, 29] h h' → xr_base h' m P → xr_crs h' (xf_ty m P md w) → Q (some (xI (xf_made m P md w))) h') : xq_met lev y_K_typeOnce [xR 1, xI md, xI w] 81 h Q := by
  refine en_K_typeOnce (by omega) (fun K hK => ?_)
  have V1 := hV.1
  have V3 := hV.2.2.1
  have V6 := hV.2.2.2.2.2.1
  have w2 := hV.2.2.2.1 md hmd.1 hmd.2
  have hlast := xf_ty_last (P := P) hV hmd hw
  have hnb := xf_num_bd V1.1 (xf_made m P md w)
  obtain ⟨j, hj⟩ : ∃ j, j = xf_num m (xf_made m P md w) := ⟨_, rfl⟩
  rw [← hj] at hlast hnb
  refine xq_go hK [43] 60 ?_
  refine ⟨lev - 1, by omega, c_K_madeOf (by omega) hV B C hw hmd (fun h1 hk1 => ?_)⟩
  have B1 := xr_kp_B hk1 B
  have C1 := xr_kp_C hk1 C
  have els := B1.ls
  have ecs := B1.cs
  refine ⟨lev - 1, by omega, c_W_numberOf (by omega) (by omega) ?_⟩
  rw [xr_num hV B1, ← hj]
  -- the end: typed goes up
  have tail : ∀ h2 : xq_H, xs_eq [1, 26] (xq_u h1 1 3 j) h2 → (∀ k : Int, h2 1 k = xq_u h1 1 3 j 1 k) → (∀ i : Int, 0 ≤ i → i < m 11 → h2 26 i = xf_ty m P md w (2 + i)) → K 43 [some (xR 1), some (xI md), some (xI w), some (xI (xf_made m P md w))] [] 81 h2 := by
    intro h2 hs2 hf hwt
    have ety : h2 1 2 = m 1 := by rw [hf, xu_ne (by decide)]; exact C1.ty
    have ela : h2 1 3 = j := by rw [hf, xu_eq]
    refine xq_go hK [] 60 ?_
    refine And.intro (by omega) ?_
    rw [ety]
    have hs : xs_eq [1, 26, 27, 28, 29] h (xq_u h2 1 2 (m 1 + 1)) := xs_u (xs_tr (xs_u (xs_tr hk1.1 xs_rf (Z := [1, 26, 27, 28, 29]) (Y := []) (by decide) (by decide)) (by decide) _ _) hs2 (fun _ z => z) (by decide)) (by decide) _ _
    refine hQ _ hs (xr_base_fr hs (by decide) B) ⟨fun i h0 h1 => ?_, ?_, ?_⟩
    · rw [xf_ty_hi hV 11 (by omega)] at h1
      rw [xq_u_o (by decide)]
      exact hwt i h0 h1
    · rw [xu_eq]; rfl
    · rw [xu_ne (by decide), ela, hlast]
  have e11 : xq_u h1 1 3 j 3 = h1 3 := xq_u_o (by decide)
  have e9 : xq_u h1 1 3 j 9 = h1 9 := xq_u_o (by decide)
  have e10 : xq_u h1 1 3 j 10 = h1 10 := xq_u_o (by decide)
  have e13 : xq_u h1 1 3 j 11 = h1 11 := xq_u_o (by decide)
  have e26 : xq_u h1 1 3 j 26 = h1 26 := xq_u_o (by decide)
  have ej : xq_u h1 1 3 j 1 3 = j := xu_eq
  have plain : (¬ (j ≠ -1 ∧ m (34 + md) = 4)) → K 43 [some (xR 1), some (xI md), some (xI w), some (xI (xf_made m P md w))] [] 81 (xq_u h1 1 3 j) := by
    intro hno
    refine tail _ xs_rf (fun _ => rfl) (fun i h0 h1 => ?_)
    rw [e26]
    unfold xf_ty
    rw [← hj, if_neg (by omega), if_neg (by omega), if_neg (fun z => hno z.2)]
    exact C1.wt i h0 h1
  refine ⟨lev - 1, by omega, c_W_has (by omega) (fun c => ?_) (fun c => ?_)⟩
  · rw [ej, e11, els] at c
    refine And.intro (fun z => absurd z (by decide)) (fun _ => ?_)
    refine ⟨lev - 1, by omega, c_K_kindOf (by omega) (by rw [e9]; omega) (by rw [e9]; omega) ?_⟩
    rw [e10, B1.kd md hmd.1 hmd.2]
    refine And.intro (fun c2 => plain (fun z => c2 z.2)) (fun c2 => ?_)
    have evs := B1.vs md hmd.1 hmd.2
    have ewt := C1.wt j c.1 c.2
    have wj := (hV.2.1 j c.1 c.2).2.1
    have r26 : xq_u h1 1 3 j 26 (xq_u h1 1 3 j 1 3) = m (2 + j) := by rw [ej, e26]; exact ewt
    have r11 : xq_u h1 1 3 j 11 md = m (39 + md) := by rw [e13]; exact evs
    refine And.intro (by omega) ?_
    refine And.intro (by omega) ?_
    refine And.intro (by omega) ?_
    rw [r26, r11]
    refine ⟨lev - 1, by omega, c_JM_min (by omega) ?_⟩
    refine And.intro (by omega) ?_
    refine tail _ (xs_u xs_rf (by decide) _ _) (fun k => by rw [xq_u_o (by decide)]) (fun i h0 h1 => ?_)
    rw [xu_rd, e26, ej]
    by_cases hij : i = j
    · rw [if_pos hij]
      unfold xf_ty
      rw [← hj, if_neg (by omega), if_neg (by omega), if_pos ⟨by omega, by omega, c2⟩, hij]
    · rw [if_neg hij]
      unfold xf_ty
      rw [← hj, if_neg (by omega), if_neg (by omega), if_neg (fun z => hij (by omega))]
      exact C1.wt i h0 h1
  · rw [ej, e11, els] at c
    refine And.intro (fun _ => plain (fun z => c ⟨by omega, by omega⟩)) (fun z => absurd rfl z)
set_option maxHeartbeats 2000000 in
theorem c_M_types {lev : Nat} {h : xq_H} {Q : Option xq_V → xq_H → Prop} {P : List xf_Cl} {w md : Int} (hl : 8 ≤ lev) (hV : xf_VM (h 65)) (hP : xf_ph (h 65) P) (hw : xf_wd w) (hmd : 0 ≤ md ∧ md < h 65 10)
    (hQ : ∀ h', xs_eq [65, 68, 69, 70, 71, 72, 73, 74] h h' → h' 65 = xf_ty (h 65) P md w → Q (some (xI (xf_made (h 65) P md w))) h') : xq_met lev y_M_types [xR 64, xI md, xI w] 81 h Q := by
  refine en_M_types (by omega) (fun K hK => ?_)
  have V1 := hV.1
  have V3 := hV.2.2.1
  have V6 := hV.2.2.2.2.2.1
  have w2 := hV.2.2.2.1 md hmd.1 hmd.2
  have hnb := xf_num_bd V1.1 (xf_made (h 65) P md w)
  obtain ⟨j, hj⟩ : ∃ j, j = xf_num (h 65) (xf_made (h 65) P md w) := ⟨_, rfl⟩
  rw [← hj] at hnb
  refine xq_go hK [41] 60 ?_
  refine ⟨lev - 1, by omega, c_M_makesOf (P := P) (by omega) hV hmd hw hP (fun h1 hs1 => ?_)⟩
  have e65 : h1 65 = h 65 := hs1 65 (by decide)
  refine ⟨lev - 1, by omega, c_M_indexOf (by omega) (by rw [e65]; exact V1) ?_⟩
  rw [e65, ← hj]
  have tail : ∀ h2 : xq_H, xs_eq [65] h1 h2 → (∀ k : Int, h2 65 k = if k = 2 + j ∧ j ≠ -1 ∧ h 65 (34 + md) = 4 then min 99 (h 65 k + h 65 (39 + md)) else h 65 k) → K 41 [some (xR 64), some (xI md), some (xI w), some (xI (xf_made (h 65) P md w)), some (xI j)] [] 81 h2 := by
    intro h2 hs2 hf
    refine xq_go hK [] 60 ?_
    have e1 : h2 65 1 = h 65 1 := by rw [hf, if_neg (fun z => by omega)]
    refine And.intro (by omega) ?_
    rw [e1]
    refine And.intro (by omega) ?_
    refine And.intro (by omega) ?_
    refine And.intro (by omega) ?_
    refine hQ _ (xs_u (xs_u (xs_tr hs1 hs2 (by decide) (by decide)) (by decide) _ _) (by decide) _ _) (funext (fun k => ?_))
    rw [xu_rd, xu_rd, hf]
    unfold xf_ty
    rw [← hj]
  have plain : (¬ (j ≠ -1 ∧ h 65 (34 + md) = 4)) → K 41 [some (xR 64), some (xI md), some (xI w), some (xI (xf_made (h 65) P md w)), some (xI j)] [] 81 h1 := by
    intro hno
    refine tail _ xs_rf (fun k => ?_)
    rw [if_neg (fun z => hno z.2), e65]
  refine And.intro (fun c => plain (fun z => z.1 c)) (fun c => ?_)
  refine And.intro (by omega) ?_
  refine And.intro (by omega) ?_
  refine And.intro (fun c2 => plain (fun z => c2 (by rw [e65]; exact z.2))) (fun c2 => ?_)
  rw [e65] at c2
  have wj := (hV.2.1 j (by omega) (by omega)).2.1
  refine And.intro (by omega) ?_
  refine And.intro (by omega) ?_
  refine And.intro (by omega) ?_
  refine And.intro (by omega) ?_
  refine And.intro (by omega) ?_
  rw [e65]
  refine And.intro (by omega) ?_
  refine ⟨lev - 1, by omega, c_M_lesser (by omega) ?_⟩
  refine And.intro (by omega) ?_
  refine tail _ (xs_u xs_rf (by decide) _ _) (fun k => ?_)
  rw [xu_rd]
  by_cases hk : k = 2 + j
  · rw [if_pos hk, if_pos ⟨hk, c, c2⟩, hk]
  · rw [if_neg hk, if_neg (fun z => hk z.1), e65]
/-! WHAT STANDS, all of it -/
abbrev xr_now (h : xq_H) (m : Int → Int) (P : List xf_Cl) : Prop :=
  (xr_base h m P) ∧
  (∀ i : Int, 0 ≤ i → i < m 11 → h 5 i = m (2 + i)) ∧
  (h 13 4 = m 1) ∧
  (h 13 3 = m 13) ∧
  (∀ i : Int, 0 ≤ i → i < m 13 → h 14 i = m (64 + i)) ∧
  (∀ i : Int, 0 ≤ i → i < m 13 → h 15 i = m (84 + i)) ∧
  (h 21 3 = m 14) ∧
  (∀ i : Int, 0 ≤ i → i < m 14 → h 22 i = m (110 + i)) ∧
  (∀ i : Int, 0 ≤ i → i < m 14 → h 23 i = m (118 + i)) ∧
  (∀ i : Int, 0 ≤ i → i < m 14 → h 24 i = m (126 + i)) ∧
  (h 2 6 = m 15) ∧
  (∀ i : Int, 0 ≤ i → i < m 15 → h 25 i = m (134 + i)) ∧
  (h 2 7 = m 12)
theorem xr_now.bs {h : xq_H} {m : Int → Int} {P : List xf_Cl} (B : xr_now h m P) : xr_base h m P := B.1
theorem xr_now.wt {h : xq_H} {m : Int → Int} {P : List xf_Cl} (B : xr_now h m P) : ∀ i : Int, 0 ≤ i → i < m 11 → h 5 i = m (2 + i) := B.2.1
theorem xr_now.ty {h : xq_H} {m : Int → Int} {P : List xf_Cl} (B : xr_now h m P) : h 13 4 = m 1 := B.2.2.1
theorem xr_now.ts {h : xq_H} {m : Int → Int} {P : List xf_Cl} (B : xr_now h m P) : h 13 3 = m 13 := B.2.2.2.1
theorem xr_now.sd {h : xq_H} {m : Int → Int} {P : List xf_Cl} (B : xr_now h m P) : ∀ i : Int, 0 ≤ i → i < m 13 → h 14 i = m (64 + i) := B.2.2.2.2.1
theorem xr_now.fi {h : xq_H} {m : Int → Int} {P : List xf_Cl} (B : xr_now h m P) : ∀ i : Int, 0 ≤ i → i < m 13 → h 15 i = m (84 + i) := B.2.2.2.2.2.1
theorem xr_now.bk {h : xq_H} {m : Int → Int} {P : List xf_Cl} (B : xr_now h m P) : h 21 3 = m 14 := B.2.2.2.2.2.2.1
theorem xr_now.b1 {h : xq_H} {m : Int → Int} {P : List xf_Cl} (B : xr_now h m P) : ∀ i : Int, 0 ≤ i → i < m 14 → h 22 i = m (110 + i) := B.2.2.2.2.2.2.2.1
theorem xr_now.b2 {h : xq_H} {m : Int → Int} {P : List xf_Cl} (B : xr_now h m P) : ∀ i : Int, 0 ≤ i → i < m 14 → h 23 i = m (118 + i) := B.2.2.2.2.2.2.2.2.1
theorem xr_now.b3 {h : xq_H} {m : Int → Int} {P : List xf_Cl} (B : xr_now h m P) : ∀ i : Int, 0 ≤ i → i < m 14 → h 24 i = m (126 + i) := B.2.2.2.2.2.2.2.2.2.1
theorem xr_now.ta {h : xq_H} {m : Int → Int} {P : List xf_Cl} (B : xr_now h m P) : h 2 6 = m 15 := B.2.2.2.2.2.2.2.2.2.2.1
theorem xr_now.tp {h : xq_H} {m : Int → Int} {P : List xf_Cl} (B : xr_now h m P) : ∀ i : Int, 0 ≤ i → i < m 15 → h 25 i = m (134 + i) := B.2.2.2.2.2.2.2.2.2.2.2.1
theorem xr_now.pn {h : xq_H} {m : Int → Int} {P : List xf_Cl} (B : xr_now h m P) : h 2 7 = m 12 := B.2.2.2.2.2.2.2.2.2.2.2.2
def xf_p2 : Nat → Int
  | 0 => 1
  | n + 1 => 2 * xf_p2 n
abbrev xf_VN (m : Int → Int) : Prop :=
  (0 ≤ m 13 ∧ m 13 ≤ 20) ∧
  (∀ i : Int, 0 ≤ i → i < m 13 → xf_wd (m (64 + i)) ∧ xf_wd (m (84 + i))) ∧
  (∀ i : Int, 0 ≤ i → i < m 16 → xf_wd (m (104 + i))) ∧
  (0 ≤ m 14 ∧ m 14 ≤ 8) ∧
  (∀ i : Int, 0 ≤ i → i < m 14 → (0 ≤ m (110 + i) ∧ m (110 + i) < m 10) ∧ xf_wd (m (118 + i)) ∧ xf_wd (m (126 + i))) ∧
  (0 ≤ m 15 ∧ m 15 ≤ 100) ∧
  (∀ i : Int, 0 ≤ i → i < m 15 → 0 ≤ m (134 + i) ∧ m (134 + i) ≤ 127) ∧
  (0 ≤ m 12 ∧ m 12 ≤ 5) ∧
  (m 17 = m 12 - 1) ∧
  (m 0 = if m 13 = 0 then 0 else m (63 + m 13)) ∧
  (∀ i : Int, 0 ≤ i → i < m 11 → m (26 + i) < xf_p2 (m 11).toNat) ∧
  (∀ i j : Int, 0 ≤ i → i < j → j < m 11 → m (18 + i) ≠ m (18 + j))
theorem xf_VN.st {m : Int → Int} (B : xf_VN m) : 0 ≤ m 13 ∧ m 13 ≤ 20 := B.1
theorem xf_VN.sw {m : Int → Int} (B : xf_VN m) : ∀ i : Int, 0 ≤ i → i < m 13 → xf_wd (m (64 + i)) ∧ xf_wd (m (84 + i)) := B.2.1
theorem xf_VN.lw {m : Int → Int} (B : xf_VN m) : ∀ i : Int, 0 ≤ i → i < m 16 → xf_wd (m (104 + i)) := B.2.2.1
theorem xf_VN.bk {m : Int → Int} (B : xf_VN m) : 0 ≤ m 14 ∧ m 14 ≤ 8 := B.2.2.2.1
theorem xf_VN.bw {m : Int → Int} (B : xf_VN m) : ∀ i : Int, 0 ≤ i → i < m 14 → (0 ≤ m (110 + i) ∧ m (110 + i) < m 10) ∧ xf_wd (m (118 + i)) ∧ xf_wd (m (126 + i)) := B.2.2.2.2.1
theorem xf_VN.ta {m : Int → Int} (B : xf_VN m) : 0 ≤ m 15 ∧ m 15 ≤ 100 := B.2.2.2.2.2.1
theorem xf_VN.tp {m : Int → Int} (B : xf_VN m) : ∀ i : Int, 0 ≤ i → i < m 15 → 0 ≤ m (134 + i) ∧ m (134 + i) ≤ 127 := B.2.2.2.2.2.2.1
theorem xf_VN.pn {m : Int → Int} (B : xf_VN m) : 0 ≤ m 12 ∧ m 12 ≤ 5 := B.2.2.2.2.2.2.2.1
theorem xf_VN.ho {m : Int → Int} (B : xf_VN m) : m 17 = m 12 - 1 := B.2.2.2.2.2.2.2.2.1
theorem xf_VN.la {m : Int → Int} (B : xf_VN m) : m 0 = if m 13 = 0 then 0 else m (63 + m 13) := B.2.2.2.2.2.2.2.2.2.1
theorem xf_VN.nx {m : Int → Int} (B : xf_VN m) : ∀ i : Int, 0 ≤ i → i < m 11 → m (26 + i) < xf_p2 (m 11).toNat := B.2.2.2.2.2.2.2.2.2.2.1
theorem xf_VN.ne {m : Int → Int} (B : xf_VN m) : ∀ i j : Int, 0 ≤ i → i < j → j < m 11 → m (18 + i) ≠ m (18 + j) := B.2.2.2.2.2.2.2.2.2.2.2
theorem c_T_last {lev : Nat} {h : xq_H} {Q : Option xq_V → xq_H → Prop} {m : Int → Int} {P : List xf_Cl} (hl : 1 ≤ lev) (N : xr_now h m P) (hN : xf_VN m)
    (hQ : Q (some (xI (m 0))) h) : xq_met lev y_T_last [xR 13] 81 h Q := by
  refine en_T_last (by omega) (fun K hK => ?_)
  have ets := N.ts
  have b := hN.st
  have ela := hN.la
  refine xq_go hK [] 60 ?_
  refine And.intro (fun c => ?_) (fun c => ?_)
  · rw [if_pos (by omega)] at ela
    rw [ela] at hQ
    exact hQ
  · refine And.intro (fun c2 => absurd c2 (by omega)) (fun _ => ?_)
    refine And.intro (by omega) ?_
    refine And.intro (by omega) ?_
    rw [if_neg (by omega)] at ela
    have e := N.sd (m 13 - 1) (by omega) (by omega)
    rw [ets, e, show 64 + (m 13 - 1) = 63 + m 13 by omega, ← ela]
    exact hQ
theorem c_K_settle {lev : Nat} {h : xq_H} {Q : Option xq_V → xq_H → Prop} {m : Int → Int} {P : List xf_Cl} (hl : 3 ≤ lev) (hV : xf_VM m) (N : xr_now h m P) (hN : xf_VN m)
    (hQ : ∀ h', xs_eq [1, 26] h h' → xr_crs h' m → Q none h') : xq_met lev y_K_settle [xR 1] 81 h Q := by
  refine en_K_settle (by omega) (fun K hK => ?_)
  have V1 := hV.1
  refine xq_go hK [] 60 ?_
  refine ⟨lev - 1, by omega, c_cp_5_26 (by omega) (fun h1 hs1 hall => ?_)⟩
  have e13 : h1 13 4 = m 1 := by rw [hs1 13 (by decide)]; exact N.ty
  have N2 : xr_now (xq_u h1 1 2 (h1 13 4)) m P := by
    have hs : xs_eq [1, 26] h (xq_u h1 1 2 (h1 13 4)) := xs_u (xs_tr xs_rf hs1 (X := []) (by decide) (by decide)) (by decide) _ _
    refine ⟨?_, ?_, ?_, ?_, ?_, ?_, ?_, ?_, ?_, ?_, ?_, ?_, ?_⟩
    · exact xr_base_fr hs (by decide) N.bs
    · rw [hs 5 (by decide)]; exact N.wt
    · rw [hs 13 (by decide)]; exact N.ty
    · rw [hs 13 (by decide)]; exact N.ts
    · rw [hs 14 (by decide)]; exact N.sd
    · rw [hs 15 (by decide)]; exact N.fi
    · rw [hs 21 (by decide)]; exact N.bk
    · rw [hs 22 (by decide)]; exact N.b1
    · rw [hs 23 (by decide)]; exact N.b2
    · rw [hs 24 (by decide)]; exact N.b3
    · rw [hs 2 (by decide)]; exact N.ta
    · rw [hs 25 (by decide)]; exact N.tp
    · rw [hs 2 (by decide)]; exact N.pn
  have els := N2.bs.ls
  refine ⟨lev - 1, by omega, c_T_last (by omega) N2 hN ?_⟩
  refine ⟨lev - 1, by omega, c_W_numberOf (by omega) (by omega) ?_⟩
  rw [xr_num hV N2.bs, ← xf_last_num hV]
  refine hQ _ (xs_u (xs_u (xs_tr xs_rf hs1 (X := []) (by decide) (by decide)) (by decide) _ _) (by decide) _ _) ⟨fun i h0 h1 => ?_, ?_, ?_⟩
  · rw [xq_u_o (by decide), xq_u_o (by decide), hall i h0 (by omega)]
    exact N.wt i h0 h1
  · rw [xu_ne (by decide), xu_eq]
    exact e13
  · rw [xu_eq]
