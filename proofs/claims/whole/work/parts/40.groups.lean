/-! WHAT STANDS, by groups -/
abbrev xg_L (h : xq_H) (m : Int → Int) : Prop :=
  h 3 5 = m 11 ∧ (0 ≤ m 11 ∧ m 11 ≤ 8) ∧
  (∀ i : Int, 0 ≤ i → i < m 11 → h 4 i = m (18 + i) ∧ h 6 i = m (26 + i) ∧ h 7 i = xf_sz (m (18 + i)) ∧ xf_wd (m (18 + i)) ∧ (0 ≤ m (26 + i) ∧ m (26 + i) ≤ 255) ∧ m (26 + i) < xf_p2 (m 11).toNat) ∧
  (∀ i : Int, 0 ≤ i → i < m 11 → ∀ k : Nat, (k : Int) < xf_sz (m (18 + i)) → h 8 (i * 5 + k) = xf_lt (m (18 + i)) (xf_sz (m (18 + i))).toNat k) ∧
  (∀ i j : Int, 0 ≤ i → i < j → j < m 11 → m (18 + i) ≠ m (18 + j))
abbrev xg_W (h : xq_H) (m : Int → Int) : Prop := ∀ i : Int, 0 ≤ i → i < m 11 → h 5 i = m (2 + i) ∧ 0 ≤ m (2 + i) ∧ m (2 + i) ≤ 99
abbrev xg_C (h : xq_H) (m : Int → Int) : Prop :=
  h 9 3 = m 10 ∧ (0 ≤ m 10 ∧ m 10 ≤ 5) ∧
  (∀ i : Int, 0 ≤ i → i < m 10 → h 10 i = m (34 + i) ∧ h 11 i = m (39 + i) ∧ (0 ≤ m (34 + i) ∧ m (34 + i) ≤ 6) ∧ (0 ≤ m (39 + i) ∧ m (39 + i) ≤ 9) ∧ ∀ k : Int, 0 ≤ k → k < 4 → h 12 (i * 4 + k) = m (44 + 4 * i + k) ∧ 0 ≤ m (44 + 4 * i + k) ∧ m (44 + 4 * i + k) ≤ 9)
abbrev xg_F (h : xq_H) (m : Int → Int) : Prop := h 13 5 = m 16 ∧ (0 ≤ m 16 ∧ m 16 ≤ 6) ∧ ∀ i : Int, 0 ≤ i → i < m 16 → h 16 i = m (104 + i) ∧ xf_wd (m (104 + i))
abbrev xg_T (h : xq_H) (m : Int → Int) (T : Int) : Prop :=
  h 13 4 = m 1 ∧ h 13 3 = m 13 ∧ (0 ≤ m 1 ∧ m 1 ≤ 1000000) ∧ m 1 ≤ T ∧ (0 ≤ m 13 ∧ m 13 ≤ 20) ∧
  (∀ i : Int, 0 ≤ i → i < m 13 → h 14 i = m (64 + i) ∧ h 15 i = m (84 + i) ∧ xf_wd (m (64 + i)) ∧ xf_wd (m (84 + i))) ∧
  m 0 = if m 13 = 0 then 0 else m (63 + m 13)
abbrev xg_P (h : xq_H) (m : Int → Int) (P : List xf_Cl) : Prop :=
  h 17 0 = xf_lim m ∧ h 17 1 = xf_stp m ∧ h 17 4 = P.length ∧ xf_len P ≤ 100 ∧ xf_okP P ∧ P.length ≤ 10 ∧ xf_cls h 0 0 P ∧ h 2 7 = m 12 ∧
  (-1 ≤ m 17 ∧ m 17 ≤ 4) ∧ (0 ≤ xf_stp m ∧ xf_stp m ≤ 99) ∧ (0 ≤ xf_lim m ∧ xf_lim m ≤ 99) ∧ (0 ≤ m 12 ∧ m 12 ≤ 5) ∧ m 17 = m 12 - 1 ∧ xf_ph m P
abbrev xg_B (h : xq_H) (m : Int → Int) : Prop :=
  h 21 3 = m 14 ∧ (0 ≤ m 14 ∧ m 14 ≤ 8) ∧ ∀ i : Int, 0 ≤ i → i < m 14 → h 22 i = m (110 + i) ∧ h 23 i = m (118 + i) ∧ h 24 i = m (126 + i) ∧ (0 ≤ m (110 + i) ∧ m (110 + i) < m 10) ∧ xf_wd (m (118 + i)) ∧ xf_wd (m (126 + i))
abbrev xg_A (h : xq_H) (m : Int → Int) : Prop :=
  h 2 6 = m 15 ∧ (0 ≤ m 15 ∧ m 15 ≤ 100) ∧ ∀ i : Int, 0 ≤ i → i < m 15 → h 25 i = m (134 + i) ∧ 0 ≤ m (134 + i) ∧ m (134 + i) ≤ 127
theorem xr_ok_mk {h : xq_H} {m : Int → Int} {P : List xf_Cl} {T : Int} (gL : xg_L h m) (gW : xg_W h m) (gC : xg_C h m) (gF : xg_F h m) (gT : xg_T h m T) (gP : xg_P h m P) (gB : xg_B h m) (gA : xg_A h m) : xr_ok h m P T := by
  obtain ⟨l1, l2, l3, l4, l5⟩ := gL
  obtain ⟨c1, c2, c3⟩ := gC
  obtain ⟨f1, f2, f3⟩ := gF
  obtain ⟨t1, t2, t3, t4, t5, t6, t7⟩ := gT
  obtain ⟨p1, p2, p3, p4, p5, p6, p7, p8, p9, p10, p11, p12, p13, p14⟩ := gP
  obtain ⟨b1, b2, b3⟩ := gB
  obtain ⟨a1, a2, a3⟩ := gA
  refine ⟨⟨⟨l1, fun i x y => (l3 i x y).1, fun i x y => (l3 i x y).2.1, fun i x y => (l3 i x y).2.2.1, l4, c1, fun i x y => (c3 i x y).1, fun i x y => (c3 i x y).2.1, fun i x y k z w => ((c3 i x y).2.2.2.2 k z w).1, f1, fun i x y => (f3 i x y).1, p1, p2, p3, p4, p5, p6, p7⟩, ?_⟩, ?_⟩
  · exact ⟨fun i x y => (gW i x y).1, t1, t2, fun i x y => (t6 i x y).1, fun i x y => (t6 i x y).2.1, b1, fun i x y => (b3 i x y).1, fun i x y => (b3 i x y).2.1, fun i x y => (b3 i x y).2.2.1, a1, fun i x y => (a3 i x y).1, p8⟩
  · refine ⟨⟨l2, fun i x y => ⟨(l3 i x y).2.2.2.1, (gW i x y).2, (l3 i x y).2.2.2.2.1⟩, c2, fun i x y => ⟨(c3 i x y).2.2.1, (c3 i x y).2.2.2.1, fun k z w => ((c3 i x y).2.2.2.2 k z w).2⟩, f2, t3, p9, p10, p11⟩, ?_, p14, t4⟩
    exact ⟨t5, fun i x y => (t6 i x y).2.2, fun i x y => (f3 i x y).2, b2, fun i x y => (b3 i x y).2.2.2, a2, fun i x y => (a3 i x y).2, p12, p13, t7, fun i x y => (l3 i x y).2.2.2.2.2, l5⟩
theorem xr_ok_g {h : xq_H} {m : Int → Int} {P : List xf_Cl} {T : Int} (I : xr_ok h m P T) : xg_L h m ∧ xg_W h m ∧ xg_C h m ∧ xg_F h m ∧ xg_T h m T ∧ xg_P h m P ∧ xg_B h m ∧ xg_A h m := by
  obtain ⟨V1, V2, V3, V4, V5, V6, V7, V8, V9⟩ := I.vm
  have N := I.now
  have B := N.bs
  have W := I.vn
  refine ⟨⟨B.ls, V1, fun i x y => ⟨B.wd i x y, B.nx i x y, B.sz i x y, (V2 i x y).1, (V2 i x y).2.2, W.nx i x y⟩, B.lt, W.ne⟩, fun i x y => ⟨N.wt i x y, (V2 i x y).2.1⟩, ?_, ?_, ?_, ?_, ?_, ?_⟩
  · exact ⟨B.cs, V3, fun i x y => ⟨B.kd i x y, B.vs i x y, (V4 i x y).1, (V4 i x y).2.1, fun k z w => ⟨B.rw i x y k z w, (V4 i x y).2.2 k z w⟩⟩⟩
  · exact ⟨B.ll, V5, fun i x y => ⟨B.lf i x y, W.lw i x y⟩⟩
  · exact ⟨N.ty, N.ts, V6, I.ty, W.st, fun i x y => ⟨N.sd i x y, N.fi i x y, W.sw i x y⟩, W.la⟩
  · exact ⟨B.li, B.st, B.pc, B.pl, B.po, B.pt, B.cl, N.pn, V7, V8, V9, W.pn, W.ho, I.ph⟩
  · exact ⟨N.bk, W.bk, fun i x y => ⟨N.b1 i x y, N.b2 i x y, N.b3 i x y, W.bw i x y⟩⟩
  · exact ⟨N.ta, W.ta, fun i x y => ⟨N.tp i x y, W.tp i x y⟩⟩
theorem xg_L_cg {h h' : xq_H} {m m' : Int → Int} (e3 : h' 3 5 = h 3 5) (e4 : h' 4 = h 4) (e6 : h' 6 = h 6) (e7 : h' 7 = h 7) (e8 : h' 8 = h 8) (em : ∀ k : Int, k = 11 ∨ 18 ≤ k ∧ k < 34 → m' k = m k) (g : xg_L h m) : xg_L h' m' := by
  obtain ⟨l1, l2, l3, l4, l5⟩ := g
  have e11 := em 11 (by omega)
  refine ⟨by rw [e3, e11]; exact l1, by rw [e11]; exact l2, fun i x y => ?_, fun i x y => ?_, fun i j x y z => ?_⟩
  · rw [e11] at y ⊢
    rw [e4, e6, e7, em (18 + i) (by omega), em (26 + i) (by omega)]
    exact l3 i x y
  · rw [e11] at y
    rw [e8, em (18 + i) (by omega)]
    exact l4 i x y
  · rw [e11] at z
    rw [em (18 + i) (by omega), em (18 + j) (by omega)]
    exact l5 i j x y z
theorem xg_W_cg {h h' : xq_H} {m m' : Int → Int} (h8 : m 11 ≤ 8) (e5 : h' 5 = h 5) (em : ∀ k : Int, k = 11 ∨ 2 ≤ k ∧ k < 10 → m' k = m k) (g : xg_W h m) : xg_W h' m' := by
  intro i x y
  rw [em 11 (by omega)] at y
  rw [e5, em (2 + i) (by omega)]
  exact g i x y
theorem xg_C_cg {h h' : xq_H} {m m' : Int → Int} (e9 : h' 9 3 = h 9 3) (e10 : h' 10 = h 10) (e11 : h' 11 = h 11) (e12 : h' 12 = h 12) (em : ∀ k : Int, k = 10 ∨ 34 ≤ k ∧ k < 64 → m' k = m k) (g : xg_C h m) : xg_C h' m' := by
  obtain ⟨c1, c2, c3⟩ := g
  have e := em 10 (by omega)
  refine ⟨by rw [e9, e]; exact c1, by rw [e]; exact c2, fun i x y => ?_⟩
  rw [e] at y
  have z := c3 i x y
  rw [e10, e11, e12, em (34 + i) (by omega), em (39 + i) (by omega)]
  refine ⟨z.1, z.2.1, z.2.2.1, z.2.2.2.1, fun k z1 z2 => ?_⟩
  rw [em (44 + 4 * i + k) (by omega)]
  exact z.2.2.2.2 k z1 z2
theorem xg_F_cg {h h' : xq_H} {m m' : Int → Int} (e13 : h' 13 5 = h 13 5) (e16 : h' 16 = h 16) (em : ∀ k : Int, k = 16 ∨ 104 ≤ k ∧ k < 110 → m' k = m k) (g : xg_F h m) : xg_F h' m' := by
  obtain ⟨f1, f2, f3⟩ := g
  have e := em 16 (by omega)
  refine ⟨by rw [e13, e]; exact f1, by rw [e]; exact f2, fun i x y => ?_⟩
  rw [e] at y
  rw [e16, em (104 + i) (by omega)]
  exact f3 i x y
theorem xg_T_cg {h h' : xq_H} {m m' : Int → Int} {T : Int} (e4 : h' 13 4 = h 13 4) (e3 : h' 13 3 = h 13 3) (e14 : h' 14 = h 14) (e15 : h' 15 = h 15) (em : ∀ k : Int, k = 0 ∨ k = 1 ∨ k = 13 ∨ 64 ≤ k ∧ k < 104 → m' k = m k) (g : xg_T h m T) : xg_T h' m' T := by
  obtain ⟨t1, t2, t3, t4, t5, t6, t7⟩ := g
  have e1 := em 1 (by omega)
  have e13 := em 13 (by omega)
  refine ⟨by rw [e4, e1]; exact t1, by rw [e3, e13]; exact t2, by rw [e1]; exact t3, by rw [e1]; exact t4, by rw [e13]; exact t5, fun i x y => ?_, ?_⟩
  · rw [e13] at y
    rw [e14, e15, em (64 + i) (by omega), em (84 + i) (by omega)]
    exact t6 i x y
  · rw [em 0 (by omega), e13, t7]
    split
    · rfl
    · rw [em (63 + m 13) (by omega)]
theorem xg_P_cg {h h' : xq_H} {m m' : Int → Int} {P : List xf_Cl} (e17 : h' 17 = h 17) (e18 : h' 18 = h 18) (e19 : h' 19 = h 19) (e20 : h' 20 = h 20) (e2 : h' 2 7 = h 2 7) (em : ∀ k : Int, k = 12 ∨ k = 17 ∨ 234 ≤ k → m' k = m k) (g : xg_P h m P) : xg_P h' m' P := by
  obtain ⟨p1, p2, p3, p4, p5, p6, p7, p8, p9, p10, p11, p12, p13, p14⟩ := g
  have e12 := em 12 (by omega)
  have e := em 17 (by omega)
  have elim : xf_lim m' = xf_lim m := by
    unfold xf_lim
    rw [e]
    split
    · rfl
    · rw [em (234 + m 17) (by omega)]
  have estp : xf_stp m' = xf_stp m := by
    unfold xf_stp
    rw [e]
    split
    · rfl
    · rw [em (239 + m 17) (by omega)]
  refine ⟨by rw [e17, elim]; exact p1, by rw [e17, estp]; exact p2, by rw [e17]; exact p3, p4, p5, p6, xf_cls_congr e18 e19 e20 _ _ _ p7, by rw [e2, e12]; exact p8, by rw [e]; exact p9, by rw [estp]; exact p10, by rw [elim]; exact p11, by rw [e12]; exact p12, by rw [e, e12]; exact p13, ?_⟩
  obtain ⟨q1, q2, q3, q4, q5⟩ := p14
  refine ⟨q1, q2, q3, fun z => q4 (by rw [← e]; exact z), fun z => ?_⟩
  rw [e] at z ⊢
  rw [em (244 + m 17) (by omega)]
  exact ⟨(q5 z).1, xf_at_congr _ _ (fun k hk => em k (by omega)) (q5 z).2⟩
theorem xg_B_cg {h h' : xq_H} {m m' : Int → Int} (e21 : h' 21 3 = h 21 3) (e22 : h' 22 = h 22) (e23 : h' 23 = h 23) (e24 : h' 24 = h 24) (em : ∀ k : Int, k = 14 ∨ 110 ≤ k ∧ k < 134 → m' k = m k) (e10 : m 10 ≤ m' 10) (g : xg_B h m) : xg_B h' m' := by
  obtain ⟨b1, b2, b3⟩ := g
  have e := em 14 (by omega)
  refine ⟨by rw [e21, e]; exact b1, by rw [e]; exact b2, fun i x y => ?_⟩
  rw [e] at y
  have z := b3 i x y
  rw [e22, e23, e24, em (110 + i) (by omega), em (118 + i) (by omega), em (126 + i) (by omega)]
  exact ⟨z.1, z.2.1, z.2.2.1, ⟨z.2.2.2.1.1, by omega⟩, z.2.2.2.2⟩
theorem xg_A_cg {h h' : xq_H} {m m' : Int → Int} (e2 : h' 2 6 = h 2 6) (e25 : h' 25 = h 25) (em : ∀ k : Int, k = 15 ∨ 134 ≤ k ∧ k < 234 → m' k = m k) (g : xg_A h m) : xg_A h' m' := by
  obtain ⟨a1, a2, a3⟩ := g
  have e := em 15 (by omega)
  refine ⟨by rw [e2, e]; exact a1, by rw [e]; exact a2, fun i x y => ?_⟩
  rw [e] at y
  rw [e25, em (134 + i) (by omega)]
  exact a3 i x y
/-- the row with one number otherwise -/
def xf_up (m : Int → Int) (k v : Int) : Int → Int := fun j => if j = k then v else m j
theorem xf_up_n {m : Int → Int} {k v j : Int} (h : j ≠ k) : xf_up m k v j = m j := if_neg h
theorem xf_up_e {m : Int → Int} {k v : Int} : xf_up m k v k = v := if_pos rfl
theorem xq_u_up {h : xq_H} {o : Nat} {k v : Int} : xq_u h o k v o = xf_up (h o) k v := funext (fun j => xu_rd)
/-- what a changing call of the class may touch -/
abbrev xr_cm (h h' : xq_H) : Prop := xs_eq [1, 2, 3, 4, 5, 6, 7, 8, 9, 10, 11, 12, 13, 14, 15, 16, 17, 18, 19, 20, 21, 22, 23, 24, 25, 26, 27, 28, 29, 54, 55, 56, 57, 58, 59, 62, 63] h h'
theorem xr_cm_s {X : List Nat} {h h' : xq_H} (a : xs_eq X h h') (hX : ∀ o ∈ X, o ∈ [1, 2, 3, 4, 5, 6, 7, 8, 9, 10, 11, 12, 13, 14, 15, 16, 17, 18, 19, 20, 21, 22, 23, 24, 25, 26, 27, 28, 29, 54, 55, 56, 57, 58, 59, 62, 63]) : xr_cm h h' := xs_tr xs_rf a (X := []) (by decide) hX
theorem xr_in_mut {h h1 h2 : xq_H} {P P' Pk : List xf_Cl} {T T' : Int} (I : xr_in h P Pk T) (hT : T ≤ T') (a : xr_cm h h1) (O : xr_ok h1 (h2 65) P' T') (b : xr_r5 h1 h2) : xr_in h2 P' Pk T' := by
  obtain ⟨gL, gW, gC, gF, gT, gP, gB, gA⟩ := xr_ok_g O
  have e := fun o ho => b.1 o ho
  have e4 : h2 64 4 = h 64 4 := (b.2 4 (by decide)).trans (by rw [a 64 (by decide)])
  have e27 : h2 64 27 = h 64 27 := (b.2 27 (by decide)).trans (by rw [a 64 (by decide)])
  have e66 : h2 66 = h 66 := (b.1 66 (by decide)).trans (a 66 (by decide))
  refine ⟨⟨xr_now_fr b.1 (by decide) O.now, O.vm, O.vn, O.ph, O.ty⟩, ?_, ?_, ?_, ?_, ?_, ?_⟩
  · rw [e4, b.1 0 (by decide), a 0 (by decide)]; exact I.ki
  · rw [e4]; exact I.kb
  · intro z
    rw [e4] at z
    rw [e66]
    have Kk := xr_ok_T (I.kn z) hT
    refine ⟨xr_now_fr (X := [0, 1, 26, 27, 28, 29, 30, 31, 34, 35, 36, 37, 39, 40, 41, 42, 43, 44, 45, 46, 47, 48, 49, 50]) (h := xr_sh h) (fun o ho => ?_) (by decide) Kk.now, Kk.vm, Kk.vn, Kk.ph, Kk.ty⟩
    simp only [List.mem_cons, List.not_mem_nil, or_false] at ho
    refine (b.1 (o + 28) (fun z => ?_)).trans (a (o + 28) (fun z => ?_))
    · simp only [List.mem_cons, List.not_mem_nil, or_false] at z
      omega
    · simp only [List.mem_cons, List.not_mem_nil, or_false] at z
      omega
  · rw [e27, b.1 60 (by decide), a 60 (by decide)]; exact I.ra
  · rw [e27]; exact I.rb
  · rw [e27, b.1 61 (by decide), a 61 (by decide), b.1 79 (by decide), a 79 (by decide)]; exact I.tr
