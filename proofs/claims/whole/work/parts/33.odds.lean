/-! ODDS AS FRACTIONS -/
def xf_part (a b : Nat) (part : Int) : Int := if part = 0 then (a : Int) / (Nat.gcd a b : Nat) else (b : Int) / (Nat.gcd a b : Nat)
theorem c_X_partOf {lev : Nat} {h : xq_H} {Q : Option xq_V → xq_H → Prop} {a b : Nat} {aI bI part : Int} (hl : 1 ≤ lev) (ea : aI = a) (eb : bI = b) (ha : a ≤ 99) (hb : 1 ≤ b ∧ b ≤ 99)
    (hQ : Q (some (xJ (xf_part a b part))) h) : xq_met lev y_X_partOf [xI aI, xI bI, xI part] 81 h Q := by
  refine en_X_partOf (by omega) (fun K hK => ?_)
  have hg : 0 < Nat.gcd a b := Nat.gcd_pos_of_pos_right a hb.1
  have loop : ∀ (x y : Nat) (xI0 yI nI : Int) (x6 : Option xq_V), xI0 = x → yI = y → 0 ≤ nI → nI + x ≤ 99 → Nat.gcd x y = Nat.gcd a b → y ≤ 99 → (x6 = none ∨ ∃ z, x6 = some (xI z)) → K 6 [some (xI aI), some (xI bI), some (xI part), some (xI xI0), some (xI yI), some (xI nI), x6] [] 81 h := by
    intro x
    induction x using Nat.strongRecOn with
    | ind x ih =>
      intro y xI0 yI nI x6 ex ey hn0 hn hgc hy hx6
      by_cases hx : x = 0
      · subst hx
        rw [Nat.gcd_zero_left] at hgc
        have q := hQ
        unfold xf_part at q
        refine xq_go hK [6] 60 ?_
        refine And.intro (fun c => absurd c (by omega)) (fun _ => ?_)
        refine And.intro (fun _ => ?_) (fun c => absurd (by omega) c)
        refine And.intro (fun _ => ?_) (fun c => absurd c (by omega))
        refine And.intro (fun c => ?_) (fun c => ?_)
        · refine And.intro (by omega) ?_
          rw [if_neg c, ← hgc, ← ey, ← eb] at q
          exact q
        · refine And.intro (by omega) ?_
          rw [if_pos c, ← hgc, ← ey, ← ea] at q
          exact q
      · refine xq_go hK [6] 60 ?_
        refine And.intro (fun c => absurd c (by omega)) (fun _ => ?_)
        refine And.intro (fun c => absurd c (by omega)) (fun _ => ?_)
        refine And.intro (by omega) ?_
        refine And.intro (by omega) ?_
        have hlt := Nat.mod_lt y (show 0 < x by omega)
        refine ih (y % x) hlt x _ _ _ _ (by rw [ex, ey]; rfl) ex (by omega) (by omega) ?_ (by omega) (Or.inr ⟨_, rfl⟩)
        rw [← hgc]
        exact (Nat.gcd_rec x y).symm
  refine xq_go hK [6] 60 ?_
  exact loop a b _ _ _ _ ea eb (by omega) (by omega) rfl hb.2 (Or.inl rfl)
theorem c_M_lowest {lev : Nat} {h : xq_H} {Q : Option xq_V → xq_H → Prop} {a b : Nat} {aI bI part : Int} (hl : 1 ≤ lev) (ea : aI = a) (eb : bI = b) (ha : a ≤ 99) (hb : 1 ≤ b ∧ b ≤ 99)
    (hQ : Q (some (xJ (xf_part a b part))) h) : xq_met lev y_M_lowest [xJ aI, xJ bI, xI part] 81 h Q := by
  refine en_M_lowest (by omega) (fun K hK => ?_)
  have hg : 0 < Nat.gcd a b := Nat.gcd_pos_of_pos_right a hb.1
  have loop : ∀ (y x : Nat) (xI0 yI : Int) (x9 : Option xq_V), xI0 = x → yI = y → Nat.gcd x y = Nat.gcd a b → (x9 = none ∨ ∃ z, x9 = some (xJ z)) → K 4 [some (xJ aI), none, some (xJ bI), none, some (xI part), some (xJ xI0), none, some (xJ yI), none, x9, none] [] 81 h := by
    intro y
    induction y using Nat.strongRecOn with
    | ind y ih =>
      intro x xI0 yI x9 ex ey hgc hx9
      by_cases hy : y = 0
      · subst hy
        rw [Nat.gcd_zero_right] at hgc
        have q := hQ
        unfold xf_part at q
        refine xq_go hK [4] 60 ?_
        refine And.intro (fun _ => ?_) (fun c => ?_)
        · refine And.intro (fun c => ?_) (fun c => ?_)
          · refine And.intro (by omega) ?_
            rw [if_neg c, ← hgc, ← ex, ← eb] at q
            exact q
          · refine And.intro (by omega) ?_
            rw [if_pos c, ← hgc, ← ex, ← ea] at q
            exact q
        · refine absurd ?_ c
          unfold xq_lc
          rw [if_neg (by omega), if_pos (by omega)]
      · rcases hx9 with rfl | ⟨z9, rfl⟩
        all_goals
          refine xq_go hK [4] 60 ?_
          refine And.intro (fun c => ?_) (fun _ => ?_)
          · unfold xq_lc at c
            rw [if_neg (by omega), if_neg (by omega)] at c
            exact absurd c (by decide)
          refine And.intro (by omega) ?_
          have hlt := Nat.mod_lt x (show 0 < y by omega)
          refine ih (x % y) hlt y _ _ _ ey (by rw [ex, ey]; rfl) ?_ (Or.inr ⟨_, rfl⟩)
          rw [← hgc, Nat.gcd_comm x y, Nat.gcd_rec y x, Nat.gcd_comm]
  refine xq_go hK [4] 60 ?_
  exact loop b a _ _ _ ea eb rfl (Or.inl rfl)
theorem xf_sl1_ge (f : Int → Prop) (d : Int) : ∀ (n : Nat) (L : Int), 1 ≤ L → L ≤ n → xf_near d L → f L → 1 ≤ xf_sl1 f d n
  | 0, L, h1, h2, _, _ => by omega
  | n + 1, L, h1, h2, hn, hf => by
    have b := xf_sl1_bd f d n
    by_cases e : L = (n : Int) + 1
    · rw [(xf_sl1_s f d n e).1 ⟨hn, hf⟩]
      omega
    · have := xf_sl1_ge f d n L h1 (by omega) hn hf
      rw [xf_sl1]
      split <;> omega
theorem xf_ways_bd {w : Int} (hw : xf_wd w) : 1 ≤ xf_ways w ∧ xf_ways w ≤ 40 := by
  have b := xf_szb hw
  have h1 := xf_sl_bd (fun _ _ => True) w (xf_sz w).toNat
  refine ⟨?_, by unfold xf_ways; omega⟩
  obtain ⟨p, hp⟩ : ∃ p : Nat, (xf_sz w).toNat = p + 1 := ⟨(xf_sz w).toNat - 1, by omega⟩
  have hd := xf_dgt hw (p := p) (by omega)
  have h2 := xf_sl_bd (fun _ _ => True) w p
  have h3 : 1 ≤ xf_sl1 (fun _ => True) (xf_cut w p % 10) 8 := by
    by_cases c : xf_cut w p % 10 ≤ 4
    · exact xf_sl1_ge _ _ 8 (xf_cut w p % 10 + 4) (by omega) (by omega) (by unfold xf_near; omega) trivial
    · exact xf_sl1_ge _ _ 8 (xf_cut w p % 10 - 4) (by omega) (by omega) (by unfold xf_near; omega) trivial
  have h4 : xf_ways w = xf_sl (fun _ _ => True) w p + xf_sl1 (fun _ => True) (xf_cut w p % 10) 8 := by
    unfold xf_ways
    rw [hp, xf_sl]
  omega
noncomputable def sp_slips (m : Int → Int) (P : List xf_Cl) (md w part : Int) : Int := xf_if ((0 ≤ md ∧ md < m 10) ∧ xf_wd w ∧ 0 ≤ part ∧ part ≤ 1) (xf_part (xf_so m P md w w).toNat (xf_ways w).toNat part) (-9223372036854775808)
theorem q_X_slips {lev : Nat} {h : xq_H} {Q : Option xq_V → xq_H → Prop} {m : Int → Int} {P : List xf_Cl} {md w part : Int} {T : Int} (hl : 9 ≤ lev) (I : xr_ok h m P T) (hQ : ∀ h', xr_ck h h' → Q (some (xJ (sp_slips m P md w part))) h') : xq_met lev y_X_slips [xR 0, xI md, xI w, xI part] 81 h Q := by
  refine en_X_slips (by omega) (fun K hK => ?_)
  have ecs := I.now.bs.cs
  unfold sp_slips at hQ
  have bad : ¬ ((0 ≤ md ∧ md < m 10) ∧ xf_wd w ∧ 0 ≤ part ∧ part ≤ 1) → Q (some (xJ (-9223372036854775808))) h := by
    intro c
    rw [xf_if_f c] at hQ
    exact hQ h xs_rf
  refine xq_go hK [] 60 ?_
  refine ⟨lev - 1, by omega, c_C_has (by omega) (fun c => ?_) (fun c => ?_)⟩
  · rw [ecs] at c
    refine And.intro (fun z => absurd z (by decide)) (fun _ => ?_)
    refine And.intro (fun c2 => bad (fun z => by omega)) (fun c2 => And.intro (fun c3 => bad (fun z => by omega)) (fun c3 => ?_))
    refine ⟨lev - 1, by omega, c_X_isWord (by omega) (fun c4 => ?_) (fun c4 => ?_)⟩
    · refine And.intro (fun _ => ?_) (fun z => absurd z (by decide))
      rw [xf_if_t ⟨c, c4, by omega, by omega⟩] at hQ
      refine ⟨lev - 1, by omega, c_K_settle (by omega) I.vm I.now I.vn (fun h1 hs1 C1 => ?_)⟩
      refine ⟨lev - 1, by omega, c_K_slipsInto (by omega) I.vm (xr_base_fr hs1 (by decide) I.now.bs) C1 c4 c (fun h2 hk2 => ?_)⟩
      refine ⟨lev - 1, by omega, c_X_slipsOf (by omega) c4 ?_⟩
      have b1 := xf_so_bd (m := m) (P := P) (md := md) (a := w) c4
      have b2 := xf_ways_bd c4
      refine ⟨lev - 1, by omega, c_X_partOf (a := (xf_so m P md w w).toNat) (b := (xf_ways w).toNat) (by omega) (by omega) (by omega) (by omega) (by omega) ?_⟩
      exact hQ h2 (xr_ck_tr (xr_ck_set hs1) (xr_ck_kp hk2))
    · refine And.intro (fun z => absurd rfl z) (fun _ => ?_)
      exact bad (fun z => c4 z.2.1)
  · rw [ecs] at c
    exact And.intro (fun _ => bad (fun z => c z.1)) (fun z => absurd rfl z)
theorem q_M_slips {lev : Nat} {h : xq_H} {Q : Option xq_V → xq_H → Prop} {P : List xf_Cl} {md w part : Int} (hl : 9 ≤ lev) (hV : xf_VM (h 65)) (hP : xf_ph (h 65) P) (hQ : ∀ h', xr_rk h h' → Q (some (xJ (sp_slips (h 65) P md w part))) h') : xq_met lev y_M_slips [xR 64, xI md, xI w, xI part] 81 h Q := by
  refine en_M_slips (by omega) (fun K hK => ?_)
  have V3 := hV.2.2.1
  unfold sp_slips at hQ
  have bad : ¬ ((0 ≤ md ∧ md < h 65 10) ∧ xf_wd w ∧ 0 ≤ part ∧ part ≤ 1) → Q (some (xJ (-9223372036854775808))) h := by
    intro c
    rw [xf_if_f c] at hQ
    exact hQ h xr_rk_rf
  refine xq_go hK [] 60 ?_
  refine ⟨lev - 1, by omega, c_M_isMender (by omega) V3 (fun c => ?_) (fun c => ?_)⟩
  · refine And.intro (fun z => absurd z (by decide)) (fun _ => ?_)
    refine ⟨lev - 1, by omega, c_M_isWord (by omega) (fun c4 => ?_) (fun c4 => ?_)⟩
    · refine And.intro (fun z => absurd z (by decide)) (fun _ => ?_)
      refine ⟨lev - 1, by omega, c_M_in (by omega) (fun c3 => ?_) (fun c3 => ?_)⟩
      · refine And.intro (fun _ => ?_) (fun z => absurd z (by decide))
        rw [xf_if_t ⟨c, c4, c3⟩] at hQ
        refine ⟨lev - 1, by omega, c_M_slipsFrom (P := P) (by omega) hV hP c4 c (fun h1 hk1 e23 e24 _ => ?_)⟩
        have b1 := xf_so_bd (m := h 65) (P := P) (md := md) (a := w) c4
        have b2 := xf_ways_bd c4
        refine ⟨lev - 1, by omega, c_M_lowest (a := (xf_so (h 65) P md w w).toNat) (b := (xf_ways w).toNat) (by omega) (by omega) (by omega) (by omega) (by omega) ?_⟩
        exact hQ h1 hk1
      · refine And.intro (fun z => absurd rfl z) (fun _ => ?_)
        exact bad (fun z => c3 z.2.2)
    · refine And.intro (fun _ => ?_) (fun z => absurd rfl z)
      exact bad (fun z => c4 z.2.1)
  · exact And.intro (fun _ => bad (fun z => c z.1)) (fun z => absurd rfl z)
/-! how many bits are set -/
def xf_pc : Nat → Nat → Int
  | 0, _ => 0
  | f + 1, x => ((x % 2 : Nat) : Int) + xf_pc f (x / 2)
theorem xb_cnt : ∀ x : Nat, x < 256 → x ≠ 0 → (0 ≤ xq_and (x : Int) ((x : Int) - 1) ∧ xq_and (x : Int) ((x : Int) - 1) < (x : Int)) ∧ xf_pc 8 (xq_and (x : Int) ((x : Int) - 1)).toNat + 1 = xf_pc 8 x := by decide +kernel
theorem xb_pcb : ∀ x : Nat, x < 256 → 0 ≤ xf_pc 8 x ∧ xf_pc 8 x ≤ 8 := by decide +kernel
theorem c_JI_bitCount {lev : Nat} {h : xq_H} {Q : Option xq_V → xq_H → Prop} {n : Nat} {x : Int} (hl : 1 ≤ lev) (ex : x = n) (hn : n < 256) (hQ : Q (some (xI (xf_pc 8 n))) h) : xq_met lev y_JI_bitCount [xI x] 81 h Q := by
  refine en_JI_bitCount (by omega) (fun K hK => ?_)
  subst ex
  refine xq_go hK [] 60 ?_
  refine Eq.mp (congrArg (fun z : Int => Q (some (xI z)) h) (?_ : xf_pc 8 n = _)) hQ
  clear hQ hK hl
  revert n
  decide +kernel
theorem c_M_count1 {lev : Nat} {h : xq_H} {Q : Option xq_V → xq_H → Prop} {n : Nat} {x : Int} (hl : 1 ≤ lev) (ex : x = n) (hn : n < 256) (hQ : Q (some (xI (xf_pc 8 n))) h) : xq_met lev y_M_count1 [xI x] 81 h Q := by
  refine en_M_count1 (by omega) (fun K hK => ?_)
  have loop : ∀ (y : Nat) (yI k : Int), yI = y → y < 256 → 0 ≤ k ∧ k ≤ 1000 → k + xf_pc 8 y = xf_pc 8 n → K 4 [some (xI x), some (xI k), some (xI yI)] [] 81 h := by
    intro y
    induction y using Nat.strongRecOn with
    | ind y ih =>
      intro yI k ey hy hk hs
      have hb := xb_pcb y hy
      have hbn := xb_pcb n hn
      by_cases h0 : y = 0
      · subst h0
        rw [show xf_pc 8 0 = 0 from rfl, Int.add_zero] at hs
        rw [← hs] at hQ
        refine xq_go hK [4] 60 ?_
        refine And.intro (fun _ => hQ) (fun c => absurd ey c)
      · have s := xb_cnt y hy h0
        subst ey
        refine xq_go hK [4] 60 ?_
        refine And.intro (fun c => absurd c (by omega)) (fun _ => ?_)
        refine And.intro (by omega) ?_
        refine And.intro (by omega) ?_
        exact ih (xq_and (y : Int) ((y : Int) - 1)).toNat (by omega) _ _ (by omega) (by omega) (by omega) (by omega)
  refine xq_go hK [4] 60 ?_
  exact loop n _ _ ex hn (by omega) (by omega)
noncomputable def sp_wrong (m : Int → Int) (P : List xf_Cl) (md part : Int) : Int := xf_if ((0 ≤ md ∧ md < m 10) ∧ (0 ≤ part ∧ part ≤ 1) ∧ m 11 ≠ 0)
  (xf_part (m 11 - xf_pc 8 (xf_bs (fun i => xf_made m P md (m (18 + i)) = m (18 + i)) (m 11).toNat).toNat).toNat (m 11).toNat part) (-9223372036854775808)
theorem xb_pcn : ∀ n : Nat, n ≤ 8 → ∀ x : Nat, x < 2 ^ n → xf_pc 8 x ≤ n := by decide +kernel
theorem xf_bs_pc (p : Nat → Prop) {n : Nat} (hn : n ≤ 8) : (xf_bs p n).toNat < 256 ∧ 0 ≤ xf_pc 8 (xf_bs p n).toNat ∧ xf_pc 8 (xf_bs p n).toNat ≤ n := by
  have b := xf_bs_bd p n
  have e : xf_p2 n = ((2 ^ n : Nat) : Int) := by
    rcases xf_p2_c hn with ⟨rfl, h⟩ | ⟨rfl, h⟩ | ⟨rfl, h⟩ | ⟨rfl, h⟩ | ⟨rfl, h⟩ | ⟨rfl, h⟩ | ⟨rfl, h⟩ | ⟨rfl, h⟩ | ⟨rfl, h⟩ <;> rw [h] <;> rfl
  have c := xf_p2_c hn
  have h1 : (xf_bs p n).toNat < 256 := by omega
  exact ⟨h1, (xb_pcb _ h1).1, xb_pcn n hn _ (by omega)⟩
theorem q_X_wrong {lev : Nat} {h : xq_H} {Q : Option xq_V → xq_H → Prop} {m : Int → Int} {P : List xf_Cl} {md part : Int} {T : Int} (hl : 9 ≤ lev) (I : xr_ok h m P T) (hQ : ∀ h', xr_ck h h' → Q (some (xJ (sp_wrong m P md part))) h') : xq_met lev y_X_wrong [xR 0, xI md, xI part] 81 h Q := by
  refine en_X_wrong (by omega) (fun K hK => ?_)
  have V1 := I.vm.1
  have ecs := I.now.bs.cs
  have els := I.now.bs.ls
  unfold sp_wrong at hQ
  have bad : ¬ ((0 ≤ md ∧ md < m 10) ∧ (0 ≤ part ∧ part ≤ 1) ∧ m 11 ≠ 0) → Q (some (xJ (-9223372036854775808))) h := by
    intro c
    rw [xf_if_f c] at hQ
    exact hQ h xs_rf
  refine xq_go hK [] 60 ?_
  refine ⟨lev - 1, by omega, c_C_has (by omega) (fun c => ?_) (fun c => ?_)⟩
  · rw [ecs] at c
    refine And.intro (fun z => absurd z (by decide)) (fun _ => ?_)
    refine And.intro (fun c2 => bad (fun z => by omega)) (fun c2 => And.intro (fun c3 => bad (fun z => by omega)) (fun c3 => ?_))
    refine And.intro (fun c4 => ?_) (fun c4 => bad (fun z => z.2.2 (by omega)))
    rw [xf_if_t ⟨c, by omega, by omega⟩] at hQ
    have hpc := xf_bs_pc (fun i => xf_made m P md (m (18 + i)) = m (18 + i)) (n := (m 11).toNat) (by omega)
    have hbb := xf_bs_bd (fun i => xf_made m P md (m (18 + i)) = m (18 + i)) (m 11).toNat
    refine ⟨lev - 1, by omega, q_X_stays (by omega) I (fun h1 hk1 => ?_)⟩
    unfold sp_stays
    rw [xf_if_t c]
    refine ⟨lev - 1, by omega, c_JI_bitCount (n := (xf_bs (fun i => xf_made m P md (m (18 + i)) = m (18 + i)) (m 11).toNat).toNat) (by omega) (by omega) hpc.1 ?_⟩
    have els1 : h1 3 5 = m 11 := by rw [hk1 3 (by decide)]; exact els
    rw [els]
    refine And.intro (by omega) ?_
    refine ⟨lev - 1, by omega, c_X_partOf (a := (m 11 - xf_pc 8 (xf_bs (fun i => xf_made m P md (m (18 + i)) = m (18 + i)) (m 11).toNat).toNat).toNat) (b := (m 11).toNat) (by omega) (by omega) (by omega) (by omega) (by omega) ?_⟩
    exact hQ h1 hk1
  · rw [ecs] at c
    exact And.intro (fun _ => bad (fun z => c z.1)) (fun z => absurd rfl z)
theorem q_M_wrong {lev : Nat} {h : xq_H} {Q : Option xq_V → xq_H → Prop} {P : List xf_Cl} {md part : Int} (hl : 9 ≤ lev) (hV : xf_VM (h 65)) (hP : xf_ph (h 65) P) (hQ : ∀ h', xr_rk h h' → Q (some (xJ (sp_wrong (h 65) P md part))) h') : xq_met lev y_M_wrong [xR 64, xI md, xI part] 81 h Q := by
  refine en_M_wrong (by omega) (fun K hK => ?_)
  have V1 := hV.1
  have V3 := hV.2.2.1
  unfold sp_wrong at hQ
  have bad : ¬ ((0 ≤ md ∧ md < h 65 10) ∧ (0 ≤ part ∧ part ≤ 1) ∧ h 65 11 ≠ 0) → Q (some (xJ (-9223372036854775808))) h := by
    intro c
    rw [xf_if_f c] at hQ
    exact hQ h xr_rk_rf
  refine xq_go hK [] 60 ?_
  refine ⟨lev - 1, by omega, c_M_isMender (by omega) V3 (fun c => ?_) (fun c => ?_)⟩
  · refine And.intro (fun z => absurd z (by decide)) (fun _ => ?_)
    refine ⟨lev - 1, by omega, c_M_in (by omega) (fun c3 => ?_) (fun c3 => ?_)⟩
    · refine And.intro (fun z => absurd z (by decide)) (fun _ => ?_)
      refine And.intro (by omega) ?_
      refine And.intro (fun c4 => ?_) (fun c4 => bad (fun z => z.2.2 c4))
      rw [xf_if_t ⟨c, c3, c4⟩] at hQ
      have hpc := xf_bs_pc (fun i => xf_made (h 65) P md (h 65 (18 + i)) = h 65 (18 + i)) (n := (h 65 11).toNat) (by omega)
      have hbb := xf_bs_bd (fun i => xf_made (h 65) P md (h 65 (18 + i)) = h 65 (18 + i)) (h 65 11).toNat
      refine And.intro (by omega) ?_
      refine ⟨lev - 1, by omega, c_M_staysOf (P := P) (by omega) hV hP c (fun h1 hk1 => ?_)⟩
      refine ⟨lev - 1, by omega, c_M_count1 (n := (xf_bs (fun i => xf_made (h 65) P md (h 65 (18 + i)) = h 65 (18 + i)) (h 65 11).toNat).toNat) (by omega) (by omega) hpc.1 ?_⟩
      have e65 := xr_rk_65 hk1
      refine And.intro (by omega) ?_
      refine And.intro (by omega) ?_
      rw [e65]
      refine ⟨lev - 1, by omega, c_M_lowest (a := (h 65 11 - xf_pc 8 (xf_bs (fun i => xf_made (h 65) P md (h 65 (18 + i)) = h 65 (18 + i)) (h 65 11).toNat).toNat).toNat) (b := (h 65 11).toNat) (by omega) (by omega) (by omega) (by omega) (by omega) ?_⟩
      exact hQ h1 hk1
    · refine And.intro (fun _ => ?_) (fun z => absurd rfl z)
      exact bad (fun z => c3 z.2.1)
  · exact And.intro (fun _ => bad (fun z => c z.1)) (fun z => absurd rfl z)
