/-! A CLAUSE (genread4.py) -/
abbrev xp_A : Type := Int × Int × List xf_Cl
theorem xf_cls_app {h : xq_H} {a : Int} {E : List Int} : ∀ (P : List xf_Cl) (c p : Int), xf_cls h c p P → h 18 (c + P.length) = xf_amt a → h 19 (c + P.length) = p + xf_len P + E.length → xf_at (h 20) (p + xf_len P) (E.map xf_enc) → xf_cls h c p (P ++ [(a, E)])
  | [], c, p, _, h1, h2, h3 => by
    simp only [List.length_nil, xf_len] at h1 h2 h3
    rw [show c + ((0 : Nat) : Int) = c by omega] at h1 h2
    rw [show p + ((0 : Nat) : Int) = p by omega] at h2 h3
    exact ⟨h1, h2, h3, trivial⟩
  | (b, F) :: P, c, p, h0, h1, h2, h3 => by
    obtain ⟨x, y, z, w⟩ := h0
    simp only [List.length_cons, xf_len] at h1 h2 h3
    refine ⟨x, y, z, xf_cls_app P (c + 1) (p + F.length) w ?_ ?_ ?_⟩
    · rw [show c + 1 + (P.length : Int) = c + ((P.length + 1 : Nat) : Int) by omega]; exact h1
    · rw [show c + 1 + (P.length : Int) = c + ((P.length + 1 : Nat) : Int) by omega, h2]; omega
    · rw [show p + (F.length : Int) + (xf_len P : Int) = p + ((F.length + xf_len P : Nat) : Int) by omega]; exact h3
theorem xf_len_app {a : Int} {E : List Int} : ∀ (P : List xf_Cl), xf_len (P ++ [(a, E)]) = xf_len P + E.length
  | [] => by simp [xf_len]
  | (b, F) :: P => by
    simp only [List.cons_append, xf_len, xf_len_app P]
    omega
theorem xf_flat_app {a : Int} {E : List Int} : ∀ (P : List xf_Cl), xf_flat (P ++ [(a, E)]) = xf_flat P ++ (E ++ [a])
  | [] => by simp [xf_flat]
  | (b, F) :: P => by
    simp only [List.cons_append, xf_flat, xf_flat_app P]
    simp
theorem xf_len_flat : ∀ (P : List xf_Cl), xf_len P + P.length = (xf_flat P).length
  | [] => rfl
  | (b, F) :: P => by
    have := xf_len_flat P
    simp only [xf_len, xf_flat, List.length_cons, List.length_append]
    omega
theorem xf_cls_lt {a b : xq_H} : ∀ (P : List xf_Cl) (c p : Int), (∀ k : Int, c ≤ k → k < c + P.length → a 18 k = b 18 k ∧ a 19 k = b 19 k) → (∀ k : Int, p ≤ k → k < p + xf_len P → a 20 k = b 20 k) → xf_cls b c p P → xf_cls a c p P
  | [], _, _, _, _, _ => trivial
  | (x, E) :: P, c, p, h1, h2, hb => by
    simp only [List.length_cons] at h1
    simp only [xf_len] at h2
    refine ⟨by rw [(h1 c (by omega) (by omega)).1]; exact hb.1, by rw [(h1 c (by omega) (by omega)).2]; exact hb.2.1, xf_at_cp _ _ (fun k y z => ?_) hb.2.2.1, xf_cls_lt P _ _ (fun k y z => h1 k (by omega) (by omega)) (fun k y z => h2 k (by omega) (by omega)) hb.2.2.2⟩
    rw [List.length_map] at z
    exact h2 k (by omega) (by omega)
abbrev xp_v (h : xq_H) : xq_H := fun o => h (o + 38)
abbrev xp_cph (h : xq_H) (A : xp_A) : Prop := h 55 0 = A.1 ∧ h 55 1 = A.2.1 ∧ h 55 4 = A.2.2.length ∧ h 55 6 = xf_len A.2.2 ∧ xf_cls (xp_v h) 0 0 A.2.2
abbrev xp_rph (m : Int → Int) (a : Int) (A : xp_A) : Prop := m (234 + a) = A.1 ∧ m (239 + a) = A.2.1 ∧ m (244 + a) = (xf_flat A.2.2).length ∧ xf_at m (249 + 140 * a) (xf_flat A.2.2)
abbrev xp_okA (A : xp_A) (p : Int) (n : Nat) : Prop := (0 ≤ A.1 ∧ A.1 ≤ 99) ∧ (0 ≤ A.2.1 ∧ A.2.1 ≤ 99) ∧ xf_okP A.2.2 ∧ ((xf_flat A.2.2).length : Int) ≤ p ∧ A.2.2.length ≤ n
abbrev xp_c2 (h h' : xq_H) : Prop := xs_eq [54, 55, 56, 57, 58] h h' ∧ ∀ k : Int, k ≠ 3 → h' 54 k = h 54 k
abbrev xp_r2 (h h' : xq_H) : Prop := xs_eq [64, 65] h h' ∧ (∀ k : Int, k ≠ 6 → k ≠ 8 → k ≠ 9 → h' 64 k = h 64 k) ∧ (∀ k : Int, ¬ (k = 234 + h 64 5 ∨ k = 239 + h 64 5 ∨ k = 244 + h 64 5 ∨ 249 + 140 * h 64 5 ≤ k ∧ k < 389 + 140 * h 64 5) → h' 65 k = h 65 k) ∧ h' 64 9 = h 64 9
theorem xp_r2_s {h h' : xq_H} (a : xp_rs h h') : xp_r2 h h' := ⟨a.1, a.2.1, fun k hk => a.2.2.1 k (by omega), a.2.2.2⟩
theorem xp_r2_tr {h h1 h2 : xq_H} (a : xp_r2 h h1) (b : xp_r2 h1 h2) : xp_r2 h h2 := by
  have e5 := a.2.1 5 (by decide) (by decide) (by decide)
  refine ⟨xs_tr a.1 b.1 (fun _ z => z) (fun _ z => z), fun k k1 k2 k3 => (b.2.1 k k1 k2 k3).trans (a.2.1 k k1 k2 k3), fun k hk => (b.2.2.1 k (by omega)).trans (a.2.2.1 k hk), b.2.2.2.trans a.2.2.2⟩
theorem xp_r2_t {h h' : xq_H} {g : Int → Int} {N : Int} (a : xp_r2 h h') (h5 : 0 ≤ h 64 5) (hN : N ≤ 100) (t : xp_tr h g N) : xp_tr h' g N := ⟨(a.2.1 7 (by decide) (by decide) (by decide)).trans t.1, fun i x y => by rw [a.2.2.1 _ (by omega)]; exact t.2 i x y⟩
theorem xp_c2_s {h h' : xq_H} (a : xp_cs h h') : xp_c2 h h' := ⟨xs_tr xs_rf a.1 (X := []) (by decide) (by decide), a.2.1⟩
theorem xp_c2_tr {h h1 h2 : xq_H} (a : xp_c2 h h1) (b : xp_c2 h1 h2) : xp_c2 h h2 := ⟨xs_tr a.1 b.1 (fun _ z => z) (fun _ z => z), fun k hk => (b.2 k hk).trans (a.2 k hk)⟩
theorem xp_c2_t {h h' : xq_H} {g : Int → Int} {N : Int} (a : xp_c2 h h') (t : xp_tc h g N) : xp_tc h' g N := xp_tc_fr (a.2 1 (by decide)) (a.2 2 (by decide)) (a.1 25 (by decide)) t
abbrev xp_rC (h : xq_H) (g : Int → Int) (N p : Int) (A : xp_A) : Prop := xp_tr h g N ∧ h 64 6 = p ∧ h 64 9 = 0 ∧ h 64 8 = 0 ∧ (0 ≤ h 64 5 ∧ h 64 5 ≤ 4) ∧ xp_rph (h 65) (h 64 5) A
def xp_CC (g : Int → Int) (N p q : Int) (o : Option (xp_A → xp_A)) : Prop := ∀ (lev : Nat) (h : xq_H) (Q : Option xq_V → xq_H → Prop) (A : xp_A) (n : Nat), 40 ≤ lev → xp_tc h g N → h 54 3 = p → xp_cph h A → xp_okA A p n → n ≤ 9 →
  (∀ f, o = some f → ∀ h', xp_c2 h h' → h' 54 3 = q → xp_cph h' (f A) → Q (some (xI 1)) h') → (o = none → ∀ h', xp_c2 h h' → h' 54 3 = q → Q (some (xI 0)) h') → xq_met lev y_R_readClause [xR 54] 81 h Q
def xp_RC (g : Int → Int) (N p q : Int) (o : Option (xp_A → xp_A)) : Prop := ∀ (lev : Nat) (h : xq_H) (Q : Option xq_V → xq_H → Prop) (A : xp_A) (n : Nat), 40 ≤ lev → xp_rC h g N p A → xp_okA A p n →
  (∀ f, o = some f → ∀ h', xp_r2 h h' → h' 64 6 = q → h' 64 8 = 0 → xp_rph (h' 65) (h 64 5) (f A) → Q none h') → (o = none → ∀ h', xp_r2 h h' → h' 64 6 = q → h' 64 8 = 1 → Q none h') → xq_met lev y_M_clauseHere [xR 64] 81 h Q
def xp_SC (g : Int → Int) (N p : Int) : Prop := ∃ (q : Int) (o : Option (xp_A → xp_A)), (p ≤ q ∧ q ≤ N) ∧ (∀ f, o = some f → p < q ∧ ∀ (A : xp_A) (n : Nat), xp_okA A p n → xp_okA (f A) q (n + 1)) ∧ xp_CC g N p q o ∧ xp_RC g N p q o
/-- a name and a number: the place, and the number or -1 -/
def xp_hd (g : Int → Int) (N : Int) (l : List Int) (p : Int) : Int × Int := if (xp_lit g N l p).2 = true then xp_num g N (xp_lit g N l p).1 else ((xp_lit g N l p).1, -1)
theorem xp_hd_bd {g : Int → Int} {N : Int} (G : xp_g g N) {l : List Int} {p : Int} (hc : ∀ c ∈ l, 0 ≤ c) (hp : 0 ≤ p ∧ p ≤ N) : (p ≤ (xp_hd g N l p).1 ∧ (xp_hd g N l p).1 ≤ N) ∧ (-1 ≤ (xp_hd g N l p).2 ∧ (xp_hd g N l p).2 ≤ 99) ∧ (0 ≤ (xp_hd g N l p).2 → p + l.length < (xp_hd g N l p).1) := by
  have b := xp_lit_bd G l p hc hp.1 hp.2
  unfold xp_hd
  split
  · rename_i h
    have nb := xp_num_bd (p := (xp_lit g N l p).1) G (by omega)
    have := b.2 h
    omega
  · dsimp only
    omega
theorem c_R_nameBy {lev : Nat} {h : xq_H} {Q : Option xq_V → xq_H → Prop} {c : Int} (hl : 1 ≤ lev) (h0 : c = 108 → Q (some (xR 1100)) h) (h1 : c = 115 → Q (some (xR 1101)) h) (h2 : c = 100 → Q (some (xR 1102)) h) (h3 : ¬ c = 108 → ¬ c = 115 → ¬ c = 100 → Q (some (xR 1103)) h) : xq_met lev y_R_nameBy [xI c] 81 h Q := by
  refine en_R_nameBy (by omega) (fun K hK => ?_)
  refine xq_go hK [] 60 ?_
  exact And.intro (fun e => h2 e) (fun e2 => And.intro (fun e => h0 e) (fun e0 => And.intro (fun e => h1 e) (fun e1 => h3 e0 e1 e2)))
theorem xp_ch_0 {lev : Nat} {Q : Option xq_V → xq_H → Prop} {K : xq_KT} (hK : xq_sound (xq_C lev) rw_R_readClause 81 Q K) (hl : 20 ≤ lev) {h : xq_H} {g : Int → Int} {N p : Int} (t : xp_tc h g N) (G : xp_g g N) (e3 : h 54 3 = p) (hp : 0 ≤ p ∧ p ≤ N) (hc : xp_pk g N p = 108)
    (go : ∀ h', xp_cO h h' (xp_hd g N [108, 105, 109, 105, 116, 32] p).1 [] → K 12 [some (xR 54), some (xI (xp_pk g N p)), none] [xI (xp_hd g N [108, 105, 109, 105, 116, 32] p).2] 81 h') : K 0 [some (xR 54), none, none] [] 81 h := by
  have lb := xp_lit_bd G [108, 105, 109, 105, 116, 32] p (by decide) hp.1 hp.2
  refine xq_go hK [12] 60 ?_
  refine ⟨lev - 1, by omega, c_R_peek (by omega) t G (by omega) ?_⟩
  rw [e3]
  refine ⟨lev - 1, by omega, c_R_nameBy (by omega) (fun _ => ?_) (fun e => absurd e (by omega)) (fun e => absurd e (by omega)) (fun e _ _ => absurd hc e)⟩
  refine ⟨lev - 1, by omega, c_R_readName_0 (by omega) t G e3 hp (fun a h' O => ?_) (fun a h' O => ?_)⟩
  · refine And.intro (fun z => absurd z (by decide)) (fun _ => ?_)
    have p1 := O.2.1
    refine ⟨lev - 1, by omega, c_R_readNumber (by omega) (xp_cs_tc O.1 t) G (by omega) (fun h2 s2 k2 e2 => ?_)⟩
    unfold xp_hd at go
    rw [if_pos a] at go
    rw [p1] at e2 ⊢
    refine go h2 (xp_cO_tr O (l2 := []) ⟨⟨xs_tr xs_rf s2 (X := []) (by decide) (by decide), k2, fun k _ => by rw [s2 55 (by decide)]⟩, e2, ?_, fun k _ => by rw [s2 58 (by decide)], trivial⟩)
    rw [s2 55 (by decide)]
    show h' 55 6 = h' 55 6 + ((0 : Nat) : Int)
    omega
  · refine And.intro (fun _ => ?_) (fun z => absurd rfl z)
    unfold xp_hd at go
    rw [if_neg (by rw [a]; decide)] at go
    exact go h' O
theorem xm_hd_0 {lev : Nat} {Q : Option xq_V → xq_H → Prop} {K : xq_KT} (hK : xq_sound (xq_C lev) rw_M_tellsHere 81 Q K) {h : xq_H} {g : Int → Int} {N p x : Int} (hl : 10 ≤ lev) (t : xp_tr h g N) (G : xp_g g N) (e6 : h 64 6 = p) (e8 : h 64 8 = 0) (hp : 0 ≤ p ∧ p ≤ N)
    (go : ∀ (h' : xq_H) (w v : Int), xm_c h h' (xp_hd g N [108, 105, 109, 105, 116, 32] p).1 w → ((xp_hd g N [108, 105, 109, 105, 116, 32] p).2 ≠ -1 ∧ w = 0 ∧ v = (xp_hd g N [108, 105, 109, 105, 116, 32] p).2 ∨ (xp_hd g N [108, 105, 109, 105, 116, 32] p).2 = -1 ∧ w = 1 ∧ v = 0) → K 5 [some (xR 64), some (xI x), some (xR 1104), none] [xI v] 81 h') :
    K 0 [some (xR 64), some (xI x), some (xR 1104), none] [] 81 h := by
  have lb := xp_lit_bd G [108, 105, 109, 105, 116, 32] p (by decide) hp.1 hp.2
  refine xq_go hK [5] 60 ?_
  refine ⟨lev - 1, by omega, c_M_spells_0 (by omega) t G e6 e8 hp (fun h1 a1 => ?_)⟩
  have p1 := a1.2.2.1
  unfold xp_hd at go
  by_cases c : (xp_lit g N [108, 105, 109, 105, 116, 32] p).2 = true
  · rw [if_pos c] at a1 go
    refine ⟨lev - 1, by omega, c_M_figures (by omega) (xm_c_t a1 t) G (by omega) (Or.inl a1.2.2.2) (fun _ nz h2 a2 => ?_) (fun nz h2 a2 => ?_)⟩
    · rw [p1] at nz a2 ⊢
      exact go h2 0 _ (xm_c_tr a1 a2) (Or.inl ⟨nz, rfl, rfl⟩)
    · rw [p1] at nz a2
      have nz2 := nz.resolve_left (by rw [a1.2.2.2]; decide)
      have nb := xp_num_bd (p := (xp_lit g N [108, 105, 109, 105, 116, 32] p).1) G (by omega)
      have a3 := xm_c_tr a1 a2
      refine go h2 1 0 ?_ (Or.inr ⟨nz2, rfl, rfl⟩)
      rw [nb.2.2.2.2.1 nz2]
      exact a3
  · rw [if_neg c] at a1 go
    refine ⟨lev - 1, by omega, c_M_figures (by omega) (xm_c_t a1 t) G (by omega) (Or.inr a1.2.2.2) (fun z => absurd z (by rw [a1.2.2.2]; decide)) (fun _ h2 a2 => ?_)⟩
    rw [p1] at a2
    exact go h2 1 0 (xm_c_tr a1 a2) (Or.inr ⟨rfl, rfl, rfl⟩)
theorem xp_ch_1 {lev : Nat} {Q : Option xq_V → xq_H → Prop} {K : xq_KT} (hK : xq_sound (xq_C lev) rw_R_readClause 81 Q K) (hl : 20 ≤ lev) {h : xq_H} {g : Int → Int} {N p : Int} (t : xp_tc h g N) (G : xp_g g N) (e3 : h 54 3 = p) (hp : 0 ≤ p ∧ p ≤ N) (hc : xp_pk g N p = 115)
    (go : ∀ h', xp_cO h h' (xp_hd g N [115, 116, 101, 112, 32] p).1 [] → K 12 [some (xR 54), some (xI (xp_pk g N p)), none] [xI (xp_hd g N [115, 116, 101, 112, 32] p).2] 81 h') : K 0 [some (xR 54), none, none] [] 81 h := by
  have lb := xp_lit_bd G [115, 116, 101, 112, 32] p (by decide) hp.1 hp.2
  refine xq_go hK [12] 60 ?_
  refine ⟨lev - 1, by omega, c_R_peek (by omega) t G (by omega) ?_⟩
  rw [e3]
  refine ⟨lev - 1, by omega, c_R_nameBy (by omega) (fun e => absurd e (by omega)) (fun _ => ?_) (fun e => absurd e (by omega)) (fun _ e _ => absurd hc e)⟩
  refine ⟨lev - 1, by omega, c_R_readName_1 (by omega) t G e3 hp (fun a h' O => ?_) (fun a h' O => ?_)⟩
  · refine And.intro (fun z => absurd z (by decide)) (fun _ => ?_)
    have p1 := O.2.1
    refine ⟨lev - 1, by omega, c_R_readNumber (by omega) (xp_cs_tc O.1 t) G (by omega) (fun h2 s2 k2 e2 => ?_)⟩
    unfold xp_hd at go
    rw [if_pos a] at go
    rw [p1] at e2 ⊢
    refine go h2 (xp_cO_tr O (l2 := []) ⟨⟨xs_tr xs_rf s2 (X := []) (by decide) (by decide), k2, fun k _ => by rw [s2 55 (by decide)]⟩, e2, ?_, fun k _ => by rw [s2 58 (by decide)], trivial⟩)
    rw [s2 55 (by decide)]
    show h' 55 6 = h' 55 6 + ((0 : Nat) : Int)
    omega
  · refine And.intro (fun _ => ?_) (fun z => absurd rfl z)
    unfold xp_hd at go
    rw [if_neg (by rw [a]; decide)] at go
    exact go h' O
theorem xm_hd_1 {lev : Nat} {Q : Option xq_V → xq_H → Prop} {K : xq_KT} (hK : xq_sound (xq_C lev) rw_M_tellsHere 81 Q K) {h : xq_H} {g : Int → Int} {N p x : Int} (hl : 10 ≤ lev) (t : xp_tr h g N) (G : xp_g g N) (e6 : h 64 6 = p) (e8 : h 64 8 = 0) (hp : 0 ≤ p ∧ p ≤ N)
    (go : ∀ (h' : xq_H) (w v : Int), xm_c h h' (xp_hd g N [115, 116, 101, 112, 32] p).1 w → ((xp_hd g N [115, 116, 101, 112, 32] p).2 ≠ -1 ∧ w = 0 ∧ v = (xp_hd g N [115, 116, 101, 112, 32] p).2 ∨ (xp_hd g N [115, 116, 101, 112, 32] p).2 = -1 ∧ w = 1 ∧ v = 0) → K 5 [some (xR 64), some (xI x), some (xR 1105), none] [xI v] 81 h') :
    K 0 [some (xR 64), some (xI x), some (xR 1105), none] [] 81 h := by
  have lb := xp_lit_bd G [115, 116, 101, 112, 32] p (by decide) hp.1 hp.2
  refine xq_go hK [5] 60 ?_
  refine ⟨lev - 1, by omega, c_M_spells_1 (by omega) t G e6 e8 hp (fun h1 a1 => ?_)⟩
  have p1 := a1.2.2.1
  unfold xp_hd at go
  by_cases c : (xp_lit g N [115, 116, 101, 112, 32] p).2 = true
  · rw [if_pos c] at a1 go
    refine ⟨lev - 1, by omega, c_M_figures (by omega) (xm_c_t a1 t) G (by omega) (Or.inl a1.2.2.2) (fun _ nz h2 a2 => ?_) (fun nz h2 a2 => ?_)⟩
    · rw [p1] at nz a2 ⊢
      exact go h2 0 _ (xm_c_tr a1 a2) (Or.inl ⟨nz, rfl, rfl⟩)
    · rw [p1] at nz a2
      have nz2 := nz.resolve_left (by rw [a1.2.2.2]; decide)
      have nb := xp_num_bd (p := (xp_lit g N [115, 116, 101, 112, 32] p).1) G (by omega)
      have a3 := xm_c_tr a1 a2
      refine go h2 1 0 ?_ (Or.inr ⟨nz2, rfl, rfl⟩)
      rw [nb.2.2.2.2.1 nz2]
      exact a3
  · rw [if_neg c] at a1 go
    refine ⟨lev - 1, by omega, c_M_figures (by omega) (xm_c_t a1 t) G (by omega) (Or.inr a1.2.2.2) (fun z => absurd z (by rw [a1.2.2.2]; decide)) (fun _ h2 a2 => ?_)⟩
    rw [p1] at a2
    exact go h2 1 0 (xm_c_tr a1 a2) (Or.inr ⟨rfl, rfl, rfl⟩)
theorem xp_ch_2 {lev : Nat} {Q : Option xq_V → xq_H → Prop} {K : xq_KT} (hK : xq_sound (xq_C lev) rw_R_readClause 81 Q K) (hl : 20 ≤ lev) {h : xq_H} {g : Int → Int} {N p : Int} (t : xp_tc h g N) (G : xp_g g N) (e3 : h 54 3 = p) (hp : 0 ≤ p ∧ p ≤ N) (hc : xp_pk g N p = 100)
    (go : ∀ h', xp_cO h h' (xp_hd g N [100, 101, 97, 114, 32] p).1 [] → K 12 [some (xR 54), some (xI (xp_pk g N p)), none] [xI (xp_hd g N [100, 101, 97, 114, 32] p).2] 81 h') : K 0 [some (xR 54), none, none] [] 81 h := by
  have lb := xp_lit_bd G [100, 101, 97, 114, 32] p (by decide) hp.1 hp.2
  refine xq_go hK [12] 60 ?_
  refine ⟨lev - 1, by omega, c_R_peek (by omega) t G (by omega) ?_⟩
  rw [e3]
  refine ⟨lev - 1, by omega, c_R_nameBy (by omega) (fun e => absurd e (by omega)) (fun e => absurd e (by omega)) (fun _ => ?_) (fun _ _ e => absurd hc e)⟩
  refine ⟨lev - 1, by omega, c_R_readName_2 (by omega) t G e3 hp (fun a h' O => ?_) (fun a h' O => ?_)⟩
  · refine And.intro (fun z => absurd z (by decide)) (fun _ => ?_)
    have p1 := O.2.1
    refine ⟨lev - 1, by omega, c_R_readNumber (by omega) (xp_cs_tc O.1 t) G (by omega) (fun h2 s2 k2 e2 => ?_)⟩
    unfold xp_hd at go
    rw [if_pos a] at go
    rw [p1] at e2 ⊢
    refine go h2 (xp_cO_tr O (l2 := []) ⟨⟨xs_tr xs_rf s2 (X := []) (by decide) (by decide), k2, fun k _ => by rw [s2 55 (by decide)]⟩, e2, ?_, fun k _ => by rw [s2 58 (by decide)], trivial⟩)
    rw [s2 55 (by decide)]
    show h' 55 6 = h' 55 6 + ((0 : Nat) : Int)
    omega
  · refine And.intro (fun _ => ?_) (fun z => absurd rfl z)
    unfold xp_hd at go
    rw [if_neg (by rw [a]; decide)] at go
    exact go h' O
theorem xm_hd_2 {lev : Nat} {Q : Option xq_V → xq_H → Prop} {K : xq_KT} (hK : xq_sound (xq_C lev) rw_M_much 81 Q K) {h : xq_H} {g : Int → Int} {N p x : Int} (hl : 10 ≤ lev) (t : xp_tr h g N) (G : xp_g g N) (e6 : h 64 6 = p) (e8 : h 64 8 = 0) (hp : 0 ≤ p ∧ p ≤ N)
    (go : ∀ (h' : xq_H) (w v : Int), xm_c h h' (xp_hd g N [100, 101, 97, 114, 32] p).1 w → ((xp_hd g N [100, 101, 97, 114, 32] p).2 ≠ -1 ∧ w = 0 ∧ v = (xp_hd g N [100, 101, 97, 114, 32] p).2 ∨ (xp_hd g N [100, 101, 97, 114, 32] p).2 = -1 ∧ w = 1 ∧ v = 0) → K 5 [some (xR 64), some (xI x), some (xR 1106), none] [xI v] 81 h') :
    K 0 [some (xR 64), some (xI x), some (xR 1106), none] [] 81 h := by
  have lb := xp_lit_bd G [100, 101, 97, 114, 32] p (by decide) hp.1 hp.2
  refine xq_go hK [5] 60 ?_
  refine ⟨lev - 1, by omega, c_M_spells_2 (by omega) t G e6 e8 hp (fun h1 a1 => ?_)⟩
  have p1 := a1.2.2.1
  unfold xp_hd at go
  by_cases c : (xp_lit g N [100, 101, 97, 114, 32] p).2 = true
  · rw [if_pos c] at a1 go
    refine ⟨lev - 1, by omega, c_M_figures (by omega) (xm_c_t a1 t) G (by omega) (Or.inl a1.2.2.2) (fun _ nz h2 a2 => ?_) (fun nz h2 a2 => ?_)⟩
    · rw [p1] at nz a2 ⊢
      exact go h2 0 _ (xm_c_tr a1 a2) (Or.inl ⟨nz, rfl, rfl⟩)
    · rw [p1] at nz a2
      have nz2 := nz.resolve_left (by rw [a1.2.2.2]; decide)
      have nb := xp_num_bd (p := (xp_lit g N [100, 101, 97, 114, 32] p).1) G (by omega)
      have a3 := xm_c_tr a1 a2
      refine go h2 1 0 ?_ (Or.inr ⟨nz2, rfl, rfl⟩)
      rw [nb.2.2.2.2.1 nz2]
      exact a3
  · rw [if_neg c] at a1 go
    refine ⟨lev - 1, by omega, c_M_figures (by omega) (xm_c_t a1 t) G (by omega) (Or.inr a1.2.2.2) (fun z => absurd z (by rw [a1.2.2.2]; decide)) (fun _ h2 a2 => ?_)⟩
    rw [p1] at a2
    exact go h2 1 0 (xm_c_tr a1 a2) (Or.inr ⟨rfl, rfl, rfl⟩)
theorem xp_ch_3 {lev : Nat} {Q : Option xq_V → xq_H → Prop} {K : xq_KT} (hK : xq_sound (xq_C lev) rw_R_readClause 81 Q K) (hl : 20 ≤ lev) {h : xq_H} {g : Int → Int} {N p : Int} (t : xp_tc h g N) (G : xp_g g N) (e3 : h 54 3 = p) (hp : 0 ≤ p ∧ p ≤ N) (hc : ¬ xp_pk g N p = 108 ∧ ¬ xp_pk g N p = 115 ∧ ¬ xp_pk g N p = 100)
    (go : ∀ h', xp_cO h h' (xp_hd g N [102, 114, 101, 101, 32] p).1 [] → K 12 [some (xR 54), some (xI (xp_pk g N p)), none] [xI (xp_hd g N [102, 114, 101, 101, 32] p).2] 81 h') : K 0 [some (xR 54), none, none] [] 81 h := by
  have lb := xp_lit_bd G [102, 114, 101, 101, 32] p (by decide) hp.1 hp.2
  refine xq_go hK [12] 60 ?_
  refine ⟨lev - 1, by omega, c_R_peek (by omega) t G (by omega) ?_⟩
  rw [e3]
  refine ⟨lev - 1, by omega, c_R_nameBy (by omega) (fun e => absurd e hc.1) (fun e => absurd e hc.2.1) (fun e => absurd e hc.2.2) (fun _ _ _ => ?_)⟩
  refine ⟨lev - 1, by omega, c_R_readName_3 (by omega) t G e3 hp (fun a h' O => ?_) (fun a h' O => ?_)⟩
  · refine And.intro (fun z => absurd z (by decide)) (fun _ => ?_)
    have p1 := O.2.1
    refine ⟨lev - 1, by omega, c_R_readNumber (by omega) (xp_cs_tc O.1 t) G (by omega) (fun h2 s2 k2 e2 => ?_)⟩
    unfold xp_hd at go
    rw [if_pos a] at go
    rw [p1] at e2 ⊢
    refine go h2 (xp_cO_tr O (l2 := []) ⟨⟨xs_tr xs_rf s2 (X := []) (by decide) (by decide), k2, fun k _ => by rw [s2 55 (by decide)]⟩, e2, ?_, fun k _ => by rw [s2 58 (by decide)], trivial⟩)
    rw [s2 55 (by decide)]
    show h' 55 6 = h' 55 6 + ((0 : Nat) : Int)
    omega
  · refine And.intro (fun _ => ?_) (fun z => absurd rfl z)
    unfold xp_hd at go
    rw [if_neg (by rw [a]; decide)] at go
    exact go h' O
theorem xm_hd_3 {lev : Nat} {Q : Option xq_V → xq_H → Prop} {K : xq_KT} (hK : xq_sound (xq_C lev) rw_M_much 81 Q K) {h : xq_H} {g : Int → Int} {N p x : Int} (hl : 10 ≤ lev) (t : xp_tr h g N) (G : xp_g g N) (e6 : h 64 6 = p) (e8 : h 64 8 = 0) (hp : 0 ≤ p ∧ p ≤ N)
    (go : ∀ (h' : xq_H) (w v : Int), xm_c h h' (xp_hd g N [102, 114, 101, 101, 32] p).1 w → ((xp_hd g N [102, 114, 101, 101, 32] p).2 ≠ -1 ∧ w = 0 ∧ v = (xp_hd g N [102, 114, 101, 101, 32] p).2 ∨ (xp_hd g N [102, 114, 101, 101, 32] p).2 = -1 ∧ w = 1 ∧ v = 0) → K 5 [some (xR 64), some (xI x), some (xR 1107), none] [xI v] 81 h') :
    K 0 [some (xR 64), some (xI x), some (xR 1107), none] [] 81 h := by
  have lb := xp_lit_bd G [102, 114, 101, 101, 32] p (by decide) hp.1 hp.2
  refine xq_go hK [5] 60 ?_
  refine ⟨lev - 1, by omega, c_M_spells_3 (by omega) t G e6 e8 hp (fun h1 a1 => ?_)⟩
  have p1 := a1.2.2.1
  unfold xp_hd at go
  by_cases c : (xp_lit g N [102, 114, 101, 101, 32] p).2 = true
  · rw [if_pos c] at a1 go
    refine ⟨lev - 1, by omega, c_M_figures (by omega) (xm_c_t a1 t) G (by omega) (Or.inl a1.2.2.2) (fun _ nz h2 a2 => ?_) (fun nz h2 a2 => ?_)⟩
    · rw [p1] at nz a2 ⊢
      exact go h2 0 _ (xm_c_tr a1 a2) (Or.inl ⟨nz, rfl, rfl⟩)
    · rw [p1] at nz a2
      have nz2 := nz.resolve_left (by rw [a1.2.2.2]; decide)
      have nb := xp_num_bd (p := (xp_lit g N [102, 114, 101, 101, 32] p).1) G (by omega)
      have a3 := xm_c_tr a1 a2
      refine go h2 1 0 ?_ (Or.inr ⟨nz2, rfl, rfl⟩)
      rw [nb.2.2.2.2.1 nz2]
      exact a3
  · rw [if_neg c] at a1 go
    refine ⟨lev - 1, by omega, c_M_figures (by omega) (xm_c_t a1 t) G (by omega) (Or.inr a1.2.2.2) (fun z => absurd z (by rw [a1.2.2.2]; decide)) (fun _ h2 a2 => ?_)⟩
    rw [p1] at a2
    exact go h2 1 0 (xm_c_tr a1 a2) (Or.inr ⟨rfl, rfl, rfl⟩)
theorem xp_SC_0 {g : Int → Int} {N p : Int} (G : xp_g g N) (hp : 0 ≤ p ∧ p ≤ N) (hc : xp_pk g N p = 108) : xp_SC g N p := by
  have gN := G.1
  have hb := xp_hd_bd (l := [108, 105, 109, 105, 116, 32]) G (by decide) hp
  refine ⟨(xp_hd g N [108, 105, 109, 105, 116, 32] p).1, if (xp_hd g N [108, 105, 109, 105, 116, 32] p).2 = -1 then none else some (fun A => ((xp_hd g N [108, 105, 109, 105, 116, 32] p).2, A.2.1, A.2.2)), hb.1, fun f hf => ?_, ?_, ?_⟩
  · by_cases c : (xp_hd g N [108, 105, 109, 105, 116, 32] p).2 = -1
    · rw [if_pos c] at hf
      exact absurd hf (by simp)
    · rw [if_neg c] at hf
      simp only [Option.some.injEq] at hf
      have b3 := hb.2.2 (by omega)
      simp only [List.length_cons, List.length_nil] at b3
      refine ⟨by omega, fun A n ok => ?_⟩
      rw [← hf]
      obtain ⟨k1, k2, k3, k4, k5⟩ := ok
      refine ⟨⟨by dsimp only; omega, by dsimp only; omega⟩, k2, k3, ?_, ?_⟩
      · dsimp only
        omega
      · dsimp only
        omega
  · intro lev h Q A n hlv t e3 hA ok hn q1 q0
    refine en_R_readClause (by omega) (fun K hK => ?_)
    refine xp_ch_0 hK (by omega) t G e3 hp hc (fun h' O => ?_)
    obtain ⟨a1, a2, a3, a4, a5⟩ := hA
    refine xq_go hK [] 60 ?_
    by_cases c : (xp_hd g N [108, 105, 109, 105, 116, 32] p).2 = -1
    · rw [if_pos c] at q0
      refine And.intro (fun z => absurd z (by omega)) (fun _ => ?_)
      exact And.intro (Or.inl rfl) (q0 rfl h' (xp_c2_s O.1) O.2.1)
    · rw [if_neg c] at q1
      have z6 := O.2.2.1
      rw [show (([] : List Int).length : Int) = 0 from rfl, Int.add_zero] at z6
      refine And.intro (fun _ => ?_) (fun z => absurd z (by omega))
      refine And.intro (fun z => absurd hc z) (fun _ => ?_)
      refine And.intro (Or.inr rfl) (q1 _ rfl _ ⟨xs_u (xp_c2_s O.1).1 (by decide) _ _, fun k hk => by rw [xq_u_o (by decide)]; exact O.1.2.1 k hk⟩ (by rw [xq_u_o (by decide)]; exact O.2.1) ⟨?_, ?_, ?_, ?_, ?_⟩)
      · rw [xu_eq]
      · rw [xu_ne (by decide), O.1.2.2 1 (by decide)]; exact a2
      · rw [xu_ne (by decide), O.1.2.2 4 (by decide)]; exact a3
      · rw [xu_ne (by decide), z6]; exact a4
      · refine xf_cls_lt A.2.2 0 0 (fun k y z => ?_) (fun k y z => ?_) a5
        · refine ⟨?_, ?_⟩
          · show xq_u h' 55 0 _ 56 k = h 56 k
            rw [xq_u_o (by decide), O.1.1 56 (by decide)]
          · show xq_u h' 55 0 _ 57 k = h 57 k
            rw [xq_u_o (by decide), O.1.1 57 (by decide)]
        · show xq_u h' 55 0 _ 58 k = h 58 k
          rw [xq_u_o (by decide)]
          exact O.2.2.2.1 k (by omega)
  · intro lev h Q A n hlv I ok q1 q0
    obtain ⟨i1, i2, i3, i4, i5, r1, r2, r3, r4⟩ := I
    have key : ∀ lev, 20 ≤ lev → ∀ Q2 : Option xq_V → xq_H → Prop, (∀ h', Q none h' → Q2 none h') → xq_met lev y_M_tellsHere [xR 64, xI 234, xR 1104] 81 h Q2 := by
      intro lev hlv Q2 hq2
      refine en_M_tellsHere (by omega) (fun K hK => ?_)
      refine xm_hd_0 hK (by omega) i1 G i2 i4 hp (fun h' w v a hv => ?_)
      have e5 := a.2.1 5 (by decide) (by decide)
      have e65 : h' 65 = h 65 := a.1 65 (by decide)
      refine xq_go hK [] 60 ?_
      rcases hv with ⟨c, rfl, rfl⟩ | ⟨c, rfl, rfl⟩
      · rw [if_neg c] at q1
        refine And.intro (fun z => absurd a.2.2.2 z) (fun _ => ?_)
        refine And.intro (by omega) ?_
        refine And.intro (by omega) ?_
        rw [e5]
        refine hq2 _ (q1 _ rfl _ ⟨xs_u (xs_tr xs_rf a.1 (X := []) (by decide) (by decide)) (by decide) _ _, fun k k1 k2 _ => by rw [xq_u_o (by decide)]; exact a.2.1 k k1 k2, fun k hk => by rw [xu_ne (by omega), e65], by rw [xq_u_o (by decide)]; exact a.2.1 9 (by decide) (by decide)⟩ (by rw [xq_u_o (by decide)]; exact a.2.2.1) (by rw [xq_u_o (by decide)]; exact a.2.2.2) ⟨?_, ?_, ?_, ?_⟩)
        · rw [xu_eq]
        · rw [xu_ne (by omega), e65]; exact r2
        · rw [xu_ne (by omega), e65]; exact r3
        · refine xf_at_congr _ _ (fun k hk => ?_) r4
          rw [xu_ne (by omega), e65]
      · rw [if_pos c] at q0
        refine And.intro (fun _ => ?_) (fun z => absurd z (by rw [a.2.2.2]; decide))
        exact hq2 _ (q0 rfl h' (xp_r2_s (xp_rs_c a)) a.2.2.1 a.2.2.2)
    refine en_M_clauseHere (by omega) (fun K hK => ?_)
    refine xq_go hK [] 60 ?_
    refine ⟨lev - 1, by omega, c_M_here (by omega) i1 G (by omega) ?_⟩
    rw [i2, hc]
    (repeat (first | (refine And.intro (fun c => absurd c (by decide)) (fun _ => ?_)) | (refine And.intro (fun _ => ?_) (fun c => absurd c (by decide)))))
    refine ⟨lev - 1, by omega, key (lev - 1) (by omega) _ (fun h' hq => ?_)⟩
    exact hq
theorem xp_SC_1 {g : Int → Int} {N p : Int} (G : xp_g g N) (hp : 0 ≤ p ∧ p ≤ N) (hc : xp_pk g N p = 115) : xp_SC g N p := by
  have gN := G.1
  have hb := xp_hd_bd (l := [115, 116, 101, 112, 32]) G (by decide) hp
  refine ⟨(xp_hd g N [115, 116, 101, 112, 32] p).1, if (xp_hd g N [115, 116, 101, 112, 32] p).2 = -1 then none else some (fun A => (A.1, (xp_hd g N [115, 116, 101, 112, 32] p).2, A.2.2)), hb.1, fun f hf => ?_, ?_, ?_⟩
  · by_cases c : (xp_hd g N [115, 116, 101, 112, 32] p).2 = -1
    · rw [if_pos c] at hf
      exact absurd hf (by simp)
    · rw [if_neg c] at hf
      simp only [Option.some.injEq] at hf
      have b3 := hb.2.2 (by omega)
      simp only [List.length_cons, List.length_nil] at b3
      refine ⟨by omega, fun A n ok => ?_⟩
      rw [← hf]
      obtain ⟨k1, k2, k3, k4, k5⟩ := ok
      refine ⟨k1, ⟨by dsimp only; omega, by dsimp only; omega⟩, k3, ?_, ?_⟩
      · dsimp only
        omega
      · dsimp only
        omega
  · intro lev h Q A n hlv t e3 hA ok hn q1 q0
    refine en_R_readClause (by omega) (fun K hK => ?_)
    refine xp_ch_1 hK (by omega) t G e3 hp hc (fun h' O => ?_)
    obtain ⟨a1, a2, a3, a4, a5⟩ := hA
    refine xq_go hK [] 60 ?_
    by_cases c : (xp_hd g N [115, 116, 101, 112, 32] p).2 = -1
    · rw [if_pos c] at q0
      refine And.intro (fun z => absurd z (by omega)) (fun _ => ?_)
      exact And.intro (Or.inl rfl) (q0 rfl h' (xp_c2_s O.1) O.2.1)
    · rw [if_neg c] at q1
      have z6 := O.2.2.1
      rw [show (([] : List Int).length : Int) = 0 from rfl, Int.add_zero] at z6
      refine And.intro (fun _ => ?_) (fun z => absurd z (by omega))
      refine And.intro (fun _ => ?_) (fun z => absurd z (by omega))
      refine And.intro (fun z => absurd hc z) (fun _ => ?_)
      refine And.intro (Or.inr rfl) (q1 _ rfl _ ⟨xs_u (xp_c2_s O.1).1 (by decide) _ _, fun k hk => by rw [xq_u_o (by decide)]; exact O.1.2.1 k hk⟩ (by rw [xq_u_o (by decide)]; exact O.2.1) ⟨?_, ?_, ?_, ?_, ?_⟩)
      · rw [xu_ne (by decide), O.1.2.2 0 (by decide)]; exact a1
      · rw [xu_eq]
      · rw [xu_ne (by decide), O.1.2.2 4 (by decide)]; exact a3
      · rw [xu_ne (by decide), z6]; exact a4
      · refine xf_cls_lt A.2.2 0 0 (fun k y z => ?_) (fun k y z => ?_) a5
        · refine ⟨?_, ?_⟩
          · show xq_u h' 55 1 _ 56 k = h 56 k
            rw [xq_u_o (by decide), O.1.1 56 (by decide)]
          · show xq_u h' 55 1 _ 57 k = h 57 k
            rw [xq_u_o (by decide), O.1.1 57 (by decide)]
        · show xq_u h' 55 1 _ 58 k = h 58 k
          rw [xq_u_o (by decide)]
          exact O.2.2.2.1 k (by omega)
  · intro lev h Q A n hlv I ok q1 q0
    obtain ⟨i1, i2, i3, i4, i5, r1, r2, r3, r4⟩ := I
    have key : ∀ lev, 20 ≤ lev → ∀ Q2 : Option xq_V → xq_H → Prop, (∀ h', Q none h' → Q2 none h') → xq_met lev y_M_tellsHere [xR 64, xI 239, xR 1105] 81 h Q2 := by
      intro lev hlv Q2 hq2
      refine en_M_tellsHere (by omega) (fun K hK => ?_)
      refine xm_hd_1 hK (by omega) i1 G i2 i4 hp (fun h' w v a hv => ?_)
      have e5 := a.2.1 5 (by decide) (by decide)
      have e65 : h' 65 = h 65 := a.1 65 (by decide)
      refine xq_go hK [] 60 ?_
      rcases hv with ⟨c, rfl, rfl⟩ | ⟨c, rfl, rfl⟩
      · rw [if_neg c] at q1
        refine And.intro (fun z => absurd a.2.2.2 z) (fun _ => ?_)
        refine And.intro (by omega) ?_
        refine And.intro (by omega) ?_
        rw [e5]
        refine hq2 _ (q1 _ rfl _ ⟨xs_u (xs_tr xs_rf a.1 (X := []) (by decide) (by decide)) (by decide) _ _, fun k k1 k2 _ => by rw [xq_u_o (by decide)]; exact a.2.1 k k1 k2, fun k hk => by rw [xu_ne (by omega), e65], by rw [xq_u_o (by decide)]; exact a.2.1 9 (by decide) (by decide)⟩ (by rw [xq_u_o (by decide)]; exact a.2.2.1) (by rw [xq_u_o (by decide)]; exact a.2.2.2) ⟨?_, ?_, ?_, ?_⟩)
        · rw [xu_ne (by omega), e65]; exact r1
        · rw [xu_eq]
        · rw [xu_ne (by omega), e65]; exact r3
        · refine xf_at_congr _ _ (fun k hk => ?_) r4
          rw [xu_ne (by omega), e65]
      · rw [if_pos c] at q0
        refine And.intro (fun _ => ?_) (fun z => absurd z (by rw [a.2.2.2]; decide))
        exact hq2 _ (q0 rfl h' (xp_r2_s (xp_rs_c a)) a.2.2.1 a.2.2.2)
    refine en_M_clauseHere (by omega) (fun K hK => ?_)
    refine xq_go hK [] 60 ?_
    refine ⟨lev - 1, by omega, c_M_here (by omega) i1 G (by omega) ?_⟩
    rw [i2, hc]
    (repeat (first | (refine And.intro (fun c => absurd c (by decide)) (fun _ => ?_)) | (refine And.intro (fun _ => ?_) (fun c => absurd c (by decide)))))
    refine ⟨lev - 1, by omega, key (lev - 1) (by omega) _ (fun h' hq => ?_)⟩
    exact hq
theorem xp_SC_x {g : Int → Int} {N p : Int} (G : xp_g g N) (hp : 0 ≤ p ∧ p ≤ N) (h1 : ¬ xp_pk g N p = 108) (h2 : ¬ xp_pk g N p = 115) (h3 : ¬ xp_pk g N p = 100) (h4 : ¬ xp_pk g N p = 102) : xp_SC g N p := by
  refine ⟨p, none, ⟨Int.le_refl _, hp.2⟩, fun f hf => absurd hf (by simp), ?_, ?_⟩
  · intro lev h Q A n hlv t e3 hA ok hn q1 q0
    refine en_R_readClause (by omega) (fun K hK => ?_)
    refine xp_ch_3 hK (by omega) t G e3 hp ⟨h1, h2, h3⟩ (fun h' O => ?_)
    have e : xp_hd g N [102, 114, 101, 101, 32] p = (p, -1) := by
      unfold xp_hd
      rw [xp_lit_f h4]
      rfl
    rw [e] at O ⊢
    refine xq_go hK [] 60 ?_
    refine And.intro (fun z => absurd z (by show ¬ ¬ ((-1 : Int) < 0); decide)) (fun _ => ?_)
    exact And.intro (Or.inl rfl) (q0 rfl h' (xp_c2_s O.1) O.2.1)
  · intro lev h Q A n hlv I ok q1 q0
    obtain ⟨i1, i2, i3, i4, i5, r⟩ := I
    refine en_M_clauseHere (by omega) (fun K hK => ?_)
    refine xq_go hK [] 60 ?_
    refine ⟨lev - 1, by omega, c_M_here (by omega) i1 G (by omega) ?_⟩
    rw [i2]
    refine And.intro (fun z => absurd z h3) (fun _ => And.intro (fun z => absurd z h4) (fun _ => And.intro (fun z => absurd z h1) (fun _ => And.intro (fun z => absurd z h2) (fun _ => ?_))))
    refine And.intro (Or.inr rfl) ?_
    exact q0 rfl _ ⟨xs_u xs_rf (by decide) _ _, fun k k1 k2 k3 => by rw [xu_ne k2], fun k _ => by rw [xq_u_o (by decide)], by rw [xu_ne (by decide)]⟩ (by rw [xu_ne (by decide)]; exact i2) xu_eq
theorem c_P_close {lev : Nat} {h : xq_H} {Q : Option xq_V → xq_H → Prop} {x : Int} (hl : 1 ≤ lev) (hc : 0 ≤ h 55 4 ∧ h 55 4 < 10) (hQ : ∀ h', xs_eq [55, 56, 57] h h' → (∀ k : Int, k ≠ 4 → h' 55 k = h 55 k) → h' 55 4 = h 55 4 + 1 → (∀ k : Int, h' 56 k = if k = h 55 4 then x else h 56 k) → (∀ k : Int, h' 57 k = if k = h 55 4 then h 55 6 else h 57 k) → Q none h') : xq_met lev y_P_close [xR 55, xI x] 81 h Q := by
  refine en_P_close (by omega) (fun K hK => ?_)
  refine xq_go hK [] 60 ?_
  refine And.intro (fun c => absurd c (by omega)) (fun _ => ?_)
  refine And.intro (fun c => absurd c (by omega)) (fun _ => ?_)
  refine And.intro (by omega) ?_
  have e1 : xq_u h 56 (h 55 4) x 55 4 = h 55 4 := rfl
  refine And.intro (by omega) ?_
  have e2 : xq_u (xq_u h 56 (h 55 4) x) 57 (xq_u h 56 (h 55 4) x 55 4) (xq_u h 56 (h 55 4) x 55 6) 55 4 = h 55 4 := rfl
  refine And.intro (by omega) ?_
  refine hQ _ (xs_u (xs_u (xs_u xs_rf (by decide) _ _) (by decide) _ _) (by decide) _ _) (fun k hk => by rw [xu_ne hk]; rfl) (by rw [xu_eq, e2]) (fun k => ?_) (fun k => ?_)
  · rw [xq_u_o (by decide), xq_u_o (by decide), xu_rd]
  · rw [xq_u_o (by decide), xu_rd]
    rfl
set_option maxHeartbeats 1000000 in
theorem xp_SC_2 {g : Int → Int} {N p : Int} (G : xp_g g N) (hp : 0 ≤ p ∧ p ≤ N) (hc : xp_pk g N p = 100) : xp_SC g N p := by
  have gN := G.1
  have hb := xp_hd_bd (l := [100, 101, 97, 114, 32]) G (by decide) hp
  obtain ⟨q0p, hq0p⟩ : ∃ x, x = (xp_hd g N [100, 101, 97, 114, 32] p).1 := ⟨_, rfl⟩
  obtain ⟨v, hv⟩ : ∃ x, x = (xp_hd g N [100, 101, 97, 114, 32] p).2 := ⟨_, rfl⟩
  rw [← hq0p, ← hv] at hb
  have pbq := xp_pk_bd (p := q0p) G (by omega)
  have CH : ∀ (lev : Nat) (h : xq_H) (Q : Option xq_V → xq_H → Prop) (K : xq_KT), xq_sound (xq_C lev) rw_R_readClause 81 Q K → 20 ≤ lev → xp_tc h g N → h 54 3 = p → (∀ h', xp_cO h h' q0p [] → K 12 [some (xR 54), some (xI (xp_pk g N p)), none] [xI v] 81 h') → K 0 [some (xR 54), none, none] [] 81 h := by
    intro lev h Q K hK hl t e3 go
    rw [hq0p, hv] at go
    exact xp_ch_2 hK hl t G e3 hp hc go
  have MH : ∀ (lev : Nat) (h : xq_H) (Q : Option xq_V → xq_H → Prop) (K : xq_KT), xq_sound (xq_C lev) rw_M_much 81 Q K → 10 ≤ lev → xp_tr h g N → h 64 6 = p → h 64 8 = 0 → (∀ (h' : xq_H) (w x : Int), xm_c h h' q0p w → (v ≠ -1 ∧ w = 0 ∧ x = v ∨ v = -1 ∧ w = 1 ∧ x = 0) → K 5 [some (xR 64), some (xI (-10)), some (xR 1106), none] [xI x] 81 h') → K 0 [some (xR 64), some (xI (-10)), some (xR 1106), none] [] 81 h := by
    intro lev h Q K hK hl t e6 e8 go
    rw [hq0p, hv] at go
    exact xm_hd_2 hK hl t G e6 e8 hp go
  have RC : ∀ (q : Int) (o : Option (xp_A → xp_A)), (∀ (lev : Nat) (h : xq_H) (Q : Option xq_V → xq_H → Prop) (A : xp_A) (n : Nat), 38 ≤ lev → xp_rC h g N p A → xp_okA A p n →
      (∀ f, o = some f → ∀ h', xp_r2 h h' → h' 64 6 = q → h' 64 8 = 0 → xp_rph (h' 65) (h 64 5) (f A) → Q none h') → (o = none → ∀ h', xp_r2 h h' → h' 64 6 = q → h' 64 8 = 1 → Q none h') → xq_met lev y_M_much [xR 64, xI (-10), xR 1106] 81 h Q) → xp_RC g N p q o := by
    intro q o MU lev h Q A n hlv I ok q1 q0
    refine en_M_clauseHere (by omega) (fun K hK => ?_)
    refine xq_go hK [] 60 ?_
    refine ⟨lev - 1, by omega, c_M_here (by omega) I.1 G (by rw [I.2.1]; omega) ?_⟩
    rw [I.2.1, hc]
    (repeat (first | (refine And.intro (fun c => absurd c (by decide)) (fun _ => ?_)) | (refine And.intro (fun _ => ?_) (fun c => absurd c (by decide)))))
    exact ⟨lev - 1, by omega, MU (lev - 1) h _ A n (by omega) I ok (fun f hf h' a b c d => q1 f hf h' a b c d) (fun ho h' a b c => q0 ho h' a b c)⟩
  have no1 : ¬ xp_pk g N p = 108 := by omega
  have no2 : ¬ xp_pk g N p = 115 := by omega
  have wend : ∀ (lev : Nat) (Q : Option xq_V → xq_H → Prop) (K : xq_KT), xq_sound (xq_C lev) rw_M_much 81 Q K → 10 ≤ lev → ∀ (h' : xq_H) (x : Int), h' 64 8 = 1 → 0 ≤ x → x ≤ 99 → Q none h' → K 9 [some (xR 64), some (xI (-10)), some (xR 1106), some (xI x)] [] 81 h' := by
    intro lev Q K hK hl h' x e8 hx0 hx1 hq
    refine xq_go hK [] 60 ?_
    refine ⟨lev - 1, by omega, c_M_some_w (by omega) e8 ?_⟩
    refine And.intro (by omega) ?_
    refine ⟨lev - 1, by omega, c_M_emits_w (by omega) e8 ?_⟩
    exact hq
  by_cases c1 : v = -1
  · refine ⟨q0p, none, hb.1, fun f hf => absurd hf (by simp), ?_, RC _ _ ?_⟩
    · intro lev h Q A n hlv t e3 hA ok hn q1 q0
      refine en_R_readClause (by omega) (fun K hK => ?_)
      refine CH lev h Q K hK (by omega) t e3 (fun h' O => ?_)
      refine xq_go hK [] 60 ?_
      refine And.intro (fun z => absurd z (by omega)) (fun _ => ?_)
      exact And.intro (Or.inl rfl) (q0 rfl h' (xp_c2_s O.1) O.2.1)
    · intro lev h Q A n hlv I ok q1 q0
      refine en_M_much (by omega) (fun K hK => ?_)
      refine MH lev h Q K hK (by omega) I.1 I.2.1 I.2.2.2.1 (fun h' w x a hx => ?_)
      rcases hx with ⟨z, _, _⟩ | ⟨_, rfl, rfl⟩
      · exact absurd c1 z
      · refine xq_go hK [9] 60 ?_
        refine ⟨lev - 1, by omega, c_M_must (by omega) (xm_c_t a I.1) G (by rw [a.2.2.1]; omega) (by decide) (Or.inr a.2.2.2) (fun z => absurd z (by rw [a.2.2.2]; decide)) (fun _ h2 a2 => ?_)⟩
        rw [a.2.2.1] at a2
        have A2 := xm_c_tr a a2
        exact wend lev Q K hK (by omega) h2 0 A2.2.2.2 (by decide) (by decide) (q0 rfl h2 (xp_r2_s (xp_rs_c A2)) A2.2.2.1 A2.2.2.2)
  by_cases c2 : xp_pk g N q0p = 32
  · have hqN := pbq.2.2.1 (by omega)
    obtain ⟨⟨q1, o1⟩, ok1, cf, rf⟩ := xp_expr (p := q0p + 1) G (by omega) (by omega)
    have ok3 := ok1.1
    dsimp only at ok3
    refine ⟨q1, o1.map (fun l => fun A => (A.1, A.2.1, A.2.2 ++ [(-10 - v, l)])), ⟨by omega, by omega⟩, fun f hf => ?_, ?_, RC _ _ ?_⟩
    · cases o1 with
      | none => exact absurd hf (by simp)
      | some l =>
        simp only [Option.map_some, Option.some.injEq] at hf
        have ok2 := ok1.2 l rfl
        dsimp only at ok2
        have b3 := hb.2.2 (by omega)
        simp only [List.length_cons, List.length_nil] at b3
        refine ⟨by omega, fun A n ok => ?_⟩
        rw [← hf]
        obtain ⟨k1, k2, k3, k4, k5⟩ := ok
        refine ⟨k1, k2, ?_, ?_, ?_⟩
        · intro x hx
          rcases List.mem_append.mp hx with hx | hx
          · exact k3 x hx
          · have ex : x = (-10 - v, l) := by simpa using hx
            rw [ex]
            exact ⟨ok2.2.2 0 (by decide), by dsimp only; omega⟩
        · dsimp only
          rw [xf_flat_app]
          simp only [List.length_append, List.length_cons, List.length_nil]
          omega
        · simp only [List.length_append, List.length_cons, List.length_nil]
          omega
    · intro lev h Q A n hlv t e3 hA ok hn q1' q0
      refine en_R_readClause (by omega) (fun K hK => ?_)
      refine CH lev h Q K hK (by omega) t e3 (fun h' O => ?_)
      obtain ⟨a1, a2, a3, a4, a5⟩ := hA
      obtain ⟨k1, k2, k3, k4, k5⟩ := ok
      have lf := xf_len_flat A.2.2
      have z6 := O.2.2.1
      rw [show (([] : List Int).length : Int) = 0 from rfl, Int.add_zero] at z6
      refine xq_go hK [54] 60 ?_
      refine And.intro (fun _ => ?_) (fun z => absurd z (by omega))
      refine And.intro (fun _ => ?_) (fun z => absurd z no1)
      refine And.intro (fun _ => ?_) (fun z => absurd z no2)
      refine ⟨lev - 1, by omega, c_R_readSign (by omega) (xp_cs_tc O.1 t) G (by rw [O.2.1]; omega) (by decide) (fun _ _ => ?_) (fun e4 => absurd (by rw [O.2.1]; exact c2) e4)⟩
      refine And.intro (fun z => absurd z (by decide)) (fun _ => ?_)
      have O2 := xp_cO_tr O (xp_cO_st (h := h') (q := h' 54 3 + 1))
      simp only [List.nil_append] at O2
      have zz : xq_u h' 54 3 (h' 54 3 + 1) 55 6 = h 55 6 := by rw [xq_u_o (by decide)]; exact z6
      refine ⟨lev - 1, by omega, cf (lev - 1) _ _ (by omega) (xp_cs_tc O2.1 t) (by rw [xu_eq, O.2.1]) (by rw [zz]; omega) (fun l hl h2 O3 => ?_) (fun hn2 h2 s2 e2 => ?_)⟩
      · have O23 := xp_cO_tr O2 O3
        simp only [List.nil_append] at O23
        dsimp only at O23 hl
        refine And.intro (fun _ => ?_) (fun z => absurd z (by decide))
        have f4 : h2 55 4 = h 55 4 := O23.1.2.2 4 (by decide)
        have q2 := q1' _ (congrArg (Option.map (fun l => fun (A : xp_A) => (A.1, A.2.1, A.2.2 ++ [(-10 - v, l)]))) hl)
        have amt : xf_amt (-10 - v) = v := by
          unfold xf_amt
          rw [if_pos (by omega)]
          omega
        have go : K 54 [some (xR 54), some (xI (xp_pk g N p)), some (xI v)] [xI (v), xR 55] 81 h2 := by
          refine xq_go hK [] 60 ?_
          refine ⟨lev - 1, by omega, c_P_close (by omega) (by omega) (fun h3 s3 b0 b4 b56 b57 => ?_)⟩
          refine And.intro (Or.inr rfl) (q2 h3 ⟨xs_tr (xp_c2_s O23.1).1 s3 (fun _ z => z) (by decide), fun k hk => by rw [s3 54 (by decide)]; exact O23.1.2.1 k hk⟩ (by rw [s3 54 (by decide)]; exact O23.2.1) ⟨?_, ?_, ?_, ?_, ?_⟩)
          · rw [b0 0 (by decide), O23.1.2.2 0 (by decide)]; exact a1
          · rw [b0 1 (by decide), O23.1.2.2 1 (by decide)]; exact a2
          · rw [b4, f4, a3]
            simp only [List.length_append, List.length_cons, List.length_nil]
            omega
          · dsimp only
            rw [b0 6 (by decide), O23.2.2.1, a4, xf_len_app]
            omega
          · have v18 : ∀ k : Int, xp_v h3 18 k = if k = (A.2.2.length : Int) then xf_amt (-10 - v) else h 56 k := fun k => by
              show h3 56 k = _
              rw [b56 k, f4, a3, amt, O23.1.1 56 (by decide)]
            have v19 : ∀ k : Int, xp_v h3 19 k = if k = (A.2.2.length : Int) then h2 55 6 else h 57 k := fun k => by
              show h3 57 k = _
              rw [b57 k, f4, a3, O23.1.1 57 (by decide)]
            have v20 : xp_v h3 20 = h2 58 := s3 58 (by decide)
            refine xf_cls_app A.2.2 0 0 (xf_cls_lt A.2.2 0 0 (fun k y z => ?_) (fun k y z => ?_) a5) ?_ ?_ ?_
            · rw [v18, v19, if_neg (by omega), if_neg (by omega)]
              exact ⟨rfl, rfl⟩
            · rw [v20]
              exact O23.2.2.2.1 k (by omega)
            · rw [v18, if_pos (by omega)]
            · rw [v19, if_pos (by omega), O23.2.2.1, a4]
              omega
            · rw [v20]
              have e := O23.2.2.2.2
              rw [a4] at e
              rw [Int.zero_add]
              exact e
        refine And.intro (fun z => absurd hc z) (fun _ => ?_)
        exact go
      · refine And.intro (fun z => absurd rfl z) (fun _ => ?_)
        exact And.intro (Or.inl rfl) (q0 (congrArg (Option.map _) hn2) h2 (xp_c2_s (xp_cs_tr O2.1 s2)) e2)
    · intro lev h Q A n hlv I ok q1' q0
      refine en_M_much (by omega) (fun K hK => ?_)
      obtain ⟨i1, i2, i3, i4, i5, r1, r2, r3, r4⟩ := I
      obtain ⟨k1, k2, k3, k4, k5⟩ := ok
      refine MH lev h Q K hK (by omega) i1 i2 i4 (fun h' w x a hx => ?_)
      rcases hx with ⟨_, rfl, rfl⟩ | ⟨z, _, _⟩
      · refine xq_go hK [9] 60 ?_
        refine ⟨lev - 1, by omega, c_M_must (by omega) (xm_c_t a i1) G (by rw [a.2.2.1]; omega) (by decide) (Or.inl a.2.2.2) (fun _ _ _ h2 a2 => ?_) (fun z => absurd c2 (by rw [← a.2.2.1]; exact z.resolve_left (by rw [a.2.2.2]; decide)))⟩
        rw [a.2.2.1] at a2
        have A2 := xm_c_tr a a2
        have e5 : h2 64 5 = h 64 5 := A2.2.1 5 (by decide) (by decide)
        have e65 : h2 65 = h 65 := A2.1 65 (by decide)
        have I2 : xp_rI h2 g N (q0p + 1) 0 := ⟨xm_c_t A2 i1, A2.2.2.1, (A2.2.1 9 (by decide) (by decide)).trans i3, A2.2.2.2, by rw [e5]; exact i5, by rw [e5, e65, r3]; omega⟩
        refine xq_go hK [] 60 ?_
        refine ⟨lev - 1, by omega, rf (lev - 1) _ _ (by omega) I2 (fun l hl h3 O3 => ?_) (fun hn2 h3 s3 e3 e8 => ?_)⟩
        · have ok2 := ok1.2 l hl
          have I3 := xp_rI_O I2 gN.2 O3 ok2.2.1
          obtain ⟨j1, j2, j3, j4, j5, j6⟩ := I3
          dsimp only at j2 j6 ok2 hl
          refine And.intro (by omega) ?_
          refine ⟨lev - 1, by omega, c_M_emits (by omega) j5 (by omega) (Or.inl j4) (fun _ h4 O4 => ?_) (fun z => absurd z (by omega))⟩
          have O34 := xp_rO_tr (by rw [e5, e65, r3]; omega) O3 O4
          rw [j2] at O34
          have O := xp_rO_tr (by rw [r3]; omega) (xp_rO_c A2) O34
          simp only [List.nil_append] at O
          have q2 := q1' _ (congrArg (Option.map (fun l => fun (A : xp_A) => (A.1, A.2.1, A.2.2 ++ [(-10 - x, l)]))) hl)
          refine q2 h4 (xp_r2_s O.1) O.2.1 O.2.2.1 ⟨?_, ?_, ?_, ?_⟩
          · rw [O.1.2.2.1 _ (by omega)]; exact r1
          · rw [O.1.2.2.1 _ (by omega)]; exact r2
          · dsimp only
            rw [O.2.2.2.1, r3, xf_flat_app]
            simp only [List.length_append, List.length_cons, List.length_nil]
            omega
          · dsimp only
            rw [xf_flat_app, xf_at_app]
            refine ⟨xf_at_cp _ _ (fun k y z => O.2.2.2.2.1 k y (by rw [r3]; exact z)) r4, ?_⟩
            have e := O.2.2.2.2.2
            rw [r3] at e
            exact e
        · refine And.intro (by omega) ?_
          refine ⟨lev - 1, by omega, c_M_emits_w (by omega) e8 ?_⟩
          exact q0 (congrArg (Option.map _) hn2) h3 (xp_r2_tr (xp_r2_s (xp_rs_c A2)) (xp_r2_s s3)) e3 e8
      · exact absurd z c1
  · refine ⟨q0p, none, hb.1, fun f hf => absurd hf (by simp), ?_, RC _ _ ?_⟩
    · intro lev h Q A n hlv t e3 hA ok hn q1 q0
      refine en_R_readClause (by omega) (fun K hK => ?_)
      refine CH lev h Q K hK (by omega) t e3 (fun h' O => ?_)
      refine xq_go hK [] 60 ?_
      refine And.intro (fun _ => ?_) (fun z => absurd z (by omega))
      refine And.intro (fun _ => ?_) (fun z => absurd z no1)
      refine And.intro (fun _ => ?_) (fun z => absurd z no2)
      refine ⟨lev - 1, by omega, c_R_readSign (by omega) (xp_cs_tc O.1 t) G (by rw [O.2.1]; omega) (by decide) (fun e4 _ => absurd (by rw [← O.2.1]; exact e4) c2) (fun _ => ?_)⟩
      refine And.intro (fun _ => ?_) (fun z => absurd rfl z)
      exact And.intro (Or.inl rfl) (q0 rfl h' (xp_c2_s O.1) O.2.1)
    · intro lev h Q A n hlv I ok q1 q0
      refine en_M_much (by omega) (fun K hK => ?_)
      refine MH lev h Q K hK (by omega) I.1 I.2.1 I.2.2.2.1 (fun h' w x a hx => ?_)
      rcases hx with ⟨_, rfl, rfl⟩ | ⟨z, _, _⟩
      · refine xq_go hK [9] 60 ?_
        refine ⟨lev - 1, by omega, c_M_must (by omega) (xm_c_t a I.1) G (by rw [a.2.2.1]; omega) (by decide) (Or.inl a.2.2.2) (fun _ e4 _ => absurd (by rw [← a.2.2.1]; exact e4) c2) (fun _ h2 a2 => ?_)⟩
        rw [a.2.2.1] at a2
        have A2 := xm_c_tr a a2
        exact wend lev Q K hK (by omega) h2 x A2.2.2.2 (by omega) (by omega) (q0 rfl h2 (xp_r2_s (xp_rs_c A2)) A2.2.2.1 A2.2.2.2)
      · exact absurd z c1
set_option maxHeartbeats 1000000 in
theorem xp_SC_3 {g : Int → Int} {N p : Int} (G : xp_g g N) (hp : 0 ≤ p ∧ p ≤ N) (hc : xp_pk g N p = 102) : xp_SC g N p := by
  have gN := G.1
  have hb := xp_hd_bd (l := [102, 114, 101, 101, 32]) G (by decide) hp
  obtain ⟨q0p, hq0p⟩ : ∃ x, x = (xp_hd g N [102, 114, 101, 101, 32] p).1 := ⟨_, rfl⟩
  obtain ⟨v, hv⟩ : ∃ x, x = (xp_hd g N [102, 114, 101, 101, 32] p).2 := ⟨_, rfl⟩
  rw [← hq0p, ← hv] at hb
  have pbq := xp_pk_bd (p := q0p) G (by omega)
  have CH : ∀ (lev : Nat) (h : xq_H) (Q : Option xq_V → xq_H → Prop) (K : xq_KT), xq_sound (xq_C lev) rw_R_readClause 81 Q K → 20 ≤ lev → xp_tc h g N → h 54 3 = p → (∀ h', xp_cO h h' q0p [] → K 12 [some (xR 54), some (xI (xp_pk g N p)), none] [xI v] 81 h') → K 0 [some (xR 54), none, none] [] 81 h := by
    intro lev h Q K hK hl t e3 go
    rw [hq0p, hv] at go
    exact xp_ch_3 hK hl t G e3 hp ⟨by omega, by omega, by omega⟩ go
  have MH : ∀ (lev : Nat) (h : xq_H) (Q : Option xq_V → xq_H → Prop) (K : xq_KT), xq_sound (xq_C lev) rw_M_much 81 Q K → 10 ≤ lev → xp_tr h g N → h 64 6 = p → h 64 8 = 0 → (∀ (h' : xq_H) (w x : Int), xm_c h h' q0p w → (v ≠ -1 ∧ w = 0 ∧ x = v ∨ v = -1 ∧ w = 1 ∧ x = 0) → K 5 [some (xR 64), some (xI (-200)), some (xR 1107), none] [xI x] 81 h') → K 0 [some (xR 64), some (xI (-200)), some (xR 1107), none] [] 81 h := by
    intro lev h Q K hK hl t e6 e8 go
    rw [hq0p, hv] at go
    exact xm_hd_3 hK hl t G e6 e8 hp go
  have RC : ∀ (q : Int) (o : Option (xp_A → xp_A)), (∀ (lev : Nat) (h : xq_H) (Q : Option xq_V → xq_H → Prop) (A : xp_A) (n : Nat), 38 ≤ lev → xp_rC h g N p A → xp_okA A p n →
      (∀ f, o = some f → ∀ h', xp_r2 h h' → h' 64 6 = q → h' 64 8 = 0 → xp_rph (h' 65) (h 64 5) (f A) → Q none h') → (o = none → ∀ h', xp_r2 h h' → h' 64 6 = q → h' 64 8 = 1 → Q none h') → xq_met lev y_M_much [xR 64, xI (-200), xR 1107] 81 h Q) → xp_RC g N p q o := by
    intro q o MU lev h Q A n hlv I ok q1 q0
    refine en_M_clauseHere (by omega) (fun K hK => ?_)
    refine xq_go hK [] 60 ?_
    refine ⟨lev - 1, by omega, c_M_here (by omega) I.1 G (by rw [I.2.1]; omega) ?_⟩
    rw [I.2.1, hc]
    (repeat (first | (refine And.intro (fun c => absurd c (by decide)) (fun _ => ?_)) | (refine And.intro (fun _ => ?_) (fun c => absurd c (by decide)))))
    exact ⟨lev - 1, by omega, MU (lev - 1) h _ A n (by omega) I ok (fun f hf h' a b c d => q1 f hf h' a b c d) (fun ho h' a b c => q0 ho h' a b c)⟩
  have no1 : ¬ xp_pk g N p = 108 := by omega
  have no2 : ¬ xp_pk g N p = 115 := by omega
  have wend : ∀ (lev : Nat) (Q : Option xq_V → xq_H → Prop) (K : xq_KT), xq_sound (xq_C lev) rw_M_much 81 Q K → 10 ≤ lev → ∀ (h' : xq_H) (x : Int), h' 64 8 = 1 → 0 ≤ x → x ≤ 99 → Q none h' → K 9 [some (xR 64), some (xI (-200)), some (xR 1107), some (xI x)] [] 81 h' := by
    intro lev Q K hK hl h' x e8 hx0 hx1 hq
    refine xq_go hK [] 60 ?_
    refine ⟨lev - 1, by omega, c_M_some_w (by omega) e8 ?_⟩
    refine And.intro (by omega) ?_
    refine ⟨lev - 1, by omega, c_M_emits_w (by omega) e8 ?_⟩
    exact hq
  by_cases c1 : v = -1
  · refine ⟨q0p, none, hb.1, fun f hf => absurd hf (by simp), ?_, RC _ _ ?_⟩
    · intro lev h Q A n hlv t e3 hA ok hn q1 q0
      refine en_R_readClause (by omega) (fun K hK => ?_)
      refine CH lev h Q K hK (by omega) t e3 (fun h' O => ?_)
      refine xq_go hK [] 60 ?_
      refine And.intro (fun z => absurd z (by omega)) (fun _ => ?_)
      exact And.intro (Or.inl rfl) (q0 rfl h' (xp_c2_s O.1) O.2.1)
    · intro lev h Q A n hlv I ok q1 q0
      refine en_M_much (by omega) (fun K hK => ?_)
      refine MH lev h Q K hK (by omega) I.1 I.2.1 I.2.2.2.1 (fun h' w x a hx => ?_)
      rcases hx with ⟨z, _, _⟩ | ⟨_, rfl, rfl⟩
      · exact absurd c1 z
      · refine xq_go hK [9] 60 ?_
        refine ⟨lev - 1, by omega, c_M_must (by omega) (xm_c_t a I.1) G (by rw [a.2.2.1]; omega) (by decide) (Or.inr a.2.2.2) (fun z => absurd z (by rw [a.2.2.2]; decide)) (fun _ h2 a2 => ?_)⟩
        rw [a.2.2.1] at a2
        have A2 := xm_c_tr a a2
        exact wend lev Q K hK (by omega) h2 0 A2.2.2.2 (by decide) (by decide) (q0 rfl h2 (xp_r2_s (xp_rs_c A2)) A2.2.2.1 A2.2.2.2)
  by_cases c2 : xp_pk g N q0p = 32
  · have hqN := pbq.2.2.1 (by omega)
    obtain ⟨⟨q1, o1⟩, ok1, cf, rf⟩ := xp_expr (p := q0p + 1) G (by omega) (by omega)
    have ok3 := ok1.1
    dsimp only at ok3
    refine ⟨q1, o1.map (fun l => fun A => (A.1, A.2.1, A.2.2 ++ [(-200 - v, l)])), ⟨by omega, by omega⟩, fun f hf => ?_, ?_, RC _ _ ?_⟩
    · cases o1 with
      | none => exact absurd hf (by simp)
      | some l =>
        simp only [Option.map_some, Option.some.injEq] at hf
        have ok2 := ok1.2 l rfl
        dsimp only at ok2
        have b3 := hb.2.2 (by omega)
        simp only [List.length_cons, List.length_nil] at b3
        refine ⟨by omega, fun A n ok => ?_⟩
        rw [← hf]
        obtain ⟨k1, k2, k3, k4, k5⟩ := ok
        refine ⟨k1, k2, ?_, ?_, ?_⟩
        · intro x hx
          rcases List.mem_append.mp hx with hx | hx
          · exact k3 x hx
          · have ex : x = (-200 - v, l) := by simpa using hx
            rw [ex]
            exact ⟨ok2.2.2 0 (by decide), by dsimp only; omega⟩
        · dsimp only
          rw [xf_flat_app]
          simp only [List.length_append, List.length_cons, List.length_nil]
          omega
        · simp only [List.length_append, List.length_cons, List.length_nil]
          omega
    · intro lev h Q A n hlv t e3 hA ok hn q1' q0
      refine en_R_readClause (by omega) (fun K hK => ?_)
      refine CH lev h Q K hK (by omega) t e3 (fun h' O => ?_)
      obtain ⟨a1, a2, a3, a4, a5⟩ := hA
      obtain ⟨k1, k2, k3, k4, k5⟩ := ok
      have lf := xf_len_flat A.2.2
      have z6 := O.2.2.1
      rw [show (([] : List Int).length : Int) = 0 from rfl, Int.add_zero] at z6
      refine xq_go hK [54] 60 ?_
      refine And.intro (fun _ => ?_) (fun z => absurd z (by omega))
      refine And.intro (fun _ => ?_) (fun z => absurd z no1)
      refine And.intro (fun _ => ?_) (fun z => absurd z no2)
      refine ⟨lev - 1, by omega, c_R_readSign (by omega) (xp_cs_tc O.1 t) G (by rw [O.2.1]; omega) (by decide) (fun _ _ => ?_) (fun e4 => absurd (by rw [O.2.1]; exact c2) e4)⟩
      refine And.intro (fun z => absurd z (by decide)) (fun _ => ?_)
      have O2 := xp_cO_tr O (xp_cO_st (h := h') (q := h' 54 3 + 1))
      simp only [List.nil_append] at O2
      have zz : xq_u h' 54 3 (h' 54 3 + 1) 55 6 = h 55 6 := by rw [xq_u_o (by decide)]; exact z6
      refine ⟨lev - 1, by omega, cf (lev - 1) _ _ (by omega) (xp_cs_tc O2.1 t) (by rw [xu_eq, O.2.1]) (by rw [zz]; omega) (fun l hl h2 O3 => ?_) (fun hn2 h2 s2 e2 => ?_)⟩
      · have O23 := xp_cO_tr O2 O3
        simp only [List.nil_append] at O23
        dsimp only at O23 hl
        refine And.intro (fun _ => ?_) (fun z => absurd z (by decide))
        have f4 : h2 55 4 = h 55 4 := O23.1.2.2 4 (by decide)
        have q2 := q1' _ (congrArg (Option.map (fun l => fun (A : xp_A) => (A.1, A.2.1, A.2.2 ++ [(-200 - v, l)]))) hl)
        have amt : xf_amt (-200 - v) = -v := by
          unfold xf_amt
          rw [if_neg (by omega)]
          omega
        have go : K 54 [some (xR 54), some (xI (xp_pk g N p)), some (xI v)] [xI (-v), xR 55] 81 h2 := by
          refine xq_go hK [] 60 ?_
          refine ⟨lev - 1, by omega, c_P_close (by omega) (by omega) (fun h3 s3 b0 b4 b56 b57 => ?_)⟩
          refine And.intro (Or.inr rfl) (q2 h3 ⟨xs_tr (xp_c2_s O23.1).1 s3 (fun _ z => z) (by decide), fun k hk => by rw [s3 54 (by decide)]; exact O23.1.2.1 k hk⟩ (by rw [s3 54 (by decide)]; exact O23.2.1) ⟨?_, ?_, ?_, ?_, ?_⟩)
          · rw [b0 0 (by decide), O23.1.2.2 0 (by decide)]; exact a1
          · rw [b0 1 (by decide), O23.1.2.2 1 (by decide)]; exact a2
          · rw [b4, f4, a3]
            simp only [List.length_append, List.length_cons, List.length_nil]
            omega
          · dsimp only
            rw [b0 6 (by decide), O23.2.2.1, a4, xf_len_app]
            omega
          · have v18 : ∀ k : Int, xp_v h3 18 k = if k = (A.2.2.length : Int) then xf_amt (-200 - v) else h 56 k := fun k => by
              show h3 56 k = _
              rw [b56 k, f4, a3, amt, O23.1.1 56 (by decide)]
            have v19 : ∀ k : Int, xp_v h3 19 k = if k = (A.2.2.length : Int) then h2 55 6 else h 57 k := fun k => by
              show h3 57 k = _
              rw [b57 k, f4, a3, O23.1.1 57 (by decide)]
            have v20 : xp_v h3 20 = h2 58 := s3 58 (by decide)
            refine xf_cls_app A.2.2 0 0 (xf_cls_lt A.2.2 0 0 (fun k y z => ?_) (fun k y z => ?_) a5) ?_ ?_ ?_
            · rw [v18, v19, if_neg (by omega), if_neg (by omega)]
              exact ⟨rfl, rfl⟩
            · rw [v20]
              exact O23.2.2.2.1 k (by omega)
            · rw [v18, if_pos (by omega)]
            · rw [v19, if_pos (by omega), O23.2.2.1, a4]
              omega
            · rw [v20]
              have e := O23.2.2.2.2
              rw [a4] at e
              rw [Int.zero_add]
              exact e
        refine And.intro (fun _ => ?_) (fun z => absurd z (by omega))
        refine And.intro (by omega) ?_
        exact go
      · refine And.intro (fun z => absurd rfl z) (fun _ => ?_)
        exact And.intro (Or.inl rfl) (q0 (congrArg (Option.map _) hn2) h2 (xp_c2_s (xp_cs_tr O2.1 s2)) e2)
    · intro lev h Q A n hlv I ok q1' q0
      refine en_M_much (by omega) (fun K hK => ?_)
      obtain ⟨i1, i2, i3, i4, i5, r1, r2, r3, r4⟩ := I
      obtain ⟨k1, k2, k3, k4, k5⟩ := ok
      refine MH lev h Q K hK (by omega) i1 i2 i4 (fun h' w x a hx => ?_)
      rcases hx with ⟨_, rfl, rfl⟩ | ⟨z, _, _⟩
      · refine xq_go hK [9] 60 ?_
        refine ⟨lev - 1, by omega, c_M_must (by omega) (xm_c_t a i1) G (by rw [a.2.2.1]; omega) (by decide) (Or.inl a.2.2.2) (fun _ _ _ h2 a2 => ?_) (fun z => absurd c2 (by rw [← a.2.2.1]; exact z.resolve_left (by rw [a.2.2.2]; decide)))⟩
        rw [a.2.2.1] at a2
        have A2 := xm_c_tr a a2
        have e5 : h2 64 5 = h 64 5 := A2.2.1 5 (by decide) (by decide)
        have e65 : h2 65 = h 65 := A2.1 65 (by decide)
        have I2 : xp_rI h2 g N (q0p + 1) 0 := ⟨xm_c_t A2 i1, A2.2.2.1, (A2.2.1 9 (by decide) (by decide)).trans i3, A2.2.2.2, by rw [e5]; exact i5, by rw [e5, e65, r3]; omega⟩
        refine xq_go hK [] 60 ?_
        refine ⟨lev - 1, by omega, rf (lev - 1) _ _ (by omega) I2 (fun l hl h3 O3 => ?_) (fun hn2 h3 s3 e3 e8 => ?_)⟩
        · have ok2 := ok1.2 l hl
          have I3 := xp_rI_O I2 gN.2 O3 ok2.2.1
          obtain ⟨j1, j2, j3, j4, j5, j6⟩ := I3
          dsimp only at j2 j6 ok2 hl
          refine And.intro (by omega) ?_
          refine ⟨lev - 1, by omega, c_M_emits (by omega) j5 (by omega) (Or.inl j4) (fun _ h4 O4 => ?_) (fun z => absurd z (by omega))⟩
          have O34 := xp_rO_tr (by rw [e5, e65, r3]; omega) O3 O4
          rw [j2] at O34
          have O := xp_rO_tr (by rw [r3]; omega) (xp_rO_c A2) O34
          simp only [List.nil_append] at O
          have q2 := q1' _ (congrArg (Option.map (fun l => fun (A : xp_A) => (A.1, A.2.1, A.2.2 ++ [(-200 - x, l)]))) hl)
          refine q2 h4 (xp_r2_s O.1) O.2.1 O.2.2.1 ⟨?_, ?_, ?_, ?_⟩
          · rw [O.1.2.2.1 _ (by omega)]; exact r1
          · rw [O.1.2.2.1 _ (by omega)]; exact r2
          · dsimp only
            rw [O.2.2.2.1, r3, xf_flat_app]
            simp only [List.length_append, List.length_cons, List.length_nil]
            omega
          · dsimp only
            rw [xf_flat_app, xf_at_app]
            refine ⟨xf_at_cp _ _ (fun k y z => O.2.2.2.2.1 k y (by rw [r3]; exact z)) r4, ?_⟩
            have e := O.2.2.2.2.2
            rw [r3] at e
            exact e
        · refine And.intro (by omega) ?_
          refine ⟨lev - 1, by omega, c_M_emits_w (by omega) e8 ?_⟩
          exact q0 (congrArg (Option.map _) hn2) h3 (xp_r2_tr (xp_r2_s (xp_rs_c A2)) (xp_r2_s s3)) e3 e8
      · exact absurd z c1
  · refine ⟨q0p, none, hb.1, fun f hf => absurd hf (by simp), ?_, RC _ _ ?_⟩
    · intro lev h Q A n hlv t e3 hA ok hn q1 q0
      refine en_R_readClause (by omega) (fun K hK => ?_)
      refine CH lev h Q K hK (by omega) t e3 (fun h' O => ?_)
      refine xq_go hK [] 60 ?_
      refine And.intro (fun _ => ?_) (fun z => absurd z (by omega))
      refine And.intro (fun _ => ?_) (fun z => absurd z no1)
      refine And.intro (fun _ => ?_) (fun z => absurd z no2)
      refine ⟨lev - 1, by omega, c_R_readSign (by omega) (xp_cs_tc O.1 t) G (by rw [O.2.1]; omega) (by decide) (fun e4 _ => absurd (by rw [← O.2.1]; exact e4) c2) (fun _ => ?_)⟩
      refine And.intro (fun _ => ?_) (fun z => absurd rfl z)
      exact And.intro (Or.inl rfl) (q0 rfl h' (xp_c2_s O.1) O.2.1)
    · intro lev h Q A n hlv I ok q1 q0
      refine en_M_much (by omega) (fun K hK => ?_)
      refine MH lev h Q K hK (by omega) I.1 I.2.1 I.2.2.2.1 (fun h' w x a hx => ?_)
      rcases hx with ⟨_, rfl, rfl⟩ | ⟨z, _, _⟩
      · refine xq_go hK [9] 60 ?_
        refine ⟨lev - 1, by omega, c_M_must (by omega) (xm_c_t a I.1) G (by rw [a.2.2.1]; omega) (by decide) (Or.inl a.2.2.2) (fun _ e4 _ => absurd (by rw [← a.2.2.1]; exact e4) c2) (fun _ h2 a2 => ?_)⟩
        rw [a.2.2.1] at a2
        have A2 := xm_c_tr a a2
        exact wend lev Q K hK (by omega) h2 x A2.2.2.2 (by omega) (by omega) (q0 rfl h2 (xp_r2_s (xp_rs_c A2)) A2.2.2.1 A2.2.2.2)
      · exact absurd z c1
