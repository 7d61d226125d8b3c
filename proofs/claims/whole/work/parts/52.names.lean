/-! NAMES (genread3.py) -/
def xp_lit (g : Int → Int) (N : Int) : List Int → Int → Int × Bool
  | [], p => (p, true)
  | c :: l, p => if xp_pk g N p = c then xp_lit g N l (p + 1) else (p, false)
theorem xp_lit_t {g : Int → Int} {N c p : Int} {l : List Int} (h : xp_pk g N p = c) : xp_lit g N (c :: l) p = xp_lit g N l (p + 1) := if_pos h
theorem xp_lit_f {g : Int → Int} {N c p : Int} {l : List Int} (h : ¬ xp_pk g N p = c) : xp_lit g N (c :: l) p = (p, false) := if_neg h
theorem xp_lit_bd {g : Int → Int} {N : Int} (G : xp_g g N) : ∀ (l : List Int) (p : Int), (∀ c ∈ l, 0 ≤ c) → 0 ≤ p → p ≤ N → (p ≤ (xp_lit g N l p).1 ∧ (xp_lit g N l p).1 ≤ N) ∧ ((xp_lit g N l p).2 = true → (xp_lit g N l p).1 = p + l.length)
  | [], p, _, h1, h2 => ⟨⟨Int.le_refl _, h2⟩, fun _ => by show p = p + ((0 : Nat) : Int); omega⟩
  | c :: l, p, hc, h1, h2 => by
    have b := xp_pk_bd G h1
    have c0 := hc c List.mem_cons_self
    by_cases e : xp_pk g N p = c
    · rw [xp_lit_t e]
      have ih := xp_lit_bd G l (p + 1) (fun x hx => hc x (List.mem_cons_of_mem _ hx)) (by omega) (by omega)
      refine ⟨by omega, fun z => ?_⟩
      rw [ih.2 z, List.length_cons]
      omega
    · rw [xp_lit_f e]
      exact ⟨⟨Int.le_refl _, h2⟩, fun z => absurd z (by simp)⟩
theorem c_R_readName_0 {lev : Nat} {h : xq_H} {Q : Option xq_V → xq_H → Prop} {g : Int → Int} {N p : Int} (hl : 6 ≤ lev) (t : xp_tc h g N) (G : xp_g g N) (e3 : h 54 3 = p) (hp : 0 ≤ p ∧ p ≤ N)
    (h1 : (xp_lit g N [108, 105, 109, 105, 116, 32] p).2 = true → ∀ h', xp_cO h h' (xp_lit g N [108, 105, 109, 105, 116, 32] p).1 [] → Q (some (xI 1)) h')
    (h0 : (xp_lit g N [108, 105, 109, 105, 116, 32] p).2 = false → ∀ h', xp_cO h h' (xp_lit g N [108, 105, 109, 105, 116, 32] p).1 [] → Q (some (xI 0)) h') : xq_met lev y_R_readName [xR 54, xR 1100] 81 h Q := by
  refine en_R_readName (by omega) (fun K hK => ?_)
  have dr : ∀ i : Nat, i < 5 → ([108, 105, 109, 105, 116, 32] : List Int).drop i = (xq_str 0).getD i 0 :: ([108, 105, 109, 105, 116, 32] : List Int).drop (i + 1) ∧ 0 ≤ (xq_str 0).getD i 0 := by decide
  have loop : ∀ (d i : Nat) (iI p' : Int) (h' : xq_H), i + d = 5 → iI = i → xp_cO h h' p' [] → (0 ≤ p' ∧ p' ≤ N) → xp_lit g N (([108, 105, 109, 105, 116, 32] : List Int).drop i) p' = xp_lit g N [108, 105, 109, 105, 116, 32] p → K 2 [some (xR 54), some (xR 1100), some (xI iI)] [] 81 h' := by
    intro d
    induction d with
    | zero =>
      intro i iI p' h' hd ei O hp' hR
      obtain rfl : i = 5 := by omega
      rw [show ([108, 105, 109, 105, 116, 32] : List Int).drop 5 = [32] from rfl] at hR
      refine xq_go hK [2] 60 ?_
      refine ⟨lev - 1, by omega, c_JS_length_0 (by omega) ?_⟩
      refine And.intro (fun _ => ?_) (fun z => absurd z (by omega))
      refine ⟨lev - 1, by omega, c_R_readSign (by omega) (xp_cs_tc O.1 t) G (by rw [O.2.1]; exact hp') (by omega) (fun e4 _ => ?_) (fun e4 => ?_)⟩
      · rw [O.2.1] at e4
        rw [xp_lit_t e4] at hR
        rw [← hR] at h1
        have O2 := xp_cO_tr O (xp_cO_st (h := h') (q := h' 54 3 + 1))
        rw [O.2.1] at O2 ⊢
        exact And.intro (Or.inr rfl) (h1 rfl _ O2)
      · rw [O.2.1] at e4
        rw [xp_lit_f e4] at hR
        rw [← hR] at h0
        exact And.intro (Or.inl rfl) (h0 rfl _ O)
    | succ d ih =>
      intro i iI p' h' hd ei O hp' hR
      subst ei
      have di := dr i (by omega)
      rw [di.1] at hR
      refine xq_go hK [2] 60 ?_
      refine ⟨lev - 1, by omega, c_JS_length_0 (by omega) ?_⟩
      refine And.intro (fun z => absurd z (by omega)) (fun _ => ?_)
      refine ⟨lev - 1, by omega, c_JS_charAt_0 (by omega) (by omega) ?_⟩
      rw [show ((i : Nat) : Int).toNat = i by omega]
      refine ⟨lev - 1, by omega, c_R_readSign (by omega) (xp_cs_tc O.1 t) G (by rw [O.2.1]; exact hp') di.2 (fun e4 hN => ?_) (fun e4 => ?_)⟩
      · rw [O.2.1] at e4 hN
        rw [xp_lit_t e4] at hR
        have O2 := xp_cO_tr O (xp_cO_st (h := h') (q := h' 54 3 + 1))
        rw [O.2.1] at O2 ⊢
        refine And.intro (fun _ => ?_) (fun z => absurd z (by decide))
        refine And.intro (by omega) ?_
        exact ih (i + 1) _ (p' + 1) _ (by omega) (by omega) O2 (by omega) hR
      · rw [O.2.1] at e4
        rw [xp_lit_f e4] at hR
        rw [← hR] at h0
        refine And.intro (fun z => absurd rfl z) (fun _ => ?_)
        exact And.intro (Or.inl rfl) (h0 rfl _ O)
  refine xq_go hK [2] 60 ?_
  exact loop 5 0 _ p h (by omega) rfl (xp_cO_0 e3) hp rfl
theorem c_M_spells_0 {lev : Nat} {h : xq_H} {Q : Option xq_V → xq_H → Prop} {g : Int → Int} {N p : Int} (hl : 6 ≤ lev) (t : xp_tr h g N) (G : xp_g g N) (e6 : h 64 6 = p) (e8 : h 64 8 = 0) (hp : 0 ≤ p ∧ p ≤ N)
    (hQ : ∀ h', xm_c h h' (xp_lit g N [108, 105, 109, 105, 116, 32] p).1 (if (xp_lit g N [108, 105, 109, 105, 116, 32] p).2 = true then 0 else 1) → Q none h') : xq_met lev y_M_spells [xR 64, xR 1104] 81 h Q := by
  refine en_M_spells (by omega) (fun K hK => ?_)
  have dr : ∀ i : Nat, i < 6 → ([108, 105, 109, 105, 116, 32] : List Int).drop i = (xq_str 4).getD i 0 :: ([108, 105, 109, 105, 116, 32] : List Int).drop (i + 1) ∧ 0 ≤ (xq_str 4).getD i 0 := by decide
  have loop : ∀ (d i : Nat) (iI p' w : Int) (h' : xq_H), i + d = 6 → iI = i → xm_c h h' p' w → (0 ≤ p' ∧ p' ≤ N) → (w = 0 ∧ xp_lit g N (([108, 105, 109, 105, 116, 32] : List Int).drop i) p' = xp_lit g N [108, 105, 109, 105, 116, 32] p ∨ w = 1 ∧ xp_lit g N [108, 105, 109, 105, 116, 32] p = (p', false)) → K 2 [some (xR 64), some (xR 1104), some (xI iI)] [] 81 h' := by
    intro d
    induction d with
    | zero =>
      intro i iI p' w h' hd ei a hp' hR
      obtain rfl : i = 6 := by omega
      refine xq_go hK [2] 60 ?_
      refine ⟨lev - 1, by omega, c_JS_length_4 (by omega) ?_⟩
      refine And.intro (fun _ => ?_) (fun z => absurd z (by omega))
      rcases hR with ⟨rfl, hR⟩ | ⟨rfl, hR⟩
      · have e : xp_lit g N [108, 105, 109, 105, 116, 32] p = (p', true) := hR.symm
        rw [e] at hQ
        exact hQ h' a
      · rw [hR] at hQ
        exact hQ h' a
    | succ d ih =>
      intro i iI p' w h' hd ei a hp' hR
      subst ei
      have di := dr i (by omega)
      rw [di.1] at hR
      refine xq_go hK [2] 60 ?_
      refine ⟨lev - 1, by omega, c_JS_length_4 (by omega) ?_⟩
      refine And.intro (fun z => absurd z (by omega)) (fun _ => ?_)
      refine ⟨lev - 1, by omega, c_JS_charAt_4 (by omega) (by omega) ?_⟩
      rw [show ((i : Nat) : Int).toNat = i by omega]
      have w01 : h' 64 8 = 0 ∨ h' 64 8 = 1 := by
        rw [a.2.2.2]
        rcases hR with ⟨z, _⟩ | ⟨z, _⟩
        · exact Or.inl z
        · exact Or.inr z
      refine ⟨lev - 1, by omega, c_M_must (by omega) (xm_c_t a t) G (by rw [a.2.2.1]; exact hp') di.2 w01 (fun f8 e4 hN h2 a2 => ?_) (fun e4 h2 a2 => ?_)⟩
      · rw [a.2.2.1] at e4 hN a2
        rw [a.2.2.2] at f8
        refine And.intro (by omega) ?_
        rcases hR with ⟨_, hR⟩ | ⟨z, _⟩
        · rw [xp_lit_t e4] at hR
          exact ih (i + 1) _ (p' + 1) 0 _ (by omega) (by omega) (xm_c_tr a a2) (by omega) (Or.inl ⟨rfl, hR⟩)
        · exact absurd z (by omega)
      · rw [a.2.2.1, a.2.2.2] at e4
        rw [a.2.2.1] at a2
        refine And.intro (by omega) ?_
        refine ih (i + 1) _ p' 1 _ (by omega) (by omega) (xm_c_tr a a2) hp' (Or.inr ⟨rfl, ?_⟩)
        rcases hR with ⟨z, hR⟩ | ⟨_, hR⟩
        · rw [xp_lit_f (e4.resolve_left (by omega))] at hR
          exact hR.symm
        · exact hR
  refine xq_go hK [2] 60 ?_
  exact loop 6 0 _ p 0 h (by omega) rfl ⟨xs_rf, fun _ _ _ => rfl, e6, e8⟩ hp (Or.inl ⟨rfl, rfl⟩)
theorem c_R_readName_1 {lev : Nat} {h : xq_H} {Q : Option xq_V → xq_H → Prop} {g : Int → Int} {N p : Int} (hl : 6 ≤ lev) (t : xp_tc h g N) (G : xp_g g N) (e3 : h 54 3 = p) (hp : 0 ≤ p ∧ p ≤ N)
    (h1 : (xp_lit g N [115, 116, 101, 112, 32] p).2 = true → ∀ h', xp_cO h h' (xp_lit g N [115, 116, 101, 112, 32] p).1 [] → Q (some (xI 1)) h')
    (h0 : (xp_lit g N [115, 116, 101, 112, 32] p).2 = false → ∀ h', xp_cO h h' (xp_lit g N [115, 116, 101, 112, 32] p).1 [] → Q (some (xI 0)) h') : xq_met lev y_R_readName [xR 54, xR 1101] 81 h Q := by
  refine en_R_readName (by omega) (fun K hK => ?_)
  have dr : ∀ i : Nat, i < 4 → ([115, 116, 101, 112, 32] : List Int).drop i = (xq_str 1).getD i 0 :: ([115, 116, 101, 112, 32] : List Int).drop (i + 1) ∧ 0 ≤ (xq_str 1).getD i 0 := by decide
  have loop : ∀ (d i : Nat) (iI p' : Int) (h' : xq_H), i + d = 4 → iI = i → xp_cO h h' p' [] → (0 ≤ p' ∧ p' ≤ N) → xp_lit g N (([115, 116, 101, 112, 32] : List Int).drop i) p' = xp_lit g N [115, 116, 101, 112, 32] p → K 2 [some (xR 54), some (xR 1101), some (xI iI)] [] 81 h' := by
    intro d
    induction d with
    | zero =>
      intro i iI p' h' hd ei O hp' hR
      obtain rfl : i = 4 := by omega
      rw [show ([115, 116, 101, 112, 32] : List Int).drop 4 = [32] from rfl] at hR
      refine xq_go hK [2] 60 ?_
      refine ⟨lev - 1, by omega, c_JS_length_1 (by omega) ?_⟩
      refine And.intro (fun _ => ?_) (fun z => absurd z (by omega))
      refine ⟨lev - 1, by omega, c_R_readSign (by omega) (xp_cs_tc O.1 t) G (by rw [O.2.1]; exact hp') (by omega) (fun e4 _ => ?_) (fun e4 => ?_)⟩
      · rw [O.2.1] at e4
        rw [xp_lit_t e4] at hR
        rw [← hR] at h1
        have O2 := xp_cO_tr O (xp_cO_st (h := h') (q := h' 54 3 + 1))
        rw [O.2.1] at O2 ⊢
        exact And.intro (Or.inr rfl) (h1 rfl _ O2)
      · rw [O.2.1] at e4
        rw [xp_lit_f e4] at hR
        rw [← hR] at h0
        exact And.intro (Or.inl rfl) (h0 rfl _ O)
    | succ d ih =>
      intro i iI p' h' hd ei O hp' hR
      subst ei
      have di := dr i (by omega)
      rw [di.1] at hR
      refine xq_go hK [2] 60 ?_
      refine ⟨lev - 1, by omega, c_JS_length_1 (by omega) ?_⟩
      refine And.intro (fun z => absurd z (by omega)) (fun _ => ?_)
      refine ⟨lev - 1, by omega, c_JS_charAt_1 (by omega) (by omega) ?_⟩
      rw [show ((i : Nat) : Int).toNat = i by omega]
      refine ⟨lev - 1, by omega, c_R_readSign (by omega) (xp_cs_tc O.1 t) G (by rw [O.2.1]; exact hp') di.2 (fun e4 hN => ?_) (fun e4 => ?_)⟩
      · rw [O.2.1] at e4 hN
        rw [xp_lit_t e4] at hR
        have O2 := xp_cO_tr O (xp_cO_st (h := h') (q := h' 54 3 + 1))
        rw [O.2.1] at O2 ⊢
        refine And.intro (fun _ => ?_) (fun z => absurd z (by decide))
        refine And.intro (by omega) ?_
        exact ih (i + 1) _ (p' + 1) _ (by omega) (by omega) O2 (by omega) hR
      · rw [O.2.1] at e4
        rw [xp_lit_f e4] at hR
        rw [← hR] at h0
        refine And.intro (fun z => absurd rfl z) (fun _ => ?_)
        exact And.intro (Or.inl rfl) (h0 rfl _ O)
  refine xq_go hK [2] 60 ?_
  exact loop 4 0 _ p h (by omega) rfl (xp_cO_0 e3) hp rfl
theorem c_M_spells_1 {lev : Nat} {h : xq_H} {Q : Option xq_V → xq_H → Prop} {g : Int → Int} {N p : Int} (hl : 6 ≤ lev) (t : xp_tr h g N) (G : xp_g g N) (e6 : h 64 6 = p) (e8 : h 64 8 = 0) (hp : 0 ≤ p ∧ p ≤ N)
    (hQ : ∀ h', xm_c h h' (xp_lit g N [115, 116, 101, 112, 32] p).1 (if (xp_lit g N [115, 116, 101, 112, 32] p).2 = true then 0 else 1) → Q none h') : xq_met lev y_M_spells [xR 64, xR 1105] 81 h Q := by
  refine en_M_spells (by omega) (fun K hK => ?_)
  have dr : ∀ i : Nat, i < 5 → ([115, 116, 101, 112, 32] : List Int).drop i = (xq_str 5).getD i 0 :: ([115, 116, 101, 112, 32] : List Int).drop (i + 1) ∧ 0 ≤ (xq_str 5).getD i 0 := by decide
  have loop : ∀ (d i : Nat) (iI p' w : Int) (h' : xq_H), i + d = 5 → iI = i → xm_c h h' p' w → (0 ≤ p' ∧ p' ≤ N) → (w = 0 ∧ xp_lit g N (([115, 116, 101, 112, 32] : List Int).drop i) p' = xp_lit g N [115, 116, 101, 112, 32] p ∨ w = 1 ∧ xp_lit g N [115, 116, 101, 112, 32] p = (p', false)) → K 2 [some (xR 64), some (xR 1105), some (xI iI)] [] 81 h' := by
    intro d
    induction d with
    | zero =>
      intro i iI p' w h' hd ei a hp' hR
      obtain rfl : i = 5 := by omega
      refine xq_go hK [2] 60 ?_
      refine ⟨lev - 1, by omega, c_JS_length_5 (by omega) ?_⟩
      refine And.intro (fun _ => ?_) (fun z => absurd z (by omega))
      rcases hR with ⟨rfl, hR⟩ | ⟨rfl, hR⟩
      · have e : xp_lit g N [115, 116, 101, 112, 32] p = (p', true) := hR.symm
        rw [e] at hQ
        exact hQ h' a
      · rw [hR] at hQ
        exact hQ h' a
    | succ d ih =>
      intro i iI p' w h' hd ei a hp' hR
      subst ei
      have di := dr i (by omega)
      rw [di.1] at hR
      refine xq_go hK [2] 60 ?_
      refine ⟨lev - 1, by omega, c_JS_length_5 (by omega) ?_⟩
      refine And.intro (fun z => absurd z (by omega)) (fun _ => ?_)
      refine ⟨lev - 1, by omega, c_JS_charAt_5 (by omega) (by omega) ?_⟩
      rw [show ((i : Nat) : Int).toNat = i by omega]
      have w01 : h' 64 8 = 0 ∨ h' 64 8 = 1 := by
        rw [a.2.2.2]
        rcases hR with ⟨z, _⟩ | ⟨z, _⟩
        · exact Or.inl z
        · exact Or.inr z
      refine ⟨lev - 1, by omega, c_M_must (by omega) (xm_c_t a t) G (by rw [a.2.2.1]; exact hp') di.2 w01 (fun f8 e4 hN h2 a2 => ?_) (fun e4 h2 a2 => ?_)⟩
      · rw [a.2.2.1] at e4 hN a2
        rw [a.2.2.2] at f8
        refine And.intro (by omega) ?_
        rcases hR with ⟨_, hR⟩ | ⟨z, _⟩
        · rw [xp_lit_t e4] at hR
          exact ih (i + 1) _ (p' + 1) 0 _ (by omega) (by omega) (xm_c_tr a a2) (by omega) (Or.inl ⟨rfl, hR⟩)
        · exact absurd z (by omega)
      · rw [a.2.2.1, a.2.2.2] at e4
        rw [a.2.2.1] at a2
        refine And.intro (by omega) ?_
        refine ih (i + 1) _ p' 1 _ (by omega) (by omega) (xm_c_tr a a2) hp' (Or.inr ⟨rfl, ?_⟩)
        rcases hR with ⟨z, hR⟩ | ⟨_, hR⟩
        · rw [xp_lit_f (e4.resolve_left (by omega))] at hR
          exact hR.symm
        · exact hR
  refine xq_go hK [2] 60 ?_
  exact loop 5 0 _ p 0 h (by omega) rfl ⟨xs_rf, fun _ _ _ => rfl, e6, e8⟩ hp (Or.inl ⟨rfl, rfl⟩)
theorem c_R_readName_2 {lev : Nat} {h : xq_H} {Q : Option xq_V → xq_H → Prop} {g : Int → Int} {N p : Int} (hl : 6 ≤ lev) (t : xp_tc h g N) (G : xp_g g N) (e3 : h 54 3 = p) (hp : 0 ≤ p ∧ p ≤ N)
    (h1 : (xp_lit g N [100, 101, 97, 114, 32] p).2 = true → ∀ h', xp_cO h h' (xp_lit g N [100, 101, 97, 114, 32] p).1 [] → Q (some (xI 1)) h')
    (h0 : (xp_lit g N [100, 101, 97, 114, 32] p).2 = false → ∀ h', xp_cO h h' (xp_lit g N [100, 101, 97, 114, 32] p).1 [] → Q (some (xI 0)) h') : xq_met lev y_R_readName [xR 54, xR 1102] 81 h Q := by
  refine en_R_readName (by omega) (fun K hK => ?_)
  have dr : ∀ i : Nat, i < 4 → ([100, 101, 97, 114, 32] : List Int).drop i = (xq_str 2).getD i 0 :: ([100, 101, 97, 114, 32] : List Int).drop (i + 1) ∧ 0 ≤ (xq_str 2).getD i 0 := by decide
  have loop : ∀ (d i : Nat) (iI p' : Int) (h' : xq_H), i + d = 4 → iI = i → xp_cO h h' p' [] → (0 ≤ p' ∧ p' ≤ N) → xp_lit g N (([100, 101, 97, 114, 32] : List Int).drop i) p' = xp_lit g N [100, 101, 97, 114, 32] p → K 2 [some (xR 54), some (xR 1102), some (xI iI)] [] 81 h' := by
    intro d
    induction d with
    | zero =>
      intro i iI p' h' hd ei O hp' hR
      obtain rfl : i = 4 := by omega
      rw [show ([100, 101, 97, 114, 32] : List Int).drop 4 = [32] from rfl] at hR
      refine xq_go hK [2] 60 ?_
      refine ⟨lev - 1, by omega, c_JS_length_2 (by omega) ?_⟩
      refine And.intro (fun _ => ?_) (fun z => absurd z (by omega))
      refine ⟨lev - 1, by omega, c_R_readSign (by omega) (xp_cs_tc O.1 t) G (by rw [O.2.1]; exact hp') (by omega) (fun e4 _ => ?_) (fun e4 => ?_)⟩
      · rw [O.2.1] at e4
        rw [xp_lit_t e4] at hR
        rw [← hR] at h1
        have O2 := xp_cO_tr O (xp_cO_st (h := h') (q := h' 54 3 + 1))
        rw [O.2.1] at O2 ⊢
        exact And.intro (Or.inr rfl) (h1 rfl _ O2)
      · rw [O.2.1] at e4
        rw [xp_lit_f e4] at hR
        rw [← hR] at h0
        exact And.intro (Or.inl rfl) (h0 rfl _ O)
    | succ d ih =>
      intro i iI p' h' hd ei O hp' hR
      subst ei
      have di := dr i (by omega)
      rw [di.1] at hR
      refine xq_go hK [2] 60 ?_
      refine ⟨lev - 1, by omega, c_JS_length_2 (by omega) ?_⟩
      refine And.intro (fun z => absurd z (by omega)) (fun _ => ?_)
      refine ⟨lev - 1, by omega, c_JS_charAt_2 (by omega) (by omega) ?_⟩
      rw [show ((i : Nat) : Int).toNat = i by omega]
      refine ⟨lev - 1, by omega, c_R_readSign (by omega) (xp_cs_tc O.1 t) G (by rw [O.2.1]; exact hp') di.2 (fun e4 hN => ?_) (fun e4 => ?_)⟩
      · rw [O.2.1] at e4 hN
        rw [xp_lit_t e4] at hR
        have O2 := xp_cO_tr O (xp_cO_st (h := h') (q := h' 54 3 + 1))
        rw [O.2.1] at O2 ⊢
        refine And.intro (fun _ => ?_) (fun z => absurd z (by decide))
        refine And.intro (by omega) ?_
        exact ih (i + 1) _ (p' + 1) _ (by omega) (by omega) O2 (by omega) hR
      · rw [O.2.1] at e4
        rw [xp_lit_f e4] at hR
        rw [← hR] at h0
        refine And.intro (fun z => absurd rfl z) (fun _ => ?_)
        exact And.intro (Or.inl rfl) (h0 rfl _ O)
  refine xq_go hK [2] 60 ?_
  exact loop 4 0 _ p h (by omega) rfl (xp_cO_0 e3) hp rfl
theorem c_M_spells_2 {lev : Nat} {h : xq_H} {Q : Option xq_V → xq_H → Prop} {g : Int → Int} {N p : Int} (hl : 6 ≤ lev) (t : xp_tr h g N) (G : xp_g g N) (e6 : h 64 6 = p) (e8 : h 64 8 = 0) (hp : 0 ≤ p ∧ p ≤ N)
    (hQ : ∀ h', xm_c h h' (xp_lit g N [100, 101, 97, 114, 32] p).1 (if (xp_lit g N [100, 101, 97, 114, 32] p).2 = true then 0 else 1) → Q none h') : xq_met lev y_M_spells [xR 64, xR 1106] 81 h Q := by
  refine en_M_spells (by omega) (fun K hK => ?_)
  have dr : ∀ i : Nat, i < 5 → ([100, 101, 97, 114, 32] : List Int).drop i = (xq_str 6).getD i 0 :: ([100, 101, 97, 114, 32] : List Int).drop (i + 1) ∧ 0 ≤ (xq_str 6).getD i 0 := by decide
  have loop : ∀ (d i : Nat) (iI p' w : Int) (h' : xq_H), i + d = 5 → iI = i → xm_c h h' p' w → (0 ≤ p' ∧ p' ≤ N) → (w = 0 ∧ xp_lit g N (([100, 101, 97, 114, 32] : List Int).drop i) p' = xp_lit g N [100, 101, 97, 114, 32] p ∨ w = 1 ∧ xp_lit g N [100, 101, 97, 114, 32] p = (p', false)) → K 2 [some (xR 64), some (xR 1106), some (xI iI)] [] 81 h' := by
    intro d
    induction d with
    | zero =>
      intro i iI p' w h' hd ei a hp' hR
      obtain rfl : i = 5 := by omega
      refine xq_go hK [2] 60 ?_
      refine ⟨lev - 1, by omega, c_JS_length_6 (by omega) ?_⟩
      refine And.intro (fun _ => ?_) (fun z => absurd z (by omega))
      rcases hR with ⟨rfl, hR⟩ | ⟨rfl, hR⟩
      · have e : xp_lit g N [100, 101, 97, 114, 32] p = (p', true) := hR.symm
        rw [e] at hQ
        exact hQ h' a
      · rw [hR] at hQ
        exact hQ h' a
    | succ d ih =>
      intro i iI p' w h' hd ei a hp' hR
      subst ei
      have di := dr i (by omega)
      rw [di.1] at hR
      refine xq_go hK [2] 60 ?_
      refine ⟨lev - 1, by omega, c_JS_length_6 (by omega) ?_⟩
      refine And.intro (fun z => absurd z (by omega)) (fun _ => ?_)
      refine ⟨lev - 1, by omega, c_JS_charAt_6 (by omega) (by omega) ?_⟩
      rw [show ((i : Nat) : Int).toNat = i by omega]
      have w01 : h' 64 8 = 0 ∨ h' 64 8 = 1 := by
        rw [a.2.2.2]
        rcases hR with ⟨z, _⟩ | ⟨z, _⟩
        · exact Or.inl z
        · exact Or.inr z
      refine ⟨lev - 1, by omega, c_M_must (by omega) (xm_c_t a t) G (by rw [a.2.2.1]; exact hp') di.2 w01 (fun f8 e4 hN h2 a2 => ?_) (fun e4 h2 a2 => ?_)⟩
      · rw [a.2.2.1] at e4 hN a2
        rw [a.2.2.2] at f8
        refine And.intro (by omega) ?_
        rcases hR with ⟨_, hR⟩ | ⟨z, _⟩
        · rw [xp_lit_t e4] at hR
          exact ih (i + 1) _ (p' + 1) 0 _ (by omega) (by omega) (xm_c_tr a a2) (by omega) (Or.inl ⟨rfl, hR⟩)
        · exact absurd z (by omega)
      · rw [a.2.2.1, a.2.2.2] at e4
        rw [a.2.2.1] at a2
        refine And.intro (by omega) ?_
        refine ih (i + 1) _ p' 1 _ (by omega) (by omega) (xm_c_tr a a2) hp' (Or.inr ⟨rfl, ?_⟩)
        rcases hR with ⟨z, hR⟩ | ⟨_, hR⟩
        · rw [xp_lit_f (e4.resolve_left (by omega))] at hR
          exact hR.symm
        · exact hR
  refine xq_go hK [2] 60 ?_
  exact loop 5 0 _ p 0 h (by omega) rfl ⟨xs_rf, fun _ _ _ => rfl, e6, e8⟩ hp (Or.inl ⟨rfl, rfl⟩)
theorem c_R_readName_3 {lev : Nat} {h : xq_H} {Q : Option xq_V → xq_H → Prop} {g : Int → Int} {N p : Int} (hl : 6 ≤ lev) (t : xp_tc h g N) (G : xp_g g N) (e3 : h 54 3 = p) (hp : 0 ≤ p ∧ p ≤ N)
    (h1 : (xp_lit g N [102, 114, 101, 101, 32] p).2 = true → ∀ h', xp_cO h h' (xp_lit g N [102, 114, 101, 101, 32] p).1 [] → Q (some (xI 1)) h')
    (h0 : (xp_lit g N [102, 114, 101, 101, 32] p).2 = false → ∀ h', xp_cO h h' (xp_lit g N [102, 114, 101, 101, 32] p).1 [] → Q (some (xI 0)) h') : xq_met lev y_R_readName [xR 54, xR 1103] 81 h Q := by
  refine en_R_readName (by omega) (fun K hK => ?_)
  have dr : ∀ i : Nat, i < 4 → ([102, 114, 101, 101, 32] : List Int).drop i = (xq_str 3).getD i 0 :: ([102, 114, 101, 101, 32] : List Int).drop (i + 1) ∧ 0 ≤ (xq_str 3).getD i 0 := by decide
  have loop : ∀ (d i : Nat) (iI p' : Int) (h' : xq_H), i + d = 4 → iI = i → xp_cO h h' p' [] → (0 ≤ p' ∧ p' ≤ N) → xp_lit g N (([102, 114, 101, 101, 32] : List Int).drop i) p' = xp_lit g N [102, 114, 101, 101, 32] p → K 2 [some (xR 54), some (xR 1103), some (xI iI)] [] 81 h' := by
    intro d
    induction d with
    | zero =>
      intro i iI p' h' hd ei O hp' hR
      obtain rfl : i = 4 := by omega
      rw [show ([102, 114, 101, 101, 32] : List Int).drop 4 = [32] from rfl] at hR
      refine xq_go hK [2] 60 ?_
      refine ⟨lev - 1, by omega, c_JS_length_3 (by omega) ?_⟩
      refine And.intro (fun _ => ?_) (fun z => absurd z (by omega))
      refine ⟨lev - 1, by omega, c_R_readSign (by omega) (xp_cs_tc O.1 t) G (by rw [O.2.1]; exact hp') (by omega) (fun e4 _ => ?_) (fun e4 => ?_)⟩
      · rw [O.2.1] at e4
        rw [xp_lit_t e4] at hR
        rw [← hR] at h1
        have O2 := xp_cO_tr O (xp_cO_st (h := h') (q := h' 54 3 + 1))
        rw [O.2.1] at O2 ⊢
        exact And.intro (Or.inr rfl) (h1 rfl _ O2)
      · rw [O.2.1] at e4
        rw [xp_lit_f e4] at hR
        rw [← hR] at h0
        exact And.intro (Or.inl rfl) (h0 rfl _ O)
    | succ d ih =>
      intro i iI p' h' hd ei O hp' hR
      subst ei
      have di := dr i (by omega)
      rw [di.1] at hR
      refine xq_go hK [2] 60 ?_
      refine ⟨lev - 1, by omega, c_JS_length_3 (by omega) ?_⟩
      refine And.intro (fun z => absurd z (by omega)) (fun _ => ?_)
      refine ⟨lev - 1, by omega, c_JS_charAt_3 (by omega) (by omega) ?_⟩
      rw [show ((i : Nat) : Int).toNat = i by omega]
      refine ⟨lev - 1, by omega, c_R_readSign (by omega) (xp_cs_tc O.1 t) G (by rw [O.2.1]; exact hp') di.2 (fun e4 hN => ?_) (fun e4 => ?_)⟩
      · rw [O.2.1] at e4 hN
        rw [xp_lit_t e4] at hR
        have O2 := xp_cO_tr O (xp_cO_st (h := h') (q := h' 54 3 + 1))
        rw [O.2.1] at O2 ⊢
        refine And.intro (fun _ => ?_) (fun z => absurd z (by decide))
        refine And.intro (by omega) ?_
        exact ih (i + 1) _ (p' + 1) _ (by omega) (by omega) O2 (by omega) hR
      · rw [O.2.1] at e4
        rw [xp_lit_f e4] at hR
        rw [← hR] at h0
        refine And.intro (fun z => absurd rfl z) (fun _ => ?_)
        exact And.intro (Or.inl rfl) (h0 rfl _ O)
  refine xq_go hK [2] 60 ?_
  exact loop 4 0 _ p h (by omega) rfl (xp_cO_0 e3) hp rfl
theorem c_M_spells_3 {lev : Nat} {h : xq_H} {Q : Option xq_V → xq_H → Prop} {g : Int → Int} {N p : Int} (hl : 6 ≤ lev) (t : xp_tr h g N) (G : xp_g g N) (e6 : h 64 6 = p) (e8 : h 64 8 = 0) (hp : 0 ≤ p ∧ p ≤ N)
    (hQ : ∀ h', xm_c h h' (xp_lit g N [102, 114, 101, 101, 32] p).1 (if (xp_lit g N [102, 114, 101, 101, 32] p).2 = true then 0 else 1) → Q none h') : xq_met lev y_M_spells [xR 64, xR 1107] 81 h Q := by
  refine en_M_spells (by omega) (fun K hK => ?_)
  have dr : ∀ i : Nat, i < 5 → ([102, 114, 101, 101, 32] : List Int).drop i = (xq_str 7).getD i 0 :: ([102, 114, 101, 101, 32] : List Int).drop (i + 1) ∧ 0 ≤ (xq_str 7).getD i 0 := by decide
  have loop : ∀ (d i : Nat) (iI p' w : Int) (h' : xq_H), i + d = 5 → iI = i → xm_c h h' p' w → (0 ≤ p' ∧ p' ≤ N) → (w = 0 ∧ xp_lit g N (([102, 114, 101, 101, 32] : List Int).drop i) p' = xp_lit g N [102, 114, 101, 101, 32] p ∨ w = 1 ∧ xp_lit g N [102, 114, 101, 101, 32] p = (p', false)) → K 2 [some (xR 64), some (xR 1107), some (xI iI)] [] 81 h' := by
    intro d
    induction d with
    | zero =>
      intro i iI p' w h' hd ei a hp' hR
      obtain rfl : i = 5 := by omega
      refine xq_go hK [2] 60 ?_
      refine ⟨lev - 1, by omega, c_JS_length_7 (by omega) ?_⟩
      refine And.intro (fun _ => ?_) (fun z => absurd z (by omega))
      rcases hR with ⟨rfl, hR⟩ | ⟨rfl, hR⟩
      · have e : xp_lit g N [102, 114, 101, 101, 32] p = (p', true) := hR.symm
        rw [e] at hQ
        exact hQ h' a
      · rw [hR] at hQ
        exact hQ h' a
    | succ d ih =>
      intro i iI p' w h' hd ei a hp' hR
      subst ei
      have di := dr i (by omega)
      rw [di.1] at hR
      refine xq_go hK [2] 60 ?_
      refine ⟨lev - 1, by omega, c_JS_length_7 (by omega) ?_⟩
      refine And.intro (fun z => absurd z (by omega)) (fun _ => ?_)
      refine ⟨lev - 1, by omega, c_JS_charAt_7 (by omega) (by omega) ?_⟩
      rw [show ((i : Nat) : Int).toNat = i by omega]
      have w01 : h' 64 8 = 0 ∨ h' 64 8 = 1 := by
        rw [a.2.2.2]
        rcases hR with ⟨z, _⟩ | ⟨z, _⟩
        · exact Or.inl z
        · exact Or.inr z
      refine ⟨lev - 1, by omega, c_M_must (by omega) (xm_c_t a t) G (by rw [a.2.2.1]; exact hp') di.2 w01 (fun f8 e4 hN h2 a2 => ?_) (fun e4 h2 a2 => ?_)⟩
      · rw [a.2.2.1] at e4 hN a2
        rw [a.2.2.2] at f8
        refine And.intro (by omega) ?_
        rcases hR with ⟨_, hR⟩ | ⟨z, _⟩
        · rw [xp_lit_t e4] at hR
          exact ih (i + 1) _ (p' + 1) 0 _ (by omega) (by omega) (xm_c_tr a a2) (by omega) (Or.inl ⟨rfl, hR⟩)
        · exact absurd z (by omega)
      · rw [a.2.2.1, a.2.2.2] at e4
        rw [a.2.2.1] at a2
        refine And.intro (by omega) ?_
        refine ih (i + 1) _ p' 1 _ (by omega) (by omega) (xm_c_tr a a2) hp' (Or.inr ⟨rfl, ?_⟩)
        rcases hR with ⟨z, hR⟩ | ⟨_, hR⟩
        · rw [xp_lit_f (e4.resolve_left (by omega))] at hR
          exact hR.symm
        · exact hR
  refine xq_go hK [2] 60 ?_
  exact loop 5 0 _ p 0 h (by omega) rfl ⟨xs_rf, fun _ _ _ => rfl, e6, e8⟩ hp (Or.inl ⟨rfl, rfl⟩)
