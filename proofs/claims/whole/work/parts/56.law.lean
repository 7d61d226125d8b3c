/-! THE LAW'S CASES, ONE LEMMA EACH (by wip/whole/genlaw.py) -/
theorem xq_lc_rf (a : Int) : xq_lc a a = 0 := by
  unfold xq_lc
  rw [if_neg (Int.lt_irrefl a), if_pos rfl]
theorem sp_trace_eq {r i : Int} {f g : Int → Int} (e : ∀ i : Int, 0 ≤ i → i < 20 → i < r → f i = g i) : sp_trace r f i = sp_trace r g i := by
  unfold sp_trace
  split
  · exact e i (by omega) (by omega) (by omega)
  · rfl
theorem xr_in_mut2 {h h1 h2 : xq_H} {P P' Pk : List xf_Cl} {T T' : Int} (I : xr_in h P Pk T) (hT : T ≤ T') (a : xr_cm h h1) (O : xr_ok h1 (h2 65) P' T') (b : xs_eq [64, 65] h1 h2) (e4' : h2 64 4 = h1 64 4) (e27' : h2 64 27 = h1 64 27) : xr_in h2 P' Pk T' := by
  have e4 : h2 64 4 = h 64 4 := e4'.trans (by rw [a 64 (by decide)])
  have e27 : h2 64 27 = h 64 27 := e27'.trans (by rw [a 64 (by decide)])
  have e66 : h2 66 = h 66 := (b 66 (by decide)).trans (a 66 (by decide))
  refine ⟨⟨xr_now_fr b (by decide) O.now, O.vm, O.vn, O.ph, O.ty⟩, ?_, ?_, ?_, ?_, ?_, ?_⟩
  · rw [e4, b 0 (by decide), a 0 (by decide)]; exact I.ki
  · rw [e4]; exact I.kb
  · intro z
    rw [e4] at z
    rw [e66]
    have Kk := xr_ok_T (I.kn z) hT
    refine ⟨xr_now_fr (X := [0, 1, 26, 27, 28, 29, 30, 31, 34, 35, 36, 37, 39, 40, 41, 42, 43, 44, 45, 46, 47, 48, 49, 50]) (h := xr_sh h) (fun o ho => ?_) (by decide) Kk.now, Kk.vm, Kk.vn, Kk.ph, Kk.ty⟩
    simp only [List.mem_cons, List.not_mem_nil, or_false] at ho
    refine (b (o + 28) (fun z => ?_)).trans (a (o + 28) (fun z => ?_))
    · simp only [List.mem_cons, List.not_mem_nil, or_false] at z
      omega
    · simp only [List.mem_cons, List.not_mem_nil, or_false] at z
      omega
  · rw [e27, b 60 (by decide), a 60 (by decide)]; exact I.ra
  · rw [e27]; exact I.rb
  · rw [e27, b 61 (by decide), a 61 (by decide), b 79 (by decide), a 79 (by decide)]; exact I.tr
theorem lc_feed {lev : Nat} {Q : Option xq_V → xq_H → Prop} {K : xq_KT} {h : xq_H} {P Pk : List xf_Cl} {T i : Int} (hK : xq_sound (xq_C lev) rw_L_law 81 Q K) (hl : 70 ≤ lev) (I : xr_in h P Pk T) (hT : T ≤ i) (hi : 0 ≤ i) (hi5 : i + 5 ≤ h 999 (-1)) (hL : h 999 (-1) ≤ 2560) (hs : ∀ j, -2147483648 ≤ h 999 j ∧ h 999 j ≤ 2147483647) (D : ∀ h' P' Pk' T', xr_in h' P' Pk' T' → T' ≤ i + 5 → h' 999 = h 999 → K 10 [some (xR 999), some (xR 0), some (xR 64), some (xI (i + 5))] [] 81 h') : K 22 [some (xR 999), some (xR 0), some (xR 64), some (xI i)] [] 81 h := by
  have e9L : ∀ h1 : xq_H, h1 999 = h 999 → h1 999 (-1) = h 999 (-1) := fun h1 z => by rw [z]
  refine xq_go hK [10] 100 ?_
  refine And.intro (by omega) ?_
  refine And.intro (by omega) ?_
  refine ⟨lev - 1, by omega, q_X_feed (by omega) I.ok (fun h1 e1 O => ?_)⟩
  have e65 : h1 65 = h 65 := e1 65 (by decide)
  have e9 : h1 999 = h 999 := e1 999 (by decide)
  have e9l := e9L h1 e9
  refine And.intro (by omega) ?_
  refine And.intro (by omega) ?_
  refine ⟨lev - 1, by omega, q_M_feed (by omega) (by rw [e65]; exact I.ok.vm) (by rw [e65]; exact I.ok.vn) (fun h2 e2 e3 => ?_)⟩
  rw [e65, e9] at e3
  have e92 : h2 999 = h1 999 := e2.1 999 (by decide)
  have I2 := xr_in_mut (P' := P) (T' := T) I (by omega) e1 (by rw [e3]; exact O) e2
  refine And.intro (fun _ => ?_) (fun c => absurd ?_ c)
  · refine And.intro (by omega) ?_
    exact D h2 _ _ _ I2 (by omega) (e92.trans e9)
  · rw [e9, e65]

theorem lc_telephone {lev : Nat} {Q : Option xq_V → xq_H → Prop} {K : xq_KT} {h : xq_H} {P Pk : List xf_Cl} {T i : Int} (hK : xq_sound (xq_C lev) rw_L_law 81 Q K) (hl : 70 ≤ lev) (I : xr_in h P Pk T) (hT : T ≤ i) (hi : 0 ≤ i) (hi5 : i + 5 ≤ h 999 (-1)) (hL : h 999 (-1) ≤ 2560) (hs : ∀ j, -2147483648 ≤ h 999 j ∧ h 999 j ≤ 2147483647) (D : ∀ h' P' Pk' T', xr_in h' P' Pk' T' → T' ≤ i + 5 → h' 999 = h 999 → K 10 [some (xR 999), some (xR 0), some (xR 64), some (xI (i + 5))] [] 81 h') : K 39 [some (xR 999), some (xR 0), some (xR 64), some (xI i)] [] 81 h := by
  have e9L : ∀ h1 : xq_H, h1 999 = h 999 → h1 999 (-1) = h 999 (-1) := fun h1 z => by rw [z]
  have G : xp_g (fun i => h 65 (134 + i)) (h 65 15) := ⟨I.ok.vn.ta, I.ok.vn.tp⟩
  obtain ⟨q, o, S⟩ := xp_tele G
  refine xq_go hK [10] 100 ?_
  refine ⟨lev - 1, by omega, q_X_telephone (by omega) I.ok S (fun c => ?_) (fun c co h1 e1 O => ?_) (fun c A co h1 e1 O => ?_)⟩
  · refine ⟨lev - 1, by omega, q_M_telephone (by omega) I.ok.vn S (fun c => ?_) (fun c => absurd c (by omega)) (fun c => absurd c (by omega))⟩
    refine And.intro (fun _ => ?_) (fun c => absurd rfl c)
    refine And.intro (by omega) ?_
    exact D h _ _ _ I (by omega) rfl
  · have e65 : h1 65 = h 65 := e1 65 (by decide)
    have e9 : h1 999 = h 999 := e1 999 (by decide)
    refine ⟨lev - 1, by omega, q_M_telephone (q := q) (o := o) (by omega) (by rw [e65]; exact I.ok.vn) (by rw [e65]; exact S) (fun c' => absurd c' (by rw [e65]; omega)) (fun c' co' h2 e2 e4 e27 x x12 x17 => ?_) (fun c' A co' => by rw [co] at co'; cases co')⟩
    rw [e65] at x x12 x17
    have e92 : h2 999 = h1 999 := e2 999 (by decide)
    have I2 := xr_in_mut2 I (Int.le_refl _) e1 (O (h2 65) x x12 x17) e2 e4 e27
    refine And.intro (fun _ => ?_) (fun c => absurd rfl c)
    refine And.intro (by omega) ?_
    exact D h2 _ _ _ I2 (by omega) (e92.trans e9)
  · have e65 : h1 65 = h 65 := e1 65 (by decide)
    have e9 : h1 999 = h 999 := e1 999 (by decide)
    refine ⟨lev - 1, by omega, q_M_telephone (q := q) (o := o) (by omega) (by rw [e65]; exact I.ok.vn) (by rw [e65]; exact S) (fun c' => absurd c' (by rw [e65]; omega)) (fun c' co' => by rw [co] at co'; cases co') (fun c' A' co' h2 e2 e4 e27 x x12 x17 r => ?_)⟩
    rw [e65] at x x12 x17 r
    have eA : A = A' := by rw [co] at co'; cases co'; rfl
    have e92 : h2 999 = h1 999 := e2 999 (by decide)
    have I2 := xr_in_mut2 I (Int.le_refl _) e1 (O (h2 65) x x12 x17 (by rw [eA]; exact r)) e2 e4 e27
    refine And.intro (fun _ => ?_) (fun c => absurd (by rw [e65]) c)
    refine And.intro (by omega) ?_
    exact D h2 _ _ _ I2 (by omega) (e92.trans e9)

theorem lc_word {lev : Nat} {Q : Option xq_V → xq_H → Prop} {K : xq_KT} {h : xq_H} {P Pk : List xf_Cl} {T i : Int} (hK : xq_sound (xq_C lev) rw_L_law 81 Q K) (hl : 70 ≤ lev) (I : xr_in h P Pk T) (hT : T ≤ i) (hi : 0 ≤ i) (hi5 : i + 5 ≤ h 999 (-1)) (hL : h 999 (-1) ≤ 2560) (hs : ∀ j, -2147483648 ≤ h 999 j ∧ h 999 j ≤ 2147483647) (D : ∀ h' P' Pk' T', xr_in h' P' Pk' T' → T' ≤ i + 5 → h' 999 = h 999 → K 10 [some (xR 999), some (xR 0), some (xR 64), some (xI (i + 5))] [] 81 h') : K 46 [some (xR 999), some (xR 0), some (xR 64), some (xI i)] [] 81 h := by
  have e9L : ∀ h1 : xq_H, h1 999 = h 999 → h1 999 (-1) = h 999 (-1) := fun h1 z => by rw [z]
  refine xq_go hK [10] 100 ?_
  refine And.intro (by omega) ?_
  refine And.intro (by omega) ?_
  refine And.intro (by omega) ?_
  refine And.intro (by omega) ?_
  refine ⟨lev - 1, by omega, q_X_word (by omega) I.ok (fun h1 e1 O => ?_)⟩
  have e65 : h1 65 = h 65 := e1 65 (by decide)
  have e9 : h1 999 = h 999 := e1 999 (by decide)
  have e9l := e9L h1 e9
  refine And.intro (by omega) ?_
  refine And.intro (by omega) ?_
  refine And.intro (by omega) ?_
  refine And.intro (by omega) ?_
  refine ⟨lev - 1, by omega, q_M_word (by omega) (by rw [e65]; exact I.ok.vm) (by rw [e65]; exact I.ok.vn) (fun h2 e2 e3 => ?_)⟩
  rw [e65, e9] at e3
  have e92 : h2 999 = h1 999 := e2.1 999 (by decide)
  have I2 := xr_in_mut (P' := P) (T' := T) I (by omega) e1 (by rw [e3]; exact O) e2
  refine And.intro (fun _ => ?_) (fun c => absurd ?_ c)
  · refine And.intro (by omega) ?_
    exact D h2 _ _ _ I2 (by omega) (e92.trans e9)
  · rw [e9, e65]

theorem lc_listed {lev : Nat} {Q : Option xq_V → xq_H → Prop} {K : xq_KT} {h : xq_H} {P Pk : List xf_Cl} {T i : Int} (hK : xq_sound (xq_C lev) rw_L_law 81 Q K) (hl : 70 ≤ lev) (I : xr_in h P Pk T) (hT : T ≤ i) (hi : 0 ≤ i) (hi5 : i + 5 ≤ h 999 (-1)) (hL : h 999 (-1) ≤ 2560) (hs : ∀ j, -2147483648 ≤ h 999 j ∧ h 999 j ≤ 2147483647) (D : ∀ h' P' Pk' T', xr_in h' P' Pk' T' → T' ≤ i + 5 → h' 999 = h 999 → K 10 [some (xR 999), some (xR 0), some (xR 64), some (xI (i + 5))] [] 81 h') : K 73 [some (xR 999), some (xR 0), some (xR 64), some (xI i)] [] 81 h := by
  have e9L : ∀ h1 : xq_H, h1 999 = h 999 → h1 999 (-1) = h 999 (-1) := fun h1 z => by rw [z]
  refine xq_go hK [10] 100 ?_
  refine And.intro (by omega) ?_
  refine And.intro (by omega) ?_
  refine And.intro (by omega) ?_
  refine And.intro (by omega) ?_
  refine ⟨lev - 1, by omega, q_X_listed (by omega) I.ok (fun h1 e1 => ?_)⟩
  have e65 : h1 65 = h 65 := e1 65 (by decide)
  have e9 : h1 999 = h 999 := e1 999 (by decide)
  have e9l := e9L h1 e9
  have I1 := xr_in_ck e1 I
  refine And.intro (by omega) ?_
  refine And.intro (by omega) ?_
  refine And.intro (by omega) ?_
  refine And.intro (by omega) ?_
  refine ⟨lev - 1, by omega, q_M_listed (by omega) (by rw [e65]; exact I.ok.vm) (fun h2 e2 => ?_)⟩
  have e92 : h2 999 = h1 999 := e2.1 999 (by decide)
  have I2 := xr_in_rk e2 I1
  refine And.intro (fun _ => ?_) (fun c => absurd ?_ c)
  · refine And.intro (by omega) ?_
    exact D h2 _ _ _ I2 (by omega) (e92.trans e9)
  · rw [e9, e65]

theorem lc_weigh {lev : Nat} {Q : Option xq_V → xq_H → Prop} {K : xq_KT} {h : xq_H} {P Pk : List xf_Cl} {T i : Int} (hK : xq_sound (xq_C lev) rw_L_law 81 Q K) (hl : 70 ≤ lev) (I : xr_in h P Pk T) (hT : T ≤ i) (hi : 0 ≤ i) (hi5 : i + 5 ≤ h 999 (-1)) (hL : h 999 (-1) ≤ 2560) (hs : ∀ j, -2147483648 ≤ h 999 j ∧ h 999 j ≤ 2147483647) (D : ∀ h' P' Pk' T', xr_in h' P' Pk' T' → T' ≤ i + 5 → h' 999 = h 999 → K 10 [some (xR 999), some (xR 0), some (xR 64), some (xI (i + 5))] [] 81 h') : K 100 [some (xR 999), some (xR 0), some (xR 64), some (xI i)] [] 81 h := by
  have e9L : ∀ h1 : xq_H, h1 999 = h 999 → h1 999 (-1) = h 999 (-1) := fun h1 z => by rw [z]
  refine xq_go hK [10] 100 ?_
  refine And.intro (by omega) ?_
  refine And.intro (by omega) ?_
  refine And.intro (by omega) ?_
  refine And.intro (by omega) ?_
  refine ⟨lev - 1, by omega, q_X_weigh (by omega) I.ok (fun h1 e1 O => ?_)⟩
  have e65 : h1 65 = h 65 := e1 65 (by decide)
  have e9 : h1 999 = h 999 := e1 999 (by decide)
  have e9l := e9L h1 e9
  refine And.intro (by omega) ?_
  refine And.intro (by omega) ?_
  refine And.intro (by omega) ?_
  refine And.intro (by omega) ?_
  refine ⟨lev - 1, by omega, q_M_weigh (by omega) (by rw [e65]; exact I.ok.vm) (by rw [e65]; exact I.ok.vn) (fun h2 e2 e3 => ?_)⟩
  rw [e65, e9] at e3
  have e92 : h2 999 = h1 999 := e2.1 999 (by decide)
  have I2 := xr_in_mut (P' := P) (T' := T) I (by omega) e1 (by rw [e3]; exact O) e2
  refine And.intro (fun _ => ?_) (fun c => absurd ?_ c)
  · refine And.intro (by omega) ?_
    exact D h2 _ _ _ I2 (by omega) (e92.trans e9)
  · rw [e9, e65]

theorem lc_behind {lev : Nat} {Q : Option xq_V → xq_H → Prop} {K : xq_KT} {h : xq_H} {P Pk : List xf_Cl} {T i : Int} (hK : xq_sound (xq_C lev) rw_L_law 81 Q K) (hl : 70 ≤ lev) (I : xr_in h P Pk T) (hT : T ≤ i) (hi : 0 ≤ i) (hi5 : i + 5 ≤ h 999 (-1)) (hL : h 999 (-1) ≤ 2560) (hs : ∀ j, -2147483648 ≤ h 999 j ∧ h 999 j ≤ 2147483647) (D : ∀ h' P' Pk' T', xr_in h' P' Pk' T' → T' ≤ i + 5 → h' 999 = h 999 → K 10 [some (xR 999), some (xR 0), some (xR 64), some (xI (i + 5))] [] 81 h') : K 127 [some (xR 999), some (xR 0), some (xR 64), some (xI i)] [] 81 h := by
  have e9L : ∀ h1 : xq_H, h1 999 = h 999 → h1 999 (-1) = h 999 (-1) := fun h1 z => by rw [z]
  refine xq_go hK [10] 100 ?_
  refine And.intro (by omega) ?_
  refine And.intro (by omega) ?_
  refine And.intro (by omega) ?_
  refine And.intro (by omega) ?_
  refine And.intro (by omega) ?_
  refine And.intro (by omega) ?_
  refine And.intro (fun c => ?_) (fun c => ?_)
  · refine ⟨lev - 1, by omega, q_X_behind (by omega) I.ok (fun h1 e1 O => ?_)⟩
    have e65 : h1 65 = h 65 := e1 65 (by decide)
    have e9 : h1 999 = h 999 := e1 999 (by decide)
    have e9l := e9L h1 e9
    refine And.intro (by omega) ?_
    refine And.intro (by omega) ?_
    refine And.intro (by omega) ?_
    refine And.intro (by omega) ?_
    refine And.intro (by omega) ?_
    refine And.intro (by omega) ?_
    refine And.intro (fun c' => ?_) (fun c' => ?_)
    · refine ⟨lev - 1, by omega, q_M_behind (by omega) (by rw [e65]; exact I.ok.vm) (by rw [e65]; exact I.ok.vn) (fun h2 e2 e3 => ?_)⟩
      rw [e65, e9] at e3
      have e92 : h2 999 = h1 999 := e2.1 999 (by decide)
      have I2 := xr_in_mut (P' := P) (T' := T) I (by omega) e1 (by rw [e3]; exact O) e2
      refine And.intro (fun _ => ?_) (fun c => absurd ?_ c)
      · refine And.intro (by omega) ?_
        exact D h2 _ _ _ I2 (by omega) (e92.trans e9)
      · rw [e9, e65]
    · exact absurd (by rw [e9]; exact c) c'
  · refine ⟨lev - 1, by omega, q_X_behind (by omega) I.ok (fun h1 e1 O => ?_)⟩
    have e65 : h1 65 = h 65 := e1 65 (by decide)
    have e9 : h1 999 = h 999 := e1 999 (by decide)
    have e9l := e9L h1 e9
    refine And.intro (by omega) ?_
    refine And.intro (by omega) ?_
    refine And.intro (by omega) ?_
    refine And.intro (by omega) ?_
    refine And.intro (by omega) ?_
    refine And.intro (by omega) ?_
    refine And.intro (fun c' => ?_) (fun c' => ?_)
    · exact absurd (by rw [← e9]; exact c') c
    · refine ⟨lev - 1, by omega, q_M_behind (by omega) (by rw [e65]; exact I.ok.vm) (by rw [e65]; exact I.ok.vn) (fun h2 e2 e3 => ?_)⟩
      rw [e65, e9] at e3
      have e92 : h2 999 = h1 999 := e2.1 999 (by decide)
      have I2 := xr_in_mut (P' := P) (T' := T) I (by omega) e1 (by rw [e3]; exact O) e2
      refine And.intro (fun _ => ?_) (fun c => absurd ?_ c)
      · refine And.intro (by omega) ?_
        exact D h2 _ _ _ I2 (by omega) (e92.trans e9)
      · rw [e9, e65]

theorem lc_mender {lev : Nat} {Q : Option xq_V → xq_H → Prop} {K : xq_KT} {h : xq_H} {P Pk : List xf_Cl} {T i : Int} (hK : xq_sound (xq_C lev) rw_L_law 81 Q K) (hl : 70 ≤ lev) (I : xr_in h P Pk T) (hT : T ≤ i) (hi : 0 ≤ i) (hi5 : i + 5 ≤ h 999 (-1)) (hL : h 999 (-1) ≤ 2560) (hs : ∀ j, -2147483648 ≤ h 999 j ∧ h 999 j ≤ 2147483647) (D : ∀ h' P' Pk' T', xr_in h' P' Pk' T' → T' ≤ i + 5 → h' 999 = h 999 → K 10 [some (xR 999), some (xR 0), some (xR 64), some (xI (i + 5))] [] 81 h') : K 172 [some (xR 999), some (xR 0), some (xR 64), some (xI i)] [] 81 h := by
  have e9L : ∀ h1 : xq_H, h1 999 = h 999 → h1 999 (-1) = h 999 (-1) := fun h1 z => by rw [z]
  refine xq_go hK [10] 100 ?_
  refine And.intro (by omega) ?_
  refine And.intro (by omega) ?_
  refine And.intro (by omega) ?_
  refine And.intro (by omega) ?_
  refine ⟨lev - 1, by omega, q_X_mender (by omega) I.ok (fun h1 e1 O => ?_)⟩
  have e65 : h1 65 = h 65 := e1 65 (by decide)
  have e9 : h1 999 = h 999 := e1 999 (by decide)
  have e9l := e9L h1 e9
  refine And.intro (by omega) ?_
  refine And.intro (by omega) ?_
  refine And.intro (by omega) ?_
  refine And.intro (by omega) ?_
  refine ⟨lev - 1, by omega, q_M_mender (by omega) (by rw [e65]; exact I.ok.vm) (by rw [e65]; exact I.ok.vn) (fun h2 e2 e3 => ?_)⟩
  rw [e65, e9] at e3
  have e92 : h2 999 = h1 999 := e2.1 999 (by decide)
  have I2 := xr_in_mut (P' := P) (T' := T) I (by omega) e1 (by rw [e3]; exact O) e2
  refine And.intro (fun _ => ?_) (fun c => absurd ?_ c)
  · refine And.intro (by omega) ?_
    exact D h2 _ _ _ I2 (by omega) (e92.trans e9)
  · rw [e9, e65]

theorem lc_of {lev : Nat} {Q : Option xq_V → xq_H → Prop} {K : xq_KT} {h : xq_H} {P Pk : List xf_Cl} {T i : Int} (hK : xq_sound (xq_C lev) rw_L_law 81 Q K) (hl : 70 ≤ lev) (I : xr_in h P Pk T) (hT : T ≤ i) (hi : 0 ≤ i) (hi5 : i + 5 ≤ h 999 (-1)) (hL : h 999 (-1) ≤ 2560) (hs : ∀ j, -2147483648 ≤ h 999 j ∧ h 999 j ≤ 2147483647) (D : ∀ h' P' Pk' T', xr_in h' P' Pk' T' → T' ≤ i + 5 → h' 999 = h 999 → K 10 [some (xR 999), some (xR 0), some (xR 64), some (xI (i + 5))] [] 81 h') : K 199 [some (xR 999), some (xR 0), some (xR 64), some (xI i)] [] 81 h := by
  have e9L : ∀ h1 : xq_H, h1 999 = h 999 → h1 999 (-1) = h 999 (-1) := fun h1 z => by rw [z]
  refine xq_go hK [10] 100 ?_
  refine And.intro (by omega) ?_
  refine And.intro (by omega) ?_
  refine And.intro (by omega) ?_
  refine And.intro (by omega) ?_
  refine ⟨lev - 1, by omega, q_X_of (by omega) I.ok (fun h1 e1 => ?_)⟩
  have e65 : h1 65 = h 65 := e1 65 (by decide)
  have e9 : h1 999 = h 999 := e1 999 (by decide)
  have e9l := e9L h1 e9
  have I1 := xr_in_ck e1 I
  refine And.intro (by omega) ?_
  refine And.intro (by omega) ?_
  refine And.intro (by omega) ?_
  refine And.intro (by omega) ?_
  refine ⟨lev - 1, by omega, q_M_of (by omega) (by rw [e65]; exact I.ok.vm) (fun h2 e2 => ?_)⟩
  have e92 : h2 999 = h1 999 := e2.1 999 (by decide)
  have I2 := xr_in_rk e2 I1
  refine And.intro (fun _ => ?_) (fun c => absurd ?_ c)
  · refine And.intro (by omega) ?_
    exact D h2 _ _ _ I2 (by omega) (e92.trans e9)
  · rw [e9, e65]

theorem lc_row {lev : Nat} {Q : Option xq_V → xq_H → Prop} {K : xq_KT} {h : xq_H} {P Pk : List xf_Cl} {T i : Int} (hK : xq_sound (xq_C lev) rw_L_law 81 Q K) (hl : 70 ≤ lev) (I : xr_in h P Pk T) (hT : T ≤ i) (hi : 0 ≤ i) (hi5 : i + 5 ≤ h 999 (-1)) (hL : h 999 (-1) ≤ 2560) (hs : ∀ j, -2147483648 ≤ h 999 j ∧ h 999 j ≤ 2147483647) (D : ∀ h' P' Pk' T', xr_in h' P' Pk' T' → T' ≤ i + 5 → h' 999 = h 999 → K 10 [some (xR 999), some (xR 0), some (xR 64), some (xI (i + 5))] [] 81 h') : K 226 [some (xR 999), some (xR 0), some (xR 64), some (xI i)] [] 81 h := by
  have e9L : ∀ h1 : xq_H, h1 999 = h 999 → h1 999 (-1) = h 999 (-1) := fun h1 z => by rw [z]
  refine xq_go hK [10] 100 ?_
  refine And.intro (by omega) ?_
  refine And.intro (by omega) ?_
  refine And.intro (by omega) ?_
  refine And.intro (by omega) ?_
  refine And.intro (by omega) ?_
  refine And.intro (by omega) ?_
  refine ⟨lev - 1, by omega, q_X_row (by omega) I.ok (fun h1 e1 O => ?_)⟩
  have e65 : h1 65 = h 65 := e1 65 (by decide)
  have e9 : h1 999 = h 999 := e1 999 (by decide)
  have e9l := e9L h1 e9
  refine And.intro (by omega) ?_
  refine And.intro (by omega) ?_
  refine And.intro (by omega) ?_
  refine And.intro (by omega) ?_
  refine And.intro (by omega) ?_
  refine And.intro (by omega) ?_
  refine ⟨lev - 1, by omega, q_M_row (by omega) (by rw [e65]; exact I.ok.vm) (by rw [e65]; exact I.ok.vn) (fun h2 e2 e3 => ?_)⟩
  rw [e65, e9] at e3
  have e92 : h2 999 = h1 999 := e2.1 999 (by decide)
  have I2 := xr_in_mut (P' := P) (T' := T) I (by omega) e1 (by rw [e3]; exact O) e2
  refine And.intro (fun _ => ?_) (fun c => absurd ?_ c)
  · refine And.intro (by omega) ?_
    exact D h2 _ _ _ I2 (by omega) (e92.trans e9)
  · rw [e9, e65]

theorem lc_type {lev : Nat} {Q : Option xq_V → xq_H → Prop} {K : xq_KT} {h : xq_H} {P Pk : List xf_Cl} {T i : Int} (hK : xq_sound (xq_C lev) rw_L_law 81 Q K) (hl : 70 ≤ lev) (I : xr_in h P Pk T) (hT : T ≤ i) (hi : 0 ≤ i) (hi5 : i + 5 ≤ h 999 (-1)) (hL : h 999 (-1) ≤ 2560) (hs : ∀ j, -2147483648 ≤ h 999 j ∧ h 999 j ≤ 2147483647) (D : ∀ h' P' Pk' T', xr_in h' P' Pk' T' → T' ≤ i + 5 → h' 999 = h 999 → K 10 [some (xR 999), some (xR 0), some (xR 64), some (xI (i + 5))] [] 81 h') : K 263 [some (xR 999), some (xR 0), some (xR 64), some (xI i)] [] 81 h := by
  have e9L : ∀ h1 : xq_H, h1 999 = h 999 → h1 999 (-1) = h 999 (-1) := fun h1 z => by rw [z]
  refine xq_go hK [10] 100 ?_
  refine And.intro (by omega) ?_
  refine And.intro (by omega) ?_
  refine And.intro (by omega) ?_
  refine And.intro (by omega) ?_
  refine ⟨lev - 1, by omega, q_X_type (by omega) I.ok (by omega) (fun h1 e1 O => ?_)⟩
  have e65 : h1 65 = h 65 := e1 65 (by decide)
  have e9 : h1 999 = h 999 := e1 999 (by decide)
  have e9l := e9L h1 e9
  refine And.intro (by omega) ?_
  refine And.intro (by omega) ?_
  refine And.intro (by omega) ?_
  refine And.intro (by omega) ?_
  refine ⟨lev - 1, by omega, q_M_type (by omega) (by rw [e65]; exact I.ok.vm) (by rw [e65]; exact I.ok.vn) (P := P) (by rw [e65]; exact I.ok.ph) (fun h2 e2 e3 => ?_)⟩
  rw [e65, e9] at e3
  have e92 : h2 999 = h1 999 := e2.1 999 (by decide)
  have I2 := xr_in_mut (P' := P) (T' := T + 1) I (by omega) e1 (by rw [e3]; exact O) e2
  refine And.intro (fun _ => ?_) (fun c => absurd ?_ c)
  · refine And.intro (by omega) ?_
    exact D h2 _ _ _ I2 (by omega) (e92.trans e9)
  · rw [e9, e65]

theorem lc_back {lev : Nat} {Q : Option xq_V → xq_H → Prop} {K : xq_KT} {h : xq_H} {P Pk : List xf_Cl} {T i : Int} (hK : xq_sound (xq_C lev) rw_L_law 81 Q K) (hl : 70 ≤ lev) (I : xr_in h P Pk T) (hT : T ≤ i) (hi : 0 ≤ i) (hi5 : i + 5 ≤ h 999 (-1)) (hL : h 999 (-1) ≤ 2560) (hs : ∀ j, -2147483648 ≤ h 999 j ∧ h 999 j ≤ 2147483647) (D : ∀ h' P' Pk' T', xr_in h' P' Pk' T' → T' ≤ i + 5 → h' 999 = h 999 → K 10 [some (xR 999), some (xR 0), some (xR 64), some (xI (i + 5))] [] 81 h') : K 290 [some (xR 999), some (xR 0), some (xR 64), some (xI i)] [] 81 h := by
  have e9L : ∀ h1 : xq_H, h1 999 = h 999 → h1 999 (-1) = h 999 (-1) := fun h1 z => by rw [z]
  refine xq_go hK [10] 100 ?_
  refine ⟨lev - 1, by omega, q_X_back (by omega) I.ok (fun h1 e1 O => ?_)⟩
  have e65 : h1 65 = h 65 := e1 65 (by decide)
  have e9 : h1 999 = h 999 := e1 999 (by decide)
  have e9l := e9L h1 e9
  refine ⟨lev - 1, by omega, q_M_back (by omega) (by rw [e65]; exact I.ok.vm) (by rw [e65]; exact I.ok.vn) (fun h2 e2 e3 => ?_)⟩
  rw [e65] at e3
  have e92 : h2 999 = h1 999 := e2.1 999 (by decide)
  have I2 := xr_in_mut (P' := P) (T' := T) I (by omega) e1 (by rw [e3]; exact O) e2
  refine And.intro (fun _ => ?_) (fun c => absurd ?_ c)
  · refine And.intro (by omega) ?_
    exact D h2 _ _ _ I2 (by omega) (e92.trans e9)
  · rw [e65]

theorem lc_send {lev : Nat} {Q : Option xq_V → xq_H → Prop} {K : xq_KT} {h : xq_H} {P Pk : List xf_Cl} {T i : Int} (hK : xq_sound (xq_C lev) rw_L_law 81 Q K) (hl : 70 ≤ lev) (I : xr_in h P Pk T) (hT : T ≤ i) (hi : 0 ≤ i) (hi5 : i + 5 ≤ h 999 (-1)) (hL : h 999 (-1) ≤ 2560) (hs : ∀ j, -2147483648 ≤ h 999 j ∧ h 999 j ≤ 2147483647) (D : ∀ h' P' Pk' T', xr_in h' P' Pk' T' → T' ≤ i + 5 → h' 999 = h 999 → K 10 [some (xR 999), some (xR 0), some (xR 64), some (xI (i + 5))] [] 81 h') : K 297 [some (xR 999), some (xR 0), some (xR 64), some (xI i)] [] 81 h := by
  have e9L : ∀ h1 : xq_H, h1 999 = h 999 → h1 999 (-1) = h 999 (-1) := fun h1 z => by rw [z]
  refine xq_go hK [10] 100 ?_
  refine ⟨lev - 1, by omega, q_X_send (by omega) I.ok (fun h1 e1 O => ?_)⟩
  have e65 : h1 65 = h 65 := e1 65 (by decide)
  have e9 : h1 999 = h 999 := e1 999 (by decide)
  have e9l := e9L h1 e9
  refine ⟨lev - 1, by omega, q_M_send (by omega) (by rw [e65]; exact I.ok.vm) (by rw [e65]; exact I.ok.vn) (fun h2 e2 e3 => ?_)⟩
  rw [e65] at e3
  have e92 : h2 999 = h1 999 := e2.1 999 (by decide)
  have I2 := xr_in_mut (P' := P) (T' := T) I (by omega) e1 (by rw [e3]; exact O) e2
  refine And.intro (fun _ => ?_) (fun c => absurd ?_ c)
  · refine And.intro (by omega) ?_
    exact D h2 _ _ _ I2 (by omega) (e92.trans e9)
  · rw [e65]

theorem lc_told {lev : Nat} {Q : Option xq_V → xq_H → Prop} {K : xq_KT} {h : xq_H} {P Pk : List xf_Cl} {T i : Int} (hK : xq_sound (xq_C lev) rw_L_law 81 Q K) (hl : 70 ≤ lev) (I : xr_in h P Pk T) (hT : T ≤ i) (hi : 0 ≤ i) (hi5 : i + 5 ≤ h 999 (-1)) (hL : h 999 (-1) ≤ 2560) (hs : ∀ j, -2147483648 ≤ h 999 j ∧ h 999 j ≤ 2147483647) (D : ∀ h' P' Pk' T', xr_in h' P' Pk' T' → T' ≤ i + 5 → h' 999 = h 999 → K 10 [some (xR 999), some (xR 0), some (xR 64), some (xI (i + 5))] [] 81 h') : K 304 [some (xR 999), some (xR 0), some (xR 64), some (xI i)] [] 81 h := by
  have e9L : ∀ h1 : xq_H, h1 999 = h 999 → h1 999 (-1) = h 999 (-1) := fun h1 z => by rw [z]
  refine xq_go hK [10] 100 ?_
  refine And.intro (by omega) ?_
  refine And.intro (by omega) ?_
  refine ⟨lev - 1, by omega, q_X_told (by omega) I.ok (hs _) (fun h1 e1 => ?_)⟩
  have e65 : h1 65 = h 65 := e1 65 (by decide)
  have e9 : h1 999 = h 999 := e1 999 (by decide)
  have e9l := e9L h1 e9
  have I1 := xr_in_ck e1 I
  refine And.intro (by omega) ?_
  refine And.intro (by omega) ?_
  refine ⟨lev - 1, by omega, q_M_told (by omega) (by rw [e65]; exact I.ok.vm) (by rw [e65]; exact I.ok.vn) (by rw [e9]; exact hs _) (fun h2 e2 => ?_)⟩
  have e92 : h2 999 = h1 999 := e2.1 999 (by decide)
  have I2 := xr_in_rk e2 I1
  refine And.intro (fun _ => ?_) (fun c => absurd ?_ c)
  · refine And.intro (by omega) ?_
    exact D h2 _ _ _ I2 (by omega) (e92.trans e9)
  · rw [e9, e65]

theorem lc_makes {lev : Nat} {Q : Option xq_V → xq_H → Prop} {K : xq_KT} {h : xq_H} {P Pk : List xf_Cl} {T i : Int} (hK : xq_sound (xq_C lev) rw_L_law 81 Q K) (hl : 70 ≤ lev) (I : xr_in h P Pk T) (hT : T ≤ i) (hi : 0 ≤ i) (hi5 : i + 5 ≤ h 999 (-1)) (hL : h 999 (-1) ≤ 2560) (hs : ∀ j, -2147483648 ≤ h 999 j ∧ h 999 j ≤ 2147483647) (D : ∀ h' P' Pk' T', xr_in h' P' Pk' T' → T' ≤ i + 5 → h' 999 = h 999 → K 10 [some (xR 999), some (xR 0), some (xR 64), some (xI (i + 5))] [] 81 h') : K 321 [some (xR 999), some (xR 0), some (xR 64), some (xI i)] [] 81 h := by
  have e9L : ∀ h1 : xq_H, h1 999 = h 999 → h1 999 (-1) = h 999 (-1) := fun h1 z => by rw [z]
  refine xq_go hK [10] 100 ?_
  refine And.intro (by omega) ?_
  refine And.intro (by omega) ?_
  refine And.intro (by omega) ?_
  refine And.intro (by omega) ?_
  refine ⟨lev - 1, by omega, q_X_makes (by omega) I.ok (fun h1 e1 => ?_)⟩
  have e65 : h1 65 = h 65 := e1 65 (by decide)
  have e9 : h1 999 = h 999 := e1 999 (by decide)
  have e9l := e9L h1 e9
  have I1 := xr_in_ck e1 I
  refine And.intro (by omega) ?_
  refine And.intro (by omega) ?_
  refine And.intro (by omega) ?_
  refine And.intro (by omega) ?_
  refine ⟨lev - 1, by omega, q_M_makes (by omega) (by rw [e65]; exact I.ok.vm) (P := P) (by rw [e65]; exact I.ok.ph) (fun h2 e2 => ?_)⟩
  have e92 : h2 999 = h1 999 := e2.1 999 (by decide)
  have I2 := xr_in_rk e2 I1
  refine And.intro (fun _ => ?_) (fun c => absurd ?_ c)
  · refine And.intro (by omega) ?_
    exact D h2 _ _ _ I2 (by omega) (e92.trans e9)
  · rw [e9, e65]

theorem lc_cost {lev : Nat} {Q : Option xq_V → xq_H → Prop} {K : xq_KT} {h : xq_H} {P Pk : List xf_Cl} {T i : Int} (hK : xq_sound (xq_C lev) rw_L_law 81 Q K) (hl : 70 ≤ lev) (I : xr_in h P Pk T) (hT : T ≤ i) (hi : 0 ≤ i) (hi5 : i + 5 ≤ h 999 (-1)) (hL : h 999 (-1) ≤ 2560) (hs : ∀ j, -2147483648 ≤ h 999 j ∧ h 999 j ≤ 2147483647) (D : ∀ h' P' Pk' T', xr_in h' P' Pk' T' → T' ≤ i + 5 → h' 999 = h 999 → K 10 [some (xR 999), some (xR 0), some (xR 64), some (xI (i + 5))] [] 81 h') : K 348 [some (xR 999), some (xR 0), some (xR 64), some (xI i)] [] 81 h := by
  have e9L : ∀ h1 : xq_H, h1 999 = h 999 → h1 999 (-1) = h 999 (-1) := fun h1 z => by rw [z]
  refine xq_go hK [10] 100 ?_
  refine And.intro (by omega) ?_
  refine And.intro (by omega) ?_
  refine And.intro (by omega) ?_
  refine And.intro (by omega) ?_
  refine And.intro (by omega) ?_
  refine And.intro (by omega) ?_
  refine And.intro (by omega) ?_
  refine And.intro (by omega) ?_
  refine ⟨lev - 1, by omega, q_X_cost (by omega) I.ok (fun h1 e1 => ?_)⟩
  have e65 : h1 65 = h 65 := e1 65 (by decide)
  have e9 : h1 999 = h 999 := e1 999 (by decide)
  have e9l := e9L h1 e9
  have I1 := xr_in_ck e1 I
  refine And.intro (by omega) ?_
  refine And.intro (by omega) ?_
  refine And.intro (by omega) ?_
  refine And.intro (by omega) ?_
  refine And.intro (by omega) ?_
  refine And.intro (by omega) ?_
  refine And.intro (by omega) ?_
  refine And.intro (by omega) ?_
  refine ⟨lev - 1, by omega, q_M_cost (by omega) (by rw [e65]; exact I.ok.vm) (P := P) (by rw [e65]; exact I.ok.ph) (fun h2 e2 => ?_)⟩
  have e92 : h2 999 = h1 999 := e2.1 999 (by decide)
  have I2 := xr_in_rk e2 I1
  refine And.intro (fun _ => ?_) (fun c => absurd ?_ c)
  · refine And.intro (by omega) ?_
    exact D h2 _ _ _ I2 (by omega) (e92.trans e9)
  · rw [e9, e65]

theorem lc_stays {lev : Nat} {Q : Option xq_V → xq_H → Prop} {K : xq_KT} {h : xq_H} {P Pk : List xf_Cl} {T i : Int} (hK : xq_sound (xq_C lev) rw_L_law 81 Q K) (hl : 70 ≤ lev) (I : xr_in h P Pk T) (hT : T ≤ i) (hi : 0 ≤ i) (hi5 : i + 5 ≤ h 999 (-1)) (hL : h 999 (-1) ≤ 2560) (hs : ∀ j, -2147483648 ≤ h 999 j ∧ h 999 j ≤ 2147483647) (D : ∀ h' P' Pk' T', xr_in h' P' Pk' T' → T' ≤ i + 5 → h' 999 = h 999 → K 10 [some (xR 999), some (xR 0), some (xR 64), some (xI (i + 5))] [] 81 h') : K 395 [some (xR 999), some (xR 0), some (xR 64), some (xI i)] [] 81 h := by
  have e9L : ∀ h1 : xq_H, h1 999 = h 999 → h1 999 (-1) = h 999 (-1) := fun h1 z => by rw [z]
  refine xq_go hK [10] 100 ?_
  refine And.intro (by omega) ?_
  refine And.intro (by omega) ?_
  refine ⟨lev - 1, by omega, q_X_stays (by omega) I.ok (fun h1 e1 => ?_)⟩
  have e65 : h1 65 = h 65 := e1 65 (by decide)
  have e9 : h1 999 = h 999 := e1 999 (by decide)
  have e9l := e9L h1 e9
  have I1 := xr_in_ck e1 I
  refine And.intro (by omega) ?_
  refine And.intro (by omega) ?_
  refine ⟨lev - 1, by omega, q_M_stays (by omega) (by rw [e65]; exact I.ok.vm) (P := P) (by rw [e65]; exact I.ok.ph) (fun h2 e2 => ?_)⟩
  have e92 : h2 999 = h1 999 := e2.1 999 (by decide)
  have I2 := xr_in_rk e2 I1
  refine And.intro (fun _ => ?_) (fun c => absurd ?_ c)
  · refine And.intro (by omega) ?_
    exact D h2 _ _ _ I2 (by omega) (e92.trans e9)
  · rw [e9, e65]

theorem lc_touches {lev : Nat} {Q : Option xq_V → xq_H → Prop} {K : xq_KT} {h : xq_H} {P Pk : List xf_Cl} {T i : Int} (hK : xq_sound (xq_C lev) rw_L_law 81 Q K) (hl : 70 ≤ lev) (I : xr_in h P Pk T) (hT : T ≤ i) (hi : 0 ≤ i) (hi5 : i + 5 ≤ h 999 (-1)) (hL : h 999 (-1) ≤ 2560) (hs : ∀ j, -2147483648 ≤ h 999 j ∧ h 999 j ≤ 2147483647) (D : ∀ h' P' Pk' T', xr_in h' P' Pk' T' → T' ≤ i + 5 → h' 999 = h 999 → K 10 [some (xR 999), some (xR 0), some (xR 64), some (xI (i + 5))] [] 81 h') : K 412 [some (xR 999), some (xR 0), some (xR 64), some (xI i)] [] 81 h := by
  have e9L : ∀ h1 : xq_H, h1 999 = h 999 → h1 999 (-1) = h 999 (-1) := fun h1 z => by rw [z]
  refine xq_go hK [10] 100 ?_
  refine And.intro (by omega) ?_
  refine And.intro (by omega) ?_
  refine And.intro (by omega) ?_
  refine And.intro (by omega) ?_
  refine And.intro (by omega) ?_
  refine And.intro (by omega) ?_
  refine ⟨lev - 1, by omega, q_X_touches (by omega) I.ok (fun h1 e1 => ?_)⟩
  have e65 : h1 65 = h 65 := e1 65 (by decide)
  have e9 : h1 999 = h 999 := e1 999 (by decide)
  have e9l := e9L h1 e9
  have I1 := xr_in_ck e1 I
  refine And.intro (by omega) ?_
  refine And.intro (by omega) ?_
  refine And.intro (by omega) ?_
  refine And.intro (by omega) ?_
  refine And.intro (by omega) ?_
  refine And.intro (by omega) ?_
  refine ⟨lev - 1, by omega, q_M_touches (by omega) (by rw [e65]; exact I.ok.vm) (P := P) (by rw [e65]; exact I.ok.ph) (fun h2 e2 => ?_)⟩
  have e92 : h2 999 = h1 999 := e2.1 999 (by decide)
  have I2 := xr_in_rk e2 I1
  refine And.intro (fun _ => ?_) (fun c => absurd ?_ c)
  · refine And.intro (by omega) ?_
    exact D h2 _ _ _ I2 (by omega) (e92.trans e9)
  · rw [e9, e65]

theorem lc_never {lev : Nat} {Q : Option xq_V → xq_H → Prop} {K : xq_KT} {h : xq_H} {P Pk : List xf_Cl} {T i : Int} (hK : xq_sound (xq_C lev) rw_L_law 81 Q K) (hl : 70 ≤ lev) (I : xr_in h P Pk T) (hT : T ≤ i) (hi : 0 ≤ i) (hi5 : i + 5 ≤ h 999 (-1)) (hL : h 999 (-1) ≤ 2560) (hs : ∀ j, -2147483648 ≤ h 999 j ∧ h 999 j ≤ 2147483647) (D : ∀ h' P' Pk' T', xr_in h' P' Pk' T' → T' ≤ i + 5 → h' 999 = h 999 → K 10 [some (xR 999), some (xR 0), some (xR 64), some (xI (i + 5))] [] 81 h') : K 449 [some (xR 999), some (xR 0), some (xR 64), some (xI i)] [] 81 h := by
  have e9L : ∀ h1 : xq_H, h1 999 = h 999 → h1 999 (-1) = h 999 (-1) := fun h1 z => by rw [z]
  refine xq_go hK [10] 100 ?_
  refine And.intro (by omega) ?_
  refine And.intro (by omega) ?_
  refine ⟨lev - 1, by omega, q_X_never (by omega) I.ok (fun h1 e1 => ?_)⟩
  have e65 : h1 65 = h 65 := e1 65 (by decide)
  have e9 : h1 999 = h 999 := e1 999 (by decide)
  have e9l := e9L h1 e9
  have I1 := xr_in_ck e1 I
  refine And.intro (by omega) ?_
  refine And.intro (by omega) ?_
  refine ⟨lev - 1, by omega, q_M_never (by omega) (by rw [e65]; exact I.ok.vm) (P := P) (by rw [e65]; exact I.ok.ph) (fun h2 e2 => ?_)⟩
  have e92 : h2 999 = h1 999 := e2.1 999 (by decide)
  have I2 := xr_in_rk e2 I1
  refine And.intro (fun _ => ?_) (fun c => absurd ?_ c)
  · refine And.intro (by omega) ?_
    exact D h2 _ _ _ I2 (by omega) (e92.trans e9)
  · rw [e9, e65]

theorem lc_round {lev : Nat} {Q : Option xq_V → xq_H → Prop} {K : xq_KT} {h : xq_H} {P Pk : List xf_Cl} {T i : Int} (hK : xq_sound (xq_C lev) rw_L_law 81 Q K) (hl : 70 ≤ lev) (I : xr_in h P Pk T) (hT : T ≤ i) (hi : 0 ≤ i) (hi5 : i + 5 ≤ h 999 (-1)) (hL : h 999 (-1) ≤ 2560) (hs : ∀ j, -2147483648 ≤ h 999 j ∧ h 999 j ≤ 2147483647) (D : ∀ h' P' Pk' T', xr_in h' P' Pk' T' → T' ≤ i + 5 → h' 999 = h 999 → K 10 [some (xR 999), some (xR 0), some (xR 64), some (xI (i + 5))] [] 81 h') : K 466 [some (xR 999), some (xR 0), some (xR 64), some (xI i)] [] 81 h := by
  have e9L : ∀ h1 : xq_H, h1 999 = h 999 → h1 999 (-1) = h 999 (-1) := fun h1 z => by rw [z]
  refine xq_go hK [10] 100 ?_
  refine And.intro (by omega) ?_
  refine And.intro (by omega) ?_
  refine And.intro (by omega) ?_
  refine And.intro (by omega) ?_
  refine And.intro (by omega) ?_
  refine And.intro (by omega) ?_
  refine ⟨lev - 1, by omega, q_X_round (by omega) I.ok (fun h1 e1 => ?_)⟩
  have e65 : h1 65 = h 65 := e1 65 (by decide)
  have e9 : h1 999 = h 999 := e1 999 (by decide)
  have e9l := e9L h1 e9
  have I1 := xr_in_ck e1 I
  refine And.intro (by omega) ?_
  refine And.intro (by omega) ?_
  refine And.intro (by omega) ?_
  refine And.intro (by omega) ?_
  refine And.intro (by omega) ?_
  refine And.intro (by omega) ?_
  refine ⟨lev - 1, by omega, q_M_round (by omega) (by rw [e65]; exact I.ok.vm) (P := P) (by rw [e65]; exact I.ok.ph) (fun h2 e2 => ?_)⟩
  have e92 : h2 999 = h1 999 := e2.1 999 (by decide)
  have I2 := xr_in_rk e2 I1
  refine And.intro (fun _ => ?_) (fun c => absurd ?_ c)
  · refine And.intro (by omega) ?_
    exact D h2 _ _ _ I2 (by omega) (e92.trans e9)
  · rw [e9, e65]

theorem lc_stands {lev : Nat} {Q : Option xq_V → xq_H → Prop} {K : xq_KT} {h : xq_H} {P Pk : List xf_Cl} {T i : Int} (hK : xq_sound (xq_C lev) rw_L_law 81 Q K) (hl : 70 ≤ lev) (I : xr_in h P Pk T) (hT : T ≤ i) (hi : 0 ≤ i) (hi5 : i + 5 ≤ h 999 (-1)) (hL : h 999 (-1) ≤ 2560) (hs : ∀ j, -2147483648 ≤ h 999 j ∧ h 999 j ≤ 2147483647) (D : ∀ h' P' Pk' T', xr_in h' P' Pk' T' → T' ≤ i + 5 → h' 999 = h 999 → K 10 [some (xR 999), some (xR 0), some (xR 64), some (xI (i + 5))] [] 81 h') : K 503 [some (xR 999), some (xR 0), some (xR 64), some (xI i)] [] 81 h := by
  have e9L : ∀ h1 : xq_H, h1 999 = h 999 → h1 999 (-1) = h 999 (-1) := fun h1 z => by rw [z]
  refine xq_go hK [10] 100 ?_
  refine And.intro (by omega) ?_
  refine And.intro (by omega) ?_
  refine And.intro (by omega) ?_
  refine And.intro (by omega) ?_
  refine ⟨lev - 1, by omega, q_X_stands (by omega) I.ok (by omega) (fun h1 e1 => ?_)⟩
  have e65 : h1 65 = h 65 := e1 65 (by decide)
  have e9 : h1 999 = h 999 := e1 999 (by decide)
  have e9l := e9L h1 e9
  have I1 := xr_in_ck e1 I
  refine And.intro (by omega) ?_
  refine And.intro (by omega) ?_
  refine And.intro (by omega) ?_
  refine And.intro (by omega) ?_
  refine ⟨lev - 1, by omega, q_M_stands (by omega) (by rw [e65]; exact I.ok.vm) (P := P) (by rw [e65]; exact I.ok.ph) (by rw [e65]; have := I.ok.ty; omega) (fun h2 e2 => ?_)⟩
  have e92 : h2 999 = h1 999 := e2.1 999 (by decide)
  have I2 := xr_in_rk e2 I1
  refine And.intro (fun _ => ?_) (fun c => absurd ?_ c)
  · refine And.intro (by omega) ?_
    exact D h2 _ _ _ I2 (by omega) (e92.trans e9)
  · rw [e9, e65]

theorem lc_guess {lev : Nat} {Q : Option xq_V → xq_H → Prop} {K : xq_KT} {h : xq_H} {P Pk : List xf_Cl} {T i : Int} (hK : xq_sound (xq_C lev) rw_L_law 81 Q K) (hl : 70 ≤ lev) (I : xr_in h P Pk T) (hT : T ≤ i) (hi : 0 ≤ i) (hi5 : i + 5 ≤ h 999 (-1)) (hL : h 999 (-1) ≤ 2560) (hs : ∀ j, -2147483648 ≤ h 999 j ∧ h 999 j ≤ 2147483647) (D : ∀ h' P' Pk' T', xr_in h' P' Pk' T' → T' ≤ i + 5 → h' 999 = h 999 → K 10 [some (xR 999), some (xR 0), some (xR 64), some (xI (i + 5))] [] 81 h') : K 530 [some (xR 999), some (xR 0), some (xR 64), some (xI i)] [] 81 h := by
  have e9L : ∀ h1 : xq_H, h1 999 = h 999 → h1 999 (-1) = h 999 (-1) := fun h1 z => by rw [z]
  refine xq_go hK [10] 100 ?_
  refine And.intro (by omega) ?_
  refine And.intro (by omega) ?_
  refine And.intro (by omega) ?_
  refine And.intro (by omega) ?_
  refine ⟨lev - 1, by omega, q_X_guess (by omega) I.ok (fun h1 e1 => ?_)⟩
  have e65 : h1 65 = h 65 := e1 65 (by decide)
  have e9 : h1 999 = h 999 := e1 999 (by decide)
  have e9l := e9L h1 e9
  have I1 := xr_in_ck e1 I
  refine And.intro (by omega) ?_
  refine And.intro (by omega) ?_
  refine And.intro (by omega) ?_
  refine And.intro (by omega) ?_
  refine ⟨lev - 1, by omega, q_M_guess (by omega) (by rw [e65]; exact I.ok.vm) (fun h2 e2 => ?_)⟩
  have e92 : h2 999 = h1 999 := e2.1 999 (by decide)
  have I2 := xr_in_rk e2 I1
  refine And.intro (fun _ => ?_) (fun c => absurd ?_ c)
  · refine And.intro (by omega) ?_
    exact D h2 _ _ _ I2 (by omega) (e92.trans e9)
  · rw [e9, e65]

theorem lc_letter {lev : Nat} {Q : Option xq_V → xq_H → Prop} {K : xq_KT} {h : xq_H} {P Pk : List xf_Cl} {T i : Int} (hK : xq_sound (xq_C lev) rw_L_law 81 Q K) (hl : 70 ≤ lev) (I : xr_in h P Pk T) (hT : T ≤ i) (hi : 0 ≤ i) (hi5 : i + 5 ≤ h 999 (-1)) (hL : h 999 (-1) ≤ 2560) (hs : ∀ j, -2147483648 ≤ h 999 j ∧ h 999 j ≤ 2147483647) (D : ∀ h' P' Pk' T', xr_in h' P' Pk' T' → T' ≤ i + 5 → h' 999 = h 999 → K 10 [some (xR 999), some (xR 0), some (xR 64), some (xI (i + 5))] [] 81 h') : K 557 [some (xR 999), some (xR 0), some (xR 64), some (xI i)] [] 81 h := by
  have e9L : ∀ h1 : xq_H, h1 999 = h 999 → h1 999 (-1) = h 999 (-1) := fun h1 z => by rw [z]
  refine xq_go hK [10] 100 ?_
  refine And.intro (by omega) ?_
  refine And.intro (by omega) ?_
  refine ⟨lev - 1, by omega, q_X_letter (by omega) I.ok (fun h1 e1 => ?_)⟩
  have e65 : h1 65 = h 65 := e1 65 (by decide)
  have e9 : h1 999 = h 999 := e1 999 (by decide)
  have e9l := e9L h1 e9
  have I1 := xr_in_ck e1 I
  refine And.intro (by omega) ?_
  refine And.intro (by omega) ?_
  refine ⟨lev - 1, by omega, q_M_letter (by omega) (by rw [e65]; exact I.ok.vm) (fun h2 e2 => ?_)⟩
  have e92 : h2 999 = h1 999 := e2.1 999 (by decide)
  have I2 := xr_in_rk e2 I1
  refine And.intro (fun _ => ?_) (fun c => absurd ?_ c)
  · refine And.intro (by omega) ?_
    exact D h2 _ _ _ I2 (by omega) (e92.trans e9)
  · rw [e9, e65]

theorem lc_enough {lev : Nat} {Q : Option xq_V → xq_H → Prop} {K : xq_KT} {h : xq_H} {P Pk : List xf_Cl} {T i : Int} (hK : xq_sound (xq_C lev) rw_L_law 81 Q K) (hl : 70 ≤ lev) (I : xr_in h P Pk T) (hT : T ≤ i) (hi : 0 ≤ i) (hi5 : i + 5 ≤ h 999 (-1)) (hL : h 999 (-1) ≤ 2560) (hs : ∀ j, -2147483648 ≤ h 999 j ∧ h 999 j ≤ 2147483647) (D : ∀ h' P' Pk' T', xr_in h' P' Pk' T' → T' ≤ i + 5 → h' 999 = h 999 → K 10 [some (xR 999), some (xR 0), some (xR 64), some (xI (i + 5))] [] 81 h') : K 574 [some (xR 999), some (xR 0), some (xR 64), some (xI i)] [] 81 h := by
  have e9L : ∀ h1 : xq_H, h1 999 = h 999 → h1 999 (-1) = h 999 (-1) := fun h1 z => by rw [z]
  refine xq_go hK [10] 100 ?_
  refine And.intro (by omega) ?_
  refine And.intro (by omega) ?_
  refine And.intro (by omega) ?_
  refine And.intro (by omega) ?_
  refine ⟨lev - 1, by omega, q_X_enough (by omega) I.ok (fun h1 e1 => ?_)⟩
  have e65 : h1 65 = h 65 := e1 65 (by decide)
  have e9 : h1 999 = h 999 := e1 999 (by decide)
  have e9l := e9L h1 e9
  have I1 := xr_in_ck e1 I
  refine And.intro (by omega) ?_
  refine And.intro (by omega) ?_
  refine And.intro (by omega) ?_
  refine And.intro (by omega) ?_
  refine ⟨lev - 1, by omega, q_M_enough (by omega) (by rw [e65]; exact I.ok.vm) (P := P) (by rw [e65]; exact I.ok.ph) (fun h2 e2 => ?_)⟩
  have e92 : h2 999 = h1 999 := e2.1 999 (by decide)
  have I2 := xr_in_rk e2 I1
  refine And.intro (fun _ => ?_) (fun c => absurd ?_ c)
  · refine And.intro (by omega) ?_
    exact D h2 _ _ _ I2 (by omega) (e92.trans e9)
  · rw [e9, e65]

theorem lc_slips {lev : Nat} {Q : Option xq_V → xq_H → Prop} {K : xq_KT} {h : xq_H} {P Pk : List xf_Cl} {T i : Int} (hK : xq_sound (xq_C lev) rw_L_law 81 Q K) (hl : 70 ≤ lev) (I : xr_in h P Pk T) (hT : T ≤ i) (hi : 0 ≤ i) (hi5 : i + 5 ≤ h 999 (-1)) (hL : h 999 (-1) ≤ 2560) (hs : ∀ j, -2147483648 ≤ h 999 j ∧ h 999 j ≤ 2147483647) (D : ∀ h' P' Pk' T', xr_in h' P' Pk' T' → T' ≤ i + 5 → h' 999 = h 999 → K 10 [some (xR 999), some (xR 0), some (xR 64), some (xI (i + 5))] [] 81 h') : K 601 [some (xR 999), some (xR 0), some (xR 64), some (xI i)] [] 81 h := by
  have e9L : ∀ h1 : xq_H, h1 999 = h 999 → h1 999 (-1) = h 999 (-1) := fun h1 z => by rw [z]
  refine xq_go hK [10] 100 ?_
  refine And.intro (by omega) ?_
  refine And.intro (by omega) ?_
  refine And.intro (by omega) ?_
  refine And.intro (by omega) ?_
  refine And.intro (by omega) ?_
  refine And.intro (by omega) ?_
  refine ⟨lev - 1, by omega, q_X_slips (by omega) I.ok (fun h1 e1 => ?_)⟩
  have e65 : h1 65 = h 65 := e1 65 (by decide)
  have e9 : h1 999 = h 999 := e1 999 (by decide)
  have e9l := e9L h1 e9
  have I1 := xr_in_ck e1 I
  refine And.intro (by omega) ?_
  refine And.intro (by omega) ?_
  refine And.intro (by omega) ?_
  refine And.intro (by omega) ?_
  refine And.intro (by omega) ?_
  refine And.intro (by omega) ?_
  refine ⟨lev - 1, by omega, q_M_slips (by omega) (by rw [e65]; exact I.ok.vm) (P := P) (by rw [e65]; exact I.ok.ph) (fun h2 e2 => ?_)⟩
  have e92 : h2 999 = h1 999 := e2.1 999 (by decide)
  have I2 := xr_in_rk e2 I1
  refine And.intro (fun _ => ?_) (fun c => absurd ?_ c)
  · refine And.intro (by omega) ?_
    exact D h2 _ _ _ I2 (by omega) (e92.trans e9)
  · rw [e9, e65]
    exact xq_lc_rf _

theorem lc_wrong {lev : Nat} {Q : Option xq_V → xq_H → Prop} {K : xq_KT} {h : xq_H} {P Pk : List xf_Cl} {T i : Int} (hK : xq_sound (xq_C lev) rw_L_law 81 Q K) (hl : 70 ≤ lev) (I : xr_in h P Pk T) (hT : T ≤ i) (hi : 0 ≤ i) (hi5 : i + 5 ≤ h 999 (-1)) (hL : h 999 (-1) ≤ 2560) (hs : ∀ j, -2147483648 ≤ h 999 j ∧ h 999 j ≤ 2147483647) (D : ∀ h' P' Pk' T', xr_in h' P' Pk' T' → T' ≤ i + 5 → h' 999 = h 999 → K 10 [some (xR 999), some (xR 0), some (xR 64), some (xI (i + 5))] [] 81 h') : K 639 [some (xR 999), some (xR 0), some (xR 64), some (xI i)] [] 81 h := by
  have e9L : ∀ h1 : xq_H, h1 999 = h 999 → h1 999 (-1) = h 999 (-1) := fun h1 z => by rw [z]
  refine xq_go hK [10] 100 ?_
  refine And.intro (by omega) ?_
  refine And.intro (by omega) ?_
  refine And.intro (by omega) ?_
  refine And.intro (by omega) ?_
  refine ⟨lev - 1, by omega, q_X_wrong (by omega) I.ok (fun h1 e1 => ?_)⟩
  have e65 : h1 65 = h 65 := e1 65 (by decide)
  have e9 : h1 999 = h 999 := e1 999 (by decide)
  have e9l := e9L h1 e9
  have I1 := xr_in_ck e1 I
  refine And.intro (by omega) ?_
  refine And.intro (by omega) ?_
  refine And.intro (by omega) ?_
  refine And.intro (by omega) ?_
  refine ⟨lev - 1, by omega, q_M_wrong (by omega) (by rw [e65]; exact I.ok.vm) (P := P) (by rw [e65]; exact I.ok.ph) (fun h2 e2 => ?_)⟩
  have e92 : h2 999 = h1 999 := e2.1 999 (by decide)
  have I2 := xr_in_rk e2 I1
  refine And.intro (fun _ => ?_) (fun c => absurd ?_ c)
  · refine And.intro (by omega) ?_
    exact D h2 _ _ _ I2 (by omega) (e92.trans e9)
  · rw [e9, e65]
    exact xq_lc_rf _

theorem lc_chain {lev : Nat} {Q : Option xq_V → xq_H → Prop} {K : xq_KT} {h : xq_H} {P Pk : List xf_Cl} {T i : Int} (hK : xq_sound (xq_C lev) rw_L_law 81 Q K) (hl : 70 ≤ lev) (I : xr_in h P Pk T) (hT : T ≤ i) (hi : 0 ≤ i) (hi5 : i + 5 ≤ h 999 (-1)) (hL : h 999 (-1) ≤ 2560) (hs : ∀ j, -2147483648 ≤ h 999 j ∧ h 999 j ≤ 2147483647) (D : ∀ h' P' Pk' T', xr_in h' P' Pk' T' → T' ≤ i + 5 → h' 999 = h 999 → K 10 [some (xR 999), some (xR 0), some (xR 64), some (xI (i + 5))] [] 81 h') : K 667 [some (xR 999), some (xR 0), some (xR 64), some (xI i)] [] 81 h := by
  have e9L : ∀ h1 : xq_H, h1 999 = h 999 → h1 999 (-1) = h 999 (-1) := fun h1 z => by rw [z]
  refine xq_go hK [10] 100 ?_
  refine And.intro (by omega) ?_
  refine And.intro (by omega) ?_
  refine And.intro (by omega) ?_
  refine And.intro (by omega) ?_
  refine And.intro (by omega) ?_
  refine And.intro (by omega) ?_
  refine ⟨lev - 1, by omega, q_X_chain (by omega) I.ok (by omega) (hs _) (fun h1 e1 => ?_)⟩
  have e65 : h1 65 = h 65 := e1 65 (by decide)
  have e9 : h1 999 = h 999 := e1 999 (by decide)
  have e9l := e9L h1 e9
  have I1 := xr_in_ck e1 I
  refine And.intro (by omega) ?_
  refine And.intro (by omega) ?_
  refine And.intro (by omega) ?_
  refine And.intro (by omega) ?_
  refine And.intro (by omega) ?_
  refine And.intro (by omega) ?_
  refine ⟨lev - 1, by omega, q_M_chain (by omega) (by rw [e65]; exact I.ok.vm) (P := P) (by rw [e65]; exact I.ok.ph) (by rw [e65]; have := I.ok.ty; omega) (by rw [e9]; exact hs _) (fun h2 e2 => ?_)⟩
  have e92 : h2 999 = h1 999 := e2.1 999 (by decide)
  have I2 := xr_in_rk e2 I1
  refine And.intro (fun _ => ?_) (fun c => absurd ?_ c)
  · refine And.intro (by omega) ?_
    exact D h2 _ _ _ I2 (by omega) (e92.trans e9)
  · rw [e9, e65]

theorem lc_meant {lev : Nat} {Q : Option xq_V → xq_H → Prop} {K : xq_KT} {h : xq_H} {P Pk : List xf_Cl} {T i : Int} (hK : xq_sound (xq_C lev) rw_L_law 81 Q K) (hl : 70 ≤ lev) (I : xr_in h P Pk T) (hT : T ≤ i) (hi : 0 ≤ i) (hi5 : i + 5 ≤ h 999 (-1)) (hL : h 999 (-1) ≤ 2560) (hs : ∀ j, -2147483648 ≤ h 999 j ∧ h 999 j ≤ 2147483647) (D : ∀ h' P' Pk' T', xr_in h' P' Pk' T' → T' ≤ i + 5 → h' 999 = h 999 → K 10 [some (xR 999), some (xR 0), some (xR 64), some (xI (i + 5))] [] 81 h') : K 704 [some (xR 999), some (xR 0), some (xR 64), some (xI i)] [] 81 h := by
  have e9L : ∀ h1 : xq_H, h1 999 = h 999 → h1 999 (-1) = h 999 (-1) := fun h1 z => by rw [z]
  refine xq_go hK [10] 100 ?_
  refine And.intro (by omega) ?_
  refine And.intro (by omega) ?_
  refine And.intro (by omega) ?_
  refine And.intro (by omega) ?_
  refine ⟨lev - 1, by omega, q_X_meant (by omega) I.ok (fun h1 e1 => ?_)⟩
  have e65 : h1 65 = h 65 := e1 65 (by decide)
  have e9 : h1 999 = h 999 := e1 999 (by decide)
  have e9l := e9L h1 e9
  have I1 := xr_in_ck e1 I
  refine And.intro (by omega) ?_
  refine And.intro (by omega) ?_
  refine And.intro (by omega) ?_
  refine And.intro (by omega) ?_
  refine ⟨lev - 1, by omega, q_M_meant (by omega) (by rw [e65]; exact I.ok.vm) (P := P) (by rw [e65]; exact I.ok.ph) (fun h2 e2 => ?_)⟩
  have e92 : h2 999 = h1 999 := e2.1 999 (by decide)
  have I2 := xr_in_rk e2 I1
  refine And.intro (fun _ => ?_) (fun c => absurd ?_ c)
  · refine And.intro (by omega) ?_
    exact D h2 _ _ _ I2 (by omega) (e92.trans e9)
  · rw [e9, e65]

theorem lc_likeliest {lev : Nat} {Q : Option xq_V → xq_H → Prop} {K : xq_KT} {h : xq_H} {P Pk : List xf_Cl} {T i : Int} (hK : xq_sound (xq_C lev) rw_L_law 81 Q K) (hl : 70 ≤ lev) (I : xr_in h P Pk T) (hT : T ≤ i) (hi : 0 ≤ i) (hi5 : i + 5 ≤ h 999 (-1)) (hL : h 999 (-1) ≤ 2560) (hs : ∀ j, -2147483648 ≤ h 999 j ∧ h 999 j ≤ 2147483647) (D : ∀ h' P' Pk' T', xr_in h' P' Pk' T' → T' ≤ i + 5 → h' 999 = h 999 → K 10 [some (xR 999), some (xR 0), some (xR 64), some (xI (i + 5))] [] 81 h') : K 731 [some (xR 999), some (xR 0), some (xR 64), some (xI i)] [] 81 h := by
  have e9L : ∀ h1 : xq_H, h1 999 = h 999 → h1 999 (-1) = h 999 (-1) := fun h1 z => by rw [z]
  refine xq_go hK [10] 100 ?_
  refine And.intro (by omega) ?_
  refine And.intro (by omega) ?_
  refine And.intro (by omega) ?_
  refine And.intro (by omega) ?_
  refine ⟨lev - 1, by omega, q_X_likeliest (by omega) I.ok (fun h1 e1 => ?_)⟩
  have e65 : h1 65 = h 65 := e1 65 (by decide)
  have e9 : h1 999 = h 999 := e1 999 (by decide)
  have e9l := e9L h1 e9
  have I1 := xr_in_ck e1 I
  refine And.intro (by omega) ?_
  refine And.intro (by omega) ?_
  refine And.intro (by omega) ?_
  refine And.intro (by omega) ?_
  refine ⟨lev - 1, by omega, q_M_likeliest (by omega) (by rw [e65]; exact I.ok.vm) (P := P) (by rw [e65]; exact I.ok.ph) (fun h2 e2 => ?_)⟩
  have e92 : h2 999 = h1 999 := e2.1 999 (by decide)
  have I2 := xr_in_rk e2 I1
  refine And.intro (fun _ => ?_) (fun c => absurd ?_ c)
  · refine And.intro (by omega) ?_
    exact D h2 _ _ _ I2 (by omega) (e92.trans e9)
  · rw [e9, e65]

theorem lc_who {lev : Nat} {Q : Option xq_V → xq_H → Prop} {K : xq_KT} {h : xq_H} {P Pk : List xf_Cl} {T i : Int} (hK : xq_sound (xq_C lev) rw_L_law 81 Q K) (hl : 70 ≤ lev) (I : xr_in h P Pk T) (hT : T ≤ i) (hi : 0 ≤ i) (hi5 : i + 5 ≤ h 999 (-1)) (hL : h 999 (-1) ≤ 2560) (hs : ∀ j, -2147483648 ≤ h 999 j ∧ h 999 j ≤ 2147483647) (D : ∀ h' P' Pk' T', xr_in h' P' Pk' T' → T' ≤ i + 5 → h' 999 = h 999 → K 10 [some (xR 999), some (xR 0), some (xR 64), some (xI (i + 5))] [] 81 h') : K 758 [some (xR 999), some (xR 0), some (xR 64), some (xI i)] [] 81 h := by
  have e9L : ∀ h1 : xq_H, h1 999 = h 999 → h1 999 (-1) = h 999 (-1) := fun h1 z => by rw [z]
  refine xq_go hK [10] 100 ?_
  refine And.intro (by omega) ?_
  refine And.intro (by omega) ?_
  refine And.intro (by omega) ?_
  refine And.intro (by omega) ?_
  refine ⟨lev - 1, by omega, q_X_who (by omega) I.ok (fun h1 e1 => ?_)⟩
  have e65 : h1 65 = h 65 := e1 65 (by decide)
  have e9 : h1 999 = h 999 := e1 999 (by decide)
  have e9l := e9L h1 e9
  have I1 := xr_in_ck e1 I
  refine And.intro (by omega) ?_
  refine And.intro (by omega) ?_
  refine And.intro (by omega) ?_
  refine And.intro (by omega) ?_
  refine ⟨lev - 1, by omega, q_M_who (by omega) (by rw [e65]; exact I.ok.vm) (P := P) (by rw [e65]; exact I.ok.ph) (fun h2 e2 => ?_)⟩
  have e92 : h2 999 = h1 999 := e2.1 999 (by decide)
  have I2 := xr_in_rk e2 I1
  refine And.intro (fun _ => ?_) (fun c => absurd ?_ c)
  · refine And.intro (by omega) ?_
    exact D h2 _ _ _ I2 (by omega) (e92.trans e9)
  · rw [e9, e65]

theorem lc_twins {lev : Nat} {Q : Option xq_V → xq_H → Prop} {K : xq_KT} {h : xq_H} {P Pk : List xf_Cl} {T i : Int} (hK : xq_sound (xq_C lev) rw_L_law 81 Q K) (hl : 70 ≤ lev) (I : xr_in h P Pk T) (hT : T ≤ i) (hi : 0 ≤ i) (hi5 : i + 5 ≤ h 999 (-1)) (hL : h 999 (-1) ≤ 2560) (hs : ∀ j, -2147483648 ≤ h 999 j ∧ h 999 j ≤ 2147483647) (D : ∀ h' P' Pk' T', xr_in h' P' Pk' T' → T' ≤ i + 5 → h' 999 = h 999 → K 10 [some (xR 999), some (xR 0), some (xR 64), some (xI (i + 5))] [] 81 h') : K 785 [some (xR 999), some (xR 0), some (xR 64), some (xI i)] [] 81 h := by
  have e9L : ∀ h1 : xq_H, h1 999 = h 999 → h1 999 (-1) = h 999 (-1) := fun h1 z => by rw [z]
  refine xq_go hK [10] 100 ?_
  refine ⟨lev - 1, by omega, q_X_twins (by omega) I.ok (fun h1 e1 => ?_)⟩
  have e65 : h1 65 = h 65 := e1 65 (by decide)
  have e9 : h1 999 = h 999 := e1 999 (by decide)
  have e9l := e9L h1 e9
  have I1 := xr_in_ck e1 I
  refine ⟨lev - 1, by omega, q_M_twins (by omega) (by rw [e65]; exact I.ok.vm) (fun h2 e2 => ?_)⟩
  have e92 : h2 999 = h1 999 := e2.1 999 (by decide)
  have I2 := xr_in_rk e2 I1
  refine And.intro (fun _ => ?_) (fun c => absurd ?_ c)
  · refine And.intro (by omega) ?_
    exact D h2 _ _ _ I2 (by omega) (e92.trans e9)
  · rw [e65]

theorem lc_room {lev : Nat} {Q : Option xq_V → xq_H → Prop} {K : xq_KT} {h : xq_H} {P Pk : List xf_Cl} {T i : Int} (hK : xq_sound (xq_C lev) rw_L_law 81 Q K) (hl : 70 ≤ lev) (I : xr_in h P Pk T) (hT : T ≤ i) (hi : 0 ≤ i) (hi5 : i + 5 ≤ h 999 (-1)) (hL : h 999 (-1) ≤ 2560) (hs : ∀ j, -2147483648 ≤ h 999 j ∧ h 999 j ≤ 2147483647) (D : ∀ h' P' Pk' T', xr_in h' P' Pk' T' → T' ≤ i + 5 → h' 999 = h 999 → K 10 [some (xR 999), some (xR 0), some (xR 64), some (xI (i + 5))] [] 81 h') : K 792 [some (xR 999), some (xR 0), some (xR 64), some (xI i)] [] 81 h := by
  have e9L : ∀ h1 : xq_H, h1 999 = h 999 → h1 999 (-1) = h 999 (-1) := fun h1 z => by rw [z]
  refine xq_go hK [10] 100 ?_
  refine And.intro (by omega) ?_
  refine And.intro (by omega) ?_
  refine ⟨lev - 1, by omega, q_X_room (by omega) I.ok (fun h1 e1 => ?_)⟩
  have e65 : h1 65 = h 65 := e1 65 (by decide)
  have e9 : h1 999 = h 999 := e1 999 (by decide)
  have e9l := e9L h1 e9
  have I1 := xr_in_ck e1 I
  refine And.intro (by omega) ?_
  refine And.intro (by omega) ?_
  refine ⟨lev - 1, by omega, q_M_room (by omega) (by rw [e65]; exact I.ok.vm) (P := P) (by rw [e65]; exact I.ok.ph) (fun h2 e2 => ?_)⟩
  have e92 : h2 999 = h1 999 := e2.1 999 (by decide)
  have I2 := xr_in_rk e2 I1
  refine And.intro (fun _ => ?_) (fun c => absurd ?_ c)
  · refine And.intro (by omega) ?_
    exact D h2 _ _ _ I2 (by omega) (e92.trans e9)
  · rw [e9, e65]

theorem lc_saved {lev : Nat} {Q : Option xq_V → xq_H → Prop} {K : xq_KT} {h : xq_H} {P Pk : List xf_Cl} {T i : Int} (hK : xq_sound (xq_C lev) rw_L_law 81 Q K) (hl : 70 ≤ lev) (I : xr_in h P Pk T) (hT : T ≤ i) (hi : 0 ≤ i) (hi5 : i + 5 ≤ h 999 (-1)) (hL : h 999 (-1) ≤ 2560) (hs : ∀ j, -2147483648 ≤ h 999 j ∧ h 999 j ≤ 2147483647) (D : ∀ h' P' Pk' T', xr_in h' P' Pk' T' → T' ≤ i + 5 → h' 999 = h 999 → K 10 [some (xR 999), some (xR 0), some (xR 64), some (xI (i + 5))] [] 81 h') : K 809 [some (xR 999), some (xR 0), some (xR 64), some (xI i)] [] 81 h := by
  have e9L : ∀ h1 : xq_H, h1 999 = h 999 → h1 999 (-1) = h 999 (-1) := fun h1 z => by rw [z]
  refine xq_go hK [10] 100 ?_
  refine And.intro (by omega) ?_
  refine And.intro (by omega) ?_
  refine ⟨lev - 1, by omega, q_X_saved (by omega) I.ok (fun h1 e1 => ?_)⟩
  have e65 : h1 65 = h 65 := e1 65 (by decide)
  have e9 : h1 999 = h 999 := e1 999 (by decide)
  have e9l := e9L h1 e9
  have I1 := xr_in_ck e1 I
  refine And.intro (by omega) ?_
  refine And.intro (by omega) ?_
  refine ⟨lev - 1, by omega, q_M_saved (by omega) (by rw [e65]; exact I.ok.vm) (by rw [e65]; exact I.ok.vn) (P := P) (by rw [e65]; exact I.ok.ph) (fun h2 e2 => ?_)⟩
  have e92 : h2 999 = h1 999 := e2.1 999 (by decide)
  have I2 := xr_in_rk e2 I1
  refine And.intro (fun _ => ?_) (fun c => absurd ?_ c)
  · refine And.intro (by omega) ?_
    exact D h2 _ _ _ I2 (by omega) (e92.trans e9)
  · rw [e9, e65]

theorem lc_book {lev : Nat} {Q : Option xq_V → xq_H → Prop} {K : xq_KT} {h : xq_H} {P Pk : List xf_Cl} {T i : Int} (hK : xq_sound (xq_C lev) rw_L_law 81 Q K) (hl : 70 ≤ lev) (I : xr_in h P Pk T) (hT : T ≤ i) (hi : 0 ≤ i) (hi5 : i + 5 ≤ h 999 (-1)) (hL : h 999 (-1) ≤ 2560) (hs : ∀ j, -2147483648 ≤ h 999 j ∧ h 999 j ≤ 2147483647) (D : ∀ h' P' Pk' T', xr_in h' P' Pk' T' → T' ≤ i + 5 → h' 999 = h 999 → K 10 [some (xR 999), some (xR 0), some (xR 64), some (xI (i + 5))] [] 81 h') : K 826 [some (xR 999), some (xR 0), some (xR 64), some (xI i)] [] 81 h := by
  have e9L : ∀ h1 : xq_H, h1 999 = h 999 → h1 999 (-1) = h 999 (-1) := fun h1 z => by rw [z]
  refine xq_go hK [10] 100 ?_
  refine And.intro (by omega) ?_
  refine And.intro (by omega) ?_
  refine And.intro (by omega) ?_
  refine And.intro (by omega) ?_
  refine And.intro (by omega) ?_
  refine And.intro (by omega) ?_
  refine ⟨lev - 1, by omega, q_X_book (by omega) I.ok (fun h1 e1 O => ?_)⟩
  have e65 : h1 65 = h 65 := e1 65 (by decide)
  have e9 : h1 999 = h 999 := e1 999 (by decide)
  have e9l := e9L h1 e9
  refine And.intro (by omega) ?_
  refine And.intro (by omega) ?_
  refine And.intro (by omega) ?_
  refine And.intro (by omega) ?_
  refine And.intro (by omega) ?_
  refine And.intro (by omega) ?_
  refine ⟨lev - 1, by omega, q_M_book (by omega) (by rw [e65]; exact I.ok.vm) (by rw [e65]; exact I.ok.vn) (fun h2 e2 e3 => ?_)⟩
  rw [e65, e9] at e3
  have e92 : h2 999 = h1 999 := e2.1 999 (by decide)
  have I2 := xr_in_mut (P' := P) (T' := T) I (by omega) e1 (by rw [e3]; exact O) e2
  refine And.intro (fun _ => ?_) (fun c => absurd ?_ c)
  · refine And.intro (by omega) ?_
    exact D h2 _ _ _ I2 (by omega) (e92.trans e9)
  · rw [e9, e65]

theorem lc_looked {lev : Nat} {Q : Option xq_V → xq_H → Prop} {K : xq_KT} {h : xq_H} {P Pk : List xf_Cl} {T i : Int} (hK : xq_sound (xq_C lev) rw_L_law 81 Q K) (hl : 70 ≤ lev) (I : xr_in h P Pk T) (hT : T ≤ i) (hi : 0 ≤ i) (hi5 : i + 5 ≤ h 999 (-1)) (hL : h 999 (-1) ≤ 2560) (hs : ∀ j, -2147483648 ≤ h 999 j ∧ h 999 j ≤ 2147483647) (D : ∀ h' P' Pk' T', xr_in h' P' Pk' T' → T' ≤ i + 5 → h' 999 = h 999 → K 10 [some (xR 999), some (xR 0), some (xR 64), some (xI (i + 5))] [] 81 h') : K 863 [some (xR 999), some (xR 0), some (xR 64), some (xI i)] [] 81 h := by
  have e9L : ∀ h1 : xq_H, h1 999 = h 999 → h1 999 (-1) = h 999 (-1) := fun h1 z => by rw [z]
  refine xq_go hK [10] 100 ?_
  refine ⟨lev - 1, by omega, q_X_looked (by omega) I.ok (fun h1 e1 => ?_)⟩
  have e65 : h1 65 = h 65 := e1 65 (by decide)
  have e9 : h1 999 = h 999 := e1 999 (by decide)
  have e9l := e9L h1 e9
  have I1 := xr_in_ck e1 I
  refine ⟨lev - 1, by omega, q_M_looked (by omega) (by rw [e65]; exact I.ok.vm) (by rw [e65]; exact I.ok.vn) (P := P) (by rw [e65]; exact I.ok.ph) (fun h2 e2 => ?_)⟩
  have e92 : h2 999 = h1 999 := e2.1 999 (by decide)
  have I2 := xr_in_rk e2 I1
  refine And.intro (fun _ => ?_) (fun c => absurd ?_ c)
  · refine And.intro (by omega) ?_
    exact D h2 _ _ _ I2 (by omega) (e92.trans e9)
  · rw [e65]

theorem lc_act {lev : Nat} {Q : Option xq_V → xq_H → Prop} {K : xq_KT} {h : xq_H} {P Pk : List xf_Cl} {T i : Int} (hK : xq_sound (xq_C lev) rw_L_law 81 Q K) (hl : 70 ≤ lev) (I : xr_in h P Pk T) (hT : T ≤ i) (hi : 0 ≤ i) (hi5 : i + 5 ≤ h 999 (-1)) (hL : h 999 (-1) ≤ 2560) (hs : ∀ j, -2147483648 ≤ h 999 j ∧ h 999 j ≤ 2147483647) (D : ∀ h' P' Pk' T', xr_in h' P' Pk' T' → T' ≤ i + 5 → h' 999 = h 999 → K 10 [some (xR 999), some (xR 0), some (xR 64), some (xI (i + 5))] [] 81 h') : K 870 [some (xR 999), some (xR 0), some (xR 64), some (xI i)] [] 81 h := by
  have e9L : ∀ h1 : xq_H, h1 999 = h 999 → h1 999 (-1) = h 999 (-1) := fun h1 z => by rw [z]
  refine xq_go hK [10] 100 ?_
  refine And.intro (by omega) ?_
  refine And.intro (by omega) ?_
  refine And.intro (by omega) ?_
  refine And.intro (by omega) ?_
  refine And.intro (by omega) ?_
  refine And.intro (by omega) ?_
  refine ⟨lev - 1, by omega, q_X_act (by omega) I.ok (fun h1 e1 r1 r2 => ?_)⟩
  have e65 : h1 65 = h 65 := e1 65 (by decide)
  have e9 : h1 999 = h 999 := e1 999 (by decide)
  have e9l := e9L h1 e9
  refine And.intro (by omega) ?_
  refine And.intro (by omega) ?_
  refine And.intro (by omega) ?_
  refine And.intro (by omega) ?_
  refine And.intro (by omega) ?_
  refine And.intro (by omega) ?_
  refine ⟨lev - 1, by omega, q_M_act (by omega) (by rw [e65]; exact I.ok.vm) (fun h2 e2 e3 s1 s2 => ?_)⟩
  rw [e65, e9] at s1 s2
  have e92 : h2 999 = h1 999 := e2 999 (by decide)
  have n := sp_bod_n (h 65) (h 999 (i + 1)) (h 999 (i + 2))
  have e4 : h2 64 4 = h 64 4 := (e3 4 (by omega)).trans (by rw [e1 64 (by decide)])
  have I2 : xr_in h2 P Pk T := by
    have e652 : h2 65 = h 65 := (e2 65 (by decide)).trans e65
    refine ⟨⟨by rw [e652]; exact xr_now_fr e2 (by decide) (xr_now_fr e1 (by decide) I.ok.now), by rw [e652]; exact I.ok.vm, by rw [e652]; exact I.ok.vn, by rw [e652]; exact I.ok.ph, by rw [e652]; exact I.ok.ty⟩, ?_, ?_, ?_, ?_, ?_, ?_⟩
    · rw [e4, e2 0 (by decide), e1 0 (by decide)]; exact I.ki
    · rw [e4]; exact I.kb
    · intro z
      rw [e4] at z
      rw [e2 66 (by decide), e1 66 (by decide)]
      have Kk := I.kn z
      refine ⟨xr_now_fr (X := [32, 33, 36, 51]) (h := xr_sh h) (fun o ho => ?_) (by decide) Kk.now, Kk.vm, Kk.vn, Kk.ph, Kk.ty⟩
      simp only [List.mem_cons, List.not_mem_nil, or_false] at ho
      refine (e2 (o + 28) (fun z => ?_)).trans (e1 (o + 28) (fun z => ?_))
      · simp only [List.mem_cons, List.not_mem_nil, or_false] at z
        omega
      · simp only [List.mem_cons, List.not_mem_nil, or_false] at z
        omega
    · rw [s1, e2 60 (by decide), r1]
    · rw [s1]; omega
    · intro j hj hj2 hj3
      rw [s1] at hj3
      rw [s2, e2 61 (by decide), r2]
      exact xf_wb_eq _ _ _ _ _ hj (by omega)
  refine And.intro (fun _ => ?_) (fun c => absurd ?_ c)
  · refine And.intro (by omega) ?_
    exact D h2 _ _ _ I2 (by omega) (e92.trans e9)
  · rw [e9, e65]

theorem lc_trace {lev : Nat} {Q : Option xq_V → xq_H → Prop} {K : xq_KT} {h : xq_H} {P Pk : List xf_Cl} {T i : Int} (hK : xq_sound (xq_C lev) rw_L_law 81 Q K) (hl : 70 ≤ lev) (I : xr_in h P Pk T) (hT : T ≤ i) (hi : 0 ≤ i) (hi5 : i + 5 ≤ h 999 (-1)) (hL : h 999 (-1) ≤ 2560) (hs : ∀ j, -2147483648 ≤ h 999 j ∧ h 999 j ≤ 2147483647) (D : ∀ h' P' Pk' T', xr_in h' P' Pk' T' → T' ≤ i + 5 → h' 999 = h 999 → K 10 [some (xR 999), some (xR 0), some (xR 64), some (xI (i + 5))] [] 81 h') : K 907 [some (xR 999), some (xR 0), some (xR 64), some (xI i)] [] 81 h := by
  have e9L : ∀ h1 : xq_H, h1 999 = h 999 → h1 999 (-1) = h 999 (-1) := fun h1 z => by rw [z]
  refine xq_go hK [10] 100 ?_
  refine And.intro (by omega) ?_
  refine And.intro (by omega) ?_
  refine ⟨lev - 1, by omega, q_X_trace (by omega) (fun h1 e1 => ?_)⟩
  have e65 : h1 65 = h 65 := e1 65 (by decide)
  have e9 : h1 999 = h 999 := e1 999 (by decide)
  have e9l := e9L h1 e9
  have I1 := xr_in_ck e1 I
  refine And.intro (by omega) ?_
  refine And.intro (by omega) ?_
  refine ⟨lev - 1, by omega, q_M_trace (by omega) I1.rb (fun h2 e2 => ?_)⟩
  have e92 : h2 999 = h1 999 := e2.1 999 (by decide)
  have I2 := xr_in_rk e2 I1
  refine And.intro (fun _ => ?_) (fun c => absurd ?_ c)
  · refine And.intro (by omega) ?_
    exact D h2 _ _ _ I2 (by omega) (e92.trans e9)
  · rw [e9, e1 64 (by decide), e1 79 (by decide), I.ra]
    exact sp_trace_eq I.tr

theorem lc_as {lev : Nat} {Q : Option xq_V → xq_H → Prop} {K : xq_KT} {h : xq_H} {P Pk : List xf_Cl} {T i : Int} (hK : xq_sound (xq_C lev) rw_L_law 81 Q K) (hl : 70 ≤ lev) (I : xr_in h P Pk T) (hT : T ≤ i) (hi : 0 ≤ i) (hi5 : i + 5 ≤ h 999 (-1)) (hL : h 999 (-1) ≤ 2560) (hs : ∀ j, -2147483648 ≤ h 999 j ∧ h 999 j ≤ 2147483647) (D : ∀ h' P' Pk' T', xr_in h' P' Pk' T' → T' ≤ i + 5 → h' 999 = h 999 → K 10 [some (xR 999), some (xR 0), some (xR 64), some (xI (i + 5))] [] 81 h') : K 924 [some (xR 999), some (xR 0), some (xR 64), some (xI i)] [] 81 h := by
  have e9L : ∀ h1 : xq_H, h1 999 = h 999 → h1 999 (-1) = h 999 (-1) := fun h1 z => by rw [z]
  refine xq_go hK [10] 100 ?_
  refine And.intro (by omega) ?_
  refine And.intro (by omega) ?_
  refine And.intro (by omega) ?_
  refine And.intro (by omega) ?_
  refine ⟨lev - 1, by omega, q_X_as (by omega) I.ok (fun h1 e1 => ?_)⟩
  have e65 : h1 65 = h 65 := e1 65 (by decide)
  have e9 : h1 999 = h 999 := e1 999 (by decide)
  have e9l := e9L h1 e9
  have I1 := xr_in_ck e1 I
  refine And.intro (by omega) ?_
  refine And.intro (by omega) ?_
  refine And.intro (by omega) ?_
  refine And.intro (by omega) ?_
  refine ⟨lev - 1, by omega, q_M_as (by omega) (by rw [e65]; exact I.ok.vm) (fun h2 e2 => ?_)⟩
  have e92 : h2 999 = h1 999 := e2.1 999 (by decide)
  have I2 := xr_in_rk e2 I1
  refine And.intro (fun _ => ?_) (fun c => absurd ?_ c)
  · refine And.intro (by omega) ?_
    exact D h2 _ _ _ I2 (by omega) (e92.trans e9)
  · rw [e9, e65]

theorem lc_image {lev : Nat} {Q : Option xq_V → xq_H → Prop} {K : xq_KT} {h : xq_H} {P Pk : List xf_Cl} {T i : Int} (hK : xq_sound (xq_C lev) rw_L_law 81 Q K) (hl : 70 ≤ lev) (I : xr_in h P Pk T) (hT : T ≤ i) (hi : 0 ≤ i) (hi5 : i + 5 ≤ h 999 (-1)) (hL : h 999 (-1) ≤ 2560) (hs : ∀ j, -2147483648 ≤ h 999 j ∧ h 999 j ≤ 2147483647) (D : ∀ h' P' Pk' T', xr_in h' P' Pk' T' → T' ≤ i + 5 → h' 999 = h 999 → K 10 [some (xR 999), some (xR 0), some (xR 64), some (xI (i + 5))] [] 81 h') : K 951 [some (xR 999), some (xR 0), some (xR 64), some (xI i)] [] 81 h := by
  have e9L : ∀ h1 : xq_H, h1 999 = h 999 → h1 999 (-1) = h 999 (-1) := fun h1 z => by rw [z]
  refine xq_go hK [10] 100 ?_
  refine ⟨lev - 1, by omega, q_X_image (by omega) I.ok (fun h1 e1 r1 r2 => ?_)⟩
  have e65 : h1 65 = h 65 := e1 65 (by decide)
  have e9 : h1 999 = h 999 := e1 999 (by decide)
  refine ⟨lev - 1, by omega, q_M_image (by omega) (fun h2 e2 e3 s1 s2 => ?_)⟩
  have e92 : h2 999 = h1 999 := e2 999 (by decide)
  have e27 : h2 64 27 = h 64 27 := (e3 27 (by omega)).trans (by rw [e1 64 (by decide)])
  have I2 : xr_in h2 P P T := by
    have e652 : h2 65 = h 65 := (e2 65 (by decide)).trans e65
    refine ⟨⟨by rw [e652]; exact xr_now_fr e2 (by decide) (xr_now_fr e1 (by decide) I.ok.now), by rw [e652]; exact I.ok.vm, by rw [e652]; exact I.ok.vn, by rw [e652]; exact I.ok.ph, by rw [e652]; exact I.ok.ty⟩, ?_, ?_, ?_, ?_, ?_, ?_⟩
    · rw [s1, e2 0 (by decide), r1]
    · exact Or.inr s1
    · intro _
      refine xr_ok_row (m := h 65) (fun k k0 k1 => by rw [s2 k k0 k1, e65]) ?_
      refine ⟨xr_now_fr (X := [36, 38]) (h := xr_sh h1) (fun o ho => ?_) (by decide) r2.now, r2.vm, r2.vn, r2.ph, r2.ty⟩
      simp only [List.mem_cons, List.not_mem_nil, or_false] at ho
      refine e2 (o + 28) (fun z => ?_)
      simp only [List.mem_cons, List.not_mem_nil, or_false] at z
      omega
    · rw [e27, e2 60 (by decide), e1 60 (by decide)]; exact I.ra
    · rw [e27]; exact I.rb
    · rw [e27, e2 61 (by decide), e1 61 (by decide), e2 79 (by decide), e1 79 (by decide)]; exact I.tr
  refine And.intro (fun _ => ?_) (fun c => absurd ?_ c)
  · refine And.intro (by omega) ?_
    exact D h2 _ _ _ I2 (by omega) (e92.trans e9)
  · rw [e65]

theorem lc_undo {lev : Nat} {Q : Option xq_V → xq_H → Prop} {K : xq_KT} {h : xq_H} {P Pk : List xf_Cl} {T i : Int} (hK : xq_sound (xq_C lev) rw_L_law 81 Q K) (hl : 70 ≤ lev) (I : xr_in h P Pk T) (hT : T ≤ i) (hi : 0 ≤ i) (hi5 : i + 5 ≤ h 999 (-1)) (hL : h 999 (-1) ≤ 2560) (hs : ∀ j, -2147483648 ≤ h 999 j ∧ h 999 j ≤ 2147483647) (D : ∀ h' P' Pk' T', xr_in h' P' Pk' T' → T' ≤ i + 5 → h' 999 = h 999 → K 10 [some (xR 999), some (xR 0), some (xR 64), some (xI (i + 5))] [] 81 h') : K 958 [some (xR 999), some (xR 0), some (xR 64), some (xI i)] [] 81 h := by
  have e9L : ∀ h1 : xq_H, h1 999 = h 999 → h1 999 (-1) = h 999 (-1) := fun h1 z => by rw [z]
  refine xq_go hK [10] 100 ?_
  refine ⟨lev - 1, by omega, q_X_undo (m := h 66) (P := Pk) (T := T) (by omega) (by rw [I.ki]; exact I.kb) (fun z => I.kn (by rw [← I.ki]; exact z)) (fun z => ?_) (fun z h1 e1 O => ?_)⟩
  · rw [I.ki] at z
    refine ⟨lev - 1, by omega, q_M_undo (by omega) I.kb (fun _ => ?_) (fun z' => absurd z' (by omega))⟩
    refine And.intro (fun _ => ?_) (fun c => absurd rfl c)
    refine And.intro (by omega) ?_
    exact D h _ _ _ I (by omega) rfl
  · rw [I.ki] at z
    have e64 : h1 64 = h 64 := e1 64 (by decide)
    have e66 : h1 66 = h 66 := e1 66 (by decide)
    have e9 : h1 999 = h 999 := e1 999 (by decide)
    refine ⟨lev - 1, by omega, q_M_undo (by omega) (by rw [e64]; exact I.kb) (fun z' => absurd z' (by rw [e64]; omega)) (fun z' h2 e2 s2 => ?_)⟩
    have e92 : h2 999 = h1 999 := e2 999 (by decide)
    have I2 := xr_in_mut (P' := Pk) (T' := T) I (Int.le_refl _) e1 (xr_ok_row (m := h 66) (fun k k0 k1 => by rw [s2 k k0 k1, e66]) O) ⟨xs_tr xs_rf e2 (X := []) (by decide) (by decide), fun k _ => by rw [e2 64 (by decide)]⟩
    refine And.intro (fun _ => ?_) (fun c => absurd ?_ c)
    · refine And.intro (by omega) ?_
      exact D h2 _ _ _ I2 (by omega) (e92.trans e9)
    · rw [e66]

theorem lc_count {lev : Nat} {Q : Option xq_V → xq_H → Prop} {K : xq_KT} {h : xq_H} {P Pk : List xf_Cl} {T i : Int} (hK : xq_sound (xq_C lev) rw_L_law 81 Q K) (hl : 70 ≤ lev) (I : xr_in h P Pk T) (hT : T ≤ i) (hi : 0 ≤ i) (hi5 : i + 5 ≤ h 999 (-1)) (hL : h 999 (-1) ≤ 2560) (hs : ∀ j, -2147483648 ≤ h 999 j ∧ h 999 j ≤ 2147483647) (D : ∀ h' P' Pk' T', xr_in h' P' Pk' T' → T' ≤ i + 5 → h' 999 = h 999 → K 10 [some (xR 999), some (xR 0), some (xR 64), some (xI (i + 5))] [] 81 h') : K 965 [some (xR 999), some (xR 0), some (xR 64), some (xI i)] [] 81 h := by
  have e9L : ∀ h1 : xq_H, h1 999 = h 999 → h1 999 (-1) = h 999 (-1) := fun h1 z => by rw [z]
  refine xq_go hK [10] 100 ?_
  refine And.intro (by omega) ?_
  refine And.intro (by omega) ?_
  refine ⟨lev - 1, by omega, q_X_count (by omega) I.ok (fun h1 e1 => ?_)⟩
  have e65 : h1 65 = h 65 := e1 65 (by decide)
  have e9 : h1 999 = h 999 := e1 999 (by decide)
  have e9l := e9L h1 e9
  have I1 := xr_in_ck e1 I
  refine And.intro (by omega) ?_
  refine And.intro (by omega) ?_
  refine ⟨lev - 1, by omega, q_M_count (by omega) (fun h2 e2 => ?_)⟩
  have e92 : h2 999 = h1 999 := e2.1 999 (by decide)
  have I2 := xr_in_rk e2 I1
  refine And.intro (fun _ => ?_) (fun c => absurd ?_ c)
  · refine And.intro (by omega) ?_
    exact D h2 _ _ _ I2 (by omega) (e92.trans e9)
  · rw [e9, e65, e1 64 (by decide), I.ra]
