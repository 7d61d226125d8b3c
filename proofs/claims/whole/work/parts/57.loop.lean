/-! THE LAW'S LOOP (by wip/whole/genloop.py) -/
theorem lx_head {lev : Nat} {Q : Option xq_V → xq_H → Prop} {K : xq_KT} {h : xq_H} {P Pk : List xf_Cl} {T i : Int} (hK : xq_sound (xq_C lev) rw_L_law 81 Q K) (hl : 70 ≤ lev) (I : xr_in h P Pk T) (hT : T ≤ i) (hi : 0 ≤ i) (hi2 : i ≤ 2565) (hL0 : 0 ≤ h 999 (-1)) (hL : h 999 (-1) ≤ 2560) (hs : ∀ j, -2147483648 ≤ h 999 j ∧ h 999 j ≤ 2147483647) (hQ : ∀ h', Q (some (xI 1)) h') (D : i + 5 ≤ h 999 (-1) → ∀ h' P' Pk' T', xr_in h' P' Pk' T' → T' ≤ i + 5 → h' 999 = h 999 → K 10 [some (xR 999), some (xR 0), some (xR 64), some (xI (i + 5))] [] 81 h') : K 10 [some (xR 999), some (xR 0), some (xR 64), some (xI i)] [] 81 h := by
  refine xq_go hK [10, 22, 39, 46, 73, 100, 127, 172, 199, 226, 263, 290, 297, 304, 321, 348, 395, 412, 449, 466, 503, 530, 557, 574, 601, 639, 667, 704, 731, 758, 785, 792, 809, 826, 863, 870, 907, 924, 951, 958, 965] 60 ?_
  refine And.intro (by omega) ?_
  refine And.intro (fun _ => ?_) (fun c => ?_)
  · exact And.intro (Or.inr rfl) (hQ h)
  have hi5 : i + 5 ≤ h 999 (-1) := by omega
  have D' := D hi5
  refine And.intro (by omega) ?_
  refine And.intro (fun _ => lc_feed hK hl I hT hi hi5 hL hs D') (fun _ => ?_)
  refine And.intro (fun _ => lc_telephone hK hl I hT hi hi5 hL hs D') (fun _ => ?_)
  refine And.intro (fun _ => lc_word hK hl I hT hi hi5 hL hs D') (fun _ => ?_)
  refine And.intro (fun _ => lc_listed hK hl I hT hi hi5 hL hs D') (fun _ => ?_)
  refine And.intro (fun _ => lc_weigh hK hl I hT hi hi5 hL hs D') (fun _ => ?_)
  refine And.intro (fun _ => lc_behind hK hl I hT hi hi5 hL hs D') (fun _ => ?_)
  refine And.intro (fun _ => lc_mender hK hl I hT hi hi5 hL hs D') (fun _ => ?_)
  refine And.intro (fun _ => lc_of hK hl I hT hi hi5 hL hs D') (fun _ => ?_)
  refine And.intro (fun _ => lc_row hK hl I hT hi hi5 hL hs D') (fun _ => ?_)
  refine And.intro (fun _ => lc_type hK hl I hT hi hi5 hL hs D') (fun _ => ?_)
  refine And.intro (fun _ => lc_back hK hl I hT hi hi5 hL hs D') (fun _ => ?_)
  refine And.intro (fun _ => lc_send hK hl I hT hi hi5 hL hs D') (fun _ => ?_)
  refine And.intro (fun _ => lc_told hK hl I hT hi hi5 hL hs D') (fun _ => ?_)
  refine And.intro (fun _ => lc_makes hK hl I hT hi hi5 hL hs D') (fun _ => ?_)
  refine And.intro (fun _ => lc_cost hK hl I hT hi hi5 hL hs D') (fun _ => ?_)
  refine And.intro (fun _ => lc_stays hK hl I hT hi hi5 hL hs D') (fun _ => ?_)
  refine And.intro (fun _ => lc_touches hK hl I hT hi hi5 hL hs D') (fun _ => ?_)
  refine And.intro (fun _ => lc_never hK hl I hT hi hi5 hL hs D') (fun _ => ?_)
  refine And.intro (fun _ => lc_round hK hl I hT hi hi5 hL hs D') (fun _ => ?_)
  refine And.intro (fun _ => lc_stands hK hl I hT hi hi5 hL hs D') (fun _ => ?_)
  refine And.intro (fun _ => lc_guess hK hl I hT hi hi5 hL hs D') (fun _ => ?_)
  refine And.intro (fun _ => lc_letter hK hl I hT hi hi5 hL hs D') (fun _ => ?_)
  refine And.intro (fun _ => lc_enough hK hl I hT hi hi5 hL hs D') (fun _ => ?_)
  refine And.intro (fun _ => lc_slips hK hl I hT hi hi5 hL hs D') (fun _ => ?_)
  refine And.intro (fun _ => lc_wrong hK hl I hT hi hi5 hL hs D') (fun _ => ?_)
  refine And.intro (fun _ => lc_chain hK hl I hT hi hi5 hL hs D') (fun _ => ?_)
  refine And.intro (fun _ => lc_meant hK hl I hT hi hi5 hL hs D') (fun _ => ?_)
  refine And.intro (fun _ => lc_likeliest hK hl I hT hi hi5 hL hs D') (fun _ => ?_)
  refine And.intro (fun _ => lc_who hK hl I hT hi hi5 hL hs D') (fun _ => ?_)
  refine And.intro (fun _ => lc_twins hK hl I hT hi hi5 hL hs D') (fun _ => ?_)
  refine And.intro (fun _ => lc_room hK hl I hT hi hi5 hL hs D') (fun _ => ?_)
  refine And.intro (fun _ => lc_saved hK hl I hT hi hi5 hL hs D') (fun _ => ?_)
  refine And.intro (fun _ => lc_book hK hl I hT hi hi5 hL hs D') (fun _ => ?_)
  refine And.intro (fun _ => lc_looked hK hl I hT hi hi5 hL hs D') (fun _ => ?_)
  refine And.intro (fun _ => lc_act hK hl I hT hi hi5 hL hs D') (fun _ => ?_)
  refine And.intro (fun _ => lc_trace hK hl I hT hi hi5 hL hs D') (fun _ => ?_)
  refine And.intro (fun _ => lc_as hK hl I hT hi hi5 hL hs D') (fun _ => ?_)
  refine And.intro (fun _ => lc_image hK hl I hT hi hi5 hL hs D') (fun _ => ?_)
  refine And.intro (fun _ => lc_undo hK hl I hT hi hi5 hL hs D') (fun _ => ?_)
  refine And.intro (fun _ => lc_count hK hl I hT hi hi5 hL hs D') (fun _ => ?_)
  refine And.intro (by omega) ?_
  exact D' h _ _ _ I (by omega) rfl
theorem lx_loop {lev : Nat} {Q : Option xq_V → xq_H → Prop} {K : xq_KT} (hK : xq_sound (xq_C lev) rw_L_law 81 Q K) (hl : 70 ≤ lev) (hQ : ∀ h', Q (some (xI 1)) h') : ∀ (n : Nat) (h : xq_H) (P Pk : List xf_Cl) (T i : Int), xr_in h P Pk T → T ≤ i → 0 ≤ i → i ≤ 2565 → 0 ≤ h 999 (-1) → h 999 (-1) ≤ 2560 → (∀ j, -2147483648 ≤ h 999 j ∧ h 999 j ≤ 2147483647) → h 999 (-1) < i + n → K 10 [some (xR 999), some (xR 0), some (xR 64), some (xI i)] [] 81 h := by
  intro n
  induction n with
  | zero =>
    intro h P Pk T i I hT hi hi2 hL0 hL hs hn
    exact lx_head hK hl I hT hi hi2 hL0 hL hs hQ (fun c => absurd c (by omega))
  | succ n ih =>
    intro h P Pk T i I hT hi hi2 hL0 hL hs hn
    refine lx_head hK hl I hT hi hi2 hL0 hL hs hQ (fun c h' P' Pk' T' I' hT' e => ?_)
    exact ih h' P' Pk' T' (i + 5) I' hT' (by omega) (by omega) (by rw [e]; exact hL0) (by rw [e]; exact hL) (by rw [e]; exact hs) (by rw [e]; omega)
