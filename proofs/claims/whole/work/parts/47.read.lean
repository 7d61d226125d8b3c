/-! READING SIGNS (genread.py) -/
theorem xb_shr0 : ∀ n : Nat, n < 8 → xq_shr n 0 = n := by decide +kernel
theorem xb_and255 : ∀ n : Nat, n < 128 → xq_and n 255 = n := by decide +kernel
theorem xb_ushr8 : ∀ n : Nat, n < 128 → xq_ushr n 8 = 0 := by decide +kernel
theorem c_JS_coder {lev : Nat} {h : xq_H} {Q : Option xq_V → xq_H → Prop} {o : Nat} (hl : 1 ≤ lev) (ho : o = 1100 ∨ o = 1101 ∨ o = 1102 ∨ o = 1103 ∨ o = 1104 ∨ o = 1105 ∨ o = 1106 ∨ o = 1107 ∨ o = 1108 ∨ o = 1109) (hQ : Q (some (xI 0)) h) : xq_met lev y_JS_coder [xR o] 81 h Q := by
  refine en_JS_coder (by omega) (fun K hK => ?_)
  refine xq_go hK [] 60 ?_
  rcases ho with rfl | rfl | rfl | rfl | rfl | rfl | rfl | rfl | rfl | rfl
  all_goals
    refine And.intro (fun c => absurd c (by decide)) (fun _ => ?_)
    refine And.intro (by decide) ?_
    exact hQ
theorem c_JS_isLatin1 {lev : Nat} {h : xq_H} {Q : Option xq_V → xq_H → Prop} {o : Nat} (hl : 1 ≤ lev) (ho : o = 1100 ∨ o = 1101 ∨ o = 1102 ∨ o = 1103 ∨ o = 1104 ∨ o = 1105 ∨ o = 1106 ∨ o = 1107 ∨ o = 1108 ∨ o = 1109) (hQ : Q (some (xI 1)) h) : xq_met lev y_JS_isLatin1 [xR o] 81 h Q := by
  refine en_JS_isLatin1 (by omega) (fun K hK => ?_)
  refine xq_go hK [] 60 ?_
  rcases ho with rfl | rfl | rfl | rfl | rfl | rfl | rfl | rfl | rfl | rfl
  all_goals
    refine And.intro (fun c => absurd c (by decide)) (fun _ => ?_)
    refine And.intro (fun c => absurd rfl c) (fun _ => ?_)
    exact And.intro (Or.inr rfl) hQ
theorem c_JS_length_0 {lev : Nat} {h : xq_H} {Q : Option xq_V → xq_H → Prop} (hl : 2 ≤ lev) (hQ : Q (some (xI 5)) h) : xq_met lev y_JS_length [xR 1100] 81 h Q := by
  refine en_JS_length (by omega) (fun K hK => ?_)
  refine xq_go hK [] 60 ?_
  refine ⟨lev - 1, by omega, c_JS_coder (by omega) (by decide) ?_⟩
  rw [show (5 : Int) = xq_shr ((5 : Nat) : Int) 0 from (xb_shr0 5 (by decide)).symm] at hQ
  exact hQ
theorem c_JS_charAt_0 {lev : Nat} {h : xq_H} {Q : Option xq_V → xq_H → Prop} {i : Int} (hl : 4 ≤ lev) (hi : 0 ≤ i ∧ i < 5) (hQ : Q (some (xI ((xq_str 0).getD i.toNat 0))) h) : xq_met lev y_JS_charAt [xR 1100, xI i] 81 h Q := by
  have hv : ∀ j : Nat, j < 5 → 0 ≤ (xq_str 0).getD j 0 ∧ (xq_str 0).getD j 0 ≤ 127 ∧ xq_and ((xq_str 0).getD j 0) 255 = (xq_str 0).getD j 0 := by decide +kernel
  obtain ⟨j, rfl⟩ := Int.eq_ofNat_of_zero_le hi.1
  have hj := hv j (by omega)
  have key : ∀ lev, 3 ≤ lev → ∀ Q2 : Option xq_V → xq_H → Prop, Q2 (some (xI ((xq_str 0).getD j 0))) h → xq_met lev y_JL_charAt [xR 1200, xI (j : Int)] 81 h Q2 := by
    intro lev hl Q2 q2
    refine en_JL_charAt (by omega) (fun K hK => ?_)
    refine xq_go hK [] 60 ?_
    refine ⟨lev - 1, by omega, c_JS_checkIndex (by omega) hi ?_⟩
    refine And.intro hi ?_
    have e := hj.2.2
    refine And.intro (by show 0 ≤ xq_and ((xq_str 0).getD j 0) 255 ∧ xq_and ((xq_str 0).getD j 0) 255 ≤ 65535; omega) ?_
    refine And.intro (by show 0 ≤ xq_and ((xq_str 0).getD j 0) 255 ∧ xq_and ((xq_str 0).getD j 0) 255 ≤ 65535; omega) ?_
    rw [← e] at q2
    exact q2
  refine en_JS_charAt (by omega) (fun K hK => ?_)
  refine xq_go hK [] 60 ?_
  refine ⟨lev - 1, by omega, c_JS_isLatin1 (by omega) (by decide) ?_⟩
  refine And.intro (fun c => absurd c (by decide)) (fun _ => ?_)
  refine ⟨lev - 1, by omega, key (lev - 1) (by omega) _ ?_⟩
  exact And.intro (by omega) hQ
theorem c_JS_length_1 {lev : Nat} {h : xq_H} {Q : Option xq_V → xq_H → Prop} (hl : 2 ≤ lev) (hQ : Q (some (xI 4)) h) : xq_met lev y_JS_length [xR 1101] 81 h Q := by
  refine en_JS_length (by omega) (fun K hK => ?_)
  refine xq_go hK [] 60 ?_
  refine ⟨lev - 1, by omega, c_JS_coder (by omega) (by decide) ?_⟩
  rw [show (4 : Int) = xq_shr ((4 : Nat) : Int) 0 from (xb_shr0 4 (by decide)).symm] at hQ
  exact hQ
theorem c_JS_charAt_1 {lev : Nat} {h : xq_H} {Q : Option xq_V → xq_H → Prop} {i : Int} (hl : 4 ≤ lev) (hi : 0 ≤ i ∧ i < 4) (hQ : Q (some (xI ((xq_str 1).getD i.toNat 0))) h) : xq_met lev y_JS_charAt [xR 1101, xI i] 81 h Q := by
  have hv : ∀ j : Nat, j < 4 → 0 ≤ (xq_str 1).getD j 0 ∧ (xq_str 1).getD j 0 ≤ 127 ∧ xq_and ((xq_str 1).getD j 0) 255 = (xq_str 1).getD j 0 := by decide +kernel
  obtain ⟨j, rfl⟩ := Int.eq_ofNat_of_zero_le hi.1
  have hj := hv j (by omega)
  have key : ∀ lev, 3 ≤ lev → ∀ Q2 : Option xq_V → xq_H → Prop, Q2 (some (xI ((xq_str 1).getD j 0))) h → xq_met lev y_JL_charAt [xR 1201, xI (j : Int)] 81 h Q2 := by
    intro lev hl Q2 q2
    refine en_JL_charAt (by omega) (fun K hK => ?_)
    refine xq_go hK [] 60 ?_
    refine ⟨lev - 1, by omega, c_JS_checkIndex (by omega) hi ?_⟩
    refine And.intro hi ?_
    have e := hj.2.2
    refine And.intro (by show 0 ≤ xq_and ((xq_str 1).getD j 0) 255 ∧ xq_and ((xq_str 1).getD j 0) 255 ≤ 65535; omega) ?_
    refine And.intro (by show 0 ≤ xq_and ((xq_str 1).getD j 0) 255 ∧ xq_and ((xq_str 1).getD j 0) 255 ≤ 65535; omega) ?_
    rw [← e] at q2
    exact q2
  refine en_JS_charAt (by omega) (fun K hK => ?_)
  refine xq_go hK [] 60 ?_
  refine ⟨lev - 1, by omega, c_JS_isLatin1 (by omega) (by decide) ?_⟩
  refine And.intro (fun c => absurd c (by decide)) (fun _ => ?_)
  refine ⟨lev - 1, by omega, key (lev - 1) (by omega) _ ?_⟩
  exact And.intro (by omega) hQ
theorem c_JS_length_2 {lev : Nat} {h : xq_H} {Q : Option xq_V → xq_H → Prop} (hl : 2 ≤ lev) (hQ : Q (some (xI 4)) h) : xq_met lev y_JS_length [xR 1102] 81 h Q := by
  refine en_JS_length (by omega) (fun K hK => ?_)
  refine xq_go hK [] 60 ?_
  refine ⟨lev - 1, by omega, c_JS_coder (by omega) (by decide) ?_⟩
  rw [show (4 : Int) = xq_shr ((4 : Nat) : Int) 0 from (xb_shr0 4 (by decide)).symm] at hQ
  exact hQ
theorem c_JS_charAt_2 {lev : Nat} {h : xq_H} {Q : Option xq_V → xq_H → Prop} {i : Int} (hl : 4 ≤ lev) (hi : 0 ≤ i ∧ i < 4) (hQ : Q (some (xI ((xq_str 2).getD i.toNat 0))) h) : xq_met lev y_JS_charAt [xR 1102, xI i] 81 h Q := by
  have hv : ∀ j : Nat, j < 4 → 0 ≤ (xq_str 2).getD j 0 ∧ (xq_str 2).getD j 0 ≤ 127 ∧ xq_and ((xq_str 2).getD j 0) 255 = (xq_str 2).getD j 0 := by decide +kernel
  obtain ⟨j, rfl⟩ := Int.eq_ofNat_of_zero_le hi.1
  have hj := hv j (by omega)
  have key : ∀ lev, 3 ≤ lev → ∀ Q2 : Option xq_V → xq_H → Prop, Q2 (some (xI ((xq_str 2).getD j 0))) h → xq_met lev y_JL_charAt [xR 1202, xI (j : Int)] 81 h Q2 := by
    intro lev hl Q2 q2
    refine en_JL_charAt (by omega) (fun K hK => ?_)
    refine xq_go hK [] 60 ?_
    refine ⟨lev - 1, by omega, c_JS_checkIndex (by omega) hi ?_⟩
    refine And.intro hi ?_
    have e := hj.2.2
    refine And.intro (by show 0 ≤ xq_and ((xq_str 2).getD j 0) 255 ∧ xq_and ((xq_str 2).getD j 0) 255 ≤ 65535; omega) ?_
    refine And.intro (by show 0 ≤ xq_and ((xq_str 2).getD j 0) 255 ∧ xq_and ((xq_str 2).getD j 0) 255 ≤ 65535; omega) ?_
    rw [← e] at q2
    exact q2
  refine en_JS_charAt (by omega) (fun K hK => ?_)
  refine xq_go hK [] 60 ?_
  refine ⟨lev - 1, by omega, c_JS_isLatin1 (by omega) (by decide) ?_⟩
  refine And.intro (fun c => absurd c (by decide)) (fun _ => ?_)
  refine ⟨lev - 1, by omega, key (lev - 1) (by omega) _ ?_⟩
  exact And.intro (by omega) hQ
theorem c_JS_length_3 {lev : Nat} {h : xq_H} {Q : Option xq_V → xq_H → Prop} (hl : 2 ≤ lev) (hQ : Q (some (xI 4)) h) : xq_met lev y_JS_length [xR 1103] 81 h Q := by
  refine en_JS_length (by omega) (fun K hK => ?_)
  refine xq_go hK [] 60 ?_
  refine ⟨lev - 1, by omega, c_JS_coder (by omega) (by decide) ?_⟩
  rw [show (4 : Int) = xq_shr ((4 : Nat) : Int) 0 from (xb_shr0 4 (by decide)).symm] at hQ
  exact hQ
theorem c_JS_charAt_3 {lev : Nat} {h : xq_H} {Q : Option xq_V → xq_H → Prop} {i : Int} (hl : 4 ≤ lev) (hi : 0 ≤ i ∧ i < 4) (hQ : Q (some (xI ((xq_str 3).getD i.toNat 0))) h) : xq_met lev y_JS_charAt [xR 1103, xI i] 81 h Q := by
  have hv : ∀ j : Nat, j < 4 → 0 ≤ (xq_str 3).getD j 0 ∧ (xq_str 3).getD j 0 ≤ 127 ∧ xq_and ((xq_str 3).getD j 0) 255 = (xq_str 3).getD j 0 := by decide +kernel
  obtain ⟨j, rfl⟩ := Int.eq_ofNat_of_zero_le hi.1
  have hj := hv j (by omega)
  have key : ∀ lev, 3 ≤ lev → ∀ Q2 : Option xq_V → xq_H → Prop, Q2 (some (xI ((xq_str 3).getD j 0))) h → xq_met lev y_JL_charAt [xR 1203, xI (j : Int)] 81 h Q2 := by
    intro lev hl Q2 q2
    refine en_JL_charAt (by omega) (fun K hK => ?_)
    refine xq_go hK [] 60 ?_
    refine ⟨lev - 1, by omega, c_JS_checkIndex (by omega) hi ?_⟩
    refine And.intro hi ?_
    have e := hj.2.2
    refine And.intro (by show 0 ≤ xq_and ((xq_str 3).getD j 0) 255 ∧ xq_and ((xq_str 3).getD j 0) 255 ≤ 65535; omega) ?_
    refine And.intro (by show 0 ≤ xq_and ((xq_str 3).getD j 0) 255 ∧ xq_and ((xq_str 3).getD j 0) 255 ≤ 65535; omega) ?_
    rw [← e] at q2
    exact q2
  refine en_JS_charAt (by omega) (fun K hK => ?_)
  refine xq_go hK [] 60 ?_
  refine ⟨lev - 1, by omega, c_JS_isLatin1 (by omega) (by decide) ?_⟩
  refine And.intro (fun c => absurd c (by decide)) (fun _ => ?_)
  refine ⟨lev - 1, by omega, key (lev - 1) (by omega) _ ?_⟩
  exact And.intro (by omega) hQ
theorem c_JS_length_4 {lev : Nat} {h : xq_H} {Q : Option xq_V → xq_H → Prop} (hl : 2 ≤ lev) (hQ : Q (some (xI 6)) h) : xq_met lev y_JS_length [xR 1104] 81 h Q := by
  refine en_JS_length (by omega) (fun K hK => ?_)
  refine xq_go hK [] 60 ?_
  refine ⟨lev - 1, by omega, c_JS_coder (by omega) (by decide) ?_⟩
  rw [show (6 : Int) = xq_shr ((6 : Nat) : Int) 0 from (xb_shr0 6 (by decide)).symm] at hQ
  exact hQ
theorem c_JS_charAt_4 {lev : Nat} {h : xq_H} {Q : Option xq_V → xq_H → Prop} {i : Int} (hl : 4 ≤ lev) (hi : 0 ≤ i ∧ i < 6) (hQ : Q (some (xI ((xq_str 4).getD i.toNat 0))) h) : xq_met lev y_JS_charAt [xR 1104, xI i] 81 h Q := by
  have hv : ∀ j : Nat, j < 6 → 0 ≤ (xq_str 4).getD j 0 ∧ (xq_str 4).getD j 0 ≤ 127 ∧ xq_and ((xq_str 4).getD j 0) 255 = (xq_str 4).getD j 0 := by decide +kernel
  obtain ⟨j, rfl⟩ := Int.eq_ofNat_of_zero_le hi.1
  have hj := hv j (by omega)
  have key : ∀ lev, 3 ≤ lev → ∀ Q2 : Option xq_V → xq_H → Prop, Q2 (some (xI ((xq_str 4).getD j 0))) h → xq_met lev y_JL_charAt [xR 1204, xI (j : Int)] 81 h Q2 := by
    intro lev hl Q2 q2
    refine en_JL_charAt (by omega) (fun K hK => ?_)
    refine xq_go hK [] 60 ?_
    refine ⟨lev - 1, by omega, c_JS_checkIndex (by omega) hi ?_⟩
    refine And.intro hi ?_
    have e := hj.2.2
    refine And.intro (by show 0 ≤ xq_and ((xq_str 4).getD j 0) 255 ∧ xq_and ((xq_str 4).getD j 0) 255 ≤ 65535; omega) ?_
    refine And.intro (by show 0 ≤ xq_and ((xq_str 4).getD j 0) 255 ∧ xq_and ((xq_str 4).getD j 0) 255 ≤ 65535; omega) ?_
    rw [← e] at q2
    exact q2
  refine en_JS_charAt (by omega) (fun K hK => ?_)
  refine xq_go hK [] 60 ?_
  refine ⟨lev - 1, by omega, c_JS_isLatin1 (by omega) (by decide) ?_⟩
  refine And.intro (fun c => absurd c (by decide)) (fun _ => ?_)
  refine ⟨lev - 1, by omega, key (lev - 1) (by omega) _ ?_⟩
  exact And.intro (by omega) hQ
theorem c_JS_length_5 {lev : Nat} {h : xq_H} {Q : Option xq_V → xq_H → Prop} (hl : 2 ≤ lev) (hQ : Q (some (xI 5)) h) : xq_met lev y_JS_length [xR 1105] 81 h Q := by
  refine en_JS_length (by omega) (fun K hK => ?_)
  refine xq_go hK [] 60 ?_
  refine ⟨lev - 1, by omega, c_JS_coder (by omega) (by decide) ?_⟩
  rw [show (5 : Int) = xq_shr ((5 : Nat) : Int) 0 from (xb_shr0 5 (by decide)).symm] at hQ
  exact hQ
theorem c_JS_charAt_5 {lev : Nat} {h : xq_H} {Q : Option xq_V → xq_H → Prop} {i : Int} (hl : 4 ≤ lev) (hi : 0 ≤ i ∧ i < 5) (hQ : Q (some (xI ((xq_str 5).getD i.toNat 0))) h) : xq_met lev y_JS_charAt [xR 1105, xI i] 81 h Q := by
  have hv : ∀ j : Nat, j < 5 → 0 ≤ (xq_str 5).getD j 0 ∧ (xq_str 5).getD j 0 ≤ 127 ∧ xq_and ((xq_str 5).getD j 0) 255 = (xq_str 5).getD j 0 := by decide +kernel
  obtain ⟨j, rfl⟩ := Int.eq_ofNat_of_zero_le hi.1
  have hj := hv j (by omega)
  have key : ∀ lev, 3 ≤ lev → ∀ Q2 : Option xq_V → xq_H → Prop, Q2 (some (xI ((xq_str 5).getD j 0))) h → xq_met lev y_JL_charAt [xR 1205, xI (j : Int)] 81 h Q2 := by
    intro lev hl Q2 q2
    refine en_JL_charAt (by omega) (fun K hK => ?_)
    refine xq_go hK [] 60 ?_
    refine ⟨lev - 1, by omega, c_JS_checkIndex (by omega) hi ?_⟩
    refine And.intro hi ?_
    have e := hj.2.2
    refine And.intro (by show 0 ≤ xq_and ((xq_str 5).getD j 0) 255 ∧ xq_and ((xq_str 5).getD j 0) 255 ≤ 65535; omega) ?_
    refine And.intro (by show 0 ≤ xq_and ((xq_str 5).getD j 0) 255 ∧ xq_and ((xq_str 5).getD j 0) 255 ≤ 65535; omega) ?_
    rw [← e] at q2
    exact q2
  refine en_JS_charAt (by omega) (fun K hK => ?_)
  refine xq_go hK [] 60 ?_
  refine ⟨lev - 1, by omega, c_JS_isLatin1 (by omega) (by decide) ?_⟩
  refine And.intro (fun c => absurd c (by decide)) (fun _ => ?_)
  refine ⟨lev - 1, by omega, key (lev - 1) (by omega) _ ?_⟩
  exact And.intro (by omega) hQ
theorem c_JS_length_6 {lev : Nat} {h : xq_H} {Q : Option xq_V → xq_H → Prop} (hl : 2 ≤ lev) (hQ : Q (some (xI 5)) h) : xq_met lev y_JS_length [xR 1106] 81 h Q := by
  refine en_JS_length (by omega) (fun K hK => ?_)
  refine xq_go hK [] 60 ?_
  refine ⟨lev - 1, by omega, c_JS_coder (by omega) (by decide) ?_⟩
  rw [show (5 : Int) = xq_shr ((5 : Nat) : Int) 0 from (xb_shr0 5 (by decide)).symm] at hQ
  exact hQ
theorem c_JS_charAt_6 {lev : Nat} {h : xq_H} {Q : Option xq_V → xq_H → Prop} {i : Int} (hl : 4 ≤ lev) (hi : 0 ≤ i ∧ i < 5) (hQ : Q (some (xI ((xq_str 6).getD i.toNat 0))) h) : xq_met lev y_JS_charAt [xR 1106, xI i] 81 h Q := by
  have hv : ∀ j : Nat, j < 5 → 0 ≤ (xq_str 6).getD j 0 ∧ (xq_str 6).getD j 0 ≤ 127 ∧ xq_and ((xq_str 6).getD j 0) 255 = (xq_str 6).getD j 0 := by decide +kernel
  obtain ⟨j, rfl⟩ := Int.eq_ofNat_of_zero_le hi.1
  have hj := hv j (by omega)
  have key : ∀ lev, 3 ≤ lev → ∀ Q2 : Option xq_V → xq_H → Prop, Q2 (some (xI ((xq_str 6).getD j 0))) h → xq_met lev y_JL_charAt [xR 1206, xI (j : Int)] 81 h Q2 := by
    intro lev hl Q2 q2
    refine en_JL_charAt (by omega) (fun K hK => ?_)
    refine xq_go hK [] 60 ?_
    refine ⟨lev - 1, by omega, c_JS_checkIndex (by omega) hi ?_⟩
    refine And.intro hi ?_
    have e := hj.2.2
    refine And.intro (by show 0 ≤ xq_and ((xq_str 6).getD j 0) 255 ∧ xq_and ((xq_str 6).getD j 0) 255 ≤ 65535; omega) ?_
    refine And.intro (by show 0 ≤ xq_and ((xq_str 6).getD j 0) 255 ∧ xq_and ((xq_str 6).getD j 0) 255 ≤ 65535; omega) ?_
    rw [← e] at q2
    exact q2
  refine en_JS_charAt (by omega) (fun K hK => ?_)
  refine xq_go hK [] 60 ?_
  refine ⟨lev - 1, by omega, c_JS_isLatin1 (by omega) (by decide) ?_⟩
  refine And.intro (fun c => absurd c (by decide)) (fun _ => ?_)
  refine ⟨lev - 1, by omega, key (lev - 1) (by omega) _ ?_⟩
  exact And.intro (by omega) hQ
theorem c_JS_length_7 {lev : Nat} {h : xq_H} {Q : Option xq_V → xq_H → Prop} (hl : 2 ≤ lev) (hQ : Q (some (xI 5)) h) : xq_met lev y_JS_length [xR 1107] 81 h Q := by
  refine en_JS_length (by omega) (fun K hK => ?_)
  refine xq_go hK [] 60 ?_
  refine ⟨lev - 1, by omega, c_JS_coder (by omega) (by decide) ?_⟩
  rw [show (5 : Int) = xq_shr ((5 : Nat) : Int) 0 from (xb_shr0 5 (by decide)).symm] at hQ
  exact hQ
theorem c_JS_charAt_7 {lev : Nat} {h : xq_H} {Q : Option xq_V → xq_H → Prop} {i : Int} (hl : 4 ≤ lev) (hi : 0 ≤ i ∧ i < 5) (hQ : Q (some (xI ((xq_str 7).getD i.toNat 0))) h) : xq_met lev y_JS_charAt [xR 1107, xI i] 81 h Q := by
  have hv : ∀ j : Nat, j < 5 → 0 ≤ (xq_str 7).getD j 0 ∧ (xq_str 7).getD j 0 ≤ 127 ∧ xq_and ((xq_str 7).getD j 0) 255 = (xq_str 7).getD j 0 := by decide +kernel
  obtain ⟨j, rfl⟩ := Int.eq_ofNat_of_zero_le hi.1
  have hj := hv j (by omega)
  have key : ∀ lev, 3 ≤ lev → ∀ Q2 : Option xq_V → xq_H → Prop, Q2 (some (xI ((xq_str 7).getD j 0))) h → xq_met lev y_JL_charAt [xR 1207, xI (j : Int)] 81 h Q2 := by
    intro lev hl Q2 q2
    refine en_JL_charAt (by omega) (fun K hK => ?_)
    refine xq_go hK [] 60 ?_
    refine ⟨lev - 1, by omega, c_JS_checkIndex (by omega) hi ?_⟩
    refine And.intro hi ?_
    have e := hj.2.2
    refine And.intro (by show 0 ≤ xq_and ((xq_str 7).getD j 0) 255 ∧ xq_and ((xq_str 7).getD j 0) 255 ≤ 65535; omega) ?_
    refine And.intro (by show 0 ≤ xq_and ((xq_str 7).getD j 0) 255 ∧ xq_and ((xq_str 7).getD j 0) 255 ≤ 65535; omega) ?_
    rw [← e] at q2
    exact q2
  refine en_JS_charAt (by omega) (fun K hK => ?_)
  refine xq_go hK [] 60 ?_
  refine ⟨lev - 1, by omega, c_JS_isLatin1 (by omega) (by decide) ?_⟩
  refine And.intro (fun c => absurd c (by decide)) (fun _ => ?_)
  refine ⟨lev - 1, by omega, key (lev - 1) (by omega) _ ?_⟩
  exact And.intro (by omega) hQ
theorem c_JS_length_8 {lev : Nat} {h : xq_H} {Q : Option xq_V → xq_H → Prop} (hl : 2 ≤ lev) (hQ : Q (some (xI 6)) h) : xq_met lev y_JS_length [xR 1108] 81 h Q := by
  refine en_JS_length (by omega) (fun K hK => ?_)
  refine xq_go hK [] 60 ?_
  refine ⟨lev - 1, by omega, c_JS_coder (by omega) (by decide) ?_⟩
  rw [show (6 : Int) = xq_shr ((6 : Nat) : Int) 0 from (xb_shr0 6 (by decide)).symm] at hQ
  exact hQ
theorem c_JS_charAt_8 {lev : Nat} {h : xq_H} {Q : Option xq_V → xq_H → Prop} {i : Int} (hl : 4 ≤ lev) (hi : 0 ≤ i ∧ i < 6) (hQ : Q (some (xI ((xq_str 8).getD i.toNat 0))) h) : xq_met lev y_JS_charAt [xR 1108, xI i] 81 h Q := by
  have hv : ∀ j : Nat, j < 6 → 0 ≤ (xq_str 8).getD j 0 ∧ (xq_str 8).getD j 0 ≤ 127 ∧ xq_and ((xq_str 8).getD j 0) 255 = (xq_str 8).getD j 0 := by decide +kernel
  obtain ⟨j, rfl⟩ := Int.eq_ofNat_of_zero_le hi.1
  have hj := hv j (by omega)
  have key : ∀ lev, 3 ≤ lev → ∀ Q2 : Option xq_V → xq_H → Prop, Q2 (some (xI ((xq_str 8).getD j 0))) h → xq_met lev y_JL_charAt [xR 1208, xI (j : Int)] 81 h Q2 := by
    intro lev hl Q2 q2
    refine en_JL_charAt (by omega) (fun K hK => ?_)
    refine xq_go hK [] 60 ?_
    refine ⟨lev - 1, by omega, c_JS_checkIndex (by omega) hi ?_⟩
    refine And.intro hi ?_
    have e := hj.2.2
    refine And.intro (by show 0 ≤ xq_and ((xq_str 8).getD j 0) 255 ∧ xq_and ((xq_str 8).getD j 0) 255 ≤ 65535; omega) ?_
    refine And.intro (by show 0 ≤ xq_and ((xq_str 8).getD j 0) 255 ∧ xq_and ((xq_str 8).getD j 0) 255 ≤ 65535; omega) ?_
    rw [← e] at q2
    exact q2
  refine en_JS_charAt (by omega) (fun K hK => ?_)
  refine xq_go hK [] 60 ?_
  refine ⟨lev - 1, by omega, c_JS_isLatin1 (by omega) (by decide) ?_⟩
  refine And.intro (fun c => absurd c (by decide)) (fun _ => ?_)
  refine ⟨lev - 1, by omega, key (lev - 1) (by omega) _ ?_⟩
  exact And.intro (by omega) hQ
theorem c_JS_length_9 {lev : Nat} {h : xq_H} {Q : Option xq_V → xq_H → Prop} (hl : 2 ≤ lev) (hQ : Q (some (xI 3)) h) : xq_met lev y_JS_length [xR 1109] 81 h Q := by
  refine en_JS_length (by omega) (fun K hK => ?_)
  refine xq_go hK [] 60 ?_
  refine ⟨lev - 1, by omega, c_JS_coder (by omega) (by decide) ?_⟩
  rw [show (3 : Int) = xq_shr ((3 : Nat) : Int) 0 from (xb_shr0 3 (by decide)).symm] at hQ
  exact hQ
theorem c_JS_charAt_9 {lev : Nat} {h : xq_H} {Q : Option xq_V → xq_H → Prop} {i : Int} (hl : 4 ≤ lev) (hi : 0 ≤ i ∧ i < 3) (hQ : Q (some (xI ((xq_str 9).getD i.toNat 0))) h) : xq_met lev y_JS_charAt [xR 1109, xI i] 81 h Q := by
  have hv : ∀ j : Nat, j < 3 → 0 ≤ (xq_str 9).getD j 0 ∧ (xq_str 9).getD j 0 ≤ 127 ∧ xq_and ((xq_str 9).getD j 0) 255 = (xq_str 9).getD j 0 := by decide +kernel
  obtain ⟨j, rfl⟩ := Int.eq_ofNat_of_zero_le hi.1
  have hj := hv j (by omega)
  have key : ∀ lev, 3 ≤ lev → ∀ Q2 : Option xq_V → xq_H → Prop, Q2 (some (xI ((xq_str 9).getD j 0))) h → xq_met lev y_JL_charAt [xR 1209, xI (j : Int)] 81 h Q2 := by
    intro lev hl Q2 q2
    refine en_JL_charAt (by omega) (fun K hK => ?_)
    refine xq_go hK [] 60 ?_
    refine ⟨lev - 1, by omega, c_JS_checkIndex (by omega) hi ?_⟩
    refine And.intro hi ?_
    have e := hj.2.2
    refine And.intro (by show 0 ≤ xq_and ((xq_str 9).getD j 0) 255 ∧ xq_and ((xq_str 9).getD j 0) 255 ≤ 65535; omega) ?_
    refine And.intro (by show 0 ≤ xq_and ((xq_str 9).getD j 0) 255 ∧ xq_and ((xq_str 9).getD j 0) 255 ≤ 65535; omega) ?_
    rw [← e] at q2
    exact q2
  refine en_JS_charAt (by omega) (fun K hK => ?_)
  refine xq_go hK [] 60 ?_
  refine ⟨lev - 1, by omega, c_JS_isLatin1 (by omega) (by decide) ?_⟩
  refine And.intro (fun c => absurd c (by decide)) (fun _ => ?_)
  refine ⟨lev - 1, by omega, key (lev - 1) (by omega) _ ?_⟩
  exact And.intro (by omega) hQ
theorem c_JS_indexOf_8 {lev : Nat} {h : xq_H} {Q : Option xq_V → xq_H → Prop} {c : Int} (hl : 8 ≤ lev) (hc : 0 ≤ c ∧ c ≤ 127) (hQ : Q (some (xI (xf_ix (fun k => (xq_str 8).getD k.toNat 0) c 6))) h) : xq_met lev y_JS_indexOf [xR 1108, xI c] 81 h Q := by
  have k1 : ∀ lev, 1 ≤ lev → ∀ Q2 : Option xq_V → xq_H → Prop, Q2 (some (xI (xf_ix (fun k => (xq_str 8).getD k.toNat 0) c 6))) h → xq_met lev y_JL_indexOfChar [xR 1208, xI c, xI 0, xI 6] 81 h Q2 := by
    intro lev hl Q2 hQ
    refine en_JL_indexOfChar (by omega) (fun K hK => ?_)
    have loop : ∀ (d i : Nat) (iI : Int), i + d = 6 → iI = i → (∀ k : Nat, k < i → (xq_str 8).getD k 0 ≠ c) → K 5 [some (xR 1208), some (xI c), some (xI 0), some (xI 6), some (xI c), some (xI iI)] [] 81 h := by
      intro d
      induction d with
      | zero =>
        intro i iI hd ei hno
        refine xq_go hK [5] 60 ?_
        refine And.intro (fun _ => ?_) (fun z => absurd z (by omega))
        rw [xf_ix_none (fun k hk => hno k (by omega))] at hQ
        exact hQ
      | succ d ih =>
        intro i iI hd ei hno
        subst ei
        refine xq_go hK [5] 60 ?_
        refine And.intro (fun z => absurd z (by omega)) (fun _ => ?_)
        refine And.intro (by show 0 ≤ (i : Int) ∧ (i : Int) < 6; omega) ?_
        refine And.intro (fun e => ?_) (fun e => ?_)
        · refine And.intro (by omega) ?_
          refine ih (i + 1) _ (by omega) (by omega) (fun k hk => ?_)
          by_cases hki : k = i
          · rw [hki]
            exact e
          · exact hno k (by omega)
        · rw [xf_ix_hit (i := i) (by omega) (fun k hk => hno k (by omega)) e] at hQ
          exact hQ
    refine xq_go hK [5] 60 ?_
    refine And.intro hc ?_
    exact loop 6 0 _ (by omega) rfl (fun k hk => by omega)
  have k2 : ∀ lev, 3 ≤ lev → ∀ Q2 : Option xq_V → xq_H → Prop, Q2 (some (xI (xf_ix (fun k => (xq_str 8).getD k.toNat 0) c 6))) h → xq_met lev y_JL_indexOf [xR 1208, xI c, xI 0, xI 6] 81 h Q2 := by
    intro lev hl Q2 hQ
    refine en_JL_indexOf (by omega) (fun K hK => ?_)
    have can : ∀ lev, 1 ≤ lev → ∀ Q2 : Option xq_V → xq_H → Prop, Q2 (some (xI 1)) h → xq_met lev y_JL_canEncode [xI c] 81 h Q2 := by
      intro lev hl Q2 q2
      refine en_JL_canEncode (by omega) (fun K hK => ?_)
      refine xq_go hK [] 60 ?_
      refine And.intro (fun z => absurd z (by omega)) (fun _ => ?_)
      refine And.intro (fun z => absurd z (by omega)) (fun _ => ?_)
      exact And.intro (Or.inr rfl) q2
    refine xq_go hK [] 60 ?_
    refine ⟨lev - 1, by omega, can (lev - 1) (by omega) _ ?_⟩
    refine And.intro (fun _ => ?_) (fun z => absurd z (by decide))
    refine ⟨lev - 1, by omega, c_JM_max (by omega) ?_⟩
    refine ⟨lev - 1, by omega, c_JM_min (by omega) ?_⟩
    refine And.intro (fun _ => ?_) (fun z => absurd (by decide) z)
    exact ⟨lev - 1, by omega, k1 (lev - 1) (by omega) _ hQ⟩
  have k3 : ∀ lev, 5 ≤ lev → ∀ Q2 : Option xq_V → xq_H → Prop, Q2 (some (xI (xf_ix (fun k => (xq_str 8).getD k.toNat 0) c 6))) h → xq_met lev y_JS_indexOf2 [xR 1108, xI c, xI 0] 81 h Q2 := by
    intro lev hl Q2 hQ
    refine en_JS_indexOf2 (by omega) (fun K hK => ?_)
    refine xq_go hK [] 60 ?_
    refine ⟨lev - 1, by omega, c_JS_isLatin1 (by omega) (by decide) ?_⟩
    refine And.intro (fun z => absurd z (by decide)) (fun _ => ?_)
    refine ⟨lev - 1, by omega, c_JS_length_8 (by omega) ?_⟩
    exact ⟨lev - 1, by omega, k2 (lev - 1) (by omega) _ hQ⟩
  refine en_JS_indexOf (by omega) (fun K hK => ?_)
  refine xq_go hK [] 60 ?_
  exact ⟨lev - 1, by omega, k3 (lev - 1) (by omega) _ hQ⟩
theorem c_JS_indexOf_9 {lev : Nat} {h : xq_H} {Q : Option xq_V → xq_H → Prop} {c : Int} (hl : 8 ≤ lev) (hc : 0 ≤ c ∧ c ≤ 127) (hQ : Q (some (xI (xf_ix (fun k => (xq_str 9).getD k.toNat 0) c 3))) h) : xq_met lev y_JS_indexOf [xR 1109, xI c] 81 h Q := by
  have k1 : ∀ lev, 1 ≤ lev → ∀ Q2 : Option xq_V → xq_H → Prop, Q2 (some (xI (xf_ix (fun k => (xq_str 9).getD k.toNat 0) c 3))) h → xq_met lev y_JL_indexOfChar [xR 1209, xI c, xI 0, xI 3] 81 h Q2 := by
    intro lev hl Q2 hQ
    refine en_JL_indexOfChar (by omega) (fun K hK => ?_)
    have loop : ∀ (d i : Nat) (iI : Int), i + d = 3 → iI = i → (∀ k : Nat, k < i → (xq_str 9).getD k 0 ≠ c) → K 5 [some (xR 1209), some (xI c), some (xI 0), some (xI 3), some (xI c), some (xI iI)] [] 81 h := by
      intro d
      induction d with
      | zero =>
        intro i iI hd ei hno
        refine xq_go hK [5] 60 ?_
        refine And.intro (fun _ => ?_) (fun z => absurd z (by omega))
        rw [xf_ix_none (fun k hk => hno k (by omega))] at hQ
        exact hQ
      | succ d ih =>
        intro i iI hd ei hno
        subst ei
        refine xq_go hK [5] 60 ?_
        refine And.intro (fun z => absurd z (by omega)) (fun _ => ?_)
        refine And.intro (by show 0 ≤ (i : Int) ∧ (i : Int) < 3; omega) ?_
        refine And.intro (fun e => ?_) (fun e => ?_)
        · refine And.intro (by omega) ?_
          refine ih (i + 1) _ (by omega) (by omega) (fun k hk => ?_)
          by_cases hki : k = i
          · rw [hki]
            exact e
          · exact hno k (by omega)
        · rw [xf_ix_hit (i := i) (by omega) (fun k hk => hno k (by omega)) e] at hQ
          exact hQ
    refine xq_go hK [5] 60 ?_
    refine And.intro hc ?_
    exact loop 3 0 _ (by omega) rfl (fun k hk => by omega)
  have k2 : ∀ lev, 3 ≤ lev → ∀ Q2 : Option xq_V → xq_H → Prop, Q2 (some (xI (xf_ix (fun k => (xq_str 9).getD k.toNat 0) c 3))) h → xq_met lev y_JL_indexOf [xR 1209, xI c, xI 0, xI 3] 81 h Q2 := by
    intro lev hl Q2 hQ
    refine en_JL_indexOf (by omega) (fun K hK => ?_)
    have can : ∀ lev, 1 ≤ lev → ∀ Q2 : Option xq_V → xq_H → Prop, Q2 (some (xI 1)) h → xq_met lev y_JL_canEncode [xI c] 81 h Q2 := by
      intro lev hl Q2 q2
      refine en_JL_canEncode (by omega) (fun K hK => ?_)
      refine xq_go hK [] 60 ?_
      refine And.intro (fun z => absurd z (by omega)) (fun _ => ?_)
      refine And.intro (fun z => absurd z (by omega)) (fun _ => ?_)
      exact And.intro (Or.inr rfl) q2
    refine xq_go hK [] 60 ?_
    refine ⟨lev - 1, by omega, can (lev - 1) (by omega) _ ?_⟩
    refine And.intro (fun _ => ?_) (fun z => absurd z (by decide))
    refine ⟨lev - 1, by omega, c_JM_max (by omega) ?_⟩
    refine ⟨lev - 1, by omega, c_JM_min (by omega) ?_⟩
    refine And.intro (fun _ => ?_) (fun z => absurd (by decide) z)
    exact ⟨lev - 1, by omega, k1 (lev - 1) (by omega) _ hQ⟩
  have k3 : ∀ lev, 5 ≤ lev → ∀ Q2 : Option xq_V → xq_H → Prop, Q2 (some (xI (xf_ix (fun k => (xq_str 9).getD k.toNat 0) c 3))) h → xq_met lev y_JS_indexOf2 [xR 1109, xI c, xI 0] 81 h Q2 := by
    intro lev hl Q2 hQ
    refine en_JS_indexOf2 (by omega) (fun K hK => ?_)
    refine xq_go hK [] 60 ?_
    refine ⟨lev - 1, by omega, c_JS_isLatin1 (by omega) (by decide) ?_⟩
    refine And.intro (fun z => absurd z (by decide)) (fun _ => ?_)
    refine ⟨lev - 1, by omega, c_JS_length_9 (by omega) ?_⟩
    exact ⟨lev - 1, by omega, k2 (lev - 1) (by omega) _ hQ⟩
  refine en_JS_indexOf (by omega) (fun K hK => ?_)
  refine xq_go hK [] 60 ?_
  exact ⟨lev - 1, by omega, k3 (lev - 1) (by omega) _ hQ⟩
/-! the tape, as both see it -/
def xp_pk (g : Int → Int) (N p : Int) : Int := if p < N then g p else -1
/-- a number: the place behind it, and it; -1 if there is none -/
def xp_num (g : Int → Int) (N p : Int) : Int × Int :=
  if 48 ≤ xp_pk g N p ∧ xp_pk g N p ≤ 57 then
    (if xp_pk g N p ≠ 48 ∧ 48 ≤ xp_pk g N (p + 1) ∧ xp_pk g N (p + 1) ≤ 57 then (p + 2, 10 * (xp_pk g N p - 48) + (xp_pk g N (p + 1) - 48)) else (p + 1, xp_pk g N p - 48))
  else (p, -1)
abbrev xp_g (g : Int → Int) (N : Int) : Prop := (0 ≤ N ∧ N ≤ 100) ∧ ∀ i : Int, 0 ≤ i → i < N → 0 ≤ g i ∧ g i ≤ 127
theorem xp_pk_bd {g : Int → Int} {N p : Int} (G : xp_g g N) (hp : 0 ≤ p) : -1 ≤ xp_pk g N p ∧ xp_pk g N p ≤ 127 ∧ (0 ≤ xp_pk g N p → p < N) ∧ (p < N → 0 ≤ xp_pk g N p) := by
  unfold xp_pk
  split
  · rename_i h
    have := G.2 p hp h
    omega
  · omega
theorem xp_num_bd {g : Int → Int} {N p : Int} (G : xp_g g N) (hp : 0 ≤ p ∧ p ≤ N) : p ≤ (xp_num g N p).1 ∧ (xp_num g N p).1 ≤ N ∧ -1 ≤ (xp_num g N p).2 ∧ (xp_num g N p).2 ≤ 99 ∧ ((xp_num g N p).2 = -1 → (xp_num g N p).1 = p) ∧ (0 ≤ (xp_num g N p).2 → p < (xp_num g N p).1) := by
  have b1 := xp_pk_bd G hp.1
  have b2 := xp_pk_bd G (p := p + 1) (by omega)
  unfold xp_num
  split
  · split <;> dsimp only <;> omega
  · dsimp only
    omega
/-- the class -/
abbrev xp_tc (h : xq_H) (g : Int → Int) (N : Int) : Prop := h 54 1 = 26 ∧ h 54 2 = N ∧ ∀ i : Int, 0 ≤ i → i < N → h 25 i = g i
theorem xp_tc_fr {h h' : xq_H} {g : Int → Int} {N : Int} (e1 : h' 54 1 = h 54 1) (e2 : h' 54 2 = h 54 2) (e3 : h' 25 = h 25) (t : xp_tc h g N) : xp_tc h' g N := ⟨e1.trans t.1, e2.trans t.2.1, fun i x y => by rw [e3]; exact t.2.2 i x y⟩
theorem c_R_peek {lev : Nat} {h : xq_H} {Q : Option xq_V → xq_H → Prop} {g : Int → Int} {N : Int} (hl : 1 ≤ lev) (t : xp_tc h g N) (G : xp_g g N) (hp : 0 ≤ h 54 3) (hQ : Q (some (xI (xp_pk g N (h 54 3)))) h) : xq_met lev y_R_peek [xR 54] 81 h Q := by
  refine en_R_peek (by omega) (fun K hK => ?_)
  obtain ⟨t1, t2, t3⟩ := t
  unfold xp_pk at hQ
  refine xq_go hK [] 60 ?_
  refine And.intro (fun c => absurd c (by omega)) (fun _ => ?_)
  refine And.intro (fun c => ?_) (fun c => ?_)
  · rw [if_neg (by omega)] at hQ
    exact hQ
  · rw [if_pos (by omega)] at hQ
    refine ⟨25, by rw [t1]; rfl, by decide, ?_⟩
    refine And.intro (by omega) ?_
    rw [t3 _ hp (by omega)]
    exact hQ
theorem c_R_readSign {lev : Nat} {h : xq_H} {Q : Option xq_V → xq_H → Prop} {g : Int → Int} {N c : Int} (hl : 2 ≤ lev) (t : xp_tc h g N) (G : xp_g g N) (hp : 0 ≤ h 54 3 ∧ h 54 3 ≤ N) (hc : 0 ≤ c)
    (h1 : xp_pk g N (h 54 3) = c → h 54 3 < N → Q (some (xI 1)) (xq_u h 54 3 (h 54 3 + 1))) (h0 : ¬ xp_pk g N (h 54 3) = c → Q (some (xI 0)) h) : xq_met lev y_R_readSign [xR 54, xI c] 81 h Q := by
  refine en_R_readSign (by omega) (fun K hK => ?_)
  have b := xp_pk_bd G hp.1
  refine xq_go hK [] 60 ?_
  refine ⟨lev - 1, by omega, c_R_peek (by omega) t G hp.1 ?_⟩
  refine And.intro (fun e => ?_) (fun e => ?_)
  · refine And.intro (by omega) ?_
    exact And.intro (Or.inr rfl) (h1 e (by omega))
  · exact And.intro (Or.inl rfl) (h0 e)
set_option maxHeartbeats 1000000 in
theorem c_R_readNumber {lev : Nat} {h : xq_H} {Q : Option xq_V → xq_H → Prop} {g : Int → Int} {N : Int} (hl : 2 ≤ lev) (t : xp_tc h g N) (G : xp_g g N) (hp : 0 ≤ h 54 3 ∧ h 54 3 ≤ N)
    (hQ : ∀ h', xs_eq [54] h h' → (∀ k : Int, k ≠ 3 → h' 54 k = h 54 k) → h' 54 3 = (xp_num g N (h 54 3)).1 → Q (some (xI (xp_num g N (h 54 3)).2)) h') : xq_met lev y_R_readNumber [xR 54] 81 h Q := by
  refine en_R_readNumber (by omega) (fun K hK => ?_)
  obtain ⟨p, ep⟩ : ∃ p, p = h 54 3 := ⟨_, rfl⟩
  have b := xp_pk_bd G hp.1
  have b2 := xp_pk_bd G (p := h 54 3 + 1) (by omega)
  unfold xp_num at hQ
  rw [← ep] at hQ b b2 hp
  refine xq_go hK [18] 60 ?_
  refine ⟨lev - 1, by omega, c_R_peek (by omega) t G (by omega) ?_⟩
  rw [← ep]
  refine And.intro (by omega) ?_
  have no : ¬ (48 ≤ xp_pk g N p ∧ xp_pk g N p ≤ 57) → Q (some (xI (-1))) h := by
    intro z
    rw [if_neg z] at hQ
    exact hQ h xs_rf (fun _ _ => rfl) ep.symm
  refine And.intro (fun c => no (by omega)) (fun c => And.intro (fun c2 => ?_) (fun c2 => no (by omega)))
  rw [if_pos (show 48 ≤ xp_pk g N p ∧ xp_pk g N p ≤ 57 by omega)] at hQ
  refine And.intro (by omega) ?_
  obtain ⟨h1, hh1⟩ : ∃ h1, h1 = xq_u h 54 3 (p + 1) := ⟨_, rfl⟩
  have e3 : h1 54 3 = p + 1 := by rw [hh1, xu_eq]
  have t1 : xp_tc h1 g N := xp_tc_fr (by rw [hh1, xu_ne (by decide)]) (by rw [hh1, xu_ne (by decide)]) (by rw [hh1]; exact xq_u_o (by decide)) t
  have s1 : xs_eq [54] h h1 := by rw [hh1]; exact xs_u xs_rf (by decide) _ _
  have k1 : ∀ k : Int, k ≠ 3 → h1 54 k = h 54 k := fun k hk => by rw [hh1, xu_ne hk]
  have tail : K 18 [some (xR 54), some (xI (xp_pk g N p - 48)), none] [] 81 h1 := by
    refine xq_go hK [] 60 ?_
    refine ⟨lev - 1, by omega, c_R_peek (by omega) t1 G (by omega) ?_⟩
    rw [e3]
    refine And.intro (by omega) ?_
    have one : ¬ (xp_pk g N p ≠ 48 ∧ 48 ≤ xp_pk g N (p + 1) ∧ xp_pk g N (p + 1) ≤ 57) → Q (some (xI (xp_pk g N p - 48))) h1 := by
      intro z
      rw [if_neg z] at hQ
      exact hQ h1 s1 k1 e3
    refine And.intro (fun c3 => one (by omega)) (fun c3 => ?_)
    refine And.intro (fun c4 => one (by omega)) (fun c4 => And.intro (fun c5 => ?_) (fun c5 => one (by omega)))
    rw [if_pos (show xp_pk g N p ≠ 48 ∧ 48 ≤ xp_pk g N (p + 1) ∧ xp_pk g N (p + 1) ≤ 57 by omega)] at hQ
    refine And.intro (by omega) ?_
    refine And.intro (by omega) ?_
    refine And.intro (by omega) ?_
    have q := hQ (xq_u h1 54 3 (h1 54 3 + 1)) (xs_u s1 (by decide) _ _) (fun k hk => by rw [xu_ne hk]; exact k1 k hk) (by rw [xu_eq, e3]; omega)
    dsimp only at q
    rw [Int.mul_comm] at q
    exact q
  rw [← ep]
  rw [hh1] at tail
  exact tail
theorem c_R_readOneOf_8 {lev : Nat} {h : xq_H} {Q : Option xq_V → xq_H → Prop} {g : Int → Int} {N : Int} (hl : 9 ≤ lev) (t : xp_tc h g N) (G : xp_g g N) (hp : 0 ≤ h 54 3 ∧ h 54 3 ≤ N)
    (h1 : ∀ k : Int, k = xf_ix (fun k => (xq_str 8).getD k.toNat 0) (xp_pk g N (h 54 3)) 6 → 0 ≤ k → h 54 3 < N → Q (some (xI k)) (xq_u h 54 3 (h 54 3 + 1)))
    (h0 : xf_ix (fun k => (xq_str 8).getD k.toNat 0) (xp_pk g N (h 54 3)) 6 = -1 → Q (some (xI (-1))) h) : xq_met lev y_R_readOneOf [xR 54, xR 1108] 81 h Q := by
  refine en_R_readOneOf (by omega) (fun K hK => ?_)
  have b := xp_pk_bd G hp.1
  have bx := xf_ix_bd (fun k => (xq_str 8).getD k.toNat 0) (xp_pk g N (h 54 3)) 6
  have tail : ∀ k : Int, k = xf_ix (fun k => (xq_str 8).getD k.toNat 0) (xp_pk g N (h 54 3)) 6 → (0 ≤ k → h 54 3 < N) → K 11 [some (xR 54), some (xR 1108), some (xI (xp_pk g N (h 54 3))), none] [xI k] 81 h := by
    intro k ek hN
    refine xq_go hK [] 60 ?_
    refine And.intro (fun c => ?_) (fun c => ?_)
    · have q := h0 (by omega)
      rw [show k = -1 by omega]
      exact q
    · refine And.intro (by omega) ?_
      exact h1 k ek (by omega) (hN (by omega))
  refine xq_go hK [11] 60 ?_
  refine ⟨lev - 1, by omega, c_R_peek (by omega) t G hp.1 ?_⟩
  refine And.intro (fun c => ?_) (fun c => ?_)
  · refine And.intro (by omega) ?_
    refine ⟨lev - 1, by omega, c_JS_indexOf_8 (by omega) (by omega) ?_⟩
    exact tail _ rfl (fun _ => by omega)
  · refine tail _ ?_ (fun z => absurd z (by decide))
    refine (xf_ix_none (fun k hk => ?_)).symm
    have : xp_pk g N (h 54 3) < 0 := by omega
    rcases (show k = 0 ∨ k = 1 ∨ k = 2 ∨ k = 3 ∨ k = 4 ∨ k = 5 by omega) with rfl | rfl | rfl | rfl | rfl | rfl
    all_goals
      intro z
      rw [← z] at this
      exact absurd this (by decide)
theorem c_R_readOneOf_9 {lev : Nat} {h : xq_H} {Q : Option xq_V → xq_H → Prop} {g : Int → Int} {N : Int} (hl : 9 ≤ lev) (t : xp_tc h g N) (G : xp_g g N) (hp : 0 ≤ h 54 3 ∧ h 54 3 ≤ N)
    (h1 : ∀ k : Int, k = xf_ix (fun k => (xq_str 9).getD k.toNat 0) (xp_pk g N (h 54 3)) 3 → 0 ≤ k → h 54 3 < N → Q (some (xI k)) (xq_u h 54 3 (h 54 3 + 1)))
    (h0 : xf_ix (fun k => (xq_str 9).getD k.toNat 0) (xp_pk g N (h 54 3)) 3 = -1 → Q (some (xI (-1))) h) : xq_met lev y_R_readOneOf [xR 54, xR 1109] 81 h Q := by
  refine en_R_readOneOf (by omega) (fun K hK => ?_)
  have b := xp_pk_bd G hp.1
  have bx := xf_ix_bd (fun k => (xq_str 9).getD k.toNat 0) (xp_pk g N (h 54 3)) 3
  have tail : ∀ k : Int, k = xf_ix (fun k => (xq_str 9).getD k.toNat 0) (xp_pk g N (h 54 3)) 3 → (0 ≤ k → h 54 3 < N) → K 11 [some (xR 54), some (xR 1109), some (xI (xp_pk g N (h 54 3))), none] [xI k] 81 h := by
    intro k ek hN
    refine xq_go hK [] 60 ?_
    refine And.intro (fun c => ?_) (fun c => ?_)
    · have q := h0 (by omega)
      rw [show k = -1 by omega]
      exact q
    · refine And.intro (by omega) ?_
      exact h1 k ek (by omega) (hN (by omega))
  refine xq_go hK [11] 60 ?_
  refine ⟨lev - 1, by omega, c_R_peek (by omega) t G hp.1 ?_⟩
  refine And.intro (fun c => ?_) (fun c => ?_)
  · refine And.intro (by omega) ?_
    refine ⟨lev - 1, by omega, c_JS_indexOf_9 (by omega) (by omega) ?_⟩
    exact tail _ rfl (fun _ => by omega)
  · refine tail _ ?_ (fun z => absurd z (by decide))
    refine (xf_ix_none (fun k hk => ?_)).symm
    have : xp_pk g N (h 54 3) < 0 := by omega
    rcases (show k = 0 ∨ k = 1 ∨ k = 2 by omega) with rfl | rfl | rfl
    all_goals
      intro z
      rw [← z] at this
      exact absurd this (by decide)
