/-! COPIES (gencopy.py) -/
def xr_cp (a b : xq_H) : Prop :=
  a 3 5 = b 3 5 ∧
  (∀ k : Int, 0 ≤ k → k < 8 → a 4 k = b 4 k) ∧
  (∀ k : Int, 0 ≤ k → k < 8 → a 5 k = b 5 k) ∧
  (∀ k : Int, 0 ≤ k → k < 8 → a 6 k = b 6 k) ∧
  (∀ k : Int, 0 ≤ k → k < 8 → a 7 k = b 7 k) ∧
  (∀ k : Int, 0 ≤ k → k < 40 → a 8 k = b 8 k) ∧
  a 9 3 = b 9 3 ∧
  (∀ k : Int, 0 ≤ k → k < 5 → a 10 k = b 10 k) ∧
  (∀ k : Int, 0 ≤ k → k < 5 → a 11 k = b 11 k) ∧
  (∀ k : Int, 0 ≤ k → k < 20 → a 12 k = b 12 k) ∧
  a 13 3 = b 13 3 ∧
  a 13 4 = b 13 4 ∧
  a 13 5 = b 13 5 ∧
  (∀ k : Int, 0 ≤ k → k < 20 → a 14 k = b 14 k) ∧
  (∀ k : Int, 0 ≤ k → k < 20 → a 15 k = b 15 k) ∧
  (∀ k : Int, 0 ≤ k → k < 6 → a 16 k = b 16 k) ∧
  a 17 0 = b 17 0 ∧
  a 17 1 = b 17 1 ∧
  a 17 4 = b 17 4 ∧
  (∀ k : Int, 0 ≤ k → k < 10 → a 18 k = b 18 k) ∧
  (∀ k : Int, 0 ≤ k → k < 10 → a 19 k = b 19 k) ∧
  (∀ k : Int, 0 ≤ k → k < 100 → a 20 k = b 20 k) ∧
  a 21 3 = b 21 3 ∧
  (∀ k : Int, 0 ≤ k → k < 8 → a 22 k = b 22 k) ∧
  (∀ k : Int, 0 ≤ k → k < 8 → a 23 k = b 23 k) ∧
  (∀ k : Int, 0 ≤ k → k < 8 → a 24 k = b 24 k) ∧
  (∀ k : Int, 0 ≤ k → k < 100 → a 25 k = b 25 k) ∧
  a 2 6 = b 2 6 ∧
  a 2 7 = b 2 7
theorem c_W_copy_31_3 {lev : Nat} {h : xq_H} {Q : Option xq_V → xq_H → Prop} (hl : 3 ≤ lev) (hQ : ∀ h', xs_eq [31, 32, 33, 34, 35, 36] h h' → (∀ k : Int, 0 ≤ k → k < 8 → h' 32 k = h 4 k) → (∀ k : Int, 0 ≤ k → k < 8 → h' 33 k = h 5 k) → (∀ k : Int, 0 ≤ k → k < 8 → h' 34 k = h 6 k) → (∀ k : Int, 0 ≤ k → k < 8 → h' 35 k = h 7 k) → (∀ k : Int, 0 ≤ k → k < 40 → h' 36 k = h 8 k) → h' 31 5 = h 3 5 → Q none h') : xq_met lev y_W_copy [xR 31, xR 3] 81 h Q := by
  refine en_W_copy (by omega) (fun K hK => ?_)
  refine xq_go hK [] 80 ?_
  refine ⟨lev - 1, by omega, c_cp_4_32 (by omega) (fun h0 hs0 hall0 => ?_)⟩
  refine ⟨lev - 1, by omega, c_cp_5_33 (by omega) (fun h1 hs1 hall1 => ?_)⟩
  refine ⟨lev - 1, by omega, c_cp_6_34 (by omega) (fun h2 hs2 hall2 => ?_)⟩
  refine ⟨lev - 1, by omega, c_cp_7_35 (by omega) (fun h3 hs3 hall3 => ?_)⟩
  refine ⟨lev - 1, by omega, c_cp_8_36 (by omega) (fun h4 hs4 hall4 => ?_)⟩
  refine hQ _ (xs_u (xs_tr (xs_tr (xs_tr (xs_tr (xs_tr xs_rf hs0 (X := []) (by decide) (by decide)) hs1 (fun _ z => z) (by decide)) hs2 (fun _ z => z) (by decide)) hs3 (fun _ z => z) (by decide)) hs4 (fun _ z => z) (by decide)) (by decide) _ _) ?_ ?_ ?_ ?_ ?_ ?_
  · intro k x y
    rw [xq_u_o (by decide), hs4 32 (by decide), hs3 32 (by decide), hs2 32 (by decide), hs1 32 (by decide), hall0 k x y]
  · intro k x y
    rw [xq_u_o (by decide), hs4 33 (by decide), hs3 33 (by decide), hs2 33 (by decide), hall1 k x y, hs0 5 (by decide)]
  · intro k x y
    rw [xq_u_o (by decide), hs4 34 (by decide), hs3 34 (by decide), hall2 k x y, hs1 6 (by decide), hs0 6 (by decide)]
  · intro k x y
    rw [xq_u_o (by decide), hs4 35 (by decide), hall3 k x y, hs2 7 (by decide), hs1 7 (by decide), hs0 7 (by decide)]
  · intro k x y
    rw [xq_u_o (by decide), hall4 k x y, hs3 8 (by decide), hs2 8 (by decide), hs1 8 (by decide), hs0 8 (by decide)]
  · rw [xu_eq, hs4 3 (by decide), hs3 3 (by decide), hs2 3 (by decide), hs1 3 (by decide), hs0 3 (by decide)]
theorem c_C_copy_37_9 {lev : Nat} {h : xq_H} {Q : Option xq_V → xq_H → Prop} (hl : 3 ≤ lev) (hQ : ∀ h', xs_eq [37, 38, 39, 40] h h' → (∀ k : Int, 0 ≤ k → k < 5 → h' 38 k = h 10 k) → (∀ k : Int, 0 ≤ k → k < 5 → h' 39 k = h 11 k) → (∀ k : Int, 0 ≤ k → k < 20 → h' 40 k = h 12 k) → h' 37 3 = h 9 3 → Q none h') : xq_met lev y_C_copy [xR 37, xR 9] 81 h Q := by
  refine en_C_copy (by omega) (fun K hK => ?_)
  refine xq_go hK [] 80 ?_
  refine ⟨lev - 1, by omega, c_cp_10_38 (by omega) (fun h0 hs0 hall0 => ?_)⟩
  refine ⟨lev - 1, by omega, c_cp_11_39 (by omega) (fun h1 hs1 hall1 => ?_)⟩
  refine ⟨lev - 1, by omega, c_cp_12_40 (by omega) (fun h2 hs2 hall2 => ?_)⟩
  refine hQ _ (xs_u (xs_tr (xs_tr (xs_tr xs_rf hs0 (X := []) (by decide) (by decide)) hs1 (fun _ z => z) (by decide)) hs2 (fun _ z => z) (by decide)) (by decide) _ _) ?_ ?_ ?_ ?_
  · intro k x y
    rw [xq_u_o (by decide), hs2 38 (by decide), hs1 38 (by decide), hall0 k x y]
  · intro k x y
    rw [xq_u_o (by decide), hs2 39 (by decide), hall1 k x y, hs0 11 (by decide)]
  · intro k x y
    rw [xq_u_o (by decide), hall2 k x y, hs1 12 (by decide), hs0 12 (by decide)]
  · rw [xu_eq, hs2 9 (by decide), hs1 9 (by decide), hs0 9 (by decide)]
theorem c_T_copy_41_13 {lev : Nat} {h : xq_H} {Q : Option xq_V → xq_H → Prop} (hl : 3 ≤ lev) (hQ : ∀ h', xs_eq [41, 42, 43, 44] h h' → (∀ k : Int, 0 ≤ k → k < 20 → h' 42 k = h 14 k) → (∀ k : Int, 0 ≤ k → k < 20 → h' 43 k = h 15 k) → (∀ k : Int, 0 ≤ k → k < 6 → h' 44 k = h 16 k) → h' 41 3 = h 13 3 → h' 41 4 = h 13 4 → h' 41 5 = h 13 5 → Q none h') : xq_met lev y_T_copy [xR 41, xR 13] 81 h Q := by
  refine en_T_copy (by omega) (fun K hK => ?_)
  refine xq_go hK [] 80 ?_
  refine ⟨lev - 1, by omega, c_cp_14_42 (by omega) (fun h0 hs0 hall0 => ?_)⟩
  refine ⟨lev - 1, by omega, c_cp_15_43 (by omega) (fun h1 hs1 hall1 => ?_)⟩
  refine ⟨lev - 1, by omega, c_cp_16_44 (by omega) (fun h2 hs2 hall2 => ?_)⟩
  refine hQ _ (xs_u (xs_u (xs_u (xs_tr (xs_tr (xs_tr xs_rf hs0 (X := []) (by decide) (by decide)) hs1 (fun _ z => z) (by decide)) hs2 (fun _ z => z) (by decide)) (by decide) _ _) (by decide) _ _) (by decide) _ _) ?_ ?_ ?_ ?_ ?_ ?_
  · intro k x y
    rw [xq_u_o (by decide), xq_u_o (by decide), xq_u_o (by decide), hs2 42 (by decide), hs1 42 (by decide), hall0 k x y]
  · intro k x y
    rw [xq_u_o (by decide), xq_u_o (by decide), xq_u_o (by decide), hs2 43 (by decide), hall1 k x y, hs0 15 (by decide)]
  · intro k x y
    rw [xq_u_o (by decide), xq_u_o (by decide), xq_u_o (by decide), hall2 k x y, hs1 16 (by decide), hs0 16 (by decide)]
  · rw [xu_ne (by decide), xu_ne (by decide), xu_eq, hs2 13 (by decide), hs1 13 (by decide), hs0 13 (by decide)]
  · rw [xu_ne (by decide), xu_eq, xq_u_o (by decide), hs2 13 (by decide), hs1 13 (by decide), hs0 13 (by decide)]
  · rw [xu_eq, xq_u_o (by decide), xq_u_o (by decide), hs2 13 (by decide), hs1 13 (by decide), hs0 13 (by decide)]
theorem c_P_copy_45_17 {lev : Nat} {h : xq_H} {Q : Option xq_V → xq_H → Prop} (hl : 3 ≤ lev) (hQ : ∀ h', xs_eq [45, 46, 47, 48] h h' → h' 45 0 = h 17 0 → h' 45 1 = h 17 1 → (∀ k : Int, 0 ≤ k → k < 10 → h' 46 k = h 18 k) → (∀ k : Int, 0 ≤ k → k < 10 → h' 47 k = h 19 k) → h' 45 4 = h 17 4 → (∀ k : Int, 0 ≤ k → k < 100 → h' 48 k = h 20 k) → h' 45 6 = h 17 6 → Q none h') : xq_met lev y_P_copy [xR 45, xR 17] 81 h Q := by
  refine en_P_copy (by omega) (fun K hK => ?_)
  refine xq_go hK [] 80 ?_
  refine ⟨lev - 1, by omega, c_cp_18_46 (by omega) (fun h2 hs2 hall2 => ?_)⟩
  refine ⟨lev - 1, by omega, c_cp_19_47 (by omega) (fun h3 hs3 hall3 => ?_)⟩
  refine ⟨lev - 1, by omega, c_cp_20_48 (by omega) (fun h5 hs5 hall5 => ?_)⟩
  refine hQ _ (xs_u (xs_tr (xs_u (xs_tr (xs_tr (xs_u (xs_u xs_rf (by decide) _ _) (by decide) _ _) hs2 (fun _ z => z) (by decide)) hs3 (fun _ z => z) (by decide)) (by decide) _ _) hs5 (fun _ z => z) (by decide)) (by decide) _ _) ?_ ?_ ?_ ?_ ?_ ?_ ?_
  · rw [xu_ne (by decide), hs5 45 (by decide), xu_ne (by decide), hs3 45 (by decide), hs2 45 (by decide), xu_ne (by decide), xu_eq]
  · rw [xu_ne (by decide), hs5 45 (by decide), xu_ne (by decide), hs3 45 (by decide), hs2 45 (by decide), xu_eq, xq_u_o (by decide)]
  · intro k x y
    rw [xq_u_o (by decide), hs5 46 (by decide), xq_u_o (by decide), hs3 46 (by decide), hall2 k x y, xq_u_o (by decide), xq_u_o (by decide)]
  · intro k x y
    rw [xq_u_o (by decide), hs5 47 (by decide), xq_u_o (by decide), hall3 k x y, hs2 19 (by decide), xq_u_o (by decide), xq_u_o (by decide)]
  · rw [xu_ne (by decide), hs5 45 (by decide), xu_eq, hs3 17 (by decide), hs2 17 (by decide), xq_u_o (by decide), xq_u_o (by decide)]
  · intro k x y
    rw [xq_u_o (by decide), hall5 k x y, xq_u_o (by decide), hs3 20 (by decide), hs2 20 (by decide), xq_u_o (by decide), xq_u_o (by decide)]
  · rw [xu_eq, hs5 17 (by decide), xq_u_o (by decide), hs3 17 (by decide), hs2 17 (by decide), xq_u_o (by decide), xq_u_o (by decide)]
theorem c_B_copy_49_21 {lev : Nat} {h : xq_H} {Q : Option xq_V → xq_H → Prop} (hl : 3 ≤ lev) (hQ : ∀ h', xs_eq [49, 50, 51, 52] h h' → (∀ k : Int, 0 ≤ k → k < 8 → h' 50 k = h 22 k) → (∀ k : Int, 0 ≤ k → k < 8 → h' 51 k = h 23 k) → (∀ k : Int, 0 ≤ k → k < 8 → h' 52 k = h 24 k) → h' 49 3 = h 21 3 → Q none h') : xq_met lev y_B_copy [xR 49, xR 21] 81 h Q := by
  refine en_B_copy (by omega) (fun K hK => ?_)
  refine xq_go hK [] 80 ?_
  refine ⟨lev - 1, by omega, c_cp_22_50 (by omega) (fun h0 hs0 hall0 => ?_)⟩
  refine ⟨lev - 1, by omega, c_cp_23_51 (by omega) (fun h1 hs1 hall1 => ?_)⟩
  refine ⟨lev - 1, by omega, c_cp_24_52 (by omega) (fun h2 hs2 hall2 => ?_)⟩
  refine hQ _ (xs_u (xs_tr (xs_tr (xs_tr xs_rf hs0 (X := []) (by decide) (by decide)) hs1 (fun _ z => z) (by decide)) hs2 (fun _ z => z) (by decide)) (by decide) _ _) ?_ ?_ ?_ ?_
  · intro k x y
    rw [xq_u_o (by decide), hs2 50 (by decide), hs1 50 (by decide), hall0 k x y]
  · intro k x y
    rw [xq_u_o (by decide), hs2 51 (by decide), hall1 k x y, hs0 23 (by decide)]
  · intro k x y
    rw [xq_u_o (by decide), hall2 k x y, hs1 24 (by decide), hs0 24 (by decide)]
  · rw [xu_eq, hs2 21 (by decide), hs1 21 (by decide), hs0 21 (by decide)]
theorem c_S_copy_30_2 {lev : Nat} {h : xq_H} {Q : Option xq_V → xq_H → Prop} (hl : 4 ≤ lev) (hQ : ∀ h', xs_eq [30, 31, 32, 33, 34, 35, 36, 37, 38, 39, 40, 41, 42, 43, 44, 45, 46, 47, 48, 49, 50, 51, 52, 53] h h' → xr_cp (xr_sh h') (h) → Q none h') : xq_met lev y_S_copy [xR 30, xR 2] 81 h Q := by
  refine en_S_copy (by omega) (fun K hK => ?_)
  refine xq_go hK [] 80 ?_
  refine ⟨lev - 1, by omega, c_W_copy_31_3 (by omega) (fun h0 hs0 f0_0 f0_1 f0_2 f0_3 f0_4 f0_5 => ?_)⟩
  refine ⟨lev - 1, by omega, c_C_copy_37_9 (by omega) (fun h1 hs1 f1_0 f1_1 f1_2 f1_3 => ?_)⟩
  refine ⟨lev - 1, by omega, c_T_copy_41_13 (by omega) (fun h2 hs2 f2_0 f2_1 f2_2 f2_3 f2_4 f2_5 => ?_)⟩
  refine ⟨lev - 1, by omega, c_P_copy_45_17 (by omega) (fun h3 hs3 f3_0 f3_1 f3_2 f3_3 f3_4 f3_5 f3_6 => ?_)⟩
  refine ⟨lev - 1, by omega, c_B_copy_49_21 (by omega) (fun h4 hs4 f4_0 f4_1 f4_2 f4_3 => ?_)⟩
  refine ⟨lev - 1, by omega, c_cp_25_53 (by omega) (fun h5 hs5 f5_0 => ?_)⟩
  refine hQ _ (xs_u (xs_u (xs_tr (Z := [30, 31, 32, 33, 34, 35, 36, 37, 38, 39, 40, 41, 42, 43, 44, 45, 46, 47, 48, 49, 50, 51, 52, 53]) (xs_tr (Z := [30, 31, 32, 33, 34, 35, 36, 37, 38, 39, 40, 41, 42, 43, 44, 45, 46, 47, 48, 49, 50, 51, 52, 53]) (xs_tr (Z := [30, 31, 32, 33, 34, 35, 36, 37, 38, 39, 40, 41, 42, 43, 44, 45, 46, 47, 48, 49, 50, 51, 52, 53]) (xs_tr (Z := [30, 31, 32, 33, 34, 35, 36, 37, 38, 39, 40, 41, 42, 43, 44, 45, 46, 47, 48, 49, 50, 51, 52, 53]) (xs_tr (Z := [30, 31, 32, 33, 34, 35, 36, 37, 38, 39, 40, 41, 42, 43, 44, 45, 46, 47, 48, 49, 50, 51, 52, 53]) (xs_tr xs_rf hs0 (X := []) (by decide) (by decide)) hs1 (fun _ z => z) (by decide)) hs2 (fun _ z => z) (by decide)) hs3 (fun _ z => z) (by decide)) hs4 (fun _ z => z) (by decide)) hs5 (fun _ z => z) (by decide)) (by decide) _ _) (by decide) _ _) ⟨?_, ?_, ?_, ?_, ?_, ?_, ?_, ?_, ?_, ?_, ?_, ?_, ?_, ?_, ?_, ?_, ?_, ?_, ?_, ?_, ?_, ?_, ?_, ?_, ?_, ?_, ?_, ?_, ?_⟩
  · show xq_u (xq_u h5 30 6 _) 30 7 _ 31 5 = h 3 5
    rw [xq_u_o (by decide), xq_u_o (by decide), hs5 31 (by decide), hs4 31 (by decide), hs3 31 (by decide), hs2 31 (by decide), hs1 31 (by decide), f0_5]
  · intro k x y
    show xq_u (xq_u h5 30 6 _) 30 7 _ 32 k = h 4 k
    rw [xq_u_o (by decide), xq_u_o (by decide), hs5 32 (by decide), hs4 32 (by decide), hs3 32 (by decide), hs2 32 (by decide), hs1 32 (by decide), f0_0 k x y]
  · intro k x y
    show xq_u (xq_u h5 30 6 _) 30 7 _ 33 k = h 5 k
    rw [xq_u_o (by decide), xq_u_o (by decide), hs5 33 (by decide), hs4 33 (by decide), hs3 33 (by decide), hs2 33 (by decide), hs1 33 (by decide), f0_1 k x y]
  · intro k x y
    show xq_u (xq_u h5 30 6 _) 30 7 _ 34 k = h 6 k
    rw [xq_u_o (by decide), xq_u_o (by decide), hs5 34 (by decide), hs4 34 (by decide), hs3 34 (by decide), hs2 34 (by decide), hs1 34 (by decide), f0_2 k x y]
  · intro k x y
    show xq_u (xq_u h5 30 6 _) 30 7 _ 35 k = h 7 k
    rw [xq_u_o (by decide), xq_u_o (by decide), hs5 35 (by decide), hs4 35 (by decide), hs3 35 (by decide), hs2 35 (by decide), hs1 35 (by decide), f0_3 k x y]
  · intro k x y
    show xq_u (xq_u h5 30 6 _) 30 7 _ 36 k = h 8 k
    rw [xq_u_o (by decide), xq_u_o (by decide), hs5 36 (by decide), hs4 36 (by decide), hs3 36 (by decide), hs2 36 (by decide), hs1 36 (by decide), f0_4 k x y]
  · show xq_u (xq_u h5 30 6 _) 30 7 _ 37 3 = h 9 3
    rw [xq_u_o (by decide), xq_u_o (by decide), hs5 37 (by decide), hs4 37 (by decide), hs3 37 (by decide), hs2 37 (by decide), f1_3, hs0 9 (by decide)]
  · intro k x y
    show xq_u (xq_u h5 30 6 _) 30 7 _ 38 k = h 10 k
    rw [xq_u_o (by decide), xq_u_o (by decide), hs5 38 (by decide), hs4 38 (by decide), hs3 38 (by decide), hs2 38 (by decide), f1_0 k x y, hs0 10 (by decide)]
  · intro k x y
    show xq_u (xq_u h5 30 6 _) 30 7 _ 39 k = h 11 k
    rw [xq_u_o (by decide), xq_u_o (by decide), hs5 39 (by decide), hs4 39 (by decide), hs3 39 (by decide), hs2 39 (by decide), f1_1 k x y, hs0 11 (by decide)]
  · intro k x y
    show xq_u (xq_u h5 30 6 _) 30 7 _ 40 k = h 12 k
    rw [xq_u_o (by decide), xq_u_o (by decide), hs5 40 (by decide), hs4 40 (by decide), hs3 40 (by decide), hs2 40 (by decide), f1_2 k x y, hs0 12 (by decide)]
  · show xq_u (xq_u h5 30 6 _) 30 7 _ 41 3 = h 13 3
    rw [xq_u_o (by decide), xq_u_o (by decide), hs5 41 (by decide), hs4 41 (by decide), hs3 41 (by decide), f2_3, hs1 13 (by decide), hs0 13 (by decide)]
  · show xq_u (xq_u h5 30 6 _) 30 7 _ 41 4 = h 13 4
    rw [xq_u_o (by decide), xq_u_o (by decide), hs5 41 (by decide), hs4 41 (by decide), hs3 41 (by decide), f2_4, hs1 13 (by decide), hs0 13 (by decide)]
  · show xq_u (xq_u h5 30 6 _) 30 7 _ 41 5 = h 13 5
    rw [xq_u_o (by decide), xq_u_o (by decide), hs5 41 (by decide), hs4 41 (by decide), hs3 41 (by decide), f2_5, hs1 13 (by decide), hs0 13 (by decide)]
  · intro k x y
    show xq_u (xq_u h5 30 6 _) 30 7 _ 42 k = h 14 k
    rw [xq_u_o (by decide), xq_u_o (by decide), hs5 42 (by decide), hs4 42 (by decide), hs3 42 (by decide), f2_0 k x y, hs1 14 (by decide), hs0 14 (by decide)]
  · intro k x y
    show xq_u (xq_u h5 30 6 _) 30 7 _ 43 k = h 15 k
    rw [xq_u_o (by decide), xq_u_o (by decide), hs5 43 (by decide), hs4 43 (by decide), hs3 43 (by decide), f2_1 k x y, hs1 15 (by decide), hs0 15 (by decide)]
  · intro k x y
    show xq_u (xq_u h5 30 6 _) 30 7 _ 44 k = h 16 k
    rw [xq_u_o (by decide), xq_u_o (by decide), hs5 44 (by decide), hs4 44 (by decide), hs3 44 (by decide), f2_2 k x y, hs1 16 (by decide), hs0 16 (by decide)]
  · show xq_u (xq_u h5 30 6 _) 30 7 _ 45 0 = h 17 0
    rw [xq_u_o (by decide), xq_u_o (by decide), hs5 45 (by decide), hs4 45 (by decide), f3_0, hs2 17 (by decide), hs1 17 (by decide), hs0 17 (by decide)]
  · show xq_u (xq_u h5 30 6 _) 30 7 _ 45 1 = h 17 1
    rw [xq_u_o (by decide), xq_u_o (by decide), hs5 45 (by decide), hs4 45 (by decide), f3_1, hs2 17 (by decide), hs1 17 (by decide), hs0 17 (by decide)]
  · show xq_u (xq_u h5 30 6 _) 30 7 _ 45 4 = h 17 4
    rw [xq_u_o (by decide), xq_u_o (by decide), hs5 45 (by decide), hs4 45 (by decide), f3_4, hs2 17 (by decide), hs1 17 (by decide), hs0 17 (by decide)]
  · intro k x y
    show xq_u (xq_u h5 30 6 _) 30 7 _ 46 k = h 18 k
    rw [xq_u_o (by decide), xq_u_o (by decide), hs5 46 (by decide), hs4 46 (by decide), f3_2 k x y, hs2 18 (by decide), hs1 18 (by decide), hs0 18 (by decide)]
  · intro k x y
    show xq_u (xq_u h5 30 6 _) 30 7 _ 47 k = h 19 k
    rw [xq_u_o (by decide), xq_u_o (by decide), hs5 47 (by decide), hs4 47 (by decide), f3_3 k x y, hs2 19 (by decide), hs1 19 (by decide), hs0 19 (by decide)]
  · intro k x y
    show xq_u (xq_u h5 30 6 _) 30 7 _ 48 k = h 20 k
    rw [xq_u_o (by decide), xq_u_o (by decide), hs5 48 (by decide), hs4 48 (by decide), f3_5 k x y, hs2 20 (by decide), hs1 20 (by decide), hs0 20 (by decide)]
  · show xq_u (xq_u h5 30 6 _) 30 7 _ 49 3 = h 21 3
    rw [xq_u_o (by decide), xq_u_o (by decide), hs5 49 (by decide), f4_3, hs3 21 (by decide), hs2 21 (by decide), hs1 21 (by decide), hs0 21 (by decide)]
  · intro k x y
    show xq_u (xq_u h5 30 6 _) 30 7 _ 50 k = h 22 k
    rw [xq_u_o (by decide), xq_u_o (by decide), hs5 50 (by decide), f4_0 k x y, hs3 22 (by decide), hs2 22 (by decide), hs1 22 (by decide), hs0 22 (by decide)]
  · intro k x y
    show xq_u (xq_u h5 30 6 _) 30 7 _ 51 k = h 23 k
    rw [xq_u_o (by decide), xq_u_o (by decide), hs5 51 (by decide), f4_1 k x y, hs3 23 (by decide), hs2 23 (by decide), hs1 23 (by decide), hs0 23 (by decide)]
  · intro k x y
    show xq_u (xq_u h5 30 6 _) 30 7 _ 52 k = h 24 k
    rw [xq_u_o (by decide), xq_u_o (by decide), hs5 52 (by decide), f4_2 k x y, hs3 24 (by decide), hs2 24 (by decide), hs1 24 (by decide), hs0 24 (by decide)]
  · intro k x y
    show xq_u (xq_u h5 30 6 _) 30 7 _ 53 k = h 25 k
    rw [xq_u_o (by decide), xq_u_o (by decide), f5_0 k x y, hs4 25 (by decide), hs3 25 (by decide), hs2 25 (by decide), hs1 25 (by decide), hs0 25 (by decide)]
  · show xq_u (xq_u h5 30 6 _) 30 7 _ 30 6 = h 2 6
    rw [xu_ne (by decide), xu_eq, hs5 2 (by decide), hs4 2 (by decide), hs3 2 (by decide), hs2 2 (by decide), hs1 2 (by decide), hs0 2 (by decide)]
  · show xq_u (xq_u h5 30 6 _) 30 7 _ 30 7 = h 2 7
    rw [xu_eq, xq_u_o (by decide), hs5 2 (by decide), hs4 2 (by decide), hs3 2 (by decide), hs2 2 (by decide), hs1 2 (by decide), hs0 2 (by decide)]
theorem c_W_copy_3_31 {lev : Nat} {h : xq_H} {Q : Option xq_V → xq_H → Prop} (hl : 3 ≤ lev) (hQ : ∀ h', xs_eq [3, 4, 5, 6, 7, 8] h h' → (∀ k : Int, 0 ≤ k → k < 8 → h' 4 k = h 32 k) → (∀ k : Int, 0 ≤ k → k < 8 → h' 5 k = h 33 k) → (∀ k : Int, 0 ≤ k → k < 8 → h' 6 k = h 34 k) → (∀ k : Int, 0 ≤ k → k < 8 → h' 7 k = h 35 k) → (∀ k : Int, 0 ≤ k → k < 40 → h' 8 k = h 36 k) → h' 3 5 = h 31 5 → Q none h') : xq_met lev y_W_copy [xR 3, xR 31] 81 h Q := by
  refine en_W_copy (by omega) (fun K hK => ?_)
  refine xq_go hK [] 80 ?_
  refine ⟨lev - 1, by omega, c_cp_32_4 (by omega) (fun h0 hs0 hall0 => ?_)⟩
  refine ⟨lev - 1, by omega, c_cp_33_5 (by omega) (fun h1 hs1 hall1 => ?_)⟩
  refine ⟨lev - 1, by omega, c_cp_34_6 (by omega) (fun h2 hs2 hall2 => ?_)⟩
  refine ⟨lev - 1, by omega, c_cp_35_7 (by omega) (fun h3 hs3 hall3 => ?_)⟩
  refine ⟨lev - 1, by omega, c_cp_36_8 (by omega) (fun h4 hs4 hall4 => ?_)⟩
  refine hQ _ (xs_u (xs_tr (xs_tr (xs_tr (xs_tr (xs_tr xs_rf hs0 (X := []) (by decide) (by decide)) hs1 (fun _ z => z) (by decide)) hs2 (fun _ z => z) (by decide)) hs3 (fun _ z => z) (by decide)) hs4 (fun _ z => z) (by decide)) (by decide) _ _) ?_ ?_ ?_ ?_ ?_ ?_
  · intro k x y
    rw [xq_u_o (by decide), hs4 4 (by decide), hs3 4 (by decide), hs2 4 (by decide), hs1 4 (by decide), hall0 k x y]
  · intro k x y
    rw [xq_u_o (by decide), hs4 5 (by decide), hs3 5 (by decide), hs2 5 (by decide), hall1 k x y, hs0 33 (by decide)]
  · intro k x y
    rw [xq_u_o (by decide), hs4 6 (by decide), hs3 6 (by decide), hall2 k x y, hs1 34 (by decide), hs0 34 (by decide)]
  · intro k x y
    rw [xq_u_o (by decide), hs4 7 (by decide), hall3 k x y, hs2 35 (by decide), hs1 35 (by decide), hs0 35 (by decide)]
  · intro k x y
    rw [xq_u_o (by decide), hall4 k x y, hs3 36 (by decide), hs2 36 (by decide), hs1 36 (by decide), hs0 36 (by decide)]
  · rw [xu_eq, hs4 31 (by decide), hs3 31 (by decide), hs2 31 (by decide), hs1 31 (by decide), hs0 31 (by decide)]
theorem c_C_copy_9_37 {lev : Nat} {h : xq_H} {Q : Option xq_V → xq_H → Prop} (hl : 3 ≤ lev) (hQ : ∀ h', xs_eq [9, 10, 11, 12] h h' → (∀ k : Int, 0 ≤ k → k < 5 → h' 10 k = h 38 k) → (∀ k : Int, 0 ≤ k → k < 5 → h' 11 k = h 39 k) → (∀ k : Int, 0 ≤ k → k < 20 → h' 12 k = h 40 k) → h' 9 3 = h 37 3 → Q none h') : xq_met lev y_C_copy [xR 9, xR 37] 81 h Q := by
  refine en_C_copy (by omega) (fun K hK => ?_)
  refine xq_go hK [] 80 ?_
  refine ⟨lev - 1, by omega, c_cp_38_10 (by omega) (fun h0 hs0 hall0 => ?_)⟩
  refine ⟨lev - 1, by omega, c_cp_39_11 (by omega) (fun h1 hs1 hall1 => ?_)⟩
  refine ⟨lev - 1, by omega, c_cp_40_12 (by omega) (fun h2 hs2 hall2 => ?_)⟩
  refine hQ _ (xs_u (xs_tr (xs_tr (xs_tr xs_rf hs0 (X := []) (by decide) (by decide)) hs1 (fun _ z => z) (by decide)) hs2 (fun _ z => z) (by decide)) (by decide) _ _) ?_ ?_ ?_ ?_
  · intro k x y
    rw [xq_u_o (by decide), hs2 10 (by decide), hs1 10 (by decide), hall0 k x y]
  · intro k x y
    rw [xq_u_o (by decide), hs2 11 (by decide), hall1 k x y, hs0 39 (by decide)]
  · intro k x y
    rw [xq_u_o (by decide), hall2 k x y, hs1 40 (by decide), hs0 40 (by decide)]
  · rw [xu_eq, hs2 37 (by decide), hs1 37 (by decide), hs0 37 (by decide)]
theorem c_T_copy_13_41 {lev : Nat} {h : xq_H} {Q : Option xq_V → xq_H → Prop} (hl : 3 ≤ lev) (hQ : ∀ h', xs_eq [13, 14, 15, 16] h h' → (∀ k : Int, 0 ≤ k → k < 20 → h' 14 k = h 42 k) → (∀ k : Int, 0 ≤ k → k < 20 → h' 15 k = h 43 k) → (∀ k : Int, 0 ≤ k → k < 6 → h' 16 k = h 44 k) → h' 13 3 = h 41 3 → h' 13 4 = h 41 4 → h' 13 5 = h 41 5 → Q none h') : xq_met lev y_T_copy [xR 13, xR 41] 81 h Q := by
  refine en_T_copy (by omega) (fun K hK => ?_)
  refine xq_go hK [] 80 ?_
  refine ⟨lev - 1, by omega, c_cp_42_14 (by omega) (fun h0 hs0 hall0 => ?_)⟩
  refine ⟨lev - 1, by omega, c_cp_43_15 (by omega) (fun h1 hs1 hall1 => ?_)⟩
  refine ⟨lev - 1, by omega, c_cp_44_16 (by omega) (fun h2 hs2 hall2 => ?_)⟩
  refine hQ _ (xs_u (xs_u (xs_u (xs_tr (xs_tr (xs_tr xs_rf hs0 (X := []) (by decide) (by decide)) hs1 (fun _ z => z) (by decide)) hs2 (fun _ z => z) (by decide)) (by decide) _ _) (by decide) _ _) (by decide) _ _) ?_ ?_ ?_ ?_ ?_ ?_
  · intro k x y
    rw [xq_u_o (by decide), xq_u_o (by decide), xq_u_o (by decide), hs2 14 (by decide), hs1 14 (by decide), hall0 k x y]
  · intro k x y
    rw [xq_u_o (by decide), xq_u_o (by decide), xq_u_o (by decide), hs2 15 (by decide), hall1 k x y, hs0 43 (by decide)]
  · intro k x y
    rw [xq_u_o (by decide), xq_u_o (by decide), xq_u_o (by decide), hall2 k x y, hs1 44 (by decide), hs0 44 (by decide)]
  · rw [xu_ne (by decide), xu_ne (by decide), xu_eq, hs2 41 (by decide), hs1 41 (by decide), hs0 41 (by decide)]
  · rw [xu_ne (by decide), xu_eq, xq_u_o (by decide), hs2 41 (by decide), hs1 41 (by decide), hs0 41 (by decide)]
  · rw [xu_eq, xq_u_o (by decide), xq_u_o (by decide), hs2 41 (by decide), hs1 41 (by decide), hs0 41 (by decide)]
theorem c_P_copy_17_45 {lev : Nat} {h : xq_H} {Q : Option xq_V → xq_H → Prop} (hl : 3 ≤ lev) (hQ : ∀ h', xs_eq [17, 18, 19, 20] h h' → h' 17 0 = h 45 0 → h' 17 1 = h 45 1 → (∀ k : Int, 0 ≤ k → k < 10 → h' 18 k = h 46 k) → (∀ k : Int, 0 ≤ k → k < 10 → h' 19 k = h 47 k) → h' 17 4 = h 45 4 → (∀ k : Int, 0 ≤ k → k < 100 → h' 20 k = h 48 k) → h' 17 6 = h 45 6 → Q none h') : xq_met lev y_P_copy [xR 17, xR 45] 81 h Q := by
  refine en_P_copy (by omega) (fun K hK => ?_)
  refine xq_go hK [] 80 ?_
  refine ⟨lev - 1, by omega, c_cp_46_18 (by omega) (fun h2 hs2 hall2 => ?_)⟩
  refine ⟨lev - 1, by omega, c_cp_47_19 (by omega) (fun h3 hs3 hall3 => ?_)⟩
  refine ⟨lev - 1, by omega, c_cp_48_20 (by omega) (fun h5 hs5 hall5 => ?_)⟩
  refine hQ _ (xs_u (xs_tr (xs_u (xs_tr (xs_tr (xs_u (xs_u xs_rf (by decide) _ _) (by decide) _ _) hs2 (fun _ z => z) (by decide)) hs3 (fun _ z => z) (by decide)) (by decide) _ _) hs5 (fun _ z => z) (by decide)) (by decide) _ _) ?_ ?_ ?_ ?_ ?_ ?_ ?_
  · rw [xu_ne (by decide), hs5 17 (by decide), xu_ne (by decide), hs3 17 (by decide), hs2 17 (by decide), xu_ne (by decide), xu_eq]
  · rw [xu_ne (by decide), hs5 17 (by decide), xu_ne (by decide), hs3 17 (by decide), hs2 17 (by decide), xu_eq, xq_u_o (by decide)]
  · intro k x y
    rw [xq_u_o (by decide), hs5 18 (by decide), xq_u_o (by decide), hs3 18 (by decide), hall2 k x y, xq_u_o (by decide), xq_u_o (by decide)]
  · intro k x y
    rw [xq_u_o (by decide), hs5 19 (by decide), xq_u_o (by decide), hall3 k x y, hs2 47 (by decide), xq_u_o (by decide), xq_u_o (by decide)]
  · rw [xu_ne (by decide), hs5 17 (by decide), xu_eq, hs3 45 (by decide), hs2 45 (by decide), xq_u_o (by decide), xq_u_o (by decide)]
  · intro k x y
    rw [xq_u_o (by decide), hall5 k x y, xq_u_o (by decide), hs3 48 (by decide), hs2 48 (by decide), xq_u_o (by decide), xq_u_o (by decide)]
  · rw [xu_eq, hs5 45 (by decide), xq_u_o (by decide), hs3 45 (by decide), hs2 45 (by decide), xq_u_o (by decide), xq_u_o (by decide)]
theorem c_B_copy_21_49 {lev : Nat} {h : xq_H} {Q : Option xq_V → xq_H → Prop} (hl : 3 ≤ lev) (hQ : ∀ h', xs_eq [21, 22, 23, 24] h h' → (∀ k : Int, 0 ≤ k → k < 8 → h' 22 k = h 50 k) → (∀ k : Int, 0 ≤ k → k < 8 → h' 23 k = h 51 k) → (∀ k : Int, 0 ≤ k → k < 8 → h' 24 k = h 52 k) → h' 21 3 = h 49 3 → Q none h') : xq_met lev y_B_copy [xR 21, xR 49] 81 h Q := by
  refine en_B_copy (by omega) (fun K hK => ?_)
  refine xq_go hK [] 80 ?_
  refine ⟨lev - 1, by omega, c_cp_50_22 (by omega) (fun h0 hs0 hall0 => ?_)⟩
  refine ⟨lev - 1, by omega, c_cp_51_23 (by omega) (fun h1 hs1 hall1 => ?_)⟩
  refine ⟨lev - 1, by omega, c_cp_52_24 (by omega) (fun h2 hs2 hall2 => ?_)⟩
  refine hQ _ (xs_u (xs_tr (xs_tr (xs_tr xs_rf hs0 (X := []) (by decide) (by decide)) hs1 (fun _ z => z) (by decide)) hs2 (fun _ z => z) (by decide)) (by decide) _ _) ?_ ?_ ?_ ?_
  · intro k x y
    rw [xq_u_o (by decide), hs2 22 (by decide), hs1 22 (by decide), hall0 k x y]
  · intro k x y
    rw [xq_u_o (by decide), hs2 23 (by decide), hall1 k x y, hs0 51 (by decide)]
  · intro k x y
    rw [xq_u_o (by decide), hall2 k x y, hs1 52 (by decide), hs0 52 (by decide)]
  · rw [xu_eq, hs2 49 (by decide), hs1 49 (by decide), hs0 49 (by decide)]
theorem c_S_copy_2_30 {lev : Nat} {h : xq_H} {Q : Option xq_V → xq_H → Prop} (hl : 4 ≤ lev) (hQ : ∀ h', xs_eq [2, 3, 4, 5, 6, 7, 8, 9, 10, 11, 12, 13, 14, 15, 16, 17, 18, 19, 20, 21, 22, 23, 24, 25] h h' → xr_cp (h') (xr_sh h) → Q none h') : xq_met lev y_S_copy [xR 2, xR 30] 81 h Q := by
  refine en_S_copy (by omega) (fun K hK => ?_)
  refine xq_go hK [] 80 ?_
  refine ⟨lev - 1, by omega, c_W_copy_3_31 (by omega) (fun h0 hs0 f0_0 f0_1 f0_2 f0_3 f0_4 f0_5 => ?_)⟩
  refine ⟨lev - 1, by omega, c_C_copy_9_37 (by omega) (fun h1 hs1 f1_0 f1_1 f1_2 f1_3 => ?_)⟩
  refine ⟨lev - 1, by omega, c_T_copy_13_41 (by omega) (fun h2 hs2 f2_0 f2_1 f2_2 f2_3 f2_4 f2_5 => ?_)⟩
  refine ⟨lev - 1, by omega, c_P_copy_17_45 (by omega) (fun h3 hs3 f3_0 f3_1 f3_2 f3_3 f3_4 f3_5 f3_6 => ?_)⟩
  refine ⟨lev - 1, by omega, c_B_copy_21_49 (by omega) (fun h4 hs4 f4_0 f4_1 f4_2 f4_3 => ?_)⟩
  refine ⟨lev - 1, by omega, c_cp_53_25 (by omega) (fun h5 hs5 f5_0 => ?_)⟩
  refine hQ _ (xs_u (xs_u (xs_tr (Z := [2, 3, 4, 5, 6, 7, 8, 9, 10, 11, 12, 13, 14, 15, 16, 17, 18, 19, 20, 21, 22, 23, 24, 25]) (xs_tr (Z := [2, 3, 4, 5, 6, 7, 8, 9, 10, 11, 12, 13, 14, 15, 16, 17, 18, 19, 20, 21, 22, 23, 24, 25]) (xs_tr (Z := [2, 3, 4, 5, 6, 7, 8, 9, 10, 11, 12, 13, 14, 15, 16, 17, 18, 19, 20, 21, 22, 23, 24, 25]) (xs_tr (Z := [2, 3, 4, 5, 6, 7, 8, 9, 10, 11, 12, 13, 14, 15, 16, 17, 18, 19, 20, 21, 22, 23, 24, 25]) (xs_tr (Z := [2, 3, 4, 5, 6, 7, 8, 9, 10, 11, 12, 13, 14, 15, 16, 17, 18, 19, 20, 21, 22, 23, 24, 25]) (xs_tr xs_rf hs0 (X := []) (by decide) (by decide)) hs1 (fun _ z => z) (by decide)) hs2 (fun _ z => z) (by decide)) hs3 (fun _ z => z) (by decide)) hs4 (fun _ z => z) (by decide)) hs5 (fun _ z => z) (by decide)) (by decide) _ _) (by decide) _ _) ⟨?_, ?_, ?_, ?_, ?_, ?_, ?_, ?_, ?_, ?_, ?_, ?_, ?_, ?_, ?_, ?_, ?_, ?_, ?_, ?_, ?_, ?_, ?_, ?_, ?_, ?_, ?_, ?_, ?_⟩
  · show xq_u (xq_u h5 2 6 _) 2 7 _ 3 5 = h 31 5
    rw [xq_u_o (by decide), xq_u_o (by decide), hs5 3 (by decide), hs4 3 (by decide), hs3 3 (by decide), hs2 3 (by decide), hs1 3 (by decide), f0_5]
  · intro k x y
    show xq_u (xq_u h5 2 6 _) 2 7 _ 4 k = h 32 k
    rw [xq_u_o (by decide), xq_u_o (by decide), hs5 4 (by decide), hs4 4 (by decide), hs3 4 (by decide), hs2 4 (by decide), hs1 4 (by decide), f0_0 k x y]
  · intro k x y
    show xq_u (xq_u h5 2 6 _) 2 7 _ 5 k = h 33 k
    rw [xq_u_o (by decide), xq_u_o (by decide), hs5 5 (by decide), hs4 5 (by decide), hs3 5 (by decide), hs2 5 (by decide), hs1 5 (by decide), f0_1 k x y]
  · intro k x y
    show xq_u (xq_u h5 2 6 _) 2 7 _ 6 k = h 34 k
    rw [xq_u_o (by decide), xq_u_o (by decide), hs5 6 (by decide), hs4 6 (by decide), hs3 6 (by decide), hs2 6 (by decide), hs1 6 (by decide), f0_2 k x y]
  · intro k x y
    show xq_u (xq_u h5 2 6 _) 2 7 _ 7 k = h 35 k
    rw [xq_u_o (by decide), xq_u_o (by decide), hs5 7 (by decide), hs4 7 (by decide), hs3 7 (by decide), hs2 7 (by decide), hs1 7 (by decide), f0_3 k x y]
  · intro k x y
    show xq_u (xq_u h5 2 6 _) 2 7 _ 8 k = h 36 k
    rw [xq_u_o (by decide), xq_u_o (by decide), hs5 8 (by decide), hs4 8 (by decide), hs3 8 (by decide), hs2 8 (by decide), hs1 8 (by decide), f0_4 k x y]
  · show xq_u (xq_u h5 2 6 _) 2 7 _ 9 3 = h 37 3
    rw [xq_u_o (by decide), xq_u_o (by decide), hs5 9 (by decide), hs4 9 (by decide), hs3 9 (by decide), hs2 9 (by decide), f1_3, hs0 37 (by decide)]
  · intro k x y
    show xq_u (xq_u h5 2 6 _) 2 7 _ 10 k = h 38 k
    rw [xq_u_o (by decide), xq_u_o (by decide), hs5 10 (by decide), hs4 10 (by decide), hs3 10 (by decide), hs2 10 (by decide), f1_0 k x y, hs0 38 (by decide)]
  · intro k x y
    show xq_u (xq_u h5 2 6 _) 2 7 _ 11 k = h 39 k
    rw [xq_u_o (by decide), xq_u_o (by decide), hs5 11 (by decide), hs4 11 (by decide), hs3 11 (by decide), hs2 11 (by decide), f1_1 k x y, hs0 39 (by decide)]
  · intro k x y
    show xq_u (xq_u h5 2 6 _) 2 7 _ 12 k = h 40 k
    rw [xq_u_o (by decide), xq_u_o (by decide), hs5 12 (by decide), hs4 12 (by decide), hs3 12 (by decide), hs2 12 (by decide), f1_2 k x y, hs0 40 (by decide)]
  · show xq_u (xq_u h5 2 6 _) 2 7 _ 13 3 = h 41 3
    rw [xq_u_o (by decide), xq_u_o (by decide), hs5 13 (by decide), hs4 13 (by decide), hs3 13 (by decide), f2_3, hs1 41 (by decide), hs0 41 (by decide)]
  · show xq_u (xq_u h5 2 6 _) 2 7 _ 13 4 = h 41 4
    rw [xq_u_o (by decide), xq_u_o (by decide), hs5 13 (by decide), hs4 13 (by decide), hs3 13 (by decide), f2_4, hs1 41 (by decide), hs0 41 (by decide)]
  · show xq_u (xq_u h5 2 6 _) 2 7 _ 13 5 = h 41 5
    rw [xq_u_o (by decide), xq_u_o (by decide), hs5 13 (by decide), hs4 13 (by decide), hs3 13 (by decide), f2_5, hs1 41 (by decide), hs0 41 (by decide)]
  · intro k x y
    show xq_u (xq_u h5 2 6 _) 2 7 _ 14 k = h 42 k
    rw [xq_u_o (by decide), xq_u_o (by decide), hs5 14 (by decide), hs4 14 (by decide), hs3 14 (by decide), f2_0 k x y, hs1 42 (by decide), hs0 42 (by decide)]
  · intro k x y
    show xq_u (xq_u h5 2 6 _) 2 7 _ 15 k = h 43 k
    rw [xq_u_o (by decide), xq_u_o (by decide), hs5 15 (by decide), hs4 15 (by decide), hs3 15 (by decide), f2_1 k x y, hs1 43 (by decide), hs0 43 (by decide)]
  · intro k x y
    show xq_u (xq_u h5 2 6 _) 2 7 _ 16 k = h 44 k
    rw [xq_u_o (by decide), xq_u_o (by decide), hs5 16 (by decide), hs4 16 (by decide), hs3 16 (by decide), f2_2 k x y, hs1 44 (by decide), hs0 44 (by decide)]
  · show xq_u (xq_u h5 2 6 _) 2 7 _ 17 0 = h 45 0
    rw [xq_u_o (by decide), xq_u_o (by decide), hs5 17 (by decide), hs4 17 (by decide), f3_0, hs2 45 (by decide), hs1 45 (by decide), hs0 45 (by decide)]
  · show xq_u (xq_u h5 2 6 _) 2 7 _ 17 1 = h 45 1
    rw [xq_u_o (by decide), xq_u_o (by decide), hs5 17 (by decide), hs4 17 (by decide), f3_1, hs2 45 (by decide), hs1 45 (by decide), hs0 45 (by decide)]
  · show xq_u (xq_u h5 2 6 _) 2 7 _ 17 4 = h 45 4
    rw [xq_u_o (by decide), xq_u_o (by decide), hs5 17 (by decide), hs4 17 (by decide), f3_4, hs2 45 (by decide), hs1 45 (by decide), hs0 45 (by decide)]
  · intro k x y
    show xq_u (xq_u h5 2 6 _) 2 7 _ 18 k = h 46 k
    rw [xq_u_o (by decide), xq_u_o (by decide), hs5 18 (by decide), hs4 18 (by decide), f3_2 k x y, hs2 46 (by decide), hs1 46 (by decide), hs0 46 (by decide)]
  · intro k x y
    show xq_u (xq_u h5 2 6 _) 2 7 _ 19 k = h 47 k
    rw [xq_u_o (by decide), xq_u_o (by decide), hs5 19 (by decide), hs4 19 (by decide), f3_3 k x y, hs2 47 (by decide), hs1 47 (by decide), hs0 47 (by decide)]
  · intro k x y
    show xq_u (xq_u h5 2 6 _) 2 7 _ 20 k = h 48 k
    rw [xq_u_o (by decide), xq_u_o (by decide), hs5 20 (by decide), hs4 20 (by decide), f3_5 k x y, hs2 48 (by decide), hs1 48 (by decide), hs0 48 (by decide)]
  · show xq_u (xq_u h5 2 6 _) 2 7 _ 21 3 = h 49 3
    rw [xq_u_o (by decide), xq_u_o (by decide), hs5 21 (by decide), f4_3, hs3 49 (by decide), hs2 49 (by decide), hs1 49 (by decide), hs0 49 (by decide)]
  · intro k x y
    show xq_u (xq_u h5 2 6 _) 2 7 _ 22 k = h 50 k
    rw [xq_u_o (by decide), xq_u_o (by decide), hs5 22 (by decide), f4_0 k x y, hs3 50 (by decide), hs2 50 (by decide), hs1 50 (by decide), hs0 50 (by decide)]
  · intro k x y
    show xq_u (xq_u h5 2 6 _) 2 7 _ 23 k = h 51 k
    rw [xq_u_o (by decide), xq_u_o (by decide), hs5 23 (by decide), f4_1 k x y, hs3 51 (by decide), hs2 51 (by decide), hs1 51 (by decide), hs0 51 (by decide)]
  · intro k x y
    show xq_u (xq_u h5 2 6 _) 2 7 _ 24 k = h 52 k
    rw [xq_u_o (by decide), xq_u_o (by decide), hs5 24 (by decide), f4_2 k x y, hs3 52 (by decide), hs2 52 (by decide), hs1 52 (by decide), hs0 52 (by decide)]
  · intro k x y
    show xq_u (xq_u h5 2 6 _) 2 7 _ 25 k = h 53 k
    rw [xq_u_o (by decide), xq_u_o (by decide), f5_0 k x y, hs4 53 (by decide), hs3 53 (by decide), hs2 53 (by decide), hs1 53 (by decide), hs0 53 (by decide)]
  · show xq_u (xq_u h5 2 6 _) 2 7 _ 2 6 = h 30 6
    rw [xu_ne (by decide), xu_eq, hs5 30 (by decide), hs4 30 (by decide), hs3 30 (by decide), hs2 30 (by decide), hs1 30 (by decide), hs0 30 (by decide)]
  · show xq_u (xq_u h5 2 6 _) 2 7 _ 2 7 = h 30 7
    rw [xu_eq, xq_u_o (by decide), hs5 30 (by decide), hs4 30 (by decide), hs3 30 (by decide), hs2 30 (by decide), hs1 30 (by decide), hs0 30 (by decide)]
theorem c_P_copy_17_55 {lev : Nat} {h : xq_H} {Q : Option xq_V → xq_H → Prop} (hl : 3 ≤ lev) (hQ : ∀ h', xs_eq [17, 18, 19, 20] h h' → h' 17 0 = h 55 0 → h' 17 1 = h 55 1 → (∀ k : Int, 0 ≤ k → k < 10 → h' 18 k = h 56 k) → (∀ k : Int, 0 ≤ k → k < 10 → h' 19 k = h 57 k) → h' 17 4 = h 55 4 → (∀ k : Int, 0 ≤ k → k < 100 → h' 20 k = h 58 k) → h' 17 6 = h 55 6 → Q none h') : xq_met lev y_P_copy [xR 17, xR 55] 81 h Q := by
  refine en_P_copy (by omega) (fun K hK => ?_)
  refine xq_go hK [] 80 ?_
  refine ⟨lev - 1, by omega, c_cp_56_18 (by omega) (fun h2 hs2 hall2 => ?_)⟩
  refine ⟨lev - 1, by omega, c_cp_57_19 (by omega) (fun h3 hs3 hall3 => ?_)⟩
  refine ⟨lev - 1, by omega, c_cp_58_20 (by omega) (fun h5 hs5 hall5 => ?_)⟩
  refine hQ _ (xs_u (xs_tr (xs_u (xs_tr (xs_tr (xs_u (xs_u xs_rf (by decide) _ _) (by decide) _ _) hs2 (fun _ z => z) (by decide)) hs3 (fun _ z => z) (by decide)) (by decide) _ _) hs5 (fun _ z => z) (by decide)) (by decide) _ _) ?_ ?_ ?_ ?_ ?_ ?_ ?_
  · rw [xu_ne (by decide), hs5 17 (by decide), xu_ne (by decide), hs3 17 (by decide), hs2 17 (by decide), xu_ne (by decide), xu_eq]
  · rw [xu_ne (by decide), hs5 17 (by decide), xu_ne (by decide), hs3 17 (by decide), hs2 17 (by decide), xu_eq, xq_u_o (by decide)]
  · intro k x y
    rw [xq_u_o (by decide), hs5 18 (by decide), xq_u_o (by decide), hs3 18 (by decide), hall2 k x y, xq_u_o (by decide), xq_u_o (by decide)]
  · intro k x y
    rw [xq_u_o (by decide), hs5 19 (by decide), xq_u_o (by decide), hall3 k x y, hs2 57 (by decide), xq_u_o (by decide), xq_u_o (by decide)]
  · rw [xu_ne (by decide), hs5 17 (by decide), xu_eq, hs3 55 (by decide), hs2 55 (by decide), xq_u_o (by decide), xq_u_o (by decide)]
  · intro k x y
    rw [xq_u_o (by decide), hall5 k x y, xq_u_o (by decide), hs3 58 (by decide), hs2 58 (by decide), xq_u_o (by decide), xq_u_o (by decide)]
  · rw [xu_eq, hs5 55 (by decide), xq_u_o (by decide), hs3 55 (by decide), hs2 55 (by decide), xq_u_o (by decide), xq_u_o (by decide)]
theorem xf_at_cp {g g' : Int → Int} : ∀ (l : List Int) (p : Int), (∀ k : Int, p ≤ k → k < p + l.length → g' k = g k) → xf_at g p l → xf_at g' p l
  | [], _, _, _ => trivial
  | t :: l, p, h, a => by
    simp only [List.length_cons] at h
    exact ⟨by rw [h p (Int.le_refl _) (by omega)]; exact a.1, xf_at_cp l (p + 1) (fun k x y => h k (by omega) (by omega)) a.2⟩
theorem xf_cls_cp {a b : xq_H} (e18 : ∀ k : Int, 0 ≤ k → k < 10 → a 18 k = b 18 k) (e19 : ∀ k : Int, 0 ≤ k → k < 10 → a 19 k = b 19 k) (e20 : ∀ k : Int, 0 ≤ k → k < 100 → a 20 k = b 20 k) : ∀ (P : List xf_Cl) (c p : Int), 0 ≤ c → 0 ≤ p → c + P.length ≤ 10 → p + xf_len P ≤ 100 → xf_cls b c p P → xf_cls a c p P
  | [], _, _, _, _, _, _, _ => trivial
  | (x, E) :: P, c, p, hc, hp, h1, h2, hb => by
    simp only [List.length_cons] at h1
    simp only [xf_len] at h2
    refine ⟨by rw [e18 c hc (by omega)]; exact hb.1, by rw [e19 c hc (by omega)]; exact hb.2.1, xf_at_cp _ _ (fun k y z => ?_) hb.2.2.1, xf_cls_cp e18 e19 e20 P _ _ (by omega) (by omega) (by omega) (by omega) hb.2.2.2⟩
    rw [List.length_map] at z
    exact e20 k (by omega) (by omega)
theorem xr_ok_cp {a b : xq_H} {m : Int → Int} {P : List xf_Cl} {T : Int} (c : xr_cp a b) (I : xr_ok b m P T) : xr_ok a m P T := by
  obtain ⟨gL, gW, gC, gF, gT, gP, gB, gA⟩ := xr_ok_g I
  obtain ⟨c0, c1, c2, c3, c4, c5, c6, c7, c8, c9, c10, c11, c12, c13, c14, c15, c16, c17, c18, c19, c20, c21, c22, c23, c24, c25, c26, c27, c28⟩ := c
  obtain ⟨l1, l2, l3, l4, l5⟩ := gL
  obtain ⟨k1, k2, k3⟩ := gC
  obtain ⟨f1, f2, f3⟩ := gF
  obtain ⟨t1, t2, t3, t4, t5, t6, t7⟩ := gT
  obtain ⟨p1, p2, p3, p4, p5, p6, p7, p8, p9⟩ := gP
  obtain ⟨b1, b2, b3⟩ := gB
  obtain ⟨a1, a2, a3⟩ := gA
  refine xr_ok_mk ?_ ?_ ?_ ?_ ?_ ?_ ?_ ?_
  · refine ⟨by rw [c0]; exact l1, l2, fun i x y => ?_, fun i x y k hk => ?_, l5⟩
    · rw [c1 i x (by omega), c3 i x (by omega), c4 i x (by omega)]
      exact l3 i x y
    · have zb := xf_szb (l3 i x y).2.2.2.1
      rw [c5 _ (by omega) (by omega)]
      exact l4 i x y k hk
  · intro i x y
    rw [c2 i x (by omega)]
    exact gW i x y
  · refine ⟨by rw [c6]; exact k1, k2, fun i x y => ?_⟩
    rw [c7 i x (by omega), c8 i x (by omega)]
    have z := k3 i x y
    refine ⟨z.1, z.2.1, z.2.2.1, z.2.2.2.1, fun k u v => ?_⟩
    rw [c9 _ (by omega) (by omega)]
    exact z.2.2.2.2 k u v
  · refine ⟨by rw [c12]; exact f1, f2, fun i x y => ?_⟩
    rw [c15 i x (by omega)]
    exact f3 i x y
  · refine ⟨by rw [c11]; exact t1, by rw [c10]; exact t2, t3, t4, t5, fun i x y => ?_, t7⟩
    rw [c13 i x (by omega), c14 i x (by omega)]
    exact t6 i x y
  · exact ⟨by rw [c16]; exact p1, by rw [c17]; exact p2, by rw [c18]; exact p3, p4, p5, p6, xf_cls_cp c19 c20 c21 P 0 0 (Int.le_refl _) (Int.le_refl _) (by omega) (by omega) p7, by rw [c28]; exact p8, p9⟩
  · refine ⟨by rw [c22]; exact b1, b2, fun i x y => ?_⟩
    rw [c23 i x (by omega), c24 i x (by omega), c25 i x (by omega)]
    exact b3 i x y
  · refine ⟨by rw [c27]; exact a1, a2, fun i x y => ?_⟩
    rw [c26 i x (by omega)]
    exact a3 i x y
theorem xr_ok_row {h : xq_H} {m m' : Int → Int} {P : List xf_Cl} {T : Int} (em : ∀ k : Int, 0 ≤ k → k < 949 → m' k = m k) (I : xr_ok h m P T) : xr_ok h m' P T := by
  obtain ⟨gL, gW, gC, gF, gT, gP, gB, gA⟩ := xr_ok_g I
  refine xr_ok_mk (xg_L_cg rfl rfl rfl rfl rfl (fun k hk => em k (by omega) (by omega)) gL) (xg_W_cg gL.2.1.2 rfl (fun k hk => em k (by omega) (by omega)) gW) (xg_C_cg rfl rfl rfl rfl (fun k hk => em k (by omega) (by omega)) gC) (xg_F_cg rfl rfl (fun k hk => em k (by omega) (by omega)) gF) (xg_T_cg rfl rfl rfl rfl (fun k hk => em k (by omega) (by omega)) gT) ?_ (xg_B_cg rfl rfl rfl rfl (fun k hk => em k (by omega) (by omega)) (by rw [em 10 (by omega) (by omega)]; exact Int.le_refl _) gB) (xg_A_cg rfl rfl (fun k hk => em k (by omega) (by omega)) gA)
  obtain ⟨p1, p2, p3, p4, p5, p6, p7, p8, p9, p10, p11, p12, p13, p14⟩ := gP
  have e12 := em 12 (by omega) (by omega)
  have e := em 17 (by omega) (by omega)
  have elim : xf_lim m' = xf_lim m := by
    unfold xf_lim
    rw [e]
    split
    · rfl
    · rw [em (234 + m 17) (by omega) (by omega)]
  have estp : xf_stp m' = xf_stp m := by
    unfold xf_stp
    rw [e]
    split
    · rfl
    · rw [em (239 + m 17) (by omega) (by omega)]
  refine ⟨by rw [elim]; exact p1, by rw [estp]; exact p2, p3, p4, p5, p6, p7, by rw [e12]; exact p8, by rw [e]; exact p9, by rw [estp]; exact p10, by rw [elim]; exact p11, by rw [e12]; exact p12, by rw [e, e12]; exact p13, ?_⟩
  obtain ⟨q1, q2, q3, q4, q5⟩ := p14
  refine ⟨q1, q2, q3, fun z => q4 (by rw [← e]; exact z), fun z => ?_⟩
  rw [e] at z ⊢
  rw [em (244 + m 17) (by omega) (by omega)]
  exact ⟨(q5 z).1, xf_at_cp _ _ (fun k x y => em k (by omega) (by omega)) (q5 z).2⟩
theorem q_X_image {lev : Nat} {h : xq_H} {Q : Option xq_V → xq_H → Prop} {m : Int → Int} {P : List xf_Cl} {T : Int} (hl : 5 ≤ lev) (I : xr_ok h m P T) (hQ : ∀ h', xs_eq [0, 30, 31, 32, 33, 34, 35, 36, 37, 38, 39, 40, 41, 42, 43, 44, 45, 46, 47, 48, 49, 50, 51, 52, 53] h h' → h' 0 2 = 1 → xr_ok (xr_sh h') m P T → Q (some (xI (m 10))) h') : xq_met lev y_X_image [xR 0] 81 h Q := by
  refine en_X_image (by omega) (fun K hK => ?_)
  refine xq_go hK [] 60 ?_
  refine ⟨lev - 1, by omega, c_S_copy_30_2 (by omega) (fun h1 hs1 c1 => ?_)⟩
  have ecs : h1 9 3 = m 10 := by rw [hs1 9 (by decide)]; exact I.now.bs.cs
  refine And.intro (Or.inr rfl) ?_
  have q := hQ (xq_u h1 0 2 1) (xs_u (xs_tr xs_rf hs1 (X := []) (by decide) (by decide)) (by decide) _ _) xu_eq (xr_ok_cp (a := xr_sh (xq_u h1 0 2 1)) c1 I)
  rw [← ecs] at q
  exact q
theorem q_X_undo {lev : Nat} {h : xq_H} {Q : Option xq_V → xq_H → Prop} {m : Int → Int} {P : List xf_Cl} {T : Int} (hl : 5 ≤ lev) (hk : h 0 2 = 0 ∨ h 0 2 = 1) (I : h 0 2 = 1 → xr_ok (xr_sh h) m P T) (h0 : h 0 2 = 0 → Q (some (xI (-3))) h) (hQ : h 0 2 = 1 → ∀ h', xr_cm h h' → xr_ok h' m P T → Q (some (xI (m 10))) h') : xq_met lev y_X_undo [xR 0] 81 h Q := by
  refine en_X_undo (by omega) (fun K hK => ?_)
  refine xq_go hK [] 60 ?_
  refine And.intro (fun c => ?_) (fun c => h0 c)
  have k1 : h 0 2 = 1 := by omega
  refine ⟨lev - 1, by omega, c_S_copy_2_30 (by omega) (fun h1 hs1 c1 => ?_)⟩
  have ok1 := xr_ok_cp c1 (I k1)
  have q := hQ k1 h1 (xr_cm_s hs1 (by decide)) ok1
  rw [← ok1.now.bs.cs] at q
  exact q
theorem q_M_image {lev : Nat} {h : xq_H} {Q : Option xq_V → xq_H → Prop} (hl : 1 ≤ lev) (hQ : ∀ h', xs_eq [64, 66] h h' → (∀ k : Int, k ≠ 4 → h' 64 k = h 64 k) → h' 64 4 = 1 → (∀ k : Int, 0 ≤ k → k < 949 → h' 66 k = h 65 k) → Q (some (xI (h 65 10))) h') : xq_met lev y_M_image [xR 64] 81 h Q := by
  refine en_M_image (by omega) (fun K hK => ?_)
  have loop : ∀ (d i : Nat) (iI : Int) (h' : xq_H), i + d = 949 → iI = i → xs_eq [66] h h' → (∀ k : Int, 0 ≤ k → k < i → h' 66 k = h 65 k) → K 2 [some (xR 64), some (xI iI)] [] 81 h' := by
    intro d
    induction d with
    | zero =>
      intro i iI h' hd ei hs hall
      have e65 : h' 65 = h 65 := hs 65 (by decide)
      refine xq_go hK [2] 60 ?_
      refine And.intro (fun _ => ?_) (fun c => absurd c (by omega))
      refine And.intro (by omega) ?_
      refine And.intro (by omega) ?_
      have q := hQ (xq_u h' 64 4 1) (xs_u (xs_tr xs_rf hs (X := []) (by decide) (by decide)) (by decide) _ _) (fun k hk => by rw [xu_ne hk, hs 64 (by decide)]) xu_eq (fun k x y => by rw [xq_u_o (by decide)]; exact hall k x (by omega))
      rw [← e65] at q
      exact q
    | succ d ih =>
      intro i iI h' hd ei hs hall
      refine xq_go hK [2] 60 ?_
      refine And.intro (fun c => absurd c (by omega)) (fun _ => ?_)
      refine And.intro (by omega) ?_
      refine And.intro (by omega) ?_
      refine And.intro (by omega) ?_
      refine ih (i + 1) _ _ (by omega) (by omega) (xs_u hs (by decide) _ _) (fun k x y => ?_)
      rw [xu_rd, hs 65 (by decide)]
      by_cases e : k = iI
      · rw [if_pos e, e]
      · rw [if_neg e]
        exact hall k x (by omega)
  refine xq_go hK [2] 60 ?_
  exact loop 949 0 _ h (by omega) rfl xs_rf (fun k x y => by omega)
theorem q_M_undo {lev : Nat} {h : xq_H} {Q : Option xq_V → xq_H → Prop} (hl : 1 ≤ lev) (hk : h 64 4 = 0 ∨ h 64 4 = 1) (h0 : h 64 4 = 0 → Q (some (xI (-3))) h) (hQ : h 64 4 = 1 → ∀ h', xs_eq [65] h h' → (∀ k : Int, 0 ≤ k → k < 949 → h' 65 k = h 66 k) → Q (some (xI (h 66 10))) h') : xq_met lev y_M_undo [xR 64] 81 h Q := by
  refine en_M_undo (by omega) (fun K hK => ?_)
  have loop : ∀ (d i : Nat) (iI : Int) (h' : xq_H), h 64 4 = 1 → i + d = 949 → iI = i → xs_eq [65] h h' → (∀ k : Int, 0 ≤ k → k < i → h' 65 k = h 66 k) → K 7 [some (xR 64), some (xI iI)] [] 81 h' := by
    intro d
    induction d with
    | zero =>
      intro i iI h' h1 hd ei hs hall
      refine xq_go hK [7] 60 ?_
      refine And.intro (fun _ => ?_) (fun c => absurd c (by omega))
      refine And.intro (by omega) ?_
      have q := hQ h1 h' hs (fun k x y => hall k x (by omega))
      rw [← hall 10 (by omega) (by omega)] at q
      exact q
    | succ d ih =>
      intro i iI h' h1 hd ei hs hall
      refine xq_go hK [7] 60 ?_
      refine And.intro (fun c => absurd c (by omega)) (fun _ => ?_)
      refine And.intro (by omega) ?_
      refine And.intro (by omega) ?_
      refine And.intro (by omega) ?_
      refine ih (i + 1) _ _ h1 (by omega) (by omega) (xs_u hs (by decide) _ _) (fun k x y => ?_)
      rw [xu_rd, hs 66 (by decide)]
      by_cases e : k = iI
      · rw [if_pos e, e]
      · rw [if_neg e]
        exact hall k x (by omega)
  refine xq_go hK [7] 60 ?_
  refine And.intro (fun c => ?_) (fun c => h0 c)
  exact loop 949 0 _ h (by omega) (by omega) rfl xs_rf (fun k x y => by omega)
