/-! THE HEAP BEHIND THE CONSTRUCTORS -/
/-- before anything is made: the script alone -/
def xz_0 (xs : Int → Int) : xq_H := fun o k => if o = 999 then xs k else 0
def xz_F (h : xq_H) : xq_H := i_M_64 (xq_z (i_X_0 (xq_z h 0)) 64)
def xz_A (h h' : xq_H) : Prop := ∀ o, o ≠ 999 → h o = h' o
theorem xz_Au {h h' : xq_H} {o : Nat} {k v : Int} (a : xz_A h h') : xz_A (xq_u h o k v) (xq_u h' o k v) := by
  intro o' ho
  funext k'
  unfold xq_u
  rw [a o' ho]
theorem xz_Az {h h' : xq_H} {o : Nat} (a : xz_A h h') : xz_A (xq_z h o) (xq_z h' o) := by
  intro o' ho
  funext k'
  unfold xq_z
  rw [a o' ho]
def xz_B (xs : Int → Int) (h : xq_H) : Prop := h 999 = xs ∧ (xq_rgh h)
theorem xz_Bu {xs : Int → Int} {h : xq_H} {o : Nat} {k v : Int} (ho : 999 ≠ o) (hv : -2147483648 ≤ v ∧ v ≤ 2147483647) (a : xz_B xs h) : xz_B xs (xq_u h o k v) := ⟨by rw [xq_u_o ho]; exact a.1, xq_rgh_u a.2 o k hv⟩
theorem xz_Bz {xs : Int → Int} {h : xq_H} {o : Nat} (ho : 999 ≠ o) (a : xz_B xs h) : xz_B xs (xq_z h o) := ⟨by
  funext k
  unfold xq_z
  rw [if_neg ho, a.1], xq_rgh_z a.2 o⟩
theorem xz_A_i_W_3 {h h' : xq_H} (a : xz_A h h') : xz_A (i_W_3 h) (i_W_3 h') := by
  unfold i_W_3
  refine xz_Au ?_
  refine xz_Au ?_
  refine xz_Az ?_
  refine xz_Au ?_
  refine xz_Az ?_
  refine xz_Au ?_
  refine xz_Az ?_
  refine xz_Au ?_
  refine xz_Az ?_
  refine xz_Au ?_
  refine xz_Az ?_
  exact a
theorem xz_B_i_W_3 {xs : Int → Int} {h : xq_H} (a : xz_B xs h) : xz_B xs (i_W_3 h) := by
  unfold i_W_3
  refine xz_Bu (by decide) (by decide) ?_
  refine xz_Bu (by decide) (by decide) ?_
  refine xz_Bz (by decide) ?_
  refine xz_Bu (by decide) (by decide) ?_
  refine xz_Bz (by decide) ?_
  refine xz_Bu (by decide) (by decide) ?_
  refine xz_Bz (by decide) ?_
  refine xz_Bu (by decide) (by decide) ?_
  refine xz_Bz (by decide) ?_
  refine xz_Bu (by decide) (by decide) ?_
  refine xz_Bz (by decide) ?_
  exact a
theorem xz_A_i_C_9 {h h' : xq_H} (a : xz_A h h') : xz_A (i_C_9 h) (i_C_9 h') := by
  unfold i_C_9
  refine xz_Au ?_
  refine xz_Au ?_
  refine xz_Az ?_
  refine xz_Au ?_
  refine xz_Az ?_
  refine xz_Au ?_
  refine xz_Az ?_
  exact a
theorem xz_B_i_C_9 {xs : Int → Int} {h : xq_H} (a : xz_B xs h) : xz_B xs (i_C_9 h) := by
  unfold i_C_9
  refine xz_Bu (by decide) (by decide) ?_
  refine xz_Bu (by decide) (by decide) ?_
  refine xz_Bz (by decide) ?_
  refine xz_Bu (by decide) (by decide) ?_
  refine xz_Bz (by decide) ?_
  refine xz_Bu (by decide) (by decide) ?_
  refine xz_Bz (by decide) ?_
  exact a
theorem xz_A_i_T_13 {h h' : xq_H} (a : xz_A h h') : xz_A (i_T_13 h) (i_T_13 h') := by
  unfold i_T_13
  refine xz_Au ?_
  refine xz_Au ?_
  refine xz_Au ?_
  refine xz_Au ?_
  refine xz_Az ?_
  refine xz_Au ?_
  refine xz_Az ?_
  refine xz_Au ?_
  refine xz_Az ?_
  exact a
theorem xz_B_i_T_13 {xs : Int → Int} {h : xq_H} (a : xz_B xs h) : xz_B xs (i_T_13 h) := by
  unfold i_T_13
  refine xz_Bu (by decide) (by decide) ?_
  refine xz_Bu (by decide) (by decide) ?_
  refine xz_Bu (by decide) (by decide) ?_
  refine xz_Bu (by decide) (by decide) ?_
  refine xz_Bz (by decide) ?_
  refine xz_Bu (by decide) (by decide) ?_
  refine xz_Bz (by decide) ?_
  refine xz_Bu (by decide) (by decide) ?_
  refine xz_Bz (by decide) ?_
  exact a
theorem xz_A_i_P_17 {h h' : xq_H} (a : xz_A h h') : xz_A (i_P_17 h) (i_P_17 h') := by
  unfold i_P_17
  refine xz_Au ?_
  refine xz_Au ?_
  refine xz_Az ?_
  refine xz_Au ?_
  refine xz_Au ?_
  refine xz_Az ?_
  refine xz_Au ?_
  refine xz_Az ?_
  refine xz_Au ?_
  refine xz_Au ?_
  exact a
theorem xz_B_i_P_17 {xs : Int → Int} {h : xq_H} (a : xz_B xs h) : xz_B xs (i_P_17 h) := by
  unfold i_P_17
  refine xz_Bu (by decide) (by decide) ?_
  refine xz_Bu (by decide) (by decide) ?_
  refine xz_Bz (by decide) ?_
  refine xz_Bu (by decide) (by decide) ?_
  refine xz_Bu (by decide) (by decide) ?_
  refine xz_Bz (by decide) ?_
  refine xz_Bu (by decide) (by decide) ?_
  refine xz_Bz (by decide) ?_
  refine xz_Bu (by decide) (by decide) ?_
  refine xz_Bu (by decide) (by decide) ?_
  exact a
theorem xz_A_i_B_21 {h h' : xq_H} (a : xz_A h h') : xz_A (i_B_21 h) (i_B_21 h') := by
  unfold i_B_21
  refine xz_Au ?_
  refine xz_Au ?_
  refine xz_Az ?_
  refine xz_Au ?_
  refine xz_Az ?_
  refine xz_Au ?_
  refine xz_Az ?_
  exact a
theorem xz_B_i_B_21 {xs : Int → Int} {h : xq_H} (a : xz_B xs h) : xz_B xs (i_B_21 h) := by
  unfold i_B_21
  refine xz_Bu (by decide) (by decide) ?_
  refine xz_Bu (by decide) (by decide) ?_
  refine xz_Bz (by decide) ?_
  refine xz_Bu (by decide) (by decide) ?_
  refine xz_Bz (by decide) ?_
  refine xz_Bu (by decide) (by decide) ?_
  refine xz_Bz (by decide) ?_
  exact a
theorem xz_A_i_S_2 {h h' : xq_H} (a : xz_A h h') : xz_A (i_S_2 h) (i_S_2 h') := by
  unfold i_S_2
  refine xz_Au ?_
  refine xz_Au ?_
  refine xz_Au ?_
  refine xz_Az ?_
  refine xz_Au ?_
  refine xz_A_i_B_21 ?_
  refine xz_Az ?_
  refine xz_Au ?_
  refine xz_A_i_P_17 ?_
  refine xz_Az ?_
  refine xz_Au ?_
  refine xz_A_i_T_13 ?_
  refine xz_Az ?_
  refine xz_Au ?_
  refine xz_A_i_C_9 ?_
  refine xz_Az ?_
  refine xz_Au ?_
  refine xz_A_i_W_3 ?_
  refine xz_Az ?_
  exact a
theorem xz_B_i_S_2 {xs : Int → Int} {h : xq_H} (a : xz_B xs h) : xz_B xs (i_S_2 h) := by
  unfold i_S_2
  refine xz_Bu (by decide) (by decide) ?_
  refine xz_Bu (by decide) (by decide) ?_
  refine xz_Bu (by decide) (by decide) ?_
  refine xz_Bz (by decide) ?_
  refine xz_Bu (by decide) (by decide) ?_
  refine xz_B_i_B_21 ?_
  refine xz_Bz (by decide) ?_
  refine xz_Bu (by decide) (by decide) ?_
  refine xz_B_i_P_17 ?_
  refine xz_Bz (by decide) ?_
  refine xz_Bu (by decide) (by decide) ?_
  refine xz_B_i_T_13 ?_
  refine xz_Bz (by decide) ?_
  refine xz_Bu (by decide) (by decide) ?_
  refine xz_B_i_C_9 ?_
  refine xz_Bz (by decide) ?_
  refine xz_Bu (by decide) (by decide) ?_
  refine xz_B_i_W_3 ?_
  refine xz_Bz (by decide) ?_
  exact a
theorem xz_A_i_K_1 {h h' : xq_H} (a : xz_A h h') : xz_A (i_K_1 h) (i_K_1 h') := by
  unfold i_K_1
  refine xz_Au ?_
  refine xz_Az ?_
  refine xz_Au ?_
  refine xz_Az ?_
  refine xz_Au ?_
  refine xz_Au ?_
  refine xz_Az ?_
  refine xz_Au ?_
  refine xz_Au ?_
  refine xz_Au ?_
  refine xz_Az ?_
  refine xz_Au ?_
  refine xz_A_i_S_2 ?_
  refine xz_Az ?_
  exact a
theorem xz_B_i_K_1 {xs : Int → Int} {h : xq_H} (a : xz_B xs h) : xz_B xs (i_K_1 h) := by
  unfold i_K_1
  refine xz_Bu (by decide) (by decide) ?_
  refine xz_Bz (by decide) ?_
  refine xz_Bu (by decide) (by decide) ?_
  refine xz_Bz (by decide) ?_
  refine xz_Bu (by decide) (by decide) ?_
  refine xz_Bu (by decide) (by decide) ?_
  refine xz_Bz (by decide) ?_
  refine xz_Bu (by decide) (by decide) ?_
  refine xz_Bu (by decide) (by decide) ?_
  refine xz_Bu (by decide) (by decide) ?_
  refine xz_Bz (by decide) ?_
  refine xz_Bu (by decide) (by decide) ?_
  refine xz_B_i_S_2 ?_
  refine xz_Bz (by decide) ?_
  exact a
theorem xz_A_i_W_31 {h h' : xq_H} (a : xz_A h h') : xz_A (i_W_31 h) (i_W_31 h') := by
  unfold i_W_31
  refine xz_Au ?_
  refine xz_Au ?_
  refine xz_Az ?_
  refine xz_Au ?_
  refine xz_Az ?_
  refine xz_Au ?_
  refine xz_Az ?_
  refine xz_Au ?_
  refine xz_Az ?_
  refine xz_Au ?_
  refine xz_Az ?_
  exact a
theorem xz_B_i_W_31 {xs : Int → Int} {h : xq_H} (a : xz_B xs h) : xz_B xs (i_W_31 h) := by
  unfold i_W_31
  refine xz_Bu (by decide) (by decide) ?_
  refine xz_Bu (by decide) (by decide) ?_
  refine xz_Bz (by decide) ?_
  refine xz_Bu (by decide) (by decide) ?_
  refine xz_Bz (by decide) ?_
  refine xz_Bu (by decide) (by decide) ?_
  refine xz_Bz (by decide) ?_
  refine xz_Bu (by decide) (by decide) ?_
  refine xz_Bz (by decide) ?_
  refine xz_Bu (by decide) (by decide) ?_
  refine xz_Bz (by decide) ?_
  exact a
theorem xz_A_i_C_37 {h h' : xq_H} (a : xz_A h h') : xz_A (i_C_37 h) (i_C_37 h') := by
  unfold i_C_37
  refine xz_Au ?_
  refine xz_Au ?_
  refine xz_Az ?_
  refine xz_Au ?_
  refine xz_Az ?_
  refine xz_Au ?_
  refine xz_Az ?_
  exact a
theorem xz_B_i_C_37 {xs : Int → Int} {h : xq_H} (a : xz_B xs h) : xz_B xs (i_C_37 h) := by
  unfold i_C_37
  refine xz_Bu (by decide) (by decide) ?_
  refine xz_Bu (by decide) (by decide) ?_
  refine xz_Bz (by decide) ?_
  refine xz_Bu (by decide) (by decide) ?_
  refine xz_Bz (by decide) ?_
  refine xz_Bu (by decide) (by decide) ?_
  refine xz_Bz (by decide) ?_
  exact a
theorem xz_A_i_T_41 {h h' : xq_H} (a : xz_A h h') : xz_A (i_T_41 h) (i_T_41 h') := by
  unfold i_T_41
  refine xz_Au ?_
  refine xz_Au ?_
  refine xz_Au ?_
  refine xz_Au ?_
  refine xz_Az ?_
  refine xz_Au ?_
  refine xz_Az ?_
  refine xz_Au ?_
  refine xz_Az ?_
  exact a
theorem xz_B_i_T_41 {xs : Int → Int} {h : xq_H} (a : xz_B xs h) : xz_B xs (i_T_41 h) := by
  unfold i_T_41
  refine xz_Bu (by decide) (by decide) ?_
  refine xz_Bu (by decide) (by decide) ?_
  refine xz_Bu (by decide) (by decide) ?_
  refine xz_Bu (by decide) (by decide) ?_
  refine xz_Bz (by decide) ?_
  refine xz_Bu (by decide) (by decide) ?_
  refine xz_Bz (by decide) ?_
  refine xz_Bu (by decide) (by decide) ?_
  refine xz_Bz (by decide) ?_
  exact a
theorem xz_A_i_P_45 {h h' : xq_H} (a : xz_A h h') : xz_A (i_P_45 h) (i_P_45 h') := by
  unfold i_P_45
  refine xz_Au ?_
  refine xz_Au ?_
  refine xz_Az ?_
  refine xz_Au ?_
  refine xz_Au ?_
  refine xz_Az ?_
  refine xz_Au ?_
  refine xz_Az ?_
  refine xz_Au ?_
  refine xz_Au ?_
  exact a
theorem xz_B_i_P_45 {xs : Int → Int} {h : xq_H} (a : xz_B xs h) : xz_B xs (i_P_45 h) := by
  unfold i_P_45
  refine xz_Bu (by decide) (by decide) ?_
  refine xz_Bu (by decide) (by decide) ?_
  refine xz_Bz (by decide) ?_
  refine xz_Bu (by decide) (by decide) ?_
  refine xz_Bu (by decide) (by decide) ?_
  refine xz_Bz (by decide) ?_
  refine xz_Bu (by decide) (by decide) ?_
  refine xz_Bz (by decide) ?_
  refine xz_Bu (by decide) (by decide) ?_
  refine xz_Bu (by decide) (by decide) ?_
  exact a
theorem xz_A_i_B_49 {h h' : xq_H} (a : xz_A h h') : xz_A (i_B_49 h) (i_B_49 h') := by
  unfold i_B_49
  refine xz_Au ?_
  refine xz_Au ?_
  refine xz_Az ?_
  refine xz_Au ?_
  refine xz_Az ?_
  refine xz_Au ?_
  refine xz_Az ?_
  exact a
theorem xz_B_i_B_49 {xs : Int → Int} {h : xq_H} (a : xz_B xs h) : xz_B xs (i_B_49 h) := by
  unfold i_B_49
  refine xz_Bu (by decide) (by decide) ?_
  refine xz_Bu (by decide) (by decide) ?_
  refine xz_Bz (by decide) ?_
  refine xz_Bu (by decide) (by decide) ?_
  refine xz_Bz (by decide) ?_
  refine xz_Bu (by decide) (by decide) ?_
  refine xz_Bz (by decide) ?_
  exact a
theorem xz_A_i_S_30 {h h' : xq_H} (a : xz_A h h') : xz_A (i_S_30 h) (i_S_30 h') := by
  unfold i_S_30
  refine xz_Au ?_
  refine xz_Au ?_
  refine xz_Au ?_
  refine xz_Az ?_
  refine xz_Au ?_
  refine xz_A_i_B_49 ?_
  refine xz_Az ?_
  refine xz_Au ?_
  refine xz_A_i_P_45 ?_
  refine xz_Az ?_
  refine xz_Au ?_
  refine xz_A_i_T_41 ?_
  refine xz_Az ?_
  refine xz_Au ?_
  refine xz_A_i_C_37 ?_
  refine xz_Az ?_
  refine xz_Au ?_
  refine xz_A_i_W_31 ?_
  refine xz_Az ?_
  exact a
theorem xz_B_i_S_30 {xs : Int → Int} {h : xq_H} (a : xz_B xs h) : xz_B xs (i_S_30 h) := by
  unfold i_S_30
  refine xz_Bu (by decide) (by decide) ?_
  refine xz_Bu (by decide) (by decide) ?_
  refine xz_Bu (by decide) (by decide) ?_
  refine xz_Bz (by decide) ?_
  refine xz_Bu (by decide) (by decide) ?_
  refine xz_B_i_B_49 ?_
  refine xz_Bz (by decide) ?_
  refine xz_Bu (by decide) (by decide) ?_
  refine xz_B_i_P_45 ?_
  refine xz_Bz (by decide) ?_
  refine xz_Bu (by decide) (by decide) ?_
  refine xz_B_i_T_41 ?_
  refine xz_Bz (by decide) ?_
  refine xz_Bu (by decide) (by decide) ?_
  refine xz_B_i_C_37 ?_
  refine xz_Bz (by decide) ?_
  refine xz_Bu (by decide) (by decide) ?_
  refine xz_B_i_W_31 ?_
  refine xz_Bz (by decide) ?_
  exact a
theorem xz_A_i_P_55 {h h' : xq_H} (a : xz_A h h') : xz_A (i_P_55 h) (i_P_55 h') := by
  unfold i_P_55
  refine xz_Au ?_
  refine xz_Au ?_
  refine xz_Az ?_
  refine xz_Au ?_
  refine xz_Au ?_
  refine xz_Az ?_
  refine xz_Au ?_
  refine xz_Az ?_
  refine xz_Au ?_
  refine xz_Au ?_
  exact a
theorem xz_B_i_P_55 {xs : Int → Int} {h : xq_H} (a : xz_B xs h) : xz_B xs (i_P_55 h) := by
  unfold i_P_55
  refine xz_Bu (by decide) (by decide) ?_
  refine xz_Bu (by decide) (by decide) ?_
  refine xz_Bz (by decide) ?_
  refine xz_Bu (by decide) (by decide) ?_
  refine xz_Bu (by decide) (by decide) ?_
  refine xz_Bz (by decide) ?_
  refine xz_Bu (by decide) (by decide) ?_
  refine xz_Bz (by decide) ?_
  refine xz_Bu (by decide) (by decide) ?_
  refine xz_Bu (by decide) (by decide) ?_
  exact a
theorem xz_A_i_R_54 {h h' : xq_H} (a : xz_A h h') : xz_A (i_R_54 h) (i_R_54 h') := by
  unfold i_R_54
  refine xz_Au ?_
  refine xz_Au ?_
  refine xz_Au ?_
  refine xz_Az ?_
  refine xz_Au ?_
  refine xz_A_i_P_55 ?_
  refine xz_Az ?_
  exact a
theorem xz_B_i_R_54 {xs : Int → Int} {h : xq_H} (a : xz_B xs h) : xz_B xs (i_R_54 h) := by
  unfold i_R_54
  refine xz_Bu (by decide) (by decide) ?_
  refine xz_Bu (by decide) (by decide) ?_
  refine xz_Bu (by decide) (by decide) ?_
  refine xz_Bz (by decide) ?_
  refine xz_Bu (by decide) (by decide) ?_
  refine xz_B_i_P_55 ?_
  refine xz_Bz (by decide) ?_
  exact a
theorem xz_A_i_A_60 {h h' : xq_H} (a : xz_A h h') : xz_A (i_A_60 h) (i_A_60 h') := by
  unfold i_A_60
  refine xz_Au ?_
  refine xz_Au ?_
  refine xz_Au ?_
  refine xz_Au ?_
  refine xz_Au ?_
  refine xz_Az ?_
  exact a
theorem xz_B_i_A_60 {xs : Int → Int} {h : xq_H} (a : xz_B xs h) : xz_B xs (i_A_60 h) := by
  unfold i_A_60
  refine xz_Bu (by decide) (by decide) ?_
  refine xz_Bu (by decide) (by decide) ?_
  refine xz_Bu (by decide) (by decide) ?_
  refine xz_Bu (by decide) (by decide) ?_
  refine xz_Bu (by decide) (by decide) ?_
  refine xz_Bz (by decide) ?_
  exact a
theorem xz_A_i_X_0 {h h' : xq_H} (a : xz_A h h') : xz_A (i_X_0 h) (i_X_0 h') := by
  unfold i_X_0
  refine xz_Au ?_
  refine xz_Az ?_
  refine xz_Au ?_
  refine xz_Az ?_
  refine xz_Au ?_
  refine xz_A_i_A_60 ?_
  refine xz_Az ?_
  refine xz_Au ?_
  refine xz_A_i_R_54 ?_
  refine xz_Az ?_
  refine xz_Au ?_
  refine xz_Au ?_
  refine xz_A_i_S_30 ?_
  refine xz_Az ?_
  refine xz_Au ?_
  refine xz_Au ?_
  refine xz_A_i_K_1 ?_
  refine xz_Az ?_
  exact a
theorem xz_B_i_X_0 {xs : Int → Int} {h : xq_H} (a : xz_B xs h) : xz_B xs (i_X_0 h) := by
  unfold i_X_0
  refine xz_Bu (by decide) (by decide) ?_
  refine xz_Bz (by decide) ?_
  refine xz_Bu (by decide) (by decide) ?_
  refine xz_Bz (by decide) ?_
  refine xz_Bu (by decide) (by decide) ?_
  refine xz_B_i_A_60 ?_
  refine xz_Bz (by decide) ?_
  refine xz_Bu (by decide) (by decide) ?_
  refine xz_B_i_R_54 ?_
  refine xz_Bz (by decide) ?_
  refine xz_Bu (by decide) (by decide) ?_
  refine xz_Bu (by decide) (by decide) ?_
  refine xz_B_i_S_30 ?_
  refine xz_Bz (by decide) ?_
  refine xz_Bu (by decide) (by decide) ?_
  refine xz_Bu (by decide) (by decide) ?_
  refine xz_B_i_K_1 ?_
  refine xz_Bz (by decide) ?_
  exact a
theorem xz_A_i_M_64 {h h' : xq_H} (a : xz_A h h') : xz_A (i_M_64 h) (i_M_64 h') := by
  unfold i_M_64
  refine xz_Au ?_
  refine xz_Au ?_
  refine xz_Az ?_
  refine xz_Au ?_
  refine xz_Az ?_
  refine xz_Au ?_
  refine xz_Az ?_
  refine xz_Au ?_
  refine xz_Az ?_
  refine xz_Au ?_
  refine xz_Az ?_
  refine xz_Au ?_
  refine xz_Az ?_
  refine xz_Au ?_
  refine xz_Az ?_
  refine xz_Au ?_
  refine xz_Az ?_
  refine xz_Au ?_
  refine xz_Az ?_
  refine xz_Au ?_
  refine xz_Az ?_
  refine xz_Au ?_
  refine xz_Az ?_
  refine xz_Au ?_
  refine xz_Az ?_
  refine xz_Au ?_
  refine xz_Az ?_
  refine xz_Au ?_
  refine xz_Az ?_
  refine xz_Au ?_
  refine xz_Az ?_
  exact a
theorem xz_B_i_M_64 {xs : Int → Int} {h : xq_H} (a : xz_B xs h) : xz_B xs (i_M_64 h) := by
  unfold i_M_64
  refine xz_Bu (by decide) (by decide) ?_
  refine xz_Bu (by decide) (by decide) ?_
  refine xz_Bz (by decide) ?_
  refine xz_Bu (by decide) (by decide) ?_
  refine xz_Bz (by decide) ?_
  refine xz_Bu (by decide) (by decide) ?_
  refine xz_Bz (by decide) ?_
  refine xz_Bu (by decide) (by decide) ?_
  refine xz_Bz (by decide) ?_
  refine xz_Bu (by decide) (by decide) ?_
  refine xz_Bz (by decide) ?_
  refine xz_Bu (by decide) (by decide) ?_
  refine xz_Bz (by decide) ?_
  refine xz_Bu (by decide) (by decide) ?_
  refine xz_Bz (by decide) ?_
  refine xz_Bu (by decide) (by decide) ?_
  refine xz_Bz (by decide) ?_
  refine xz_Bu (by decide) (by decide) ?_
  refine xz_Bz (by decide) ?_
  refine xz_Bu (by decide) (by decide) ?_
  refine xz_Bz (by decide) ?_
  refine xz_Bu (by decide) (by decide) ?_
  refine xz_Bz (by decide) ?_
  refine xz_Bu (by decide) (by decide) ?_
  refine xz_Bz (by decide) ?_
  refine xz_Bu (by decide) (by decide) ?_
  refine xz_Bz (by decide) ?_
  refine xz_Bu (by decide) (by decide) ?_
  refine xz_Bz (by decide) ?_
  refine xz_Bu (by decide) (by decide) ?_
  refine xz_Bz (by decide) ?_
  exact a
theorem xz_AF {h h' : xq_H} (a : xz_A h h') : xz_A (xz_F h) (xz_F h') := by
  unfold xz_F
  exact xz_A_i_M_64 (xz_Az (xz_A_i_X_0 (xz_Az a)))
theorem xz_BF {xs : Int → Int} {h : xq_H} (a : xz_B xs h) : xz_B xs (xz_F h) := by
  unfold xz_F
  exact xz_B_i_M_64 (xz_Bz (by decide) (xz_B_i_X_0 (xz_Bz (by decide) a)))
/-- the same without a script -/
def xz_N : xq_H := xz_F (fun _ _ => 0)
theorem xz_FN (xs : Int → Int) : xz_A (xz_F (xz_0 xs)) xz_N := xz_AF (fun o ho => by
  funext k
  unfold xz_0
  rw [if_neg ho])
theorem xz_F9 {xs : Int → Int} (h : ∀ j, -2147483648 ≤ xs j ∧ xs j ≤ 2147483647) : xz_B xs (xz_F (xz_0 xs)) := xz_BF ⟨rfl, fun o k => by
  unfold xz_0
  split
  · exact h k
  · decide⟩
theorem xz_good0 : ∀ o : Fin 80, ∀ k : Fin 40, (match xq_cls o.val with
  | .inl ci => (match Nat.beq (xq_fk ci k.val) 2 with
    | true => decide (xz_N o.val (k.val : Int) = (xq_rf o.val k.val : Int) + 1)
    | false => true)
  | .inr _ => true) = true := by decide +kernel
theorem xz_fkn : ∀ ci : Fin 11, (xq_fkl.getD ci.val []).length ≤ 40 := by decide +kernel
theorem xz_ci : ∀ o : Fin 80, (match xq_cls o.val with | .inl ci => Nat.blt ci 11 | .inr _ => true) = true := by decide +kernel
theorem xz_good (xs : Int → Int) : xq_good (xz_F (xz_0 xs)) := by
  intro o ci k ho hc hk
  have hci : ci < 11 := by
    have := xz_ci ⟨o, ho⟩
    dsimp only at this
    rw [hc] at this
    simpa [Nat.blt_eq] using this
  have hk40 : k < 40 := by
    by_cases q : k < (xq_fkl.getD ci []).length
    · have := xz_fkn ⟨ci, hci⟩
      dsimp only at this
      omega
    · exfalso
      unfold xq_fk at hk
      rw [List.getD_eq_getElem?_getD, List.getElem?_eq_none (by omega)] at hk
      cases hk
  have := xz_good0 ⟨o, ho⟩ ⟨k, hk40⟩
  dsimp only at this
  rw [hc] at this
  dsimp only at this
  rw [show Nat.beq (xq_fk ci k) 2 = true by rw [hk]; rfl] at this
  dsimp only at this
  rw [xz_FN xs o (by omega)]
  exact of_decide_eq_true this
