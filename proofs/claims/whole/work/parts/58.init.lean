/-! THE CONSTRUCTORS (by wip/whole/geninit.py) -/
theorem xq_enterI {lev y nx nxE bc : Nat} {as : List xq_V} {h : xq_H} {Q : Option xq_V → xq_H → Prop} {rows : List (List xq_Row)} {own : String} {L0 : xq_L} {nm : MethodName} {bytes : ByteArray} {ml : Nat} {ret : Option FieldType} (hsg : xq_sg y = (nm, bytes, ml, ret, bc)) (hok : xq_okM bytes own true ret rows = true) (hno : xq_no3 rows = true) (hown : nm.cls = own) (hini : nm.name = "<init>") (hpl : plainFor nm = true) (h0 : xq_rp rows 0 = 0) (hlev : 1 ≤ lev) (hE : nx + bc = nxE) (hnE : nxE ≤ 81) (hln : (xq_ent as).length ≤ ml) (hL : xq_ent as ++ List.replicate (ml - (xq_ent as).length) none = L0)
    (body : ∀ K : xq_KT, xq_sound (xq_C lev) rows nxE Q K → K 0 L0 [] nx h) : xq_met lev y as nx h Q := by
  refine xq_enter (rows := rows) (own := own) (ini := true) (by rw [hsg]; exact hok) hno (by rw [hsg]; exact hown) (fun _ => by rw [hsg]; exact hini) (by rw [hsg]; exact hpl) h0 hlev (by rw [hsg]; dsimp only; omega) (by rw [hsg]; exact hln) (fun K hK => ?_)
  rw [hsg] at hK ⊢
  dsimp only at hK ⊢
  rw [hL]
  rw [hE] at hK
  exact body K hK
def i_W_3 (h : xq_H) : xq_H := (xq_u (xq_u (xq_z (xq_u (xq_z (xq_u (xq_z (xq_u (xq_z (xq_u (xq_z h 4) 3 0 (((4 : Nat) : Int) + 1)) 5) 3 1 (((5 : Nat) : Int) + 1)) 6) 3 2 (((6 : Nat) : Int) + 1)) 7) 3 3 (((7 : Nat) : Int) + 1)) 8) 3 4 (((8 : Nat) : Int) + 1)) 3 5 0)
theorem c_i_W_3 {lev : Nat} {h : xq_H} {Q : Option xq_V → xq_H → Prop} (hl : 1 ≤ lev) (hQ : Q none (i_W_3 h)) : xq_met lev y_W_init [xR 3] 4 h Q := by
  refine xq_enterI (rows := rw_W_init) (nxE := 9) (L0 := [some (xR 3)]) rfl ok_W_init (by decide +kernel) rfl rfl (by decide +kernel) rfl (by omega) rfl (by decide) (Nat.le_of_ble_eq_true rfl) rfl (fun K hK => ?_)
  refine xq_go hK [] 120 ?_
  refine And.intro (by decide) ?_
  refine And.intro (by decide) ?_
  refine And.intro (by decide) ?_
  refine And.intro (by decide) ?_
  refine And.intro (by decide) ?_
  refine And.intro (by decide) ?_
  refine And.intro (by decide) ?_
  refine And.intro (by decide) ?_
  refine And.intro (by decide) ?_
  refine And.intro (by decide) ?_
  exact hQ
def i_C_9 (h : xq_H) : xq_H := (xq_u (xq_u (xq_z (xq_u (xq_z (xq_u (xq_z h 10) 9 0 (((10 : Nat) : Int) + 1)) 11) 9 1 (((11 : Nat) : Int) + 1)) 12) 9 2 (((12 : Nat) : Int) + 1)) 9 3 0)
theorem c_i_C_9 {lev : Nat} {h : xq_H} {Q : Option xq_V → xq_H → Prop} (hl : 1 ≤ lev) (hQ : Q none (i_C_9 h)) : xq_met lev y_C_init [xR 9] 10 h Q := by
  refine xq_enterI (rows := rw_C_init) (nxE := 13) (L0 := [some (xR 9)]) rfl ok_C_init (by decide +kernel) rfl rfl (by decide +kernel) rfl (by omega) rfl (by decide) (Nat.le_of_ble_eq_true rfl) rfl (fun K hK => ?_)
  refine xq_go hK [] 120 ?_
  refine And.intro (by decide) ?_
  refine And.intro (by decide) ?_
  refine And.intro (by decide) ?_
  refine And.intro (by decide) ?_
  refine And.intro (by decide) ?_
  refine And.intro (by decide) ?_
  exact hQ
def i_T_13 (h : xq_H) : xq_H := (xq_u (xq_u (xq_u (xq_u (xq_z (xq_u (xq_z (xq_u (xq_z h 14) 13 0 (((14 : Nat) : Int) + 1)) 15) 13 1 (((15 : Nat) : Int) + 1)) 16) 13 2 (((16 : Nat) : Int) + 1)) 13 3 0) 13 4 0) 13 5 0)
theorem c_i_T_13 {lev : Nat} {h : xq_H} {Q : Option xq_V → xq_H → Prop} (hl : 1 ≤ lev) (hQ : Q none (i_T_13 h)) : xq_met lev y_T_init [xR 13] 14 h Q := by
  refine xq_enterI (rows := rw_T_init) (nxE := 17) (L0 := [some (xR 13)]) rfl ok_T_init (by decide +kernel) rfl rfl (by decide +kernel) rfl (by omega) rfl (by decide) (Nat.le_of_ble_eq_true rfl) rfl (fun K hK => ?_)
  refine xq_go hK [] 120 ?_
  refine And.intro (by decide) ?_
  refine And.intro (by decide) ?_
  refine And.intro (by decide) ?_
  refine And.intro (by decide) ?_
  refine And.intro (by decide) ?_
  refine And.intro (by decide) ?_
  exact hQ
def i_P_17 (h : xq_H) : xq_H := (xq_u (xq_u (xq_z (xq_u (xq_u (xq_z (xq_u (xq_z (xq_u (xq_u h 17 0 12) 17 1 10) 18) 17 2 (((18 : Nat) : Int) + 1)) 19) 17 3 (((19 : Nat) : Int) + 1)) 17 4 0) 20) 17 5 (((20 : Nat) : Int) + 1)) 17 6 0)
theorem c_i_P_17 {lev : Nat} {h : xq_H} {Q : Option xq_V → xq_H → Prop} (hl : 1 ≤ lev) (hQ : Q none (i_P_17 h)) : xq_met lev y_P_init [xR 17] 18 h Q := by
  refine xq_enterI (rows := rw_P_init) (nxE := 21) (L0 := [some (xR 17)]) rfl ok_P_init (by decide +kernel) rfl rfl (by decide +kernel) rfl (by omega) rfl (by decide) (Nat.le_of_ble_eq_true rfl) rfl (fun K hK => ?_)
  refine xq_go hK [] 120 ?_
  refine And.intro (by decide) ?_
  refine And.intro (by decide) ?_
  refine And.intro (by decide) ?_
  refine And.intro (by decide) ?_
  refine And.intro (by decide) ?_
  refine And.intro (by decide) ?_
  exact hQ
def i_B_21 (h : xq_H) : xq_H := (xq_u (xq_u (xq_z (xq_u (xq_z (xq_u (xq_z h 22) 21 0 (((22 : Nat) : Int) + 1)) 23) 21 1 (((23 : Nat) : Int) + 1)) 24) 21 2 (((24 : Nat) : Int) + 1)) 21 3 0)
theorem c_i_B_21 {lev : Nat} {h : xq_H} {Q : Option xq_V → xq_H → Prop} (hl : 1 ≤ lev) (hQ : Q none (i_B_21 h)) : xq_met lev y_B_init [xR 21] 22 h Q := by
  refine xq_enterI (rows := rw_B_init) (nxE := 25) (L0 := [some (xR 21)]) rfl ok_B_init (by decide +kernel) rfl rfl (by decide +kernel) rfl (by omega) rfl (by decide) (Nat.le_of_ble_eq_true rfl) rfl (fun K hK => ?_)
  refine xq_go hK [] 120 ?_
  refine And.intro (by decide) ?_
  refine And.intro (by decide) ?_
  refine And.intro (by decide) ?_
  refine And.intro (by decide) ?_
  refine And.intro (by decide) ?_
  refine And.intro (by decide) ?_
  exact hQ
def i_S_2 (h : xq_H) : xq_H := (xq_u (xq_u (xq_u (xq_z (xq_u (i_B_21 (xq_z (xq_u (i_P_17 (xq_z (xq_u (i_T_13 (xq_z (xq_u (i_C_9 (xq_z (xq_u (i_W_3 (xq_z h 3)) 2 0 (((3 : Nat) : Int) + 1)) 9)) 2 1 (((9 : Nat) : Int) + 1)) 13)) 2 2 (((13 : Nat) : Int) + 1)) 17)) 2 3 (((17 : Nat) : Int) + 1)) 21)) 2 4 (((21 : Nat) : Int) + 1)) 25) 2 5 (((25 : Nat) : Int) + 1)) 2 6 0) 2 7 0)
theorem c_i_S_2 {lev : Nat} {h : xq_H} {Q : Option xq_V → xq_H → Prop} (hl : 2 ≤ lev) (hQ : Q none (i_S_2 h)) : xq_met lev y_S_init [xR 2] 3 h Q := by
  refine xq_enterI (rows := rw_S_init) (nxE := 26) (L0 := [some (xR 2)]) rfl ok_S_init (by decide +kernel) rfl rfl (by decide +kernel) rfl (by omega) rfl (by decide) (Nat.le_of_ble_eq_true rfl) rfl (fun K hK => ?_)
  refine xq_go hK [] 120 ?_
  refine ⟨lev - 1, by omega, c_i_W_3 (by omega) ?_⟩
  refine And.intro (by decide) ?_
  refine ⟨lev - 1, by omega, c_i_C_9 (by omega) ?_⟩
  refine And.intro (by decide) ?_
  refine ⟨lev - 1, by omega, c_i_T_13 (by omega) ?_⟩
  refine And.intro (by decide) ?_
  refine ⟨lev - 1, by omega, c_i_P_17 (by omega) ?_⟩
  refine And.intro (by decide) ?_
  refine ⟨lev - 1, by omega, c_i_B_21 (by omega) ?_⟩
  refine And.intro (by decide) ?_
  refine And.intro (by decide) ?_
  refine And.intro (by decide) ?_
  exact hQ
def i_K_1 (h : xq_H) : xq_H := (xq_u (xq_z (xq_u (xq_z (xq_u (xq_u (xq_z (xq_u (xq_u (xq_u (xq_z (xq_u (i_S_2 (xq_z h 2)) 1 0 (((2 : Nat) : Int) + 1)) 26) 1 1 (((26 : Nat) : Int) + 1)) 1 2 0) 1 3 (-1)) 27) 1 4 (((27 : Nat) : Int) + 1)) 1 5 0) 28) 1 6 (((28 : Nat) : Int) + 1)) 29) 1 7 (((29 : Nat) : Int) + 1))
theorem c_i_K_1 {lev : Nat} {h : xq_H} {Q : Option xq_V → xq_H → Prop} (hl : 3 ≤ lev) (hQ : Q none (i_K_1 h)) : xq_met lev y_K_init [xR 1] 2 h Q := by
  refine xq_enterI (rows := rw_K_init) (nxE := 30) (L0 := [some (xR 1)]) rfl ok_K_init (by decide +kernel) rfl rfl (by decide +kernel) rfl (by omega) rfl (by decide) (Nat.le_of_ble_eq_true rfl) rfl (fun K hK => ?_)
  refine xq_go hK [] 120 ?_
  refine ⟨lev - 1, by omega, c_i_S_2 (by omega) ?_⟩
  refine And.intro (by decide) ?_
  refine And.intro (by decide) ?_
  refine And.intro (by decide) ?_
  refine And.intro (by decide) ?_
  refine And.intro (by decide) ?_
  refine And.intro (by decide) ?_
  refine And.intro (by decide) ?_
  refine And.intro (by decide) ?_
  refine And.intro (by decide) ?_
  exact hQ
def i_W_31 (h : xq_H) : xq_H := (xq_u (xq_u (xq_z (xq_u (xq_z (xq_u (xq_z (xq_u (xq_z (xq_u (xq_z h 32) 31 0 (((32 : Nat) : Int) + 1)) 33) 31 1 (((33 : Nat) : Int) + 1)) 34) 31 2 (((34 : Nat) : Int) + 1)) 35) 31 3 (((35 : Nat) : Int) + 1)) 36) 31 4 (((36 : Nat) : Int) + 1)) 31 5 0)
theorem c_i_W_31 {lev : Nat} {h : xq_H} {Q : Option xq_V → xq_H → Prop} (hl : 1 ≤ lev) (hQ : Q none (i_W_31 h)) : xq_met lev y_W_init [xR 31] 32 h Q := by
  refine xq_enterI (rows := rw_W_init) (nxE := 37) (L0 := [some (xR 31)]) rfl ok_W_init (by decide +kernel) rfl rfl (by decide +kernel) rfl (by omega) rfl (by decide) (Nat.le_of_ble_eq_true rfl) rfl (fun K hK => ?_)
  refine xq_go hK [] 120 ?_
  refine And.intro (by decide) ?_
  refine And.intro (by decide) ?_
  refine And.intro (by decide) ?_
  refine And.intro (by decide) ?_
  refine And.intro (by decide) ?_
  refine And.intro (by decide) ?_
  refine And.intro (by decide) ?_
  refine And.intro (by decide) ?_
  refine And.intro (by decide) ?_
  refine And.intro (by decide) ?_
  exact hQ
def i_C_37 (h : xq_H) : xq_H := (xq_u (xq_u (xq_z (xq_u (xq_z (xq_u (xq_z h 38) 37 0 (((38 : Nat) : Int) + 1)) 39) 37 1 (((39 : Nat) : Int) + 1)) 40) 37 2 (((40 : Nat) : Int) + 1)) 37 3 0)
theorem c_i_C_37 {lev : Nat} {h : xq_H} {Q : Option xq_V → xq_H → Prop} (hl : 1 ≤ lev) (hQ : Q none (i_C_37 h)) : xq_met lev y_C_init [xR 37] 38 h Q := by
  refine xq_enterI (rows := rw_C_init) (nxE := 41) (L0 := [some (xR 37)]) rfl ok_C_init (by decide +kernel) rfl rfl (by decide +kernel) rfl (by omega) rfl (by decide) (Nat.le_of_ble_eq_true rfl) rfl (fun K hK => ?_)
  refine xq_go hK [] 120 ?_
  refine And.intro (by decide) ?_
  refine And.intro (by decide) ?_
  refine And.intro (by decide) ?_
  refine And.intro (by decide) ?_
  refine And.intro (by decide) ?_
  refine And.intro (by decide) ?_
  exact hQ
def i_T_41 (h : xq_H) : xq_H := (xq_u (xq_u (xq_u (xq_u (xq_z (xq_u (xq_z (xq_u (xq_z h 42) 41 0 (((42 : Nat) : Int) + 1)) 43) 41 1 (((43 : Nat) : Int) + 1)) 44) 41 2 (((44 : Nat) : Int) + 1)) 41 3 0) 41 4 0) 41 5 0)
theorem c_i_T_41 {lev : Nat} {h : xq_H} {Q : Option xq_V → xq_H → Prop} (hl : 1 ≤ lev) (hQ : Q none (i_T_41 h)) : xq_met lev y_T_init [xR 41] 42 h Q := by
  refine xq_enterI (rows := rw_T_init) (nxE := 45) (L0 := [some (xR 41)]) rfl ok_T_init (by decide +kernel) rfl rfl (by decide +kernel) rfl (by omega) rfl (by decide) (Nat.le_of_ble_eq_true rfl) rfl (fun K hK => ?_)
  refine xq_go hK [] 120 ?_
  refine And.intro (by decide) ?_
  refine And.intro (by decide) ?_
  refine And.intro (by decide) ?_
  refine And.intro (by decide) ?_
  refine And.intro (by decide) ?_
  refine And.intro (by decide) ?_
  exact hQ
def i_P_45 (h : xq_H) : xq_H := (xq_u (xq_u (xq_z (xq_u (xq_u (xq_z (xq_u (xq_z (xq_u (xq_u h 45 0 12) 45 1 10) 46) 45 2 (((46 : Nat) : Int) + 1)) 47) 45 3 (((47 : Nat) : Int) + 1)) 45 4 0) 48) 45 5 (((48 : Nat) : Int) + 1)) 45 6 0)
theorem c_i_P_45 {lev : Nat} {h : xq_H} {Q : Option xq_V → xq_H → Prop} (hl : 1 ≤ lev) (hQ : Q none (i_P_45 h)) : xq_met lev y_P_init [xR 45] 46 h Q := by
  refine xq_enterI (rows := rw_P_init) (nxE := 49) (L0 := [some (xR 45)]) rfl ok_P_init (by decide +kernel) rfl rfl (by decide +kernel) rfl (by omega) rfl (by decide) (Nat.le_of_ble_eq_true rfl) rfl (fun K hK => ?_)
  refine xq_go hK [] 120 ?_
  refine And.intro (by decide) ?_
  refine And.intro (by decide) ?_
  refine And.intro (by decide) ?_
  refine And.intro (by decide) ?_
  refine And.intro (by decide) ?_
  refine And.intro (by decide) ?_
  exact hQ
def i_B_49 (h : xq_H) : xq_H := (xq_u (xq_u (xq_z (xq_u (xq_z (xq_u (xq_z h 50) 49 0 (((50 : Nat) : Int) + 1)) 51) 49 1 (((51 : Nat) : Int) + 1)) 52) 49 2 (((52 : Nat) : Int) + 1)) 49 3 0)
theorem c_i_B_49 {lev : Nat} {h : xq_H} {Q : Option xq_V → xq_H → Prop} (hl : 1 ≤ lev) (hQ : Q none (i_B_49 h)) : xq_met lev y_B_init [xR 49] 50 h Q := by
  refine xq_enterI (rows := rw_B_init) (nxE := 53) (L0 := [some (xR 49)]) rfl ok_B_init (by decide +kernel) rfl rfl (by decide +kernel) rfl (by omega) rfl (by decide) (Nat.le_of_ble_eq_true rfl) rfl (fun K hK => ?_)
  refine xq_go hK [] 120 ?_
  refine And.intro (by decide) ?_
  refine And.intro (by decide) ?_
  refine And.intro (by decide) ?_
  refine And.intro (by decide) ?_
  refine And.intro (by decide) ?_
  refine And.intro (by decide) ?_
  exact hQ
def i_S_30 (h : xq_H) : xq_H := (xq_u (xq_u (xq_u (xq_z (xq_u (i_B_49 (xq_z (xq_u (i_P_45 (xq_z (xq_u (i_T_41 (xq_z (xq_u (i_C_37 (xq_z (xq_u (i_W_31 (xq_z h 31)) 30 0 (((31 : Nat) : Int) + 1)) 37)) 30 1 (((37 : Nat) : Int) + 1)) 41)) 30 2 (((41 : Nat) : Int) + 1)) 45)) 30 3 (((45 : Nat) : Int) + 1)) 49)) 30 4 (((49 : Nat) : Int) + 1)) 53) 30 5 (((53 : Nat) : Int) + 1)) 30 6 0) 30 7 0)
theorem c_i_S_30 {lev : Nat} {h : xq_H} {Q : Option xq_V → xq_H → Prop} (hl : 2 ≤ lev) (hQ : Q none (i_S_30 h)) : xq_met lev y_S_init [xR 30] 31 h Q := by
  refine xq_enterI (rows := rw_S_init) (nxE := 54) (L0 := [some (xR 30)]) rfl ok_S_init (by decide +kernel) rfl rfl (by decide +kernel) rfl (by omega) rfl (by decide) (Nat.le_of_ble_eq_true rfl) rfl (fun K hK => ?_)
  refine xq_go hK [] 120 ?_
  refine ⟨lev - 1, by omega, c_i_W_31 (by omega) ?_⟩
  refine And.intro (by decide) ?_
  refine ⟨lev - 1, by omega, c_i_C_37 (by omega) ?_⟩
  refine And.intro (by decide) ?_
  refine ⟨lev - 1, by omega, c_i_T_41 (by omega) ?_⟩
  refine And.intro (by decide) ?_
  refine ⟨lev - 1, by omega, c_i_P_45 (by omega) ?_⟩
  refine And.intro (by decide) ?_
  refine ⟨lev - 1, by omega, c_i_B_49 (by omega) ?_⟩
  refine And.intro (by decide) ?_
  refine And.intro (by decide) ?_
  refine And.intro (by decide) ?_
  exact hQ
def i_P_55 (h : xq_H) : xq_H := (xq_u (xq_u (xq_z (xq_u (xq_u (xq_z (xq_u (xq_z (xq_u (xq_u h 55 0 12) 55 1 10) 56) 55 2 (((56 : Nat) : Int) + 1)) 57) 55 3 (((57 : Nat) : Int) + 1)) 55 4 0) 58) 55 5 (((58 : Nat) : Int) + 1)) 55 6 0)
theorem c_i_P_55 {lev : Nat} {h : xq_H} {Q : Option xq_V → xq_H → Prop} (hl : 1 ≤ lev) (hQ : Q none (i_P_55 h)) : xq_met lev y_P_init [xR 55] 56 h Q := by
  refine xq_enterI (rows := rw_P_init) (nxE := 59) (L0 := [some (xR 55)]) rfl ok_P_init (by decide +kernel) rfl rfl (by decide +kernel) rfl (by omega) rfl (by decide) (Nat.le_of_ble_eq_true rfl) rfl (fun K hK => ?_)
  refine xq_go hK [] 120 ?_
  refine And.intro (by decide) ?_
  refine And.intro (by decide) ?_
  refine And.intro (by decide) ?_
  refine And.intro (by decide) ?_
  refine And.intro (by decide) ?_
  refine And.intro (by decide) ?_
  exact hQ
def i_R_54 (h : xq_H) : xq_H := (xq_u (xq_u (xq_u (xq_z (xq_u (i_P_55 (xq_z h 55)) 54 0 (((55 : Nat) : Int) + 1)) 59) 54 1 (((59 : Nat) : Int) + 1)) 54 2 0) 54 3 0)
theorem c_i_R_54 {lev : Nat} {h : xq_H} {Q : Option xq_V → xq_H → Prop} (hl : 2 ≤ lev) (hQ : Q none (i_R_54 h)) : xq_met lev y_R_init [xR 54] 55 h Q := by
  refine xq_enterI (rows := rw_R_init) (nxE := 60) (L0 := [some (xR 54)]) rfl ok_R_init (by decide +kernel) rfl rfl (by decide +kernel) rfl (by omega) rfl (by decide) (Nat.le_of_ble_eq_true rfl) rfl (fun K hK => ?_)
  refine xq_go hK [] 120 ?_
  refine ⟨lev - 1, by omega, c_i_P_55 (by omega) ?_⟩
  refine And.intro (by decide) ?_
  refine And.intro (by decide) ?_
  refine And.intro (by decide) ?_
  exact hQ
def i_A_60 (h : xq_H) : xq_H := (xq_u (xq_u (xq_u (xq_u (xq_u (xq_z h 61) 60 0 (((61 : Nat) : Int) + 1)) 60 1 0) 60 2 0) 60 3 0) 60 4 0)
theorem c_i_A_60 {lev : Nat} {h : xq_H} {Q : Option xq_V → xq_H → Prop} (hl : 1 ≤ lev) (hQ : Q none (i_A_60 h)) : xq_met lev y_A_init [xR 60] 61 h Q := by
  refine xq_enterI (rows := rw_A_init) (nxE := 62) (L0 := [some (xR 60)]) rfl ok_A_init (by decide +kernel) rfl rfl (by decide +kernel) rfl (by omega) rfl (by decide) (Nat.le_of_ble_eq_true rfl) rfl (fun K hK => ?_)
  refine xq_go hK [] 120 ?_
  refine And.intro (by decide) ?_
  refine And.intro (by decide) ?_
  exact hQ
def i_X_0 (h : xq_H) : xq_H := (xq_u (xq_z (xq_u (xq_z (xq_u (i_A_60 (xq_z (xq_u (i_R_54 (xq_z (xq_u (xq_u (i_S_30 (xq_z (xq_u (xq_u (i_K_1 (xq_z h 1)) 0 4 (((1 : Nat) : Int) + 1)) 0 0 (((2 : Nat) : Int) + 1)) 30)) 0 1 (((30 : Nat) : Int) + 1)) 0 2 0) 54)) 0 3 (((54 : Nat) : Int) + 1)) 60)) 0 5 (((60 : Nat) : Int) + 1)) 62) 0 6 (((62 : Nat) : Int) + 1)) 63) 0 7 (((63 : Nat) : Int) + 1))
theorem c_i_X_0 {lev : Nat} {h : xq_H} {Q : Option xq_V → xq_H → Prop} (hl : 4 ≤ lev) (hQ : Q none (i_X_0 h)) : xq_met lev y_X_init [xR 0] 1 h Q := by
  refine xq_enterI (rows := rw_X_init) (nxE := 64) (L0 := [some (xR 0)]) rfl ok_X_init (by decide +kernel) rfl rfl (by decide +kernel) rfl (by omega) rfl (by decide) (Nat.le_of_ble_eq_true rfl) rfl (fun K hK => ?_)
  refine xq_go hK [] 120 ?_
  refine ⟨lev - 1, by omega, c_i_K_1 (by omega) ?_⟩
  refine And.intro (by decide) ?_
  refine And.intro rfl ?_
  refine And.intro rfl ?_
  refine And.intro (by decide) ?_
  refine ⟨lev - 1, by omega, c_i_S_30 (by omega) ?_⟩
  refine And.intro (by decide) ?_
  refine And.intro (by decide) ?_
  refine ⟨lev - 1, by omega, c_i_R_54 (by omega) ?_⟩
  refine And.intro (by decide) ?_
  refine ⟨lev - 1, by omega, c_i_A_60 (by omega) ?_⟩
  refine And.intro (by decide) ?_
  refine And.intro (by decide) ?_
  refine And.intro (by decide) ?_
  refine And.intro (by decide) ?_
  refine And.intro (by decide) ?_
  exact hQ
def i_M_64 (h : xq_H) : xq_H := (xq_u (xq_u (xq_z (xq_u (xq_z (xq_u (xq_z (xq_u (xq_z (xq_u (xq_z (xq_u (xq_z (xq_u (xq_z (xq_u (xq_z (xq_u (xq_z (xq_u (xq_z (xq_u (xq_z (xq_u (xq_z (xq_u (xq_z (xq_u (xq_z (xq_u (xq_z h 65) 64 1 (((65 : Nat) : Int) + 1)) 66) 64 2 (((66 : Nat) : Int) + 1)) 67) 64 3 (((67 : Nat) : Int) + 1)) 68) 64 10 (((68 : Nat) : Int) + 1)) 69) 64 11 (((69 : Nat) : Int) + 1)) 70) 64 12 (((70 : Nat) : Int) + 1)) 71) 64 13 (((71 : Nat) : Int) + 1)) 72) 64 14 (((72 : Nat) : Int) + 1)) 73) 64 15 (((73 : Nat) : Int) + 1)) 74) 64 16 (((74 : Nat) : Int) + 1)) 75) 64 17 (((75 : Nat) : Int) + 1)) 76) 64 18 (((76 : Nat) : Int) + 1)) 77) 64 22 (((77 : Nat) : Int) + 1)) 78) 64 25 (((78 : Nat) : Int) + 1)) 79) 64 26 (((79 : Nat) : Int) + 1)) 65 17 (-1))
theorem c_i_M_64 {lev : Nat} {h : xq_H} {Q : Option xq_V → xq_H → Prop} (hl : 1 ≤ lev) (hQ : Q none (i_M_64 h)) : xq_met lev y_M_init [xR 64] 65 h Q := by
  refine xq_enterI (rows := rw_M_init) (nxE := 80) (L0 := [some (xR 64)]) rfl ok_M_init (by decide +kernel) rfl rfl (by decide +kernel) rfl (by omega) rfl (by decide) (Nat.le_of_ble_eq_true rfl) rfl (fun K hK => ?_)
  refine xq_go hK [] 120 ?_
  refine And.intro (by decide) ?_
  refine And.intro (by decide) ?_
  refine And.intro (by decide) ?_
  refine And.intro (by decide) ?_
  refine And.intro (by decide) ?_
  refine And.intro (by decide) ?_
  refine And.intro (by decide) ?_
  refine And.intro (by decide) ?_
  refine And.intro (by decide) ?_
  refine And.intro (by decide) ?_
  refine And.intro (by decide) ?_
  refine And.intro (by decide) ?_
  refine And.intro (by decide) ?_
  refine And.intro (by decide) ?_
  refine And.intro (by decide) ?_
  refine And.intro (by decide) ?_
  refine And.intro (by decide) ?_
  refine And.intro (by decide) ?_
  refine And.intro (by decide) ?_
  refine And.intro (by decide) ?_
  refine And.intro (by decide) ?_
  refine And.intro (by decide) ?_
  refine And.intro (by decide) ?_
  refine And.intro (by decide) ?_
  refine And.intro (by decide) ?_
  refine And.intro (by decide) ?_
  refine And.intro (by decide) ?_
  refine And.intro (by decide) ?_
  refine And.intro (by decide) ?_
  refine And.intro (by decide) ?_
  refine And.intro rfl ?_
  refine And.intro (by decide) ?_
  exact hQ
