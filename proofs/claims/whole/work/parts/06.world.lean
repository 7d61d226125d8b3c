/-! THE ABSTRACT RUN IS THE MACHINE'S: the world as numbers -/
theorem xi_of {i : Int} (h : -2147483648 ≤ i ∧ i ≤ 2147483647) : (Int32.ofInt i).toInt = i := Int32.toInt_ofInt_of_le (by omega) (by omega)
theorem xj_of {i : Int} (h : -9223372036854775808 ≤ i ∧ i ≤ 9223372036854775807) : (Int64.ofInt i).toInt = i := Int64.toInt_ofInt_of_le (by omega) (by omega)
theorem xi_rg (x : Int32) : -2147483648 ≤ x.toInt ∧ x.toInt ≤ 2147483647 := ⟨x.le_toInt, Int.le_of_lt_add_one x.toInt_lt⟩
theorem xi_in {i : Int} {n : Nat} (h : 0 ≤ i ∧ i < (n : Int)) (hn : n < 2147483648) : vp_in (Int32.ofInt i) n := by
  rw [vp_in_iff, xi_of (by omega)]
  exact h
theorem xi_cl {i : Int} (h : -2147483648 ≤ i ∧ i ≤ 2147483647) : (Int32.ofInt i).toNatClampNeg = i.toNat := by
  show (Int32.ofInt i).toInt.toNat = i.toNat
  rw [xi_of h]
def xq_ad (B : Nat) (aI : Nat → Nat) (o : Nat) : Nat := if o < 999 then B + o else aI o
def xq_cv (B : Nat) (aI : Nat → Nat) : xq_V → Value
  | .inl i => .int (Int32.ofInt i)
  | .inr (.inl i) => .long (Int64.ofInt i)
  | .inr (.inr o) => .ref (xq_ad B aI o)
def xq_rv : xq_V → Prop
  | .inl i => -2147483648 ≤ i ∧ i ≤ 2147483647
  | .inr (.inl i) => -9223372036854775808 ≤ i ∧ i ≤ 9223372036854775807
  | .inr (.inr _) => True
def xq_fv (B : Nat) (h : xq_H) (o ci k : Nat) : Value := match xq_fk ci k with
  | 0 => .int (Int32.ofInt (h o k))
  | 1 => .int (Int32.ofInt (h o k))
  | _ => if h o k = 0 then .null else .ref (B + (h o k - 1).toNat)
def xq_fs (B : Nat) (h : xq_H) (o ci : Nat) : List Value := (List.range (xq_nfl.getD ci 0)).map (xq_fv B h o ci)
def xq_ce (B : Nat) (dA : Nat → ClassId) (h : xq_H) (o : Nat) : va_E := match xq_cls o with
  | .inl ci => .inr (ci, xq_fs B h o ci)
  | .inr (t, n) => .inl (dA t, n, .inl (fun j => Int32.ofInt (h o (j : Int))))
def xq_ws (B : Nat) (dA : Nat → ClassId) (nx : Nat) (h : xq_H) : va_W := (List.range (min nx 80)).map (fun o => (B + o, xq_ce B dA h o))
def xq_rgh (h : xq_H) : Prop := ∀ o k, -2147483648 ≤ h o k ∧ h o k ≤ 2147483647
def xq_good (h : xq_H) : Prop := ∀ o ci k : Nat, o < 80 → xq_cls o = .inl ci → xq_fk ci k = 2 → h o k = (xq_rf o k : Int) + 1
def xq_Rep (B : Nat) (D : va_G) (dA : Nat → ClassId) (xs : Int → Int) (nx : Nat) (h : xq_H) (H : Heap) : Prop :=
  va_P D xq_cl (xq_ws B dA nx h) H ∧ h 999 = xs ∧ xq_rgh h ∧ (nx = 81 → xq_good h) ∧ nx ≤ 81
theorem xq_ws_at (B : Nat) (dA : Nat → ClassId) {nx o : Nat} (h : xq_H) (ho : o < nx) (h80 : o < 80) : (xq_ws B dA nx h)[o]? = some (B + o, xq_ce B dA h o) := by
  unfold xq_ws
  rw [List.getElem?_map, List.getElem?_range (by omega)]
  rfl
theorem xq_ws_no (B : Nat) (dA : Nat → ClassId) {nx o : Nat} (h : xq_H) (ho : ¬ (o < nx ∧ o < 80)) : (xq_ws B dA nx h)[o]? = none := by
  apply List.getElem?_eq_none
  unfold xq_ws
  rw [List.length_map, List.length_range]
  omega
theorem xq_cls_lt {o : Nat} {x : Nat ⊕ (Nat × Nat)} (h : xq_cls o = x) (hx : x ≠ .inl 99) : o < 80 := by
  rcases Nat.lt_or_ge o 80 with q | q
  · exact q
  · refine absurd ?_ hx
    rw [← h]
    unfold xq_cls
    have e : xq_shl2.getD (o / 8) [] = [] := by
      rw [List.getD_eq_getElem?_getD, List.getElem?_eq_none (by show (10 : Nat) ≤ _; omega)]
      rfl
    rw [e]
    rfl
theorem xq_ws_D (B : Nat) (dA : Nat → ClassId) (nx : Nat) (h : xq_H) : va_D (fun q => B ≤ q) (xq_ws B dA nx h) := by
  refine ⟨fun i j p q hi hj hpq => ?_, fun k q hk => ?_⟩
  · simp only [xq_ws, List.getElem?_map, Option.map_eq_some_iff] at hi hj
    obtain ⟨a, ha, rfl⟩ := hi
    obtain ⟨b, hb, rfl⟩ := hj
    obtain ⟨h1, h2⟩ := List.getElem?_eq_some_iff.mp ha
    obtain ⟨h3, h4⟩ := List.getElem?_eq_some_iff.mp hb
    rw [List.getElem_range] at h2 h4
    have h5 : B + a = B + b := hpq
    omega
  · simp only [xq_ws, List.getElem?_map, Option.map_eq_some_iff] at hk
    obtain ⟨a, -, rfl⟩ := hk
    exact Nat.le_add_right _ _
theorem xq_u_o {h : xq_H} {o o' : Nat} {k v : Int} (hne : o' ≠ o) : xq_u h o k v o' = h o' := by
  funext k'
  simp [xq_u, hne]
theorem xq_ce_o {B : Nat} {dA : Nat → ClassId} {h h' : xq_H} {o : Nat} (e : h' o = h o) : xq_ce B dA h' o = xq_ce B dA h o := by
  unfold xq_ce xq_fs
  split
  · congr 3
    funext k
    simp [xq_fv, e]
  · rw [e]
/-- one cell written: the list of cells -/
theorem xq_ws_set {B : Nat} {dA : Nat → ClassId} {nx o : Nat} {h h' : xq_H} {x : va_E} (ho : o < nx) (h80 : o < 80) (hx : xq_ce B dA h' o = x) (e : ∀ o', o' ≠ o → h' o' = h o') : (xq_ws B dA nx h).set o (B + o, x) = xq_ws B dA nx h' := by
  apply List.ext_getElem?
  intro k
  by_cases hk : k = o
  · subst hk
    rw [List.getElem?_set_self (List.getElem?_eq_some_iff.mp (xq_ws_at B dA h ho h80)).1, xq_ws_at B dA h' ho h80, hx]
  · rw [List.getElem?_set_ne (Ne.symm hk)]
    by_cases hkn : k < nx ∧ k < 80
    · rw [xq_ws_at B dA h hkn.1 hkn.2, xq_ws_at B dA h' hkn.1 hkn.2, xq_ce_o (e k hk)]
    · rw [xq_ws_no B dA h hkn, xq_ws_no B dA h' hkn]
theorem xq_ws_push {B : Nat} {dA : Nat → ClassId} {nx : Nat} {h : xq_H} {x : va_E} (h80 : nx < 80) (hx : xq_ce B dA (xq_z h nx) nx = x) : xq_ws B dA nx h ++ [(B + nx, x)] = xq_ws B dA (nx + 1) (xq_z h nx) := by
  unfold xq_ws
  rw [show min (nx + 1) 80 = nx + 1 by omega, show min nx 80 = nx by omega, List.range_succ, List.map_append, List.map_singleton, hx]
  congr 1
  apply List.map_congr_left
  intro a ha
  have hl : a < nx := by simpa using ha
  rw [xq_ce_o]
  funext k
  simp [xq_z, Nat.ne_of_lt hl]
theorem xq_rgh_u {h : xq_H} (hh : xq_rgh h) (o : Nat) (k : Int) {v : Int} (hv : -2147483648 ≤ v ∧ v ≤ 2147483647) : xq_rgh (xq_u h o k v) := by
  intro o' k'
  unfold xq_u
  split
  · split
    · exact hv
    · exact hh _ _
  · exact hh _ _
theorem xq_rgh_z {h : xq_H} (hh : xq_rgh h) (o : Nat) : xq_rgh (xq_z h o) := by
  intro o' k'
  unfold xq_z
  split
  · omega
  · exact hh _ _
def xq_lv (B : Nat) (aI : Nat → Nat) (ls : Array Slot) (n : Nat) (L : xq_L) : Prop := ls.size = n ∧ lv_wf ls ∧ L.length = n ∧ ∀ i v, xq_get L i = some v → ls[i]? = some (.val (xq_cv B aI v)) ∧ xq_rv v
theorem xq_get_iff : ∀ (L : xq_L) (i : Nat) (v : xq_V), xq_get L i = some v ↔ L[i]? = some (some v)
  | [], i, v => by simp [xq_get]
  | a :: l, 0, v => by simp [xq_get]
  | a :: l, i + 1, v => by simp [xq_get, xq_get_iff l i v]
def xq_ll (B : Nat) (aI : Nat → Nat) (n : Nat) (L : xq_L) : List (Nat × Value) := (List.range n).filterMap (fun i => (xq_get L i).map (fun v => (i, xq_cv B aI v)))
theorem xq_ll_mem {B : Nat} {aI : Nat → Nat} {n : Nat} {L : xq_L} (q : Nat × Value) : q ∈ xq_ll B aI n L ↔ ∃ v, q.1 < n ∧ xq_get L q.1 = some v ∧ q.2 = xq_cv B aI v := by
  obtain ⟨i, w⟩ := q
  simp only [xq_ll, List.mem_filterMap, List.mem_range, Option.map_eq_some_iff, Prod.mk.injEq]
  constructor
  · rintro ⟨a, ha, v, hv, rfl, rfl⟩
    exact ⟨v, ha, hv, rfl⟩
  · rintro ⟨v, h1, h2, h3⟩
    exact ⟨i, h1, v, h2, rfl, h3.symm⟩
theorem xq_ll_has {B : Nat} {aI : Nat → Nat} {ls : Array Slot} {n : Nat} {L : xq_L} (h : xq_lv B aI ls n L) : lv_has ls n (xq_ll B aI n L) := by
  refine ⟨h.1, h.2.1, fun q hq => ?_⟩
  obtain ⟨v, -, h2, h3⟩ := (xq_ll_mem q).mp hq
  rw [h3]
  exact (h.2.2.2 _ _ h2).1
theorem xq_get_set {L : xq_L} {i j : Nat} {x : Option xq_V} {v : xq_V} (h : xq_get (L.set i x) j = some v) : (j = i ∧ x = some v) ∨ (j ≠ i ∧ xq_get L j = some v) := by
  rw [xq_get_iff] at h
  by_cases hj : j = i
  · subst hj
    left
    by_cases hl : j < L.length
    · rw [List.getElem?_set_self hl] at h
      exact ⟨rfl, Option.some.inj h⟩
    · rw [List.getElem?_eq_none (by simp; omega)] at h
      cases h
  · rw [List.getElem?_set_ne (Ne.symm hj)] at h
    exact Or.inr ⟨hj, (xq_get_iff _ _ _).mpr h⟩
theorem xq_cat1 {B : Nat} {aI : Nat → Nat} {L : xq_L} {j : Nat} {v : xq_V} (hp : xq_pl L (j + 1) = false) (hg : xq_get L j = some v) : (xq_cv B aI v).category = 1 := by
  have hp' : (match xq_get L j with
    | some (.inr (.inl _)) => true
    | _ => false) = false := hp
  rw [hg] at hp'
  rcases v with v | v | v
  · rfl
  · simp at hp'
  · rfl
theorem xq_store1 {B : Nat} {aI : Nat → Nat} {ls ls' : Array Slot} {n i : Nat} {L : xq_L} {v : xq_V} (h : xq_lv B aI ls n L) (hp : xq_pl L i = false) (hv : xq_rv v)
    (h' : lv_has ls' n ((i, xq_cv B aI v) :: (xq_ll B aI n L).filter (fun q => !(q.1 == i) && !(q.1 + 1 == i && q.2.category == 2)))) : xq_lv B aI ls' n (L.set i (some v)) := by
  refine ⟨h'.1, h'.2.1, by simpa using h.2.2.1, fun j w hw => ?_⟩
  rcases xq_get_set hw with ⟨rfl, e⟩ | ⟨hne, hg⟩
  · cases e
    exact ⟨h'.2.2 _ List.mem_cons_self, hv⟩
  · refine ⟨h'.2.2 (j, xq_cv B aI w) (List.mem_cons_of_mem _ (List.mem_filter.mpr ⟨(xq_ll_mem _).mpr ⟨w, ?_, hg, rfl⟩, ?_⟩)), (h.2.2.2 _ _ hg).2⟩
    · have := (List.getElem?_eq_some_iff.mp ((xq_get_iff _ _ _).mp hg)).1
      rw [h.2.2.1] at this
      exact this
    · simp only [Bool.and_eq_true, Bool.not_eq_true', beq_eq_false_iff_ne, ne_eq, Bool.and_eq_false_iff]
      refine ⟨hne, ?_⟩
      by_cases hj : j + 1 = i
      · subst hj
        right
        rw [xq_cat1 hp hg]
        decide
      · exact Or.inl hj
theorem xq_store2 {B : Nat} {aI : Nat → Nat} {ls ls' : Array Slot} {n i : Nat} {L : xq_L} {v : xq_V} (h : xq_lv B aI ls n L) (hp : xq_pl L i = false) (hv : xq_rv v)
    (h' : lv_has ls' n ((i, xq_cv B aI v) :: (xq_ll B aI n L).filter (fun q => !(q.1 == i) && (!(q.1 == i + 1) && !(q.1 + 1 == i && q.2.category == 2))))) : xq_lv B aI ls' n ((L.set i (some v)).set (i + 1) none) := by
  refine ⟨h'.1, h'.2.1, by simpa using h.2.2.1, fun j w hw => ?_⟩
  rcases xq_get_set hw with ⟨rfl, e⟩ | ⟨hne1, hw⟩
  · cases e
  · rcases xq_get_set hw with ⟨rfl, e⟩ | ⟨hne, hg⟩
    · cases e
      exact ⟨h'.2.2 _ List.mem_cons_self, hv⟩
    · refine ⟨h'.2.2 (j, xq_cv B aI w) (List.mem_cons_of_mem _ (List.mem_filter.mpr ⟨(xq_ll_mem _).mpr ⟨w, ?_, hg, rfl⟩, ?_⟩)), (h.2.2.2 _ _ hg).2⟩
      · have := (List.getElem?_eq_some_iff.mp ((xq_get_iff _ _ _).mp hg)).1
        rw [h.2.2.1] at this
        exact this
      · simp only [Bool.and_eq_true, Bool.not_eq_true', beq_eq_false_iff_ne, ne_eq, Bool.and_eq_false_iff]
        refine ⟨hne, hne1, ?_⟩
        by_cases hj : j + 1 = i
        · subst hj
          right
          rw [xq_cat1 hp hg]
          decide
        · exact Or.inl hj
/-! facts of the classes -/
def xq_tyl : List (Nat → FieldType) := [tyX0, tyX1, tyX2, tyX3, tyX4, tyX5, tyX6, tyX7, tyX8, tyX9, tyX10]
def xq_isr : FieldType → Bool
  | .object _ => true
  | .array _ => true
  | _ => false
/-- what a class's row of the tables says -/
def xq_cok (ci : Nat) (C : String) (T : u_T) (N : Nat) (ty : Nat → FieldType) : Prop := (∀ w ∈ u_ws C T N, w ∈ lw_gd) ∧ (∀ k, k < N → parseFieldDescriptor (T k).2.2.1 = some (ty k)) ∧ (∀ a, a < N → ∀ b, b < N → a ≠ b → (T a).2.1 ≠ (T b).2.1) ∧ xq_nfl.getD ci 0 = N ∧ ∀ k, k < N → ((xq_fk ci k = 0 ∧ ty k = .int) ∨ (xq_fk ci k = 1 ∧ ty k = .boolean) ∨ ((xq_fk ci k = 2 ∨ xq_fk ci k = 3) ∧ xq_isr (ty k) = true))
theorem goodIn_m {ws : List Jvm.Cond} (h : (ws.all fun w => decide (w ∈ lw_tbl)) = true) (h2 : ws.all goodWord = true) : ∀ w ∈ ws, w ∈ lw_gd := fun w hw => List.mem_filter.mpr ⟨of_decide_eq_true (List.all_eq_true.mp h w hw), List.all_eq_true.mp h2 w hw⟩
set_option maxRecDepth 20000 in
theorem xq_cok0 : xq_cok 0 RX0 TX0 5 tyX0 := ⟨goodIn_m (by decide +kernel) (by decide +kernel), tyX0_ok, nmX0, rfl, by decide +kernel⟩
set_option maxRecDepth 20000 in
theorem xq_cok1 : xq_cok 1 RX1 TX1 4 tyX1 := ⟨goodIn_m (by decide +kernel) (by decide +kernel), tyX1_ok, nmX1, rfl, by decide +kernel⟩
set_option maxRecDepth 20000 in
theorem xq_cok2 : xq_cok 2 RX2 TX2 4 tyX2 := ⟨goodIn_m (by decide +kernel) (by decide +kernel), tyX2_ok, nmX2, rfl, by decide +kernel⟩
set_option maxRecDepth 20000 in
theorem xq_cok3 : xq_cok 3 RX3 TX3 8 tyX3 := ⟨goodIn_m (by decide +kernel) (by decide +kernel), tyX3_ok, nmX3, rfl, by decide +kernel⟩
set_option maxRecDepth 20000 in
theorem xq_cok4 : xq_cok 4 RX4 TX4 7 tyX4 := ⟨goodIn_m (by decide +kernel) (by decide +kernel), tyX4_ok, nmX4, rfl, by decide +kernel⟩
set_option maxRecDepth 20000 in
theorem xq_cok5 : xq_cok 5 RX5 TX5 4 tyX5 := ⟨goodIn_m (by decide +kernel) (by decide +kernel), tyX5_ok, nmX5, rfl, by decide +kernel⟩
set_option maxRecDepth 20000 in
theorem xq_cok6 : xq_cok 6 RX6 TX6 8 tyX6 := ⟨goodIn_m (by decide +kernel) (by decide +kernel), tyX6_ok, nmX6, rfl, by decide +kernel⟩
set_option maxRecDepth 20000 in
theorem xq_cok7 : xq_cok 7 RX7 TX7 6 tyX7 := ⟨goodIn_m (by decide +kernel) (by decide +kernel), tyX7_ok, nmX7, rfl, by decide +kernel⟩
set_option maxRecDepth 20000 in
theorem xq_cok8 : xq_cok 8 RX8 TX8 6 tyX8 := ⟨goodIn_m (by decide +kernel) (by decide +kernel), tyX8_ok, nmX8, rfl, by decide +kernel⟩
set_option maxRecDepth 20000 in
theorem xq_cok9 : xq_cok 9 RX9 TX9 8 tyX9 := ⟨goodIn_m (by decide +kernel) (by decide +kernel), tyX9_ok, nmX9, rfl, by decide +kernel⟩
set_option maxRecDepth 20000 in
theorem xq_cok10 : xq_cok 10 RX10 TX10 31 tyX10 := ⟨goodIn_m (by decide +kernel) (by decide +kernel), tyX10_ok, nmX10, rfl, by decide +kernel⟩
theorem xq_cls_ok {ci : Nat} {q : vw_C} (h : xq_cl[ci]? = some q) : ∃ ty, xq_cok ci q.1 q.2.1 q.2.2 ty := by
  match ci, h with
  | 0, h => cases h; exact ⟨_, xq_cok0⟩
  | 1, h => cases h; exact ⟨_, xq_cok1⟩
  | 2, h => cases h; exact ⟨_, xq_cok2⟩
  | 3, h => cases h; exact ⟨_, xq_cok3⟩
  | 4, h => cases h; exact ⟨_, xq_cok4⟩
  | 5, h => cases h; exact ⟨_, xq_cok5⟩
  | 6, h => cases h; exact ⟨_, xq_cok6⟩
  | 7, h => cases h; exact ⟨_, xq_cok7⟩
  | 8, h => cases h; exact ⟨_, xq_cok8⟩
  | 9, h => cases h; exact ⟨_, xq_cok9⟩
  | 10, h => cases h; exact ⟨_, xq_cok10⟩
  | _ + 11, h => simp [xq_cl] at h
def xq_byl : List (List Int32) := xq_strs.map (fun l => l.map Int32.ofInt)
def xq_lnl : List Nat := xq_strs.map List.length
/-- what nobody writes: the texts, the tables, the script -/
def xq_Im (B : Nat) (aI : Nat → Nat) (xs : Int → Int) (s : State) : Prop :=
  vk_S 10 xq_lnl xq_byl (fun i => aI (1100 + i)) (fun i => aI (1200 + i)) (fun q => B ≤ q) s s.heap ∧
  (∀ (j : Nat) (own : String) (idx : Nat) (tx : String) (i : Nat), xq_sof[j]? = some (own, idx, tx) → xq_stx[i]? = some tx → vk_R own idx tx (aI (1100 + i)) s) ∧
  (va_Z "PutBack" "ABOVE" "[I" (.ref (aI 1001)) (fun q => B ≤ q) s s.heap ∧ va_T .int (aI 1001) 7 (fun j => .int (Int32.ofInt ((xq_con 1001).getD j 0))) (fun q => B ≤ q) s s.heap) ∧
  (va_Z "PutBack" "BODIES" "[I" (.ref (aI 1002)) (fun q => B ≤ q) s s.heap ∧ va_T .int (aI 1002) 21 (fun j => .int (Int32.ofInt ((xq_con 1002).getD j 0))) (fun q => B ≤ q) s s.heap) ∧
  va_Z "java/lang/String" "COMPACT_STRINGS" "Z" (.int 1) (fun q => B ≤ q) s s.heap ∧
  (∃ v : Value, v.isRef = true ∧ va_Z "jdk/internal/util/Preconditions" "SIOOBE_FORMATTER" "Ljava/util/function/BiFunction;" v (fun q => B ≤ q) s s.heap) ∧
  (∃ n : Nat, xs (-1) = (n : Int) ∧ n < 2147483648 ∧ va_T .int (aI 999) n (fun j => .int (Int32.ofInt (xs (j : Int)))) (fun q => B ≤ q) s s.heap) ∧
  (∀ w ∈ lw_ns, va_Nw w s)
theorem xq_ns_warm {s U : State} {w : Jvm.Cond} (hw : w ∈ lw_ns) (hW : s.WarmedH U.vm) (h : va_Nw w s) : va_Nw w U := by
  have hn := (List.mem_filter.mp hw).2
  cases w <;> first | exact va_Nw.warmF hW h | exact va_Nw.warmM hW h | exact absurd hn Bool.false_ne_true
theorem xq_ns_same {s U : State} {w : Jvm.Cond} (hw : w ∈ lw_ns) (hv : s.vm = U.vm) (h : va_Nw w s) : va_Nw w U := by
  have hn := (List.mem_filter.mp hw).2
  cases w <;> first | exact va_Nw.same rfl hv h | exact absurd hn Bool.false_ne_true
theorem xq_wn_in {i : Nat} {w : Jvm.Cond} (h : xq_wn i w = true) : w ∈ lw_ns := by
  unfold xq_wn at h
  rw [Bool.and_eq_true] at h
  exact List.mem_filter.mpr ⟨List.mem_of_getElem? (of_decide_eq_true h.1), h.2⟩
theorem xq_Im_go {B : Nat} {aI : Nat → Nat} {xs : Int → Int} {s U : State} {H : Heap} {locs : List Loc} (h : xq_Im B aI xs s) (hW : s.WarmedH U.vm) (hU : U.heap = H) (hS : va_S (fun q => B ≤ q) s.heap H locs) : xq_Im B aI xs U := by
  have hv := hW.alike
  have hq := hS.2.1
  rw [← hU] at hq
  obtain ⟨h1, h2, ⟨h3, h3'⟩, ⟨h4, h4'⟩, h5, ⟨v6, h6r, h6⟩, ⟨n, h7, h8, h9⟩, h10⟩ := h
  exact ⟨(h1.moved hv).kept hq, fun j own idx tx i e1 e2 => (h2 j own idx tx i e1 e2).warm hW, ⟨(h3.moved hv).kept hq, (h3'.moved hv).kept hq⟩, ⟨(h4.moved hv).kept hq, (h4'.moved hv).kept hq⟩, (h5.moved hv).kept hq, ⟨v6, h6r, (h6.moved hv).kept hq⟩, ⟨n, h7, h8, (h9.moved hv).kept hq⟩, fun w hw => xq_ns_warm hw hW (h10 w hw)⟩
