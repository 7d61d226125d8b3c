/-! THE ABSTRACT RUN IS THE MACHINE'S: one instruction -/
def xq_szs : Nat → Nat
  | 0 => 0
  | n + 1 => xq_szs n + xq_szl.getD n 0
theorem xq_szs_le {a b : Nat} (h : a ≤ b) : xq_szs a ≤ xq_szs b := by
  induction b with
  | zero => rw [Nat.le_zero.mp h]; exact Nat.le_refl _
  | succ b ih =>
    rcases Nat.lt_or_ge b a with q | q
    · rw [Nat.le_antisymm h q]; exact Nat.le_refl _
    · exact Nat.le_trans (ih q) (Nat.le_add_right _ _)
/-- the contract of a method, by its number, at a depth: Q holds of the answer and of the heap behind it -/
def xq_rm (lev nx bc : Nat) : Room := { frames := lev, cells := bc, slots := xq_szs (nx + bc) - xq_szs nx, locals := 64 * lev }
def xq_Pc (B : Nat) (D : va_G) (dA : Nat → ClassId) (aI : Nat → Nat) (xs : Int → Int) (as : List xq_V) (nx : Nat) (h : xq_H) : State → Prop := fun U => xq_Im B aI xs U ∧ va_K D xq_cl [(dA 0, .int), (dA 1, .boolean)] U ∧ xq_Rep B D dA xs nx h U.heap ∧ (∀ v ∈ as, xq_rv v) ∧ B ≤ U.heap.size ∧ (nx < 80 → U.heap.size = B + nx)
def xq_Qc (B : Nat) (D : va_G) (dA : Nat → ClassId) (aI : Nat → Nat) (xs : Int → Int) (nx : Nat) (Q : Option xq_V → xq_H → Prop) : Array Value → State → Outcome → State → Prop := fun _ st oc t =>
  (∃ (v : Option xq_V) (h' : xq_H), oc = .returned (v.map (xq_cv B aI)) ∧ (∀ w, v = some w → xq_rv w) ∧ Q v h' ∧ xq_Rep B D dA xs nx h' t.heap) ∧ va_F (fun q => B ≤ q) st t
def xq_met (lev y : Nat) (as : List xq_V) (nx : Nat) (h : xq_H) (Q : Option xq_V → xq_H → Prop) : Prop := ∀ (l : Launch) (B : Nat) (D : va_G) (dA : Nat → ClassId) (aI : Nat → Nat) (xs : Int → Int),
  Met l (xq_sg y).1 (Jvm.Cond.code (xq_sg y).1 (xq_sg y).2.1 (xq_sg y).2.2.1 (xq_sg y).2.2.2.1 :: lw_gd) (xq_rm lev nx (xq_sg y).2.2.2.2) (va_Pc (as.map (xq_cv B aI)) (xq_Pc B D dA aI xs as nx h)) (xq_Qc B D dA aI xs (nx + (xq_sg y).2.2.2.2) Q) (xq_sg y).2.2.2.2 (xq_szs (nx + (xq_sg y).2.2.2.2) - xq_szs nx) (fun q => B ≤ q)
def xq_C (LV : Nat) (y : Nat) (as : List xq_V) (nx : Nat) (h : xq_H) (Q : Option xq_V → xq_H → Prop) : Prop := ∃ lev, lev < LV ∧ xq_met lev y as nx h Q
theorem xq_goodIn {ws : List Jvm.Cond} (h : ∀ w ∈ ws, w ∈ lw_gd) : GoodIn lw_gd ws := fun w hw => ⟨h w hw, good_of_word (List.mem_filter.mp (h w hw)).2⟩
theorem xq_Im_same {B : Nat} {aI : Nat → Nat} {xs : Int → Int} {s U : State} (hv : U.vm = s.vm) (hh : U.heap = s.heap) (h : xq_Im B aI xs s) : xq_Im B aI xs U := by
  have ha : s.vm.Alike U.vm := by rw [hv]; exact Vm.Alike.refl _
  obtain ⟨h1, h2, ⟨h3, h3'⟩, ⟨h4, h4'⟩, h5, ⟨v6, h6r, h6⟩, ⟨n, h7, h8, h9⟩, h10⟩ := h
  unfold xq_Im
  rw [hh]
  exact ⟨h1.moved ha, fun j own idx tx i e1 e2 => vk_R.same hv (h2 j own idx tx i e1 e2), ⟨h3.moved ha, h3'.moved ha⟩, ⟨h4.moved ha, h4'.moved ha⟩, h5.moved ha, ⟨v6, h6r, h6.moved ha⟩, ⟨n, h7, h8, h9.moved ha⟩, fun w hw => xq_ns_same hw hv.symm (h10 w hw)⟩
theorem xq_blind {B : Nat} {D : va_G} {dA : Nat → ClassId} {aI : Nat → Nat} {xs : Int → Int} {as : List xq_V} {nx : Nat} {h : xq_H} : FrameBlind (va_Pc (as.map (xq_cv B aI)) (xq_Pc B D dA aI xs as nx h)) := by
  intro a U g mk hq
  obtain ⟨h1, h2, h3, h4, h5⟩ := hq
  exact ⟨h1, xq_Im_same (s := U) rfl rfl h2, va_K.moved (u := U) (U := U.calling g mk a) (Vm.Alike.refl U.vm) h3, h4, h5⟩
theorem xq_pop_spec : ∀ (n : Nat) (acc S vs S' : List xq_V), xq_pop n acc S = some (vs, S') → ∃ ws : List xq_V, ws.length = n ∧ S = ws.reverse ++ S' ∧ vs = ws ++ acc
  | 0, acc, S, vs, S', h => by cases h; exact ⟨[], rfl, rfl, rfl⟩
  | n + 1, acc, v :: S, vs, S', h => by
    obtain ⟨ws, h1, h2, h3⟩ := xq_pop_spec n (v :: acc) S vs S' h
    exact ⟨ws ++ [v], by simp [h1], by simp [h2], by simp [h3]⟩
  | _ + 1, _, [], _, _, h => by cases h
theorem xq_cat_spec (B : Nat) (aI : Nat → Nat) : ∀ (S : List xq_V), ((S.map (xq_cv B aI)).map fun v => v.category).sum = xq_cat S
  | [] => rfl
  | .inl v :: S => by
    rw [List.map_cons, List.map_cons, List.sum_cons, xq_cat_spec B aI S]
    show 1 + xq_cat S = xq_cat S + 1
    omega
  | .inr (.inl v) :: S => by
    rw [List.map_cons, List.map_cons, List.sum_cons, xq_cat_spec B aI S]
    show 2 + xq_cat S = xq_cat S + 2
    omega
  | .inr (.inr v) :: S => by
    rw [List.map_cons, List.map_cons, List.sum_cons, xq_cat_spec B aI S]
    show 1 + xq_cat S = xq_cat S + 1
    omega
theorem xq_cvI {B : Nat} {aI : Nat → Nat} (z : Int32) : xq_cv B aI (xI z.toInt) = .int z := by
  show Value.int (Int32.ofInt z.toInt) = .int z
  rw [Int32.ofInt_toInt]
theorem xq_ari_of {md : Nat} {x : Int} {K : Int → Prop} (h : xq_ari md x K) (z : Int32) (hz : z.toInt = x.bmod (2 ^ 32)) : K z.toInt := by
  have hw : x.bmod (2 ^ 32) = xq_wr x := by
    unfold xq_wr
    rw [Int.bmod_def]
    split <;> omega
  match md, h with
  | 0, ⟨h1, h2⟩ =>
    have : z.toInt = x := by
      rw [hz, hw]
      unfold xq_wr
      omega
    rw [this]
    exact h2
  | n + 1, h =>
    rw [hz, hw]
    exact h
theorem xq_div {a b : Int} (ha : 0 ≤ a ∧ 0 < b) (h1 : a ≤ 2147483647) (h2 : b ≤ 2147483647) : (Int32.ofInt a / Int32.ofInt b).toInt = a / b := by
  rw [Int32.toInt_div, xi_of (by omega), xi_of (by omega), Int.tdiv_eq_ediv_of_nonneg ha.1]
  have h3 : a / b ≤ a := Int.ediv_le_self _ ha.1
  have h4 : 0 ≤ a / b := Int.ediv_nonneg ha.1 (Int.le_of_lt ha.2)
  rw [Int.bmod_def]
  split <;> omega
theorem xq_rem {a b : Int} (ha : 0 ≤ a ∧ 0 < b) (h1 : a ≤ 2147483647) (h2 : b ≤ 2147483647) : (Int32.ofInt a - Int32.ofInt a / Int32.ofInt b * Int32.ofInt b).toInt = a % b := by
  have h3 : a / b ≤ a := Int.ediv_le_self _ ha.1
  have h4 : 0 ≤ a / b := Int.ediv_nonneg ha.1 (Int.le_of_lt ha.2)
  have h5 := Int.emod_add_mul_ediv a b
  have h6 := Int.emod_nonneg a (Int.ne_of_gt ha.2)
  have h7 := Int.emod_lt_of_pos a ha.2
  have h8 : a / b * b = a - a % b := by rw [Int.mul_comm]; omega
  rw [Int32.toInt_sub, Int32.toInt_mul, xq_div ha h1 h2, xi_of (by omega), xi_of (by omega), h8]
  rw [show (a - a % b).bmod (2 ^ 32) = a - a % b by rw [Int.bmod_def]; split <;> omega]
  rw [show a - (a - a % b) = a % b by omega]
  rw [Int.bmod_def]; split <;> omega
theorem xq_divL {a b : Int} (ha : 0 ≤ a ∧ 0 < b) (h1 : a ≤ 9223372036854775807) (h2 : b ≤ 9223372036854775807) : (Int64.ofInt a / Int64.ofInt b).toInt = a / b := by
  rw [Int64.toInt_div, xj_of (by omega), xj_of (by omega), Int.tdiv_eq_ediv_of_nonneg ha.1]
  have h3 : a / b ≤ a := Int.ediv_le_self _ ha.1
  have h4 : 0 ≤ a / b := Int.ediv_nonneg ha.1 (Int.le_of_lt ha.2)
  rw [Int.bmod_def]
  split <;> omega
theorem xq_remL {a b : Int} (ha : 0 ≤ a ∧ 0 < b) (h1 : a ≤ 9223372036854775807) (h2 : b ≤ 9223372036854775807) : (Int64.ofInt a - Int64.ofInt a / Int64.ofInt b * Int64.ofInt b).toInt = a % b := by
  have h3 : a / b ≤ a := Int.ediv_le_self _ ha.1
  have h4 : 0 ≤ a / b := Int.ediv_nonneg ha.1 (Int.le_of_lt ha.2)
  have h5 := Int.emod_add_mul_ediv a b
  have h6 := Int.emod_nonneg a (Int.ne_of_gt ha.2)
  have h7 := Int.emod_lt_of_pos a ha.2
  have h8 : a / b * b = a - a % b := by rw [Int.mul_comm]; omega
  rw [Int64.toInt_sub, Int64.toInt_mul, xq_divL ha h1 h2, xj_of (by omega), xj_of (by omega), h8]
  rw [show (a - a % b).bmod (2 ^ 64) = a - a % b by rw [Int.bmod_def]; split <;> omega]
  rw [show a - (a - a % b) = a % b by omega]
  rw [Int.bmod_def]; split <;> omega
theorem xq_ne0 {b : Int} (hb : 0 < b) (h2 : b ≤ 2147483647) : ¬ Int32.ofInt b = 0 := by
  intro z
  have := congrArg Int32.toInt z
  rw [xi_of (by omega)] at this
  simp at this
  omega
theorem xq_ne0L {b : Int} (hb : 0 < b) (h2 : b ≤ 9223372036854775807) : ¬ Int64.ofInt b = 0 := by
  intro z
  have := congrArg Int64.toInt z
  rw [xj_of (by omega)] at this
  simp at this
  omega
theorem xq_ltI {a b : Int} (ha : -2147483648 ≤ a ∧ a ≤ 2147483647) (hb : -2147483648 ≤ b ∧ b ≤ 2147483647) : Int32.ofInt a < Int32.ofInt b ↔ a < b := by
  rw [Int32.lt_iff_toInt_lt, xi_of ha, xi_of hb]
theorem xq_leI {a b : Int} (ha : -2147483648 ≤ a ∧ a ≤ 2147483647) (hb : -2147483648 ≤ b ∧ b ≤ 2147483647) : Int32.ofInt a ≤ Int32.ofInt b ↔ a ≤ b := by
  rw [Int32.le_iff_toInt_le, xi_of ha, xi_of hb]
theorem xq_eqI {a b : Int} (ha : -2147483648 ≤ a ∧ a ≤ 2147483647) (hb : -2147483648 ≤ b ∧ b ≤ 2147483647) : Int32.ofInt a = Int32.ofInt b ↔ a = b := by
  rw [← Int32.toInt_inj, xi_of ha, xi_of hb]
def xq_KW (p : Program) (l : Launch) (e : Env) (R : Room) (s : State) (m : MethodId) (args : Array Value) (below : List Frame) (meth : Method) (c : Code) (B : Nat) (D : va_G) (dA : Nat → ClassId) (aI : Nat → Nat) (xs : Int → Int) (rows : List (List xq_Row)) (nx0 : Nat) (Qf : State → Prop) : xq_KT :=
  fun n L S nx h => ∀ (H : Heap) (locs : List Loc) (ls : Array Slot), xq_Rep B D dA xs nx h H → va_S (fun q => B ≤ q) s.heap H locs → xq_lv B aI ls c.maxLocals L → (∀ v ∈ S, xq_rv v) → nx0 ≤ nx → W p l e R s m args below meth c H locs (nx - nx0) (xq_szs nx - xq_szs nx0) Qf (F0 m (xq_rp rows n) ls (S.map (xq_cv B aI)))
/-- what holds of a method from its entry on -/
def xq_Cx (p : Program) (R : Room) (s : State) (m : MethodId) (args : Array Value) (meth : Method) (c : Code) (B : Nat) (D : va_G) (dA : Nat → ClassId) (aI : Nat → Nat) (xs : Int → Int) (own : String) (ini : Bool) (rt : Option FieldType) (rows : List (List xq_Row)) (nx0 nxE LV : Nat) : Prop :=
  p.tables.exec = Jvm.exec ∧ s.vm.findClass own = some m.cls ∧ (∀ w ∈ lw_gd, w.before args s = true) ∧ va_K D xq_cl [(dA 0, .int), (dA 1, .boolean)] s ∧ xq_Im B aI xs s ∧ xq_okM c.code own ini rt rows = true ∧ (B ≤ s.heap.size ∧ (nx0 < 80 → s.heap.size = B + nx0)) ∧ (nxE - nx0 ≤ R.cells ∧ xq_szs nxE - xq_szs nx0 ≤ R.slots ∧ LV ≤ R.frames ∧ 64 * LV ≤ R.locals) ∧ (ini = true → meth.name = "<init>") ∧ nxE ≤ 81 ∧ 1 ≤ LV
theorem xq_row {cc : ByteArray} {own : String} {ini : Bool} {rt : Option FieldType} {rows : List (List xq_Row)} {n : Nat} {r : xq_Row} (h : xq_okM cc own ini rt rows = true) (hr : xq_at rows n = some r) : xq_okb cc own ini rt (xq_rp rows) r = true ∧ xq_rp rows n = r.2.1.1 := by
  refine ⟨?_, by simp [xq_rp, hr]⟩
  unfold xq_at at hr
  have h1 := List.mem_of_getElem? hr
  by_cases hl : n / 16 < rows.length
  · have h2 : rows.getD (n / 16) [] ∈ rows := by
      rw [List.getD_eq_getElem?_getD, List.getElem?_eq_getElem hl]
      exact List.getElem_mem hl
    exact List.all_eq_true.mp (List.all_eq_true.mp h _ h2) _ h1
  · rw [List.getD_eq_getElem?_getD, List.getElem?_eq_none (by omega)] at h1
    simp at h1
/-- the one field that may hold null is read by no row (String.checkIndex reads it: it has a walk of its own) -/
def xq_g3 : xq_Row → Bool
  | (.getstatic _, _, [_, o, _, _], _) => !(Nat.beq o 1003)
  | _ => true
def xq_no3 (rows : List (List xq_Row)) : Bool := rows.all (fun r => r.all xq_g3)
theorem xq_no3_at {rows : List (List xq_Row)} {n : Nat} {r : xq_Row} (h : xq_no3 rows = true) (hr : xq_at rows n = some r) : xq_g3 r = true := by
  unfold xq_at at hr
  have h1 := List.mem_of_getElem? hr
  by_cases hl : n / 16 < rows.length
  · have h2 : rows.getD (n / 16) [] ∈ rows := by
      rw [List.getD_eq_getElem?_getD, List.getElem?_eq_getElem hl]
      exact List.getElem_mem hl
    exact List.all_eq_true.mp (List.all_eq_true.mp h _ h2) _ h1
  · rw [List.getD_eq_getElem?_getD, List.getElem?_eq_none (by omega)] at h1
    simp at h1
theorem xq_wd_in {i : Nat} {w : Jvm.Cond} (h : xq_wd i w = true) : w ∈ lw_gd := by
  unfold xq_wd at h
  rw [Bool.and_eq_true] at h
  exact List.mem_filter.mpr ⟨List.mem_of_getElem? (of_decide_eq_true h.1), h.2⟩
theorem xj_rg (x : Int64) : -9223372036854775808 ≤ x.toInt ∧ x.toInt ≤ 9223372036854775807 := ⟨x.le_toInt, Int.le_of_lt_add_one x.toInt_lt⟩
theorem xq_cvJ {B : Nat} {aI : Nat → Nat} (z : Int64) : xq_cv B aI (xJ z.toInt) = .long z := by
  show Value.long (Int64.ofInt z.toInt) = .long z
  rw [Int64.ofInt_toInt]
theorem xq_lcmp {a b : Int} (ha : -9223372036854775808 ≤ a ∧ a ≤ 9223372036854775807) (hb : -9223372036854775808 ≤ b ∧ b ≤ 9223372036854775807) : (lg_cmp (Int64.ofInt a) (Int64.ofInt b)).toInt = xq_lc a b := by
  unfold lg_cmp xq_lc
  simp only [gt_iff_lt, Int64.lt_iff_toInt_lt, ← Int64.toInt_inj, xj_of ha, xj_of hb]
  by_cases h1 : b < a
  · rw [if_pos h1, if_neg (by omega), if_neg (by omega)]; rfl
  · by_cases h2 : a = b
    · rw [if_neg h1, if_pos h2, if_neg (by omega), if_pos h2]; rfl
    · rw [if_neg h1, if_neg h2, if_pos (by omega)]; rfl
theorem xq_clsA : ∀ o : Fin 80, (match xq_cls o.val with | .inr (t, n) => Nat.blt n 1000 && Nat.blt t 2 | .inl ci => Nat.blt ci 11) = true := by decide +kernel
theorem xq_clsn {o t n : Nat} (ho : o < 80) (h : xq_cls o = .inr (t, n)) : n < 1000 ∧ t < 2 := by
  have := xq_clsA ⟨o, ho⟩
  dsimp only at this
  rw [h] at this
  simpa [Nat.blt_eq] using this
theorem xq_strf : ∀ j : Nat, j < 10 → xq_lnl.getD j 0 = (xq_str j).length ∧ xq_byl.getD j [] = (xq_str j).map Int32.ofInt ∧ ∀ x ∈ xq_str j, 0 ≤ x ∧ x ≤ 127 := by
  intro j hj
  rcases (show j = 0 ∨ j = 1 ∨ j = 2 ∨ j = 3 ∨ j = 4 ∨ j = 5 ∨ j = 6 ∨ j = 7 ∨ j = 8 ∨ j = 9 by omega) with rfl | rfl | rfl | rfl | rfl | rfl | rfl | rfl | rfl | rfl <;> exact ⟨rfl, rfl, by decide⟩
theorem xq_strn (j : Nat) : (xq_str j).length < 100 := by
  rcases Nat.lt_or_ge j 10 with q | q
  · rcases (show j = 0 ∨ j = 1 ∨ j = 2 ∨ j = 3 ∨ j = 4 ∨ j = 5 ∨ j = 6 ∨ j = 7 ∨ j = 8 ∨ j = 9 by omega) with rfl | rfl | rfl | rfl | rfl | rfl | rfl | rfl | rfl | rfl <;> decide
  · unfold xq_str
    rw [List.getD_eq_getElem?_getD, List.getElem?_eq_none (by simpa [xq_strs] using q)]
    decide
theorem xq_fs_set {B : Nat} {h : xq_H} {o ci k : Nat} {x : Int} {w : Value} (hk : k < (xq_fs B h o ci).length) (hw : xq_fv B (xq_u h o k x) o ci k = w) : xq_fs B (xq_u h o k x) o ci = (xq_fs B h o ci).set k w := by
  apply List.ext_getElem?
  intro j
  have hkn : k < xq_nfl.getD ci 0 := by simpa [xq_fs] using hk
  by_cases hj : j = k
  · subst hj
    rw [List.getElem?_set_self hk]
    unfold xq_fs
    rw [List.getElem?_map, List.getElem?_range hkn]
    exact congrArg some hw
  · rw [List.getElem?_set_ne (Ne.symm hj)]
    unfold xq_fs
    rw [List.getElem?_map, List.getElem?_map]
    by_cases hjn : j < xq_nfl.getD ci 0
    · rw [List.getElem?_range hjn]
      show some (xq_fv B (xq_u h o k x) o ci j) = some (xq_fv B h o ci j)
      have e : xq_u h o k x o j = h o j := by
        unfold xq_u
        rw [if_pos rfl, if_neg (by omega)]
      unfold xq_fv
      rw [e]
    · rw [List.getElem?_eq_none (by simpa using hjn)]
      rfl
section XQ
variable {p : Program} {l : Launch} {e : Env} {R : Room} {s : State} {m : MethodId} {args : Array Value} {below : List Frame} {meth : Method} {c : Code} {B : Nat} {D : va_G} {dA : Nat → ClassId} {aI : Nat → Nat} {xs : Int → Int} {own : String} {ini : Bool} {rt : Option FieldType} {rows : List (List xq_Row)} {nx0 nxE LV : Nat} {Qf : State → Prop}
variable {K' : xq_KT} {pc : Nat} {L : xq_L} {S : List xq_V} {nx : Nat} {h : xq_H} {rpc len nxt : Nat} {ax : List Nat} {vs : List Int}
/-- the next instruction of the same heap -/
theorem xq_fin {n' : Nat} {L' : xq_L} {S' : List xq_V} {H : Heap} {locs : List Loc} {ls : Array Slot} (hle : ∀ pc L S nx h, K' pc L S nx h → xq_KW p l e R s m args below meth c B D dA aI xs rows nx0 Qf pc L S nx h) (hk : K' n' L' S' nx h) (hR : xq_Rep B D dA xs nx h H) (hS : va_S (fun q => B ≤ q) s.heap H locs) (hl : xq_lv B aI ls c.maxLocals L') (hr : ∀ v ∈ S', xq_rv v) (hn : nx0 ≤ nx) {g : Nat} (hg : xq_rp rows n' = g) {st : List Value} (hst : S'.map (xq_cv B aI) = st) : W p l e R s m args below meth c H locs (nx - nx0) (xq_szs nx - xq_szs nx0) Qf (F0 m g ls st) := by
  subst hg; subst hst
  exact hle _ _ _ _ _ hk H locs ls hR hS hl hr hn
theorem xq_rv_c {v : xq_V} {S' : List xq_V} (hv : xq_rv v) (hr : ∀ w ∈ S', xq_rv w) : ∀ w ∈ v :: S', xq_rv w := fun w h => by
  rcases List.mem_cons.mp h with rfl | h
  · exact hv
  · exact hr _ h
theorem xq_rv_t {v : xq_V} {S' : List xq_V} (hr : ∀ w ∈ v :: S', xq_rv w) : ∀ w ∈ S', xq_rv w := fun w h => hr _ (List.mem_cons_of_mem _ h)
theorem xq_rv_h {v : xq_V} {S' : List xq_V} (hr : ∀ w ∈ v :: S', xq_rv w) : xq_rv v := hr _ List.mem_cons_self
set_option maxHeartbeats 1000000 in
theorem xq_s_iload_n {Cq : Nat → List xq_V → Nat → xq_H → (Option xq_V → xq_H → Prop) → Prop} {Qx : Option xq_V → xq_H → Prop} {k : Fin 4} (Cx : xq_Cx p R s m args meth c B D dA aI xs own ini rt rows nx0 nxE LV) (hle : ∀ pc L S nx h, K' pc L S nx h → xq_KW p l e R s m args below meth c B D dA aI xs rows nx0 Qf pc L S nx h)
    (hrow : xq_at rows pc = some (.iload_n k, (rpc, len, nxt), ax, vs)) (hex : xq_exec Cq nxE Qx K' (some (.iload_n k, (rpc, len, nxt), ax, vs)) L S nx h) : xq_KW p l e R s m args below meth c B D dA aI xs rows nx0 Qf pc L S nx h := by
  obtain ⟨hx, hown, hts, hKK, hIm, hok, hB, hRm, hini, hnE, hLV⟩ := Cx
  obtain ⟨ho, hpc⟩ := xq_row hok hrow
  simp only [xq_okb, xq_tm, xq_ts, xq_el, Bool.and_eq_true, Bool.or_eq_true, Bool.false_eq_true, false_or, decide_eq_true_eq, Nat.beq_eq] at ho
  intro H locs ls hR hS hl hr hn
  dsimp only at hpc
  rw [hpc]
  unfold xq_exec at hex
  dsimp only at hex
  split at hex
  · rename_i i hg
    obtain ⟨⟨⟨hd, hlen⟩, hnx⟩, hz⟩ := ho
    subst hlen
    refine lv_iload_n hx rfl hd rfl (hl.2.2.2 _ _ hg).1 ?_
    exact xq_fin hle hex hR hS hl (xq_rv_c (hl.2.2.2 _ _ hg).2 hr) hn hnx rfl
  · exact hex.elim

set_option maxHeartbeats 1000000 in
theorem xq_s_iload {Cq : Nat → List xq_V → Nat → xq_H → (Option xq_V → xq_H → Prop) → Prop} {Qx : Option xq_V → xq_H → Prop} {k : Nat} (Cx : xq_Cx p R s m args meth c B D dA aI xs own ini rt rows nx0 nxE LV) (hle : ∀ pc L S nx h, K' pc L S nx h → xq_KW p l e R s m args below meth c B D dA aI xs rows nx0 Qf pc L S nx h)
    (hrow : xq_at rows pc = some (.iload k, (rpc, len, nxt), ax, vs)) (hex : xq_exec Cq nxE Qx K' (some (.iload k, (rpc, len, nxt), ax, vs)) L S nx h) : xq_KW p l e R s m args below meth c B D dA aI xs rows nx0 Qf pc L S nx h := by
  obtain ⟨hx, hown, hts, hKK, hIm, hok, hB, hRm, hini, hnE, hLV⟩ := Cx
  obtain ⟨ho, hpc⟩ := xq_row hok hrow
  simp only [xq_okb, xq_tm, xq_ts, xq_el, Bool.and_eq_true, Bool.or_eq_true, Bool.false_eq_true, false_or, decide_eq_true_eq, Nat.beq_eq] at ho
  intro H locs ls hR hS hl hr hn
  dsimp only at hpc
  rw [hpc]
  unfold xq_exec at hex
  dsimp only at hex
  split at hex
  · rename_i i hg
    obtain ⟨⟨⟨hd, hlen⟩, hnx⟩, hz⟩ := ho
    subst hlen
    refine lv_iload hx rfl hd (hl.2.2.2 _ _ hg).1 ?_
    exact xq_fin hle hex hR hS hl (xq_rv_c (hl.2.2.2 _ _ hg).2 hr) hn hnx rfl
  · exact hex.elim

set_option maxHeartbeats 1000000 in
theorem xq_s_lload_n {Cq : Nat → List xq_V → Nat → xq_H → (Option xq_V → xq_H → Prop) → Prop} {Qx : Option xq_V → xq_H → Prop} {k : Fin 4} (Cx : xq_Cx p R s m args meth c B D dA aI xs own ini rt rows nx0 nxE LV) (hle : ∀ pc L S nx h, K' pc L S nx h → xq_KW p l e R s m args below meth c B D dA aI xs rows nx0 Qf pc L S nx h)
    (hrow : xq_at rows pc = some (.lload_n k, (rpc, len, nxt), ax, vs)) (hex : xq_exec Cq nxE Qx K' (some (.lload_n k, (rpc, len, nxt), ax, vs)) L S nx h) : xq_KW p l e R s m args below meth c B D dA aI xs rows nx0 Qf pc L S nx h := by
  obtain ⟨hx, hown, hts, hKK, hIm, hok, hB, hRm, hini, hnE, hLV⟩ := Cx
  obtain ⟨ho, hpc⟩ := xq_row hok hrow
  simp only [xq_okb, xq_tm, xq_ts, xq_el, Bool.and_eq_true, Bool.or_eq_true, Bool.false_eq_true, false_or, decide_eq_true_eq, Nat.beq_eq] at ho
  intro H locs ls hR hS hl hr hn
  dsimp only at hpc
  rw [hpc]
  unfold xq_exec at hex
  dsimp only at hex
  split at hex
  · rename_i i hg
    obtain ⟨⟨⟨hd, hlen⟩, hnx⟩, hz⟩ := ho
    subst hlen
    refine lv_lload_n hx rfl hd rfl (hl.2.2.2 _ _ hg).1 ?_
    exact xq_fin hle hex hR hS hl (xq_rv_c (hl.2.2.2 _ _ hg).2 hr) hn hnx rfl
  · exact hex.elim

set_option maxHeartbeats 1000000 in
theorem xq_s_lload {Cq : Nat → List xq_V → Nat → xq_H → (Option xq_V → xq_H → Prop) → Prop} {Qx : Option xq_V → xq_H → Prop} {k : Nat} (Cx : xq_Cx p R s m args meth c B D dA aI xs own ini rt rows nx0 nxE LV) (hle : ∀ pc L S nx h, K' pc L S nx h → xq_KW p l e R s m args below meth c B D dA aI xs rows nx0 Qf pc L S nx h)
    (hrow : xq_at rows pc = some (.lload k, (rpc, len, nxt), ax, vs)) (hex : xq_exec Cq nxE Qx K' (some (.lload k, (rpc, len, nxt), ax, vs)) L S nx h) : xq_KW p l e R s m args below meth c B D dA aI xs rows nx0 Qf pc L S nx h := by
  obtain ⟨hx, hown, hts, hKK, hIm, hok, hB, hRm, hini, hnE, hLV⟩ := Cx
  obtain ⟨ho, hpc⟩ := xq_row hok hrow
  simp only [xq_okb, xq_tm, xq_ts, xq_el, Bool.and_eq_true, Bool.or_eq_true, Bool.false_eq_true, false_or, decide_eq_true_eq, Nat.beq_eq] at ho
  intro H locs ls hR hS hl hr hn
  dsimp only at hpc
  rw [hpc]
  unfold xq_exec at hex
  dsimp only at hex
  split at hex
  · rename_i i hg
    obtain ⟨⟨⟨hd, hlen⟩, hnx⟩, hz⟩ := ho
    subst hlen
    refine lv_lload hx rfl hd (hl.2.2.2 _ _ hg).1 ?_
    exact xq_fin hle hex hR hS hl (xq_rv_c (hl.2.2.2 _ _ hg).2 hr) hn hnx rfl
  · exact hex.elim

set_option maxHeartbeats 1000000 in
theorem xq_s_aload_n {Cq : Nat → List xq_V → Nat → xq_H → (Option xq_V → xq_H → Prop) → Prop} {Qx : Option xq_V → xq_H → Prop} {k : Fin 4} (Cx : xq_Cx p R s m args meth c B D dA aI xs own ini rt rows nx0 nxE LV) (hle : ∀ pc L S nx h, K' pc L S nx h → xq_KW p l e R s m args below meth c B D dA aI xs rows nx0 Qf pc L S nx h)
    (hrow : xq_at rows pc = some (.aload_n k, (rpc, len, nxt), ax, vs)) (hex : xq_exec Cq nxE Qx K' (some (.aload_n k, (rpc, len, nxt), ax, vs)) L S nx h) : xq_KW p l e R s m args below meth c B D dA aI xs rows nx0 Qf pc L S nx h := by
  obtain ⟨hx, hown, hts, hKK, hIm, hok, hB, hRm, hini, hnE, hLV⟩ := Cx
  obtain ⟨ho, hpc⟩ := xq_row hok hrow
  simp only [xq_okb, xq_tm, xq_ts, xq_el, Bool.and_eq_true, Bool.or_eq_true, Bool.false_eq_true, false_or, decide_eq_true_eq, Nat.beq_eq] at ho
  intro H locs ls hR hS hl hr hn
  dsimp only at hpc
  rw [hpc]
  unfold xq_exec at hex
  dsimp only at hex
  split at hex
  · rename_i i hg
    obtain ⟨⟨⟨hd, hlen⟩, hnx⟩, hz⟩ := ho
    subst hlen
    refine lv_aload_n hx rfl hd rfl (hl.2.2.2 _ _ hg).1 ?_
    exact xq_fin hle hex hR hS hl (xq_rv_c (hl.2.2.2 _ _ hg).2 hr) hn hnx rfl
  · exact hex.elim

set_option maxHeartbeats 1000000 in
theorem xq_s_aload {Cq : Nat → List xq_V → Nat → xq_H → (Option xq_V → xq_H → Prop) → Prop} {Qx : Option xq_V → xq_H → Prop} {k : Nat} (Cx : xq_Cx p R s m args meth c B D dA aI xs own ini rt rows nx0 nxE LV) (hle : ∀ pc L S nx h, K' pc L S nx h → xq_KW p l e R s m args below meth c B D dA aI xs rows nx0 Qf pc L S nx h)
    (hrow : xq_at rows pc = some (.aload k, (rpc, len, nxt), ax, vs)) (hex : xq_exec Cq nxE Qx K' (some (.aload k, (rpc, len, nxt), ax, vs)) L S nx h) : xq_KW p l e R s m args below meth c B D dA aI xs rows nx0 Qf pc L S nx h := by
  obtain ⟨hx, hown, hts, hKK, hIm, hok, hB, hRm, hini, hnE, hLV⟩ := Cx
  obtain ⟨ho, hpc⟩ := xq_row hok hrow
  simp only [xq_okb, xq_tm, xq_ts, xq_el, Bool.and_eq_true, Bool.or_eq_true, Bool.false_eq_true, false_or, decide_eq_true_eq, Nat.beq_eq] at ho
  intro H locs ls hR hS hl hr hn
  dsimp only at hpc
  rw [hpc]
  unfold xq_exec at hex
  dsimp only at hex
  split at hex
  · rename_i i hg
    obtain ⟨⟨⟨hd, hlen⟩, hnx⟩, hz⟩ := ho
    subst hlen
    refine lv_aload hx rfl hd (hl.2.2.2 _ _ hg).1 ?_
    exact xq_fin hle hex hR hS hl (xq_rv_c (hl.2.2.2 _ _ hg).2 hr) hn hnx rfl
  · exact hex.elim

set_option maxHeartbeats 1000000 in
theorem xq_s_istore_n {Cq : Nat → List xq_V → Nat → xq_H → (Option xq_V → xq_H → Prop) → Prop} {Qx : Option xq_V → xq_H → Prop} {k : Fin 4} (Cx : xq_Cx p R s m args meth c B D dA aI xs own ini rt rows nx0 nxE LV) (hle : ∀ pc L S nx h, K' pc L S nx h → xq_KW p l e R s m args below meth c B D dA aI xs rows nx0 Qf pc L S nx h)
    (hrow : xq_at rows pc = some (.istore_n k, (rpc, len, nxt), ax, vs)) (hex : xq_exec Cq nxE Qx K' (some (.istore_n k, (rpc, len, nxt), ax, vs)) L S nx h) : xq_KW p l e R s m args below meth c B D dA aI xs rows nx0 Qf pc L S nx h := by
  obtain ⟨hx, hown, hts, hKK, hIm, hok, hB, hRm, hini, hnE, hLV⟩ := Cx
  obtain ⟨ho, hpc⟩ := xq_row hok hrow
  simp only [xq_okb, xq_tm, xq_ts, xq_el, Bool.and_eq_true, Bool.or_eq_true, Bool.false_eq_true, false_or, decide_eq_true_eq, Nat.beq_eq] at ho
  intro H locs ls hR hS hl hr hn
  dsimp only at hpc
  rw [hpc]
  rcases S with _ | ⟨(a | a | a), S'⟩ <;> try exact False.elim hex
  unfold xq_exec at hex
  dsimp only at hex
  unfold xq_st at hex
  split at hex
  · rename_i hb
    split at hex
    · rename_i hp
      obtain ⟨⟨⟨hd, hlen⟩, hnx⟩, hz⟩ := ho
      subst hlen
      refine lv_istore_n hx rfl hd rfl (xq_ll_has hl) (by rw [← hl.2.2.1]; exact Nat.blt_eq.mp hb) rfl (fun ls' hl' => ?_)
      exact xq_fin hle (xq_nrm_s _ _ hex) hR hS (xq_store1 hl hp (xq_rv_h hr) hl') (xq_rv_t hr) hn hnx rfl
    · exact hex.elim
  · exact hex.elim

set_option maxHeartbeats 1000000 in
theorem xq_s_istore {Cq : Nat → List xq_V → Nat → xq_H → (Option xq_V → xq_H → Prop) → Prop} {Qx : Option xq_V → xq_H → Prop} {k : Nat} (Cx : xq_Cx p R s m args meth c B D dA aI xs own ini rt rows nx0 nxE LV) (hle : ∀ pc L S nx h, K' pc L S nx h → xq_KW p l e R s m args below meth c B D dA aI xs rows nx0 Qf pc L S nx h)
    (hrow : xq_at rows pc = some (.istore k, (rpc, len, nxt), ax, vs)) (hex : xq_exec Cq nxE Qx K' (some (.istore k, (rpc, len, nxt), ax, vs)) L S nx h) : xq_KW p l e R s m args below meth c B D dA aI xs rows nx0 Qf pc L S nx h := by
  obtain ⟨hx, hown, hts, hKK, hIm, hok, hB, hRm, hini, hnE, hLV⟩ := Cx
  obtain ⟨ho, hpc⟩ := xq_row hok hrow
  simp only [xq_okb, xq_tm, xq_ts, xq_el, Bool.and_eq_true, Bool.or_eq_true, Bool.false_eq_true, false_or, decide_eq_true_eq, Nat.beq_eq] at ho
  intro H locs ls hR hS hl hr hn
  dsimp only at hpc
  rw [hpc]
  rcases S with _ | ⟨(a | a | a), S'⟩ <;> try exact False.elim hex
  unfold xq_exec at hex
  dsimp only at hex
  unfold xq_st at hex
  split at hex
  · rename_i hb
    split at hex
    · rename_i hp
      obtain ⟨⟨⟨hd, hlen⟩, hnx⟩, hz⟩ := ho
      subst hlen
      refine lv_istore hx rfl hd (xq_ll_has hl) (by rw [← hl.2.2.1]; exact Nat.blt_eq.mp hb) rfl (fun ls' hl' => ?_)
      exact xq_fin hle (xq_nrm_s _ _ hex) hR hS (xq_store1 hl hp (xq_rv_h hr) hl') (xq_rv_t hr) hn hnx rfl
    · exact hex.elim
  · exact hex.elim

set_option maxHeartbeats 1000000 in
theorem xq_s_astore_n {Cq : Nat → List xq_V → Nat → xq_H → (Option xq_V → xq_H → Prop) → Prop} {Qx : Option xq_V → xq_H → Prop} {k : Fin 4} (Cx : xq_Cx p R s m args meth c B D dA aI xs own ini rt rows nx0 nxE LV) (hle : ∀ pc L S nx h, K' pc L S nx h → xq_KW p l e R s m args below meth c B D dA aI xs rows nx0 Qf pc L S nx h)
    (hrow : xq_at rows pc = some (.astore_n k, (rpc, len, nxt), ax, vs)) (hex : xq_exec Cq nxE Qx K' (some (.astore_n k, (rpc, len, nxt), ax, vs)) L S nx h) : xq_KW p l e R s m args below meth c B D dA aI xs rows nx0 Qf pc L S nx h := by
  obtain ⟨hx, hown, hts, hKK, hIm, hok, hB, hRm, hini, hnE, hLV⟩ := Cx
  obtain ⟨ho, hpc⟩ := xq_row hok hrow
  simp only [xq_okb, xq_tm, xq_ts, xq_el, Bool.and_eq_true, Bool.or_eq_true, Bool.false_eq_true, false_or, decide_eq_true_eq, Nat.beq_eq] at ho
  intro H locs ls hR hS hl hr hn
  dsimp only at hpc
  rw [hpc]
  rcases S with _ | ⟨(a | a | a), S'⟩ <;> try exact False.elim hex
  unfold xq_exec at hex
  dsimp only at hex
  unfold xq_st at hex
  split at hex
  · rename_i hb
    split at hex
    · rename_i hp
      obtain ⟨⟨⟨hd, hlen⟩, hnx⟩, hz⟩ := ho
      subst hlen
      refine lv_astore_n hx rfl hd rfl (xq_ll_has hl) (by rw [← hl.2.2.1]; exact Nat.blt_eq.mp hb) rfl (fun ls' hl' => ?_)
      exact xq_fin hle (xq_nrm_s _ _ hex) hR hS (xq_store1 hl hp (xq_rv_h hr) hl') (xq_rv_t hr) hn hnx rfl
    · exact hex.elim
  · exact hex.elim

set_option maxHeartbeats 1000000 in
theorem xq_s_astore {Cq : Nat → List xq_V → Nat → xq_H → (Option xq_V → xq_H → Prop) → Prop} {Qx : Option xq_V → xq_H → Prop} {k : Nat} (Cx : xq_Cx p R s m args meth c B D dA aI xs own ini rt rows nx0 nxE LV) (hle : ∀ pc L S nx h, K' pc L S nx h → xq_KW p l e R s m args below meth c B D dA aI xs rows nx0 Qf pc L S nx h)
    (hrow : xq_at rows pc = some (.astore k, (rpc, len, nxt), ax, vs)) (hex : xq_exec Cq nxE Qx K' (some (.astore k, (rpc, len, nxt), ax, vs)) L S nx h) : xq_KW p l e R s m args below meth c B D dA aI xs rows nx0 Qf pc L S nx h := by
  obtain ⟨hx, hown, hts, hKK, hIm, hok, hB, hRm, hini, hnE, hLV⟩ := Cx
  obtain ⟨ho, hpc⟩ := xq_row hok hrow
  simp only [xq_okb, xq_tm, xq_ts, xq_el, Bool.and_eq_true, Bool.or_eq_true, Bool.false_eq_true, false_or, decide_eq_true_eq, Nat.beq_eq] at ho
  intro H locs ls hR hS hl hr hn
  dsimp only at hpc
  rw [hpc]
  rcases S with _ | ⟨(a | a | a), S'⟩ <;> try exact False.elim hex
  unfold xq_exec at hex
  dsimp only at hex
  unfold xq_st at hex
  split at hex
  · rename_i hb
    split at hex
    · rename_i hp
      obtain ⟨⟨⟨hd, hlen⟩, hnx⟩, hz⟩ := ho
      subst hlen
      refine lv_astore hx rfl hd (xq_ll_has hl) (by rw [← hl.2.2.1]; exact Nat.blt_eq.mp hb) rfl (fun ls' hl' => ?_)
      exact xq_fin hle (xq_nrm_s _ _ hex) hR hS (xq_store1 hl hp (xq_rv_h hr) hl') (xq_rv_t hr) hn hnx rfl
    · exact hex.elim
  · exact hex.elim

set_option maxHeartbeats 1000000 in
theorem xq_s_lstore {Cq : Nat → List xq_V → Nat → xq_H → (Option xq_V → xq_H → Prop) → Prop} {Qx : Option xq_V → xq_H → Prop} {k : Nat} (Cx : xq_Cx p R s m args meth c B D dA aI xs own ini rt rows nx0 nxE LV) (hle : ∀ pc L S nx h, K' pc L S nx h → xq_KW p l e R s m args below meth c B D dA aI xs rows nx0 Qf pc L S nx h)
    (hrow : xq_at rows pc = some (.lstore k, (rpc, len, nxt), ax, vs)) (hex : xq_exec Cq nxE Qx K' (some (.lstore k, (rpc, len, nxt), ax, vs)) L S nx h) : xq_KW p l e R s m args below meth c B D dA aI xs rows nx0 Qf pc L S nx h := by
  obtain ⟨hx, hown, hts, hKK, hIm, hok, hB, hRm, hini, hnE, hLV⟩ := Cx
  obtain ⟨ho, hpc⟩ := xq_row hok hrow
  simp only [xq_okb, xq_tm, xq_ts, xq_el, Bool.and_eq_true, Bool.or_eq_true, Bool.false_eq_true, false_or, decide_eq_true_eq, Nat.beq_eq] at ho
  intro H locs ls hR hS hl hr hn
  dsimp only at hpc
  rw [hpc]
  rcases S with _ | ⟨(a | a | a), S'⟩ <;> try exact False.elim hex
  unfold xq_exec at hex
  dsimp only at hex
  unfold xq_st2 at hex
  split at hex
  · rename_i hb
    split at hex
    · rename_i hp
      obtain ⟨⟨⟨hd, hlen⟩, hnx⟩, hz⟩ := ho
      subst hlen
      refine lv_lstore hx rfl hd (xq_ll_has hl) (by rw [← hl.2.2.1]; exact Nat.blt_eq.mp hb) rfl (fun ls' hl' => ?_)
      exact xq_fin hle (xq_nrm_s _ _ hex) hR hS (xq_store2 hl hp (xq_rv_h hr) hl') (xq_rv_t hr) hn hnx rfl
    · exact hex.elim
  · exact hex.elim

set_option maxHeartbeats 1000000 in
theorem xq_s_iconst {Cq : Nat → List xq_V → Nat → xq_H → (Option xq_V → xq_H → Prop) → Prop} {Qx : Option xq_V → xq_H → Prop} {k : Int} (Cx : xq_Cx p R s m args meth c B D dA aI xs own ini rt rows nx0 nxE LV) (hle : ∀ pc L S nx h, K' pc L S nx h → xq_KW p l e R s m args below meth c B D dA aI xs rows nx0 Qf pc L S nx h)
    (hrow : xq_at rows pc = some (.iconst k, (rpc, len, nxt), ax, vs)) (hex : xq_exec Cq nxE Qx K' (some (.iconst k, (rpc, len, nxt), ax, vs)) L S nx h) : xq_KW p l e R s m args below meth c B D dA aI xs rows nx0 Qf pc L S nx h := by
  obtain ⟨hx, hown, hts, hKK, hIm, hok, hB, hRm, hini, hnE, hLV⟩ := Cx
  obtain ⟨ho, hpc⟩ := xq_row hok hrow
  simp only [xq_okb, xq_tm, xq_ts, xq_el, Bool.and_eq_true, Bool.or_eq_true, Bool.false_eq_true, false_or, decide_eq_true_eq, Nat.beq_eq] at ho
  intro H locs ls hR hS hl hr hn
  dsimp only at hpc
  rw [hpc]
  obtain ⟨⟨⟨hd, hlen⟩, hnx⟩, hz⟩ := ho
  subst hlen
  refine lv_iconst hx rfl hd rfl ?_
  exact xq_fin hle hex hR hS hl (xq_rv_c hz hr) hn hnx rfl

set_option maxHeartbeats 1000000 in
theorem xq_s_bipush {Cq : Nat → List xq_V → Nat → xq_H → (Option xq_V → xq_H → Prop) → Prop} {Qx : Option xq_V → xq_H → Prop} {k : Int} (Cx : xq_Cx p R s m args meth c B D dA aI xs own ini rt rows nx0 nxE LV) (hle : ∀ pc L S nx h, K' pc L S nx h → xq_KW p l e R s m args below meth c B D dA aI xs rows nx0 Qf pc L S nx h)
    (hrow : xq_at rows pc = some (.bipush k, (rpc, len, nxt), ax, vs)) (hex : xq_exec Cq nxE Qx K' (some (.bipush k, (rpc, len, nxt), ax, vs)) L S nx h) : xq_KW p l e R s m args below meth c B D dA aI xs rows nx0 Qf pc L S nx h := by
  obtain ⟨hx, hown, hts, hKK, hIm, hok, hB, hRm, hini, hnE, hLV⟩ := Cx
  obtain ⟨ho, hpc⟩ := xq_row hok hrow
  simp only [xq_okb, xq_tm, xq_ts, xq_el, Bool.and_eq_true, Bool.or_eq_true, Bool.false_eq_true, false_or, decide_eq_true_eq, Nat.beq_eq] at ho
  intro H locs ls hR hS hl hr hn
  dsimp only at hpc
  rw [hpc]
  obtain ⟨⟨⟨hd, hlen⟩, hnx⟩, hz⟩ := ho
  subst hlen
  refine lv_bipush hx rfl hd hz.1 ?_
  exact xq_fin hle hex hR hS hl (xq_rv_c hz.2 hr) hn hnx rfl

set_option maxHeartbeats 1000000 in
theorem xq_s_sipush {Cq : Nat → List xq_V → Nat → xq_H → (Option xq_V → xq_H → Prop) → Prop} {Qx : Option xq_V → xq_H → Prop} {k : Int} (Cx : xq_Cx p R s m args meth c B D dA aI xs own ini rt rows nx0 nxE LV) (hle : ∀ pc L S nx h, K' pc L S nx h → xq_KW p l e R s m args below meth c B D dA aI xs rows nx0 Qf pc L S nx h)
    (hrow : xq_at rows pc = some (.sipush k, (rpc, len, nxt), ax, vs)) (hex : xq_exec Cq nxE Qx K' (some (.sipush k, (rpc, len, nxt), ax, vs)) L S nx h) : xq_KW p l e R s m args below meth c B D dA aI xs rows nx0 Qf pc L S nx h := by
  obtain ⟨hx, hown, hts, hKK, hIm, hok, hB, hRm, hini, hnE, hLV⟩ := Cx
  obtain ⟨ho, hpc⟩ := xq_row hok hrow
  simp only [xq_okb, xq_tm, xq_ts, xq_el, Bool.and_eq_true, Bool.or_eq_true, Bool.false_eq_true, false_or, decide_eq_true_eq, Nat.beq_eq] at ho
  intro H locs ls hR hS hl hr hn
  dsimp only at hpc
  rw [hpc]
  obtain ⟨⟨⟨hd, hlen⟩, hnx⟩, hz⟩ := ho
  subst hlen
  refine lv_sipush hx rfl hd hz.1 ?_
  exact xq_fin hle hex hR hS hl (xq_rv_c hz.2 hr) hn hnx rfl

set_option maxHeartbeats 1000000 in
theorem xq_s_lconst {Cq : Nat → List xq_V → Nat → xq_H → (Option xq_V → xq_H → Prop) → Prop} {Qx : Option xq_V → xq_H → Prop} {k : Fin 2} (Cx : xq_Cx p R s m args meth c B D dA aI xs own ini rt rows nx0 nxE LV) (hle : ∀ pc L S nx h, K' pc L S nx h → xq_KW p l e R s m args below meth c B D dA aI xs rows nx0 Qf pc L S nx h)
    (hrow : xq_at rows pc = some (.lconst k, (rpc, len, nxt), ax, vs)) (hex : xq_exec Cq nxE Qx K' (some (.lconst k, (rpc, len, nxt), ax, vs)) L S nx h) : xq_KW p l e R s m args below meth c B D dA aI xs rows nx0 Qf pc L S nx h := by
  obtain ⟨hx, hown, hts, hKK, hIm, hok, hB, hRm, hini, hnE, hLV⟩ := Cx
  obtain ⟨ho, hpc⟩ := xq_row hok hrow
  simp only [xq_okb, xq_tm, xq_ts, xq_el, Bool.and_eq_true, Bool.or_eq_true, Bool.false_eq_true, false_or, decide_eq_true_eq, Nat.beq_eq] at ho
  intro H locs ls hR hS hl hr hn
  dsimp only at hpc
  rw [hpc]
  obtain ⟨⟨⟨hd, hlen⟩, hnx⟩, hz⟩ := ho
  subst hlen
  subst hz
  refine lv_lconst hx rfl hd (v := Int64.ofInt (k.val : Int)) ?_ ?_
  · rcases k with ⟨_ | _ | k, hk⟩
    · rfl
    · rfl
    · omega
  · exact xq_fin hle hex hR hS hl (xq_rv_c (by show _ ∧ _; omega) hr) hn hnx rfl

set_option maxHeartbeats 1000000 in
theorem xq_s_ldc_w {Cq : Nat → List xq_V → Nat → xq_H → (Option xq_V → xq_H → Prop) → Prop} {Qx : Option xq_V → xq_H → Prop} {k : Nat} (Cx : xq_Cx p R s m args meth c B D dA aI xs own ini rt rows nx0 nxE LV) (hle : ∀ pc L S nx h, K' pc L S nx h → xq_KW p l e R s m args below meth c B D dA aI xs rows nx0 Qf pc L S nx h)
    (hrow : xq_at rows pc = some (.ldc_w k, (rpc, len, nxt), ax, vs)) (hex : xq_exec Cq nxE Qx K' (some (.ldc_w k, (rpc, len, nxt), ax, vs)) L S nx h) : xq_KW p l e R s m args below meth c B D dA aI xs rows nx0 Qf pc L S nx h := by
  obtain ⟨hx, hown, hts, hKK, hIm, hok, hB, hRm, hini, hnE, hLV⟩ := Cx
  obtain ⟨ho, hpc⟩ := xq_row hok hrow
  simp only [xq_okb, xq_tm, xq_ts, xq_el, Bool.and_eq_true, Bool.or_eq_true, Bool.false_eq_true, false_or, decide_eq_true_eq, Nat.beq_eq] at ho
  intro H locs ls hR hS hl hr hn
  dsimp only at hpc
  rw [hpc]
  rcases vs with _ | ⟨v, _ | ⟨v2, vs⟩⟩ <;> try exact False.elim hex
  rcases ax with _ | ⟨a1, _ | ⟨a2, _ | ⟨a3, ax⟩⟩⟩ <;> try (simp at ho; done)
  rcases a1 with _ | a1
  · simp only [Bool.and_eq_true, decide_eq_true_eq] at ho
    obtain ⟨⟨⟨hd, hlen⟩, hnx⟩, hz, hv⟩ := ho
    subst hlen
    refine lv_ldcw hx rfl hown (hts _ (xq_wd_in hz)) hd ?_
    exact xq_fin hle hex hR hS hl (xq_rv_c hv hr) hn hnx rfl
  · simp at ho

set_option maxHeartbeats 1000000 in
theorem xq_s_ldc2_w {Cq : Nat → List xq_V → Nat → xq_H → (Option xq_V → xq_H → Prop) → Prop} {Qx : Option xq_V → xq_H → Prop} {k : Nat} (Cx : xq_Cx p R s m args meth c B D dA aI xs own ini rt rows nx0 nxE LV) (hle : ∀ pc L S nx h, K' pc L S nx h → xq_KW p l e R s m args below meth c B D dA aI xs rows nx0 Qf pc L S nx h)
    (hrow : xq_at rows pc = some (.ldc2_w k, (rpc, len, nxt), ax, vs)) (hex : xq_exec Cq nxE Qx K' (some (.ldc2_w k, (rpc, len, nxt), ax, vs)) L S nx h) : xq_KW p l e R s m args below meth c B D dA aI xs rows nx0 Qf pc L S nx h := by
  obtain ⟨hx, hown, hts, hKK, hIm, hok, hB, hRm, hini, hnE, hLV⟩ := Cx
  obtain ⟨ho, hpc⟩ := xq_row hok hrow
  simp only [xq_okb, xq_tm, xq_ts, xq_el, Bool.and_eq_true, Bool.or_eq_true, Bool.false_eq_true, false_or, decide_eq_true_eq, Nat.beq_eq] at ho
  intro H locs ls hR hS hl hr hn
  dsimp only at hpc
  rw [hpc]
  rcases vs with _ | ⟨v, _ | ⟨v2, vs⟩⟩ <;> try exact False.elim hex
  rcases ax with _ | ⟨a1, _ | ⟨a2, ax⟩⟩ <;> try (simp at ho; done)
  simp only [Bool.and_eq_true, decide_eq_true_eq] at ho
  obtain ⟨⟨⟨hd, hlen⟩, hnx⟩, hz, hv⟩ := ho
  subst hlen
  refine lv_ldc2 hx rfl hown (hts _ (xq_wd_in hz)) hd ?_
  exact xq_fin hle hex hR hS hl (xq_rv_c hv hr) hn hnx rfl

set_option maxHeartbeats 1000000 in
theorem xq_s_ldc {Cq : Nat → List xq_V → Nat → xq_H → (Option xq_V → xq_H → Prop) → Prop} {Qx : Option xq_V → xq_H → Prop} {k : Nat} (Cx : xq_Cx p R s m args meth c B D dA aI xs own ini rt rows nx0 nxE LV) (hle : ∀ pc L S nx h, K' pc L S nx h → xq_KW p l e R s m args below meth c B D dA aI xs rows nx0 Qf pc L S nx h)
    (hrow : xq_at rows pc = some (.ldc k, (rpc, len, nxt), ax, vs)) (hex : xq_exec Cq nxE Qx K' (some (.ldc k, (rpc, len, nxt), ax, vs)) L S nx h) : xq_KW p l e R s m args below meth c B D dA aI xs rows nx0 Qf pc L S nx h := by
  obtain ⟨hx, hown, hts, hKK, hIm, hok, hB, hRm, hini, hnE, hLV⟩ := Cx
  obtain ⟨ho, hpc⟩ := xq_row hok hrow
  simp only [xq_okb, xq_tm, xq_ts, xq_el, Bool.and_eq_true, Bool.or_eq_true, Bool.false_eq_true, false_or, decide_eq_true_eq, Nat.beq_eq] at ho
  intro H locs ls hR hS hl hr hn
  dsimp only at hpc
  rw [hpc]
  unfold xq_exec at hex
  dsimp only at hex
  split at hex
  · rename_i w v
    simp only [Bool.and_eq_true, decide_eq_true_eq] at ho
    obtain ⟨⟨⟨hd, hlen⟩, hnx⟩, hz, hv⟩ := ho
    subst hlen
    refine lv_ldc hx rfl hown (hts _ (xq_wd_in hz)) hd ?_
    exact xq_fin hle hex hR hS hl (xq_rv_c hv hr) hn hnx rfl
  · rename_i a2 a3
    rcases vs with _ | ⟨v, vs⟩
    · simp only [decide_eq_true_eq] at ho
      obtain ⟨⟨⟨hd, hlen⟩, hnx⟩, hz1, hz2, hz3⟩ := ho
      subst hlen
      obtain ⟨q, hq, hq2⟩ := Option.map_eq_some_iff.mp hz1
      rw [hq] at hz2
      obtain ⟨q1, q2, q3⟩ := q
      cases hq2
      refine va_ldcS hx rfl hown (hIm.2.1 a3 _ _ q3 a2 hq hz2.symm) hd ?_
      refine xq_fin hle hex hR hS hl (xq_rv_c trivial hr) hn hnx ?_
      show Value.ref (xq_ad B aI (1100 + a2)) :: _ = _
      rw [xq_ad, if_neg (by omega)]
    · simp at ho
  · exact hex.elim

set_option maxHeartbeats 1000000 in
theorem xq_s_iadd {Cq : Nat → List xq_V → Nat → xq_H → (Option xq_V → xq_H → Prop) → Prop} {Qx : Option xq_V → xq_H → Prop} (Cx : xq_Cx p R s m args meth c B D dA aI xs own ini rt rows nx0 nxE LV) (hle : ∀ pc L S nx h, K' pc L S nx h → xq_KW p l e R s m args below meth c B D dA aI xs rows nx0 Qf pc L S nx h)
    (hrow : xq_at rows pc = some (.iadd, (rpc, len, nxt), ax, vs)) (hex : xq_exec Cq nxE Qx K' (some (.iadd, (rpc, len, nxt), ax, vs)) L S nx h) : xq_KW p l e R s m args below meth c B D dA aI xs rows nx0 Qf pc L S nx h := by
  obtain ⟨hx, hown, hts, hKK, hIm, hok, hB, hRm, hini, hnE, hLV⟩ := Cx
  obtain ⟨ho, hpc⟩ := xq_row hok hrow
  simp only [xq_okb, xq_tm, xq_ts, xq_el, Bool.and_eq_true, Bool.or_eq_true, Bool.false_eq_true, false_or, decide_eq_true_eq, Nat.beq_eq] at ho
  intro H locs ls hR hS hl hr hn
  dsimp only at hpc
  rw [hpc]
  rcases ax with _ | ⟨md, _ | ⟨a2, ax⟩⟩ <;> try exact False.elim hex
  rcases S with _ | ⟨(b | b | b), _ | ⟨(a | a | a), S'⟩⟩ <;> try exact False.elim hex
  obtain ⟨⟨⟨hd, hlen⟩, hnx⟩, hz⟩ := ho
  subst hlen
  have hb : -2147483648 ≤ b ∧ b ≤ 2147483647 := xq_rv_h hr
  have ha : -2147483648 ≤ a ∧ a ≤ 2147483647 := xq_rv_h (xq_rv_t hr)
  refine lv_iadd hx rfl hd ?_
  have hex' := xq_ari_of (K := fun x => K' nxt L (xI x :: S') nx h) (md := md) (x := a + b) hex (Int32.ofInt a + Int32.ofInt b) (by rw [Int32.toInt_add, xi_of ha, xi_of hb])
  exact xq_fin hle hex' hR hS hl (xq_rv_c (xi_rg _) (xq_rv_t (xq_rv_t hr))) hn hnx (by rw [List.map_cons, xq_cvI])

set_option maxHeartbeats 1000000 in
theorem xq_s_isub {Cq : Nat → List xq_V → Nat → xq_H → (Option xq_V → xq_H → Prop) → Prop} {Qx : Option xq_V → xq_H → Prop} (Cx : xq_Cx p R s m args meth c B D dA aI xs own ini rt rows nx0 nxE LV) (hle : ∀ pc L S nx h, K' pc L S nx h → xq_KW p l e R s m args below meth c B D dA aI xs rows nx0 Qf pc L S nx h)
    (hrow : xq_at rows pc = some (.isub, (rpc, len, nxt), ax, vs)) (hex : xq_exec Cq nxE Qx K' (some (.isub, (rpc, len, nxt), ax, vs)) L S nx h) : xq_KW p l e R s m args below meth c B D dA aI xs rows nx0 Qf pc L S nx h := by
  obtain ⟨hx, hown, hts, hKK, hIm, hok, hB, hRm, hini, hnE, hLV⟩ := Cx
  obtain ⟨ho, hpc⟩ := xq_row hok hrow
  simp only [xq_okb, xq_tm, xq_ts, xq_el, Bool.and_eq_true, Bool.or_eq_true, Bool.false_eq_true, false_or, decide_eq_true_eq, Nat.beq_eq] at ho
  intro H locs ls hR hS hl hr hn
  dsimp only at hpc
  rw [hpc]
  rcases ax with _ | ⟨md, _ | ⟨a2, ax⟩⟩ <;> try exact False.elim hex
  rcases S with _ | ⟨(b | b | b), _ | ⟨(a | a | a), S'⟩⟩ <;> try exact False.elim hex
  obtain ⟨⟨⟨hd, hlen⟩, hnx⟩, hz⟩ := ho
  subst hlen
  have hb : -2147483648 ≤ b ∧ b ≤ 2147483647 := xq_rv_h hr
  have ha : -2147483648 ≤ a ∧ a ≤ 2147483647 := xq_rv_h (xq_rv_t hr)
  refine lv_isub hx rfl hd ?_
  have hex' := xq_ari_of (K := fun x => K' nxt L (xI x :: S') nx h) (md := md) (x := a - b) hex (Int32.ofInt a - Int32.ofInt b) (by rw [Int32.toInt_sub, xi_of ha, xi_of hb])
  exact xq_fin hle hex' hR hS hl (xq_rv_c (xi_rg _) (xq_rv_t (xq_rv_t hr))) hn hnx (by rw [List.map_cons, xq_cvI])

set_option maxHeartbeats 1000000 in
theorem xq_s_imul {Cq : Nat → List xq_V → Nat → xq_H → (Option xq_V → xq_H → Prop) → Prop} {Qx : Option xq_V → xq_H → Prop} (Cx : xq_Cx p R s m args meth c B D dA aI xs own ini rt rows nx0 nxE LV) (hle : ∀ pc L S nx h, K' pc L S nx h → xq_KW p l e R s m args below meth c B D dA aI xs rows nx0 Qf pc L S nx h)
    (hrow : xq_at rows pc = some (.imul, (rpc, len, nxt), ax, vs)) (hex : xq_exec Cq nxE Qx K' (some (.imul, (rpc, len, nxt), ax, vs)) L S nx h) : xq_KW p l e R s m args below meth c B D dA aI xs rows nx0 Qf pc L S nx h := by
  obtain ⟨hx, hown, hts, hKK, hIm, hok, hB, hRm, hini, hnE, hLV⟩ := Cx
  obtain ⟨ho, hpc⟩ := xq_row hok hrow
  simp only [xq_okb, xq_tm, xq_ts, xq_el, Bool.and_eq_true, Bool.or_eq_true, Bool.false_eq_true, false_or, decide_eq_true_eq, Nat.beq_eq] at ho
  intro H locs ls hR hS hl hr hn
  dsimp only at hpc
  rw [hpc]
  rcases ax with _ | ⟨md, _ | ⟨a2, ax⟩⟩ <;> try exact False.elim hex
  rcases S with _ | ⟨(b | b | b), _ | ⟨(a | a | a), S'⟩⟩ <;> try exact False.elim hex
  obtain ⟨⟨⟨hd, hlen⟩, hnx⟩, hz⟩ := ho
  subst hlen
  have hb : -2147483648 ≤ b ∧ b ≤ 2147483647 := xq_rv_h hr
  have ha : -2147483648 ≤ a ∧ a ≤ 2147483647 := xq_rv_h (xq_rv_t hr)
  refine lv_imul hx rfl hd ?_
  have hex' := xq_ari_of (K := fun x => K' nxt L (xI x :: S') nx h) (md := md) (x := a * b) hex (Int32.ofInt a * Int32.ofInt b) (by rw [Int32.toInt_mul, xi_of ha, xi_of hb])
  exact xq_fin hle hex' hR hS hl (xq_rv_c (xi_rg _) (xq_rv_t (xq_rv_t hr))) hn hnx (by rw [List.map_cons, xq_cvI])

set_option maxHeartbeats 1000000 in
theorem xq_s_ineg {Cq : Nat → List xq_V → Nat → xq_H → (Option xq_V → xq_H → Prop) → Prop} {Qx : Option xq_V → xq_H → Prop} (Cx : xq_Cx p R s m args meth c B D dA aI xs own ini rt rows nx0 nxE LV) (hle : ∀ pc L S nx h, K' pc L S nx h → xq_KW p l e R s m args below meth c B D dA aI xs rows nx0 Qf pc L S nx h)
    (hrow : xq_at rows pc = some (.ineg, (rpc, len, nxt), ax, vs)) (hex : xq_exec Cq nxE Qx K' (some (.ineg, (rpc, len, nxt), ax, vs)) L S nx h) : xq_KW p l e R s m args below meth c B D dA aI xs rows nx0 Qf pc L S nx h := by
  obtain ⟨hx, hown, hts, hKK, hIm, hok, hB, hRm, hini, hnE, hLV⟩ := Cx
  obtain ⟨ho, hpc⟩ := xq_row hok hrow
  simp only [xq_okb, xq_tm, xq_ts, xq_el, Bool.and_eq_true, Bool.or_eq_true, Bool.false_eq_true, false_or, decide_eq_true_eq, Nat.beq_eq] at ho
  intro H locs ls hR hS hl hr hn
  dsimp only at hpc
  rw [hpc]
  rcases ax with _ | ⟨md, _ | ⟨a2, ax⟩⟩ <;> try exact False.elim hex
  rcases S with _ | ⟨(a | a | a), S'⟩ <;> try exact False.elim hex
  obtain ⟨⟨⟨hd, hlen⟩, hnx⟩, hz⟩ := ho
  subst hlen
  have ha : -2147483648 ≤ a ∧ a ≤ 2147483647 := xq_rv_h hr
  refine lv_ineg hx rfl hd ?_
  have hex' := xq_ari_of (K := fun x => K' nxt L (xI x :: S') nx h) (md := md) (x := -a) hex (-Int32.ofInt a) (by rw [Int32.toInt_neg, xi_of ha])
  exact xq_fin hle hex' hR hS hl (xq_rv_c (xi_rg _) (xq_rv_t hr)) hn hnx (by rw [List.map_cons, xq_cvI])

set_option maxHeartbeats 1000000 in
theorem xq_s_idiv {Cq : Nat → List xq_V → Nat → xq_H → (Option xq_V → xq_H → Prop) → Prop} {Qx : Option xq_V → xq_H → Prop} (Cx : xq_Cx p R s m args meth c B D dA aI xs own ini rt rows nx0 nxE LV) (hle : ∀ pc L S nx h, K' pc L S nx h → xq_KW p l e R s m args below meth c B D dA aI xs rows nx0 Qf pc L S nx h)
    (hrow : xq_at rows pc = some (.idiv, (rpc, len, nxt), ax, vs)) (hex : xq_exec Cq nxE Qx K' (some (.idiv, (rpc, len, nxt), ax, vs)) L S nx h) : xq_KW p l e R s m args below meth c B D dA aI xs rows nx0 Qf pc L S nx h := by
  obtain ⟨hx, hown, hts, hKK, hIm, hok, hB, hRm, hini, hnE, hLV⟩ := Cx
  obtain ⟨ho, hpc⟩ := xq_row hok hrow
  simp only [xq_okb, xq_tm, xq_ts, xq_el, Bool.and_eq_true, Bool.or_eq_true, Bool.false_eq_true, false_or, decide_eq_true_eq, Nat.beq_eq] at ho
  intro H locs ls hR hS hl hr hn
  dsimp only at hpc
  rw [hpc]
  rcases S with _ | ⟨(b | b | b), _ | ⟨(a | a | a), S'⟩⟩ <;> try exact False.elim hex
  obtain ⟨⟨⟨hd, hlen⟩, hnx⟩, hz⟩ := ho
  subst hlen
  have hb : -2147483648 ≤ b ∧ b ≤ 2147483647 := xq_rv_h hr
  have ha : -2147483648 ≤ a ∧ a ≤ 2147483647 := xq_rv_h (xq_rv_t hr)
  obtain ⟨h0, hex⟩ := hex
  refine lv_idiv hx rfl hd (xq_ne0 h0.2 hb.2) ?_
  rw [← xq_div h0 ha.2 hb.2] at hex
  exact xq_fin hle hex hR hS hl (xq_rv_c (xi_rg _) (xq_rv_t (xq_rv_t hr))) hn hnx (by rw [List.map_cons, xq_cvI])

set_option maxHeartbeats 1000000 in
theorem xq_s_irem {Cq : Nat → List xq_V → Nat → xq_H → (Option xq_V → xq_H → Prop) → Prop} {Qx : Option xq_V → xq_H → Prop} (Cx : xq_Cx p R s m args meth c B D dA aI xs own ini rt rows nx0 nxE LV) (hle : ∀ pc L S nx h, K' pc L S nx h → xq_KW p l e R s m args below meth c B D dA aI xs rows nx0 Qf pc L S nx h)
    (hrow : xq_at rows pc = some (.irem, (rpc, len, nxt), ax, vs)) (hex : xq_exec Cq nxE Qx K' (some (.irem, (rpc, len, nxt), ax, vs)) L S nx h) : xq_KW p l e R s m args below meth c B D dA aI xs rows nx0 Qf pc L S nx h := by
  obtain ⟨hx, hown, hts, hKK, hIm, hok, hB, hRm, hini, hnE, hLV⟩ := Cx
  obtain ⟨ho, hpc⟩ := xq_row hok hrow
  simp only [xq_okb, xq_tm, xq_ts, xq_el, Bool.and_eq_true, Bool.or_eq_true, Bool.false_eq_true, false_or, decide_eq_true_eq, Nat.beq_eq] at ho
  intro H locs ls hR hS hl hr hn
  dsimp only at hpc
  rw [hpc]
  rcases S with _ | ⟨(b | b | b), _ | ⟨(a | a | a), S'⟩⟩ <;> try exact False.elim hex
  obtain ⟨⟨⟨hd, hlen⟩, hnx⟩, hz⟩ := ho
  subst hlen
  have hb : -2147483648 ≤ b ∧ b ≤ 2147483647 := xq_rv_h hr
  have ha : -2147483648 ≤ a ∧ a ≤ 2147483647 := xq_rv_h (xq_rv_t hr)
  obtain ⟨h0, hex⟩ := hex
  refine lv_irem hx rfl hd (xq_ne0 h0.2 hb.2) ?_
  rw [← xq_rem h0 ha.2 hb.2] at hex
  exact xq_fin hle hex hR hS hl (xq_rv_c (xi_rg _) (xq_rv_t (xq_rv_t hr))) hn hnx (by rw [List.map_cons, xq_cvI])

set_option maxHeartbeats 1000000 in
theorem xq_s_ldiv {Cq : Nat → List xq_V → Nat → xq_H → (Option xq_V → xq_H → Prop) → Prop} {Qx : Option xq_V → xq_H → Prop} (Cx : xq_Cx p R s m args meth c B D dA aI xs own ini rt rows nx0 nxE LV) (hle : ∀ pc L S nx h, K' pc L S nx h → xq_KW p l e R s m args below meth c B D dA aI xs rows nx0 Qf pc L S nx h)
    (hrow : xq_at rows pc = some (.ldiv, (rpc, len, nxt), ax, vs)) (hex : xq_exec Cq nxE Qx K' (some (.ldiv, (rpc, len, nxt), ax, vs)) L S nx h) : xq_KW p l e R s m args below meth c B D dA aI xs rows nx0 Qf pc L S nx h := by
  obtain ⟨hx, hown, hts, hKK, hIm, hok, hB, hRm, hini, hnE, hLV⟩ := Cx
  obtain ⟨ho, hpc⟩ := xq_row hok hrow
  simp only [xq_okb, xq_tm, xq_ts, xq_el, Bool.and_eq_true, Bool.or_eq_true, Bool.false_eq_true, false_or, decide_eq_true_eq, Nat.beq_eq] at ho
  intro H locs ls hR hS hl hr hn
  dsimp only at hpc
  rw [hpc]
  rcases S with _ | ⟨(b | b | b), _ | ⟨(a | a | a), S'⟩⟩ <;> try exact False.elim hex
  obtain ⟨⟨⟨hd, hlen⟩, hnx⟩, hz⟩ := ho
  subst hlen
  have hb : -9223372036854775808 ≤ b ∧ b ≤ 9223372036854775807 := xq_rv_h hr
  have ha : -9223372036854775808 ≤ a ∧ a ≤ 9223372036854775807 := xq_rv_h (xq_rv_t hr)
  obtain ⟨h0, hex⟩ := hex
  refine lv_ldiv hx rfl hd (xq_ne0L h0.2 hb.2) ?_
  rw [← xq_divL h0 ha.2 hb.2] at hex
  exact xq_fin hle hex hR hS hl (xq_rv_c (xj_rg _) (xq_rv_t (xq_rv_t hr))) hn hnx (by rw [List.map_cons, xq_cvJ])

set_option maxHeartbeats 1000000 in
theorem xq_s_lrem {Cq : Nat → List xq_V → Nat → xq_H → (Option xq_V → xq_H → Prop) → Prop} {Qx : Option xq_V → xq_H → Prop} (Cx : xq_Cx p R s m args meth c B D dA aI xs own ini rt rows nx0 nxE LV) (hle : ∀ pc L S nx h, K' pc L S nx h → xq_KW p l e R s m args below meth c B D dA aI xs rows nx0 Qf pc L S nx h)
    (hrow : xq_at rows pc = some (.lrem, (rpc, len, nxt), ax, vs)) (hex : xq_exec Cq nxE Qx K' (some (.lrem, (rpc, len, nxt), ax, vs)) L S nx h) : xq_KW p l e R s m args below meth c B D dA aI xs rows nx0 Qf pc L S nx h := by
  obtain ⟨hx, hown, hts, hKK, hIm, hok, hB, hRm, hini, hnE, hLV⟩ := Cx
  obtain ⟨ho, hpc⟩ := xq_row hok hrow
  simp only [xq_okb, xq_tm, xq_ts, xq_el, Bool.and_eq_true, Bool.or_eq_true, Bool.false_eq_true, false_or, decide_eq_true_eq, Nat.beq_eq] at ho
  intro H locs ls hR hS hl hr hn
  dsimp only at hpc
  rw [hpc]
  rcases S with _ | ⟨(b | b | b), _ | ⟨(a | a | a), S'⟩⟩ <;> try exact False.elim hex
  obtain ⟨⟨⟨hd, hlen⟩, hnx⟩, hz⟩ := ho
  subst hlen
  have hb : -9223372036854775808 ≤ b ∧ b ≤ 9223372036854775807 := xq_rv_h hr
  have ha : -9223372036854775808 ≤ a ∧ a ≤ 9223372036854775807 := xq_rv_h (xq_rv_t hr)
  obtain ⟨h0, hex⟩ := hex
  refine lv_lrem hx rfl hd (xq_ne0L h0.2 hb.2) ?_
  rw [← xq_remL h0 ha.2 hb.2] at hex
  exact xq_fin hle hex hR hS hl (xq_rv_c (xj_rg _) (xq_rv_t (xq_rv_t hr))) hn hnx (by rw [List.map_cons, xq_cvJ])

set_option maxHeartbeats 1000000 in
theorem xq_s_lcmp {Cq : Nat → List xq_V → Nat → xq_H → (Option xq_V → xq_H → Prop) → Prop} {Qx : Option xq_V → xq_H → Prop} (Cx : xq_Cx p R s m args meth c B D dA aI xs own ini rt rows nx0 nxE LV) (hle : ∀ pc L S nx h, K' pc L S nx h → xq_KW p l e R s m args below meth c B D dA aI xs rows nx0 Qf pc L S nx h)
    (hrow : xq_at rows pc = some (.lcmp, (rpc, len, nxt), ax, vs)) (hex : xq_exec Cq nxE Qx K' (some (.lcmp, (rpc, len, nxt), ax, vs)) L S nx h) : xq_KW p l e R s m args below meth c B D dA aI xs rows nx0 Qf pc L S nx h := by
  obtain ⟨hx, hown, hts, hKK, hIm, hok, hB, hRm, hini, hnE, hLV⟩ := Cx
  obtain ⟨ho, hpc⟩ := xq_row hok hrow
  simp only [xq_okb, xq_tm, xq_ts, xq_el, Bool.and_eq_true, Bool.or_eq_true, Bool.false_eq_true, false_or, decide_eq_true_eq, Nat.beq_eq] at ho
  intro H locs ls hR hS hl hr hn
  dsimp only at hpc
  rw [hpc]
  rcases S with _ | ⟨(b | b | b), _ | ⟨(a | a | a), S'⟩⟩ <;> try exact False.elim hex
  obtain ⟨⟨⟨hd, hlen⟩, hnx⟩, hz⟩ := ho
  subst hlen
  have hb : -9223372036854775808 ≤ b ∧ b ≤ 9223372036854775807 := xq_rv_h hr
  have ha : -9223372036854775808 ≤ a ∧ a ≤ 9223372036854775807 := xq_rv_h (xq_rv_t hr)
  refine W.lcmp hx rfl hd ?_
  have hex' : K' nxt L (xI (lg_cmp (Int64.ofInt a) (Int64.ofInt b)).toInt :: S') nx h := by
    rw [xq_lcmp ha hb]; exact hex
  exact xq_fin hle hex' hR hS hl (xq_rv_c (xi_rg _) (xq_rv_t (xq_rv_t hr))) hn hnx (by rw [List.map_cons, xq_cvI])

set_option maxHeartbeats 1000000 in
theorem xq_s_ishl {Cq : Nat → List xq_V → Nat → xq_H → (Option xq_V → xq_H → Prop) → Prop} {Qx : Option xq_V → xq_H → Prop} (Cx : xq_Cx p R s m args meth c B D dA aI xs own ini rt rows nx0 nxE LV) (hle : ∀ pc L S nx h, K' pc L S nx h → xq_KW p l e R s m args below meth c B D dA aI xs rows nx0 Qf pc L S nx h)
    (hrow : xq_at rows pc = some (.ishl, (rpc, len, nxt), ax, vs)) (hex : xq_exec Cq nxE Qx K' (some (.ishl, (rpc, len, nxt), ax, vs)) L S nx h) : xq_KW p l e R s m args below meth c B D dA aI xs rows nx0 Qf pc L S nx h := by
  obtain ⟨hx, hown, hts, hKK, hIm, hok, hB, hRm, hini, hnE, hLV⟩ := Cx
  obtain ⟨ho, hpc⟩ := xq_row hok hrow
  simp only [xq_okb, xq_tm, xq_ts, xq_el, Bool.and_eq_true, Bool.or_eq_true, Bool.false_eq_true, false_or, decide_eq_true_eq, Nat.beq_eq] at ho
  intro H locs ls hR hS hl hr hn
  dsimp only at hpc
  rw [hpc]
  rcases S with _ | ⟨(b | b | b), _ | ⟨(a | a | a), S'⟩⟩ <;> try exact False.elim hex
  obtain ⟨⟨⟨hd, hlen⟩, hnx⟩, hz⟩ := ho
  subst hlen
  refine lv_ishl hx rfl hd ?_
  exact xq_fin hle hex hR hS hl (xq_rv_c (xi_rg _) (xq_rv_t (xq_rv_t hr))) hn hnx (by rw [List.map_cons, xq_shl, xq_cvI])

set_option maxHeartbeats 1000000 in
theorem xq_s_ishr {Cq : Nat → List xq_V → Nat → xq_H → (Option xq_V → xq_H → Prop) → Prop} {Qx : Option xq_V → xq_H → Prop} (Cx : xq_Cx p R s m args meth c B D dA aI xs own ini rt rows nx0 nxE LV) (hle : ∀ pc L S nx h, K' pc L S nx h → xq_KW p l e R s m args below meth c B D dA aI xs rows nx0 Qf pc L S nx h)
    (hrow : xq_at rows pc = some (.ishr, (rpc, len, nxt), ax, vs)) (hex : xq_exec Cq nxE Qx K' (some (.ishr, (rpc, len, nxt), ax, vs)) L S nx h) : xq_KW p l e R s m args below meth c B D dA aI xs rows nx0 Qf pc L S nx h := by
  obtain ⟨hx, hown, hts, hKK, hIm, hok, hB, hRm, hini, hnE, hLV⟩ := Cx
  obtain ⟨ho, hpc⟩ := xq_row hok hrow
  simp only [xq_okb, xq_tm, xq_ts, xq_el, Bool.and_eq_true, Bool.or_eq_true, Bool.false_eq_true, false_or, decide_eq_true_eq, Nat.beq_eq] at ho
  intro H locs ls hR hS hl hr hn
  dsimp only at hpc
  rw [hpc]
  rcases S with _ | ⟨(b | b | b), _ | ⟨(a | a | a), S'⟩⟩ <;> try exact False.elim hex
  obtain ⟨⟨⟨hd, hlen⟩, hnx⟩, hz⟩ := ho
  subst hlen
  refine lv_ishr hx rfl hd ?_
  exact xq_fin hle hex hR hS hl (xq_rv_c (xi_rg _) (xq_rv_t (xq_rv_t hr))) hn hnx (by rw [List.map_cons, xq_shr, xq_cvI])

set_option maxHeartbeats 1000000 in
theorem xq_s_iand {Cq : Nat → List xq_V → Nat → xq_H → (Option xq_V → xq_H → Prop) → Prop} {Qx : Option xq_V → xq_H → Prop} (Cx : xq_Cx p R s m args meth c B D dA aI xs own ini rt rows nx0 nxE LV) (hle : ∀ pc L S nx h, K' pc L S nx h → xq_KW p l e R s m args below meth c B D dA aI xs rows nx0 Qf pc L S nx h)
    (hrow : xq_at rows pc = some (.iand, (rpc, len, nxt), ax, vs)) (hex : xq_exec Cq nxE Qx K' (some (.iand, (rpc, len, nxt), ax, vs)) L S nx h) : xq_KW p l e R s m args below meth c B D dA aI xs rows nx0 Qf pc L S nx h := by
  obtain ⟨hx, hown, hts, hKK, hIm, hok, hB, hRm, hini, hnE, hLV⟩ := Cx
  obtain ⟨ho, hpc⟩ := xq_row hok hrow
  simp only [xq_okb, xq_tm, xq_ts, xq_el, Bool.and_eq_true, Bool.or_eq_true, Bool.false_eq_true, false_or, decide_eq_true_eq, Nat.beq_eq] at ho
  intro H locs ls hR hS hl hr hn
  dsimp only at hpc
  rw [hpc]
  rcases S with _ | ⟨(b | b | b), _ | ⟨(a | a | a), S'⟩⟩ <;> try exact False.elim hex
  obtain ⟨⟨⟨hd, hlen⟩, hnx⟩, hz⟩ := ho
  subst hlen
  refine lv_iand hx rfl hd ?_
  exact xq_fin hle hex hR hS hl (xq_rv_c (xi_rg _) (xq_rv_t (xq_rv_t hr))) hn hnx (by rw [List.map_cons, xq_and, xq_cvI])

set_option maxHeartbeats 1000000 in
theorem xq_s_ior {Cq : Nat → List xq_V → Nat → xq_H → (Option xq_V → xq_H → Prop) → Prop} {Qx : Option xq_V → xq_H → Prop} (Cx : xq_Cx p R s m args meth c B D dA aI xs own ini rt rows nx0 nxE LV) (hle : ∀ pc L S nx h, K' pc L S nx h → xq_KW p l e R s m args below meth c B D dA aI xs rows nx0 Qf pc L S nx h)
    (hrow : xq_at rows pc = some (.ior, (rpc, len, nxt), ax, vs)) (hex : xq_exec Cq nxE Qx K' (some (.ior, (rpc, len, nxt), ax, vs)) L S nx h) : xq_KW p l e R s m args below meth c B D dA aI xs rows nx0 Qf pc L S nx h := by
  obtain ⟨hx, hown, hts, hKK, hIm, hok, hB, hRm, hini, hnE, hLV⟩ := Cx
  obtain ⟨ho, hpc⟩ := xq_row hok hrow
  simp only [xq_okb, xq_tm, xq_ts, xq_el, Bool.and_eq_true, Bool.or_eq_true, Bool.false_eq_true, false_or, decide_eq_true_eq, Nat.beq_eq] at ho
  intro H locs ls hR hS hl hr hn
  dsimp only at hpc
  rw [hpc]
  rcases S with _ | ⟨(b | b | b), _ | ⟨(a | a | a), S'⟩⟩ <;> try exact False.elim hex
  obtain ⟨⟨⟨hd, hlen⟩, hnx⟩, hz⟩ := ho
  subst hlen
  refine lv_ior hx rfl hd ?_
  exact xq_fin hle hex hR hS hl (xq_rv_c (xi_rg _) (xq_rv_t (xq_rv_t hr))) hn hnx (by rw [List.map_cons, xq_or, xq_cvI])

set_option maxHeartbeats 1000000 in
theorem xq_s_ixor {Cq : Nat → List xq_V → Nat → xq_H → (Option xq_V → xq_H → Prop) → Prop} {Qx : Option xq_V → xq_H → Prop} (Cx : xq_Cx p R s m args meth c B D dA aI xs own ini rt rows nx0 nxE LV) (hle : ∀ pc L S nx h, K' pc L S nx h → xq_KW p l e R s m args below meth c B D dA aI xs rows nx0 Qf pc L S nx h)
    (hrow : xq_at rows pc = some (.ixor, (rpc, len, nxt), ax, vs)) (hex : xq_exec Cq nxE Qx K' (some (.ixor, (rpc, len, nxt), ax, vs)) L S nx h) : xq_KW p l e R s m args below meth c B D dA aI xs rows nx0 Qf pc L S nx h := by
  obtain ⟨hx, hown, hts, hKK, hIm, hok, hB, hRm, hini, hnE, hLV⟩ := Cx
  obtain ⟨ho, hpc⟩ := xq_row hok hrow
  simp only [xq_okb, xq_tm, xq_ts, xq_el, Bool.and_eq_true, Bool.or_eq_true, Bool.false_eq_true, false_or, decide_eq_true_eq, Nat.beq_eq] at ho
  intro H locs ls hR hS hl hr hn
  dsimp only at hpc
  rw [hpc]
  rcases S with _ | ⟨(b | b | b), _ | ⟨(a | a | a), S'⟩⟩ <;> try exact False.elim hex
  obtain ⟨⟨⟨hd, hlen⟩, hnx⟩, hz⟩ := ho
  subst hlen
  refine lv_ixor hx rfl hd ?_
  exact xq_fin hle hex hR hS hl (xq_rv_c (xi_rg _) (xq_rv_t (xq_rv_t hr))) hn hnx (by rw [List.map_cons, xq_xor, xq_cvI])

set_option maxHeartbeats 1000000 in
theorem xq_s_iushr {Cq : Nat → List xq_V → Nat → xq_H → (Option xq_V → xq_H → Prop) → Prop} {Qx : Option xq_V → xq_H → Prop} (Cx : xq_Cx p R s m args meth c B D dA aI xs own ini rt rows nx0 nxE LV) (hle : ∀ pc L S nx h, K' pc L S nx h → xq_KW p l e R s m args below meth c B D dA aI xs rows nx0 Qf pc L S nx h)
    (hrow : xq_at rows pc = some (.iushr, (rpc, len, nxt), ax, vs)) (hex : xq_exec Cq nxE Qx K' (some (.iushr, (rpc, len, nxt), ax, vs)) L S nx h) : xq_KW p l e R s m args below meth c B D dA aI xs rows nx0 Qf pc L S nx h := by
  obtain ⟨hx, hown, hts, hKK, hIm, hok, hB, hRm, hini, hnE, hLV⟩ := Cx
  obtain ⟨ho, hpc⟩ := xq_row hok hrow
  simp only [xq_okb, xq_tm, xq_ts, xq_el, Bool.and_eq_true, Bool.or_eq_true, Bool.false_eq_true, false_or, decide_eq_true_eq, Nat.beq_eq] at ho
  intro H locs ls hR hS hl hr hn
  dsimp only at hpc
  rw [hpc]
  rcases S with _ | ⟨(b | b | b), _ | ⟨(a | a | a), S'⟩⟩ <;> try exact False.elim hex
  obtain ⟨⟨⟨hd, hlen⟩, hnx⟩, hz⟩ := ho
  subst hlen
  refine lv_iushr hx rfl hd rfl ?_
  exact xq_fin hle hex hR hS hl (xq_rv_c (xi_rg _) (xq_rv_t (xq_rv_t hr))) hn hnx (by rw [List.map_cons, xq_ushr, xq_cvI])

set_option maxHeartbeats 1000000 in
theorem xq_s_i2l {Cq : Nat → List xq_V → Nat → xq_H → (Option xq_V → xq_H → Prop) → Prop} {Qx : Option xq_V → xq_H → Prop} (Cx : xq_Cx p R s m args meth c B D dA aI xs own ini rt rows nx0 nxE LV) (hle : ∀ pc L S nx h, K' pc L S nx h → xq_KW p l e R s m args below meth c B D dA aI xs rows nx0 Qf pc L S nx h)
    (hrow : xq_at rows pc = some (.i2l, (rpc, len, nxt), ax, vs)) (hex : xq_exec Cq nxE Qx K' (some (.i2l, (rpc, len, nxt), ax, vs)) L S nx h) : xq_KW p l e R s m args below meth c B D dA aI xs rows nx0 Qf pc L S nx h := by
  obtain ⟨hx, hown, hts, hKK, hIm, hok, hB, hRm, hini, hnE, hLV⟩ := Cx
  obtain ⟨ho, hpc⟩ := xq_row hok hrow
  simp only [xq_okb, xq_tm, xq_ts, xq_el, Bool.and_eq_true, Bool.or_eq_true, Bool.false_eq_true, false_or, decide_eq_true_eq, Nat.beq_eq] at ho
  intro H locs ls hR hS hl hr hn
  dsimp only at hpc
  rw [hpc]
  rcases S with _ | ⟨(a | a | a), S'⟩ <;> try exact False.elim hex
  obtain ⟨⟨⟨hd, hlen⟩, hnx⟩, hz⟩ := ho
  subst hlen
  have ha : -2147483648 ≤ a ∧ a ≤ 2147483647 := xq_rv_h hr
  refine lv_i2l hx rfl hd (v := Int64.ofInt a) ?_ ?_
  · rw [← Int64.toInt_inj, Int32.toInt_toInt64, xi_of ha, xj_of (by omega)]
  · exact xq_fin hle hex hR hS hl (xq_rv_c (by show _ ∧ _; omega) (xq_rv_t hr)) hn hnx rfl

set_option maxHeartbeats 1000000 in
theorem xq_s_i2c {Cq : Nat → List xq_V → Nat → xq_H → (Option xq_V → xq_H → Prop) → Prop} {Qx : Option xq_V → xq_H → Prop} (Cx : xq_Cx p R s m args meth c B D dA aI xs own ini rt rows nx0 nxE LV) (hle : ∀ pc L S nx h, K' pc L S nx h → xq_KW p l e R s m args below meth c B D dA aI xs rows nx0 Qf pc L S nx h)
    (hrow : xq_at rows pc = some (.i2c, (rpc, len, nxt), ax, vs)) (hex : xq_exec Cq nxE Qx K' (some (.i2c, (rpc, len, nxt), ax, vs)) L S nx h) : xq_KW p l e R s m args below meth c B D dA aI xs rows nx0 Qf pc L S nx h := by
  obtain ⟨hx, hown, hts, hKK, hIm, hok, hB, hRm, hini, hnE, hLV⟩ := Cx
  obtain ⟨ho, hpc⟩ := xq_row hok hrow
  simp only [xq_okb, xq_tm, xq_ts, xq_el, Bool.and_eq_true, Bool.or_eq_true, Bool.false_eq_true, false_or, decide_eq_true_eq, Nat.beq_eq] at ho
  intro H locs ls hR hS hl hr hn
  dsimp only at hpc
  rw [hpc]
  rcases S with _ | ⟨(a | a | a), S'⟩ <;> try exact False.elim hex
  obtain ⟨⟨⟨hd, hlen⟩, hnx⟩, hz⟩ := ho
  subst hlen
  have ha : -2147483648 ≤ a ∧ a ≤ 2147483647 := xq_rv_h hr
  obtain ⟨h0, hex⟩ := hex
  refine lv_i2c hx rfl hd (v := Int32.ofInt a) ?_ ?_
  · obtain ⟨n, rfl⟩ := Int.eq_ofNat_of_zero_le h0.1
    have hn2 : n < 65536 := by omega
    rw [pk_char]
    show nI _ = nI n
    have e : (Int32.ofInt (n : Int)).toBitVec.toNat = n := pk_tn (n := n) (by omega)
    rw [e, Nat.mod_eq_of_lt hn2]
  · exact xq_fin hle hex hR hS hl (xq_rv_c ha (xq_rv_t hr)) hn hnx rfl

set_option maxHeartbeats 1000000 in
theorem xq_s_i2b {Cq : Nat → List xq_V → Nat → xq_H → (Option xq_V → xq_H → Prop) → Prop} {Qx : Option xq_V → xq_H → Prop} (Cx : xq_Cx p R s m args meth c B D dA aI xs own ini rt rows nx0 nxE LV) (hle : ∀ pc L S nx h, K' pc L S nx h → xq_KW p l e R s m args below meth c B D dA aI xs rows nx0 Qf pc L S nx h)
    (hrow : xq_at rows pc = some (.i2b, (rpc, len, nxt), ax, vs)) (hex : xq_exec Cq nxE Qx K' (some (.i2b, (rpc, len, nxt), ax, vs)) L S nx h) : xq_KW p l e R s m args below meth c B D dA aI xs rows nx0 Qf pc L S nx h := by
  obtain ⟨hx, hown, hts, hKK, hIm, hok, hB, hRm, hini, hnE, hLV⟩ := Cx
  obtain ⟨ho, hpc⟩ := xq_row hok hrow
  simp only [xq_okb, xq_tm, xq_ts, xq_el, Bool.and_eq_true, Bool.or_eq_true, Bool.false_eq_true, false_or, decide_eq_true_eq, Nat.beq_eq] at ho
  intro H locs ls hR hS hl hr hn
  dsimp only at hpc
  rw [hpc]
  rcases S with _ | ⟨(a | a | a), S'⟩ <;> try exact False.elim hex
  obtain ⟨⟨⟨hd, hlen⟩, hnx⟩, hz⟩ := ho
  subst hlen
  have ha : -2147483648 ≤ a ∧ a ≤ 2147483647 := xq_rv_h hr
  obtain ⟨h0, hex⟩ := hex
  refine lv_i2b hx rfl hd (v := Int32.ofInt a) ?_ ?_
  · rw [← Int32.toInt_inj, Int8.toInt_toInt32, Int32.toInt_toInt8, xi_of ha, Int.bmod_def]
    split <;> omega
  · exact xq_fin hle hex hR hS hl (xq_rv_c ha (xq_rv_t hr)) hn hnx rfl

set_option maxHeartbeats 1000000 in
theorem xq_s_dup {Cq : Nat → List xq_V → Nat → xq_H → (Option xq_V → xq_H → Prop) → Prop} {Qx : Option xq_V → xq_H → Prop} (Cx : xq_Cx p R s m args meth c B D dA aI xs own ini rt rows nx0 nxE LV) (hle : ∀ pc L S nx h, K' pc L S nx h → xq_KW p l e R s m args below meth c B D dA aI xs rows nx0 Qf pc L S nx h)
    (hrow : xq_at rows pc = some (.dup, (rpc, len, nxt), ax, vs)) (hex : xq_exec Cq nxE Qx K' (some (.dup, (rpc, len, nxt), ax, vs)) L S nx h) : xq_KW p l e R s m args below meth c B D dA aI xs rows nx0 Qf pc L S nx h := by
  obtain ⟨hx, hown, hts, hKK, hIm, hok, hB, hRm, hini, hnE, hLV⟩ := Cx
  obtain ⟨ho, hpc⟩ := xq_row hok hrow
  simp only [xq_okb, xq_tm, xq_ts, xq_el, Bool.and_eq_true, Bool.or_eq_true, Bool.false_eq_true, false_or, decide_eq_true_eq, Nat.beq_eq] at ho
  intro H locs ls hR hS hl hr hn
  dsimp only at hpc
  rw [hpc]
  rcases S with _ | ⟨(a | a | a), S'⟩ <;> try exact False.elim hex
  · obtain ⟨⟨⟨hd, hlen⟩, hnx⟩, hz⟩ := ho
    subst hlen
    refine lv_dup hx rfl hd rfl ?_
    exact xq_fin hle hex hR hS hl (xq_rv_c (xq_rv_h hr) hr) hn hnx rfl
  · obtain ⟨⟨⟨hd, hlen⟩, hnx⟩, hz⟩ := ho
    subst hlen
    refine lv_dup hx rfl hd rfl ?_
    exact xq_fin hle hex hR hS hl (xq_rv_c (xq_rv_h hr) hr) hn hnx rfl

set_option maxHeartbeats 1000000 in
theorem xq_s_dup2 {Cq : Nat → List xq_V → Nat → xq_H → (Option xq_V → xq_H → Prop) → Prop} {Qx : Option xq_V → xq_H → Prop} (Cx : xq_Cx p R s m args meth c B D dA aI xs own ini rt rows nx0 nxE LV) (hle : ∀ pc L S nx h, K' pc L S nx h → xq_KW p l e R s m args below meth c B D dA aI xs rows nx0 Qf pc L S nx h)
    (hrow : xq_at rows pc = some (.dup2, (rpc, len, nxt), ax, vs)) (hex : xq_exec Cq nxE Qx K' (some (.dup2, (rpc, len, nxt), ax, vs)) L S nx h) : xq_KW p l e R s m args below meth c B D dA aI xs rows nx0 Qf pc L S nx h := by
  obtain ⟨hx, hown, hts, hKK, hIm, hok, hB, hRm, hini, hnE, hLV⟩ := Cx
  obtain ⟨ho, hpc⟩ := xq_row hok hrow
  simp only [xq_okb, xq_tm, xq_ts, xq_el, Bool.and_eq_true, Bool.or_eq_true, Bool.false_eq_true, false_or, decide_eq_true_eq, Nat.beq_eq] at ho
  intro H locs ls hR hS hl hr hn
  dsimp only at hpc
  rw [hpc]
  rcases S with _ | ⟨(b | b | b), _ | ⟨(a | a | a), S'⟩⟩ <;> try exact False.elim hex
  obtain ⟨⟨⟨hd, hlen⟩, hnx⟩, hz⟩ := ho
  subst hlen
  refine lv_dup2_11 hx rfl hd rfl rfl ?_
  exact xq_fin hle hex hR hS hl (xq_rv_c (xq_rv_h hr) (xq_rv_c (xq_rv_h (xq_rv_t hr)) hr)) hn hnx rfl

set_option maxHeartbeats 1000000 in
theorem xq_s_pop {Cq : Nat → List xq_V → Nat → xq_H → (Option xq_V → xq_H → Prop) → Prop} {Qx : Option xq_V → xq_H → Prop} (Cx : xq_Cx p R s m args meth c B D dA aI xs own ini rt rows nx0 nxE LV) (hle : ∀ pc L S nx h, K' pc L S nx h → xq_KW p l e R s m args below meth c B D dA aI xs rows nx0 Qf pc L S nx h)
    (hrow : xq_at rows pc = some (.pop, (rpc, len, nxt), ax, vs)) (hex : xq_exec Cq nxE Qx K' (some (.pop, (rpc, len, nxt), ax, vs)) L S nx h) : xq_KW p l e R s m args below meth c B D dA aI xs rows nx0 Qf pc L S nx h := by
  obtain ⟨hx, hown, hts, hKK, hIm, hok, hB, hRm, hini, hnE, hLV⟩ := Cx
  obtain ⟨ho, hpc⟩ := xq_row hok hrow
  simp only [xq_okb, xq_tm, xq_ts, xq_el, Bool.and_eq_true, Bool.or_eq_true, Bool.false_eq_true, false_or, decide_eq_true_eq, Nat.beq_eq] at ho
  intro H locs ls hR hS hl hr hn
  dsimp only at hpc
  rw [hpc]
  rcases S with _ | ⟨(a | a | a), S'⟩ <;> try exact False.elim hex
  · obtain ⟨⟨⟨hd, hlen⟩, hnx⟩, hz⟩ := ho
    subst hlen
    refine lv_pop hx rfl hd rfl ?_
    exact xq_fin hle hex hR hS hl (xq_rv_t hr) hn hnx rfl
  · obtain ⟨⟨⟨hd, hlen⟩, hnx⟩, hz⟩ := ho
    subst hlen
    refine lv_pop hx rfl hd rfl ?_
    exact xq_fin hle hex hR hS hl (xq_rv_t hr) hn hnx rfl

set_option maxHeartbeats 1000000 in
theorem xq_s_iinc {Cq : Nat → List xq_V → Nat → xq_H → (Option xq_V → xq_H → Prop) → Prop} {Qx : Option xq_V → xq_H → Prop} {k : Nat} {d : Int} (Cx : xq_Cx p R s m args meth c B D dA aI xs own ini rt rows nx0 nxE LV) (hle : ∀ pc L S nx h, K' pc L S nx h → xq_KW p l e R s m args below meth c B D dA aI xs rows nx0 Qf pc L S nx h)
    (hrow : xq_at rows pc = some (.iinc k d, (rpc, len, nxt), ax, vs)) (hex : xq_exec Cq nxE Qx K' (some (.iinc k d, (rpc, len, nxt), ax, vs)) L S nx h) : xq_KW p l e R s m args below meth c B D dA aI xs rows nx0 Qf pc L S nx h := by
  obtain ⟨hx, hown, hts, hKK, hIm, hok, hB, hRm, hini, hnE, hLV⟩ := Cx
  obtain ⟨ho, hpc⟩ := xq_row hok hrow
  simp only [xq_okb, xq_tm, xq_ts, xq_el, Bool.and_eq_true, Bool.or_eq_true, Bool.false_eq_true, false_or, decide_eq_true_eq, Nat.beq_eq] at ho
  intro H locs ls hR hS hl hr hn
  dsimp only at hpc
  rw [hpc]
  unfold xq_exec at hex
  dsimp only at hex
  split at hex
  · rename_i i hg
    obtain ⟨⟨⟨hd, hlen⟩, hnx⟩, hz⟩ := ho
    subst hlen
    have hi : -2147483648 ≤ i ∧ i ≤ 2147483647 := (hl.2.2.2 _ _ hg).2
    have hex' := xq_ari_of hex (Int32.ofInt i + Int32.ofInt d) (by rw [Int32.toInt_add, xi_of hi, xi_of hz])
    unfold xq_st at hex'
    split at hex'
    · rename_i hb
      split at hex'
      · rename_i hp
        have hk : k < c.maxLocals := by rw [← hl.2.2.1]; exact Nat.blt_eq.mp hb
        obtain ⟨j, hj⟩ := List.getElem?_of_mem ((xq_ll_mem (B := B) (aI := aI) (n := c.maxLocals) (L := L) (k, xq_cv B aI (xI i))).mpr ⟨_, hk, hg, rfl⟩)
        refine lv_iinc hx rfl hd (xq_ll_has hl) hj rfl hk rfl (fun ls' hl' => ?_)
        exact xq_fin hle (xq_nrm_s _ _ hex') hR hS (xq_store1 hl hp (xi_rg _) (by rw [xq_cvI]; exact hl')) hr hn hnx rfl
      · exact hex'.elim
    · exact hex'.elim
  · exact hex.elim

set_option maxHeartbeats 1000000 in
theorem xq_s_goto {Cq : Nat → List xq_V → Nat → xq_H → (Option xq_V → xq_H → Prop) → Prop} {Qx : Option xq_V → xq_H → Prop} {off : Int} (Cx : xq_Cx p R s m args meth c B D dA aI xs own ini rt rows nx0 nxE LV) (hle : ∀ pc L S nx h, K' pc L S nx h → xq_KW p l e R s m args below meth c B D dA aI xs rows nx0 Qf pc L S nx h)
    (hrow : xq_at rows pc = some (.goto off, (rpc, len, nxt), ax, vs)) (hex : xq_exec Cq nxE Qx K' (some (.goto off, (rpc, len, nxt), ax, vs)) L S nx h) : xq_KW p l e R s m args below meth c B D dA aI xs rows nx0 Qf pc L S nx h := by
  obtain ⟨hx, hown, hts, hKK, hIm, hok, hB, hRm, hini, hnE, hLV⟩ := Cx
  obtain ⟨ho, hpc⟩ := xq_row hok hrow
  simp only [xq_okb, xq_tm, xq_ts, xq_el, Bool.and_eq_true, Bool.or_eq_true, Bool.false_eq_true, false_or, decide_eq_true_eq, Nat.beq_eq] at ho
  intro H locs ls hR hS hl hr hn
  dsimp only at hpc
  rw [hpc]
  rcases ax with _ | ⟨t, _ | ⟨a2, ax⟩⟩ <;> try exact False.elim hex
  obtain ⟨⟨⟨hd, hlen⟩, -⟩, hz⟩ := ho
  subst hlen
  refine lv_goto hx rfl hd (of_decide_eq_true hz) ?_
  exact xq_fin hle hex hR hS hl hr hn rfl rfl

set_option maxHeartbeats 1000000 in
theorem xq_s_ifCond {Cq : Nat → List xq_V → Nat → xq_H → (Option xq_V → xq_H → Prop) → Prop} {Qx : Option xq_V → xq_H → Prop} {cnd : ClassFile.Cond} {off : Int} (Cx : xq_Cx p R s m args meth c B D dA aI xs own ini rt rows nx0 nxE LV) (hle : ∀ pc L S nx h, K' pc L S nx h → xq_KW p l e R s m args below meth c B D dA aI xs rows nx0 Qf pc L S nx h)
    (hrow : xq_at rows pc = some (.ifCond cnd off, (rpc, len, nxt), ax, vs)) (hex : xq_exec Cq nxE Qx K' (some (.ifCond cnd off, (rpc, len, nxt), ax, vs)) L S nx h) : xq_KW p l e R s m args below meth c B D dA aI xs rows nx0 Qf pc L S nx h := by
  obtain ⟨hx, hown, hts, hKK, hIm, hok, hB, hRm, hini, hnE, hLV⟩ := Cx
  obtain ⟨ho, hpc⟩ := xq_row hok hrow
  simp only [xq_okb, xq_tm, xq_ts, xq_el, Bool.and_eq_true, Bool.or_eq_true, Bool.false_eq_true, false_or, decide_eq_true_eq, Nat.beq_eq] at ho
  intro H locs ls hR hS hl hr hn
  dsimp only at hpc
  rw [hpc]
  rcases ax with _ | ⟨t, _ | ⟨a2, ax⟩⟩ <;> try exact False.elim hex
  rcases S with _ | ⟨(a | a | a), S'⟩ <;> try exact False.elim hex
  obtain ⟨⟨⟨hd, hlen⟩, hnx⟩, hz⟩ := ho
  subst hlen
  have ha : -2147483648 ≤ a ∧ a ≤ 2147483647 := xq_rv_h hr
  have hr' := xq_rv_t hr
  have e0 : Int32.ofInt 0 = 0 := rfl
  have z0 : -2147483648 ≤ (0 : Int) ∧ (0 : Int) ≤ 2147483647 := by omega
  cases cnd
  · refine lv_if_eq hx rfl hd (of_decide_eq_true hz) (fun q => xq_fin hle (hex.1 ((xq_eqI ha z0).mp q)) hR hS hl hr' hn rfl rfl) (fun q => xq_fin hle (hex.2 (fun z => q ((xq_eqI ha z0).mpr z))) hR hS hl hr' hn hnx rfl)
  · refine lv_if_ne hx rfl hd (of_decide_eq_true hz) (fun q => xq_fin hle (hex.1 (fun z => q ((xq_eqI ha z0).mpr z))) hR hS hl hr' hn rfl rfl) (fun q => xq_fin hle (hex.2 ((xq_eqI ha z0).mp q)) hR hS hl hr' hn hnx rfl)
  · refine lv_if_lt hx rfl hd (of_decide_eq_true hz) (fun q => xq_fin hle (hex.1 ((xq_ltI ha z0).mp q)) hR hS hl hr' hn rfl rfl) (fun q => xq_fin hle (hex.2 (fun z => q ((xq_ltI ha z0).mpr z))) hR hS hl hr' hn hnx rfl)
  · refine lv_if_ge hx rfl hd (of_decide_eq_true hz) (fun q => xq_fin hle (hex.1 (fun z => absurd ((xq_leI z0 ha).mp q) (by omega))) hR hS hl hr' hn rfl rfl) (fun q => xq_fin hle (hex.2 (Int.not_le.mp (fun z => q ((xq_leI z0 ha).mpr z)))) hR hS hl hr' hn hnx rfl)
  · refine lv_if_gt hx rfl hd (of_decide_eq_true hz) (fun q => xq_fin hle (hex.1 ((xq_ltI z0 ha).mp q)) hR hS hl hr' hn rfl rfl) (fun q => xq_fin hle (hex.2 (fun z => q ((xq_ltI z0 ha).mpr z))) hR hS hl hr' hn hnx rfl)
  · refine lv_if_le hx rfl hd (of_decide_eq_true hz) (fun q => xq_fin hle (hex.1 (fun z => absurd ((xq_leI ha z0).mp q) (by omega))) hR hS hl hr' hn rfl rfl) (fun q => xq_fin hle (hex.2 (Int.not_le.mp (fun z => q ((xq_leI ha z0).mpr z)))) hR hS hl hr' hn hnx rfl)

set_option maxHeartbeats 1000000 in
theorem xq_s_if_icmp {Cq : Nat → List xq_V → Nat → xq_H → (Option xq_V → xq_H → Prop) → Prop} {Qx : Option xq_V → xq_H → Prop} {cnd : ClassFile.Cond} {off : Int} (Cx : xq_Cx p R s m args meth c B D dA aI xs own ini rt rows nx0 nxE LV) (hle : ∀ pc L S nx h, K' pc L S nx h → xq_KW p l e R s m args below meth c B D dA aI xs rows nx0 Qf pc L S nx h)
    (hrow : xq_at rows pc = some (.if_icmp cnd off, (rpc, len, nxt), ax, vs)) (hex : xq_exec Cq nxE Qx K' (some (.if_icmp cnd off, (rpc, len, nxt), ax, vs)) L S nx h) : xq_KW p l e R s m args below meth c B D dA aI xs rows nx0 Qf pc L S nx h := by
  obtain ⟨hx, hown, hts, hKK, hIm, hok, hB, hRm, hini, hnE, hLV⟩ := Cx
  obtain ⟨ho, hpc⟩ := xq_row hok hrow
  simp only [xq_okb, xq_tm, xq_ts, xq_el, Bool.and_eq_true, Bool.or_eq_true, Bool.false_eq_true, false_or, decide_eq_true_eq, Nat.beq_eq] at ho
  intro H locs ls hR hS hl hr hn
  dsimp only at hpc
  rw [hpc]
  rcases ax with _ | ⟨t, _ | ⟨a2, ax⟩⟩ <;> try exact False.elim hex
  rcases S with _ | ⟨(b | b | b), _ | ⟨(a | a | a), S'⟩⟩ <;> try exact False.elim hex
  obtain ⟨⟨⟨hd, hlen⟩, hnx⟩, hz⟩ := ho
  subst hlen
  have hb : -2147483648 ≤ b ∧ b ≤ 2147483647 := xq_rv_h hr
  have ha : -2147483648 ≤ a ∧ a ≤ 2147483647 := xq_rv_h (xq_rv_t hr)
  have hr' := xq_rv_t (xq_rv_t hr)
  cases cnd
  · refine lv_icmp_eq hx rfl hd (of_decide_eq_true hz) (fun q => xq_fin hle (hex.1 ((xq_eqI ha hb).mp q)) hR hS hl hr' hn rfl rfl) (fun q => xq_fin hle (hex.2 (fun z => q ((xq_eqI ha hb).mpr z))) hR hS hl hr' hn hnx rfl)
  · refine lv_icmp_ne hx rfl hd (of_decide_eq_true hz) (fun q => xq_fin hle (hex.1 (fun z => q ((xq_eqI ha hb).mpr z))) hR hS hl hr' hn rfl rfl) (fun q => xq_fin hle (hex.2 ((xq_eqI ha hb).mp q)) hR hS hl hr' hn hnx rfl)
  · refine lv_icmp_lt hx rfl hd (of_decide_eq_true hz) (fun q => xq_fin hle (hex.1 ((xq_ltI ha hb).mp q)) hR hS hl hr' hn rfl rfl) (fun q => xq_fin hle (hex.2 (fun z => q ((xq_ltI ha hb).mpr z))) hR hS hl hr' hn hnx rfl)
  · refine lv_icmp_ge hx rfl hd (of_decide_eq_true hz) (fun q => xq_fin hle (hex.1 (fun z => absurd ((xq_leI hb ha).mp q) (by omega))) hR hS hl hr' hn rfl rfl) (fun q => xq_fin hle (hex.2 (Int.not_le.mp (fun z => q ((xq_leI hb ha).mpr z)))) hR hS hl hr' hn hnx rfl)
  · refine lv_icmp_gt hx rfl hd (of_decide_eq_true hz) (fun q => xq_fin hle (hex.1 ((xq_ltI hb ha).mp q)) hR hS hl hr' hn rfl rfl) (fun q => xq_fin hle (hex.2 (fun z => q ((xq_ltI hb ha).mpr z))) hR hS hl hr' hn hnx rfl)
  · refine lv_icmp_le hx rfl hd (of_decide_eq_true hz) (fun q => xq_fin hle (hex.1 (fun z => absurd ((xq_leI ha hb).mp q) (by omega))) hR hS hl hr' hn rfl rfl) (fun q => xq_fin hle (hex.2 (Int.not_le.mp (fun z => q ((xq_leI ha hb).mpr z)))) hR hS hl hr' hn hnx rfl)

set_option maxHeartbeats 1000000 in
theorem xq_s_getfield {Cq : Nat → List xq_V → Nat → xq_H → (Option xq_V → xq_H → Prop) → Prop} {Qx : Option xq_V → xq_H → Prop} {k : Nat} (Cx : xq_Cx p R s m args meth c B D dA aI xs own ini rt rows nx0 nxE LV) (hle : ∀ pc L S nx h, K' pc L S nx h → xq_KW p l e R s m args below meth c B D dA aI xs rows nx0 Qf pc L S nx h)
    (hrow : xq_at rows pc = some (.getfield k, (rpc, len, nxt), ax, vs)) (hex : xq_exec Cq nxE Qx K' (some (.getfield k, (rpc, len, nxt), ax, vs)) L S nx h) : xq_KW p l e R s m args below meth c B D dA aI xs rows nx0 Qf pc L S nx h := by
  obtain ⟨hx, hown, hts, hKK, hIm, hok, hB, hRm, hini, hnE, hLV⟩ := Cx
  obtain ⟨ho, hpc⟩ := xq_row hok hrow
  simp only [xq_okb, xq_tm, xq_ts, xq_el, Bool.and_eq_true, Bool.or_eq_true, Bool.false_eq_true, false_or, decide_eq_true_eq, Nat.beq_eq] at ho
  intro H locs ls hR hS hl hr hn
  dsimp only at hpc
  rw [hpc]
  rcases ax with _ | ⟨kind, _ | ⟨ci, _ | ⟨fk, _ | ⟨wi, _ | ⟨a5, ax⟩⟩⟩⟩⟩ <;> try exact False.elim hex
  all_goals rcases vs with _ | ⟨kI, _ | ⟨v2, vs⟩⟩ <;> try exact False.elim hex
  all_goals rcases S with _ | ⟨(o | o | o), S'⟩ <;> try exact False.elim hex
  obtain ⟨⟨⟨hd, hlen⟩, hnx⟩, hz⟩ := ho
  subst hlen
  have hr' := xq_rv_t hr
  replace hz : (decide (kI = (fk : Int)) && xq_okg own k kind ci fk wi) = true := hz
  rw [Bool.and_eq_true] at hz
  obtain ⟨hkI, hz⟩ := hz
  replace hkI := of_decide_eq_true hkI
  replace hex : xq_gf kind ci fk kI nx h o (fun v => K' nxt L (v :: S') nx h) := hex
  unfold xq_gf at hex
  rw [hkI] at hex
  split at hex
  · split at hex
    · rename_i hb
      rw [Bool.and_eq_true, Nat.ble_eq, Nat.ble_eq] at hb
      obtain ⟨i, rfl⟩ : ∃ i, o = 1100 + i := ⟨o - 1100, by omega⟩
      have e : xq_cv B aI (xR (1100 + i)) = .ref (aI (1100 + i)) := by show Value.ref (xq_ad B aI _) = _; rw [xq_ad, if_neg (by omega)]
      rw [List.map_cons, e]
      refine vk_getf hx rfl (hIm.1.1 i (by omega)).2.1 hS hown (hts _ (xq_wd_in hz)) (fun _ z => z) hd ?_
      exact xq_fin hle hex hR hS hl (xq_rv_c (by show _ ∧ _; omega) hr') hn hnx rfl
    · exact hex.elim
  · split at hex
    · rename_i hb
      rw [Bool.and_eq_true, Nat.ble_eq, Nat.ble_eq] at hb
      obtain ⟨i, rfl⟩ : ∃ i, o = 1100 + i := ⟨o - 1100, by omega⟩
      have e : xq_cv B aI (xR (1100 + i)) = .ref (aI (1100 + i)) := by show Value.ref (xq_ad B aI _) = _; rw [xq_ad, if_neg (by omega)]
      rw [List.map_cons, e]
      refine vk_getf hx rfl (hIm.1.1 i (by omega)).2.2.1 hS hown (hts _ (xq_wd_in hz)) (fun _ z => z) hd ?_
      refine xq_fin hle hex hR hS hl (xq_rv_c trivial hr') hn hnx ?_
      show Value.ref (xq_ad B aI _) :: _ = _
      rw [xq_ad, if_neg (by omega), show 1100 + i + 100 = 1200 + i by omega]
    · exact hex.elim
  · rename_i n4 n5
    split at hex
    · rename_i ci' hcls
      split at hex
      · rename_i hb
        rw [Bool.and_eq_true, Nat.beq_eq, Nat.blt_eq] at hb
        obtain ⟨rfl, hoN⟩ := hb
        have hz' : xq_okf own k kind ci fk wi = true := by
          unfold xq_okg at hz
          split at hz
          · exact absurd rfl n4
          · exact absurd rfl n5
          · exact hz
        unfold xq_okf at hz'
        split at hz'
        · rename_i C T N hcl
          rw [Bool.and_eq_true, Bool.and_eq_true, Nat.blt_eq, Nat.beq_eq] at hz'
          obtain ⟨⟨hfN, hfk⟩, hwi⟩ := hz'
          obtain ⟨ty, hin, hty, hnm, hnf, hkd⟩ := xq_cls_ok hcl
          dsimp only at hin hty hnm hnf hkd
          have hci : ci < 11 := (List.getElem?_eq_some_iff.mp hcl).1
          have ho80 : o < 80 := xq_cls_lt hcls (fun z => by cases z; omega)
          have ha := xq_ws_at B dA h hoN ho80
          have hce : xq_ce B dA h o = .inr (ci, xq_fs B h o ci) := by unfold xq_ce; rw [hcls]
          rw [hce] at ha
          have hv : (xq_fs B h o ci)[fk]? = some (xq_fv B h o ci fk) := by
            unfold xq_fs
            rw [hnf, List.getElem?_map, List.getElem?_range hfN]
            rfl
          have ead : xq_cv B aI (xR o) = .ref (B + o) := by show Value.ref (xq_ad B aI _) = _; rw [xq_ad, if_pos (by omega)]
          rw [List.map_cons, ead]
          refine va_get (T := T) (N := N) (C := C) (ci := ci) hx rfl hts hin hown hKK hR.1 o ha hcl fk hfN (hts _ (xq_wd_in hwi)) (fun _ z => z) hv hd ?_
          have hrg := hR.2.2.1 o (fk : Int)
          have hf2 : xq_fv B h o ci fk = (if kind = 0 ∨ kind = 1 then .int (Int32.ofInt (h o fk)) else if h o fk = 0 then .null else .ref (B + (h o fk - 1).toNat)) := by
            unfold xq_fv
            rw [hfk]
            split
            · rfl
            · rfl
            · rename_i q0 q1
              rw [if_neg (show ¬ (kind = 0 ∨ kind = 1) from fun z => z.elim (fun w => q0 w) (fun w => q1 w))]
          rw [hf2]
          split at hex
          · obtain ⟨hex, hrf⟩ := xq_lit_s _ hex
            · rw [if_neg (by decide)]
              have hk1 : h o fk = (xq_rf o fk : Int) + 1 ∧ K' nxt L (xR (xq_rf o fk) :: S') nx h := by
                split at hex
                · rename_i h80
                  rw [Nat.beq_eq] at h80
                  exact ⟨hR.2.2.2.1 h80 o ci fk ho80 hcls hfk, hex⟩
                · exact hex
              obtain ⟨h1, hex⟩ := hk1
              rw [h1, if_neg (by omega)]
              refine xq_fin hle hex hR hS hl (xq_rv_c trivial hr') hn hnx ?_
              show Value.ref (xq_ad B aI _) :: _ = _
              rw [xq_ad, if_pos (by omega)]
              congr 3
              omega
          · obtain ⟨t, h1, h2, hex⟩ := hex
            rw [if_neg (by decide), h1, if_neg (by omega)]
            refine xq_fin hle hex hR hS hl (xq_rv_c trivial hr') hn hnx ?_
            show Value.ref (xq_ad B aI _) :: _ = _
            rw [xq_ad, if_pos (by omega)]
            congr 3
            omega
          · rename_i q2 q3
            have hk01 : kind = 0 ∨ kind = 1 := by
              rcases hkd fk hfN with z | z | z
              · left; rw [← hfk]; exact z.1
              · right; rw [← hfk]; exact z.1
              · rcases z.1 with z | z
                · exact absurd (hfk.symm.trans z) (fun w => q2 w)
                · exact absurd (hfk.symm.trans z) (fun w => q3 w)
            rw [if_pos hk01]
            exact xq_fin hle hex hR hS hl (xq_rv_c hrg hr') hn hnx rfl
        · exact absurd hz' (by decide)
      · exact hex.elim
    · exact hex.elim

set_option maxHeartbeats 1000000 in
theorem xq_s_getstatic {Cq : Nat → List xq_V → Nat → xq_H → (Option xq_V → xq_H → Prop) → Prop} {Qx : Option xq_V → xq_H → Prop} {k : Nat} (Cx : xq_Cx p R s m args meth c B D dA aI xs own ini rt rows nx0 nxE LV) (hno : xq_no3 rows = true) (hle : ∀ pc L S nx h, K' pc L S nx h → xq_KW p l e R s m args below meth c B D dA aI xs rows nx0 Qf pc L S nx h)
    (hrow : xq_at rows pc = some (.getstatic k, (rpc, len, nxt), ax, vs)) (hex : xq_exec Cq nxE Qx K' (some (.getstatic k, (rpc, len, nxt), ax, vs)) L S nx h) : xq_KW p l e R s m args below meth c B D dA aI xs rows nx0 Qf pc L S nx h := by
  obtain ⟨hx, hown, hts, hKK, hIm, hok, hB, hRm, hini, hnE, hLV⟩ := Cx
  obtain ⟨ho, hpc⟩ := xq_row hok hrow
  simp only [xq_okb, xq_tm, xq_ts, xq_el, Bool.and_eq_true, Bool.or_eq_true, Bool.false_eq_true, false_or, decide_eq_true_eq, Nat.beq_eq] at ho
  intro H locs ls hR hS hl hr hn
  dsimp only at hpc
  rw [hpc]
  rcases ax with _ | ⟨k0, _ | ⟨o, _ | ⟨wi, _ | ⟨nest, _ | ⟨a5, ax⟩⟩⟩⟩⟩ <;> try (simp at ho; done)
  obtain ⟨⟨⟨hd, hlen⟩, hnx⟩, hz⟩ := ho
  subst hlen
  have hz : xq_oks own k k0 o wi nest = true := hz
  unfold xq_oks at hz
  split at hz
  · refine va_gets hx rfl hIm.2.2.1.1 hS hown (hts _ (xq_wd_in hz)) (fun _ z => z) hd ?_
    exact xq_fin (n' := nxt) (L' := L) (S' := xR 1001 :: S) hle hex hR hS hl (xq_rv_c trivial hr) hn hnx rfl
  · refine va_getsN hx rfl hIm.2.2.1.1 hS hown (va_Nw.use rfl (hIm.2.2.2.2.2.2.2 _ (xq_wn_in hz))) (fun _ z => z) hd ?_
    exact xq_fin (n' := nxt) (L' := L) (S' := xR 1001 :: S) hle hex hR hS hl (xq_rv_c trivial hr) hn hnx rfl
  · refine va_gets hx rfl hIm.2.2.2.1.1 hS hown (hts _ (xq_wd_in hz)) (fun _ z => z) hd ?_
    exact xq_fin (n' := nxt) (L' := L) (S' := xR 1002 :: S) hle hex hR hS hl (xq_rv_c trivial hr) hn hnx rfl
  · refine va_getsN hx rfl hIm.2.2.2.1.1 hS hown (va_Nw.use rfl (hIm.2.2.2.2.2.2.2 _ (xq_wn_in hz))) (fun _ z => z) hd ?_
    exact xq_fin (n' := nxt) (L' := L) (S' := xR 1002 :: S) hle hex hR hS hl (xq_rv_c trivial hr) hn hnx rfl
  · exact Bool.noConfusion (show false = true from xq_no3_at hno hrow)
  · refine va_gets hx rfl hIm.2.2.2.2.1 hS hown (hts _ (xq_wd_in hz)) (fun _ z => z) hd ?_
    exact xq_fin (n' := nxt) (L' := L) (S' := xI 1 :: S) hle hex hR hS hl (xq_rv_c (by show _ ∧ _; omega) hr) hn hnx rfl
  · exact absurd hz (by decide)

set_option maxHeartbeats 1000000 in
theorem xq_s_iaload {Cq : Nat → List xq_V → Nat → xq_H → (Option xq_V → xq_H → Prop) → Prop} {Qx : Option xq_V → xq_H → Prop} (Cx : xq_Cx p R s m args meth c B D dA aI xs own ini rt rows nx0 nxE LV) (hle : ∀ pc L S nx h, K' pc L S nx h → xq_KW p l e R s m args below meth c B D dA aI xs rows nx0 Qf pc L S nx h)
    (hrow : xq_at rows pc = some (.iaload, (rpc, len, nxt), ax, vs)) (hex : xq_exec Cq nxE Qx K' (some (.iaload, (rpc, len, nxt), ax, vs)) L S nx h) : xq_KW p l e R s m args below meth c B D dA aI xs rows nx0 Qf pc L S nx h := by
  obtain ⟨hx, hown, hts, hKK, hIm, hok, hB, hRm, hini, hnE, hLV⟩ := Cx
  obtain ⟨ho, hpc⟩ := xq_row hok hrow
  simp only [xq_okb, xq_tm, xq_ts, xq_el, Bool.and_eq_true, Bool.or_eq_true, Bool.false_eq_true, false_or, decide_eq_true_eq, Nat.beq_eq] at ho
  intro H locs ls hR hS hl hr hn
  dsimp only at hpc
  rw [hpc]
  rcases S with _ | ⟨(i | i | i), _ | ⟨(o | o | o), S'⟩⟩ <;> try exact False.elim hex
  obtain ⟨⟨⟨hd, hlen⟩, hnx⟩, hz⟩ := ho
  subst hlen
  have hr' := xq_rv_t (xq_rv_t hr)
  unfold xq_exec at hex
  dsimp only at hex
  unfold xq_ild at hex
  split at hex
  · rename_i h999
    split at hex
    · rename_i hoN
      rw [Nat.blt_eq] at hoN
      split at hex
      · rename_i n hcls
        obtain ⟨hi, hex⟩ := hex
        have ho80 : o < 80 := xq_cls_lt hcls (fun z => by cases z)
        have ha := xq_ws_at B dA h hoN ho80
        have hce : xq_ce B dA h o = .inl (dA 0, n, .inl (fun j => Int32.ofInt (h o (j : Int)))) := by unfold xq_ce; rw [hcls]
        rw [hce] at ha
        have hn2 := xq_clsn ho80 hcls
        have ead : xq_cv B aI (xR o) = .ref (B + o) := by show Value.ref (xq_ad B aI _) = _; rw [xq_ad, if_pos (by omega)]
        rw [List.map_cons, List.map_cons, ead]
        refine va_iald hx rfl hKK hR.1 o 0 ha rfl (xi_in hi (by omega)) hd ?_
        rw [xi_cl (by omega), Int.toNat_of_nonneg hi.1]
        exact xq_fin hle hex hR hS hl (xq_rv_c (hR.2.2.1 _ _) hr') hn hnx rfl
      · exact hex.elim
    · exact hex.elim
  · rename_i h999
    rw [Nat.ble_eq] at h999
    have ead : xq_cv B aI (xR o) = .ref (aI o) := by show Value.ref (xq_ad B aI _) = _; rw [xq_ad, if_neg (by omega)]
    rw [List.map_cons, List.map_cons, ead]
    split at hex
    · rename_i ho9
      rw [Nat.beq_eq] at ho9
      subst ho9
      obtain ⟨n, e1, e2, hT⟩ := hIm.2.2.2.2.2.2.1
      rw [hR.2.1] at hex
      obtain ⟨hi, hex⟩ := hex
      rw [e1] at hi
      refine va_ti hx rfl hT hS (xi_in hi (by omega)) rfl hd ?_
      rw [xi_cl (by omega), Int.toNat_of_nonneg hi.1]
      have hrg := hR.2.2.1 999 i
      rw [hR.2.1] at hrg
      exact xq_fin hle hex hR hS hl (xq_rv_c hrg hr') hn hnx rfl
    · split at hex
      · exact hex.elim
      · rename_i a l hcon
        obtain ⟨hi, hex⟩ := hex
        rw [← hcon] at hi hex
        have hc : (o = 1001 ∧ va_T .int (aI o) (xq_con o).length (fun j => .int (Int32.ofInt ((xq_con o).getD j 0))) (fun q => B ≤ q) s s.heap) ∨ (o = 1002 ∧ va_T .int (aI o) (xq_con o).length (fun j => .int (Int32.ofInt ((xq_con o).getD j 0))) (fun q => B ≤ q) s s.heap) := by
          unfold xq_con at hcon
          split at hcon
          · exact Or.inl ⟨rfl, hIm.2.2.1.2⟩
          · exact Or.inr ⟨rfl, hIm.2.2.2.1.2⟩
          · cases hcon
        have hcr : -2147483648 ≤ (xq_con o).getD i.toNat 0 ∧ (xq_con o).getD i.toNat 0 ≤ 2147483647 := by
          have hl2 : i.toNat < (xq_con o).length := by omega
          rw [List.getD_eq_getElem?_getD, List.getElem?_eq_getElem hl2]
          have hm := List.getElem_mem hl2
          rcases hc with ⟨rfl, -⟩ | ⟨rfl, -⟩
          · exact (by decide : ∀ x ∈ xq_con 1001, -2147483648 ≤ x ∧ x ≤ 2147483647) _ hm
          · exact (by decide : ∀ x ∈ xq_con 1002, -2147483648 ≤ x ∧ x ≤ 2147483647) _ hm
        have hl9 : (xq_con o).length < 100 := by
          rcases hc with ⟨rfl, -⟩ | ⟨rfl, -⟩ <;> decide
        rcases hc with ⟨-, hT⟩ | ⟨-, hT⟩
        · refine va_ti hx rfl hT hS (xi_in hi (by omega)) rfl hd ?_
          rw [xi_cl (by omega)]
          exact xq_fin hle hex hR hS hl (xq_rv_c hcr hr') hn hnx rfl
        · refine va_ti hx rfl hT hS (xi_in hi (by omega)) rfl hd ?_
          rw [xi_cl (by omega)]
          exact xq_fin hle hex hR hS hl (xq_rv_c hcr hr') hn hnx rfl

set_option maxHeartbeats 1000000 in
theorem xq_s_baload {Cq : Nat → List xq_V → Nat → xq_H → (Option xq_V → xq_H → Prop) → Prop} {Qx : Option xq_V → xq_H → Prop} (Cx : xq_Cx p R s m args meth c B D dA aI xs own ini rt rows nx0 nxE LV) (hle : ∀ pc L S nx h, K' pc L S nx h → xq_KW p l e R s m args below meth c B D dA aI xs rows nx0 Qf pc L S nx h)
    (hrow : xq_at rows pc = some (.baload, (rpc, len, nxt), ax, vs)) (hex : xq_exec Cq nxE Qx K' (some (.baload, (rpc, len, nxt), ax, vs)) L S nx h) : xq_KW p l e R s m args below meth c B D dA aI xs rows nx0 Qf pc L S nx h := by
  obtain ⟨hx, hown, hts, hKK, hIm, hok, hB, hRm, hini, hnE, hLV⟩ := Cx
  obtain ⟨ho, hpc⟩ := xq_row hok hrow
  simp only [xq_okb, xq_tm, xq_ts, xq_el, Bool.and_eq_true, Bool.or_eq_true, Bool.false_eq_true, false_or, decide_eq_true_eq, Nat.beq_eq] at ho
  intro H locs ls hR hS hl hr hn
  dsimp only at hpc
  rw [hpc]
  rcases S with _ | ⟨(i | i | i), _ | ⟨(o | o | o), S'⟩⟩ <;> try exact False.elim hex
  obtain ⟨⟨⟨hd, hlen⟩, hnx⟩, hz⟩ := ho
  subst hlen
  have hr' := xq_rv_t (xq_rv_t hr)
  unfold xq_exec at hex
  dsimp only at hex
  unfold xq_bld at hex
  split at hex
  · rename_i h999
    split at hex
    · rename_i hoN
      rw [Nat.blt_eq] at hoN
      split at hex
      · rename_i n hcls
        obtain ⟨hi, hex⟩ := hex
        have ho80 : o < 80 := xq_cls_lt hcls (fun z => by cases z)
        have ha := xq_ws_at B dA h hoN ho80
        have hce : xq_ce B dA h o = .inl (dA 1, n, .inl (fun j => Int32.ofInt (h o (j : Int)))) := by unfold xq_ce; rw [hcls]
        rw [hce] at ha
        have hn2 := xq_clsn ho80 hcls
        have ead : xq_cv B aI (xR o) = .ref (B + o) := by show Value.ref (xq_ad B aI _) = _; rw [xq_ad, if_pos (by omega)]
        rw [List.map_cons, List.map_cons, ead]
        refine va_zald hx rfl hKK hR.1 o 1 ha rfl (xi_in hi (by omega)) hd ?_
        rw [xi_cl (by omega), Int.toNat_of_nonneg hi.1]
        exact xq_fin hle hex hR hS hl (xq_rv_c (hR.2.2.1 _ _) hr') hn hnx rfl
      · exact hex.elim
    · exact hex.elim
  · rename_i h999
    rw [Nat.ble_eq] at h999
    have ead : xq_cv B aI (xR o) = .ref (aI o) := by show Value.ref (xq_ad B aI _) = _; rw [xq_ad, if_neg (by omega)]
    rw [List.map_cons, List.map_cons, ead]
    split at hex
    · rename_i hb
      rw [Bool.and_eq_true, Nat.ble_eq, Nat.ble_eq] at hb
      obtain ⟨j, rfl⟩ : ∃ j, o = 1200 + j := ⟨o - 1200, by omega⟩
      rw [show 1200 + j - 1200 = j by omega] at hex
      obtain ⟨hi, hex⟩ := hex
      have hT := (hIm.1.1 j (by omega)).2.2.2
      obtain ⟨g1, g2, g3⟩ := xq_strf j (by omega)
      have g4 := xq_strn j
      rw [g1] at hT
      refine va_tb hx rfl hT hS (xi_in hi (by omega)) rfl hd ?_
      rw [xi_cl (by omega)]
      have hl2 : i.toNat < (xq_str j).length := by omega
      have hcr : -2147483648 ≤ (xq_str j).getD i.toNat 0 ∧ (xq_str j).getD i.toNat 0 ≤ 2147483647 := by
        rw [List.getD_eq_getElem?_getD, List.getElem?_eq_getElem hl2]
        have := g3 _ (List.getElem_mem hl2)
        show -2147483648 ≤ (xq_str j)[i.toNat] ∧ (xq_str j)[i.toNat] ≤ 2147483647
        omega
      refine xq_fin hle hex hR hS hl (xq_rv_c hcr hr') hn hnx ?_
      show Value.int (Int32.ofInt _) :: _ = _
      rw [g2, List.getD_eq_getElem?_getD, List.getD_eq_getElem?_getD, List.getElem?_map, List.getElem?_eq_getElem hl2]
      rfl
    · exact hex.elim

set_option maxHeartbeats 1000000 in
theorem xq_s_arraylength {Cq : Nat → List xq_V → Nat → xq_H → (Option xq_V → xq_H → Prop) → Prop} {Qx : Option xq_V → xq_H → Prop} (Cx : xq_Cx p R s m args meth c B D dA aI xs own ini rt rows nx0 nxE LV) (hle : ∀ pc L S nx h, K' pc L S nx h → xq_KW p l e R s m args below meth c B D dA aI xs rows nx0 Qf pc L S nx h)
    (hrow : xq_at rows pc = some (.arraylength, (rpc, len, nxt), ax, vs)) (hex : xq_exec Cq nxE Qx K' (some (.arraylength, (rpc, len, nxt), ax, vs)) L S nx h) : xq_KW p l e R s m args below meth c B D dA aI xs rows nx0 Qf pc L S nx h := by
  obtain ⟨hx, hown, hts, hKK, hIm, hok, hB, hRm, hini, hnE, hLV⟩ := Cx
  obtain ⟨ho, hpc⟩ := xq_row hok hrow
  simp only [xq_okb, xq_tm, xq_ts, xq_el, Bool.and_eq_true, Bool.or_eq_true, Bool.false_eq_true, false_or, decide_eq_true_eq, Nat.beq_eq] at ho
  intro H locs ls hR hS hl hr hn
  dsimp only at hpc
  rw [hpc]
  rcases S with _ | ⟨(o | o | o), S'⟩ <;> try exact False.elim hex
  obtain ⟨⟨⟨hd, hlen⟩, hnx⟩, hz⟩ := ho
  subst hlen
  have hr' := xq_rv_t hr
  unfold xq_exec at hex
  dsimp only at hex
  unfold xq_len at hex
  split at hex
  · rename_i h999
    split at hex
    · rename_i hoN
      rw [Nat.blt_eq] at hoN
      split at hex
      · rename_i t n hcls
        have ho80 : o < 80 := xq_cls_lt hcls (fun z => by cases z)
        have ha := xq_ws_at B dA h hoN ho80
        have hce : xq_ce B dA h o = .inl (dA t, n, .inl (fun j => Int32.ofInt (h o (j : Int)))) := by unfold xq_ce; rw [hcls]
        rw [hce] at ha
        have hn2 := xq_clsn ho80 hcls
        have ead : xq_cv B aI (xR o) = .ref (B + o) := by show Value.ref (xq_ad B aI _) = _; rw [xq_ad, if_pos (by omega)]
        rw [List.map_cons, ead]
        have ht : ∃ ty, ([(dA 0, FieldType.int), (dA 1, FieldType.boolean)] : List (ClassId × FieldType))[t]? = some (dA t, ty) := by
          rcases (show t = 0 ∨ t = 1 by omega) with rfl | rfl
          · exact ⟨_, rfl⟩
          · exact ⟨_, rfl⟩
        obtain ⟨ty, ht⟩ := ht
        refine va_alen hx rfl hKK hR.1 o t ha ht rfl hd ?_
        exact xq_fin hle hex hR hS hl (xq_rv_c (by show _ ∧ _; omega) hr') hn hnx rfl
      · exact hex.elim
    · exact hex.elim
  · rename_i h999
    rw [Nat.ble_eq] at h999
    have ead : xq_cv B aI (xR o) = .ref (aI o) := by show Value.ref (xq_ad B aI _) = _; rw [xq_ad, if_neg (by omega)]
    rw [List.map_cons, ead]
    split at hex
    · rename_i ho9
      rw [Nat.beq_eq] at ho9
      subst ho9
      obtain ⟨n, e1, e2, hT⟩ := hIm.2.2.2.2.2.2.1
      rw [hR.2.1, e1] at hex
      refine va_tlen hx rfl hT hS rfl hd ?_
      exact xq_fin hle hex hR hS hl (xq_rv_c (by show _ ∧ _; omega) hr') hn hnx rfl
    · split at hex
      · rename_i hb
        rw [Bool.and_eq_true, Nat.ble_eq, Nat.ble_eq] at hb
        obtain ⟨j, rfl⟩ : ∃ j, o = 1200 + j := ⟨o - 1200, by omega⟩
        rw [show 1200 + j - 1200 = j by omega] at hex
        have hT := (hIm.1.1 j (by omega)).2.2.2
        obtain ⟨g1, g2, g3⟩ := xq_strf j (by omega)
        have g4 := xq_strn j
        rw [g1] at hT
        refine va_tlen hx rfl hT hS rfl hd ?_
        exact xq_fin hle hex hR hS hl (xq_rv_c (by show _ ∧ _; omega) hr') hn hnx rfl
      · exact hex.elim

set_option maxHeartbeats 1000000 in
theorem xq_s_putfield {Cq : Nat → List xq_V → Nat → xq_H → (Option xq_V → xq_H → Prop) → Prop} {Qx : Option xq_V → xq_H → Prop} {k : Nat} (Cx : xq_Cx p R s m args meth c B D dA aI xs own ini rt rows nx0 nxE LV) (hle : ∀ pc L S nx h, K' pc L S nx h → xq_KW p l e R s m args below meth c B D dA aI xs rows nx0 Qf pc L S nx h)
    (hrow : xq_at rows pc = some (.putfield k, (rpc, len, nxt), ax, vs)) (hex : xq_exec Cq nxE Qx K' (some (.putfield k, (rpc, len, nxt), ax, vs)) L S nx h) : xq_KW p l e R s m args below meth c B D dA aI xs rows nx0 Qf pc L S nx h := by
  obtain ⟨hx, hown, hts, hKK, hIm, hok, hB, hRm, hini, hnE, hLV⟩ := Cx
  obtain ⟨ho, hpc⟩ := xq_row hok hrow
  simp only [xq_okb, xq_tm, xq_ts, xq_el, Bool.and_eq_true, Bool.or_eq_true, Bool.false_eq_true, false_or, decide_eq_true_eq, Nat.beq_eq] at ho
  intro H locs ls hR hS hl hr hn
  dsimp only at hpc
  rw [hpc]
  rcases ax with _ | ⟨kind, _ | ⟨ci, _ | ⟨fk, _ | ⟨wi, _ | ⟨fin, _ | ⟨a6, ax⟩⟩⟩⟩⟩⟩ <;> try exact False.elim hex
  all_goals rcases vs with _ | ⟨kI, _ | ⟨v2, vs⟩⟩ <;> try exact False.elim hex
  all_goals rcases S with _ | ⟨v, _ | ⟨(o | o | o), S'⟩⟩ <;> try exact False.elim hex
  obtain ⟨⟨⟨hd, hlen⟩, hnx⟩, hz⟩ := ho
  subst hlen
  have hr' := xq_rv_t (xq_rv_t hr)
  replace hz : (decide (kI = (fk : Int)) && xq_okp own k ini kind ci fk wi fin) = true := hz
  rw [Bool.and_eq_true] at hz
  obtain ⟨hkI, hz⟩ := hz
  replace hkI := of_decide_eq_true hkI
  replace hex : xq_pf kind ci fk kI nx h o v (fun h' => K' nxt L S' nx h') := hex
  unfold xq_pf at hex
  rw [hkI] at hex
  split at hex
  · rename_i ci' hcls
    split at hex
    · rename_i hb
      rw [Bool.and_eq_true, Nat.beq_eq, Nat.blt_eq] at hb
      obtain ⟨rfl, hoN⟩ := hb
      unfold xq_okp xq_okf at hz
      rw [Bool.and_eq_true] at hz
      obtain ⟨hz', hz2⟩ := hz
      split at hz'
      · rename_i C T N hcl
        rw [Bool.and_eq_true, Bool.and_eq_true, Nat.blt_eq, Nat.beq_eq] at hz'
        obtain ⟨⟨hfN, hfk⟩, hwi⟩ := hz'
        rw [hcl] at hz2
        replace hz2 : xq_okq own ini (C, T, N) fk fin = true := hz2
        obtain ⟨ty, hin, hty, hnm, hnf, hkd⟩ := xq_cls_ok hcl
        dsimp only at hin hty hnm hnf hkd
        have hci : ci < 11 := (List.getElem?_eq_some_iff.mp hcl).1
        have ho80 : o < 80 := xq_cls_lt hcls (fun z => by cases z; omega)
        have ha := xq_ws_at B dA h hoN ho80
        have hce : xq_ce B dA h o = .inr (ci, xq_fs B h o ci) := by unfold xq_ce; rw [hcls]
        rw [hce] at ha
        have hfl : fk < (xq_fs B h o ci).length := by unfold xq_fs; rw [hnf]; simpa using hfN
        have ead : xq_cv B aI (xR o) = .ref (B + o) := by show Value.ref (xq_ad B aI _) = _; rw [xq_ad, if_pos (by omega)]
        rw [List.map_cons, List.map_cons, ead]
        -- the value fits, the heap behind it
        have key : ∃ x : Int, K' nxt L S' nx (xq_u h o fk x) ∧ narrow (ty fk) (xq_cv B aI v) = xq_cv B aI v ∧ fits (ty fk) (xq_cv B aI v) = true ∧ xq_fv B (xq_u h o fk x) o ci fk = xq_cv B aI v ∧ (-2147483648 ≤ x ∧ x ≤ 2147483647) ∧ (nx = 81 → ¬ xq_fk ci fk = 2) := by
          have hu : ∀ x, xq_u h o fk x o fk = x := fun x => by simp [xq_u]
          have ref : ∀ t : Nat, t < 80 → xq_isr (ty fk) = true → narrow (ty fk) (xq_cv B aI (xR t)) = xq_cv B aI (xR t) ∧ fits (ty fk) (xq_cv B aI (xR t)) = true := by
            intro t ht hi
            cases hq : ty fk with
            | object _ => exact ⟨rfl, rfl⟩
            | array _ => exact ⟨rfl, rfl⟩
            | _ => rw [hq] at hi; cases hi
          have rfv : ∀ t : Nat, t < 80 → (kind = 2 ∨ kind = 3) → xq_fv B (xq_u h o fk ((t : Int) + 1)) o ci fk = xq_cv B aI (xR t) := by
            intro t ht hk
            unfold xq_fv
            rw [hfk, hu]
            have e : xq_cv B aI (xR t) = .ref (B + t) := by show Value.ref (xq_ad B aI _) = _; rw [xq_ad, if_pos (by omega)]
            rw [e]
            have e3 : (if ((t : Int) + 1) = 0 then Value.null else Value.ref (B + ((t : Int) + 1 - 1).toNat)) = .ref (B + t) := by
              rw [if_neg (by omega)]
              congr 2
              omega
            rcases hk with rfl | rfl <;> exact e3
          split at hex
          · rename_i x
            have hx2 : -2147483648 ≤ x ∧ x ≤ 2147483647 := xq_rv_h hr
            have ht : ty fk = .int := by
              rcases hkd fk hfN with z | z | z
              · exact z.2
              · rw [hfk] at z; exact absurd z.1 (by decide)
              · rw [hfk] at z; rcases z.1 with z | z <;> exact absurd z (by decide)
            refine ⟨x, hex, by rw [ht]; rfl, by rw [ht]; rfl, ?_, hx2, fun _ => by rw [hfk]; decide⟩
            unfold xq_fv
            rw [hfk, hu]
            rfl
          · rename_i x
            obtain ⟨h01, hex⟩ := hex
            have ht : ty fk = .boolean := by
              rcases hkd fk hfN with z | z | z
              · rw [hfk] at z; exact absurd z.1 (by decide)
              · exact z.2
              · rw [hfk] at z; rcases z.1 with z | z <;> exact absurd z (by decide)
            refine ⟨x, hex, ?_, ?_, ?_, by omega, fun _ => by rw [hfk]; decide⟩
            · rw [ht]; rcases h01 with rfl | rfl <;> rfl
            · rw [ht]; rcases h01 with rfl | rfl <;> rfl
            · unfold xq_fv
              rw [hfk, hu]
              rfl
          · rename_i t
            split at hex
            · exact hex.elim
            · rename_i h80
              obtain ⟨⟨h1, h2⟩, hex⟩ := hex
              have hi : xq_isr (ty fk) = true := by
                rcases hkd fk hfN with z | z | z
                · rw [hfk] at z; exact absurd z.1 (by decide)
                · rw [hfk] at z; exact absurd z.1 (by decide)
                · exact z.2
              exact ⟨_, hex, (ref t h2 hi).1, (ref t h2 hi).2, rfv t h2 (Or.inl rfl), by omega, fun z => by rw [z] at h80; exact absurd h80 (by decide)⟩
          · rename_i t
            obtain ⟨h2, hex⟩ := hex
            have hi : xq_isr (ty fk) = true := by
              rcases hkd fk hfN with z | z | z
              · rw [hfk] at z; exact absurd z.1 (by decide)
              · rw [hfk] at z; exact absurd z.1 (by decide)
              · exact z.2
            exact ⟨_, hex, (ref t h2 hi).1, (ref t h2 hi).2, rfv t h2 (Or.inr rfl), by omega, fun _ => by rw [hfk]; decide⟩
          · exact hex.elim
        obtain ⟨x, hex, hnar, hfit, hfv, hxr, hg2⟩ := key
        have hset : (xq_ws B dA nx h).set o (B + o, .inr (ci, (xq_fs B h o ci).set fk (xq_cv B aI v))) = xq_ws B dA nx (xq_u h o fk x) := by
          refine xq_ws_set hoN ho80 ?_ (fun o' hne => xq_u_o hne)
          unfold xq_ce
          rw [hcls]
          dsimp only
          rw [xq_fs_set hfl hfv]
        have fin1 : ∀ (H1 : Heap) (locs1 : List Loc), va_P D xq_cl ((xq_ws B dA nx h).set o (B + o, .inr (ci, (xq_fs B h o ci).set fk (xq_cv B aI v)))) H1 → va_D (fun q => B ≤ q) ((xq_ws B dA nx h).set o (B + o, .inr (ci, (xq_fs B h o ci).set fk (xq_cv B aI v)))) → va_S (fun q => B ≤ q) s.heap H1 locs1 → W p l e R s m args below meth c H1 locs1 (nx - nx0) (xq_szs nx - xq_szs nx0) Qf (F0 m (rpc + 3) ls (S'.map (xq_cv B aI))) := by
          intro H1 locs1 hP1 hD1 hS1
          rw [hset] at hP1
          refine xq_fin hle hex ⟨hP1, ?_, xq_rgh_u hR.2.2.1 _ _ hxr, fun h80 o' ci2 k2 ho' hc2 hk2 => ?_, hR.2.2.2.2⟩ hS1 hl hr' hn hnx rfl
          · rw [xq_u_o (by omega)]; exact hR.2.1
          · have hold := hR.2.2.2.1 h80 o' ci2 k2 ho' hc2 hk2
            unfold xq_u
            split
            · rename_i e1
              subst e1
              split
              · rename_i e2
                have e3 : k2 = fk := by omega
                subst e3
                have e4 : ci2 = ci := by
                  have := hc2.symm.trans hcls
                  exact Sum.inl.inj this
                subst e4
                exact absurd hk2 (hg2 h80)
              · exact hold
            · exact hold
        unfold xq_okq at hz2
        split at hz2
        · refine va_put (T := T) (N := N) (C := C) (ci := ci) hx rfl hts hin ty hty hnm hown hKK hR.1 (xq_ws_D B dA nx h) hS o ha hcl fk hfN (hts _ (xq_wd_in hwi)) (fun _ z => z) (of_decide_eq_true hz2) (hty fk hfN) hnar hfit hfl hd fin1
        · rw [Bool.and_eq_true] at hz2
          have hz3 := of_decide_eq_true hz2.1
          refine va_putF (T := T) (N := N) (C := C) (ci := ci) hx rfl hts hin ty hty hnm hown hKK hR.1 (xq_ws_D B dA nx h) hS o ha hcl fk hfN (hts _ (xq_wd_in hwi)) (fun _ z => z) hz3.1 (hini hz2.2) hz3.2 (hty fk hfN) hnar hfit hfl hd fin1
        · exact absurd hz2 (by decide)
      · exact absurd hz' (by decide)
    · exact hex.elim
  · exact hex.elim

set_option maxHeartbeats 1000000 in
theorem xq_s_iastore {Cq : Nat → List xq_V → Nat → xq_H → (Option xq_V → xq_H → Prop) → Prop} {Qx : Option xq_V → xq_H → Prop} (Cx : xq_Cx p R s m args meth c B D dA aI xs own ini rt rows nx0 nxE LV) (hle : ∀ pc L S nx h, K' pc L S nx h → xq_KW p l e R s m args below meth c B D dA aI xs rows nx0 Qf pc L S nx h)
    (hrow : xq_at rows pc = some (.iastore, (rpc, len, nxt), ax, vs)) (hex : xq_exec Cq nxE Qx K' (some (.iastore, (rpc, len, nxt), ax, vs)) L S nx h) : xq_KW p l e R s m args below meth c B D dA aI xs rows nx0 Qf pc L S nx h := by
  obtain ⟨hx, hown, hts, hKK, hIm, hok, hB, hRm, hini, hnE, hLV⟩ := Cx
  obtain ⟨ho, hpc⟩ := xq_row hok hrow
  simp only [xq_okb, xq_tm, xq_ts, xq_el, Bool.and_eq_true, Bool.or_eq_true, Bool.false_eq_true, false_or, decide_eq_true_eq, Nat.beq_eq] at ho
  intro H locs ls hR hS hl hr hn
  dsimp only at hpc
  rw [hpc]
  rcases S with _ | ⟨(v | v | v), _ | ⟨(i | i | i), _ | ⟨(o | o | o), S'⟩⟩⟩ <;> try exact False.elim hex
  obtain ⟨⟨⟨hd, hlen⟩, hnx⟩, hz⟩ := ho
  subst hlen
  have hr' := xq_rv_t (xq_rv_t (xq_rv_t hr))
  have hv : -2147483648 ≤ v ∧ v ≤ 2147483647 := xq_rv_h hr
  replace hex : xq_ast 0 nx h o i v (fun h' => K' nxt L S' nx h') := hex
  unfold xq_ast at hex
  split at hex
  · rename_i t' n hcls
    split at hex
    · rename_i hb
      rw [Bool.and_eq_true, Nat.beq_eq, Nat.blt_eq] at hb
      obtain ⟨rfl, hoN⟩ := hb
      obtain ⟨hi, hex⟩ := hex
      have ho80 : o < 80 := xq_cls_lt hcls (fun z => by cases z)
      have ha := xq_ws_at B dA h hoN ho80
      have hce : xq_ce B dA h o = .inl (dA 0, n, .inl (fun j => Int32.ofInt (h o (j : Int)))) := by unfold xq_ce; rw [hcls]
      rw [hce] at ha
      have hn2 := xq_clsn ho80 hcls
      have ead : xq_cv B aI (xR o) = .ref (B + o) := by show Value.ref (xq_ad B aI _) = _; rw [xq_ad, if_pos (by omega)]
      rw [List.map_cons, List.map_cons, List.map_cons, ead]
      refine va_iast hx rfl hKK hR.1 (xq_ws_D B dA nx h) hS o 0 ha rfl (xi_in hi (by omega)) hd (fun H1 locs1 hP1 hD1 hS1 => ?_)
      have hset : (xq_ws B dA nx h).set o (B + o, .inl (dA 0, n, .inl (upd (fun j => Int32.ofInt (h o (j : Int))) (Int32.ofInt i).toNatClampNeg (Int32.ofInt v)))) = xq_ws B dA nx (xq_u h o i v) := by
        refine xq_ws_set hoN ho80 ?_ (fun o' hne => xq_u_o hne)
        unfold xq_ce
        rw [hcls]
        dsimp only
        rw [xi_cl (by omega)]
        congr 4
        funext j
        unfold upd xq_u
        rw [if_pos rfl]
        by_cases hj : j = i.toNat
        · rw [if_pos (by omega), if_pos (by omega)]
        · rw [if_neg (by omega), if_neg (by omega)]
      rw [hset] at hP1
      refine xq_fin hle hex ⟨hP1, ?_, xq_rgh_u hR.2.2.1 _ _ hv, fun h80 o' ci2 k2 ho' hc2 hk2 => ?_, hR.2.2.2.2⟩ hS1 hl hr' hn hnx rfl
      · rw [xq_u_o (by omega)]; exact hR.2.1
      · have hne : o' ≠ o := fun z => by rw [z, hcls] at hc2; cases hc2
        rw [xq_u_o hne]
        exact hR.2.2.2.1 h80 o' ci2 k2 ho' hc2 hk2
    · exact hex.elim
  · exact hex.elim

set_option maxHeartbeats 1000000 in
theorem xq_s_bastore {Cq : Nat → List xq_V → Nat → xq_H → (Option xq_V → xq_H → Prop) → Prop} {Qx : Option xq_V → xq_H → Prop} (Cx : xq_Cx p R s m args meth c B D dA aI xs own ini rt rows nx0 nxE LV) (hle : ∀ pc L S nx h, K' pc L S nx h → xq_KW p l e R s m args below meth c B D dA aI xs rows nx0 Qf pc L S nx h)
    (hrow : xq_at rows pc = some (.bastore, (rpc, len, nxt), ax, vs)) (hex : xq_exec Cq nxE Qx K' (some (.bastore, (rpc, len, nxt), ax, vs)) L S nx h) : xq_KW p l e R s m args below meth c B D dA aI xs rows nx0 Qf pc L S nx h := by
  obtain ⟨hx, hown, hts, hKK, hIm, hok, hB, hRm, hini, hnE, hLV⟩ := Cx
  obtain ⟨ho, hpc⟩ := xq_row hok hrow
  simp only [xq_okb, xq_tm, xq_ts, xq_el, Bool.and_eq_true, Bool.or_eq_true, Bool.false_eq_true, false_or, decide_eq_true_eq, Nat.beq_eq] at ho
  intro H locs ls hR hS hl hr hn
  dsimp only at hpc
  rw [hpc]
  rcases S with _ | ⟨(v | v | v), _ | ⟨(i | i | i), _ | ⟨(o | o | o), S'⟩⟩⟩ <;> try exact False.elim hex
  obtain ⟨⟨⟨hd, hlen⟩, hnx⟩, hz⟩ := ho
  subst hlen
  have hr' := xq_rv_t (xq_rv_t (xq_rv_t hr))
  have hv : -2147483648 ≤ v ∧ v ≤ 2147483647 := xq_rv_h hr
  replace hex : (v = 0 ∨ v = 1) ∧ xq_ast 1 nx h o i v (fun h' => K' nxt L S' nx h') := hex
  obtain ⟨h01, hex⟩ := hex
  have hnb : vp_nar .boolean (Int32.ofInt v) = Int32.ofInt v := by rcases h01 with rfl | rfl <;> rfl
  unfold xq_ast at hex
  split at hex
  · rename_i t' n hcls
    split at hex
    · rename_i hb
      rw [Bool.and_eq_true, Nat.beq_eq, Nat.blt_eq] at hb
      obtain ⟨rfl, hoN⟩ := hb
      obtain ⟨hi, hex⟩ := hex
      have ho80 : o < 80 := xq_cls_lt hcls (fun z => by cases z)
      have ha := xq_ws_at B dA h hoN ho80
      have hce : xq_ce B dA h o = .inl (dA 1, n, .inl (fun j => Int32.ofInt (h o (j : Int)))) := by unfold xq_ce; rw [hcls]
      rw [hce] at ha
      have hn2 := xq_clsn ho80 hcls
      have ead : xq_cv B aI (xR o) = .ref (B + o) := by show Value.ref (xq_ad B aI _) = _; rw [xq_ad, if_pos (by omega)]
      rw [List.map_cons, List.map_cons, List.map_cons, ead]
      refine va_zast hx rfl hKK hR.1 (xq_ws_D B dA nx h) hS o 1 ha rfl (xi_in hi (by omega)) hd (fun H1 locs1 hP1 hD1 hS1 => ?_)
      have hset : (xq_ws B dA nx h).set o (B + o, .inl (dA 1, n, .inl (upd (fun j => Int32.ofInt (h o (j : Int))) (Int32.ofInt i).toNatClampNeg (vp_nar .boolean (Int32.ofInt v))))) = xq_ws B dA nx (xq_u h o i v) := by
        refine xq_ws_set hoN ho80 ?_ (fun o' hne => xq_u_o hne)
        unfold xq_ce
        rw [hcls]
        dsimp only
        rw [xi_cl (by omega), hnb]
        congr 4
        funext j
        unfold upd xq_u
        rw [if_pos rfl]
        by_cases hj : j = i.toNat
        · rw [if_pos (by omega), if_pos (by omega)]
        · rw [if_neg (by omega), if_neg (by omega)]
      rw [hset] at hP1
      refine xq_fin hle hex ⟨hP1, ?_, xq_rgh_u hR.2.2.1 _ _ hv, fun h80 o' ci2 k2 ho' hc2 hk2 => ?_, hR.2.2.2.2⟩ hS1 hl hr' hn hnx rfl
      · rw [xq_u_o (by omega)]; exact hR.2.1
      · have hne : o' ≠ o := fun z => by rw [z, hcls] at hc2; cases hc2
        rw [xq_u_o hne]
        exact hR.2.2.2.1 h80 o' ci2 k2 ho' hc2 hk2
    · exact hex.elim
  · exact hex.elim
end XQ
