/-! THE ABSTRACT RUN IS THE MACHINE'S: a whole method -/
def xq_rtok (rt : Option FieldType) (k : Nat) : Prop := match k with
  | 0 => rt = some .int
  | 1 => rt = some .boolean
  | 2 => rt = some .char
  | _ => rt = some .byte
theorem xq_narrow {rt : Option FieldType} {k : Nat} {v : Int} {A : Prop} (h : xq_rtok rt k) (hi : xq_ir k v A) (hv : -2147483648 ≤ v ∧ v ≤ 2147483647) : ∃ ty, rt = some ty ∧ narrow ty (.int (Int32.ofInt v)) = .int (Int32.ofInt v) ∧ A := by
  match k, h, hi with
  | 0, h, hi => exact ⟨_, h, rfl, hi⟩
  | 1, h, hi =>
    refine ⟨_, h, ?_, hi.2⟩
    rcases hi.1 with rfl | rfl <;> rfl
  | 2, h, hi =>
    refine ⟨_, h, ?_, hi.2⟩
    obtain ⟨n, rfl⟩ := Int.eq_ofNat_of_zero_le hi.1.1
    have h2 := hi.1.2
    exact (pk_charN (q := n) (by omega)).1
  | n + 3, h, hi =>
    refine ⟨_, h, ?_, hi.2⟩
    show Value.int _ = _
    congr 1
    rw [← Int32.toInt_inj, Int8.toInt_toInt32, Int32.toInt_toInt8, xi_of hv, Int.bmod_def]
    have := hi.1
    split <;> omega
section XQ4
variable {p : Program} {l : Launch} {e : Env} {R : Room} {s : State} {m : MethodId} {args : Array Value} {below : List Frame} {meth : Method} {c : Code} {B : Nat} {D : va_G} {dA : Nat → ClassId} {aI : Nat → Nat} {xs : Int → Int} {own : String} {ini : Bool} {rt : Option FieldType} {rows : List (List xq_Row)} {nx0 nxE LV : Nat} {Qf : State → Prop}
variable {K' : xq_KT} {pc : Nat} {L : xq_L} {S : List xq_V} {nx : Nat} {h : xq_H} {rpc len nxt : Nat} {ax : List Nat} {vs : List Int}
set_option maxHeartbeats 2000000 in
theorem xq_sim {Qx : Option xq_V → xq_H → Prop} (Cx : xq_Cx p R s m args meth c B D dA aI xs own ini rt rows nx0 nxE LV) (hno : xq_no3 rows = true)
    (hI : ∀ (k : Nat) (v : Int) (h : xq_H) (H : Heap) (locs : List Loc) (ls : Array Slot) (pc : Nat), decode c.code pc = .ok (.ireturn, 1) → xq_rtok rt k → xq_ir k v (Qx (some (xI v)) h) → xq_Rep B D dA xs nxE h H → va_S (fun q => B ≤ q) s.heap H locs → xq_rv (xI v) → W p l e R s m args below meth c H locs (nxE - nx0) (xq_szs nxE - xq_szs nx0) Qf (F0 m pc ls [.int (Int32.ofInt v)]))
    (hL : ∀ (v : Int) (h : xq_H) (H : Heap) (locs : List Loc) (ls : Array Slot) (pc : Nat), decode c.code pc = .ok (.lreturn, 1) → rt = some .long → Qx (some (xJ v)) h → xq_Rep B D dA xs nxE h H → va_S (fun q => B ≤ q) s.heap H locs → xq_rv (xJ v) → W p l e R s m args below meth c H locs (nxE - nx0) (xq_szs nxE - xq_szs nx0) Qf (F0 m pc ls [.long (Int64.ofInt v)]))
    (hA : ∀ (o : Nat) (h : xq_H) (H : Heap) (locs : List Loc) (ls : Array Slot) (pc : Nat), decode c.code pc = .ok (.areturn, 1) → (∃ rt0, rt = some rt0 ∧ ((∃ n, rt0 = .object n) ∨ ∃ t, rt0 = .array t)) → Qx (some (xR o)) h → xq_Rep B D dA xs nxE h H → va_S (fun q => B ≤ q) s.heap H locs → W p l e R s m args below meth c H locs (nxE - nx0) (xq_szs nxE - xq_szs nx0) Qf (F0 m pc ls [.ref (xq_ad B aI o)]))
    (hV : ∀ (h : xq_H) (H : Heap) (locs : List Loc) (ls : Array Slot) (pc : Nat), decode c.code pc = .ok (.return_, 1) → rt = none → Qx none h → xq_Rep B D dA xs nxE h H → va_S (fun q => B ≤ q) s.heap H locs → W p l e R s m args below meth c H locs (nxE - nx0) (xq_szs nxE - xq_szs nx0) Qf (F0 m pc ls [])) :
    xq_sound (xq_C LV) rows nxE Qx (xq_KW p l e R s m args below meth c B D dA aI xs rows nx0 Qf) := by
  intro K' pc L S nx h hle hex
  cases hrow : xq_at rows pc with
  | none => rw [hrow] at hex; exact hex.elim
  | some r =>
    rw [hrow] at hex
    obtain ⟨ins, ⟨rpc, len, nxt⟩, ax, vs⟩ := r
    cases ins
    case iload_n k => exact xq_s_iload_n Cx hle hrow hex
    case iload k => exact xq_s_iload Cx hle hrow hex
    case lload_n k => exact xq_s_lload_n Cx hle hrow hex
    case lload k => exact xq_s_lload Cx hle hrow hex
    case aload_n k => exact xq_s_aload_n Cx hle hrow hex
    case aload k => exact xq_s_aload Cx hle hrow hex
    case istore_n k => exact xq_s_istore_n Cx hle hrow hex
    case istore k => exact xq_s_istore Cx hle hrow hex
    case astore_n k => exact xq_s_astore_n Cx hle hrow hex
    case astore k => exact xq_s_astore Cx hle hrow hex
    case lstore k => exact xq_s_lstore Cx hle hrow hex
    case iconst k => exact xq_s_iconst Cx hle hrow hex
    case bipush k => exact xq_s_bipush Cx hle hrow hex
    case sipush k => exact xq_s_sipush Cx hle hrow hex
    case lconst k => exact xq_s_lconst Cx hle hrow hex
    case ldc_w k => exact xq_s_ldc_w Cx hle hrow hex
    case ldc2_w k => exact xq_s_ldc2_w Cx hle hrow hex
    case ldc k => exact xq_s_ldc Cx hle hrow hex
    case iadd => exact xq_s_iadd Cx hle hrow hex
    case isub => exact xq_s_isub Cx hle hrow hex
    case imul => exact xq_s_imul Cx hle hrow hex
    case ineg => exact xq_s_ineg Cx hle hrow hex
    case idiv => exact xq_s_idiv Cx hle hrow hex
    case irem => exact xq_s_irem Cx hle hrow hex
    case ldiv => exact xq_s_ldiv Cx hle hrow hex
    case lrem => exact xq_s_lrem Cx hle hrow hex
    case lcmp => exact xq_s_lcmp Cx hle hrow hex
    case ishl => exact xq_s_ishl Cx hle hrow hex
    case ishr => exact xq_s_ishr Cx hle hrow hex
    case iand => exact xq_s_iand Cx hle hrow hex
    case ior => exact xq_s_ior Cx hle hrow hex
    case ixor => exact xq_s_ixor Cx hle hrow hex
    case iushr => exact xq_s_iushr Cx hle hrow hex
    case i2l => exact xq_s_i2l Cx hle hrow hex
    case i2c => exact xq_s_i2c Cx hle hrow hex
    case i2b => exact xq_s_i2b Cx hle hrow hex
    case dup => exact xq_s_dup Cx hle hrow hex
    case dup2 => exact xq_s_dup2 Cx hle hrow hex
    case pop => exact xq_s_pop Cx hle hrow hex
    case iinc k d => exact xq_s_iinc Cx hle hrow hex
    case goto off => exact xq_s_goto Cx hle hrow hex
    case ifCond cnd off => exact xq_s_ifCond Cx hle hrow hex
    case if_icmp cnd off => exact xq_s_if_icmp Cx hle hrow hex
    case getfield k => exact xq_s_getfield Cx hle hrow hex
    case getstatic k => exact xq_s_getstatic Cx hno hle hrow hex
    case iaload => exact xq_s_iaload Cx hle hrow hex
    case baload => exact xq_s_baload Cx hle hrow hex
    case arraylength => exact xq_s_arraylength Cx hle hrow hex
    case putfield k => exact xq_s_putfield Cx hle hrow hex
    case iastore => exact xq_s_iastore Cx hle hrow hex
    case bastore => exact xq_s_bastore Cx hle hrow hex
    case new k => exact xq_s_new Cx hle hrow hex
    case newarray k => exact xq_s_newarray Cx hle hrow hex
    case tableswitch dflt lo hi offs => exact xq_s_tableswitch Cx hle hrow hex
    case lookupswitch dflt ps => exact xq_s_lookupswitch Cx hle hrow hex
    case invokevirtual k => exact xq_s_invokevirtual Cx hle hrow hex
    case invokestatic k => exact xq_s_invokestatic Cx hle hrow hex
    case invokespecial k => exact xq_s_invokespecial Cx hle hrow hex
    case ireturn =>
      obtain ⟨hx, hown, hts, hKK, hIm, hok, hB, hRm, hini, hnE, hLV⟩ := Cx
      obtain ⟨ho, hpc⟩ := xq_row hok hrow
      simp only [xq_okb, xq_tm, xq_ts, xq_el, Bool.and_eq_true, Bool.or_eq_true, Bool.false_eq_true, false_or, decide_eq_true_eq, Nat.beq_eq] at ho
      intro H locs ls hR hS hl hr hn
      dsimp only at hpc
      rw [hpc]
      rcases ax with _ | ⟨k, _ | ⟨a2, ax⟩⟩ <;> try exact False.elim hex
      rcases S with _ | ⟨(v | v | v), _ | ⟨w, S'⟩⟩ <;> try exact False.elim hex
      obtain ⟨⟨⟨hd, hlen⟩, -⟩, hz⟩ := ho
      subst hlen
      replace hex : (match Nat.beq nx nxE with | true => xq_ir k v (Qx (some (xI v)) h) | false => False) := hex
      split at hex
      · rename_i hnx
        rw [Nat.beq_eq] at hnx
        subst hnx
        have hk : xq_rtok rt k := by
          rcases k with _ | _ | _ | _ | k
          · exact of_decide_eq_true (p := rt = some .int) hz
          · exact of_decide_eq_true (p := rt = some .boolean) hz
          · exact of_decide_eq_true (p := rt = some .char) hz
          · exact of_decide_eq_true (p := rt = some .byte) hz
          · exact absurd hz Bool.false_ne_true
        exact hI k v h H locs ls rpc hd hk hex hR hS (xq_rv_h hr)
      · exact hex.elim
    case lreturn =>
      obtain ⟨hx, hown, hts, hKK, hIm, hok, hB, hRm, hini, hnE, hLV⟩ := Cx
      obtain ⟨ho, hpc⟩ := xq_row hok hrow
      simp only [xq_okb, xq_tm, xq_ts, xq_el, Bool.and_eq_true, Bool.or_eq_true, Bool.false_eq_true, false_or, decide_eq_true_eq, Nat.beq_eq] at ho
      intro H locs ls hR hS hl hr hn
      dsimp only at hpc
      rw [hpc]
      rcases S with _ | ⟨(v | v | v), _ | ⟨w, S'⟩⟩ <;> try exact False.elim hex
      obtain ⟨⟨⟨hd, hlen⟩, -⟩, hz⟩ := ho
      subst hlen
      replace hex : (match Nat.beq nx nxE with | true => Qx (some (xJ v)) h | false => False) := hex
      split at hex
      · rename_i hnx
        rw [Nat.beq_eq] at hnx
        subst hnx
        exact hL v h H locs ls rpc hd hz hex hR hS (xq_rv_h hr)
      · exact hex.elim
    case areturn =>
      obtain ⟨hx, hown, hts, hKK, hIm, hok, hB, hRm, hini, hnE, hLV⟩ := Cx
      obtain ⟨ho, hpc⟩ := xq_row hok hrow
      simp only [xq_okb, xq_tm, xq_ts, xq_el, Bool.and_eq_true, Bool.or_eq_true, Bool.false_eq_true, false_or, decide_eq_true_eq, Nat.beq_eq] at ho
      intro H locs ls hR hS hl hr hn
      dsimp only at hpc
      rw [hpc]
      rcases S with _ | ⟨(v | v | v), _ | ⟨w, S'⟩⟩ <;> try exact False.elim hex
      obtain ⟨⟨⟨hd, hlen⟩, -⟩, hz⟩ := ho
      subst hlen
      replace hex : (match Nat.beq nx nxE with | true => Qx (some (xR v)) h | false => False) := hex
      split at hex
      · rename_i hnx
        rw [Nat.beq_eq] at hnx
        subst hnx
        refine hA v h H locs ls rpc hd ?_ hex hR hS
        split at hz
        · exact ⟨_, rfl, Or.inl ⟨_, rfl⟩⟩
        · exact ⟨_, rfl, Or.inr ⟨_, rfl⟩⟩
        · exact absurd hz Bool.false_ne_true
      · exact hex.elim
    case return_ =>
      obtain ⟨hx, hown, hts, hKK, hIm, hok, hB, hRm, hini, hnE, hLV⟩ := Cx
      obtain ⟨ho, hpc⟩ := xq_row hok hrow
      simp only [xq_okb, xq_tm, xq_ts, xq_el, Bool.and_eq_true, Bool.or_eq_true, Bool.false_eq_true, false_or, decide_eq_true_eq, Nat.beq_eq] at ho
      intro H locs ls hR hS hl hr hn
      dsimp only at hpc
      rw [hpc]
      rcases S with _ | ⟨v, S'⟩ <;> try exact False.elim hex
      obtain ⟨⟨⟨hd, hlen⟩, -⟩, hz⟩ := ho
      subst hlen
      replace hex : (match Nat.beq nx nxE with | true => Qx none h | false => False) := hex
      split at hex
      · rename_i hnx
        rw [Nat.beq_eq] at hnx
        subst hnx
        exact hV h H locs ls rpc hd hz hex hR hS
      · exact hex.elim
    all_goals exact hex.elim
end XQ4
/-- the locals of an entry -/
def xq_ent : List xq_V → xq_L
  | [] => []
  | .inr (.inl v) :: l => some (xJ v) :: none :: xq_ent l
  | v :: l => some v :: xq_ent l
theorem xq_get_rep : ∀ (n i : Nat), xq_get (List.replicate n (none : Option xq_V)) i = none
  | 0, _ => rfl
  | _ + 1, 0 => rfl
  | n + 1, i + 1 => xq_get_rep n i
theorem xq_ent_mem (B : Nat) (aI : Nat → Nat) (n : Nat) : ∀ (as : List xq_V) (k i : Nat) (v : xq_V), xq_get (xq_ent as ++ List.replicate n none) i = some v → v ∈ as ∧ (k + i, xq_cv B aI v) ∈ lv_args k (as.map (xq_cv B aI))
  | [], k, i, v, h => by
    simp only [xq_ent, List.nil_append] at h
    rw [xq_get_rep] at h
    cases h
  | .inr (.inl w) :: l, k, i, v, h => by
    match i, h with
    | 0, h => cases h; exact ⟨List.mem_cons_self, List.mem_cons_self⟩
    | 1, h => cases h
    | i + 2, h =>
      have ih := xq_ent_mem B aI n l (k + 2) i v h
      refine ⟨List.mem_cons_of_mem _ ih.1, List.mem_cons_of_mem _ ?_⟩
      rw [show k + (i + 2) = k + 2 + i by omega]
      exact ih.2
  | .inl w :: l, k, i, v, h => by
    match i, h with
    | 0, h => cases h; exact ⟨List.mem_cons_self, List.mem_cons_self⟩
    | i + 1, h =>
      have ih := xq_ent_mem B aI n l (k + 1) i v h
      refine ⟨List.mem_cons_of_mem _ ih.1, List.mem_cons_of_mem _ ?_⟩
      rw [show k + (i + 1) = k + 1 + i by omega]
      exact ih.2
  | .inr (.inr w) :: l, k, i, v, h => by
    match i, h with
    | 0, h => cases h; exact ⟨List.mem_cons_self, List.mem_cons_self⟩
    | i + 1, h =>
      have ih := xq_ent_mem B aI n l (k + 1) i v h
      refine ⟨List.mem_cons_of_mem _ ih.1, List.mem_cons_of_mem _ ?_⟩
      rw [show k + (i + 1) = k + 1 + i by omega]
      exact ih.2
theorem xq_ent_len (B : Nat) (aI : Nat → Nat) : ∀ (as : List xq_V), (lg_sl (as.map (xq_cv B aI))).length = (xq_ent as).length
  | [] => rfl
  | .inr (.inl w) :: l => by
    have ih := xq_ent_len B aI l
    simp only [lg_sl, List.map_cons, List.flatMap_cons] at ih ⊢
    rw [List.length_append, ih]
    show 2 + _ = (xq_ent l).length + 1 + 1
    omega
  | .inl w :: l => by
    have ih := xq_ent_len B aI l
    simp only [lg_sl, List.map_cons, List.flatMap_cons] at ih ⊢
    rw [List.length_append, ih]
    show 1 + _ = (xq_ent l).length + 1
    omega
  | .inr (.inr w) :: l => by
    have ih := xq_ent_len B aI l
    simp only [lg_sl, List.map_cons, List.flatMap_cons] at ih ⊢
    rw [List.length_append, ih]
    show 1 + _ = (xq_ent l).length + 1
    omega
/-- the locals at the entry of a method hold its arguments -/
theorem xq_lv_ent (B : Nat) (aI : Nat → Nat) (as : List xq_V) (n : Nat) (hn : (xq_ent as).length ≤ n) (hr : ∀ v ∈ as, xq_rv v) : xq_lv B aI ((lg_sl (as.map (xq_cv B aI)) ++ List.replicate (n - (lg_sl (as.map (xq_cv B aI))).length) Slot.unset).toArray) n (xq_ent as ++ List.replicate (n - (xq_ent as).length) none) := by
  have hl := lv_entry (as.map (xq_cv B aI)) (n := n) (by rw [xq_ent_len]; exact hn)
  refine ⟨hl.1, hl.2.1, by simp; omega, fun i v hv => ?_⟩
  obtain ⟨h1, h2⟩ := xq_ent_mem B aI _ as 0 i v hv
  rw [Nat.zero_add] at h2
  exact ⟨hl.2.2 _ h2, hr v h1⟩
/-- a contract out of a walk, for each method that is run by its own code -/
theorem xq_ofW {l : Launch} {y : MethodName} {ws ws' : List Jvm.Cond} {rm : Room} {Pc : Array Value → State → Prop} {Qc : Array Value → State → Outcome → State → Prop} {mc ms : Nat} {free : Addr → Prop} {cc : ByteArray} {maxL : Nat} {ret : Option FieldType} (hy : plainFor y = true) (hw : ws = Jvm.Cond.code y cc maxL ret :: ws')
    (body : ∀ p e s m args below meth c s₁, BodyLoose p l y (headSpec ws rm) cc maxL ret e s m args below meth c s₁ → c.maxLocals = maxL → Pc args s → W p l e (headSpec ws rm).room s m args below meth c s.heap [] 0 0 (MQ below Qc args s mc ms free) (entryFrame m args maxL)) : Met l y ws rm Pc Qc mc ms free := by
  refine MetFree.of_bodySF (code := cc) (maxLocals := maxL) (ret := ret) hy (fun args s m h hn => ?_) (fun p e s m args below meth c s₁ B hml hP _ => ?_)
  · obtain ⟨meth, c, h1, h2, h3, h4, h5, h6, -⟩ := Cond.code_spec hn (atoms_spec (ws := ws) h _ (by rw [hw]; exact List.mem_cons_self))
    exact ⟨meth, c, h1, h2, h3, h4, h5, h6⟩
  · obtain ⟨t, a1, o, b1, b2, b3, b4⟩ := body p e s m args below meth c s₁ B hml hP s₁ (by rw [B.state]; rfl) (Stand.of_body B)
    exact ⟨t, o, a1, b1, b2, b3, b4⟩
set_option maxHeartbeats 1000000 in
/-- a contract by an abstract run -/
theorem xq_enter {lev y : Nat} {as : List xq_V} {nx : Nat} {h : xq_H} {Q : Option xq_V → xq_H → Prop} {rows : List (List xq_Row)} {own : String} {ini : Bool} (hok : xq_okM (xq_sg y).2.1 own ini (xq_sg y).2.2.2.1 rows = true) (hno : xq_no3 rows = true) (hown : (xq_sg y).1.cls = own) (hini : ini = true → (xq_sg y).1.name = "<init>") (hpl : plainFor (xq_sg y).1 = true) (h0 : xq_rp rows 0 = 0) (hlev : 1 ≤ lev) (hnx : nx + (xq_sg y).2.2.2.2 ≤ 81) (hln : (xq_ent as).length ≤ (xq_sg y).2.2.1)
    (body : ∀ K : xq_KT, xq_sound (xq_C lev) rows (nx + (xq_sg y).2.2.2.2) Q K → K 0 (xq_ent as ++ List.replicate ((xq_sg y).2.2.1 - (xq_ent as).length) none) [] nx h) : xq_met lev y as nx h Q := by
  intro l B D dA aI xs
  refine xq_ofW (cc := (xq_sg y).2.1) (maxL := (xq_sg y).2.2.1) (ret := (xq_sg y).2.2.2.1) hpl rfl ?_
  intro p e s m args below meth c s₁ Bd hml hv
  obtain ⟨rfl, hIm, hK, hRep, hrv, hB1, hB2⟩ := hv
  have hts0 := atoms_spec (ws := Jvm.Cond.code (xq_sg y).1 (xq_sg y).2.1 (xq_sg y).2.2.1 (xq_sg y).2.2.2.1 :: lw_gd) Bd.pre
  have hcls : s.vm.findClass own = some m.cls := by rw [← hown]; exact findClass_of_methodNamed Bd.named
  have hlocks := Bd.notSynchronized
  have hrt := Bd.returns
  have hb := Bd.bytes
  have m1 := xq_szs_le (show nx ≤ nx + (xq_sg y).2.2.2.2 by omega)
  have Cx : xq_Cx p (headSpec (Jvm.Cond.code (xq_sg y).1 (xq_sg y).2.1 (xq_sg y).2.2.1 (xq_sg y).2.2.2.1 :: lw_gd) (xq_rm lev nx (xq_sg y).2.2.2.2)).room s m (as.map (xq_cv B aI)).toArray meth c B D dA aI xs own ini (xq_sg y).2.2.2.1 rows nx (nx + (xq_sg y).2.2.2.2) lev := by
    refine ⟨Bd.exec, hcls, fun w hw => hts0 w (List.mem_cons_of_mem _ hw), hK, hIm, by rw [hb]; exact hok, ⟨hB1, hB2⟩, ⟨?_, Nat.le_refl _, Nat.le_refl _, Nat.le_refl _⟩, fun z => ?_, hnx, hlev⟩
    · show nx + (xq_sg y).2.2.2.2 - nx ≤ (xq_sg y).2.2.2.2
      omega
    · rw [(name_of_methodNamed Bd.named Bd.method).1]
      exact hini z
  have key := body _ (xq_sim (l := l) (e := e) (below := below) (Qf := MQ below (xq_Qc B D dA aI xs (nx + (xq_sg y).2.2.2.2) Q) (as.map (xq_cv B aI)).toArray s (nx + (xq_sg y).2.2.2.2 - nx) (xq_szs (nx + (xq_sg y).2.2.2.2) - xq_szs nx) (fun q => B ≤ q)) Cx hno
    (fun k v h H locs ls pc hd hk hi hR hS hv => by
      obtain ⟨ty, e1, e2, hq⟩ := xq_narrow hk hi hv
      exact W.zret Bd.exec rfl (hrt.trans e1) e2 (fun t ht hw => ⟨⟨some (xI v), h, rfl, fun w hw => by cases hw; exact hv, hq, by rw [ht]; exact hR⟩, hS.F ht⟩) hS.2.2 hd)
    (fun v h H locs ls pc hd hk hq hR hS hv => W.lret Bd.exec rfl (hrt.trans hk) (fun t ht hw => ⟨⟨some (xJ v), h, rfl, fun w hw => by cases hw; exact hv, hq, by rw [ht]; exact hR⟩, hS.F ht⟩) hS.2.2 hd)
    (fun o h H locs ls pc hd hk hq hR hS => by
      obtain ⟨rt0, e1, e2⟩ := hk
      exact W.aret Bd.exec rfl (hrt.trans e1) e2 (Or.inr ⟨_, rfl⟩) (fun t ht hw => ⟨⟨some (xR o), h, rfl, fun w hw => by cases hw; exact trivial, hq, by rw [ht]; exact hR⟩, hS.F ht⟩) hS.2.2 hd)
    (fun h H locs ls pc hd hk hq hR hS => W.vret Bd.exec rfl (hrt.trans hk) (fun t ht hw => ⟨⟨none, h, rfl, (by nofun), hq, by rw [ht]; exact hR⟩, hS.F ht⟩) hS.2.2 hd))
  rw [lg_entry_eq]
  have hlv := xq_lv_ent B aI as (xq_sg y).2.2.1 hln hrv
  rw [← hml] at hlv
  have k2 := key s.heap [] _ hRep va_S.rf (by rw [hml] at hlv ⊢; exact hlv) (by nofun) (Nat.le_refl _)
  rw [h0, Nat.sub_self, Nat.sub_self, show nx + (xq_sg y).2.2.2.2 - nx = (xq_sg y).2.2.2.2 by omega] at k2
  exact k2
