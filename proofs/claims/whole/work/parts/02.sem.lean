/-! ABSTRACT RUNS: a method's bytecode over whole numbers and a heap of numbers; objects by their order of making -/
abbrev xq_V : Type := Int ⊕ (Int ⊕ Nat)
abbrev xI (i : Int) : xq_V := Sum.inl i
abbrev xJ (i : Int) : xq_V := Sum.inr (Sum.inl i)
abbrev xR (o : Nat) : xq_V := Sum.inr (Sum.inr o)
abbrev xq_H : Type := Nat → Int → Int
def xq_u (h : xq_H) (o : Nat) (k v : Int) : xq_H := fun o' k' => if o' = o then (if k' = k then v else h o' k') else h o' k'
def xq_z (h : xq_H) (o : Nat) : xq_H := fun o' k' => if o' = o then 0 else h o' k'
/-- what an int operation makes -/
def xq_wr (x : Int) : Int := (x + 2147483648) % 4294967296 - 2147483648
def xq_and (a b : Int) : Int := (Int32.ofInt a &&& Int32.ofInt b).toInt
def xq_or (a b : Int) : Int := (Int32.ofInt a ||| Int32.ofInt b).toInt
def xq_xor (a b : Int) : Int := (Int32.ofInt a ^^^ Int32.ofInt b).toInt
def xq_shl (a b : Int) : Int := (Int32.ofInt a <<< (Int32.ofInt b &&& 31)).toInt
def xq_shr (a b : Int) : Int := (Int32.ofInt a >>> (Int32.ofInt b &&& 31)).toInt
def xq_ushr (a b : Int) : Int := (((Int32.ofInt a).toUInt32 >>> ((Int32.ofInt b).toUInt32 &&& Int32.toUInt32 31)).toInt32).toInt
def xq_lc (a b : Int) : Int := if a < b then -1 else if a = b then 0 else 1
abbrev xq_L : Type := List (Option xq_V)
def xq_get : xq_L → Nat → Option xq_V
  | [], _ => none
  | a :: _, 0 => a
  | _ :: l, n + 1 => xq_get l n
/-- a list, cell by cell -/
def xq_nrm : xq_L → (xq_L → Prop) → Prop
  | [], K => K []
  | a :: l, K => xq_nrm l (fun l' => K (a :: l'))
theorem xq_nrm_s : ∀ (L : xq_L) (K : xq_L → Prop), xq_nrm L K → K L
  | [], _, h => h
  | a :: l, K, h => xq_nrm_s l (fun l' => K (a :: l')) h
def xq_pl : xq_L → Nat → Bool
  | _, 0 => false
  | L, i + 1 => match xq_get L i with
    | some (.inr (.inl _)) => true
    | _ => false
def xq_st (L : xq_L) (i : Nat) (v : xq_V) (K : xq_L → Prop) : Prop := match Nat.blt i L.length with
  | true => match xq_pl L i with
    | false => xq_nrm (L.set i (some v)) K
    | true => False
  | false => False
def xq_st2 (L : xq_L) (i : Nat) (v : xq_V) (K : xq_L → Prop) : Prop := match Nat.blt (i + 1) L.length with
  | true => match xq_pl L i with
    | false => xq_nrm ((L.set i (some v)).set (i + 1) none) K
    | true => False
  | false => False
def xq_cat : List xq_V → Nat
  | [] => 0
  | .inr (.inl _) :: S => xq_cat S + 2
  | _ :: S => xq_cat S + 1
/-- the last n of a stack, as arguments -/
def xq_pop : Nat → List xq_V → List xq_V → Option (List xq_V × List xq_V)
  | 0, acc, S => some (acc, S)
  | n + 1, acc, v :: S => xq_pop n (v :: acc) S
  | _ + 1, _, [] => none
abbrev xq_Row : Type := Instr × (Nat × Nat × Nat) × List Nat × List Int
def xq_sw (K : Nat → Prop) (d : Nat) (x : Int) : List Nat → List Int → Prop
  | t :: ts, v :: vs => (x = v → K t) ∧ (¬ x = v → xq_sw K d x ts vs)
  | _, _ => K d
/-- the world's fixed shape: objects by number (classes by place; arrays: 0 ints, 1 booleans; length) -/
def xq_cls (o : Nat) : Nat ⊕ (Nat × Nat) := ((xq_shl2.getD (o / 8) []).getD (o % 8) (Sum.inl 99))
def xq_con (o : Nat) : List Int := match o with
  | 1001 => [-1, 0, 0, 0, 1, 2, 3]
  | 1002 => [1, 2, 3, 11, 0, 0, 0, 21, 0, 0, 0, 31, 0, 0, 41, 51, 0, 0, 0, 61, 0]
  | _ => []
def xq_str (i : Nat) : List Int := xq_strs.getD i []
/-- an int array read -/
def xq_ild (nx : Nat) (h : xq_H) (o : Nat) (i : Int) (K : Int → Prop) : Prop := match Nat.ble 999 o with
  | false => (match Nat.blt o nx with
    | true => (match xq_cls o with
      | .inr (0, n) => (0 ≤ i ∧ i < (n : Int)) ∧ K (h o i)
      | _ => False)
    | false => False)
  | true => (match Nat.beq o 999 with
    | true => (0 ≤ i ∧ i < h 999 (-1)) ∧ K (h 999 i)
    | false => (match xq_con o with
      | [] => False
      | a :: l => (0 ≤ i ∧ i < ((a :: l).length : Int)) ∧ K ((a :: l).getD i.toNat 0)))
def xq_bld (nx : Nat) (h : xq_H) (o : Nat) (i : Int) (K : Int → Prop) : Prop := match Nat.ble 999 o with
  | false => (match Nat.blt o nx with
    | true => (match xq_cls o with
      | .inr (1, n) => (0 ≤ i ∧ i < (n : Int)) ∧ K (h o i)
      | _ => False)
    | false => False)
  | true => (match Nat.ble 1200 o && Nat.ble o 1209 with
    | true => (0 ≤ i ∧ i < ((xq_str (o - 1200)).length : Int)) ∧ K ((xq_str (o - 1200)).getD i.toNat 0)
    | false => False)
def xq_len (nx : Nat) (h : xq_H) (o : Nat) (K : Int → Prop) : Prop := match Nat.ble 999 o with
  | false => (match Nat.blt o nx with
    | true => (match xq_cls o with
      | .inr (_, n) => K (n : Int)
      | _ => False)
    | false => False)
  | true => (match Nat.beq o 999 with
    | true => K (h 999 (-1))
    | false => (match Nat.ble 1200 o && Nat.ble o 1209 with
      | true => K ((xq_str (o - 1200)).length : Int)
      | false => False))
def xq_ast (t nx : Nat) (h : xq_H) (o : Nat) (i v : Int) (K : xq_H → Prop) : Prop := match xq_cls o with
  | .inr (t', n) => (match Nat.beq t t' && Nat.blt o nx with
    | true => (0 ≤ i ∧ i < (n : Int)) ∧ K (xq_u h o i v)
    | false => False)
  | _ => False
/-- a number as it is written -/
def xq_lit (n : Nat) (K : Nat → Prop) : Prop := match n with
  | 0 => K 0
  | 1 => K 1
  | 2 => K 2
  | 3 => K 3
  | 4 => K 4
  | 5 => K 5
  | 6 => K 6
  | 7 => K 7
  | 8 => K 8
  | 9 => K 9
  | 10 => K 10
  | 11 => K 11
  | 12 => K 12
  | 13 => K 13
  | 14 => K 14
  | 15 => K 15
  | 16 => K 16
  | 17 => K 17
  | 18 => K 18
  | 19 => K 19
  | 20 => K 20
  | 21 => K 21
  | 22 => K 22
  | 23 => K 23
  | 24 => K 24
  | 25 => K 25
  | 26 => K 26
  | 27 => K 27
  | 28 => K 28
  | 29 => K 29
  | 30 => K 30
  | 31 => K 31
  | 32 => K 32
  | 33 => K 33
  | 34 => K 34
  | 35 => K 35
  | 36 => K 36
  | 37 => K 37
  | 38 => K 38
  | 39 => K 39
  | 40 => K 40
  | 41 => K 41
  | 42 => K 42
  | 43 => K 43
  | 44 => K 44
  | 45 => K 45
  | 46 => K 46
  | 47 => K 47
  | 48 => K 48
  | 49 => K 49
  | 50 => K 50
  | 51 => K 51
  | 52 => K 52
  | 53 => K 53
  | 54 => K 54
  | 55 => K 55
  | 56 => K 56
  | 57 => K 57
  | 58 => K 58
  | 59 => K 59
  | 60 => K 60
  | 61 => K 61
  | 62 => K 62
  | 63 => K 63
  | 64 => K 64
  | 65 => K 65
  | 66 => K 66
  | 67 => K 67
  | 68 => K 68
  | 69 => K 69
  | 70 => K 70
  | 71 => K 71
  | 72 => K 72
  | 73 => K 73
  | 74 => K 74
  | 75 => K 75
  | 76 => K 76
  | 77 => K 77
  | 78 => K 78
  | 79 => K 79
  | _ => False
theorem xq_lit_s {K : Nat → Prop} : ∀ n, xq_lit n K → K n ∧ n < 80 := by
  intro n h
  unfold xq_lit at h
  split at h
  all_goals first | exact ⟨h, by decide⟩ | exact h.elim
/-- the field k of an object of the class ci -/
def xq_gf (kind ci k : Nat) (kI : Int) (nx : Nat) (h : xq_H) (o : Nat) (K : xq_V → Prop) : Prop := match kind with
  | 4 => (match Nat.ble 1100 o && Nat.ble o 1109 with
    | true => K (xI 0)
    | false => False)
  | 5 => (match Nat.ble 1100 o && Nat.ble o 1109 with
    | true => K (xR (o + 100))
    | false => False)
  | _ => (match xq_cls o with
    | .inl ci' => (match Nat.beq ci ci' && Nat.blt o nx with
      | true => (match kind with
        | 2 => xq_lit (xq_rf o k) (fun t => match Nat.beq nx 81 with
            | true => K (xR t)
            | false => h o kI = (t : Int) + 1 ∧ K (xR t))
        | 3 => ∃ t : Nat, h o kI = (t : Int) + 1 ∧ t < 80 ∧ K (xR t)
        | _ => K (xI (h o kI)))
      | false => False)
    | _ => False)
def xq_pf (kind ci k : Nat) (kI : Int) (nx : Nat) (h : xq_H) (o : Nat) (v : xq_V) (K : xq_H → Prop) : Prop := match xq_cls o with
  | .inl ci' => (match Nat.beq ci ci' && Nat.blt o nx with
    | true => (match kind, v with
      | 0, .inl x => K (xq_u h o kI x)
      | 1, .inl x => (x = 0 ∨ x = 1) ∧ K (xq_u h o kI x)
      | 2, .inr (.inr t) => (match Nat.beq nx 81 with
        | true => False
        | false => (t = xq_rf o k ∧ t < 80) ∧ K (xq_u h o kI ((t : Int) + 1)))
      | 3, .inr (.inr t) => t < 80 ∧ K (xq_u h o kI ((t : Int) + 1))
      | _, _ => False)
    | false => False)
  | _ => False
def xq_cz (c : ClassFile.Cond) (a b : Int) (K1 K2 : Prop) : Prop := match c with
  | .eq => (a = b → K1) ∧ (¬ a = b → K2)
  | .ne => (¬ a = b → K1) ∧ (a = b → K2)
  | .lt => (a < b → K1) ∧ (¬ a < b → K2)
  | .ge => (¬ a < b → K1) ∧ (a < b → K2)
  | .gt => (b < a → K1) ∧ (¬ b < a → K2)
  | .le => (¬ b < a → K1) ∧ (b < a → K2)
def xq_ari (md : Nat) (x : Int) (K : Int → Prop) : Prop := match md with
  | 0 => (-2147483648 ≤ x ∧ x ≤ 2147483647) ∧ K x
  | _ => K (xq_wr x)
def xq_ir (rt : Nat) (v : Int) (K : Prop) : Prop := match rt with
  | 0 => K
  | 1 => (v = 0 ∨ v = 1) ∧ K
  | 2 => (0 ≤ v ∧ v ≤ 65535) ∧ K
  | _ => (-128 ≤ v ∧ v ≤ 127) ∧ K
def xq_at (rows : List (List xq_Row)) (n : Nat) : Option xq_Row := (rows.getD (n / 16) [])[n % 16]?
abbrev xq_KT : Type := Nat → xq_L → List xq_V → Nat → xq_H → Prop
/-- one instruction: what must hold for it to go on (C: calls; Q: the return) -/
def xq_exec (C : Nat → List xq_V → Nat → xq_H → (Option xq_V → xq_H → Prop) → Prop) (nxE : Nat) (Q : Option xq_V → xq_H → Prop) (K : xq_KT) (r : Option xq_Row) (L : xq_L) (S : List xq_V) (nx : Nat) (h : xq_H) : Prop := match r with
  | none => False
  | some (ins, (_, _, nxt), ax, vs) => match ins with
    | .iload_n k => (match xq_get L k.val with | some (.inl i) => K nxt L (xI i :: S) nx h | _ => False)
    | .iload k => (match xq_get L k with | some (.inl i) => K nxt L (xI i :: S) nx h | _ => False)
    | .lload_n k => (match xq_get L k.val with | some (.inr (.inl i)) => K nxt L (xJ i :: S) nx h | _ => False)
    | .lload k => (match xq_get L k with | some (.inr (.inl i)) => K nxt L (xJ i :: S) nx h | _ => False)
    | .aload_n k => (match xq_get L k.val with | some (.inr (.inr i)) => K nxt L (xR i :: S) nx h | _ => False)
    | .aload k => (match xq_get L k with | some (.inr (.inr i)) => K nxt L (xR i :: S) nx h | _ => False)
    | .istore_n k => (match S with | .inl i :: S' => xq_st L k.val (xI i) (fun L' => K nxt L' S' nx h) | _ => False)
    | .istore k => (match S with | .inl i :: S' => xq_st L k (xI i) (fun L' => K nxt L' S' nx h) | _ => False)
    | .astore_n k => (match S with | .inr (.inr i) :: S' => xq_st L k.val (xR i) (fun L' => K nxt L' S' nx h) | _ => False)
    | .astore k => (match S with | .inr (.inr i) :: S' => xq_st L k (xR i) (fun L' => K nxt L' S' nx h) | _ => False)
    | .lstore k => (match S with | .inr (.inl i) :: S' => xq_st2 L k (xJ i) (fun L' => K nxt L' S' nx h) | _ => False)
    | .iconst n => K nxt L (xI n :: S) nx h
    | .bipush n => K nxt L (xI n :: S) nx h
    | .sipush n => K nxt L (xI n :: S) nx h
    | .lconst n => (match vs with | [v] => K nxt L (xJ v :: S) nx h | _ => False)
    | .ldc _ => (match ax, vs with
      | [0, _], [v] => K nxt L (xI v :: S) nx h
      | [1, i, _], _ => K nxt L (xR (1100 + i) :: S) nx h
      | _, _ => False)
    | .ldc_w _ => (match vs with | [v] => K nxt L (xI v :: S) nx h | _ => False)
    | .ldc2_w _ => (match vs with | [v] => K nxt L (xJ v :: S) nx h | _ => False)
    | .iadd => (match ax, S with | [md], .inl b :: .inl a :: S' => xq_ari md (a + b) (fun x => K nxt L (xI x :: S') nx h) | _, _ => False)
    | .isub => (match ax, S with | [md], .inl b :: .inl a :: S' => xq_ari md (a - b) (fun x => K nxt L (xI x :: S') nx h) | _, _ => False)
    | .imul => (match ax, S with | [md], .inl b :: .inl a :: S' => xq_ari md (a * b) (fun x => K nxt L (xI x :: S') nx h) | _, _ => False)
    | .ineg => (match ax, S with | [md], .inl a :: S' => xq_ari md (-a) (fun x => K nxt L (xI x :: S') nx h) | _, _ => False)
    | .idiv => (match S with | .inl b :: .inl a :: S' => (0 ≤ a ∧ 0 < b) ∧ K nxt L (xI (a / b) :: S') nx h | _ => False)
    | .irem => (match S with | .inl b :: .inl a :: S' => (0 ≤ a ∧ 0 < b) ∧ K nxt L (xI (a % b) :: S') nx h | _ => False)
    | .ldiv => (match S with | .inr (.inl b) :: .inr (.inl a) :: S' => (0 ≤ a ∧ 0 < b) ∧ K nxt L (xJ (a / b) :: S') nx h | _ => False)
    | .lrem => (match S with | .inr (.inl b) :: .inr (.inl a) :: S' => (0 ≤ a ∧ 0 < b) ∧ K nxt L (xJ (a % b) :: S') nx h | _ => False)
    | .lcmp => (match S with | .inr (.inl b) :: .inr (.inl a) :: S' => K nxt L (xI (xq_lc a b) :: S') nx h | _ => False)
    | .ishl => (match S with | .inl b :: .inl a :: S' => K nxt L (xI (xq_shl a b) :: S') nx h | _ => False)
    | .ishr => (match S with | .inl b :: .inl a :: S' => K nxt L (xI (xq_shr a b) :: S') nx h | _ => False)
    | .iushr => (match S with | .inl b :: .inl a :: S' => K nxt L (xI (xq_ushr a b) :: S') nx h | _ => False)
    | .iand => (match S with | .inl b :: .inl a :: S' => K nxt L (xI (xq_and a b) :: S') nx h | _ => False)
    | .ior => (match S with | .inl b :: .inl a :: S' => K nxt L (xI (xq_or a b) :: S') nx h | _ => False)
    | .ixor => (match S with | .inl b :: .inl a :: S' => K nxt L (xI (xq_xor a b) :: S') nx h | _ => False)
    | .i2l => (match S with | .inl a :: S' => K nxt L (xJ a :: S') nx h | _ => False)
    | .i2c => (match S with | .inl a :: S' => (0 ≤ a ∧ a ≤ 65535) ∧ K nxt L (xI a :: S') nx h | _ => False)
    | .i2b => (match S with | .inl a :: S' => (0 ≤ a ∧ a ≤ 127) ∧ K nxt L (xI a :: S') nx h | _ => False)
    | .iinc k n => (match xq_get L k with | some (.inl i) => xq_ari 0 (i + n) (fun x => xq_st L k (xI x) (fun L' => K nxt L' S nx h)) | _ => False)
    | .dup => (match S with | .inl a :: S' => K nxt L (xI a :: xI a :: S') nx h | .inr (.inr a) :: S' => K nxt L (xR a :: xR a :: S') nx h | _ => False)
    | .dup2 => (match S with | .inl a :: .inr (.inr b) :: S' => K nxt L (xI a :: xR b :: xI a :: xR b :: S') nx h | _ => False)
    | .pop => (match S with | .inl _ :: S' => K nxt L S' nx h | .inr (.inr _) :: S' => K nxt L S' nx h | _ => False)
    | .getfield _ => (match ax, vs, S with | [kind, ci, k, _], [kI], .inr (.inr o) :: S' => xq_gf kind ci k kI nx h o (fun v => K nxt L (v :: S') nx h) | _, _, _ => False)
    | .putfield _ => (match ax, vs, S with | [kind, ci, k, _, _], [kI], v :: .inr (.inr o) :: S' => xq_pf kind ci k kI nx h o v (fun h' => K nxt L S' nx h') | _, _, _ => False)
    | .getstatic _ => (match ax with | [0, o, _, _] => K nxt L (xR o :: S) nx h | [1, _, _, _] => K nxt L (xI 1 :: S) nx h | _ => False)
    | .iaload => (match S with | .inl i :: .inr (.inr o) :: S' => xq_ild nx h o i (fun x => K nxt L (xI x :: S') nx h) | _ => False)
    | .baload => (match S with | .inl i :: .inr (.inr o) :: S' => xq_bld nx h o i (fun x => K nxt L (xI x :: S') nx h) | _ => False)
    | .arraylength => (match S with | .inr (.inr o) :: S' => xq_len nx h o (fun x => K nxt L (xI x :: S') nx h) | _ => False)
    | .iastore => (match S with | .inl v :: .inl i :: .inr (.inr o) :: S' => xq_ast 0 nx h o i v (fun h' => K nxt L S' nx h') | _ => False)
    | .bastore => (match S with | .inl v :: .inl i :: .inr (.inr o) :: S' => (v = 0 ∨ v = 1) ∧ xq_ast 1 nx h o i v (fun h' => K nxt L S' nx h') | _ => False)
    | .newarray _ => (match ax, S with
      | [t], .inl n :: S' => (match xq_cls nx with
        | .inr (t', n') => (match Nat.beq t t' && Nat.blt nx nxE with
          | true => n = (n' : Int) ∧ K nxt L (xR nx :: S') (nx + 1) (xq_z h nx)
          | false => False)
        | _ => False)
      | _, _ => False)
    | .new _ => (match ax with
      | [ci, _, _, _] => (match xq_cls nx with
        | .inl ci' => (match Nat.beq ci ci' && Nat.blt nx nxE with
          | true => K nxt L (xR nx :: S) (nx + 1) (xq_z h nx)
          | false => False)
        | _ => False)
      | _ => False)
    | .goto _ => (match ax with | [t] => K t L S nx h | _ => False)
    | .ifCond c _ => (match ax, S with | [t], .inl a :: S' => xq_cz c a 0 (K t L S' nx h) (K nxt L S' nx h) | _, _ => False)
    | .if_icmp c _ => (match ax, S with | [t], .inl b :: .inl a :: S' => xq_cz c a b (K t L S' nx h) (K nxt L S' nx h) | _, _ => False)
    | .tableswitch _ _ _ _ => (match ax, S with | d :: ts, .inl a :: S' => xq_sw (fun t => K t L S' nx h) d a ts vs | _, _ => False)
    | .lookupswitch _ _ => (match ax, S with | d :: ts, .inl a :: S' => xq_sw (fun t => K t L S' nx h) d a ts vs | _, _ => False)
    | .invokevirtual _ => (match ax with
      | y :: n :: bc :: rci :: _ => (match xq_pop (n + 1) [] S with
        | some (.inr (.inr o) :: as, S') => (match (match rci with | 99 => Nat.ble 1100 o && Nat.ble o 1109 | _ => (match xq_cls o with | .inl ci => Nat.beq ci rci && Nat.blt o nx | _ => false)) && Nat.ble (xq_cat S') 8 && Nat.ble (nx + bc) nxE with
          | true => C y (xR o :: as) nx h (fun v h' => match v with | none => K nxt L S' (nx + bc) h' | some w => K nxt L (w :: S') (nx + bc) h')
          | false => False)
        | _ => False)
      | _ => False)
    | .invokestatic _ => (match ax with
      | y :: n :: bc :: _ => (match xq_pop n [] S with
        | some (as, S') => (match Nat.ble (xq_cat S') 8 && Nat.ble (nx + bc) nxE with
          | true => C y as nx h (fun v h' => match v with | none => K nxt L S' (nx + bc) h' | some w => K nxt L (w :: S') (nx + bc) h')
          | false => False)
        | _ => False)
      | _ => False)
    | .invokespecial _ => (match ax with
      | [_] => (match S with | .inr (.inr _) :: S' => (match Nat.ble (xq_cat S') 8 with | true => K nxt L S' nx h | false => False) | _ => False)
      | y :: n :: bc :: _ => (match xq_pop (n + 1) [] S with
        | some (.inr (.inr o) :: as, S') => (match Nat.ble (xq_cat S') 8 && Nat.ble (nx + bc) nxE with
          | true => C y (xR o :: as) nx h (fun v h' => match v with | none => K nxt L S' (nx + bc) h' | some w => K nxt L (w :: S') (nx + bc) h')
          | false => False)
        | _ => False)
      | _ => False)
    | .ireturn => (match ax, S with | [rt], [.inl v] => (match Nat.beq nx nxE with | true => xq_ir rt v (Q (some (xI v)) h) | false => False) | _, _ => False)
    | .lreturn => (match S with | [.inr (.inl v)] => (match Nat.beq nx nxE with | true => Q (some (xJ v)) h | false => False) | _ => False)
    | .areturn => (match S with | [.inr (.inr o)] => (match Nat.beq nx nxE with | true => Q (some (xR o)) h | false => False) | _ => False)
    | .return_ => (match S with | [] => (match Nat.beq nx nxE with | true => Q none h | false => False) | _ => False)
    | _ => False
/-- closed under an instruction -/
def xq_sound (C : Nat → List xq_V → Nat → xq_H → (Option xq_V → xq_H → Prop) → Prop) (rows : List (List xq_Row)) (nxE : Nat) (Q : Option xq_V → xq_H → Prop) (K : xq_KT) : Prop :=
  ∀ (K' : xq_KT) (pc : Nat) (L : xq_L) (S : List xq_V) (nx : Nat) (h : xq_H), (∀ pc L S nx h, K' pc L S nx h → K pc L S nx h) → xq_exec C nxE Q K' (xq_at rows pc) L S nx h → K pc L S nx h
def xq_in (n : Nat) : List Nat → Bool
  | [] => false
  | a :: l => match Nat.beq n a with
    | true => true
    | false => xq_in n l
/-- n instructions, or till a place of 'cuts' comes again -/
def xq_blk (C : Nat → List xq_V → Nat → xq_H → (Option xq_V → xq_H → Prop) → Prop) (rows : List (List xq_Row)) (nxE : Nat) (Q : Option xq_V → xq_H → Prop) (K : xq_KT) (cuts : List Nat) : Nat → xq_KT
  | 0, pc, L, S, nx, h => K pc L S nx h
  | n + 1, pc, L, S, nx, h => xq_exec C nxE Q (fun pc' L' S' nx' h' => match xq_in pc' cuts with
    | true => K pc' L' S' nx' h'
    | false => xq_blk C rows nxE Q K cuts n pc' L' S' nx' h') (xq_at rows pc) L S nx h
theorem xq_go {C : Nat → List xq_V → Nat → xq_H → (Option xq_V → xq_H → Prop) → Prop} {rows : List (List xq_Row)} {nxE : Nat} {Q : Option xq_V → xq_H → Prop} {K : xq_KT} (hK : xq_sound C rows nxE Q K) (cuts : List Nat) : ∀ (n : Nat) {pc : Nat} {L : xq_L} {S : List xq_V} {nx : Nat} {h : xq_H}, xq_blk C rows nxE Q K cuts n pc L S nx h → K pc L S nx h := by
  intro n
  induction n with
  | zero => intro pc L S nx h k; exact k
  | succ n ih =>
    intro pc L S nx h k
    refine hK _ pc L S nx h (fun pc' L' S' nx' h' k' => ?_) k
    split at k'
    · exact k'
    · exact ih k'
