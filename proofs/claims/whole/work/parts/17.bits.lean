/-! BITS OF SMALL NUMBERS -/
theorem xb_nat {n : Nat} (h : n < 4294967296) : (Int32.ofInt (n : Int)).toBitVec = BitVec.ofNat 32 n := by
  show BitVec.ofInt 32 (n : Int) = _
  exact BitVec.ofInt_natCast ..
theorem xb_toInt {x : Int32} {n : Nat} (hn : n < 2147483648) (h : x.toBitVec = BitVec.ofNat 32 n) : x.toInt = n := by
  have e : x = Int32.ofInt (n : Int) := Int32.toBitVec_inj.mp (by rw [h, xb_nat (by omega)])
  rw [e, xi_of (by omega)]
theorem xb_andN {n k : Nat} (hn : n < 2147483648) (hk : k < 4294967296) (x : Int32) (hx : x.toBitVec = BitVec.ofNat 32 k) : (Int32.ofInt (n : Int) &&& x).toInt = ((n &&& k : Nat) : Int) := by
  apply xb_toInt
  · exact Nat.lt_of_le_of_lt Nat.and_le_left hn
  · show (Int32.ofInt (n : Int)).toBitVec &&& x.toBitVec = _
    rw [hx, xb_nat (by omega), BitVec.ofNat_and]
theorem xb_orN {n k : Nat} (hn : n < 2147483648) (hk : k < 2147483648) : xq_or n k = ((n ||| k : Nat) : Int) := by
  unfold xq_or
  apply xb_toInt
  · exact Nat.or_lt_two_pow (n := 31) hn hk
  · show (Int32.ofInt (n : Int)).toBitVec ||| (Int32.ofInt (k : Int)).toBitVec = _
    rw [xb_nat (by omega), xb_nat (by omega), BitVec.ofNat_or]
theorem xb_xorN {n k : Nat} (hn : n < 2147483648) (hk : k < 2147483648) : xq_xor n k = ((n ^^^ k : Nat) : Int) := by
  unfold xq_xor
  apply xb_toInt
  · exact Nat.xor_lt_two_pow (n := 31) hn hk
  · show (Int32.ofInt (n : Int)).toBitVec ^^^ (Int32.ofInt (k : Int)).toBitVec = _
    rw [xb_nat (by omega), xb_nat (by omega), BitVec.ofNat_xor]
theorem xb_and1 {x : Int} (h : 0 ≤ x ∧ x ≤ 2147483647) : xq_and x 1 = x % 2 := by
  obtain ⟨n, rfl⟩ := Int.eq_ofNat_of_zero_le h.1
  unfold xq_and
  rw [xb_andN (k := 1) (by omega) (by decide) _ rfl, Nat.and_one_is_mod]
  omega
theorem xb_shr1 {x : Int} (h : 0 ≤ x ∧ x ≤ 2147483647) : xq_shr x 1 = x / 2 := by
  obtain ⟨n, rfl⟩ := Int.eq_ofNat_of_zero_le h.1
  unfold xq_shr
  have e := pk_shrN (n := n) (by omega) (Int32.ofInt 1 &&& 31) 1 (by decide)
  have e2 : Int32.ofInt (n : Int) >>> (Int32.ofInt 1 &&& 31) = Int32.ofInt (((n / 2 : Nat)) : Int) := e
  rw [e2, xi_of (by omega)]
  omega
theorem xb_shl1 {x : Int} (h : 0 ≤ x ∧ x ≤ 1073741823) : xq_shl x 1 = 2 * x := by
  obtain ⟨n, rfl⟩ := Int.eq_ofNat_of_zero_le h.1
  unfold xq_shl
  have e := pk_shlN (n := n) (Int32.ofInt 1 &&& 31) 1 (by decide) (by omega)
  have e2 : Int32.ofInt (n : Int) <<< (Int32.ofInt 1 &&& 31) = Int32.ofInt (((n * 2 : Nat)) : Int) := e
  rw [e2, xi_of (by omega)]
  omega
theorem xb_tb (n : Nat) : n ^^^ 1 = n / 2 * 2 + (1 - n % 2) := by
  apply Nat.eq_of_testBit_eq
  intro i
  cases i with
  | zero => rw [Nat.testBit_xor]; simp only [Nat.testBit_zero]; rcases Nat.mod_two_eq_zero_or_one n with e | e <;> simp [e] <;> omega
  | succ i =>
    rw [Nat.testBit_xor, Nat.testBit_succ, Nat.testBit_succ, Nat.testBit_succ, show (n / 2 * 2 + (1 - n % 2)) / 2 = n / 2 by omega, show 1 / 2 = 0 by decide, Nat.zero_testBit]
    simp
theorem xb_tbo (n : Nat) : n ||| 1 = n / 2 * 2 + 1 := by
  apply Nat.eq_of_testBit_eq
  intro i
  cases i with
  | zero => rw [Nat.testBit_or]; simp only [Nat.testBit_zero]; rcases Nat.mod_two_eq_zero_or_one n with e | e <;> simp [e]
  | succ i =>
    rw [Nat.testBit_or, Nat.testBit_succ, Nat.testBit_succ, Nat.testBit_succ, show (n / 2 * 2 + 1) / 2 = n / 2 by omega, show 1 / 2 = 0 by decide, Nat.zero_testBit]
    simp
theorem xb_tba {n : Nat} (h : n < 2147483648) : n &&& 4294967294 = n / 2 * 2 := by
  apply Nat.eq_of_testBit_eq
  intro i
  cases i with
  | zero => rw [Nat.testBit_and]; simp only [Nat.testBit_zero]; simp
  | succ i =>
    rw [Nat.testBit_and, Nat.testBit_succ, Nat.testBit_succ, Nat.testBit_succ, ← Nat.testBit_and, show 4294967294 / 2 = 2 ^ 31 - 1 by decide, Nat.and_two_pow_sub_one_eq_mod, Nat.mod_eq_of_lt (by omega), show n / 2 * 2 / 2 = n / 2 by omega]
theorem xb_xor1 {x : Int} (h : 0 ≤ x ∧ x ≤ 2147483647) : xq_xor x 1 = x + 1 - 2 * (x % 2) := by
  obtain ⟨n, rfl⟩ := Int.eq_ofNat_of_zero_le h.1
  have e := xb_xorN (n := n) (k := 1) (by omega) (by decide)
  rw [show ((1 : Nat) : Int) = 1 from rfl] at e
  rw [e, xb_tb]
  omega
theorem xb_or0 {x : Int} (h : 0 ≤ x ∧ x ≤ 2147483647) : xq_or x 0 = x := by
  obtain ⟨n, rfl⟩ := Int.eq_ofNat_of_zero_le h.1
  have e := xb_orN (n := n) (k := 0) (by omega) (by decide)
  rw [show ((0 : Nat) : Int) = 0 from rfl] at e
  rw [e, Nat.or_zero]
theorem xb_or1 {x : Int} (h : 0 ≤ x ∧ x ≤ 2147483647) : xq_or x 1 = x + 1 - x % 2 := by
  obtain ⟨n, rfl⟩ := Int.eq_ofNat_of_zero_le h.1
  have e := xb_orN (n := n) (k := 1) (by omega) (by decide)
  rw [show ((1 : Nat) : Int) = 1 from rfl] at e
  rw [e, xb_tbo]
  omega
theorem xb_andm {x b : Int} (h : 0 ≤ x ∧ x ≤ 2147483647) (hb : b = 0 ∨ b = 1) : xq_and x (xq_or b (-2)) = if b = 1 then x else x - x % 2 := by
  obtain ⟨n, rfl⟩ := Int.eq_ofNat_of_zero_le h.1
  rcases hb with rfl | rfl
  · rw [show xq_or 0 (-2) = -2 by decide, if_neg (by decide)]
    unfold xq_and
    rw [xb_andN (k := 4294967294) (by omega) (by decide) _ (by decide), xb_tba (by omega)]
    omega
  · rw [show xq_or 1 (-2) = -1 by decide, if_pos rfl]
    unfold xq_and
    rw [xb_andN (k := 4294967295) (by omega) (by decide) _ (by decide), show 4294967295 = 2 ^ 32 - 1 by decide, Nat.and_two_pow_sub_one_eq_mod, Nat.mod_eq_of_lt (by omega)]
