/-! WHAT HOLDS BEFORE THE FIRST CALL -/
theorem xz_row : xz_N 65 = fun k => if k = 17 then -1 else 0 := by
  funext k
  rfl
theorem xz_ints : (xz_N 3 5 = 0 ∧ xz_N 9 3 = 0 ∧ xz_N 13 5 = 0 ∧ xz_N 17 0 = 12 ∧ xz_N 17 1 = 10 ∧ xz_N 17 4 = 0 ∧ xz_N 13 4 = 0 ∧ xz_N 13 3 = 0) ∧ (xz_N 21 3 = 0 ∧ xz_N 2 6 = 0 ∧ xz_N 2 7 = 0 ∧ xz_N 0 2 = 0 ∧ xz_N 64 4 = 0 ∧ xz_N 64 27 = 0 ∧ xz_N 60 1 = 0) := by decide +kernel
theorem xz_in {h : xq_H} (a : xz_A h xz_N) : xr_in h [] [] 0 := by
  obtain ⟨⟨e35, e93, e135, e170, e171, e174, e134, e133⟩, e213, e26, e27, e02, e644, e6427, e601⟩ := xz_ints
  have em : h 65 = fun k => if k = 17 then -1 else 0 := (a 65 (by decide)).trans xz_row
  have m0 : ∀ k : Int, k ≠ 17 → h 65 k = 0 := fun k hk => by rw [em]; dsimp only; rw [if_neg hk]
  have m17 : h 65 17 = -1 := by rw [em]; rfl
  have m11 := m0 11 (by decide)
  have m10 := m0 10 (by decide)
  have m16 := m0 16 (by decide)
  have m13 := m0 13 (by decide)
  have m14 := m0 14 (by decide)
  have m15 := m0 15 (by decide)
  have m12 := m0 12 (by decide)
  have m1 := m0 1 (by decide)
  have m00 := m0 0 (by decide)
  have hlim : xf_lim (h 65) = 12 := by unfold xf_lim; rw [if_pos m17]
  have hstp : xf_stp (h 65) = 10 := by unfold xf_stp; rw [if_pos m17]
  have okP : xf_okP [] := fun c hc => absurd hc (by simp)
  have g4 : h 64 4 = 0 := by rw [a 64 (by decide)]; exact e644
  have g27 : h 64 27 = 0 := by rw [a 64 (by decide)]; exact e6427
  refine ⟨⟨⟨⟨?_, ?_, ?_, ?_, ?_, ?_, ?_, ?_, ?_, ?_, ?_, ?_, ?_, ?_, ?_, okP, ?_, trivial⟩, ?_, ?_, ?_, ?_, ?_, ?_, ?_, ?_, ?_, ?_, ?_, ?_⟩, ?_, ?_, ?_, ?_⟩, ?_, Or.inl g4, ?_, ?_, ?_, ?_⟩
  · rw [m11, a 3 (by decide)]; exact e35
  · intro i h0 h1; omega
  · intro i h0 h1; omega
  · intro i h0 h1; omega
  · intro i h0 h1; omega
  · rw [m10, a 9 (by decide)]; exact e93
  · intro i h0 h1; omega
  · intro i h0 h1; omega
  · intro i h0 h1; omega
  · rw [m16, a 13 (by decide)]; exact e135
  · intro i h0 h1; omega
  · rw [hlim, a 17 (by decide)]; exact e170
  · rw [hstp, a 17 (by decide)]; exact e171
  · rw [a 17 (by decide)]; exact e174
  · exact Nat.zero_le _
  · exact Nat.zero_le _
  · intro i h0 h1; omega
  · rw [m1, a 13 (by decide)]; exact e134
  · rw [m13, a 13 (by decide)]; exact e133
  · intro i h0 h1; omega
  · intro i h0 h1; omega
  · rw [m14, a 21 (by decide)]; exact e213
  · intro i h0 h1; omega
  · intro i h0 h1; omega
  · intro i h0 h1; omega
  · rw [m15, a 2 (by decide)]; exact e26
  · intro i h0 h1; omega
  · rw [m12, a 2 (by decide)]; exact e27
  · refine ⟨by omega, fun i h0 h1 => ?_, by omega, fun i h0 h1 => ?_, by omega, by omega, by omega, by omega, by omega⟩
    · omega
    · omega
  · refine ⟨by omega, fun i h0 h1 => ?_, fun i h0 h1 => ?_, by omega, fun i h0 h1 => ?_, by omega, fun i h0 h1 => ?_, by omega, by omega, ?_, fun i h0 h1 => ?_, fun i j h0 h1 h2 => ?_⟩
    · omega
    · omega
    · omega
    · omega
    · rw [if_pos m13]; exact m00
    · omega
    · omega
  · exact ⟨okP, Nat.zero_le _, Nat.zero_le _, fun _ => rfl, fun c => absurd c (by omega)⟩
  · omega
  · rw [g4, a 0 (by decide)]; exact e02
  · intro c; omega
  · rw [g27, a 60 (by decide)]; exact e601
  · omega
  · intro i h0 h1 h2; omega
