/-! THE LAW'S ABSTRACT RUN, FROM ITS ENTRY -/
theorem lx_run {lev : Nat} {Q : Option xq_V → xq_H → Prop} {K : xq_KT} {xs : Int → Int} (hK : xq_sound (xq_C lev) rw_L_law 81 Q K) (hl : 70 ≤ lev) (hQ : ∀ h', Q (some (xI 1)) h') (hL0 : 0 ≤ xs (-1)) (hL : xs (-1) ≤ 2560) (hs : ∀ j, -2147483648 ≤ xs j ∧ xs j ≤ 2147483647) (up : ∀ L h, xq_good h → K 10 L [] 81 h → K 10 L [] 80 h) : K 0 [some (xR 999), none, none, none] [] 0 (xz_0 xs) := by
  refine xq_go hK [10] 60 ?_
  refine ⟨lev - 1, by omega, c_i_X_0 (by omega) ?_⟩
  refine ⟨lev - 1, by omega, c_i_M_64 (by omega) ?_⟩
  refine up _ (xz_F (xz_0 xs)) (xz_good xs) ?_
  have e9 := (xz_F9 hs).1
  refine lx_loop hK hl hQ 3000 (xz_F (xz_0 xs)) [] [] 0 0 (xz_in (xz_FN xs)) (Int.le_refl _) (Int.le_refl _) (by decide) ?_ ?_ ?_ ?_
  · rw [e9]; exact hL0
  · rw [e9]; exact hL
  · rw [e9]; exact hs
  · rw [e9]
    have : ((3000 : Nat) : Int) = 3000 := rfl
    omega
section XUP
variable {p : Program} {l : Launch} {e : Env} {R : Room} {s : State} {m : MethodId} {args : Array Value} {below : List Frame} {meth : Method} {c : Code} {B : Nat} {D : va_G} {dA : Nat → ClassId} {aI : Nat → Nat} {xs : Int → Int} {rows : List (List xq_Row)} {nx0 : Nat} {Qf : State → Prop}
/-- all is made: the fields that hold objects are as they stay -/
theorem lx_up {pc : Nat} {L : xq_L} {S : List xq_V} {h : xq_H} (hg : xq_good h) (k : xq_KW p l e R s m args below meth c B D dA aI xs rows nx0 Qf pc L S 81 h) : xq_KW p l e R s m args below meth c B D dA aI xs rows nx0 Qf pc L S 80 h := by
  intro H locs ls hR hS hl hr hn
  have k1 := k H locs ls ⟨hR.1, hR.2.1, hR.2.2.1, fun _ => hg, Nat.le_refl _⟩ hS hl hr (by omega)
  exact W.widen (by omega) (Nat.sub_le_sub_right (xq_szs_le (show 80 ≤ 81 by decide)) _) k1
end XUP
