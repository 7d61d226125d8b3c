/-! FROM THE LAW'S ENTRY TO ITS END -/
theorem lx_nil {D : va_G} {cl : List vw_C} {H : Heap} : va_P D cl [] H := fun i e h => absurd h (by simp)
theorem lx_Rep {s : State} {D : va_G} {dA : Nat → ClassId} {xs : Int → Int} (hs : ∀ j, -2147483648 ≤ xs j ∧ xs j ≤ 2147483647) : xq_Rep s.heap.size D dA xs 0 (xz_0 xs) s.heap := by
  refine ⟨lx_nil, ?_, fun o k => ?_, fun h => absurd h (by decide), by decide⟩
  · funext k
    unfold xz_0
    rw [if_pos rfl]
  · unfold xz_0
    split
    · exact hs k
    · omega
set_option maxHeartbeats 2000000 in
/-- YOUR PART: from the entry, for every script of at most 2560 ints, the law comes to its end with true ('hflags': the launch's flags, for a law that throws: no stack traces) -/
theorem whole_start {p : Program} {e : Env} {s : State} {m : MethodId} {below : List Frame} {meth : Method} {c : Code} (l : Launch) (hflags : l.flags = flags0) {b L : Nat} {xs : Nat → Int32} (hL : L ≤ 2560) (C0 : lw_At p s m meth c b L xs) : W p l e room_1 s m #[Value.ref b] below meth c s.heap [] 0 0 (lw_Z below #[Value.ref b] s) (entryFrame m ([Value.ref b] : List Value).toArray 4) := by
  obtain ⟨hx, hb, hr, hml, hown, hts, hX, hbl, hlocks, hgv⟩ := C0
  obtain ⟨D, dA, hK⟩ := lx_K hts
  obtain ⟨aI, e9, hIm⟩ := lx_Im hL hts hX hgv
  have Cx : xq_Cx p room_1 s m #[Value.ref b] meth c s.heap.size D dA aI (lx_xs L xs) "PutBackLaw" false ret rw_L_law 0 81 1312 :=
    ⟨hx, hown, fun w hw => hts w (List.mem_filter.mp hw).1, hK, hIm, by rw [hb]; exact ok_L_law, ⟨Nat.le_refl _, fun _ => rfl⟩, ⟨Nat.le_of_ble_eq_true rfl, Nat.le_of_ble_eq_true rfl, Nat.le_of_ble_eq_true rfl, Nat.le_of_ble_eq_true rfl⟩, (by nofun), Nat.le_refl _, by decide⟩
  have hsim := xq_sim (l := l) (e := e) (below := below) (Qf := lw_Z below #[Value.ref b] s) (Qx := fun v _ => v = some (xI 1)) Cx (by decide +kernel)
    (fun k v h H locs ls pc hd hk hi hR hS hv => by
      obtain ⟨ty, e1, e2, hq⟩ := xq_narrow hk hi hv
      have hv1 : v = 1 := by injection hq with q; injection q
      subst hv1
      rw [hb] at hd
      refine va_forget (fun q hq => hS.2.2 q hq) ?_
      refine W.widen (k := 600000) (n := 7302250) (Nat.le_of_ble_eq_true rfl) (Nat.le_of_ble_eq_true rfl) ?_
      exact lw_ret hx hb hr hlocks hd)
    (fun v h H locs ls pc hd hk => by rw [show ret = some FieldType.boolean from rfl] at hk; cases hk)
    (fun o h H locs ls pc hd hk => by
      obtain ⟨rt0, e1, e2⟩ := hk
      rw [show ret = some FieldType.boolean from rfl] at e1
      cases e1
      rcases e2 with ⟨n, e2⟩ | ⟨t, e2⟩ <;> cases e2)
    (fun h H locs ls pc hd hk => by rw [show ret = some FieldType.boolean from rfl] at hk; cases hk)
  have hs := lx_xs_rg (xs := xs) hL
  have key := lx_run hsim (by decide) (fun _ => rfl) (show (0 : Int) ≤ lx_xs L xs (-1) from (by unfold lx_xs; rw [if_pos rfl]; omega)) (by unfold lx_xs; rw [if_pos rfl]; omega) hs (fun L h hg k => lx_up hg k)
  have hlv := xq_lv_ent s.heap.size aI [xR 999] 4 (by decide) (fun v hv => by
    rcases List.mem_cons.mp hv with rfl | hv
    · exact trivial
    · exact absurd hv (by simp))
  have e1 : ([xR 999] : List xq_V).map (xq_cv s.heap.size aI) = [Value.ref b] := by
    show [Value.ref (xq_ad s.heap.size aI 999)] = _
    unfold xq_ad
    rw [if_neg (by decide), e9]
  rw [e1] at hlv
  rw [lg_entry_eq]
  exact key s.heap [] _ (lx_Rep hs) va_S.rf (by rw [hml]; exact hlv) (by nofun) (Nat.le_refl _)
