/-! The law, whole. -/
theorem z_us_mk (M : zM) (N : zN) : z_us (z_mk M N) ≤ 7302250 := by
  have h : z_us (z_mk M N) = (List.range 56).foldr (fun a t => z_sl (z_cell M N a (z_lay.get a)) + t) 0 := by
    unfold z_mk
    generalize List.range 56 = l
    induction l with
    | nil => rfl
    | cons a t ih => rw [List.map_cons, z_us, ih]; rfl
  rw [h]
  exact Nat.le_of_ble_eq_true rfl
theorem whole_start {p : Program} {e : Env} {s : State} {m : MethodId} {below : List Frame} {meth : Method} {c : Code} (l : Launch) {b L : Nat} {xs : Nat → Int32} (hL : L ≤ 3072) (C0 : lw_At p s m meth c b L xs) : W p l e room_1 s m #[Value.ref b] below meth c s.heap [] 0 0 (lw_Z below #[Value.ref b] s) (entryFrame m ([Value.ref b] : List Value).toArray 4) := by
  obtain ⟨n, v, ⟨M', N'⟩, h1, h2⟩ := law_all (xs := xs) hL z_inv0
  have h2' : v = some (.int 1) := h2
  subst h2'
  have h3 := z_run_sim n _ _ _ _ _ _ _ _ _ h1
  rw [z_mk0] at h3
  obtain ⟨k, h4⟩ := st_law ⟨n, h3⟩
  exact z_top l C0 h4 (by rw [z_mk_len]; omega) (z_us_mk M' N')
