/-! The law, whole. -/
theorem z_sl_le (M : zM) (N : zN) (a t n : Nat) (rs : List (Option Nat)) : z_sl (z_cell M N a (t, n, rs)) ≤ n + rs.length := by
  rcases t with _ | _ | _ | t
  · exact Nat.le_add_right _ _
  · exact Nat.le_add_right _ _
  · exact Nat.le_add_right _ _
  · show (rs.mapIdx _).length ≤ _
    rw [List.length_mapIdx]
    exact Nat.le_add_left _ _
theorem z_us_map (M : zM) (N : zN) : ∀ l : List Nat, z_us (l.map (fun a => z_cell M N a (z_lay.get a))) ≤ l.foldr (fun a t => ((z_lay.get a).2.1 + (z_lay.get a).2.2.length) + t) 0
  | [] => Nat.le_refl _
  | a :: l => by
    rw [List.map_cons, List.foldr_cons, z_us]
    exact Nat.add_le_add (z_sl_le M N a _ _ _) (z_us_map M N l)
theorem z_us_mk (M : zM) (N : zN) : z_us (z_mk M N) ≤ 7302250 := by
  refine Nat.le_trans (z_us_map M N (List.range 56)) ?_
  decide +kernel
theorem whole_start {p : Program} {e : Env} {s : State} {m : MethodId} {below : List Frame} {meth : Method} {c : Code} (l : Launch) {b L : Nat} {xs : Nat → Int32} (hL : L ≤ 3072) (C0 : lw_At p s m meth c b L xs) : W p l e room_1 s m #[Value.ref b] below meth c s.heap [] 0 0 (lw_Z below #[Value.ref b] s) (entryFrame m ([Value.ref b] : List Value).toArray 4) := by
  obtain ⟨n, v, ⟨M', N'⟩, h1, h2⟩ := law_all (xs := xs) hL z_inv0
  have h2' : v = some (.int 1) := h2
  subst h2'
  have h3 := z_run_sim n _ _ _ _ _ _ _ _ _ h1
  rw [z_mk0] at h3
  obtain ⟨k, h4⟩ := st_law ⟨n, h3⟩
  exact z_top l C0 h4 (by rw [z_mk_len]; omega) (z_us_mk M' N')
